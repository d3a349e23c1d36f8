def wrL (W : Nat → Nat × List Nat) (S : Sch) (R : Rec) : Nat → Nat → Option Nat → Nat × List Nat
  | 0, at9, bf => (at9, cloO S bf ++ [125])
  | c + 1, at9, bf => if at9 < R.1 then
      ((wrL W S R c (if fTy (S.2 (ndFi (R.2 at9)).toNatClampNeg) = 4 then W at9 else (at9 + 1, leafO (R.2 at9) (fTy (S.2 (ndFi (R.2 at9)).toNatClampNeg)))).1 (some (ndFi (R.2 at9)).toNatClampNeg)).1,
        betO S bf (ndFi (R.2 at9)).toNatClampNeg ++ (if fTy (S.2 (ndFi (R.2 at9)).toNatClampNeg) = 4 then W at9 else (at9 + 1, leafO (R.2 at9) (fTy (S.2 (ndFi (R.2 at9)).toNatClampNeg)))).2 ++ (wrL W S R c (if fTy (S.2 (ndFi (R.2 at9)).toNatClampNeg) = 4 then W at9 else (at9 + 1, leafO (R.2 at9) (fTy (S.2 (ndFi (R.2 at9)).toNatClampNeg)))).1 (some (ndFi (R.2 at9)).toNatClampNeg)).2)
    else (at9, [])
def wrG (W : Nat → Nat × List Nat) (S : Sch) (R : Rec) (i : Nat) : Nat × List Nat := ((wrL W S R (chC R.2 (nI i) R.1) (i + 1) none).1, [123] ++ (wrL W S R (chC R.2 (nI i) R.1) (i + 1) none).2)
/-- a node from { to }, D levels deep at most: the node behind it, what is written -/
def wrD (S : Sch) (R : Rec) : Nat → Nat → Nat × List Nat
  | 0, i => (i + 1, [])
  | D + 1, i => wrG (wrD S R D) S R i
theorem wrL_b {W : Nat → Nat × List Nat} {S : Sch} {R : Rec} (hW : ∀ i, i < R.1 → i + 1 ≤ (W i).1 ∧ (W i).1 ≤ R.1) : ∀ c at9 bf, at9 ≤ R.1 → at9 ≤ (wrL W S R c at9 bf).1 ∧ (wrL W S R c at9 bf).1 ≤ R.1 := by
  intro c
  induction c with
  | zero => intro at9 bf h; exact ⟨Nat.le_refl _, h⟩
  | succ c ih =>
    intro at9 bf h
    simp only [wrL]
    by_cases ha : at9 < R.1
    · rw [if_pos ha]
      dsimp only
      by_cases hg : fTy (S.2 (ndFi (R.2 at9)).toNatClampNeg) = 4
      · rw [if_pos hg]
        have h1 := hW at9 ha
        have h2 := ih (W at9).1 (some (ndFi (R.2 at9)).toNatClampNeg) h1.2
        omega
      · rw [if_neg hg]
        have h2 := ih (at9 + 1) (some (ndFi (R.2 at9)).toNatClampNeg) (by omega)
        dsimp only
        omega
    · rw [if_neg ha]
      exact ⟨Nat.le_refl _, h⟩
theorem wrD_b {S : Sch} {R : Rec} : ∀ D i, i < R.1 → i + 1 ≤ (wrD S R D i).1 ∧ (wrD S R D i).1 ≤ R.1 := by
  intro D
  induction D with
  | zero => intro i h; exact ⟨Nat.le_refl _, h⟩
  | succ D ih => intro i h; exact wrL_b ih _ _ _ h
theorem wrL_step {W : Nat → Nat × List Nat} {S : Sch} {R : Rec} {c at9 f : Nat} {bf : Option Nat} (ha : at9 < R.1) (hf : ndFi (R.2 at9) = nI f) (hf2 : f < 2 ^ 31) : wrL W S R (c + 1) at9 bf = ((wrL W S R c (if fTy (S.2 f) = 4 then W at9 else (at9 + 1, leafO (R.2 at9) (fTy (S.2 f)))).1 (some f)).1, betO S bf f ++ (if fTy (S.2 f) = 4 then W at9 else (at9 + 1, leafO (R.2 at9) (fTy (S.2 f)))).2 ++ (wrL W S R c (if fTy (S.2 f) = 4 then W at9 else (at9 + 1, leafO (R.2 at9) (fTy (S.2 f)))).1 (some f)).2) := by
  simp only [wrL]
  rw [if_pos ha, hf, nI_clamp hf2]
/-- fields of nodes: each but the first is of a field of the schema -/
def fiO2 (S : Sch) (R : Rec) : Prop := ∀ i, 0 < i → i < R.1 → ∃ f, f < S.1 ∧ ndFi (R.2 i) = nI f

set_option maxHeartbeats 4000000 in
set_option maxRecDepth 100000 in
theorem c_putMembers_of (l : Launch) (g : z_G) (h : z_H) {wr q nw ow j : Nat} {O : List Nat} {r : Nat} {S : Sch} {fa9 ca : Nat} {adS na : Nat → Nat} {ff : Nat → Option Nat} {cf : Nat → Int32} {nf : Nat → Nat → Int32} {mr : Nat} {R : Rec} {ra : Nat} {ad tx : Nat → Nat} {rf : Nat → Option Nat} {tf : Nat → Nat → Int32} {i d fM lM : Nat} {MW : Nat → Nat × List Nat} (hwr : h wr = some ((9, 0), .inr (10, [.ref q, .ref nw, .ref ow]))) (hO : OutB g h ow j O) (hj : j ≤ 8) (hlen : O.length + ((wrG MW S R i).2).length ≤ 262144) (hS : SchP g h r q S fa9 ca adS na ff cf nf) (hN : NdP g h mr nw S R ra ad tx rf tf) (hfo : fiO2 S R) (hr0 : 100 ≤ r) (hm2 : 12 ≤ mr) (hm : mr < 60) (hi9 : i < R.1) (hd9 : d ≤ 16) (hM : ∀ (h : z_H) (O : List Nat) (i : Nat), SchP g h r q S fa9 ca adS na ff cf nf → NdP g h mr nw S R ra ad tx rf tf → h wr = some ((9, 0), .inr (10, [.ref q, .ref nw, .ref ow])) → OutB g h ow j O → i < R.1 → O.length + (MW i).2.length ≤ 262144 → z_C l y_RecordWriter_putMembers prog_7_method_2_code 9 (Option.some Jvm.ClassFile.FieldType.int) fM lM (jf j (O ++ (MW i).2).length - jf j O.length) (slj j (O ++ (MW i).2).length - slj j O.length) g [.ref wr, .int (nI i), .int (nI (d + 1))] h (fun x h1 => x = some (.int (nI (MW i).1)) ∧ OutB g h1 ow j (O ++ (MW i).2) ∧ z_K (fun y => y = 4 ∨ y = 5) h h1)) (hMb : ∀ i, i < R.1 → i + 1 ≤ (MW i).1 ∧ (MW i).1 ≤ R.1) : z_C l y_RecordWriter_putMembers prog_7_method_2_code 9 (Option.some Jvm.ClassFile.FieldType.int) (fM + 10) (lM + 300) (jf j (O ++ ((wrG MW S R i).2)).length - jf j O.length) (slj j (O ++ ((wrG MW S R i).2)).length - slj j O.length) g [.ref wr, .int (nI i), .int (nI d)] h (fun x h1 => x = some (.int (nI (wrG MW S R i).1)) ∧ OutB g h1 ow j (O ++ ((wrG MW S R i).2)) ∧ z_K (fun y => y = 4 ∨ y = 5) h h1) := by
  refine z_C.of (by decide) (Nat.le_of_ble_eq_true rfl) (fun pg en s m below meth cd A ls hx hb hml hr hts hown hlocks hnm hK hE hA hw hl => ?_)
  have hl : lv_has ls 9 [(0, .ref wr), (1, .int (nI i)), (2, .int (nI d))] := hl
  have lX : (O ++ ((wrG MW S R i).2)).length = O.length + ((wrG MW S R i).2).length := List.length_append
  have mX := jf_mono j (show O.length ≤ (O ++ ((wrG MW S R i).2)).length by omega)
  have hni := (hN.2.2.1 i hi9).2
  have hww := hN.1
  have hs2 : R.1 ≤ 2000 := hN.2.2.2.2.2.1
  have hs8 : S.1 ≤ 128 := hS.2.2.2.2.2.2.2.1
  have hch9 := chC_le R.2 (nI i) R.1
  have kk0 : z_K (fun y => y = 4 ∨ y = 5) h h := z_K.rf
  refine lv_aload_n hx hb d_RecordWriter_putMembers_0 rfl (lv_at hl 0 rfl) ?_
  refine z_get hx hb hts (z_lay i_RecordWriter) hown hK hw hwr rfl 1 (by decide) (z_in k_690 rfl) (fun _ h9 => h9) rfl d_RecordWriter_putMembers_1 ?_
  refine lv_iload_n hx hb d_RecordWriter_putMembers_4 rfl (lv_at hl 1 rfl) ?_
  refine z_callV (n := 1) (As := [.int (nI i)]) (rest := []) ⟨hx, hb, hml, hown, hts⟩ (c_nodeAt (i := i) l g h hN hi9) (z_in k_563 rfl) (z_in k_5 rfl) (z_in k_703 rfl) (z_in k_561 rfl) (z_in k_562 rfl) (by decide +kernel) ⟨by first | exact Nat.le_of_ble_eq_true rfl | (dsimp only; omega) | omega, by first | exact Nat.le_of_ble_eq_true rfl | (dsimp only; omega) | omega⟩ hK hE hw hA rfl hww rfl hl.1 (Nat.le_of_ble_eq_true rfl) d_RecordWriter_putMembers_5 ⟨by first | exact Nat.le_of_ble_eq_true rfl | (dsimp only; omega) | omega, by first | exact Nat.le_of_ble_eq_true rfl | (dsimp only; omega) | omega⟩ rfl (fun r9 h9 H locs hp hw => ?_)
  obtain ⟨r8, h8⟩ := hp
  subst r8
  subst h8
  refine W.eq (g2 := F0 m 8 ls [.ref (ad i)]) rfl ?_
  refine lv_astore_n (lv' := [(3, .ref (ad i)), (0, .ref wr), (1, .int (nI i)), (2, .int (nI d))]) hx hb d_RecordWriter_putMembers_8 rfl hl (by decide) rfl (fun ls hl => ?_)
  refine lv_aload_n hx hb d_RecordWriter_putMembers_9 rfl (lv_at hl 0 rfl) ?_
  refine lv_ifnull hx hb d_RecordWriter_putMembers_10 ?_
  refine lv_iload_n hx hb d_RecordWriter_putMembers_13 rfl (lv_at hl 3 rfl) ?_
  refine lv_bipush (v := 16) hx hb d_RecordWriter_putMembers_14 (by decide) ?_
  refine lv_icmp_le (tgt := 23) hx hb d_RecordWriter_putMembers_16 (by decide) (fun c_16 => ?_) (fun c_16 => ?_)
  · -- 16: True
    have c_16 : d ≤ 16 := (nI_leI (a := d) (b := 16) (by omega) (by omega)).mp c_16
    have lG : (wrG MW S R i).2.length = 1 + (wrL MW S R (chC R.2 (nI i) R.1) (i + 1) none).2.length := by unfold wrG; rw [List.length_append]; rfl
    refine lv_aload_n hx hb d_RecordWriter_putMembers_23 rfl (lv_at hl 1 rfl) ?_
    refine z_get hx hb hts (z_lay i_RecordWriter) hown hK hw hwr rfl 2 (by decide) (z_in k_691 rfl) (fun _ h9 => h9) rfl d_RecordWriter_putMembers_24 ?_
    refine lv_bipush (v := 123) hx hb d_RecordWriter_putMembers_27 (by decide) ?_
    obtain ⟨ob_1, f_1, how_1, -⟩ := id hO
    have ln_1 : (O ++ ([123])).length = O.length + ([123]).length := List.length_append
    simp only [List.length_cons, List.length_nil] at ln_1
    have ma_1 := jf_mono j (show O.length ≤ (O ++ ([123])).length by omega)
    have mb_1 := jf_mono j (show (O ++ ([123])).length ≤ (O ++ ((wrG MW S R i).2)).length by omega)
    refine z_callV (n := 1) (As := [.int 123]) (rest := []) ⟨hx, hb, hml, hown, hts⟩ (c_put2 (O := O) (b := 123) l g h hO ⟨by decide, by decide⟩ (by omega) hj) (z_in k_707 rfl) (z_in k_3 rfl) (z_in k_704 rfl) (z_in k_705 rfl) (z_in k_706 rfl) (by decide +kernel) ⟨by first | exact Nat.le_of_ble_eq_true rfl | (dsimp only; omega) | omega, by first | exact Nat.le_of_ble_eq_true rfl | (dsimp only; omega) | omega⟩ hK hE hw hA rfl how_1 rfl hl.1 (Nat.le_of_ble_eq_true rfl) d_RecordWriter_putMembers_29 ⟨by first | exact Nat.le_of_ble_eq_true rfl | (dsimp only; omega) | omega, by first | exact Nat.le_of_ble_eq_true rfl | (dsimp only; omega) | omega⟩ rfl (fun r9 h9 H locs hp hw => ?_)
    obtain ⟨r8, o8, k8⟩ := hp
    subst r8
    obtain ⟨h1, e7⟩ : ∃ x9, x9 = h9 := ⟨_, rfl⟩
    subst e7
    generalize eO_1 : O ++ ([123]) = O_1 at o8 ln_1 ma_1 mb_1 ⊢
    have oh_1 := o8
    have g1_wr : h1 wr = some ((9, 0), .inr (10, [.ref q, .ref nw, .ref ow])) := k8 _ _ _ hwr (by simp; try omega)
    have g1_ad_i : h1 (ad i) = some ((mr + 1, i), .inr (6, [.int (ndFi (R.2 i)), .int (ndPa (R.2 i)), .long (ndNu (R.2 i)), .ref (tx i), .int (nI (chC R.2 (nI i) R.1)), .int (lfC R.2 (nI i) R.1), .int (nI (rtC S R.2 (nI i) R.1))])) := k8 _ _ _ hni (by simp; try omega)
    have g1_nw : h1 nw = some ((mr, 0), .inr (5, [.ref ra, .int (nI R.1), .int (nI (tbC R.2 R.1))])) := k8 _ _ _ hww (by simp; try omega)
    have kk1 : z_K (fun y => y = 4 ∨ y = 5) h h1 := kk0.tr k8
    refine W.eq (g2 := F0 m 32 ls []) rfl ?_
    refine lv_iload_n hx hb d_RecordWriter_putMembers_32 rfl (lv_at hl 2 rfl) ?_
    refine lv_iconst (v := 1) hx hb d_RecordWriter_putMembers_33 (by decide) ?_
    refine lv_iadd hx hb d_RecordWriter_putMembers_34 ?_
    refine z_topi (y := nI (i + 1)) (nI_add i 1) ?_
    refine lv_istore (lv' := [(4, .int (nI (i + 1))), (3, .ref (ad i)), (0, .ref wr), (1, .int (nI i)), (2, .int (nI d))]) hx hb d_RecordWriter_putMembers_35 hl (by decide) rfl (fun ls hl => ?_)
    refine lv_null hx hb d_RecordWriter_putMembers_37 ?_
    refine lv_astoreN (lv' := [(5, .null), (4, .int (nI (i + 1))), (3, .ref (ad i)), (0, .ref wr), (1, .int (nI i)), (2, .int (nI d))]) hx hb d_RecordWriter_putMembers_38 hl (by decide) rfl (fun ls hl => ?_)
    refine lv_iconst (v := 0) hx hb d_RecordWriter_putMembers_40 (by decide) ?_
    refine lv_istore (lv' := [(6, .int 0), (5, .null), (4, .int (nI (i + 1))), (3, .ref (ad i)), (0, .ref wr), (1, .int (nI i)), (2, .int (nI d))]) hx hb d_RecordWriter_putMembers_41 hl (by decide) rfl (fun ls hl => ?_)
    have loop_43 : ∀ (fuel : Nat) (k1 : Nat) (at1 : Nat) (bf1 : Option Nat) (O1 : List Nat) (hL : z_H) (H : Heap) (locs : List Loc) (ls : Array Slot) (L43_wr : hL wr = some ((9, 0), .inr (10, [.ref q, .ref nw, .ref ow]))) (L43_ad_i : hL (ad i) = some ((mr + 1, i), .inr (6, [.int (ndFi (R.2 i)), .int (ndPa (R.2 i)), .long (ndNu (R.2 i)), .ref (tx i), .int (nI (chC R.2 (nI i) R.1)), .int (lfC R.2 (nI i) R.1), .int (nI (rtC S R.2 (nI i) R.1))]))) (kkL : z_K (fun y => y = 4 ∨ y = 5) h hL) (oh1 : OutB g hL ow j O1) (le1 : k1 ≤ chC R.2 (nI i) R.1 ∧ i + 1 ≤ at1 ∧ at1 ≤ R.1 ∧ O.length ≤ O1.length ∧ (∀ b, bf1 = some b → b < S.1)) (hR1 : O ++ (wrG MW S R i).2 = O1 ++ (wrL MW S R (chC R.2 (nI i) R.1 - k1) at1 bf1).2 ∧ (wrG MW S R i).1 = (wrL MW S R (chC R.2 (nI i) R.1 - k1) at1 bf1).1), (chC R.2 (nI i) R.1 - k1) < fuel → z_S g A s.heap hL H locs → lv_has ls 9 [(0, .ref wr), (1, .int (nI i)), (2, .int (nI d)), (3, .ref (ad i)), (4, .int (nI at1)), (5, va_rf (bf1.map adS)), (6, .int (nI k1))] → W pg l en { frames := fM + 10, cells := jf j (O ++ ((wrG MW S R i).2)).length - jf j O.length, slots := slj j (O ++ ((wrG MW S R i).2)).length - slj j O.length, locals := lM + 300 } s m [.ref wr, .int (nI i), .int (nI d)].toArray below meth cd H locs (jf j O1.length - jf j O.length) (slj j O1.length - slj j O.length) (MQ below (z_Q g A (fun x h1 => x = some (.int (nI (wrG MW S R i).1)) ∧ OutB g h1 ow j (O ++ ((wrG MW S R i).2)) ∧ z_K (fun y => y = 4 ∨ y = 5) h h1)) [.ref wr, .int (nI i), .int (nI d)].toArray s (jf j (O ++ ((wrG MW S R i).2)).length - jf j O.length) (slj j (O ++ ((wrG MW S R i).2)).length - slj j O.length) A) (F0 m 43 ls []) := by
      intro fuel
      induction fuel with
      | zero => intro k1 at1 bf1 O1 hL H locs ls L43_wr L43_ad_i kkL oh1 le1 hR1 hm; exact absurd hm (Nat.not_lt_zero _)
      | succ fuel ih_43 =>
        intro k1 at1 bf1 O1 hL H locs ls L43_wr L43_ad_i kkL oh1 le1 hR1 hm hw hl
        have lR1 : (O ++ ((wrG MW S R i).2)).length = O1.length + (wrL MW S R (chC R.2 (nI i) R.1 - k1) at1 bf1).2.length := by rw [hR1.1, List.length_append]
        have mk1 := jf_mono j (show O.length ≤ O1.length by omega)
        have mk2 := jf_mono j (show O1.length ≤ (O ++ ((wrG MW S R i).2)).length by omega)
        refine lv_iload hx hb d_RecordWriter_putMembers_43 (lv_at hl 6 rfl) ?_
        refine lv_aload_n hx hb d_RecordWriter_putMembers_45 rfl (lv_at hl 3 rfl) ?_
        refine z_getN hx hb hts (z_lay i_Node) hown hK hw L43_ad_i rfl 4 (by decide) hE.nest (z_inN k_114 rfl) (fun _ h9 => h9) rfl d_RecordWriter_putMembers_46 ?_
        refine lv_icmp_ge (tgt := 145) hx hb d_RecordWriter_putMembers_49 (by decide) (fun c_49 => ?_) (fun c_49 => ?_)
        · -- 49: True
          have c_49 : (chC R.2 (nI i) R.1) ≤ k1 := (nI_leI (a := chC R.2 (nI i) R.1) (b := k1) (by omega) (by omega)).mp c_49
          have eC : chC R.2 (nI i) R.1 - k1 = 0 := by omega
          rcases bf1 with _ | b1
          · -- before False
            have hl : lv_has ls 9 [(0, .ref wr), (1, .int (nI i)), (2, .int (nI d)), (3, .ref (ad i)), (4, .int (nI at1)), (5, .null), (6, .int (nI k1))] := hl
            rw [eC] at hR1 lR1
            simp only [wrL] at hR1 lR1
            simp only [List.length_append, List.length_cons, List.length_nil] at lR1
            refine lv_aload_n hx hb d_RecordWriter_putMembers_145 rfl (lv_at hl 0 rfl) ?_
            refine lv_aloadN hx hb d_RecordWriter_putMembers_146 (lv_at hl 5 rfl) ?_
            have ln_2 : (O1 ++ (cloO S none)).length = O1.length + (cloO S none).length := List.length_append
            have ma_2 := jf_mono j (show O1.length ≤ (O1 ++ (cloO S none)).length by omega)
            have mb_2 := jf_mono j (show (O1 ++ (cloO S none)).length ≤ (O ++ ((wrG MW S R i).2)).length by omega)
            refine z_callV (n := 1) (As := [.null]) (rest := []) ⟨hx, hb, hml, hown, hts⟩ (c_putClosing0 (r := r) (S := S) (fa9 := fa9) (ca := ca) (adS := adS) (na := na) (ff := ff) (cf := cf) (nf := nf) (O := O1) l g hL L43_wr oh1 hj (by omega)) (z_in k_718 rfl) (z_in k_19 rfl) (z_in k_715 rfl) (z_in k_717 rfl) (z_in ks_18 rfl) (by decide +kernel) ⟨by first | exact Nat.le_of_ble_eq_true rfl | (dsimp only; omega) | omega, by first | exact Nat.le_of_ble_eq_true rfl | (dsimp only; omega) | omega⟩ hK hE hw hA rfl L43_wr rfl hl.1 (Nat.le_of_ble_eq_true rfl) d_RecordWriter_putMembers_148 ⟨by first | exact Nat.le_of_ble_eq_true rfl | (dsimp only; omega) | omega, by first | exact Nat.le_of_ble_eq_true rfl | (dsimp only; omega) | omega⟩ rfl (fun r9 h9 H locs hp hw => ?_)
            obtain ⟨r8, o8, k8⟩ := hp
            subst r8
            obtain ⟨h2, e7⟩ : ∃ x9, x9 = h9 := ⟨_, rfl⟩
            subst e7
            generalize eO_2 : O1 ++ (cloO S none) = O_2 at o8 ln_2 ma_2 mb_2 ⊢
            have oh_2 := o8
            have g2_wr : h2 wr = some ((9, 0), .inr (10, [.ref q, .ref nw, .ref ow])) := k8 _ _ _ L43_wr (by simp; try omega)
            have g2_ad_i : h2 (ad i) = some ((mr + 1, i), .inr (6, [.int (ndFi (R.2 i)), .int (ndPa (R.2 i)), .long (ndNu (R.2 i)), .ref (tx i), .int (nI (chC R.2 (nI i) R.1)), .int (lfC R.2 (nI i) R.1), .int (nI (rtC S R.2 (nI i) R.1))])) := k8 _ _ _ L43_ad_i (by simp; try omega)
            have kk2 : z_K (fun y => y = 4 ∨ y = 5) h h2 := kkL.tr k8
            refine W.eq (g2 := F0 m 151 ls []) rfl ?_
            refine lv_aload_n hx hb d_RecordWriter_putMembers_151 rfl (lv_at hl 0 rfl) ?_
            refine z_get hx hb hts (z_lay i_RecordWriter) hown hK hw g2_wr rfl 2 (by decide) (z_in k_691 rfl) (fun _ h9 => h9) rfl d_RecordWriter_putMembers_152 ?_
            refine lv_bipush (v := 125) hx hb d_RecordWriter_putMembers_155 (by decide) ?_
            obtain ⟨ob_3, f_3, how_3, -⟩ := id oh_2
            have ln_3 : (O_2 ++ ([125])).length = O_2.length + ([125]).length := List.length_append
            simp only [List.length_cons, List.length_nil] at ln_3
            have ma_3 := jf_mono j (show O_2.length ≤ (O_2 ++ ([125])).length by omega)
            have mb_3 := jf_mono j (show (O_2 ++ ([125])).length ≤ (O ++ ((wrG MW S R i).2)).length by omega)
            refine z_callV (n := 1) (As := [.int 125]) (rest := []) ⟨hx, hb, hml, hown, hts⟩ (c_put2 (O := O_2) (b := 125) l g h2 oh_2 ⟨by decide, by decide⟩ (by omega) hj) (z_in k_707 rfl) (z_in k_3 rfl) (z_in k_704 rfl) (z_in k_705 rfl) (z_in k_706 rfl) (by decide +kernel) ⟨by first | exact Nat.le_of_ble_eq_true rfl | (dsimp only; omega) | omega, by first | exact Nat.le_of_ble_eq_true rfl | (dsimp only; omega) | omega⟩ hK hE hw hA rfl how_3 rfl hl.1 (Nat.le_of_ble_eq_true rfl) d_RecordWriter_putMembers_157 ⟨by first | exact Nat.le_of_ble_eq_true rfl | (dsimp only; omega) | omega, by first | exact Nat.le_of_ble_eq_true rfl | (dsimp only; omega) | omega⟩ rfl (fun r9 h9 H locs hp hw => ?_)
            obtain ⟨r8, o8, k8⟩ := hp
            subst r8
            obtain ⟨h3, e7⟩ : ∃ x9, x9 = h9 := ⟨_, rfl⟩
            subst e7
            generalize eO_3 : O_2 ++ ([125]) = O_3 at o8 ln_3 ma_3 mb_3 ⊢
            have oh_3 := o8
            have g3_wr : h3 wr = some ((9, 0), .inr (10, [.ref q, .ref nw, .ref ow])) := k8 _ _ _ g2_wr (by simp; try omega)
            have g3_ad_i : h3 (ad i) = some ((mr + 1, i), .inr (6, [.int (ndFi (R.2 i)), .int (ndPa (R.2 i)), .long (ndNu (R.2 i)), .ref (tx i), .int (nI (chC R.2 (nI i) R.1)), .int (lfC R.2 (nI i) R.1), .int (nI (rtC S R.2 (nI i) R.1))])) := k8 _ _ _ g2_ad_i (by simp; try omega)
            have kk3 : z_K (fun y => y = 4 ∨ y = 5) h h3 := kk2.tr k8
            refine W.eq (g2 := F0 m 160 ls []) rfl ?_
            refine lv_iload hx hb d_RecordWriter_putMembers_160 (lv_at hl 4 rfl) ?_
            have eF : O_3 = O ++ ((wrG MW S R i).2) := by rw [← eO_3, ← eO_2]; rw [hR1.1]; simp
            have eJ : jf j O_3.length = jf j (O ++ ((wrG MW S R i).2)).length ∧ slj j O_3.length = slj j (O ++ ((wrG MW S R i).2)).length := ⟨congrArg (fun x => jf j x.length) eF, congrArg (fun x => slj j x.length) eF⟩
            exact z_iret hx hb hr hlocks hw ⟨by rw [hR1.2], eF ▸ oh_3, kk3⟩ (by first | exact Nat.le_of_ble_eq_true rfl | (dsimp only; omega) | omega) (by first | exact Nat.le_of_ble_eq_true rfl | (dsimp only; omega) | omega) d_RecordWriter_putMembers_162
          · -- before True
            have hl : lv_has ls 9 [(0, .ref wr), (1, .int (nI i)), (2, .int (nI d)), (3, .ref (ad i)), (4, .int (nI at1)), (5, .ref (adS b1)), (6, .int (nI k1))] := hl
            have hb1 := le1.2.2.2.2 b1 rfl
            rw [eC] at hR1 lR1
            simp only [wrL] at hR1 lR1
            simp only [List.length_append, List.length_cons, List.length_nil] at lR1
            refine lv_aload_n hx hb d_RecordWriter_putMembers_145 rfl (lv_at hl 0 rfl) ?_
            refine lv_aload hx hb d_RecordWriter_putMembers_146 (lv_at hl 5 rfl) ?_
            have ln_4 : (O1 ++ (cloO S (some b1))).length = O1.length + (cloO S (some b1)).length := List.length_append
            have ma_4 := jf_mono j (show O1.length ≤ (O1 ++ (cloO S (some b1))).length by omega)
            have mb_4 := jf_mono j (show (O1 ++ (cloO S (some b1))).length ≤ (O ++ ((wrG MW S R i).2)).length by omega)
            refine z_callV (n := 1) (As := [.ref (adS b1)]) (rest := []) ⟨hx, hb, hml, hown, hts⟩ (c_putClosing1 (bi := b1) (O := O1) l g hL L43_wr oh1 hj (by omega) (hS.k kkL (by omega) (by omega) (by omega)) hr0 hb1) (z_in k_718 rfl) (z_in k_19 rfl) (z_in k_715 rfl) (z_in k_717 rfl) (z_in ks_18 rfl) (by decide +kernel) ⟨by first | exact Nat.le_of_ble_eq_true rfl | (dsimp only; omega) | omega, by first | exact Nat.le_of_ble_eq_true rfl | (dsimp only; omega) | omega⟩ hK hE hw hA rfl L43_wr rfl hl.1 (Nat.le_of_ble_eq_true rfl) d_RecordWriter_putMembers_148 ⟨by first | exact Nat.le_of_ble_eq_true rfl | (dsimp only; omega) | omega, by first | exact Nat.le_of_ble_eq_true rfl | (dsimp only; omega) | omega⟩ rfl (fun r9 h9 H locs hp hw => ?_)
            obtain ⟨r8, o8, k8⟩ := hp
            subst r8
            obtain ⟨h4, e7⟩ : ∃ x9, x9 = h9 := ⟨_, rfl⟩
            subst e7
            generalize eO_4 : O1 ++ (cloO S (some b1)) = O_4 at o8 ln_4 ma_4 mb_4 ⊢
            have oh_4 := o8
            have g4_wr : h4 wr = some ((9, 0), .inr (10, [.ref q, .ref nw, .ref ow])) := k8 _ _ _ L43_wr (by simp; try omega)
            have g4_ad_i : h4 (ad i) = some ((mr + 1, i), .inr (6, [.int (ndFi (R.2 i)), .int (ndPa (R.2 i)), .long (ndNu (R.2 i)), .ref (tx i), .int (nI (chC R.2 (nI i) R.1)), .int (lfC R.2 (nI i) R.1), .int (nI (rtC S R.2 (nI i) R.1))])) := k8 _ _ _ L43_ad_i (by simp; try omega)
            have kk4 : z_K (fun y => y = 4 ∨ y = 5) h h4 := kkL.tr k8
            refine W.eq (g2 := F0 m 151 ls []) rfl ?_
            refine lv_aload_n hx hb d_RecordWriter_putMembers_151 rfl (lv_at hl 0 rfl) ?_
            refine z_get hx hb hts (z_lay i_RecordWriter) hown hK hw g4_wr rfl 2 (by decide) (z_in k_691 rfl) (fun _ h9 => h9) rfl d_RecordWriter_putMembers_152 ?_
            refine lv_bipush (v := 125) hx hb d_RecordWriter_putMembers_155 (by decide) ?_
            obtain ⟨ob_5, f_5, how_5, -⟩ := id oh_4
            have ln_5 : (O_4 ++ ([125])).length = O_4.length + ([125]).length := List.length_append
            simp only [List.length_cons, List.length_nil] at ln_5
            have ma_5 := jf_mono j (show O_4.length ≤ (O_4 ++ ([125])).length by omega)
            have mb_5 := jf_mono j (show (O_4 ++ ([125])).length ≤ (O ++ ((wrG MW S R i).2)).length by omega)
            refine z_callV (n := 1) (As := [.int 125]) (rest := []) ⟨hx, hb, hml, hown, hts⟩ (c_put2 (O := O_4) (b := 125) l g h4 oh_4 ⟨by decide, by decide⟩ (by omega) hj) (z_in k_707 rfl) (z_in k_3 rfl) (z_in k_704 rfl) (z_in k_705 rfl) (z_in k_706 rfl) (by decide +kernel) ⟨by first | exact Nat.le_of_ble_eq_true rfl | (dsimp only; omega) | omega, by first | exact Nat.le_of_ble_eq_true rfl | (dsimp only; omega) | omega⟩ hK hE hw hA rfl how_5 rfl hl.1 (Nat.le_of_ble_eq_true rfl) d_RecordWriter_putMembers_157 ⟨by first | exact Nat.le_of_ble_eq_true rfl | (dsimp only; omega) | omega, by first | exact Nat.le_of_ble_eq_true rfl | (dsimp only; omega) | omega⟩ rfl (fun r9 h9 H locs hp hw => ?_)
            obtain ⟨r8, o8, k8⟩ := hp
            subst r8
            obtain ⟨h5, e7⟩ : ∃ x9, x9 = h9 := ⟨_, rfl⟩
            subst e7
            generalize eO_5 : O_4 ++ ([125]) = O_5 at o8 ln_5 ma_5 mb_5 ⊢
            have oh_5 := o8
            have g5_wr : h5 wr = some ((9, 0), .inr (10, [.ref q, .ref nw, .ref ow])) := k8 _ _ _ g4_wr (by simp; try omega)
            have g5_ad_i : h5 (ad i) = some ((mr + 1, i), .inr (6, [.int (ndFi (R.2 i)), .int (ndPa (R.2 i)), .long (ndNu (R.2 i)), .ref (tx i), .int (nI (chC R.2 (nI i) R.1)), .int (lfC R.2 (nI i) R.1), .int (nI (rtC S R.2 (nI i) R.1))])) := k8 _ _ _ g4_ad_i (by simp; try omega)
            have kk5 : z_K (fun y => y = 4 ∨ y = 5) h h5 := kk4.tr k8
            refine W.eq (g2 := F0 m 160 ls []) rfl ?_
            refine lv_iload hx hb d_RecordWriter_putMembers_160 (lv_at hl 4 rfl) ?_
            have eF : O_5 = O ++ ((wrG MW S R i).2) := by rw [← eO_5, ← eO_4]; rw [hR1.1]; simp
            have eJ : jf j O_5.length = jf j (O ++ ((wrG MW S R i).2)).length ∧ slj j O_5.length = slj j (O ++ ((wrG MW S R i).2)).length := ⟨congrArg (fun x => jf j x.length) eF, congrArg (fun x => slj j x.length) eF⟩
            exact z_iret hx hb hr hlocks hw ⟨by rw [hR1.2], eF ▸ oh_5, kk5⟩ (by first | exact Nat.le_of_ble_eq_true rfl | (dsimp only; omega) | omega) (by first | exact Nat.le_of_ble_eq_true rfl | (dsimp only; omega) | omega) d_RecordWriter_putMembers_162
        · -- 49: False
          have c_49 : ¬ ((chC R.2 (nI i) R.1) ≤ k1) := fun z => c_49 ((nI_leI (a := chC R.2 (nI i) R.1) (b := k1) (by omega) (by omega)).mpr z)
          have eC : chC R.2 (nI i) R.1 - k1 = (chC R.2 (nI i) R.1 - (k1 + 1)) + 1 := by omega
          rw [eC] at hR1 lR1
          have hwn := (hN.k kkL (by omega) (by omega) (by omega)).1
          rcases Nat.lt_or_ge at1 R.1 with hat | hat
          · -- child True
            obtain ⟨f9, hf9, e9⟩ := hfo at1 (by omega) hat
            have eS0 := wrL_step (W := MW) (S := S) (c := chC R.2 (nI i) R.1 - (k1 + 1)) (bf := bf1) hat e9 (by omega)
            have hna9 := ((hN.k kkL (by omega) (by omega) (by omega)).2.2.1 at1 hat).2
            have hqa9 := (hS.k kkL (by omega) (by omega) (by omega)).1
            have hfa8 := ((hS.k kkL (by omega) (by omega) (by omega)).2.2.2.1 f9 hf9).2
            refine lv_aload_n hx hb d_RecordWriter_putMembers_52 rfl (lv_at hl 0 rfl) ?_
            refine z_get hx hb hts (z_lay i_RecordWriter) hown hK hw L43_wr rfl 1 (by decide) (z_in k_690 rfl) (fun _ h9 => h9) rfl d_RecordWriter_putMembers_53 ?_
            refine lv_iload hx hb d_RecordWriter_putMembers_56 (lv_at hl 4 rfl) ?_
            refine z_callV (n := 1) (As := [.int (nI at1)]) (rest := []) ⟨hx, hb, hml, hown, hts⟩ (c_nodeAt (i := at1) l g hL (hN.k kkL (by omega) (by omega) (by omega)) hat) (z_in k_563 rfl) (z_in k_5 rfl) (z_in k_703 rfl) (z_in k_561 rfl) (z_in k_562 rfl) (by decide +kernel) ⟨by first | exact Nat.le_of_ble_eq_true rfl | (dsimp only; omega) | omega, by first | exact Nat.le_of_ble_eq_true rfl | (dsimp only; omega) | omega⟩ hK hE hw hA rfl hwn rfl hl.1 (Nat.le_of_ble_eq_true rfl) d_RecordWriter_putMembers_58 ⟨by first | exact Nat.le_of_ble_eq_true rfl | (dsimp only; omega) | omega, by first | exact Nat.le_of_ble_eq_true rfl | (dsimp only; omega) | omega⟩ rfl (fun r9 h9 H locs hp hw => ?_)
            obtain ⟨r8, h8⟩ := hp
            subst r8
            subst h8
            refine W.eq (g2 := F0 m 61 ls [.ref (ad at1)]) rfl ?_
            refine lv_astore (lv' := [(7, .ref (ad at1)), (0, .ref wr), (1, .int (nI i)), (2, .int (nI d)), (3, .ref (ad i)), (4, .int (nI at1)), (5, va_rf (bf1.map adS)), (6, .int (nI k1))]) hx hb d_RecordWriter_putMembers_61 hl (by decide) rfl (fun ls hl => ?_)
            refine lv_aload hx hb d_RecordWriter_putMembers_63 (lv_at hl 0 rfl) ?_
            refine lv_ifnonnull (tgt := 72) hx hb d_RecordWriter_putMembers_65 (by decide) ?_
            refine lv_aload_n hx hb d_RecordWriter_putMembers_72 rfl (lv_at hl 1 rfl) ?_
            refine z_get hx hb hts (z_lay i_RecordWriter) hown hK hw L43_wr rfl 0 (by decide) (z_in k_689 rfl) (fun _ h9 => h9) rfl d_RecordWriter_putMembers_73 ?_
            refine lv_aload hx hb d_RecordWriter_putMembers_76 (lv_at hl 0 rfl) ?_
            refine z_getN hx hb hts (z_lay i_Node) hown hK hw hna9 rfl 0 (by decide) hE.nest (z_inN k_103 rfl) (fun _ h9 => h9) rfl d_RecordWriter_putMembers_78 ?_
            refine z_topi (y := nI f9) (e9) ?_
            refine z_callV (n := 1) (As := [.int (nI f9)]) (rest := []) ⟨hx, hb, hml, hown, hts⟩ (c_Schema_fieldAt (i := f9) l g hL (hS.k kkL (by omega) (by omega) (by omega)) hf9) (z_in k_356 rfl) (z_in k_4 rfl) (z_in k_710 rfl) (z_in k_354 rfl) (z_in k_355 rfl) (by decide +kernel) ⟨by first | exact Nat.le_of_ble_eq_true rfl | (dsimp only; omega) | omega, by first | exact Nat.le_of_ble_eq_true rfl | (dsimp only; omega) | omega⟩ hK hE hw hA rfl hqa9 rfl hl.1 (Nat.le_of_ble_eq_true rfl) d_RecordWriter_putMembers_81 ⟨by first | exact Nat.le_of_ble_eq_true rfl | (dsimp only; omega) | omega, by first | exact Nat.le_of_ble_eq_true rfl | (dsimp only; omega) | omega⟩ rfl (fun r9 h9 H locs hp hw => ?_)
            obtain ⟨r8, h8⟩ := hp
            subst r8
            subst h8
            refine W.eq (g2 := F0 m 84 ls [.ref (adS f9)]) rfl ?_
            refine lv_astore (lv' := [(8, .ref (adS f9)), (7, .ref (ad at1)), (0, .ref wr), (1, .int (nI i)), (2, .int (nI d)), (3, .ref (ad i)), (4, .int (nI at1)), (5, va_rf (bf1.map adS)), (6, .int (nI k1))]) hx hb d_RecordWriter_putMembers_84 hl (by decide) rfl (fun ls hl => ?_)
            refine lv_aload hx hb d_RecordWriter_putMembers_86 (lv_at hl 0 rfl) ?_
            refine lv_ifnonnull (tgt := 94) hx hb d_RecordWriter_putMembers_88 (by decide) ?_
            rcases bf1 with _ | b1
            · -- before False
              have hl : lv_has ls 9 [(8, .ref (adS f9)), (7, .ref (ad at1)), (0, .ref wr), (1, .int (nI i)), (2, .int (nI d)), (3, .ref (ad i)), (4, .int (nI at1)), (5, .null), (6, .int (nI k1))] := hl
              have lS0 := congrArg (fun x => x.2.length) eS0
              simp only [List.length_append] at lS0
              rw [eS0] at hR1
              refine lv_aload_n hx hb d_RecordWriter_putMembers_94 rfl (lv_at hl 2 rfl) ?_
              refine lv_aloadN hx hb d_RecordWriter_putMembers_95 (lv_at hl 7 rfl) ?_
              refine lv_aload hx hb d_RecordWriter_putMembers_97 (lv_at hl 0 rfl) ?_
              have ln_6 : (O1 ++ (betO S none f9)).length = O1.length + (betO S none f9).length := List.length_append
              have ma_6 := jf_mono j (show O1.length ≤ (O1 ++ (betO S none f9)).length by omega)
              have mb_6 := jf_mono j (show (O1 ++ (betO S none f9)).length ≤ (O ++ ((wrG MW S R i).2)).length by omega)
              refine z_callV (n := 2) (As := [.null, .ref (adS f9)]) (rest := []) ⟨hx, hb, hml, hown, hts⟩ (c_putBetween0 (bi := f9) (fi := f9) (O := O1) l g hL L43_wr oh1 hj (by omega) (hS.k kkL (by omega) (by omega) (by omega)) hr0 hf9 hf9) (z_in k_714 rfl) (z_in k_19 rfl) (z_in k_711 rfl) (z_in k_713 rfl) (z_in ks_17 rfl) (by decide +kernel) ⟨by first | exact Nat.le_of_ble_eq_true rfl | (dsimp only; omega) | omega, by first | exact Nat.le_of_ble_eq_true rfl | (dsimp only; omega) | omega⟩ hK hE hw hA rfl L43_wr rfl hl.1 (Nat.le_of_ble_eq_true rfl) d_RecordWriter_putMembers_99 ⟨by first | exact Nat.le_of_ble_eq_true rfl | (dsimp only; omega) | omega, by first | exact Nat.le_of_ble_eq_true rfl | (dsimp only; omega) | omega⟩ rfl (fun r9 h9 H locs hp hw => ?_)
              obtain ⟨r8, o8, k8⟩ := hp
              subst r8
              obtain ⟨h6, e7⟩ : ∃ x9, x9 = h9 := ⟨_, rfl⟩
              subst e7
              generalize eO_6 : O1 ++ (betO S none f9) = O_6 at o8 ln_6 ma_6 mb_6 ⊢
              have oh_6 := o8
              have g6_wr : h6 wr = some ((9, 0), .inr (10, [.ref q, .ref nw, .ref ow])) := k8 _ _ _ L43_wr (by simp; try omega)
              have g6_ad_i : h6 (ad i) = some ((mr + 1, i), .inr (6, [.int (ndFi (R.2 i)), .int (ndPa (R.2 i)), .long (ndNu (R.2 i)), .ref (tx i), .int (nI (chC R.2 (nI i) R.1)), .int (lfC R.2 (nI i) R.1), .int (nI (rtC S R.2 (nI i) R.1))])) := k8 _ _ _ L43_ad_i (by simp; try omega)
              have g6_nw : h6 nw = some ((mr, 0), .inr (5, [.ref ra, .int (nI R.1), .int (nI (tbC R.2 R.1))])) := k8 _ _ _ hwn (by simp; try omega)
              have g6_ad_at1 : h6 (ad at1) = some ((mr + 1, at1), .inr (6, [.int (ndFi (R.2 at1)), .int (ndPa (R.2 at1)), .long (ndNu (R.2 at1)), .ref (tx at1), .int (nI (chC R.2 (nI at1) R.1)), .int (lfC R.2 (nI at1) R.1), .int (nI (rtC S R.2 (nI at1) R.1))])) := k8 _ _ _ hna9 (by simp; try omega)
              have g6_q : h6 q = some ((r, 0), .inr (3, [.ref fa9, .ref ca, .int (nI S.1), .int (nI (cc S)), .int (nI (rq S (-1)))])) := k8 _ _ _ hqa9 (by simp; try omega)
              have g6_adS_f9 : h6 (adS f9) = some ((r + 1, f9), .inr (4, [.int (nI f9), .int (fKi (S.2 f9)), .int (fTy (S.2 f9)), .int (fGr (S.2 f9)), .ref (na f9), .int (fCo (S.2 f9)), .int (fRe (S.2 f9)), .int (fDe (S.2 f9)), .int (nI (rq S (nI f9)))])) := k8 _ _ _ hfa8 (by simp; try omega)
              have kk6 : z_K (fun y => y = 4 ∨ y = 5) h h6 := kkL.tr k8
              refine W.eq (g2 := F0 m 102 ls []) rfl ?_
              refine lv_aload hx hb d_RecordWriter_putMembers_102 (lv_at hl 0 rfl) ?_
              refine z_getN hx hb hts (z_lay i_Field) hown hK hw g6_adS_f9 rfl 2 (by decide) hE.nest (z_inN k_410 rfl) (fun _ h9 => h9) rfl d_RecordWriter_putMembers_104 ?_
              refine lv_iconst (v := 4) hx hb d_RecordWriter_putMembers_107 (by decide) ?_
              refine lv_icmp_ne (tgt := 123) hx hb d_RecordWriter_putMembers_108 (by decide) (fun c_108 => ?_) (fun c_108 => ?_)
              · -- 108: True
                have ey : (if fTy (S.2 f9) = 4 then MW at1 else (at1 + 1, leafO (R.2 at1) (fTy (S.2 f9)))) = (at1 + 1, leafO (R.2 at1) (fTy (S.2 f9))) := if_neg c_108
                rw [ey] at lS0 hR1 eS0
                dsimp only at lS0 hR1 eS0
                have eS := eS0
                refine lv_aload_n hx hb d_RecordWriter_putMembers_123 rfl (lv_at hl 2 rfl) ?_
                refine lv_iload hx hb d_RecordWriter_putMembers_124 (lv_at hl 6 rfl) ?_
                refine lv_aload hx hb d_RecordWriter_putMembers_126 (lv_at hl 1 rfl) ?_
                refine lv_aload hx hb d_RecordWriter_putMembers_128 (lv_at hl 0 rfl) ?_
                have ln_7 : (O_6 ++ (leafO (R.2 at1) (fTy (S.2 f9)))).length = O_6.length + (leafO (R.2 at1) (fTy (S.2 f9))).length := List.length_append
                have ma_7 := jf_mono j (show O_6.length ≤ (O_6 ++ (leafO (R.2 at1) (fTy (S.2 f9)))).length by omega)
                have mb_7 := jf_mono j (show (O_6 ++ (leafO (R.2 at1) (fTy (S.2 f9)))).length ≤ (O ++ ((wrG MW S R i).2)).length by omega)
                refine z_callV (n := 3) (As := [.int (nI at1), .ref (ad at1), .ref (adS f9)]) (rest := []) ⟨hx, hb, hml, hown, hts⟩ (c_putLeaf (i := at1) (fi := f9) (O := O_6) l g h6 g6_wr oh_6 hj (by omega) (hS.k kk6 (by omega) (by omega) (by omega)) (hN.k kk6 (by omega) (by omega) (by omega)) hr0 hm2 hat hf9) (z_in k_727 rfl) (z_in k_19 rfl) (z_in k_724 rfl) (z_in k_726 rfl) (z_in ks_20 rfl) (by decide +kernel) ⟨by first | exact Nat.le_of_ble_eq_true rfl | (dsimp only; omega) | omega, by first | exact Nat.le_of_ble_eq_true rfl | (dsimp only; omega) | omega⟩ hK hE hw hA rfl g6_wr rfl hl.1 (Nat.le_of_ble_eq_true rfl) d_RecordWriter_putMembers_130 ⟨by first | exact Nat.le_of_ble_eq_true rfl | (dsimp only; omega) | omega, by first | exact Nat.le_of_ble_eq_true rfl | (dsimp only; omega) | omega⟩ rfl (fun r9 h9 H locs hp hw => ?_)
                obtain ⟨r8, o8, k8⟩ := hp
                subst r8
                obtain ⟨h7, e7⟩ : ∃ x9, x9 = h9 := ⟨_, rfl⟩
                subst e7
                generalize eO_7 : O_6 ++ (leafO (R.2 at1) (fTy (S.2 f9))) = O_7 at o8 ln_7 ma_7 mb_7 ⊢
                have oh_7 := o8
                have g7_wr : h7 wr = some ((9, 0), .inr (10, [.ref q, .ref nw, .ref ow])) := k8 _ _ _ g6_wr (by simp; try omega)
                have g7_ad_i : h7 (ad i) = some ((mr + 1, i), .inr (6, [.int (ndFi (R.2 i)), .int (ndPa (R.2 i)), .long (ndNu (R.2 i)), .ref (tx i), .int (nI (chC R.2 (nI i) R.1)), .int (lfC R.2 (nI i) R.1), .int (nI (rtC S R.2 (nI i) R.1))])) := k8 _ _ _ g6_ad_i (by simp; try omega)
                have g7_nw : h7 nw = some ((mr, 0), .inr (5, [.ref ra, .int (nI R.1), .int (nI (tbC R.2 R.1))])) := k8 _ _ _ g6_nw (by simp; try omega)
                have g7_ad_at1 : h7 (ad at1) = some ((mr + 1, at1), .inr (6, [.int (ndFi (R.2 at1)), .int (ndPa (R.2 at1)), .long (ndNu (R.2 at1)), .ref (tx at1), .int (nI (chC R.2 (nI at1) R.1)), .int (lfC R.2 (nI at1) R.1), .int (nI (rtC S R.2 (nI at1) R.1))])) := k8 _ _ _ g6_ad_at1 (by simp; try omega)
                have g7_q : h7 q = some ((r, 0), .inr (3, [.ref fa9, .ref ca, .int (nI S.1), .int (nI (cc S)), .int (nI (rq S (-1)))])) := k8 _ _ _ g6_q (by simp; try omega)
                have g7_adS_f9 : h7 (adS f9) = some ((r + 1, f9), .inr (4, [.int (nI f9), .int (fKi (S.2 f9)), .int (fTy (S.2 f9)), .int (fGr (S.2 f9)), .ref (na f9), .int (fCo (S.2 f9)), .int (fRe (S.2 f9)), .int (fDe (S.2 f9)), .int (nI (rq S (nI f9)))])) := k8 _ _ _ g6_adS_f9 (by simp; try omega)
                have kk7 : z_K (fun y => y = 4 ∨ y = 5) h h7 := kk6.tr k8
                refine W.eq (g2 := F0 m 133 ls [.int (nI (at1 + 1))]) rfl ?_
                refine lv_istore (lv' := [(4, .int (nI (at1 + 1))), (8, .ref (adS f9)), (7, .ref (ad at1)), (0, .ref wr), (1, .int (nI i)), (2, .int (nI d)), (3, .ref (ad i)), (5, .null), (6, .int (nI k1))]) hx hb d_RecordWriter_putMembers_133 hl (by decide) rfl (fun ls hl => ?_)
                refine lv_aload hx hb d_RecordWriter_putMembers_135 (lv_at hl 1 rfl) ?_
                refine lv_astore (lv' := [(5, .ref (adS f9)), (4, .int (nI (at1 + 1))), (8, .ref (adS f9)), (7, .ref (ad at1)), (0, .ref wr), (1, .int (nI i)), (2, .int (nI d)), (3, .ref (ad i)), (6, .int (nI k1))]) hx hb d_RecordWriter_putMembers_137 hl (by decide) rfl (fun ls hl => ?_)
                refine lv_iinc (v := nI (k1 + 1)) (lv' := [(6, .int (nI (k1 + 1))), (5, .ref (adS f9)), (4, .int (nI (at1 + 1))), (8, .ref (adS f9)), (7, .ref (ad at1)), (0, .ref wr), (1, .int (nI i)), (2, .int (nI d)), (3, .ref (ad i))]) hx hb d_RecordWriter_putMembers_139 hl (k := 8) rfl (nI_1 k1) (by decide) rfl (fun ls hl => ?_)
                refine lv_goto (tgt := 43) hx hb d_RecordWriter_putMembers_142 (by decide) ?_
                refine W.widen (k := jf j O_7.length - jf j O.length) (n := slj j O_7.length - slj j O.length) (by first | exact Nat.le_of_ble_eq_true rfl | (dsimp only; omega) | omega) (by first | exact Nat.le_of_ble_eq_true rfl | (dsimp only; omega) | omega) ?_
                refine ih_43 (k1 + 1) (at1 + 1) (some f9) O_7 h7 _ _ _ g7_wr g7_ad_i kk7 oh_7 (⟨by omega, by omega, by omega, by omega, fun b z => by cases z; exact hf9⟩) (⟨by rw [hR1.1, ← eO_7, ← eO_6]; simp, by rw [hR1.2]⟩) ?_ hw (lv_sub hl [5, 6, 7, 8, 2, 1, 0] rfl)
                omega
              · -- 108: False
                have ey : (if fTy (S.2 f9) = 4 then MW at1 else (at1 + 1, leafO (R.2 at1) (fTy (S.2 f9)))) = MW at1 := if_pos c_108
                rw [ey] at lS0 hR1 eS0
                dsimp only at lS0 hR1 eS0
                have eS := eS0
                have hmb := hMb at1 hat
                refine lv_aload_n hx hb d_RecordWriter_putMembers_111 rfl (lv_at hl 2 rfl) ?_
                refine lv_iload hx hb d_RecordWriter_putMembers_112 (lv_at hl 6 rfl) ?_
                refine lv_iload_n hx hb d_RecordWriter_putMembers_114 rfl (lv_at hl 4 rfl) ?_
                refine lv_iconst (v := 1) hx hb d_RecordWriter_putMembers_115 (by decide) ?_
                refine lv_iadd hx hb d_RecordWriter_putMembers_116 ?_
                refine z_topi (y := nI (d + 1)) (nI_add d 1) ?_
                have ln_8 : (O_6 ++ ((MW at1).2)).length = O_6.length + ((MW at1).2).length := List.length_append
                have ma_8 := jf_mono j (show O_6.length ≤ (O_6 ++ ((MW at1).2)).length by omega)
                have mb_8 := jf_mono j (show (O_6 ++ ((MW at1).2)).length ≤ (O ++ ((wrG MW S R i).2)).length by omega)
                refine z_callV (n := 2) (As := [.int (nI at1), .int (nI (d + 1))]) (rest := []) ⟨hx, hb, hml, hown, hts⟩ (hM h6 O_6 at1 (hS.k kk6 (by omega) (by omega) (by omega)) (hN.k kk6 (by omega) (by omega) (by omega)) g6_wr oh_6 hat (by omega)) (z_in k_702 rfl) (z_in k_19 rfl) (z_in k_723 rfl) (z_in k_700 rfl) (z_in k_701 rfl) (by decide +kernel) ⟨by first | exact Nat.le_of_ble_eq_true rfl | (dsimp only; omega) | omega, by first | exact Nat.le_of_ble_eq_true rfl | (dsimp only; omega) | omega⟩ hK hE hw hA rfl g6_wr rfl hl.1 (Nat.le_of_ble_eq_true rfl) d_RecordWriter_putMembers_117 ⟨by first | exact Nat.le_of_ble_eq_true rfl | (dsimp only; omega) | omega, by first | exact Nat.le_of_ble_eq_true rfl | (dsimp only; omega) | omega⟩ rfl (fun r9 h9 H locs hp hw => ?_)
                obtain ⟨r8, o8, k8⟩ := hp
                subst r8
                obtain ⟨h8, e7⟩ : ∃ x9, x9 = h9 := ⟨_, rfl⟩
                subst e7
                generalize eO_8 : O_6 ++ ((MW at1).2) = O_8 at o8 ln_8 ma_8 mb_8 ⊢
                have oh_8 := o8
                have g8_wr : h8 wr = some ((9, 0), .inr (10, [.ref q, .ref nw, .ref ow])) := k8 _ _ _ g6_wr (by simp; try omega)
                have g8_ad_i : h8 (ad i) = some ((mr + 1, i), .inr (6, [.int (ndFi (R.2 i)), .int (ndPa (R.2 i)), .long (ndNu (R.2 i)), .ref (tx i), .int (nI (chC R.2 (nI i) R.1)), .int (lfC R.2 (nI i) R.1), .int (nI (rtC S R.2 (nI i) R.1))])) := k8 _ _ _ g6_ad_i (by simp; try omega)
                have g8_nw : h8 nw = some ((mr, 0), .inr (5, [.ref ra, .int (nI R.1), .int (nI (tbC R.2 R.1))])) := k8 _ _ _ g6_nw (by simp; try omega)
                have g8_ad_at1 : h8 (ad at1) = some ((mr + 1, at1), .inr (6, [.int (ndFi (R.2 at1)), .int (ndPa (R.2 at1)), .long (ndNu (R.2 at1)), .ref (tx at1), .int (nI (chC R.2 (nI at1) R.1)), .int (lfC R.2 (nI at1) R.1), .int (nI (rtC S R.2 (nI at1) R.1))])) := k8 _ _ _ g6_ad_at1 (by simp; try omega)
                have g8_q : h8 q = some ((r, 0), .inr (3, [.ref fa9, .ref ca, .int (nI S.1), .int (nI (cc S)), .int (nI (rq S (-1)))])) := k8 _ _ _ g6_q (by simp; try omega)
                have g8_adS_f9 : h8 (adS f9) = some ((r + 1, f9), .inr (4, [.int (nI f9), .int (fKi (S.2 f9)), .int (fTy (S.2 f9)), .int (fGr (S.2 f9)), .ref (na f9), .int (fCo (S.2 f9)), .int (fRe (S.2 f9)), .int (fDe (S.2 f9)), .int (nI (rq S (nI f9)))])) := k8 _ _ _ g6_adS_f9 (by simp; try omega)
                have kk8 : z_K (fun y => y = 4 ∨ y = 5) h h8 := kk6.tr k8
                refine W.eq (g2 := F0 m 120 ls [.int (nI ((MW at1).1))]) rfl ?_
                refine lv_goto (tgt := 133) hx hb d_RecordWriter_putMembers_120 (by decide) ?_
                refine lv_istore (lv' := [(4, .int (nI ((MW at1).1))), (8, .ref (adS f9)), (7, .ref (ad at1)), (0, .ref wr), (1, .int (nI i)), (2, .int (nI d)), (3, .ref (ad i)), (5, .null), (6, .int (nI k1))]) hx hb d_RecordWriter_putMembers_133 hl (by decide) rfl (fun ls hl => ?_)
                refine lv_aload hx hb d_RecordWriter_putMembers_135 (lv_at hl 1 rfl) ?_
                refine lv_astore (lv' := [(5, .ref (adS f9)), (4, .int (nI ((MW at1).1))), (8, .ref (adS f9)), (7, .ref (ad at1)), (0, .ref wr), (1, .int (nI i)), (2, .int (nI d)), (3, .ref (ad i)), (6, .int (nI k1))]) hx hb d_RecordWriter_putMembers_137 hl (by decide) rfl (fun ls hl => ?_)
                refine lv_iinc (v := nI (k1 + 1)) (lv' := [(6, .int (nI (k1 + 1))), (5, .ref (adS f9)), (4, .int (nI ((MW at1).1))), (8, .ref (adS f9)), (7, .ref (ad at1)), (0, .ref wr), (1, .int (nI i)), (2, .int (nI d)), (3, .ref (ad i))]) hx hb d_RecordWriter_putMembers_139 hl (k := 8) rfl (nI_1 k1) (by decide) rfl (fun ls hl => ?_)
                refine lv_goto (tgt := 43) hx hb d_RecordWriter_putMembers_142 (by decide) ?_
                refine W.widen (k := jf j O_8.length - jf j O.length) (n := slj j O_8.length - slj j O.length) (by first | exact Nat.le_of_ble_eq_true rfl | (dsimp only; omega) | omega) (by first | exact Nat.le_of_ble_eq_true rfl | (dsimp only; omega) | omega) ?_
                refine ih_43 (k1 + 1) ((MW at1).1) (some f9) O_8 h8 _ _ _ g8_wr g8_ad_i kk8 oh_8 (⟨by omega, by omega, by omega, by omega, fun b z => by cases z; exact hf9⟩) (⟨by rw [hR1.1, ← eO_8, ← eO_6]; simp, by rw [hR1.2]⟩) ?_ hw (lv_sub hl [5, 6, 7, 8, 2, 1, 0] rfl)
                omega
            · -- before True
              have hl : lv_has ls 9 [(8, .ref (adS f9)), (7, .ref (ad at1)), (0, .ref wr), (1, .int (nI i)), (2, .int (nI d)), (3, .ref (ad i)), (4, .int (nI at1)), (5, .ref (adS b1)), (6, .int (nI k1))] := hl
              have hb1 := le1.2.2.2.2 b1 rfl
              have lS0 := congrArg (fun x => x.2.length) eS0
              simp only [List.length_append] at lS0
              rw [eS0] at hR1
              refine lv_aload_n hx hb d_RecordWriter_putMembers_94 rfl (lv_at hl 2 rfl) ?_
              refine lv_aload hx hb d_RecordWriter_putMembers_95 (lv_at hl 7 rfl) ?_
              refine lv_aload hx hb d_RecordWriter_putMembers_97 (lv_at hl 0 rfl) ?_
              have ln_9 : (O1 ++ (betO S (some b1) f9)).length = O1.length + (betO S (some b1) f9).length := List.length_append
              have ma_9 := jf_mono j (show O1.length ≤ (O1 ++ (betO S (some b1) f9)).length by omega)
              have mb_9 := jf_mono j (show (O1 ++ (betO S (some b1) f9)).length ≤ (O ++ ((wrG MW S R i).2)).length by omega)
              refine z_callV (n := 2) (As := [.ref (adS b1), .ref (adS f9)]) (rest := []) ⟨hx, hb, hml, hown, hts⟩ (c_putBetween1 (bi := b1) (fi := f9) (O := O1) l g hL L43_wr oh1 hj (by omega) (hS.k kkL (by omega) (by omega) (by omega)) hr0 hb1 hf9) (z_in k_714 rfl) (z_in k_19 rfl) (z_in k_711 rfl) (z_in k_713 rfl) (z_in ks_17 rfl) (by decide +kernel) ⟨by first | exact Nat.le_of_ble_eq_true rfl | (dsimp only; omega) | omega, by first | exact Nat.le_of_ble_eq_true rfl | (dsimp only; omega) | omega⟩ hK hE hw hA rfl L43_wr rfl hl.1 (Nat.le_of_ble_eq_true rfl) d_RecordWriter_putMembers_99 ⟨by first | exact Nat.le_of_ble_eq_true rfl | (dsimp only; omega) | omega, by first | exact Nat.le_of_ble_eq_true rfl | (dsimp only; omega) | omega⟩ rfl (fun r9 h9 H locs hp hw => ?_)
              obtain ⟨r8, o8, k8⟩ := hp
              subst r8
              obtain ⟨h9, e7⟩ : ∃ x9, x9 = h9 := ⟨_, rfl⟩
              subst e7
              generalize eO_9 : O1 ++ (betO S (some b1) f9) = O_9 at o8 ln_9 ma_9 mb_9 ⊢
              have oh_9 := o8
              have g9_wr : h9 wr = some ((9, 0), .inr (10, [.ref q, .ref nw, .ref ow])) := k8 _ _ _ L43_wr (by simp; try omega)
              have g9_ad_i : h9 (ad i) = some ((mr + 1, i), .inr (6, [.int (ndFi (R.2 i)), .int (ndPa (R.2 i)), .long (ndNu (R.2 i)), .ref (tx i), .int (nI (chC R.2 (nI i) R.1)), .int (lfC R.2 (nI i) R.1), .int (nI (rtC S R.2 (nI i) R.1))])) := k8 _ _ _ L43_ad_i (by simp; try omega)
              have g9_nw : h9 nw = some ((mr, 0), .inr (5, [.ref ra, .int (nI R.1), .int (nI (tbC R.2 R.1))])) := k8 _ _ _ hwn (by simp; try omega)
              have g9_ad_at1 : h9 (ad at1) = some ((mr + 1, at1), .inr (6, [.int (ndFi (R.2 at1)), .int (ndPa (R.2 at1)), .long (ndNu (R.2 at1)), .ref (tx at1), .int (nI (chC R.2 (nI at1) R.1)), .int (lfC R.2 (nI at1) R.1), .int (nI (rtC S R.2 (nI at1) R.1))])) := k8 _ _ _ hna9 (by simp; try omega)
              have g9_q : h9 q = some ((r, 0), .inr (3, [.ref fa9, .ref ca, .int (nI S.1), .int (nI (cc S)), .int (nI (rq S (-1)))])) := k8 _ _ _ hqa9 (by simp; try omega)
              have g9_adS_f9 : h9 (adS f9) = some ((r + 1, f9), .inr (4, [.int (nI f9), .int (fKi (S.2 f9)), .int (fTy (S.2 f9)), .int (fGr (S.2 f9)), .ref (na f9), .int (fCo (S.2 f9)), .int (fRe (S.2 f9)), .int (fDe (S.2 f9)), .int (nI (rq S (nI f9)))])) := k8 _ _ _ hfa8 (by simp; try omega)
              have kk9 : z_K (fun y => y = 4 ∨ y = 5) h h9 := kkL.tr k8
              refine W.eq (g2 := F0 m 102 ls []) rfl ?_
              refine lv_aload hx hb d_RecordWriter_putMembers_102 (lv_at hl 0 rfl) ?_
              refine z_getN hx hb hts (z_lay i_Field) hown hK hw g9_adS_f9 rfl 2 (by decide) hE.nest (z_inN k_410 rfl) (fun _ h9 => h9) rfl d_RecordWriter_putMembers_104 ?_
              refine lv_iconst (v := 4) hx hb d_RecordWriter_putMembers_107 (by decide) ?_
              refine lv_icmp_ne (tgt := 123) hx hb d_RecordWriter_putMembers_108 (by decide) (fun c_108 => ?_) (fun c_108 => ?_)
              · -- 108: True
                have ey : (if fTy (S.2 f9) = 4 then MW at1 else (at1 + 1, leafO (R.2 at1) (fTy (S.2 f9)))) = (at1 + 1, leafO (R.2 at1) (fTy (S.2 f9))) := if_neg c_108
                rw [ey] at lS0 hR1 eS0
                dsimp only at lS0 hR1 eS0
                have eS := eS0
                refine lv_aload_n hx hb d_RecordWriter_putMembers_123 rfl (lv_at hl 2 rfl) ?_
                refine lv_iload hx hb d_RecordWriter_putMembers_124 (lv_at hl 6 rfl) ?_
                refine lv_aload hx hb d_RecordWriter_putMembers_126 (lv_at hl 1 rfl) ?_
                refine lv_aload hx hb d_RecordWriter_putMembers_128 (lv_at hl 0 rfl) ?_
                have ln_10 : (O_9 ++ (leafO (R.2 at1) (fTy (S.2 f9)))).length = O_9.length + (leafO (R.2 at1) (fTy (S.2 f9))).length := List.length_append
                have ma_10 := jf_mono j (show O_9.length ≤ (O_9 ++ (leafO (R.2 at1) (fTy (S.2 f9)))).length by omega)
                have mb_10 := jf_mono j (show (O_9 ++ (leafO (R.2 at1) (fTy (S.2 f9)))).length ≤ (O ++ ((wrG MW S R i).2)).length by omega)
                refine z_callV (n := 3) (As := [.int (nI at1), .ref (ad at1), .ref (adS f9)]) (rest := []) ⟨hx, hb, hml, hown, hts⟩ (c_putLeaf (i := at1) (fi := f9) (O := O_9) l g h9 g9_wr oh_9 hj (by omega) (hS.k kk9 (by omega) (by omega) (by omega)) (hN.k kk9 (by omega) (by omega) (by omega)) hr0 hm2 hat hf9) (z_in k_727 rfl) (z_in k_19 rfl) (z_in k_724 rfl) (z_in k_726 rfl) (z_in ks_20 rfl) (by decide +kernel) ⟨by first | exact Nat.le_of_ble_eq_true rfl | (dsimp only; omega) | omega, by first | exact Nat.le_of_ble_eq_true rfl | (dsimp only; omega) | omega⟩ hK hE hw hA rfl g9_wr rfl hl.1 (Nat.le_of_ble_eq_true rfl) d_RecordWriter_putMembers_130 ⟨by first | exact Nat.le_of_ble_eq_true rfl | (dsimp only; omega) | omega, by first | exact Nat.le_of_ble_eq_true rfl | (dsimp only; omega) | omega⟩ rfl (fun r9 h9 H locs hp hw => ?_)
                obtain ⟨r8, o8, k8⟩ := hp
                subst r8
                obtain ⟨h10, e7⟩ : ∃ x9, x9 = h9 := ⟨_, rfl⟩
                subst e7
                generalize eO_10 : O_9 ++ (leafO (R.2 at1) (fTy (S.2 f9))) = O_10 at o8 ln_10 ma_10 mb_10 ⊢
                have oh_10 := o8
                have g10_wr : h10 wr = some ((9, 0), .inr (10, [.ref q, .ref nw, .ref ow])) := k8 _ _ _ g9_wr (by simp; try omega)
                have g10_ad_i : h10 (ad i) = some ((mr + 1, i), .inr (6, [.int (ndFi (R.2 i)), .int (ndPa (R.2 i)), .long (ndNu (R.2 i)), .ref (tx i), .int (nI (chC R.2 (nI i) R.1)), .int (lfC R.2 (nI i) R.1), .int (nI (rtC S R.2 (nI i) R.1))])) := k8 _ _ _ g9_ad_i (by simp; try omega)
                have g10_nw : h10 nw = some ((mr, 0), .inr (5, [.ref ra, .int (nI R.1), .int (nI (tbC R.2 R.1))])) := k8 _ _ _ g9_nw (by simp; try omega)
                have g10_ad_at1 : h10 (ad at1) = some ((mr + 1, at1), .inr (6, [.int (ndFi (R.2 at1)), .int (ndPa (R.2 at1)), .long (ndNu (R.2 at1)), .ref (tx at1), .int (nI (chC R.2 (nI at1) R.1)), .int (lfC R.2 (nI at1) R.1), .int (nI (rtC S R.2 (nI at1) R.1))])) := k8 _ _ _ g9_ad_at1 (by simp; try omega)
                have g10_q : h10 q = some ((r, 0), .inr (3, [.ref fa9, .ref ca, .int (nI S.1), .int (nI (cc S)), .int (nI (rq S (-1)))])) := k8 _ _ _ g9_q (by simp; try omega)
                have g10_adS_f9 : h10 (adS f9) = some ((r + 1, f9), .inr (4, [.int (nI f9), .int (fKi (S.2 f9)), .int (fTy (S.2 f9)), .int (fGr (S.2 f9)), .ref (na f9), .int (fCo (S.2 f9)), .int (fRe (S.2 f9)), .int (fDe (S.2 f9)), .int (nI (rq S (nI f9)))])) := k8 _ _ _ g9_adS_f9 (by simp; try omega)
                have kk10 : z_K (fun y => y = 4 ∨ y = 5) h h10 := kk9.tr k8
                refine W.eq (g2 := F0 m 133 ls [.int (nI (at1 + 1))]) rfl ?_
                refine lv_istore (lv' := [(4, .int (nI (at1 + 1))), (8, .ref (adS f9)), (7, .ref (ad at1)), (0, .ref wr), (1, .int (nI i)), (2, .int (nI d)), (3, .ref (ad i)), (5, .ref (adS b1)), (6, .int (nI k1))]) hx hb d_RecordWriter_putMembers_133 hl (by decide) rfl (fun ls hl => ?_)
                refine lv_aload hx hb d_RecordWriter_putMembers_135 (lv_at hl 1 rfl) ?_
                refine lv_astore (lv' := [(5, .ref (adS f9)), (4, .int (nI (at1 + 1))), (8, .ref (adS f9)), (7, .ref (ad at1)), (0, .ref wr), (1, .int (nI i)), (2, .int (nI d)), (3, .ref (ad i)), (6, .int (nI k1))]) hx hb d_RecordWriter_putMembers_137 hl (by decide) rfl (fun ls hl => ?_)
                refine lv_iinc (v := nI (k1 + 1)) (lv' := [(6, .int (nI (k1 + 1))), (5, .ref (adS f9)), (4, .int (nI (at1 + 1))), (8, .ref (adS f9)), (7, .ref (ad at1)), (0, .ref wr), (1, .int (nI i)), (2, .int (nI d)), (3, .ref (ad i))]) hx hb d_RecordWriter_putMembers_139 hl (k := 8) rfl (nI_1 k1) (by decide) rfl (fun ls hl => ?_)
                refine lv_goto (tgt := 43) hx hb d_RecordWriter_putMembers_142 (by decide) ?_
                refine W.widen (k := jf j O_10.length - jf j O.length) (n := slj j O_10.length - slj j O.length) (by first | exact Nat.le_of_ble_eq_true rfl | (dsimp only; omega) | omega) (by first | exact Nat.le_of_ble_eq_true rfl | (dsimp only; omega) | omega) ?_
                refine ih_43 (k1 + 1) (at1 + 1) (some f9) O_10 h10 _ _ _ g10_wr g10_ad_i kk10 oh_10 (⟨by omega, by omega, by omega, by omega, fun b z => by cases z; exact hf9⟩) (⟨by rw [hR1.1, ← eO_10, ← eO_9]; simp, by rw [hR1.2]⟩) ?_ hw (lv_sub hl [5, 6, 7, 8, 2, 1, 0] rfl)
                omega
              · -- 108: False
                have ey : (if fTy (S.2 f9) = 4 then MW at1 else (at1 + 1, leafO (R.2 at1) (fTy (S.2 f9)))) = MW at1 := if_pos c_108
                rw [ey] at lS0 hR1 eS0
                dsimp only at lS0 hR1 eS0
                have eS := eS0
                have hmb := hMb at1 hat
                refine lv_aload_n hx hb d_RecordWriter_putMembers_111 rfl (lv_at hl 2 rfl) ?_
                refine lv_iload hx hb d_RecordWriter_putMembers_112 (lv_at hl 6 rfl) ?_
                refine lv_iload_n hx hb d_RecordWriter_putMembers_114 rfl (lv_at hl 4 rfl) ?_
                refine lv_iconst (v := 1) hx hb d_RecordWriter_putMembers_115 (by decide) ?_
                refine lv_iadd hx hb d_RecordWriter_putMembers_116 ?_
                refine z_topi (y := nI (d + 1)) (nI_add d 1) ?_
                have ln_11 : (O_9 ++ ((MW at1).2)).length = O_9.length + ((MW at1).2).length := List.length_append
                have ma_11 := jf_mono j (show O_9.length ≤ (O_9 ++ ((MW at1).2)).length by omega)
                have mb_11 := jf_mono j (show (O_9 ++ ((MW at1).2)).length ≤ (O ++ ((wrG MW S R i).2)).length by omega)
                refine z_callV (n := 2) (As := [.int (nI at1), .int (nI (d + 1))]) (rest := []) ⟨hx, hb, hml, hown, hts⟩ (hM h9 O_9 at1 (hS.k kk9 (by omega) (by omega) (by omega)) (hN.k kk9 (by omega) (by omega) (by omega)) g9_wr oh_9 hat (by omega)) (z_in k_702 rfl) (z_in k_19 rfl) (z_in k_723 rfl) (z_in k_700 rfl) (z_in k_701 rfl) (by decide +kernel) ⟨by first | exact Nat.le_of_ble_eq_true rfl | (dsimp only; omega) | omega, by first | exact Nat.le_of_ble_eq_true rfl | (dsimp only; omega) | omega⟩ hK hE hw hA rfl g9_wr rfl hl.1 (Nat.le_of_ble_eq_true rfl) d_RecordWriter_putMembers_117 ⟨by first | exact Nat.le_of_ble_eq_true rfl | (dsimp only; omega) | omega, by first | exact Nat.le_of_ble_eq_true rfl | (dsimp only; omega) | omega⟩ rfl (fun r9 h9 H locs hp hw => ?_)
                obtain ⟨r8, o8, k8⟩ := hp
                subst r8
                obtain ⟨h11, e7⟩ : ∃ x9, x9 = h9 := ⟨_, rfl⟩
                subst e7
                generalize eO_11 : O_9 ++ ((MW at1).2) = O_11 at o8 ln_11 ma_11 mb_11 ⊢
                have oh_11 := o8
                have g11_wr : h11 wr = some ((9, 0), .inr (10, [.ref q, .ref nw, .ref ow])) := k8 _ _ _ g9_wr (by simp; try omega)
                have g11_ad_i : h11 (ad i) = some ((mr + 1, i), .inr (6, [.int (ndFi (R.2 i)), .int (ndPa (R.2 i)), .long (ndNu (R.2 i)), .ref (tx i), .int (nI (chC R.2 (nI i) R.1)), .int (lfC R.2 (nI i) R.1), .int (nI (rtC S R.2 (nI i) R.1))])) := k8 _ _ _ g9_ad_i (by simp; try omega)
                have g11_nw : h11 nw = some ((mr, 0), .inr (5, [.ref ra, .int (nI R.1), .int (nI (tbC R.2 R.1))])) := k8 _ _ _ g9_nw (by simp; try omega)
                have g11_ad_at1 : h11 (ad at1) = some ((mr + 1, at1), .inr (6, [.int (ndFi (R.2 at1)), .int (ndPa (R.2 at1)), .long (ndNu (R.2 at1)), .ref (tx at1), .int (nI (chC R.2 (nI at1) R.1)), .int (lfC R.2 (nI at1) R.1), .int (nI (rtC S R.2 (nI at1) R.1))])) := k8 _ _ _ g9_ad_at1 (by simp; try omega)
                have g11_q : h11 q = some ((r, 0), .inr (3, [.ref fa9, .ref ca, .int (nI S.1), .int (nI (cc S)), .int (nI (rq S (-1)))])) := k8 _ _ _ g9_q (by simp; try omega)
                have g11_adS_f9 : h11 (adS f9) = some ((r + 1, f9), .inr (4, [.int (nI f9), .int (fKi (S.2 f9)), .int (fTy (S.2 f9)), .int (fGr (S.2 f9)), .ref (na f9), .int (fCo (S.2 f9)), .int (fRe (S.2 f9)), .int (fDe (S.2 f9)), .int (nI (rq S (nI f9)))])) := k8 _ _ _ g9_adS_f9 (by simp; try omega)
                have kk11 : z_K (fun y => y = 4 ∨ y = 5) h h11 := kk9.tr k8
                refine W.eq (g2 := F0 m 120 ls [.int (nI ((MW at1).1))]) rfl ?_
                refine lv_goto (tgt := 133) hx hb d_RecordWriter_putMembers_120 (by decide) ?_
                refine lv_istore (lv' := [(4, .int (nI ((MW at1).1))), (8, .ref (adS f9)), (7, .ref (ad at1)), (0, .ref wr), (1, .int (nI i)), (2, .int (nI d)), (3, .ref (ad i)), (5, .ref (adS b1)), (6, .int (nI k1))]) hx hb d_RecordWriter_putMembers_133 hl (by decide) rfl (fun ls hl => ?_)
                refine lv_aload hx hb d_RecordWriter_putMembers_135 (lv_at hl 1 rfl) ?_
                refine lv_astore (lv' := [(5, .ref (adS f9)), (4, .int (nI ((MW at1).1))), (8, .ref (adS f9)), (7, .ref (ad at1)), (0, .ref wr), (1, .int (nI i)), (2, .int (nI d)), (3, .ref (ad i)), (6, .int (nI k1))]) hx hb d_RecordWriter_putMembers_137 hl (by decide) rfl (fun ls hl => ?_)
                refine lv_iinc (v := nI (k1 + 1)) (lv' := [(6, .int (nI (k1 + 1))), (5, .ref (adS f9)), (4, .int (nI ((MW at1).1))), (8, .ref (adS f9)), (7, .ref (ad at1)), (0, .ref wr), (1, .int (nI i)), (2, .int (nI d)), (3, .ref (ad i))]) hx hb d_RecordWriter_putMembers_139 hl (k := 8) rfl (nI_1 k1) (by decide) rfl (fun ls hl => ?_)
                refine lv_goto (tgt := 43) hx hb d_RecordWriter_putMembers_142 (by decide) ?_
                refine W.widen (k := jf j O_11.length - jf j O.length) (n := slj j O_11.length - slj j O.length) (by first | exact Nat.le_of_ble_eq_true rfl | (dsimp only; omega) | omega) (by first | exact Nat.le_of_ble_eq_true rfl | (dsimp only; omega) | omega) ?_
                refine ih_43 (k1 + 1) ((MW at1).1) (some f9) O_11 h11 _ _ _ g11_wr g11_ad_i kk11 oh_11 (⟨by omega, by omega, by omega, by omega, fun b z => by cases z; exact hf9⟩) (⟨by rw [hR1.1, ← eO_11, ← eO_9]; simp, by rw [hR1.2]⟩) ?_ hw (lv_sub hl [5, 6, 7, 8, 2, 1, 0] rfl)
                omega
          · -- child False
            have eN : wrL MW S R (chC R.2 (nI i) R.1 - (k1 + 1) + 1) at1 bf1 = (at1, []) := by simp only [wrL]; rw [if_neg (by omega)]
            rw [eN] at hR1
            refine lv_aload_n hx hb d_RecordWriter_putMembers_52 rfl (lv_at hl 0 rfl) ?_
            refine z_get hx hb hts (z_lay i_RecordWriter) hown hK hw L43_wr rfl 1 (by decide) (z_in k_690 rfl) (fun _ h9 => h9) rfl d_RecordWriter_putMembers_53 ?_
            refine lv_iload hx hb d_RecordWriter_putMembers_56 (lv_at hl 4 rfl) ?_
            refine z_callV (n := 1) (As := [.int (nI at1)]) (rest := []) ⟨hx, hb, hml, hown, hts⟩ (c_nodeAt_no l g hL (hN.k kkL (by omega) (by omega) (by omega)) (Or.inr (by rw [Int32.le_iff_toInt_le, nI_toInt (by omega), nI_toInt (by omega)]; omega))) (z_in k_563 rfl) (z_in k_5 rfl) (z_in k_703 rfl) (z_in k_561 rfl) (z_in k_562 rfl) (by decide +kernel) ⟨by first | exact Nat.le_of_ble_eq_true rfl | (dsimp only; omega) | omega, by first | exact Nat.le_of_ble_eq_true rfl | (dsimp only; omega) | omega⟩ hK hE hw hA rfl hwn rfl hl.1 (Nat.le_of_ble_eq_true rfl) d_RecordWriter_putMembers_58 ⟨by first | exact Nat.le_of_ble_eq_true rfl | (dsimp only; omega) | omega, by first | exact Nat.le_of_ble_eq_true rfl | (dsimp only; omega) | omega⟩ rfl (fun r9 h9 H locs hp hw => ?_)
            obtain ⟨r8, h8⟩ := hp
            subst r8
            subst h8
            refine W.eq (g2 := F0 m 61 ls [.null]) rfl ?_
            refine lv_astoreN (lv' := [(7, .null), (0, .ref wr), (1, .int (nI i)), (2, .int (nI d)), (3, .ref (ad i)), (4, .int (nI at1)), (5, va_rf (bf1.map adS)), (6, .int (nI k1))]) hx hb d_RecordWriter_putMembers_61 hl (by decide) rfl (fun ls hl => ?_)
            refine lv_aloadN hx hb d_RecordWriter_putMembers_63 (lv_at hl 0 rfl) ?_
            refine lv_ifnonnullN hx hb d_RecordWriter_putMembers_65 ?_
            refine lv_null hx hb d_RecordWriter_putMembers_68 ?_
            refine lv_goto (tgt := 84) hx hb d_RecordWriter_putMembers_69 (by decide) ?_
            refine lv_astoreN (lv' := [(8, .null), (7, .null), (0, .ref wr), (1, .int (nI i)), (2, .int (nI d)), (3, .ref (ad i)), (4, .int (nI at1)), (5, va_rf (bf1.map adS)), (6, .int (nI k1))]) hx hb d_RecordWriter_putMembers_84 hl (by decide) rfl (fun ls hl => ?_)
            refine lv_aloadN hx hb d_RecordWriter_putMembers_86 (lv_at hl 0 rfl) ?_
            refine lv_ifnonnullN hx hb d_RecordWriter_putMembers_88 ?_
            refine lv_iload hx hb d_RecordWriter_putMembers_91 (lv_at hl 6 rfl) ?_
            have eF : O1 = O ++ ((wrG MW S R i).2) := by rw [hR1.1]; simp
            have eJ : jf j O1.length = jf j (O ++ ((wrG MW S R i).2)).length ∧ slj j O1.length = slj j (O ++ ((wrG MW S R i).2)).length := ⟨congrArg (fun x => jf j x.length) eF, congrArg (fun x => slj j x.length) eF⟩
            exact z_iret hx hb hr hlocks hw ⟨by rw [hR1.2], eF ▸ oh1, kkL⟩ (by first | exact Nat.le_of_ble_eq_true rfl | (dsimp only; omega) | omega) (by first | exact Nat.le_of_ble_eq_true rfl | (dsimp only; omega) | omega) d_RecordWriter_putMembers_93
    refine W.widen (k := jf j O_1.length - jf j O.length) (n := slj j O_1.length - slj j O.length) (by first | exact Nat.le_of_ble_eq_true rfl | (dsimp only; omega) | omega) (by first | exact Nat.le_of_ble_eq_true rfl | (dsimp only; omega) | omega) ?_
    exact loop_43 (chC R.2 (nI i) R.1 - 0 + 1) 0 (i + 1) none O_1 h1 _ _ _ g1_wr g1_ad_i kk1 oh_1 (⟨by omega, by omega, by omega, by omega, fun b z => by cases z⟩) (⟨by rw [← eO_1]; unfold wrG; rw [Nat.sub_zero]; simp, rfl⟩) (by omega) hw (lv_sub hl [4, 5, 6, 3, 2, 1, 0] rfl)
  · -- 16: False
    have c_16 : ¬ (d ≤ 16) := fun z => c_16 ((nI_leI (a := d) (b := 16) (by omega) (by omega)).mpr z)
    exact absurd hd9 c_16

set_option maxHeartbeats 4000000 in
set_option maxRecDepth 100000 in
theorem c_putMembers_17 (l : Launch) (g : z_G) (h : z_H) {wr q nw ow j : Nat} {O : List Nat} {r : Nat} {S : Sch} {fa9 ca : Nat} {adS na : Nat → Nat} {ff : Nat → Option Nat} {cf : Nat → Int32} {nf : Nat → Nat → Int32} {mr : Nat} {R : Rec} {ra : Nat} {ad tx : Nat → Nat} {rf : Nat → Option Nat} {tf : Nat → Nat → Int32} {i d fM lM : Nat} (hwr : h wr = some ((9, 0), .inr (10, [.ref q, .ref nw, .ref ow]))) (hO : OutB g h ow j O) (hj : j ≤ 8) (hN : NdP g h mr nw S R ra ad tx rf tf) (hi9 : i < R.1) (hd9 : 16 < d) (hd8 : d < 1000) : z_C l y_RecordWriter_putMembers prog_7_method_2_code 9 (Option.some Jvm.ClassFile.FieldType.int) (fM + 10) (lM + 300) 0 0 g [.ref wr, .int (nI i), .int (nI d)] h (fun x h1 => x = some (.int (nI (i + 1))) ∧ OutB g h1 ow j (O ++ []) ∧ z_K (fun y => y = 4 ∨ y = 5) h h1) := by
  refine z_C.of (by decide) (Nat.le_of_ble_eq_true rfl) (fun pg en s m below meth cd A ls hx hb hml hr hts hown hlocks hnm hK hE hA hw hl => ?_)
  have hl : lv_has ls 9 [(0, .ref wr), (1, .int (nI i)), (2, .int (nI d))] := hl
  have hww := hN.1
  have hs2 : R.1 ≤ 2000 := hN.2.2.2.2.2.1
  have kk0 : z_K (fun y => y = 4 ∨ y = 5) h h := z_K.rf
  refine lv_aload_n hx hb d_RecordWriter_putMembers_0 rfl (lv_at hl 0 rfl) ?_
  refine z_get hx hb hts (z_lay i_RecordWriter) hown hK hw hwr rfl 1 (by decide) (z_in k_690 rfl) (fun _ h9 => h9) rfl d_RecordWriter_putMembers_1 ?_
  refine lv_iload_n hx hb d_RecordWriter_putMembers_4 rfl (lv_at hl 1 rfl) ?_
  refine z_callV (n := 1) (As := [.int (nI i)]) (rest := []) ⟨hx, hb, hml, hown, hts⟩ (c_nodeAt (i := i) l g h hN hi9) (z_in k_563 rfl) (z_in k_5 rfl) (z_in k_703 rfl) (z_in k_561 rfl) (z_in k_562 rfl) (by decide +kernel) ⟨by first | exact Nat.le_of_ble_eq_true rfl | (dsimp only; omega) | omega, by first | exact Nat.le_of_ble_eq_true rfl | (dsimp only; omega) | omega⟩ hK hE hw hA rfl hww rfl hl.1 (Nat.le_of_ble_eq_true rfl) d_RecordWriter_putMembers_5 ⟨by first | exact Nat.le_of_ble_eq_true rfl | (dsimp only; omega) | omega, by first | exact Nat.le_of_ble_eq_true rfl | (dsimp only; omega) | omega⟩ rfl (fun r9 h9 H locs hp hw => ?_)
  obtain ⟨r8, h8⟩ := hp
  subst r8
  subst h8
  refine W.eq (g2 := F0 m 8 ls [.ref (ad i)]) rfl ?_
  refine lv_astore_n (lv' := [(3, .ref (ad i)), (0, .ref wr), (1, .int (nI i)), (2, .int (nI d))]) hx hb d_RecordWriter_putMembers_8 rfl hl (by decide) rfl (fun ls hl => ?_)
  refine lv_aload_n hx hb d_RecordWriter_putMembers_9 rfl (lv_at hl 0 rfl) ?_
  refine lv_ifnull hx hb d_RecordWriter_putMembers_10 ?_
  refine lv_iload_n hx hb d_RecordWriter_putMembers_13 rfl (lv_at hl 3 rfl) ?_
  refine lv_bipush (v := 16) hx hb d_RecordWriter_putMembers_14 (by decide) ?_
  refine lv_icmp_le (tgt := 23) hx hb d_RecordWriter_putMembers_16 (by decide) (fun c_16 => ?_) (fun c_16 => ?_)
  · -- 16: True
    have c_16 : d ≤ 16 := (nI_leI (a := d) (b := 16) (by omega) (by omega)).mp c_16
    omega
  · -- 16: False
    have c_16 : ¬ (d ≤ 16) := fun z => c_16 ((nI_leI (a := d) (b := 16) (by omega) (by omega)).mpr z)
    refine lv_iload_n hx hb d_RecordWriter_putMembers_19 rfl (lv_at hl 2 rfl) ?_
    refine lv_iconst (v := 1) hx hb d_RecordWriter_putMembers_20 (by decide) ?_
    refine lv_iadd hx hb d_RecordWriter_putMembers_21 ?_
    refine z_topi (y := nI (i + 1)) (nI_add i 1) ?_
    exact z_iret hx hb hr hlocks hw ⟨rfl, (List.append_nil O).symm ▸ hO, kk0⟩ (by decide) (by decide) d_RecordWriter_putMembers_22

theorem c_putMembers (l : Launch) (g : z_G) {wr q nw ow j r : Nat} {S : Sch} {fa9 ca : Nat} {adS na : Nat → Nat} {ff : Nat → Option Nat} {cf : Nat → Int32} {nf : Nat → Nat → Int32} {mr : Nat} {R : Rec} {ra : Nat} {ad tx : Nat → Nat} {rf : Nat → Option Nat} {tf : Nat → Nat → Int32} (hj : j ≤ 8) (hfo : fiO2 S R) (hr0 : 100 ≤ r) (hm2 : 12 ≤ mr) (hm : mr < 60) : ∀ (D d : Nat), d + D = 17 → ∀ (h : z_H) (O : List Nat) (i : Nat), SchP g h r q S fa9 ca adS na ff cf nf → NdP g h mr nw S R ra ad tx rf tf → h wr = some ((9, 0), .inr (10, [.ref q, .ref nw, .ref ow])) → OutB g h ow j O → i < R.1 → O.length + (wrD S R D i).2.length ≤ 262144 → z_C l y_RecordWriter_putMembers prog_7_method_2_code 9 (Option.some Jvm.ClassFile.FieldType.int) (10 * D + 10) (300 * D + 300) (jf j (O ++ (wrD S R D i).2).length - jf j O.length) (slj j (O ++ (wrD S R D i).2).length - slj j O.length) g [.ref wr, .int (nI i), .int (nI d)] h (fun x h1 => x = some (.int (nI (wrD S R D i).1)) ∧ OutB g h1 ow j (O ++ (wrD S R D i).2) ∧ z_K (fun y => y = 4 ∨ y = 5) h h1) := by
  intro D
  induction D with
  | zero =>
    intro d hd h O i h1 h2 h3 h4 h5 h6
    have z1 : jf j (O ++ (wrD S R 0 i).2).length - jf j O.length = 0 := by show jf j (O ++ []).length - jf j O.length = 0; rw [List.append_nil]; omega
    have z2 : slj j (O ++ (wrD S R 0 i).2).length - slj j O.length = 0 := by show slj j (O ++ []).length - slj j O.length = 0; rw [List.append_nil]; omega
    rw [z1, z2]
    exact c_putMembers_17 (r := r) (fa9 := fa9) (ca := ca) (adS := adS) (na := na) (ff := ff) (cf := cf) (nf := nf) (fM := 0) (lM := 0) l g h h3 h4 hj h2 h5 (by omega) (by omega)
  | succ D ih =>
    intro d hd h O i h1 h2 h3 h4 h5 h6
    rw [show 10 * (D + 1) + 10 = 10 * D + 10 + 10 by omega, show 300 * (D + 1) + 300 = 300 * D + 300 + 300 by omega]
    exact c_putMembers_of (fM := 10 * D + 10) (lM := 300 * D + 300) (MW := wrD S R D) l g h h3 h4 hj h6 h1 h2 hfo hr0 hm2 hm h5 (by omega) (ih (d + 1) (by omega)) (wrD_b D)

/-- the cells of the class's object xo: the tape T, the schema S, the record R, the output O -/
def XP (g : z_G) (h : z_H) (xo : Nat) (T : List Nat) (S : Sch) (R : Rec) (O : List Nat) (j : Nat) (tp b ow kn pr sp r mr mr2 ra2 : Nat) (f : Nat → Int32) (rf2 : Nat → Option Nat) (a2 c2 : Int32) : Prop :=
  h xo = some ((1, 0), .inr (0, [.ref tp, .ref ow, .ref kn, .ref pr, .ref sp])) ∧ h tp = some ((2, 0), .inr (1, [.ref b, .int (nI T.length)])) ∧ h b = some ((3, 0), .inl (g.2.1 0, 4000, .inl f)) ∧
  (z_fb f 4000 ∧ T.length ≤ 4000 ∧ ∀ k, k < T.length → T.getD k 0 < 256 ∧ f k = sb_b (T.getD k 0)) ∧ (OutB g h ow j O ∧ j ≤ 8) ∧
  (SchAt g h r kn S ∧ 100 ≤ r ∧ grOK S) ∧ (NdAt g h mr pr S R ∧ paOK R) ∧
  (h sp = some ((mr2, 0), .inr (5, [.ref ra2, .int a2, .int c2])) ∧ h ra2 = some ((mr2, 1), .inl (g.2.1 4, 2000, .inr (.inr (.inr (.inr rf2)))))) ∧ (mr = 40 ∧ mr2 = 50 ∨ mr = 50 ∧ mr2 = 40)
def XAt (g : z_G) (h : z_H) (xo : Nat) (T : List Nat) (S : Sch) (R : Rec) (O : List Nat) (j : Nat) : Prop := ∃ tp b ow kn pr sp r mr mr2 ra2 f rf2 a2 c2, XP g h xo T S R O j tp b ow kn pr sp r mr mr2 ra2 f rf2 a2 c2
/-- what the class leaves as it is -/
def KXr (y : Nat) : Prop := y < 20 ∨ 40 ≤ y
/-- an int is a place of a row, or none -/
theorem ix_cases (k : Int32) {n : Nat} (hn : n < 2 ^ 31) : (k < 0 ∨ nI n ≤ k) ∨ ∃ i, i < n ∧ k = nI i := by
  by_cases h0 : k < 0
  · exact Or.inl (Or.inl h0)
  · obtain ⟨i, hi, rfl⟩ := nI_of h0
    by_cases h1 : i < n
    · exact Or.inr ⟨i, h1, rfl⟩
    · refine Or.inl (Or.inr ?_)
      rw [Int32.le_iff_toInt_le, nI_toInt hn, nI_toInt hi]
      omega
def isIx (k : Int32) (n : Nat) : Bool := decide (0 ≤ k) && decide (k < nI n)
theorem isIx_no {k : Int32} {n : Nat} (h : k < 0 ∨ nI n ≤ k) : isIx k n = false := by
  unfold isIx
  rw [Int32.lt_iff_toInt_lt, Int32.le_iff_toInt_le] at h
  simp only [Bool.and_eq_false_iff, decide_eq_false_iff_not, Int32.lt_iff_toInt_lt, Int32.le_iff_toInt_le]
  omega
theorem isIx_yes {i n : Nat} (h : i < n) (hn : n < 2 ^ 31) : isIx (nI i) n = true := by
  unfold isIx
  simp only [Bool.and_eq_true, decide_eq_true_eq, Int32.lt_iff_toInt_lt, Int32.le_iff_toInt_le]
  rw [nI_toInt (by omega), nI_toInt hn]
  have : (0 : Int32).toInt = 0 := rfl
  omega
def oCount (S : Sch) (k : Int32) : Int32 := if k = 0 then nI S.1 else if k = 1 then nI (cc S) else -1
def oField (S : Sch) (f k : Int32) : Int32 := if isIx f S.1 = true then swN k [fKi (S.2 f.toNatClampNeg), fTy (S.2 f.toNatClampNeg), fGr (S.2 f.toNatClampNeg), fCo (S.2 f.toNatClampNeg), nI (fNm (S.2 f.toNatClampNeg)).length, fRe (S.2 f.toNatClampNeg), fDe (S.2 f.toNatClampNeg)] 0 else -1
/-- the k-th byte of a list, or NONE -/
def lbz (l : List Nat) (k : Int32) : Int32 := bz (fun i => l.getD i 0) l.length k
def oLetter (S : Sch) (f k : Int32) : Int32 := if isIx f S.1 = true then lbz (fNm (S.2 f.toNatClampNeg)) k else -1
def oNode (R : Rec) (i k : Int32) : Int32 := if isIx i R.1 = true then swN k [ndFi (R.2 i.toNatClampNeg), ndPa (R.2 i.toNatClampNeg), nI (chC R.2 i R.1), nI (ndTx (R.2 i.toNatClampNeg)).length] 0 else -1
def oValue (R : Rec) (i : Int32) : Int64 := if isIx i R.1 = true then ndNu (R.2 i.toNatClampNeg) else 0
def oTextByte (R : Rec) (i k : Int32) : Int32 := if isIx i R.1 = true then lbz (ndTx (R.2 i.toNatClampNeg)) k else -1
def oIsWhole (S : Sch) (R : Rec) : Bool := decide (0 < S.1) && lkA S R

set_option maxHeartbeats 4000000 in
set_option maxRecDepth 100000 in
theorem x_count (l : Launch) (g : z_G) (h : z_H) {xo : Nat} {T : List Nat} {S : Sch} {R : Rec} {O : List Nat} {j : Nat} {k : Int32}  (hX : XAt g h xo T S R O j)  : z_C l y_X_count prog_1_method_4_code 2 (Option.some Jvm.ClassFile.FieldType.int) 2 60 0 0 g [.ref xo, .int k] h (fun x h1 => x = some (.int (oCount S k)) ∧ h = h1) := by
  refine z_C.of (by decide) (Nat.le_of_ble_eq_true rfl) (fun pg en s m below meth cd A ls hx hb hml hr hts hown hlocks hnm hK hE hA hw hl => ?_)
  have hl : lv_has ls 2 [(0, .ref xo), (1, .int k)] := hl
  obtain ⟨tp, b, ow, kn, pr, sp, r, mr, mr2, ra2, f, rf2, a2, c2, hxo, htp0, hb0, ⟨hfb, hT4, hT⟩, ⟨hO, hj⟩, ⟨⟨fa9, ca, adS, na, ff, cf, nf, hS⟩, hr0, hgr⟩, ⟨⟨ra, ad, tx, rf, tf, hN⟩, hpa⟩, ⟨hsp, hra2⟩, hmr⟩ := id hX
  have hkn := hS.1
  have hpr := hN.1
  have hs8 : S.1 ≤ 128 := hS.2.2.2.2.2.2.2.1
  have hcc8 : cc S ≤ 64 := hS.2.2.2.2.2.2.2.2
  have hR2 : R.1 ≤ 2000 := hN.2.2.2.2.2.1
  refine lv_iload_n hx hb d_X_count_0 rfl (lv_at hl 1 rfl) ?_
  refine lv_if_ne (tgt := 12) hx hb d_X_count_1 (by decide) (fun c_1 => ?_) (fun c_1 => ?_)
  · -- 1: True
    refine lv_iload_n hx hb d_X_count_12 rfl (lv_at hl 1 rfl) ?_
    refine lv_iconst (v := 1) hx hb d_X_count_13 (by decide) ?_
    refine lv_icmp_ne (tgt := 27) hx hb d_X_count_14 (by decide) (fun c_14 => ?_) (fun c_14 => ?_)
    · -- 14: True
      refine lv_iconst (v := (-1)) hx hb d_X_count_27 (by decide) ?_
      exact z_iret hx hb hr hlocks hw (by refine ⟨congrArg some (congrArg Value.int ?_), rfl⟩; unfold oCount; rw [if_neg c_1, if_neg c_14]) (by decide) (by decide) d_X_count_28
    · -- 14: False
      refine lv_aload_n hx hb d_X_count_17 rfl (lv_at hl 0 rfl) ?_
      refine z_get hx hb hts (z_lay i_X) hown hK hw hxo rfl 2 (by decide) (z_in k_148 rfl) (fun _ h9 => h9) rfl d_X_count_18 ?_
      refine z_getN hx hb hts (z_lay i_Schema) hown hK hw hkn rfl 3 (by decide) hE.nest (z_inN k_69 rfl) (fun _ h9 => h9) rfl d_X_count_21 ?_
      refine lv_goto (tgt := 28) hx hb d_X_count_24 (by decide) ?_
      exact z_iret hx hb hr hlocks hw (by refine ⟨congrArg some (congrArg Value.int ?_), rfl⟩; unfold oCount; rw [if_neg c_1, if_pos c_14]) (by decide) (by decide) d_X_count_28
  · -- 1: False
    refine lv_aload_n hx hb d_X_count_4 rfl (lv_at hl 0 rfl) ?_
    refine z_get hx hb hts (z_lay i_X) hown hK hw hxo rfl 2 (by decide) (z_in k_148 rfl) (fun _ h9 => h9) rfl d_X_count_5 ?_
    refine z_getN hx hb hts (z_lay i_Schema) hown hK hw hkn rfl 2 (by decide) hE.nest (z_inN k_67 rfl) (fun _ h9 => h9) rfl d_X_count_8 ?_
    exact z_iret hx hb hr hlocks hw (by refine ⟨congrArg some (congrArg Value.int ?_), rfl⟩; unfold oCount; rw [if_pos c_1]) (by decide) (by decide) d_X_count_11

set_option maxHeartbeats 4000000 in
set_option maxRecDepth 100000 in
theorem x_byteOf (l : Launch) (g : z_G) (h : z_H) {q : Nat} {tg : Nat × Nat} {lq : List Nat} {fq : Nat → Int32} {k : Int32} (hq : h q = some (tg, .inl (g.2.1 0, lq.length, .inl fq))) (hlq : lq.length < 1000 ∧ ∀ k, k < lq.length → lq.getD k 0 < 256 ∧ fq k = sb_b (lq.getD k 0)) : z_C l y_X_byteOf prog_1_method_20_code 2 (Option.some Jvm.ClassFile.FieldType.int) 0 0 0 0 g [.ref q, .int k] h (fun x h1 => x = some (.int (lbz lq k)) ∧ h = h1) := by
  refine z_C.of (by decide) (Nat.le_of_ble_eq_true rfl) (fun pg en s m below meth cd A ls hx hb hml hr hts hown hlocks hnm hK hE hA hw hl => ?_)
  have hl : lv_has ls 2 [(0, .ref q), (1, .int k)] := hl
  refine lv_iload_n hx hb d_X_byteOf_0 rfl (lv_at hl 1 rfl) ?_
  refine lv_if_lt (tgt := 10) hx hb d_X_byteOf_1 (by decide) (fun c_1 => ?_) (fun c_1 => ?_)
  · -- 1: True
    refine lv_iconst (v := (-1)) hx hb d_X_byteOf_10 (by decide) ?_
    refine lv_goto (tgt := 21) hx hb d_X_byteOf_11 (by decide) ?_
    exact z_iret hx hb hr hlocks hw (by refine ⟨congrArg some (congrArg Value.int ?_), rfl⟩; unfold lbz bz; rw [if_pos c_1]) (by decide) (by decide) d_X_byteOf_21
  · -- 1: False
    obtain ⟨j, hj, rfl⟩ := nI_of c_1
    have hl : lv_has ls 2 [(0, .ref q), (1, .int (nI j))] := hl
    refine lv_iload_n hx hb d_X_byteOf_4 rfl (lv_at hl 1 rfl) ?_
    refine lv_aload_n hx hb d_X_byteOf_5 rfl (lv_at hl 0 rfl) ?_
    refine z_alen hx hb hK hw hq 0 rfl d_X_byteOf_6 ?_
    refine lv_icmp_lt (tgt := 14) hx hb d_X_byteOf_7 (by decide) (fun c_7 => ?_) (fun c_7 => ?_)
    · -- 7: True
      have c_7 : j < lq.length := (nI_ltI (a := j) (b := lq.length) (by omega) (by omega)).mp c_7
      refine lv_aload_n hx hb d_X_byteOf_14 rfl (lv_at hl 0 rfl) ?_
      refine lv_iload_n hx hb d_X_byteOf_15 rfl (lv_at hl 1 rfl) ?_
      refine z_bald hx hb hK hw hq 0 rfl (vp_in_nI (by omega) (by omega)) d_X_byteOf_16 ?_
      refine z_topi (y := fq j) (by rw [nI_clamp (by omega)]) ?_
      refine lv_sipush (v := 255) hx hb d_X_byteOf_17 (by decide) ?_
      refine lv_iand hx hb d_X_byteOf_20 ?_
      exact z_iret hx hb hr hlocks hw (by refine ⟨congrArg some (congrArg Value.int ?_), rfl⟩; unfold lbz; rw [bz_n hj, bt_in (by omega), (hlq.2 j (by omega)).2]; exact (sb_byte _ (hlq.2 j (by omega)).1).1) (by decide) (by decide) d_X_byteOf_21
    · -- 7: False
      have c_7 : ¬ (j < lq.length) := fun z => c_7 ((nI_ltI (a := j) (b := lq.length) (by omega) (by omega)).mpr z)
      refine lv_iconst (v := (-1)) hx hb d_X_byteOf_10 (by decide) ?_
      refine lv_goto (tgt := 21) hx hb d_X_byteOf_11 (by decide) ?_
      exact z_iret hx hb hr hlocks hw (by refine ⟨congrArg some (congrArg Value.int ?_), rfl⟩; unfold lbz; rw [bz_n hj, bt_out (by omega)]) (by decide) (by decide) d_X_byteOf_21

set_option maxHeartbeats 4000000 in
set_option maxRecDepth 100000 in
theorem x_byteOf0 (l : Launch) (g : z_G) (h : z_H) {k : Int32}   : z_C l y_X_byteOf prog_1_method_20_code 2 (Option.some Jvm.ClassFile.FieldType.int) 0 0 0 0 g [.ref (g.2.2 0), .int k] h (fun x h1 => x = some (.int (lbz [] k)) ∧ h = h1) := by
  refine z_C.of (by decide) (Nat.le_of_ble_eq_true rfl) (fun pg en s m below meth cd A ls hx hb hml hr hts hown hlocks hnm hK hE hA hw hl => ?_)
  have hl : lv_has ls 2 [(0, .ref (g.2.2 0)), (1, .int k)] := hl
  refine lv_iload_n hx hb d_X_byteOf_0 rfl (lv_at hl 1 rfl) ?_
  refine lv_if_lt (tgt := 10) hx hb d_X_byteOf_1 (by decide) (fun c_1 => ?_) (fun c_1 => ?_)
  · -- 1: True
    refine lv_iconst (v := (-1)) hx hb d_X_byteOf_10 (by decide) ?_
    refine lv_goto (tgt := 21) hx hb d_X_byteOf_11 (by decide) ?_
    exact z_iret hx hb hr hlocks hw (by refine ⟨congrArg some (congrArg Value.int ?_), rfl⟩; unfold lbz bz; rw [if_pos c_1]) (by decide) (by decide) d_X_byteOf_21
  · -- 1: False
    obtain ⟨j, hj, rfl⟩ := nI_of c_1
    have hl : lv_has ls 2 [(0, .ref (g.2.2 0)), (1, .int (nI j))] := hl
    refine lv_iload_n hx hb d_X_byteOf_4 rfl (lv_at hl 1 rfl) ?_
    refine lv_aload_n hx hb d_X_byteOf_5 rfl (lv_at hl 0 rfl) ?_
    refine z_noblen hx hb hE hw d_X_byteOf_6 ?_
    refine lv_icmp_lt (tgt := 14) hx hb d_X_byteOf_7 (by decide) (fun c_7 => ?_) (fun c_7 => ?_)
    · -- 7: True
      have c_7 : j < 0 := (nI_ltI (a := j) (b := 0) (by omega) (by omega)).mp c_7
      omega
    · -- 7: False
      have c_7 : ¬ (j < 0) := fun z => c_7 ((nI_ltI (a := j) (b := 0) (by omega) (by omega)).mpr z)
      refine lv_iconst (v := (-1)) hx hb d_X_byteOf_10 (by decide) ?_
      refine lv_goto (tgt := 21) hx hb d_X_byteOf_11 (by decide) ?_
      exact z_iret hx hb hr hlocks hw (by refine ⟨congrArg some (congrArg Value.int ?_), rfl⟩; unfold lbz; rw [bz_n hj, bt_out (by simp)]) (by decide) (by decide) d_X_byteOf_21

set_option maxHeartbeats 4000000 in
set_option maxRecDepth 100000 in
theorem x_field_in (l : Launch) (g : z_G) (h : z_H) {xo : Nat} {T : List Nat} {S : Sch} {R : Rec} {O : List Nat} {j : Nat}  {k : Int32} {i : Nat}  (hX : XAt g h xo T S R O j) (hi : i < S.1) : z_C l y_X_field prog_1_method_5_code 4 (Option.some Jvm.ClassFile.FieldType.int) 3 90 0 0 g [.ref xo, .int (nI i), .int k] h (fun x h1 => x = some (.int (oField S (nI i) k)) ∧ h = h1) := by
  refine z_C.of (by decide) (Nat.le_of_ble_eq_true rfl) (fun pg en s m below meth cd A ls hx hb hml hr hts hown hlocks hnm hK hE hA hw hl => ?_)
  have hl : lv_has ls 4 [(0, .ref xo), (1, .int (nI i)), (2, .int k)] := hl
  obtain ⟨tp, b, ow, kn, pr, sp, r, mr, mr2, ra2, f, rf2, a2, c2, hxo, htp0, hb0, ⟨hfb, hT4, hT⟩, ⟨hO, hj⟩, ⟨⟨fa9, ca, adS, na, ff, cf, nf, hS⟩, hr0, hgr⟩, ⟨⟨ra, ad, tx, rf, tf, hN⟩, hpa⟩, ⟨hsp, hra2⟩, hmr⟩ := id hX
  have hkn := hS.1
  have hpr := hN.1
  have hs8 : S.1 ≤ 128 := hS.2.2.2.2.2.2.2.1
  have hcc8 : cc S ≤ 64 := hS.2.2.2.2.2.2.2.2
  have hR2 : R.1 ≤ 2000 := hN.2.2.2.2.2.1
  have hff9 := (hS.2.2.2.1 i hi).2
  have hnn9 := hS.2.2.2.2.1 i hi
  have hnb9 := hS.2.2.2.2.2.1 i hi
  refine lv_aload_n hx hb d_X_field_0 rfl (lv_at hl 0 rfl) ?_
  refine z_get hx hb hts (z_lay i_X) hown hK hw hxo rfl 2 (by decide) (z_in k_148 rfl) (fun _ h9 => h9) rfl d_X_field_1 ?_
  refine lv_iload_n hx hb d_X_field_4 rfl (lv_at hl 1 rfl) ?_
  refine z_callV (n := 1) (As := [.int (nI i)]) (rest := []) ⟨hx, hb, hml, hown, hts⟩ (c_Schema_fieldAt (i := i) l g h hS hi) (z_in k_356 rfl) (z_in k_4 rfl) (z_in k_467 rfl) (z_in k_354 rfl) (z_in k_355 rfl) (by decide +kernel) ⟨by first | exact Nat.le_of_ble_eq_true rfl | (dsimp only; omega) | omega, by first | exact Nat.le_of_ble_eq_true rfl | (dsimp only; omega) | omega⟩ hK hE hw hA rfl hkn rfl hl.1 (Nat.le_of_ble_eq_true rfl) d_X_field_5 ⟨by first | exact Nat.le_of_ble_eq_true rfl | (dsimp only; omega) | omega, by first | exact Nat.le_of_ble_eq_true rfl | (dsimp only; omega) | omega⟩ rfl (fun r9 h9 H locs hp hw => ?_)
  obtain ⟨r8, h8⟩ := hp
  subst r8
  subst h8
  refine W.eq (g2 := F0 m 8 ls [.ref (adS i)]) rfl ?_
  refine lv_astore_n (lv' := [(3, .ref (adS i)), (0, .ref xo), (1, .int (nI i)), (2, .int k)]) hx hb d_X_field_8 rfl hl (by decide) rfl (fun ls hl => ?_)
  refine lv_aload_n hx hb d_X_field_9 rfl (lv_at hl 0 rfl) ?_
  refine lv_ifnonnull (tgt := 17) hx hb d_X_field_10 (by decide) ?_
  refine lv_aload_n hx hb d_X_field_17 rfl (lv_at hl 0 rfl) ?_
  refine lv_iload_n hx hb d_X_field_18 rfl (lv_at hl 3 rfl) ?_
  refine z_callV (n := 1) (As := [.int k]) (rest := []) ⟨hx, hb, hml, hown, hts⟩ (c_Field_property l g h hff9 hnn9) (z_in k_471 rfl) (z_in k_17 rfl) (z_in k_468 rfl) (z_in k_469 rfl) (z_in k_470 rfl) (by decide +kernel) ⟨by first | exact Nat.le_of_ble_eq_true rfl | (dsimp only; omega) | omega, by first | exact Nat.le_of_ble_eq_true rfl | (dsimp only; omega) | omega⟩ hK hE hw hA rfl hff9 rfl hl.1 (Nat.le_of_ble_eq_true rfl) d_X_field_19 ⟨by first | exact Nat.le_of_ble_eq_true rfl | (dsimp only; omega) | omega, by first | exact Nat.le_of_ble_eq_true rfl | (dsimp only; omega) | omega⟩ rfl (fun r9 h9 H locs hp hw => ?_)
  obtain ⟨r8, h8⟩ := hp
  subst r8
  subst h8
  refine W.eq (g2 := F0 m 22 ls [.int (swN k [fKi (S.2 i), fTy (S.2 i), fGr (S.2 i), fCo (S.2 i), nI (fNm (S.2 i)).length, fRe (S.2 i), fDe (S.2 i)] 0)]) rfl ?_
  exact z_iret hx hb hr hlocks hw (by refine ⟨congrArg some (congrArg Value.int ?_), rfl⟩; unfold oField; rw [if_pos (isIx_yes hi (by omega)), nI_clamp (by omega)]) (by decide) (by decide) d_X_field_22

set_option maxHeartbeats 4000000 in
set_option maxRecDepth 100000 in
theorem x_field_no (l : Launch) (g : z_G) (h : z_H) {xo : Nat} {T : List Nat} {S : Sch} {R : Rec} {O : List Nat} {j : Nat} {a : Int32} {k : Int32}  (hX : XAt g h xo T S R O j) (ho : a < 0 ∨ nI S.1 ≤ a) : z_C l y_X_field prog_1_method_5_code 4 (Option.some Jvm.ClassFile.FieldType.int) 3 90 0 0 g [.ref xo, .int a, .int k] h (fun x h1 => x = some (.int (oField S a k)) ∧ h = h1) := by
  refine z_C.of (by decide) (Nat.le_of_ble_eq_true rfl) (fun pg en s m below meth cd A ls hx hb hml hr hts hown hlocks hnm hK hE hA hw hl => ?_)
  have hl : lv_has ls 4 [(0, .ref xo), (1, .int a), (2, .int k)] := hl
  obtain ⟨tp, b, ow, kn, pr, sp, r, mr, mr2, ra2, f, rf2, a2, c2, hxo, htp0, hb0, ⟨hfb, hT4, hT⟩, ⟨hO, hj⟩, ⟨⟨fa9, ca, adS, na, ff, cf, nf, hS⟩, hr0, hgr⟩, ⟨⟨ra, ad, tx, rf, tf, hN⟩, hpa⟩, ⟨hsp, hra2⟩, hmr⟩ := id hX
  have hkn := hS.1
  have hpr := hN.1
  have hs8 : S.1 ≤ 128 := hS.2.2.2.2.2.2.2.1
  have hcc8 : cc S ≤ 64 := hS.2.2.2.2.2.2.2.2
  have hR2 : R.1 ≤ 2000 := hN.2.2.2.2.2.1
  refine lv_aload_n hx hb d_X_field_0 rfl (lv_at hl 0 rfl) ?_
  refine z_get hx hb hts (z_lay i_X) hown hK hw hxo rfl 2 (by decide) (z_in k_148 rfl) (fun _ h9 => h9) rfl d_X_field_1 ?_
  refine lv_iload_n hx hb d_X_field_4 rfl (lv_at hl 1 rfl) ?_
  refine z_callV (n := 1) (As := [.int a]) (rest := []) ⟨hx, hb, hml, hown, hts⟩ (c_Schema_fieldAt_no l g h hS ho) (z_in k_356 rfl) (z_in k_4 rfl) (z_in k_467 rfl) (z_in k_354 rfl) (z_in k_355 rfl) (by decide +kernel) ⟨by first | exact Nat.le_of_ble_eq_true rfl | (dsimp only; omega) | omega, by first | exact Nat.le_of_ble_eq_true rfl | (dsimp only; omega) | omega⟩ hK hE hw hA rfl hkn rfl hl.1 (Nat.le_of_ble_eq_true rfl) d_X_field_5 ⟨by first | exact Nat.le_of_ble_eq_true rfl | (dsimp only; omega) | omega, by first | exact Nat.le_of_ble_eq_true rfl | (dsimp only; omega) | omega⟩ rfl (fun r9 h9 H locs hp hw => ?_)
  obtain ⟨r8, h8⟩ := hp
  subst r8
  subst h8
  refine W.eq (g2 := F0 m 8 ls [.null]) rfl ?_
  refine lv_astore_nN (lv' := [(3, .null), (0, .ref xo), (1, .int a), (2, .int k)]) hx hb d_X_field_8 rfl hl (by decide) rfl (fun ls hl => ?_)
  refine lv_aload_nN hx hb d_X_field_9 rfl (lv_at hl 0 rfl) ?_
  refine lv_ifnonnullN hx hb d_X_field_10 ?_
  refine lv_iconst (v := (-1)) hx hb d_X_field_13 (by decide) ?_
  refine lv_goto (tgt := 22) hx hb d_X_field_14 (by decide) ?_
  exact z_iret hx hb hr hlocks hw (by refine ⟨congrArg some (congrArg Value.int ?_), rfl⟩; unfold oField; rw [if_neg (by rw [isIx_no ho]; decide)]) (by decide) (by decide) d_X_field_22

theorem x_field (l : Launch) (g : z_G) (h : z_H) {xo : Nat} {T : List Nat} {S : Sch} {R : Rec} {O : List Nat} {j : Nat} {a : Int32} {k : Int32} (hX : XAt g h xo T S R O j) : z_C l y_X_field prog_1_method_5_code 4 (Option.some Jvm.ClassFile.FieldType.int) 3 90 0 0 g [.ref xo, .int a, .int k] h (fun x h1 => x = some (.int (oField S a k)) ∧ h = h1) := by
  have hb : S.1 < 2 ^ 31 := by obtain ⟨tp, b, ow, kn, pr, sp, r, mr, mr2, ra2, f, rf2, a2, c2, hxo, htp0, hb0, ⟨hfb, hT4, hT⟩, ⟨hO, hj⟩, ⟨⟨fa9, ca, adS, na, ff, cf, nf, hS⟩, hr0, hgr⟩, ⟨⟨ra, ad, tx, rf, tf, hN⟩, hpa⟩, ⟨hsp, hra2⟩, hmr⟩ := id hX; have hs8 : S.1 ≤ 128 := hS.2.2.2.2.2.2.2.1; have hR2 : R.1 ≤ 2000 := hN.2.2.2.2.2.1; omega
  rcases ix_cases a hb with ho | ⟨i, hi, rfl⟩
  · exact x_field_no l g h hX ho
  · exact x_field_in l g h hX hi

set_option maxHeartbeats 4000000 in
set_option maxRecDepth 100000 in
theorem x_letter_in (l : Launch) (g : z_G) (h : z_H) {xo : Nat} {T : List Nat} {S : Sch} {R : Rec} {O : List Nat} {j : Nat}  {k : Int32} {i : Nat}  (hX : XAt g h xo T S R O j) (hi : i < S.1) : z_C l y_X_letter prog_1_method_6_code 4 (Option.some Jvm.ClassFile.FieldType.int) 3 90 0 0 g [.ref xo, .int (nI i), .int k] h (fun x h1 => x = some (.int (oLetter S (nI i) k)) ∧ h = h1) := by
  refine z_C.of (by decide) (Nat.le_of_ble_eq_true rfl) (fun pg en s m below meth cd A ls hx hb hml hr hts hown hlocks hnm hK hE hA hw hl => ?_)
  have hl : lv_has ls 4 [(0, .ref xo), (1, .int (nI i)), (2, .int k)] := hl
  obtain ⟨tp, b, ow, kn, pr, sp, r, mr, mr2, ra2, f, rf2, a2, c2, hxo, htp0, hb0, ⟨hfb, hT4, hT⟩, ⟨hO, hj⟩, ⟨⟨fa9, ca, adS, na, ff, cf, nf, hS⟩, hr0, hgr⟩, ⟨⟨ra, ad, tx, rf, tf, hN⟩, hpa⟩, ⟨hsp, hra2⟩, hmr⟩ := id hX
  have hkn := hS.1
  have hpr := hN.1
  have hs8 : S.1 ≤ 128 := hS.2.2.2.2.2.2.2.1
  have hcc8 : cc S ≤ 64 := hS.2.2.2.2.2.2.2.2
  have hR2 : R.1 ≤ 2000 := hN.2.2.2.2.2.1
  have hff9 := (hS.2.2.2.1 i hi).2
  have hnn9 := hS.2.2.2.2.1 i hi
  have hnb9 := hS.2.2.2.2.2.1 i hi
  refine lv_aload_n hx hb d_X_letter_0 rfl (lv_at hl 0 rfl) ?_
  refine z_get hx hb hts (z_lay i_X) hown hK hw hxo rfl 2 (by decide) (z_in k_148 rfl) (fun _ h9 => h9) rfl d_X_letter_1 ?_
  refine lv_iload_n hx hb d_X_letter_4 rfl (lv_at hl 1 rfl) ?_
  refine z_callV (n := 1) (As := [.int (nI i)]) (rest := []) ⟨hx, hb, hml, hown, hts⟩ (c_Schema_fieldAt (i := i) l g h hS hi) (z_in k_356 rfl) (z_in k_4 rfl) (z_in k_467 rfl) (z_in k_354 rfl) (z_in k_355 rfl) (by decide +kernel) ⟨by first | exact Nat.le_of_ble_eq_true rfl | (dsimp only; omega) | omega, by first | exact Nat.le_of_ble_eq_true rfl | (dsimp only; omega) | omega⟩ hK hE hw hA rfl hkn rfl hl.1 (Nat.le_of_ble_eq_true rfl) d_X_letter_5 ⟨by first | exact Nat.le_of_ble_eq_true rfl | (dsimp only; omega) | omega, by first | exact Nat.le_of_ble_eq_true rfl | (dsimp only; omega) | omega⟩ rfl (fun r9 h9 H locs hp hw => ?_)
  obtain ⟨r8, h8⟩ := hp
  subst r8
  subst h8
  refine W.eq (g2 := F0 m 8 ls [.ref (adS i)]) rfl ?_
  refine lv_astore_n (lv' := [(3, .ref (adS i)), (0, .ref xo), (1, .int (nI i)), (2, .int k)]) hx hb d_X_letter_8 rfl hl (by decide) rfl (fun ls hl => ?_)
  refine lv_aload_n hx hb d_X_letter_9 rfl (lv_at hl 0 rfl) ?_
  refine lv_ifnonnull (tgt := 17) hx hb d_X_letter_10 (by decide) ?_
  refine lv_aload_n hx hb d_X_letter_17 rfl (lv_at hl 0 rfl) ?_
  refine z_getN hx hb hts (z_lay i_Field) hown hK hw hff9 rfl 4 (by decide) hE.nest (z_inN k_418 rfl) (fun _ h9 => h9) rfl d_X_letter_18 ?_
  refine lv_iload_n hx hb d_X_letter_21 rfl (lv_at hl 3 rfl) ?_
  refine z_callS (n := 2) (As := [.ref (na i), .int k]) (rest := []) ⟨hx, hb, hml, hown, hts⟩ (x_byteOf (lq := fNm (S.2 i)) l g h hnn9 ⟨by omega, fun k hk => ⟨by have := (hnb9.2 k hk).1; omega, (hnb9.2 k hk).2⟩⟩) (z_in k_478 rfl) (z_in k_1 rfl) (z_in k_476 rfl) (z_in k_477 rfl) (by decide +kernel) ⟨by first | exact Nat.le_of_ble_eq_true rfl | (dsimp only; omega) | omega, by first | exact Nat.le_of_ble_eq_true rfl | (dsimp only; omega) | omega⟩ hK hE hw hA rfl hl.1 (Nat.le_of_ble_eq_true rfl) d_X_letter_22 ⟨by first | exact Nat.le_of_ble_eq_true rfl | (dsimp only; omega) | omega, by first | exact Nat.le_of_ble_eq_true rfl | (dsimp only; omega) | omega⟩ rfl (fun r9 h9 H locs hp hw => ?_)
  obtain ⟨r8, h8⟩ := hp
  subst r8
  subst h8
  refine W.eq (g2 := F0 m 25 ls [.int (lbz (fNm (S.2 i)) k)]) rfl ?_
  exact z_iret hx hb hr hlocks hw (by refine ⟨congrArg some (congrArg Value.int ?_), rfl⟩; unfold oLetter; rw [if_pos (isIx_yes hi (by omega)), nI_clamp (by omega)]) (by decide) (by decide) d_X_letter_25

set_option maxHeartbeats 4000000 in
set_option maxRecDepth 100000 in
theorem x_letter_no (l : Launch) (g : z_G) (h : z_H) {xo : Nat} {T : List Nat} {S : Sch} {R : Rec} {O : List Nat} {j : Nat} {a : Int32} {k : Int32}  (hX : XAt g h xo T S R O j) (ho : a < 0 ∨ nI S.1 ≤ a) : z_C l y_X_letter prog_1_method_6_code 4 (Option.some Jvm.ClassFile.FieldType.int) 3 90 0 0 g [.ref xo, .int a, .int k] h (fun x h1 => x = some (.int (oLetter S a k)) ∧ h = h1) := by
  refine z_C.of (by decide) (Nat.le_of_ble_eq_true rfl) (fun pg en s m below meth cd A ls hx hb hml hr hts hown hlocks hnm hK hE hA hw hl => ?_)
  have hl : lv_has ls 4 [(0, .ref xo), (1, .int a), (2, .int k)] := hl
  obtain ⟨tp, b, ow, kn, pr, sp, r, mr, mr2, ra2, f, rf2, a2, c2, hxo, htp0, hb0, ⟨hfb, hT4, hT⟩, ⟨hO, hj⟩, ⟨⟨fa9, ca, adS, na, ff, cf, nf, hS⟩, hr0, hgr⟩, ⟨⟨ra, ad, tx, rf, tf, hN⟩, hpa⟩, ⟨hsp, hra2⟩, hmr⟩ := id hX
  have hkn := hS.1
  have hpr := hN.1
  have hs8 : S.1 ≤ 128 := hS.2.2.2.2.2.2.2.1
  have hcc8 : cc S ≤ 64 := hS.2.2.2.2.2.2.2.2
  have hR2 : R.1 ≤ 2000 := hN.2.2.2.2.2.1
  refine lv_aload_n hx hb d_X_letter_0 rfl (lv_at hl 0 rfl) ?_
  refine z_get hx hb hts (z_lay i_X) hown hK hw hxo rfl 2 (by decide) (z_in k_148 rfl) (fun _ h9 => h9) rfl d_X_letter_1 ?_
  refine lv_iload_n hx hb d_X_letter_4 rfl (lv_at hl 1 rfl) ?_
  refine z_callV (n := 1) (As := [.int a]) (rest := []) ⟨hx, hb, hml, hown, hts⟩ (c_Schema_fieldAt_no l g h hS ho) (z_in k_356 rfl) (z_in k_4 rfl) (z_in k_467 rfl) (z_in k_354 rfl) (z_in k_355 rfl) (by decide +kernel) ⟨by first | exact Nat.le_of_ble_eq_true rfl | (dsimp only; omega) | omega, by first | exact Nat.le_of_ble_eq_true rfl | (dsimp only; omega) | omega⟩ hK hE hw hA rfl hkn rfl hl.1 (Nat.le_of_ble_eq_true rfl) d_X_letter_5 ⟨by first | exact Nat.le_of_ble_eq_true rfl | (dsimp only; omega) | omega, by first | exact Nat.le_of_ble_eq_true rfl | (dsimp only; omega) | omega⟩ rfl (fun r9 h9 H locs hp hw => ?_)
  obtain ⟨r8, h8⟩ := hp
  subst r8
  subst h8
  refine W.eq (g2 := F0 m 8 ls [.null]) rfl ?_
  refine lv_astore_nN (lv' := [(3, .null), (0, .ref xo), (1, .int a), (2, .int k)]) hx hb d_X_letter_8 rfl hl (by decide) rfl (fun ls hl => ?_)
  refine lv_aload_nN hx hb d_X_letter_9 rfl (lv_at hl 0 rfl) ?_
  refine lv_ifnonnullN hx hb d_X_letter_10 ?_
  refine lv_iconst (v := (-1)) hx hb d_X_letter_13 (by decide) ?_
  refine lv_goto (tgt := 25) hx hb d_X_letter_14 (by decide) ?_
  exact z_iret hx hb hr hlocks hw (by refine ⟨congrArg some (congrArg Value.int ?_), rfl⟩; unfold oLetter; rw [if_neg (by rw [isIx_no ho]; decide)]) (by decide) (by decide) d_X_letter_25

theorem x_letter (l : Launch) (g : z_G) (h : z_H) {xo : Nat} {T : List Nat} {S : Sch} {R : Rec} {O : List Nat} {j : Nat} {a : Int32} {k : Int32} (hX : XAt g h xo T S R O j) : z_C l y_X_letter prog_1_method_6_code 4 (Option.some Jvm.ClassFile.FieldType.int) 3 90 0 0 g [.ref xo, .int a, .int k] h (fun x h1 => x = some (.int (oLetter S a k)) ∧ h = h1) := by
  have hb : S.1 < 2 ^ 31 := by obtain ⟨tp, b, ow, kn, pr, sp, r, mr, mr2, ra2, f, rf2, a2, c2, hxo, htp0, hb0, ⟨hfb, hT4, hT⟩, ⟨hO, hj⟩, ⟨⟨fa9, ca, adS, na, ff, cf, nf, hS⟩, hr0, hgr⟩, ⟨⟨ra, ad, tx, rf, tf, hN⟩, hpa⟩, ⟨hsp, hra2⟩, hmr⟩ := id hX; have hs8 : S.1 ≤ 128 := hS.2.2.2.2.2.2.2.1; have hR2 : R.1 ≤ 2000 := hN.2.2.2.2.2.1; omega
  rcases ix_cases a hb with ho | ⟨i, hi, rfl⟩
  · exact x_letter_no l g h hX ho
  · exact x_letter_in l g h hX hi

set_option maxHeartbeats 4000000 in
set_option maxRecDepth 100000 in
theorem x_nodes (l : Launch) (g : z_G) (h : z_H) {xo : Nat} {T : List Nat} {S : Sch} {R : Rec} {O : List Nat} {j : Nat}   (hX : XAt g h xo T S R O j)  : z_C l y_X_nodes prog_1_method_13_code 1 (Option.some Jvm.ClassFile.FieldType.int) 2 60 0 0 g [.ref xo] h (fun x h1 => x = some (.int (nI R.1)) ∧ h = h1) := by
  refine z_C.of (by decide) (Nat.le_of_ble_eq_true rfl) (fun pg en s m below meth cd A ls hx hb hml hr hts hown hlocks hnm hK hE hA hw hl => ?_)
  have hl : lv_has ls 1 [(0, .ref xo)] := hl
  obtain ⟨tp, b, ow, kn, pr, sp, r, mr, mr2, ra2, f, rf2, a2, c2, hxo, htp0, hb0, ⟨hfb, hT4, hT⟩, ⟨hO, hj⟩, ⟨⟨fa9, ca, adS, na, ff, cf, nf, hS⟩, hr0, hgr⟩, ⟨⟨ra, ad, tx, rf, tf, hN⟩, hpa⟩, ⟨hsp, hra2⟩, hmr⟩ := id hX
  have hkn := hS.1
  have hpr := hN.1
  have hs8 : S.1 ≤ 128 := hS.2.2.2.2.2.2.2.1
  have hcc8 : cc S ≤ 64 := hS.2.2.2.2.2.2.2.2
  have hR2 : R.1 ≤ 2000 := hN.2.2.2.2.2.1
  refine lv_aload_n hx hb d_X_nodes_0 rfl (lv_at hl 0 rfl) ?_
  refine z_get hx hb hts (z_lay i_X) hown hK hw hxo rfl 3 (by decide) (z_in k_149 rfl) (fun _ h9 => h9) rfl d_X_nodes_1 ?_
  refine z_getN hx hb hts (z_lay i_NodeRow) hown hK hw hpr rfl 1 (by decide) hE.nest (z_inN k_137 rfl) (fun _ h9 => h9) rfl d_X_nodes_4 ?_
  exact z_iret hx hb hr hlocks hw ⟨rfl, rfl⟩ (by decide) (by decide) d_X_nodes_7

set_option maxHeartbeats 4000000 in
set_option maxRecDepth 100000 in
theorem x_node_in (l : Launch) (g : z_G) (h : z_H) {xo : Nat} {T : List Nat} {S : Sch} {R : Rec} {O : List Nat} {j : Nat}  {k : Int32} {i : Nat}  (hX : XAt g h xo T S R O j) (hi : i < R.1) : z_C l y_X_node prog_1_method_14_code 4 (Option.some Jvm.ClassFile.FieldType.int) 3 90 0 0 g [.ref xo, .int (nI i), .int k] h (fun x h1 => x = some (.int (oNode R (nI i) k)) ∧ h = h1) := by
  refine z_C.of (by decide) (Nat.le_of_ble_eq_true rfl) (fun pg en s m below meth cd A ls hx hb hml hr hts hown hlocks hnm hK hE hA hw hl => ?_)
  have hl : lv_has ls 4 [(0, .ref xo), (1, .int (nI i)), (2, .int k)] := hl
  obtain ⟨tp, b, ow, kn, pr, sp, r, mr, mr2, ra2, f, rf2, a2, c2, hxo, htp0, hb0, ⟨hfb, hT4, hT⟩, ⟨hO, hj⟩, ⟨⟨fa9, ca, adS, na, ff, cf, nf, hS⟩, hr0, hgr⟩, ⟨⟨ra, ad, tx, rf, tf, hN⟩, hpa⟩, ⟨hsp, hra2⟩, hmr⟩ := id hX
  have hkn := hS.1
  have hpr := hN.1
  have hs8 : S.1 ≤ 128 := hS.2.2.2.2.2.2.2.1
  have hcc8 : cc S ≤ 64 := hS.2.2.2.2.2.2.2.2
  have hR2 : R.1 ≤ 2000 := hN.2.2.2.2.2.1
  have hni := (hN.2.2.1 i hi).2
  have htx9 := hN.2.2.2.1 i hi
  refine lv_aload_n hx hb d_X_node_0 rfl (lv_at hl 0 rfl) ?_
  refine z_get hx hb hts (z_lay i_X) hown hK hw hxo rfl 3 (by decide) (z_in k_149 rfl) (fun _ h9 => h9) rfl d_X_node_1 ?_
  refine lv_iload_n hx hb d_X_node_4 rfl (lv_at hl 1 rfl) ?_
  refine z_callV (n := 1) (As := [.int (nI i)]) (rest := []) ⟨hx, hb, hml, hown, hts⟩ (c_nodeAt (i := i) l g h hN hi) (z_in k_563 rfl) (z_in k_5 rfl) (z_in k_649 rfl) (z_in k_561 rfl) (z_in k_562 rfl) (by decide +kernel) ⟨by first | exact Nat.le_of_ble_eq_true rfl | (dsimp only; omega) | omega, by first | exact Nat.le_of_ble_eq_true rfl | (dsimp only; omega) | omega⟩ hK hE hw hA rfl hpr rfl hl.1 (Nat.le_of_ble_eq_true rfl) d_X_node_5 ⟨by first | exact Nat.le_of_ble_eq_true rfl | (dsimp only; omega) | omega, by first | exact Nat.le_of_ble_eq_true rfl | (dsimp only; omega) | omega⟩ rfl (fun r9 h9 H locs hp hw => ?_)
  obtain ⟨r8, h8⟩ := hp
  subst r8
  subst h8
  refine W.eq (g2 := F0 m 8 ls [.ref (ad i)]) rfl ?_
  refine lv_astore_n (lv' := [(3, .ref (ad i)), (0, .ref xo), (1, .int (nI i)), (2, .int k)]) hx hb d_X_node_8 rfl hl (by decide) rfl (fun ls hl => ?_)
  rcases htx9 with ⟨tx1, tx2⟩ | ⟨tx1, tx2, tx3⟩
  · -- text 0
    rw [tx1] at hni
    refine lv_aload_n hx hb d_X_node_9 rfl (lv_at hl 0 rfl) ?_
    refine lv_ifnonnull (tgt := 17) hx hb d_X_node_10 (by decide) ?_
    refine lv_aload_n hx hb d_X_node_17 rfl (lv_at hl 0 rfl) ?_
    refine lv_iload_n hx hb d_X_node_18 rfl (lv_at hl 3 rfl) ?_
    refine z_callV (n := 1) (As := [.int k]) (rest := []) ⟨hx, hb, hml, hown, hts⟩ (c_Node_property0 l g h hni) (z_in k_653 rfl) (z_in k_6 rfl) (z_in k_650 rfl) (z_in k_651 rfl) (z_in k_652 rfl) (by decide +kernel) ⟨by first | exact Nat.le_of_ble_eq_true rfl | (dsimp only; omega) | omega, by first | exact Nat.le_of_ble_eq_true rfl | (dsimp only; omega) | omega⟩ hK hE hw hA rfl hni rfl hl.1 (Nat.le_of_ble_eq_true rfl) d_X_node_19 ⟨by first | exact Nat.le_of_ble_eq_true rfl | (dsimp only; omega) | omega, by first | exact Nat.le_of_ble_eq_true rfl | (dsimp only; omega) | omega⟩ rfl (fun r9 h9 H locs hp hw => ?_)
    obtain ⟨r8, h8⟩ := hp
    subst r8
    subst h8
    refine W.eq (g2 := F0 m 22 ls [.int (swN k [ndFi (R.2 i), ndPa (R.2 i), nI (chC R.2 (nI i) R.1), nI 0] 0)]) rfl ?_
    exact z_iret hx hb hr hlocks hw (by refine ⟨congrArg some (congrArg Value.int ?_), rfl⟩; unfold oNode; rw [if_pos (isIx_yes hi (by omega)), nI_clamp (by omega)]; rw [tx2]; rfl) (by decide) (by decide) d_X_node_22
  · -- text T
    refine lv_aload_n hx hb d_X_node_9 rfl (lv_at hl 0 rfl) ?_
    refine lv_ifnonnull (tgt := 17) hx hb d_X_node_10 (by decide) ?_
    refine lv_aload_n hx hb d_X_node_17 rfl (lv_at hl 0 rfl) ?_
    refine lv_iload_n hx hb d_X_node_18 rfl (lv_at hl 3 rfl) ?_
    refine z_callV (n := 1) (As := [.int k]) (rest := []) ⟨hx, hb, hml, hown, hts⟩ (c_Node_property l g h hni tx1) (z_in k_653 rfl) (z_in k_6 rfl) (z_in k_650 rfl) (z_in k_651 rfl) (z_in k_652 rfl) (by decide +kernel) ⟨by first | exact Nat.le_of_ble_eq_true rfl | (dsimp only; omega) | omega, by first | exact Nat.le_of_ble_eq_true rfl | (dsimp only; omega) | omega⟩ hK hE hw hA rfl hni rfl hl.1 (Nat.le_of_ble_eq_true rfl) d_X_node_19 ⟨by first | exact Nat.le_of_ble_eq_true rfl | (dsimp only; omega) | omega, by first | exact Nat.le_of_ble_eq_true rfl | (dsimp only; omega) | omega⟩ rfl (fun r9 h9 H locs hp hw => ?_)
    obtain ⟨r8, h8⟩ := hp
    subst r8
    subst h8
    refine W.eq (g2 := F0 m 22 ls [.int (swN k [ndFi (R.2 i), ndPa (R.2 i), nI (chC R.2 (nI i) R.1), nI (ndTx (R.2 i)).length] 0)]) rfl ?_
    exact z_iret hx hb hr hlocks hw (by refine ⟨congrArg some (congrArg Value.int ?_), rfl⟩; unfold oNode; rw [if_pos (isIx_yes hi (by omega)), nI_clamp (by omega)]) (by decide) (by decide) d_X_node_22

set_option maxHeartbeats 4000000 in
set_option maxRecDepth 100000 in
theorem x_node_no (l : Launch) (g : z_G) (h : z_H) {xo : Nat} {T : List Nat} {S : Sch} {R : Rec} {O : List Nat} {j : Nat} {a : Int32} {k : Int32}  (hX : XAt g h xo T S R O j) (ho : a < 0 ∨ nI R.1 ≤ a) : z_C l y_X_node prog_1_method_14_code 4 (Option.some Jvm.ClassFile.FieldType.int) 3 90 0 0 g [.ref xo, .int a, .int k] h (fun x h1 => x = some (.int (oNode R a k)) ∧ h = h1) := by
  refine z_C.of (by decide) (Nat.le_of_ble_eq_true rfl) (fun pg en s m below meth cd A ls hx hb hml hr hts hown hlocks hnm hK hE hA hw hl => ?_)
  have hl : lv_has ls 4 [(0, .ref xo), (1, .int a), (2, .int k)] := hl
  obtain ⟨tp, b, ow, kn, pr, sp, r, mr, mr2, ra2, f, rf2, a2, c2, hxo, htp0, hb0, ⟨hfb, hT4, hT⟩, ⟨hO, hj⟩, ⟨⟨fa9, ca, adS, na, ff, cf, nf, hS⟩, hr0, hgr⟩, ⟨⟨ra, ad, tx, rf, tf, hN⟩, hpa⟩, ⟨hsp, hra2⟩, hmr⟩ := id hX
  have hkn := hS.1
  have hpr := hN.1
  have hs8 : S.1 ≤ 128 := hS.2.2.2.2.2.2.2.1
  have hcc8 : cc S ≤ 64 := hS.2.2.2.2.2.2.2.2
  have hR2 : R.1 ≤ 2000 := hN.2.2.2.2.2.1
  refine lv_aload_n hx hb d_X_node_0 rfl (lv_at hl 0 rfl) ?_
  refine z_get hx hb hts (z_lay i_X) hown hK hw hxo rfl 3 (by decide) (z_in k_149 rfl) (fun _ h9 => h9) rfl d_X_node_1 ?_
  refine lv_iload_n hx hb d_X_node_4 rfl (lv_at hl 1 rfl) ?_
  refine z_callV (n := 1) (As := [.int a]) (rest := []) ⟨hx, hb, hml, hown, hts⟩ (c_nodeAt_no l g h hN ho) (z_in k_563 rfl) (z_in k_5 rfl) (z_in k_649 rfl) (z_in k_561 rfl) (z_in k_562 rfl) (by decide +kernel) ⟨by first | exact Nat.le_of_ble_eq_true rfl | (dsimp only; omega) | omega, by first | exact Nat.le_of_ble_eq_true rfl | (dsimp only; omega) | omega⟩ hK hE hw hA rfl hpr rfl hl.1 (Nat.le_of_ble_eq_true rfl) d_X_node_5 ⟨by first | exact Nat.le_of_ble_eq_true rfl | (dsimp only; omega) | omega, by first | exact Nat.le_of_ble_eq_true rfl | (dsimp only; omega) | omega⟩ rfl (fun r9 h9 H locs hp hw => ?_)
  obtain ⟨r8, h8⟩ := hp
  subst r8
  subst h8
  refine W.eq (g2 := F0 m 8 ls [.null]) rfl ?_
  refine lv_astore_nN (lv' := [(3, .null), (0, .ref xo), (1, .int a), (2, .int k)]) hx hb d_X_node_8 rfl hl (by decide) rfl (fun ls hl => ?_)
  refine lv_aload_nN hx hb d_X_node_9 rfl (lv_at hl 0 rfl) ?_
  refine lv_ifnonnullN hx hb d_X_node_10 ?_
  refine lv_iconst (v := (-1)) hx hb d_X_node_13 (by decide) ?_
  refine lv_goto (tgt := 22) hx hb d_X_node_14 (by decide) ?_
  exact z_iret hx hb hr hlocks hw (by refine ⟨congrArg some (congrArg Value.int ?_), rfl⟩; unfold oNode; rw [if_neg (by rw [isIx_no ho]; decide)]) (by decide) (by decide) d_X_node_22

theorem x_node (l : Launch) (g : z_G) (h : z_H) {xo : Nat} {T : List Nat} {S : Sch} {R : Rec} {O : List Nat} {j : Nat} {a : Int32} {k : Int32} (hX : XAt g h xo T S R O j) : z_C l y_X_node prog_1_method_14_code 4 (Option.some Jvm.ClassFile.FieldType.int) 3 90 0 0 g [.ref xo, .int a, .int k] h (fun x h1 => x = some (.int (oNode R a k)) ∧ h = h1) := by
  have hb : R.1 < 2 ^ 31 := by obtain ⟨tp, b, ow, kn, pr, sp, r, mr, mr2, ra2, f, rf2, a2, c2, hxo, htp0, hb0, ⟨hfb, hT4, hT⟩, ⟨hO, hj⟩, ⟨⟨fa9, ca, adS, na, ff, cf, nf, hS⟩, hr0, hgr⟩, ⟨⟨ra, ad, tx, rf, tf, hN⟩, hpa⟩, ⟨hsp, hra2⟩, hmr⟩ := id hX; have hs8 : S.1 ≤ 128 := hS.2.2.2.2.2.2.2.1; have hR2 : R.1 ≤ 2000 := hN.2.2.2.2.2.1; omega
  rcases ix_cases a hb with ho | ⟨i, hi, rfl⟩
  · exact x_node_no l g h hX ho
  · exact x_node_in l g h hX hi

set_option maxHeartbeats 4000000 in
set_option maxRecDepth 100000 in
theorem x_value_in (l : Launch) (g : z_G) (h : z_H) {xo : Nat} {T : List Nat} {S : Sch} {R : Rec} {O : List Nat} {j : Nat}  {i : Nat}  (hX : XAt g h xo T S R O j) (hi : i < R.1) : z_C l y_X_value prog_1_method_15_code 3 (Option.some Jvm.ClassFile.FieldType.long) 3 90 0 0 g [.ref xo, .int (nI i)] h (fun x h1 => x = some (.long (oValue R (nI i))) ∧ h = h1) := by
  refine z_C.of (by decide) (Nat.le_of_ble_eq_true rfl) (fun pg en s m below meth cd A ls hx hb hml hr hts hown hlocks hnm hK hE hA hw hl => ?_)
  have hl : lv_has ls 3 [(0, .ref xo), (1, .int (nI i))] := hl
  obtain ⟨tp, b, ow, kn, pr, sp, r, mr, mr2, ra2, f, rf2, a2, c2, hxo, htp0, hb0, ⟨hfb, hT4, hT⟩, ⟨hO, hj⟩, ⟨⟨fa9, ca, adS, na, ff, cf, nf, hS⟩, hr0, hgr⟩, ⟨⟨ra, ad, tx, rf, tf, hN⟩, hpa⟩, ⟨hsp, hra2⟩, hmr⟩ := id hX
  have hkn := hS.1
  have hpr := hN.1
  have hs8 : S.1 ≤ 128 := hS.2.2.2.2.2.2.2.1
  have hcc8 : cc S ≤ 64 := hS.2.2.2.2.2.2.2.2
  have hR2 : R.1 ≤ 2000 := hN.2.2.2.2.2.1
  have hni := (hN.2.2.1 i hi).2
  have htx9 := hN.2.2.2.1 i hi
  refine lv_aload_n hx hb d_X_value_0 rfl (lv_at hl 0 rfl) ?_
  refine z_get hx hb hts (z_lay i_X) hown hK hw hxo rfl 3 (by decide) (z_in k_149 rfl) (fun _ h9 => h9) rfl d_X_value_1 ?_
  refine lv_iload_n hx hb d_X_value_4 rfl (lv_at hl 1 rfl) ?_
  refine z_callV (n := 1) (As := [.int (nI i)]) (rest := []) ⟨hx, hb, hml, hown, hts⟩ (c_nodeAt (i := i) l g h hN hi) (z_in k_563 rfl) (z_in k_5 rfl) (z_in k_649 rfl) (z_in k_561 rfl) (z_in k_562 rfl) (by decide +kernel) ⟨by first | exact Nat.le_of_ble_eq_true rfl | (dsimp only; omega) | omega, by first | exact Nat.le_of_ble_eq_true rfl | (dsimp only; omega) | omega⟩ hK hE hw hA rfl hpr rfl hl.1 (Nat.le_of_ble_eq_true rfl) d_X_value_5 ⟨by first | exact Nat.le_of_ble_eq_true rfl | (dsimp only; omega) | omega, by first | exact Nat.le_of_ble_eq_true rfl | (dsimp only; omega) | omega⟩ rfl (fun r9 h9 H locs hp hw => ?_)
  obtain ⟨r8, h8⟩ := hp
  subst r8
  subst h8
  refine W.eq (g2 := F0 m 8 ls [.ref (ad i)]) rfl ?_
  refine lv_astore_n (lv' := [(2, .ref (ad i)), (0, .ref xo), (1, .int (nI i))]) hx hb d_X_value_8 rfl hl (by decide) rfl (fun ls hl => ?_)
  refine lv_aload_n hx hb d_X_value_9 rfl (lv_at hl 0 rfl) ?_
  refine lv_ifnonnull (tgt := 17) hx hb d_X_value_10 (by decide) ?_
  refine lv_aload_n hx hb d_X_value_17 rfl (lv_at hl 0 rfl) ?_
  refine z_getN hx hb hts (z_lay i_Node) hown hK hw hni rfl 2 (by decide) hE.nest (z_inN k_109 rfl) (fun _ h9 => h9) rfl d_X_value_18 ?_
  exact z_lret hx hb hr hlocks hw (by refine ⟨congrArg some (congrArg Value.long ?_), rfl⟩; unfold oValue; rw [if_pos (isIx_yes hi (by omega)), nI_clamp (by omega)]) (by decide) (by decide) d_X_value_21

set_option maxHeartbeats 4000000 in
set_option maxRecDepth 100000 in
theorem x_value_no (l : Launch) (g : z_G) (h : z_H) {xo : Nat} {T : List Nat} {S : Sch} {R : Rec} {O : List Nat} {j : Nat} {a : Int32}  (hX : XAt g h xo T S R O j) (ho : a < 0 ∨ nI R.1 ≤ a) : z_C l y_X_value prog_1_method_15_code 3 (Option.some Jvm.ClassFile.FieldType.long) 3 90 0 0 g [.ref xo, .int a] h (fun x h1 => x = some (.long (oValue R a)) ∧ h = h1) := by
  refine z_C.of (by decide) (Nat.le_of_ble_eq_true rfl) (fun pg en s m below meth cd A ls hx hb hml hr hts hown hlocks hnm hK hE hA hw hl => ?_)
  have hl : lv_has ls 3 [(0, .ref xo), (1, .int a)] := hl
  obtain ⟨tp, b, ow, kn, pr, sp, r, mr, mr2, ra2, f, rf2, a2, c2, hxo, htp0, hb0, ⟨hfb, hT4, hT⟩, ⟨hO, hj⟩, ⟨⟨fa9, ca, adS, na, ff, cf, nf, hS⟩, hr0, hgr⟩, ⟨⟨ra, ad, tx, rf, tf, hN⟩, hpa⟩, ⟨hsp, hra2⟩, hmr⟩ := id hX
  have hkn := hS.1
  have hpr := hN.1
  have hs8 : S.1 ≤ 128 := hS.2.2.2.2.2.2.2.1
  have hcc8 : cc S ≤ 64 := hS.2.2.2.2.2.2.2.2
  have hR2 : R.1 ≤ 2000 := hN.2.2.2.2.2.1
  refine lv_aload_n hx hb d_X_value_0 rfl (lv_at hl 0 rfl) ?_
  refine z_get hx hb hts (z_lay i_X) hown hK hw hxo rfl 3 (by decide) (z_in k_149 rfl) (fun _ h9 => h9) rfl d_X_value_1 ?_
  refine lv_iload_n hx hb d_X_value_4 rfl (lv_at hl 1 rfl) ?_
  refine z_callV (n := 1) (As := [.int a]) (rest := []) ⟨hx, hb, hml, hown, hts⟩ (c_nodeAt_no l g h hN ho) (z_in k_563 rfl) (z_in k_5 rfl) (z_in k_649 rfl) (z_in k_561 rfl) (z_in k_562 rfl) (by decide +kernel) ⟨by first | exact Nat.le_of_ble_eq_true rfl | (dsimp only; omega) | omega, by first | exact Nat.le_of_ble_eq_true rfl | (dsimp only; omega) | omega⟩ hK hE hw hA rfl hpr rfl hl.1 (Nat.le_of_ble_eq_true rfl) d_X_value_5 ⟨by first | exact Nat.le_of_ble_eq_true rfl | (dsimp only; omega) | omega, by first | exact Nat.le_of_ble_eq_true rfl | (dsimp only; omega) | omega⟩ rfl (fun r9 h9 H locs hp hw => ?_)
  obtain ⟨r8, h8⟩ := hp
  subst r8
  subst h8
  refine W.eq (g2 := F0 m 8 ls [.null]) rfl ?_
  refine lv_astore_nN (lv' := [(2, .null), (0, .ref xo), (1, .int a)]) hx hb d_X_value_8 rfl hl (by decide) rfl (fun ls hl => ?_)
  refine lv_aload_nN hx hb d_X_value_9 rfl (lv_at hl 0 rfl) ?_
  refine lv_ifnonnullN hx hb d_X_value_10 ?_
  refine lv_lconst (v := 0) hx hb d_X_value_13 (by decide) ?_
  refine lv_goto (tgt := 21) hx hb d_X_value_14 (by decide) ?_
  exact z_lret hx hb hr hlocks hw (by refine ⟨congrArg some (congrArg Value.long ?_), rfl⟩; unfold oValue; rw [if_neg (by rw [isIx_no ho]; decide)]; try rfl) (by decide) (by decide) d_X_value_21

theorem x_value (l : Launch) (g : z_G) (h : z_H) {xo : Nat} {T : List Nat} {S : Sch} {R : Rec} {O : List Nat} {j : Nat} {a : Int32} (hX : XAt g h xo T S R O j) : z_C l y_X_value prog_1_method_15_code 3 (Option.some Jvm.ClassFile.FieldType.long) 3 90 0 0 g [.ref xo, .int a] h (fun x h1 => x = some (.long (oValue R a)) ∧ h = h1) := by
  have hb : R.1 < 2 ^ 31 := by obtain ⟨tp, b, ow, kn, pr, sp, r, mr, mr2, ra2, f, rf2, a2, c2, hxo, htp0, hb0, ⟨hfb, hT4, hT⟩, ⟨hO, hj⟩, ⟨⟨fa9, ca, adS, na, ff, cf, nf, hS⟩, hr0, hgr⟩, ⟨⟨ra, ad, tx, rf, tf, hN⟩, hpa⟩, ⟨hsp, hra2⟩, hmr⟩ := id hX; have hs8 : S.1 ≤ 128 := hS.2.2.2.2.2.2.2.1; have hR2 : R.1 ≤ 2000 := hN.2.2.2.2.2.1; omega
  rcases ix_cases a hb with ho | ⟨i, hi, rfl⟩
  · exact x_value_no l g h hX ho
  · exact x_value_in l g h hX hi

set_option maxHeartbeats 4000000 in
set_option maxRecDepth 100000 in
theorem x_textByte_in (l : Launch) (g : z_G) (h : z_H) {xo : Nat} {T : List Nat} {S : Sch} {R : Rec} {O : List Nat} {j : Nat}  {k : Int32} {i : Nat}  (hX : XAt g h xo T S R O j) (hi : i < R.1) : z_C l y_X_textByte prog_1_method_16_code 4 (Option.some Jvm.ClassFile.FieldType.int) 3 90 0 0 g [.ref xo, .int (nI i), .int k] h (fun x h1 => x = some (.int (oTextByte R (nI i) k)) ∧ h = h1) := by
  refine z_C.of (by decide) (Nat.le_of_ble_eq_true rfl) (fun pg en s m below meth cd A ls hx hb hml hr hts hown hlocks hnm hK hE hA hw hl => ?_)
  have hl : lv_has ls 4 [(0, .ref xo), (1, .int (nI i)), (2, .int k)] := hl
  obtain ⟨tp, b, ow, kn, pr, sp, r, mr, mr2, ra2, f, rf2, a2, c2, hxo, htp0, hb0, ⟨hfb, hT4, hT⟩, ⟨hO, hj⟩, ⟨⟨fa9, ca, adS, na, ff, cf, nf, hS⟩, hr0, hgr⟩, ⟨⟨ra, ad, tx, rf, tf, hN⟩, hpa⟩, ⟨hsp, hra2⟩, hmr⟩ := id hX
  have hkn := hS.1
  have hpr := hN.1
  have hs8 : S.1 ≤ 128 := hS.2.2.2.2.2.2.2.1
  have hcc8 : cc S ≤ 64 := hS.2.2.2.2.2.2.2.2
  have hR2 : R.1 ≤ 2000 := hN.2.2.2.2.2.1
  have hni := (hN.2.2.1 i hi).2
  have htx9 := hN.2.2.2.1 i hi
  refine lv_aload_n hx hb d_X_textByte_0 rfl (lv_at hl 0 rfl) ?_
  refine z_get hx hb hts (z_lay i_X) hown hK hw hxo rfl 3 (by decide) (z_in k_149 rfl) (fun _ h9 => h9) rfl d_X_textByte_1 ?_
  refine lv_iload_n hx hb d_X_textByte_4 rfl (lv_at hl 1 rfl) ?_
  refine z_callV (n := 1) (As := [.int (nI i)]) (rest := []) ⟨hx, hb, hml, hown, hts⟩ (c_nodeAt (i := i) l g h hN hi) (z_in k_563 rfl) (z_in k_5 rfl) (z_in k_649 rfl) (z_in k_561 rfl) (z_in k_562 rfl) (by decide +kernel) ⟨by first | exact Nat.le_of_ble_eq_true rfl | (dsimp only; omega) | omega, by first | exact Nat.le_of_ble_eq_true rfl | (dsimp only; omega) | omega⟩ hK hE hw hA rfl hpr rfl hl.1 (Nat.le_of_ble_eq_true rfl) d_X_textByte_5 ⟨by first | exact Nat.le_of_ble_eq_true rfl | (dsimp only; omega) | omega, by first | exact Nat.le_of_ble_eq_true rfl | (dsimp only; omega) | omega⟩ rfl (fun r9 h9 H locs hp hw => ?_)
  obtain ⟨r8, h8⟩ := hp
  subst r8
  subst h8
  refine W.eq (g2 := F0 m 8 ls [.ref (ad i)]) rfl ?_
  refine lv_astore_n (lv' := [(3, .ref (ad i)), (0, .ref xo), (1, .int (nI i)), (2, .int k)]) hx hb d_X_textByte_8 rfl hl (by decide) rfl (fun ls hl => ?_)
  rcases htx9 with ⟨tx1, tx2⟩ | ⟨tx1, tx2, tx3⟩
  · -- text 0
    rw [tx1] at hni
    refine lv_aload_n hx hb d_X_textByte_9 rfl (lv_at hl 0 rfl) ?_
    refine lv_ifnonnull (tgt := 17) hx hb d_X_textByte_10 (by decide) ?_
    refine lv_aload_n hx hb d_X_textByte_17 rfl (lv_at hl 0 rfl) ?_
    refine z_getN hx hb hts (z_lay i_Node) hown hK hw hni rfl 3 (by decide) hE.nest (z_inN k_112 rfl) (fun _ h9 => h9) rfl d_X_textByte_18 ?_
    refine lv_iload_n hx hb d_X_textByte_21 rfl (lv_at hl 3 rfl) ?_
    refine z_callS (n := 2) (As := [.ref (g.2.2 0), .int k]) (rest := []) ⟨hx, hb, hml, hown, hts⟩ (x_byteOf0 l g h) (z_in k_478 rfl) (z_in k_1 rfl) (z_in k_476 rfl) (z_in k_477 rfl) (by decide +kernel) ⟨by first | exact Nat.le_of_ble_eq_true rfl | (dsimp only; omega) | omega, by first | exact Nat.le_of_ble_eq_true rfl | (dsimp only; omega) | omega⟩ hK hE hw hA rfl hl.1 (Nat.le_of_ble_eq_true rfl) d_X_textByte_22 ⟨by first | exact Nat.le_of_ble_eq_true rfl | (dsimp only; omega) | omega, by first | exact Nat.le_of_ble_eq_true rfl | (dsimp only; omega) | omega⟩ rfl (fun r9 h9 H locs hp hw => ?_)
    obtain ⟨r8, h8⟩ := hp
    subst r8
    subst h8
    refine W.eq (g2 := F0 m 25 ls [.int (lbz [] k)]) rfl ?_
    exact z_iret hx hb hr hlocks hw (by refine ⟨congrArg some (congrArg Value.int ?_), rfl⟩; unfold oTextByte; rw [if_pos (isIx_yes hi (by omega)), nI_clamp (by omega)]; rw [tx2]) (by decide) (by decide) d_X_textByte_25
  · -- text T
    refine lv_aload_n hx hb d_X_textByte_9 rfl (lv_at hl 0 rfl) ?_
    refine lv_ifnonnull (tgt := 17) hx hb d_X_textByte_10 (by decide) ?_
    refine lv_aload_n hx hb d_X_textByte_17 rfl (lv_at hl 0 rfl) ?_
    refine z_getN hx hb hts (z_lay i_Node) hown hK hw hni rfl 3 (by decide) hE.nest (z_inN k_112 rfl) (fun _ h9 => h9) rfl d_X_textByte_18 ?_
    refine lv_iload_n hx hb d_X_textByte_21 rfl (lv_at hl 3 rfl) ?_
    refine z_callS (n := 2) (As := [.ref (tx i), .int k]) (rest := []) ⟨hx, hb, hml, hown, hts⟩ (x_byteOf (lq := ndTx (R.2 i)) l g h tx1 ⟨by omega, tx3⟩) (z_in k_478 rfl) (z_in k_1 rfl) (z_in k_476 rfl) (z_in k_477 rfl) (by decide +kernel) ⟨by first | exact Nat.le_of_ble_eq_true rfl | (dsimp only; omega) | omega, by first | exact Nat.le_of_ble_eq_true rfl | (dsimp only; omega) | omega⟩ hK hE hw hA rfl hl.1 (Nat.le_of_ble_eq_true rfl) d_X_textByte_22 ⟨by first | exact Nat.le_of_ble_eq_true rfl | (dsimp only; omega) | omega, by first | exact Nat.le_of_ble_eq_true rfl | (dsimp only; omega) | omega⟩ rfl (fun r9 h9 H locs hp hw => ?_)
    obtain ⟨r8, h8⟩ := hp
    subst r8
    subst h8
    refine W.eq (g2 := F0 m 25 ls [.int (lbz (ndTx (R.2 i)) k)]) rfl ?_
    exact z_iret hx hb hr hlocks hw (by refine ⟨congrArg some (congrArg Value.int ?_), rfl⟩; unfold oTextByte; rw [if_pos (isIx_yes hi (by omega)), nI_clamp (by omega)]) (by decide) (by decide) d_X_textByte_25

set_option maxHeartbeats 4000000 in
set_option maxRecDepth 100000 in
theorem x_textByte_no (l : Launch) (g : z_G) (h : z_H) {xo : Nat} {T : List Nat} {S : Sch} {R : Rec} {O : List Nat} {j : Nat} {a : Int32} {k : Int32}  (hX : XAt g h xo T S R O j) (ho : a < 0 ∨ nI R.1 ≤ a) : z_C l y_X_textByte prog_1_method_16_code 4 (Option.some Jvm.ClassFile.FieldType.int) 3 90 0 0 g [.ref xo, .int a, .int k] h (fun x h1 => x = some (.int (oTextByte R a k)) ∧ h = h1) := by
  refine z_C.of (by decide) (Nat.le_of_ble_eq_true rfl) (fun pg en s m below meth cd A ls hx hb hml hr hts hown hlocks hnm hK hE hA hw hl => ?_)
  have hl : lv_has ls 4 [(0, .ref xo), (1, .int a), (2, .int k)] := hl
  obtain ⟨tp, b, ow, kn, pr, sp, r, mr, mr2, ra2, f, rf2, a2, c2, hxo, htp0, hb0, ⟨hfb, hT4, hT⟩, ⟨hO, hj⟩, ⟨⟨fa9, ca, adS, na, ff, cf, nf, hS⟩, hr0, hgr⟩, ⟨⟨ra, ad, tx, rf, tf, hN⟩, hpa⟩, ⟨hsp, hra2⟩, hmr⟩ := id hX
  have hkn := hS.1
  have hpr := hN.1
  have hs8 : S.1 ≤ 128 := hS.2.2.2.2.2.2.2.1
  have hcc8 : cc S ≤ 64 := hS.2.2.2.2.2.2.2.2
  have hR2 : R.1 ≤ 2000 := hN.2.2.2.2.2.1
  refine lv_aload_n hx hb d_X_textByte_0 rfl (lv_at hl 0 rfl) ?_
  refine z_get hx hb hts (z_lay i_X) hown hK hw hxo rfl 3 (by decide) (z_in k_149 rfl) (fun _ h9 => h9) rfl d_X_textByte_1 ?_
  refine lv_iload_n hx hb d_X_textByte_4 rfl (lv_at hl 1 rfl) ?_
  refine z_callV (n := 1) (As := [.int a]) (rest := []) ⟨hx, hb, hml, hown, hts⟩ (c_nodeAt_no l g h hN ho) (z_in k_563 rfl) (z_in k_5 rfl) (z_in k_649 rfl) (z_in k_561 rfl) (z_in k_562 rfl) (by decide +kernel) ⟨by first | exact Nat.le_of_ble_eq_true rfl | (dsimp only; omega) | omega, by first | exact Nat.le_of_ble_eq_true rfl | (dsimp only; omega) | omega⟩ hK hE hw hA rfl hpr rfl hl.1 (Nat.le_of_ble_eq_true rfl) d_X_textByte_5 ⟨by first | exact Nat.le_of_ble_eq_true rfl | (dsimp only; omega) | omega, by first | exact Nat.le_of_ble_eq_true rfl | (dsimp only; omega) | omega⟩ rfl (fun r9 h9 H locs hp hw => ?_)
  obtain ⟨r8, h8⟩ := hp
  subst r8
  subst h8
  refine W.eq (g2 := F0 m 8 ls [.null]) rfl ?_
  refine lv_astore_nN (lv' := [(3, .null), (0, .ref xo), (1, .int a), (2, .int k)]) hx hb d_X_textByte_8 rfl hl (by decide) rfl (fun ls hl => ?_)
  refine lv_aload_nN hx hb d_X_textByte_9 rfl (lv_at hl 0 rfl) ?_
  refine lv_ifnonnullN hx hb d_X_textByte_10 ?_
  refine lv_iconst (v := (-1)) hx hb d_X_textByte_13 (by decide) ?_
  refine lv_goto (tgt := 25) hx hb d_X_textByte_14 (by decide) ?_
  exact z_iret hx hb hr hlocks hw (by refine ⟨congrArg some (congrArg Value.int ?_), rfl⟩; unfold oTextByte; rw [if_neg (by rw [isIx_no ho]; decide)]) (by decide) (by decide) d_X_textByte_25

theorem x_textByte (l : Launch) (g : z_G) (h : z_H) {xo : Nat} {T : List Nat} {S : Sch} {R : Rec} {O : List Nat} {j : Nat} {a : Int32} {k : Int32} (hX : XAt g h xo T S R O j) : z_C l y_X_textByte prog_1_method_16_code 4 (Option.some Jvm.ClassFile.FieldType.int) 3 90 0 0 g [.ref xo, .int a, .int k] h (fun x h1 => x = some (.int (oTextByte R a k)) ∧ h = h1) := by
  have hb : R.1 < 2 ^ 31 := by obtain ⟨tp, b, ow, kn, pr, sp, r, mr, mr2, ra2, f, rf2, a2, c2, hxo, htp0, hb0, ⟨hfb, hT4, hT⟩, ⟨hO, hj⟩, ⟨⟨fa9, ca, adS, na, ff, cf, nf, hS⟩, hr0, hgr⟩, ⟨⟨ra, ad, tx, rf, tf, hN⟩, hpa⟩, ⟨hsp, hra2⟩, hmr⟩ := id hX; have hs8 : S.1 ≤ 128 := hS.2.2.2.2.2.2.2.1; have hR2 : R.1 ≤ 2000 := hN.2.2.2.2.2.1; omega
  rcases ix_cases a hb with ho | ⟨i, hi, rfl⟩
  · exact x_textByte_no l g h hX ho
  · exact x_textByte_in l g h hX hi

set_option maxHeartbeats 4000000 in
set_option maxRecDepth 100000 in
theorem x_isWhole (l : Launch) (g : z_G) (h : z_H) {xo : Nat} {T : List Nat} {S : Sch} {R : Rec} {O : List Nat} {j : Nat}   (hX : XAt g h xo T S R O j) (hfo : fiOK S R) : z_C l y_X_isWhole prog_1_method_17_code 1 (Option.some Jvm.ClassFile.FieldType.boolean) 3 100 0 0 g [.ref xo] h (fun x h1 => x = some (.int (zb (oIsWhole S R))) ∧ h = h1) := by
  refine z_C.of (by decide) (Nat.le_of_ble_eq_true rfl) (fun pg en s m below meth cd A ls hx hb hml hr hts hown hlocks hnm hK hE hA hw hl => ?_)
  have hl : lv_has ls 1 [(0, .ref xo)] := hl
  obtain ⟨tp, b, ow, kn, pr, sp, r, mr, mr2, ra2, f, rf2, a2, c2, hxo, htp0, hb0, ⟨hfb, hT4, hT⟩, ⟨hO, hj⟩, ⟨⟨fa9, ca, adS, na, ff, cf, nf, hS⟩, hr0, hgr⟩, ⟨⟨ra, ad, tx, rf, tf, hN⟩, hpa⟩, ⟨hsp, hra2⟩, hmr⟩ := id hX
  have hkn := hS.1
  have hpr := hN.1
  have hs8 : S.1 ≤ 128 := hS.2.2.2.2.2.2.2.1
  have hcc8 : cc S ≤ 64 := hS.2.2.2.2.2.2.2.2
  have hR2 : R.1 ≤ 2000 := hN.2.2.2.2.2.1
  refine lv_aload_n hx hb d_X_isWhole_0 rfl (lv_at hl 0 rfl) ?_
  refine z_get hx hb hts (z_lay i_X) hown hK hw hxo rfl 2 (by decide) (z_in k_148 rfl) (fun _ h9 => h9) rfl d_X_isWhole_1 ?_
  refine z_getN hx hb hts (z_lay i_Schema) hown hK hw hkn rfl 2 (by decide) hE.nest (z_inN k_67 rfl) (fun _ h9 => h9) rfl d_X_isWhole_4 ?_
  refine lv_if_le (tgt := 28) hx hb d_X_isWhole_7 (by decide) (fun c_7 => ?_) (fun c_7 => ?_)
  · -- 7: True
    have c_7 : S.1 ≤ 0 := (nI_leI (a := S.1) (b := 0) (by omega) (by omega)).mp c_7
    refine lv_iconst (v := 0) hx hb d_X_isWhole_28 (by decide) ?_
    exact z_zret hx hb hr rfl hlocks hw (by refine ⟨congrArg some (congrArg Value.int ?_), rfl⟩; unfold oIsWhole; rw [decide_eq_false (by omega)]; rfl) (by decide) (by decide) d_X_isWhole_29
  · -- 7: False
    have c_7 : ¬ (S.1 ≤ 0) := fun z => c_7 ((nI_leI (a := S.1) (b := 0) (by omega) (by omega)).mpr z)
    refine lv_aload_n hx hb d_X_isWhole_10 rfl (lv_at hl 0 rfl) ?_
    refine z_get hx hb hts (z_lay i_X) hown hK hw hxo rfl 3 (by decide) (z_in k_149 rfl) (fun _ h9 => h9) rfl d_X_isWhole_11 ?_
    refine lv_aload_n hx hb d_X_isWhole_14 rfl (lv_at hl 0 rfl) ?_
    refine z_get hx hb hts (z_lay i_X) hown hK hw hxo rfl 2 (by decide) (z_in k_148 rfl) (fun _ h9 => h9) rfl d_X_isWhole_15 ?_
    refine z_callV (n := 1) (As := [.ref kn]) (rest := []) ⟨hx, hb, hml, hown, hts⟩ (c_lacksNothing l g h hN hS hfo) (z_in k_669 rfl) (z_in k_5 rfl) (z_in k_666 rfl) (z_in k_667 rfl) (z_in k_668 rfl) (by decide +kernel) ⟨by first | exact Nat.le_of_ble_eq_true rfl | (dsimp only; omega) | omega, by first | exact Nat.le_of_ble_eq_true rfl | (dsimp only; omega) | omega⟩ hK hE hw hA rfl hpr rfl hl.1 (Nat.le_of_ble_eq_true rfl) d_X_isWhole_18 ⟨by first | exact Nat.le_of_ble_eq_true rfl | (dsimp only; omega) | omega, by first | exact Nat.le_of_ble_eq_true rfl | (dsimp only; omega) | omega⟩ rfl (fun r9 h9 H locs hp hw => ?_)
    obtain ⟨r8, h8⟩ := hp
    subst r8
    subst h8
    refine W.eq (g2 := F0 m 21 ls [.int (zb (lkA S R))]) rfl ?_
    refine lv_if_eq (tgt := 28) hx hb d_X_isWhole_21 (by decide) (fun c_21 => ?_) (fun c_21 => ?_)
    · -- 21: True
      have c_21 : (lkA S R) = false := zb_f c_21
      refine lv_iconst (v := 0) hx hb d_X_isWhole_28 (by decide) ?_
      exact z_zret hx hb hr rfl hlocks hw (by refine ⟨congrArg some (congrArg Value.int ?_), rfl⟩; unfold oIsWhole; rw [decide_eq_true (by omega), c_21]; rfl) (by decide) (by decide) d_X_isWhole_29
    · -- 21: False
      have c_21 : (lkA S R) = true := zb_t c_21
      refine lv_iconst (v := 1) hx hb d_X_isWhole_24 (by decide) ?_
      refine lv_goto (tgt := 29) hx hb d_X_isWhole_25 (by decide) ?_
      exact z_zret hx hb hr rfl hlocks hw (by refine ⟨congrArg some (congrArg Value.int ?_), rfl⟩; unfold oIsWhole; rw [decide_eq_true (by omega), c_21]; rfl) (by decide) (by decide) d_X_isWhole_29

set_option maxHeartbeats 4000000 in
set_option maxRecDepth 100000 in
theorem x_output (l : Launch) (g : z_G) (h : z_H) {xo : Nat} {T : List Nat} {S : Sch} {R : Rec} {O : List Nat} {j : Nat} {k : Int32}  (hX : XAt g h xo T S R O j)  : z_C l y_X_output prog_1_method_19_code 2 (Option.some Jvm.ClassFile.FieldType.int) 2 60 0 0 g [.ref xo, .int k] h (fun x h1 => x = some (.int (lbz O k)) ∧ h = h1) := by
  refine z_C.of (by decide) (Nat.le_of_ble_eq_true rfl) (fun pg en s m below meth cd A ls hx hb hml hr hts hown hlocks hnm hK hE hA hw hl => ?_)
  have hl : lv_has ls 2 [(0, .ref xo), (1, .int k)] := hl
  obtain ⟨tp, b, ow, kn, pr, sp, r, mr, mr2, ra2, f, rf2, a2, c2, hxo, htp0, hb0, ⟨hfb, hT4, hT⟩, ⟨hO, hj⟩, ⟨⟨fa9, ca, adS, na, ff, cf, nf, hS⟩, hr0, hgr⟩, ⟨⟨ra, ad, tx, rf, tf, hN⟩, hpa⟩, ⟨hsp, hra2⟩, hmr⟩ := id hX
  have hkn := hS.1
  have hpr := hN.1
  have hs8 : S.1 ≤ 128 := hS.2.2.2.2.2.2.2.1
  have hcc8 : cc S ≤ 64 := hS.2.2.2.2.2.2.2.2
  have hR2 : R.1 ≤ 2000 := hN.2.2.2.2.2.1
  obtain ⟨ob, fo, how, hob, ho1, ho2, ho3⟩ := hO
  have hcj := capj_le O.length hj
  refine lv_aload_n hx hb d_X_output_0 rfl (lv_at hl 0 rfl) ?_
  refine z_get hx hb hts (z_lay i_X) hown hK hw hxo rfl 1 (by decide) (z_in k_147 rfl) (fun _ h9 => h9) rfl d_X_output_1 ?_
  refine lv_iload_n hx hb d_X_output_4 rfl (lv_at hl 1 rfl) ?_
  refine z_callV (n := 1) (As := [.int k]) (rest := []) ⟨hx, hb, hml, hown, hts⟩ (c_ByteRow_byteAt (o := fun i => O.getD i 0) l g h how hob ho1 (by omega) ho3) (z_in k_761 rfl) (z_in k_3 rfl) (z_in k_758 rfl) (z_in k_759 rfl) (z_in k_760 rfl) (by decide +kernel) ⟨by first | exact Nat.le_of_ble_eq_true rfl | (dsimp only; omega) | omega, by first | exact Nat.le_of_ble_eq_true rfl | (dsimp only; omega) | omega⟩ hK hE hw hA rfl how rfl hl.1 (Nat.le_of_ble_eq_true rfl) d_X_output_5 ⟨by first | exact Nat.le_of_ble_eq_true rfl | (dsimp only; omega) | omega, by first | exact Nat.le_of_ble_eq_true rfl | (dsimp only; omega) | omega⟩ rfl (fun r9 h9 H locs hp hw => ?_)
  obtain ⟨r8, h8⟩ := hp
  subst r8
  subst h8
  refine W.eq (g2 := F0 m 8 ls [.int (lbz O k)]) rfl ?_
  exact z_iret hx hb hr hlocks hw ⟨rfl, rfl⟩ (by decide) (by decide) d_X_output_8

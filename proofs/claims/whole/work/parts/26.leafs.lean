def zh (c : Int32) : Int32 := if isDig c = true then c - 48 else if 97 ≤ c ∧ c ≤ 102 then c - 97 + 10 else -1
/-- a \\ and what is behind it -/
def escR (t : Nat → Nat) (n p : Nat) : Sum Nat (Int32 × Nat) :=
  if bt t n (p + 1) = 39 ∨ bt t n (p + 1) = 92 then .inr (bt t n (p + 1), p + 2)
  else if ¬ bt t n (p + 1) = 120 then .inl (if bt t n (p + 1) = -1 then n else p)
  else if zh (bt t n (p + 2)) = -1 then .inl (if bt t n (p + 2) = -1 then n else p)
  else if zh (bt t n (p + 3)) = -1 then .inl (if bt t n (p + 3) = -1 then n else p)
  else .inr (zh (bt t n (p + 2)) * 16 + zh (bt t n (p + 3)), p + 4)
def plnR (t : Nat → Nat) (n p : Nat) : Sum Nat (Int32 × Nat) := if bt t n p < 32 ∨ 126 < bt t n p then .inl p else .inr (bt t n p, p + 1)

set_option maxHeartbeats 4000000 in
set_option maxRecDepth 100000 in
theorem c_hexDigit (l : Launch) (g : z_G) (h : z_H) {k : Int32}   : z_C l y_RecordReader_hexDigit prog_6_method_13_code 1 (Option.some Jvm.ClassFile.FieldType.int) 1 20 0 0 g [.int k] h (fun r h1 => r = some (.int (zh k)) ∧ h = h1) := by
  refine z_C.of (by decide) (Nat.le_of_ble_eq_true rfl) (fun pg en s m below meth cd A ls hx hb hml hr hts hown hlocks hnm hK hE hA hw hl => ?_)
  have hl : lv_has ls 1 [(0, .int k)] := hl
  refine lv_iload_n hx hb d_RecordReader_hexDigit_0 rfl (lv_at hl 0 rfl) ?_
  refine z_callS (n := 1) (As := [.int k]) (rest := []) ⟨hx, hb, hml, hown, hts⟩ (c_Scanner_isDigit l g h) (z_in k_268 rfl) (z_in k_8 rfl) (z_in k_575 rfl) (z_in k_267 rfl) (by decide +kernel) ⟨by first | exact Nat.le_of_ble_eq_true rfl | (dsimp only; omega) | omega, by first | exact Nat.le_of_ble_eq_true rfl | (dsimp only; omega) | omega⟩ hK hE hw hA rfl hl.1 (Nat.le_of_ble_eq_true rfl) d_RecordReader_hexDigit_1 ⟨by first | exact Nat.le_of_ble_eq_true rfl | (dsimp only; omega) | omega, by first | exact Nat.le_of_ble_eq_true rfl | (dsimp only; omega) | omega⟩ rfl (fun r9 h9 H locs hp hw => ?_)
  obtain ⟨r8, h8⟩ := hp
  subst r8
  subst h8
  refine W.eq (g2 := F0 m 4 ls [.int (zb (isDig k))]) rfl ?_
  refine lv_if_eq (tgt := 12) hx hb d_RecordReader_hexDigit_4 (by decide) (fun c_4 => ?_) (fun c_4 => ?_)
  · -- 4: True
    have c_4 : (isDig k) = false := zb_f c_4
    refine lv_iload_n hx hb d_RecordReader_hexDigit_12 rfl (lv_at hl 0 rfl) ?_
    refine lv_bipush (v := 97) hx hb d_RecordReader_hexDigit_13 (by decide) ?_
    refine lv_icmp_lt (tgt := 34) hx hb d_RecordReader_hexDigit_15 (by decide) (fun c_15 => ?_) (fun c_15 => ?_)
    · -- 15: True
      refine lv_iconst (v := (-1)) hx hb d_RecordReader_hexDigit_34 (by decide) ?_
      exact z_iret hx hb hr hlocks hw (by refine ⟨congrArg some (congrArg Value.int ?_), rfl⟩; unfold zh; rw [if_neg (by rw [c_4]; decide)]; rw [if_neg (fun z => absurd c_15 (by have z1 := z.1; rw [Int32.le_iff_toInt_le] at z1; rw [Int32.lt_iff_toInt_lt]; omega))]) (by decide) (by decide) d_RecordReader_hexDigit_35
    · -- 15: False
      refine lv_iload_n hx hb d_RecordReader_hexDigit_18 rfl (lv_at hl 0 rfl) ?_
      refine lv_bipush (v := 102) hx hb d_RecordReader_hexDigit_19 (by decide) ?_
      refine lv_icmp_gt (tgt := 34) hx hb d_RecordReader_hexDigit_21 (by decide) (fun c_21 => ?_) (fun c_21 => ?_)
      · -- 21: True
        refine lv_iconst (v := (-1)) hx hb d_RecordReader_hexDigit_34 (by decide) ?_
        exact z_iret hx hb hr hlocks hw (by refine ⟨congrArg some (congrArg Value.int ?_), rfl⟩; unfold zh; rw [if_neg (by rw [c_4]; decide)]; rw [if_neg (fun z => absurd c_21 (by have z1 := z.2; rw [Int32.le_iff_toInt_le] at z1; rw [Int32.lt_iff_toInt_lt]; omega))]) (by decide) (by decide) d_RecordReader_hexDigit_35
      · -- 21: False
        refine lv_iload_n hx hb d_RecordReader_hexDigit_24 rfl (lv_at hl 0 rfl) ?_
        refine lv_bipush (v := 97) hx hb d_RecordReader_hexDigit_25 (by decide) ?_
        refine lv_isub hx hb d_RecordReader_hexDigit_27 ?_
        refine lv_bipush (v := 10) hx hb d_RecordReader_hexDigit_28 (by decide) ?_
        refine lv_iadd hx hb d_RecordReader_hexDigit_30 ?_
        refine lv_goto (tgt := 35) hx hb d_RecordReader_hexDigit_31 (by decide) ?_
        exact z_iret hx hb hr hlocks hw (by refine ⟨congrArg some (congrArg Value.int ?_), rfl⟩; unfold zh; rw [if_neg (by rw [c_4]; decide)]; rw [if_pos ⟨by have z := c_15; rw [Int32.lt_iff_toInt_lt] at z; rw [Int32.le_iff_toInt_le]; omega, by have z := c_21; rw [Int32.lt_iff_toInt_lt] at z; rw [Int32.le_iff_toInt_le]; omega⟩]) (by decide) (by decide) d_RecordReader_hexDigit_35
  · -- 4: False
    have c_4 : (isDig k) = true := zb_t c_4
    refine lv_iload_n hx hb d_RecordReader_hexDigit_7 rfl (lv_at hl 0 rfl) ?_
    refine lv_bipush (v := 48) hx hb d_RecordReader_hexDigit_8 (by decide) ?_
    refine lv_isub hx hb d_RecordReader_hexDigit_10 ?_
    exact z_iret hx hb hr hlocks hw (by refine ⟨congrArg some (congrArg Value.int ?_), rfl⟩; unfold zh; rw [if_pos c_4]) (by decide) (by decide) d_RecordReader_hexDigit_11

set_option maxHeartbeats 4000000 in
set_option maxRecDepth 100000 in
theorem c_failEscape (l : Launch) (g : z_G) (h : z_H) {rd sc q w tr b n p : Nat} {fa ws wd : Int32} {nu9 : Int64} {k : Int32} (hrd : h rd = some ((8, 0), .inr (9, [.ref sc, .ref q, .ref w, .ref tr, .long nu9]))) (hsc : h sc = some ((6, 0), .inr (7, [.ref b, .int (nI n), .int (nI p), .int fa, .int ws, .int wd])))  : z_C l y_RecordReader_failEscape prog_6_method_12_code 2 (Option.some Jvm.ClassFile.FieldType.int) 1 30 0 0 g [.ref rd, .int k] h (fun r h1 => r = some (.int (-1)) ∧ z_put h sc (6, 0) (scE b n p (nI (if k = -1 then n else p)) ws wd) = h1) := by
  refine z_C.of (by decide) (Nat.le_of_ble_eq_true rfl) (fun pg en s m below meth cd A ls hx hb hml hr hts hown hlocks hnm hK hE hA hw hl => ?_)
  have hl : lv_has ls 2 [(0, .ref rd), (1, .int k)] := hl
  refine lv_aload_n hx hb d_RecordReader_failEscape_0 rfl (lv_at hl 0 rfl) ?_
  refine z_get hx hb hts (z_lay i_RecordReader) hown hK hw hrd rfl 0 (by decide) (z_in k_502 rfl) (fun _ h9 => h9) rfl d_RecordReader_failEscape_1 ?_
  refine lv_iload_n hx hb d_RecordReader_failEscape_4 rfl (lv_at hl 1 rfl) ?_
  refine lv_iconst (v := (-1)) hx hb d_RecordReader_failEscape_5 (by decide) ?_
  refine lv_icmp_ne (tgt := 19) hx hb d_RecordReader_failEscape_6 (by decide) (fun c_6 => ?_) (fun c_6 => ?_)
  · -- 6: True
    refine lv_aload_n hx hb d_RecordReader_failEscape_19 rfl (lv_at hl 0 rfl) ?_
    refine z_get hx hb hts (z_lay i_RecordReader) hown hK hw hrd rfl 0 (by decide) (z_in k_502 rfl) (fun _ h9 => h9) rfl d_RecordReader_failEscape_20 ?_
    refine z_getN hx hb hts (z_lay i_Scanner) hown hK hw hsc rfl 2 (by decide) hE.nest (z_inN k_192 rfl) (fun _ h9 => h9) rfl d_RecordReader_failEscape_23 ?_
    refine z_callV (n := 1) (As := [.int (nI p)]) (rest := []) ⟨hx, hb, hml, hown, hts⟩ (c_Scanner_fail l g h hsc) (z_in k_262 rfl) (z_in k_8 rfl) (z_in k_564 rfl) (z_in k_260 rfl) (z_in k_261 rfl) (by decide +kernel) ⟨by first | exact Nat.le_of_ble_eq_true rfl | (dsimp only; omega) | omega, by first | exact Nat.le_of_ble_eq_true rfl | (dsimp only; omega) | omega⟩ hK hE hw hA rfl hsc rfl hl.1 (Nat.le_of_ble_eq_true rfl) d_RecordReader_failEscape_26 ⟨by first | exact Nat.le_of_ble_eq_true rfl | (dsimp only; omega) | omega, by first | exact Nat.le_of_ble_eq_true rfl | (dsimp only; omega) | omega⟩ rfl (fun r9 h9 H locs hp hw => ?_)
    obtain ⟨r8, hh1⟩ := hp
    subst r8
    obtain ⟨h1, e8⟩ : ∃ x9, x9 = h9 := ⟨_, rfl⟩
    subst e8
    have f1_rd : h1 rd = some ((8, 0), .inr (9, [.ref sc, .ref q, .ref w, .ref tr, .long nu9])) := by rw [← hh1]; exact z_keep hsc hrd (z_t1 (by decide))
    have f1_sc : h1 sc = some ((6, 0), .inr (7, [.ref b, .int (nI n), .int (nI p), .int (nI p), .int ws, .int wd])) := by rw [← hh1]; exact z_put_eq
    refine W.eq (g2 := F0 m 29 ls [.int 0]) rfl ?_
    refine lv_pop hx hb d_RecordReader_failEscape_29 rfl ?_
    refine lv_iconst (v := (-1)) hx hb d_RecordReader_failEscape_30 (by decide) ?_
    exact z_iret hx hb hr hlocks hw ⟨rfl, by rw [if_neg c_6]; exact hh1⟩ (by decide) (by decide) d_RecordReader_failEscape_31
  · -- 6: False
    refine lv_aload_n hx hb d_RecordReader_failEscape_9 rfl (lv_at hl 0 rfl) ?_
    refine z_get hx hb hts (z_lay i_RecordReader) hown hK hw hrd rfl 0 (by decide) (z_in k_502 rfl) (fun _ h9 => h9) rfl d_RecordReader_failEscape_10 ?_
    refine z_getN hx hb hts (z_lay i_Scanner) hown hK hw hsc rfl 1 (by decide) hE.nest (z_inN k_190 rfl) (fun _ h9 => h9) rfl d_RecordReader_failEscape_13 ?_
    refine lv_goto (tgt := 26) hx hb d_RecordReader_failEscape_16 (by decide) ?_
    refine z_callV (n := 1) (As := [.int (nI n)]) (rest := []) ⟨hx, hb, hml, hown, hts⟩ (c_Scanner_fail l g h hsc) (z_in k_262 rfl) (z_in k_8 rfl) (z_in k_564 rfl) (z_in k_260 rfl) (z_in k_261 rfl) (by decide +kernel) ⟨by first | exact Nat.le_of_ble_eq_true rfl | (dsimp only; omega) | omega, by first | exact Nat.le_of_ble_eq_true rfl | (dsimp only; omega) | omega⟩ hK hE hw hA rfl hsc rfl hl.1 (Nat.le_of_ble_eq_true rfl) d_RecordReader_failEscape_26 ⟨by first | exact Nat.le_of_ble_eq_true rfl | (dsimp only; omega) | omega, by first | exact Nat.le_of_ble_eq_true rfl | (dsimp only; omega) | omega⟩ rfl (fun r9 h9 H locs hp hw => ?_)
    obtain ⟨r8, hh2⟩ := hp
    subst r8
    obtain ⟨h2, e8⟩ : ∃ x9, x9 = h9 := ⟨_, rfl⟩
    subst e8
    have f2_rd : h2 rd = some ((8, 0), .inr (9, [.ref sc, .ref q, .ref w, .ref tr, .long nu9])) := by rw [← hh2]; exact z_keep hsc hrd (z_t1 (by decide))
    have f2_sc : h2 sc = some ((6, 0), .inr (7, [.ref b, .int (nI n), .int (nI p), .int (nI n), .int ws, .int wd])) := by rw [← hh2]; exact z_put_eq
    refine W.eq (g2 := F0 m 29 ls [.int 0]) rfl ?_
    refine lv_pop hx hb d_RecordReader_failEscape_29 rfl ?_
    refine lv_iconst (v := (-1)) hx hb d_RecordReader_failEscape_30 (by decide) ?_
    exact z_iret hx hb hr hlocks hw ⟨rfl, by rw [if_pos c_6]; exact hh2⟩ (by decide) (by decide) d_RecordReader_failEscape_31

set_option maxHeartbeats 4000000 in
set_option maxRecDepth 100000 in
theorem c_readPlain (l : Launch) (g : z_G) (h : z_H) {rd sc q w tr b len n p : Nat} {f : Nat → Int32} {fa ws wd : Int32} {nu9 : Int64} {t : Nat → Nat} (hrd : h rd = some ((8, 0), .inr (9, [.ref sc, .ref q, .ref w, .ref tr, .long nu9]))) (hsc : h sc = some ((6, 0), .inr (7, [.ref b, .int (nI n), .int (nI p), .int fa, .int ws, .int wd]))) (hb0 : h b = some ((3, 0), .inl (g.2.1 0, len, .inl f)))  : z_C l y_RecordReader_readPlain prog_6_method_10_code 2 (Option.some Jvm.ClassFile.FieldType.int) 2 50 0 0 g [.ref rd, .int (bt t n p)] h (wdP (plnR t n p) h sc b n) := by
  refine z_C.of (by decide) (Nat.le_of_ble_eq_true rfl) (fun pg en s m below meth cd A ls hx hb hml hr hts hown hlocks hnm hK hE hA hw hl => ?_)
  have hl : lv_has ls 2 [(0, .ref rd), (1, .int (bt t n p))] := hl
  refine lv_iload_n hx hb d_RecordReader_readPlain_0 rfl (lv_at hl 1 rfl) ?_
  refine lv_bipush (v := 32) hx hb d_RecordReader_readPlain_1 (by decide) ?_
  refine lv_icmp_lt (tgt := 12) hx hb d_RecordReader_readPlain_3 (by decide) (fun c_3 => ?_) (fun c_3 => ?_)
  · -- 3: True
    refine lv_aload_n hx hb d_RecordReader_readPlain_12 rfl (lv_at hl 0 rfl) ?_
    refine z_get hx hb hts (z_lay i_RecordReader) hown hK hw hrd rfl 0 (by decide) (z_in k_502 rfl) (fun _ h9 => h9) rfl d_RecordReader_readPlain_13 ?_
    refine z_callV (n := 0) (As := []) (rest := []) ⟨hx, hb, hml, hown, hts⟩ (c_Scanner_failHere l g h hsc) (z_in k_258 rfl) (z_in k_8 rfl) (z_in k_522 rfl) (z_in k_256 rfl) (z_in k_257 rfl) (by decide +kernel) ⟨by first | exact Nat.le_of_ble_eq_true rfl | (dsimp only; omega) | omega, by first | exact Nat.le_of_ble_eq_true rfl | (dsimp only; omega) | omega⟩ hK hE hw hA rfl hsc rfl hl.1 (Nat.le_of_ble_eq_true rfl) d_RecordReader_readPlain_16 ⟨by first | exact Nat.le_of_ble_eq_true rfl | (dsimp only; omega) | omega, by first | exact Nat.le_of_ble_eq_true rfl | (dsimp only; omega) | omega⟩ rfl (fun r9 h9 H locs hp hw => ?_)
    obtain ⟨r8, hh1⟩ := hp
    subst r8
    obtain ⟨h1, e8⟩ : ∃ x9, x9 = h9 := ⟨_, rfl⟩
    subst e8
    have f1_rd : h1 rd = some ((8, 0), .inr (9, [.ref sc, .ref q, .ref w, .ref tr, .long nu9])) := by rw [← hh1]; exact z_keep hsc hrd (z_t1 (by decide))
    have f1_sc : h1 sc = some ((6, 0), .inr (7, [.ref b, .int (nI n), .int (nI p), .int (nI p), .int ws, .int wd])) := by rw [← hh1]; exact z_put_eq
    have f1_b : h1 b = some ((3, 0), .inl (g.2.1 0, len, .inl f)) := by rw [← hh1]; exact z_keep hsc hb0 (z_t1 (by decide))
    refine W.eq (g2 := F0 m 19 ls [.int 0]) rfl ?_
    refine lv_pop hx hb d_RecordReader_readPlain_19 rfl ?_
    refine lv_iconst (v := (-1)) hx hb d_RecordReader_readPlain_20 (by decide) ?_
    exact z_iret hx hb hr hlocks hw (by unfold plnR; rw [if_pos (Or.inl c_3)]; exact ⟨rfl, _, _, _, hh1⟩) (by decide) (by decide) d_RecordReader_readPlain_21
  · -- 3: False
    refine lv_iload_n hx hb d_RecordReader_readPlain_6 rfl (lv_at hl 1 rfl) ?_
    refine lv_bipush (v := 126) hx hb d_RecordReader_readPlain_7 (by decide) ?_
    refine lv_icmp_le (tgt := 22) hx hb d_RecordReader_readPlain_9 (by decide) (fun c_9 => ?_) (fun c_9 => ?_)
    · -- 9: True
      refine lv_aload_n hx hb d_RecordReader_readPlain_22 rfl (lv_at hl 0 rfl) ?_
      refine z_get hx hb hts (z_lay i_RecordReader) hown hK hw hrd rfl 0 (by decide) (z_in k_502 rfl) (fun _ h9 => h9) rfl d_RecordReader_readPlain_23 ?_
      refine lv_iconst (v := 1) hx hb d_RecordReader_readPlain_26 (by decide) ?_
      refine z_callV (n := 1) (As := [.int 1]) (rest := []) ⟨hx, hb, hml, hown, hts⟩ (c_Scanner_step (d := 1) l g h hsc) (z_in k_574 rfl) (z_in k_8 rfl) (z_in k_571 rfl) (z_in k_572 rfl) (z_in k_573 rfl) (by decide +kernel) ⟨by first | exact Nat.le_of_ble_eq_true rfl | (dsimp only; omega) | omega, by first | exact Nat.le_of_ble_eq_true rfl | (dsimp only; omega) | omega⟩ hK hE hw hA rfl hsc rfl hl.1 (Nat.le_of_ble_eq_true rfl) d_RecordReader_readPlain_27 ⟨by first | exact Nat.le_of_ble_eq_true rfl | (dsimp only; omega) | omega, by first | exact Nat.le_of_ble_eq_true rfl | (dsimp only; omega) | omega⟩ rfl (fun r9 h9 H locs hp hw => ?_)
      obtain ⟨r8, hh2⟩ := hp
      subst r8
      obtain ⟨h2, e8⟩ : ∃ x9, x9 = h9 := ⟨_, rfl⟩
      subst e8
      have f2_rd : h2 rd = some ((8, 0), .inr (9, [.ref sc, .ref q, .ref w, .ref tr, .long nu9])) := by rw [← hh2]; exact z_keep hsc hrd (z_t1 (by decide))
      have f2_sc : h2 sc = some ((6, 0), .inr (7, [.ref b, .int (nI n), .int (nI (p + 1)), .int fa, .int ws, .int wd])) := by rw [← hh2]; exact z_put_eq
      have f2_b : h2 b = some ((3, 0), .inl (g.2.1 0, len, .inl f)) := by rw [← hh2]; exact z_keep hsc hb0 (z_t1 (by decide))
      refine W.eq (g2 := F0 m 30 ls []) rfl ?_
      refine lv_iload_n hx hb d_RecordReader_readPlain_30 rfl (lv_at hl 1 rfl) ?_
      exact z_iret hx hb hr hlocks hw (by unfold plnR; rw [if_neg (fun z => by rcases z with z | z; exact absurd z c_3; have z2 := c_9; rw [Int32.le_iff_toInt_le] at z2; rw [Int32.lt_iff_toInt_lt] at z; omega)]; exact ⟨rfl, _, _, _, hh2⟩) (by decide) (by decide) d_RecordReader_readPlain_31
    · -- 9: False
      refine lv_aload_n hx hb d_RecordReader_readPlain_12 rfl (lv_at hl 0 rfl) ?_
      refine z_get hx hb hts (z_lay i_RecordReader) hown hK hw hrd rfl 0 (by decide) (z_in k_502 rfl) (fun _ h9 => h9) rfl d_RecordReader_readPlain_13 ?_
      refine z_callV (n := 0) (As := []) (rest := []) ⟨hx, hb, hml, hown, hts⟩ (c_Scanner_failHere l g h hsc) (z_in k_258 rfl) (z_in k_8 rfl) (z_in k_522 rfl) (z_in k_256 rfl) (z_in k_257 rfl) (by decide +kernel) ⟨by first | exact Nat.le_of_ble_eq_true rfl | (dsimp only; omega) | omega, by first | exact Nat.le_of_ble_eq_true rfl | (dsimp only; omega) | omega⟩ hK hE hw hA rfl hsc rfl hl.1 (Nat.le_of_ble_eq_true rfl) d_RecordReader_readPlain_16 ⟨by first | exact Nat.le_of_ble_eq_true rfl | (dsimp only; omega) | omega, by first | exact Nat.le_of_ble_eq_true rfl | (dsimp only; omega) | omega⟩ rfl (fun r9 h9 H locs hp hw => ?_)
      obtain ⟨r8, hh3⟩ := hp
      subst r8
      obtain ⟨h3, e8⟩ : ∃ x9, x9 = h9 := ⟨_, rfl⟩
      subst e8
      have f3_rd : h3 rd = some ((8, 0), .inr (9, [.ref sc, .ref q, .ref w, .ref tr, .long nu9])) := by rw [← hh3]; exact z_keep hsc hrd (z_t1 (by decide))
      have f3_sc : h3 sc = some ((6, 0), .inr (7, [.ref b, .int (nI n), .int (nI p), .int (nI p), .int ws, .int wd])) := by rw [← hh3]; exact z_put_eq
      have f3_b : h3 b = some ((3, 0), .inl (g.2.1 0, len, .inl f)) := by rw [← hh3]; exact z_keep hsc hb0 (z_t1 (by decide))
      refine W.eq (g2 := F0 m 19 ls [.int 0]) rfl ?_
      refine lv_pop hx hb d_RecordReader_readPlain_19 rfl ?_
      refine lv_iconst (v := (-1)) hx hb d_RecordReader_readPlain_20 (by decide) ?_
      exact z_iret hx hb hr hlocks hw (by unfold plnR; rw [if_pos (Or.inr (by have z := c_9; rw [Int32.le_iff_toInt_le] at z; rw [Int32.lt_iff_toInt_lt]; omega))]; exact ⟨rfl, _, _, _, hh3⟩) (by decide) (by decide) d_RecordReader_readPlain_21

set_option maxHeartbeats 4000000 in
set_option maxRecDepth 100000 in
theorem c_readEscape (l : Launch) (g : z_G) (h : z_H) {rd sc q w tr b len n p : Nat} {f : Nat → Int32} {fa ws wd : Int32} {nu9 : Int64} {t : Nat → Nat} (hrd : h rd = some ((8, 0), .inr (9, [.ref sc, .ref q, .ref w, .ref tr, .long nu9]))) (hsc : h sc = some ((6, 0), .inr (7, [.ref b, .int (nI n), .int (nI p), .int fa, .int ws, .int wd]))) (hb0 : h b = some ((3, 0), .inl (g.2.1 0, len, .inl f))) (hn : n ≤ len) (hlen : len < 2 ^ 31) (hf : ∀ k, k < n → t k < 256 ∧ f k = sb_b (t k)) (hp : p ≤ n) (hl29 : len < 2 ^ 29) : z_C l y_RecordReader_readEscape prog_6_method_11_code 4 (Option.some Jvm.ClassFile.FieldType.int) 3 80 0 0 g [.ref rd] h (wdP (escR t n p) h sc b n) := by
  refine z_C.of (by decide) (Nat.le_of_ble_eq_true rfl) (fun pg en s m below meth cd A ls hx hb hml hr hts hown hlocks hnm hK hE hA hw hl => ?_)
  have hl : lv_has ls 4 [(0, .ref rd)] := hl
  refine lv_aload_n hx hb d_RecordReader_readEscape_0 rfl (lv_at hl 0 rfl) ?_
  refine z_get hx hb hts (z_lay i_RecordReader) hown hK hw hrd rfl 0 (by decide) (z_in k_502 rfl) (fun _ h9 => h9) rfl d_RecordReader_readEscape_1 ?_
  refine lv_aload_n hx hb d_RecordReader_readEscape_4 rfl (lv_at hl 0 rfl) ?_
  refine z_get hx hb hts (z_lay i_RecordReader) hown hK hw hrd rfl 0 (by decide) (z_in k_502 rfl) (fun _ h9 => h9) rfl d_RecordReader_readEscape_5 ?_
  refine z_getN hx hb hts (z_lay i_Scanner) hown hK hw hsc rfl 2 (by decide) hE.nest (z_inN k_192 rfl) (fun _ h9 => h9) rfl d_RecordReader_readEscape_8 ?_
  refine lv_iconst (v := 1) hx hb d_RecordReader_readEscape_11 (by decide) ?_
  refine lv_iadd hx hb d_RecordReader_readEscape_12 ?_
  refine z_topi (y := nI (p + 1)) (nI_add p 1) ?_
  refine z_callV (n := 1) (As := [.int (nI (p + 1))]) (rest := []) ⟨hx, hb, hml, hown, hts⟩ (c_Scanner_byteAt (t := t) l g h hsc hb0 hn hlen hf) (z_in k_287 rfl) (z_in k_8 rfl) (z_in k_576 rfl) (z_in k_285 rfl) (z_in k_286 rfl) (by decide +kernel) ⟨by first | exact Nat.le_of_ble_eq_true rfl | (dsimp only; omega) | omega, by first | exact Nat.le_of_ble_eq_true rfl | (dsimp only; omega) | omega⟩ hK hE hw hA rfl hsc rfl hl.1 (Nat.le_of_ble_eq_true rfl) d_RecordReader_readEscape_13 ⟨by first | exact Nat.le_of_ble_eq_true rfl | (dsimp only; omega) | omega, by first | exact Nat.le_of_ble_eq_true rfl | (dsimp only; omega) | omega⟩ rfl (fun r9 h9 H locs hp hw => ?_)
  rw [bz_n (by omega)] at hp
  obtain ⟨r8, h8⟩ := hp
  subst r8
  subst h8
  refine W.eq (g2 := F0 m 16 ls [.int (bt t n (p + 1))]) rfl ?_
  refine lv_istore_n (lv' := [(1, .int (bt t n (p + 1))), (0, .ref rd)]) hx hb d_RecordReader_readEscape_16 rfl hl (by decide) rfl (fun ls hl => ?_)
  refine lv_iload_n hx hb d_RecordReader_readEscape_17 rfl (lv_at hl 0 rfl) ?_
  refine lv_bipush (v := 39) hx hb d_RecordReader_readEscape_18 (by decide) ?_
  refine lv_icmp_eq (tgt := 29) hx hb d_RecordReader_readEscape_20 (by decide) (fun c_20 => ?_) (fun c_20 => ?_)
  · -- 20: True
    refine lv_aload_n hx hb d_RecordReader_readEscape_29 rfl (lv_at hl 1 rfl) ?_
    refine z_get hx hb hts (z_lay i_RecordReader) hown hK hw hrd rfl 0 (by decide) (z_in k_502 rfl) (fun _ h9 => h9) rfl d_RecordReader_readEscape_30 ?_
    refine lv_iconst (v := 2) hx hb d_RecordReader_readEscape_33 (by decide) ?_
    refine z_callV (n := 1) (As := [.int 2]) (rest := []) ⟨hx, hb, hml, hown, hts⟩ (c_Scanner_step (d := 2) l g h hsc) (z_in k_574 rfl) (z_in k_8 rfl) (z_in k_571 rfl) (z_in k_572 rfl) (z_in k_573 rfl) (by decide +kernel) ⟨by first | exact Nat.le_of_ble_eq_true rfl | (dsimp only; omega) | omega, by first | exact Nat.le_of_ble_eq_true rfl | (dsimp only; omega) | omega⟩ hK hE hw hA rfl hsc rfl hl.1 (Nat.le_of_ble_eq_true rfl) d_RecordReader_readEscape_34 ⟨by first | exact Nat.le_of_ble_eq_true rfl | (dsimp only; omega) | omega, by first | exact Nat.le_of_ble_eq_true rfl | (dsimp only; omega) | omega⟩ rfl (fun r9 h9 H locs hp hw => ?_)
    obtain ⟨r8, hh1⟩ := hp
    subst r8
    obtain ⟨h1, e8⟩ : ∃ x9, x9 = h9 := ⟨_, rfl⟩
    subst e8
    have f1_rd : h1 rd = some ((8, 0), .inr (9, [.ref sc, .ref q, .ref w, .ref tr, .long nu9])) := by rw [← hh1]; exact z_keep hsc hrd (z_t1 (by decide))
    have f1_sc : h1 sc = some ((6, 0), .inr (7, [.ref b, .int (nI n), .int (nI (p + 2)), .int fa, .int ws, .int wd])) := by rw [← hh1]; exact z_put_eq
    have f1_b : h1 b = some ((3, 0), .inl (g.2.1 0, len, .inl f)) := by rw [← hh1]; exact z_keep hsc hb0 (z_t1 (by decide))
    refine W.eq (g2 := F0 m 37 ls []) rfl ?_
    refine lv_iload_n hx hb d_RecordReader_readEscape_37 rfl (lv_at hl 0 rfl) ?_
    exact z_iret hx hb hr hlocks hw (by unfold escR; rw [if_pos (Or.inl c_20)]; exact ⟨rfl, _, _, _, hh1⟩) (by decide) (by decide) d_RecordReader_readEscape_38
  · -- 20: False
    refine lv_iload_n hx hb d_RecordReader_readEscape_23 rfl (lv_at hl 0 rfl) ?_
    refine lv_bipush (v := 92) hx hb d_RecordReader_readEscape_24 (by decide) ?_
    refine lv_icmp_ne (tgt := 39) hx hb d_RecordReader_readEscape_26 (by decide) (fun c_26 => ?_) (fun c_26 => ?_)
    · -- 26: True
      refine lv_iload_n hx hb d_RecordReader_readEscape_39 rfl (lv_at hl 0 rfl) ?_
      refine lv_bipush (v := 120) hx hb d_RecordReader_readEscape_40 (by decide) ?_
      refine lv_icmp_eq (tgt := 51) hx hb d_RecordReader_readEscape_42 (by decide) (fun c_42 => ?_) (fun c_42 => ?_)
      · -- 42: True
        refine lv_aload_n hx hb d_RecordReader_readEscape_51 rfl (lv_at hl 1 rfl) ?_
        refine z_get hx hb hts (z_lay i_RecordReader) hown hK hw hrd rfl 0 (by decide) (z_in k_502 rfl) (fun _ h9 => h9) rfl d_RecordReader_readEscape_52 ?_
        refine lv_aload_n hx hb d_RecordReader_readEscape_55 rfl (lv_at hl 1 rfl) ?_
        refine z_get hx hb hts (z_lay i_RecordReader) hown hK hw hrd rfl 0 (by decide) (z_in k_502 rfl) (fun _ h9 => h9) rfl d_RecordReader_readEscape_56 ?_
        refine z_getN hx hb hts (z_lay i_Scanner) hown hK hw hsc rfl 2 (by decide) hE.nest (z_inN k_192 rfl) (fun _ h9 => h9) rfl d_RecordReader_readEscape_59 ?_
        refine lv_iconst (v := 2) hx hb d_RecordReader_readEscape_62 (by decide) ?_
        refine lv_iadd hx hb d_RecordReader_readEscape_63 ?_
        refine z_topi (y := nI (p + 2)) (nI_add p 2) ?_
        refine z_callV (n := 1) (As := [.int (nI (p + 2))]) (rest := []) ⟨hx, hb, hml, hown, hts⟩ (c_Scanner_byteAt (t := t) l g h hsc hb0 hn hlen hf) (z_in k_287 rfl) (z_in k_8 rfl) (z_in k_576 rfl) (z_in k_285 rfl) (z_in k_286 rfl) (by decide +kernel) ⟨by first | exact Nat.le_of_ble_eq_true rfl | (dsimp only; omega) | omega, by first | exact Nat.le_of_ble_eq_true rfl | (dsimp only; omega) | omega⟩ hK hE hw hA rfl hsc rfl hl.1 (Nat.le_of_ble_eq_true rfl) d_RecordReader_readEscape_64 ⟨by first | exact Nat.le_of_ble_eq_true rfl | (dsimp only; omega) | omega, by first | exact Nat.le_of_ble_eq_true rfl | (dsimp only; omega) | omega⟩ rfl (fun r9 h9 H locs hp hw => ?_)
        rw [bz_n (by omega)] at hp
        obtain ⟨r8, h8⟩ := hp
        subst r8
        subst h8
        refine W.eq (g2 := F0 m 67 ls [.int (bt t n (p + 2))]) rfl ?_
        refine lv_istore_n (lv' := [(2, .int (bt t n (p + 2))), (1, .int (bt t n (p + 1))), (0, .ref rd)]) hx hb d_RecordReader_readEscape_67 rfl hl (by decide) rfl (fun ls hl => ?_)
        refine lv_iload_n hx hb d_RecordReader_readEscape_68 rfl (lv_at hl 0 rfl) ?_
        refine z_callS (n := 1) (As := [.int (bt t n (p + 2))]) (rest := []) ⟨hx, hb, hml, hown, hts⟩ (c_hexDigit l g h) (z_in k_593 rfl) (z_in k_18 rfl) (z_in k_591 rfl) (z_in k_592 rfl) (by decide +kernel) ⟨by first | exact Nat.le_of_ble_eq_true rfl | (dsimp only; omega) | omega, by first | exact Nat.le_of_ble_eq_true rfl | (dsimp only; omega) | omega⟩ hK hE hw hA rfl hl.1 (Nat.le_of_ble_eq_true rfl) d_RecordReader_readEscape_69 ⟨by first | exact Nat.le_of_ble_eq_true rfl | (dsimp only; omega) | omega, by first | exact Nat.le_of_ble_eq_true rfl | (dsimp only; omega) | omega⟩ rfl (fun r9 h9 H locs hp hw => ?_)
        obtain ⟨r8, h8⟩ := hp
        subst r8
        subst h8
        refine W.eq (g2 := F0 m 72 ls [.int (zh (bt t n (p + 2)))]) rfl ?_
        refine lv_iconst (v := (-1)) hx hb d_RecordReader_readEscape_72 (by decide) ?_
        refine lv_icmp_ne (tgt := 82) hx hb d_RecordReader_readEscape_73 (by decide) (fun c_73 => ?_) (fun c_73 => ?_)
        · -- 73: True
          refine lv_aload_n hx hb d_RecordReader_readEscape_82 rfl (lv_at hl 2 rfl) ?_
          refine z_get hx hb hts (z_lay i_RecordReader) hown hK hw hrd rfl 0 (by decide) (z_in k_502 rfl) (fun _ h9 => h9) rfl d_RecordReader_readEscape_83 ?_
          refine lv_aload_n hx hb d_RecordReader_readEscape_86 rfl (lv_at hl 2 rfl) ?_
          refine z_get hx hb hts (z_lay i_RecordReader) hown hK hw hrd rfl 0 (by decide) (z_in k_502 rfl) (fun _ h9 => h9) rfl d_RecordReader_readEscape_87 ?_
          refine z_getN hx hb hts (z_lay i_Scanner) hown hK hw hsc rfl 2 (by decide) hE.nest (z_inN k_192 rfl) (fun _ h9 => h9) rfl d_RecordReader_readEscape_90 ?_
          refine lv_iconst (v := 3) hx hb d_RecordReader_readEscape_93 (by decide) ?_
          refine lv_iadd hx hb d_RecordReader_readEscape_94 ?_
          refine z_topi (y := nI (p + 3)) (nI_add p 3) ?_
          refine z_callV (n := 1) (As := [.int (nI (p + 3))]) (rest := []) ⟨hx, hb, hml, hown, hts⟩ (c_Scanner_byteAt (t := t) l g h hsc hb0 hn hlen hf) (z_in k_287 rfl) (z_in k_8 rfl) (z_in k_576 rfl) (z_in k_285 rfl) (z_in k_286 rfl) (by decide +kernel) ⟨by first | exact Nat.le_of_ble_eq_true rfl | (dsimp only; omega) | omega, by first | exact Nat.le_of_ble_eq_true rfl | (dsimp only; omega) | omega⟩ hK hE hw hA rfl hsc rfl hl.1 (Nat.le_of_ble_eq_true rfl) d_RecordReader_readEscape_95 ⟨by first | exact Nat.le_of_ble_eq_true rfl | (dsimp only; omega) | omega, by first | exact Nat.le_of_ble_eq_true rfl | (dsimp only; omega) | omega⟩ rfl (fun r9 h9 H locs hp hw => ?_)
          rw [bz_n (by omega)] at hp
          obtain ⟨r8, h8⟩ := hp
          subst r8
          subst h8
          refine W.eq (g2 := F0 m 98 ls [.int (bt t n (p + 3))]) rfl ?_
          refine lv_istore_n (lv' := [(3, .int (bt t n (p + 3))), (2, .int (bt t n (p + 2))), (1, .int (bt t n (p + 1))), (0, .ref rd)]) hx hb d_RecordReader_readEscape_98 rfl hl (by decide) rfl (fun ls hl => ?_)
          refine lv_iload_n hx hb d_RecordReader_readEscape_99 rfl (lv_at hl 0 rfl) ?_
          refine z_callS (n := 1) (As := [.int (bt t n (p + 3))]) (rest := []) ⟨hx, hb, hml, hown, hts⟩ (c_hexDigit l g h) (z_in k_593 rfl) (z_in k_18 rfl) (z_in k_591 rfl) (z_in k_592 rfl) (by decide +kernel) ⟨by first | exact Nat.le_of_ble_eq_true rfl | (dsimp only; omega) | omega, by first | exact Nat.le_of_ble_eq_true rfl | (dsimp only; omega) | omega⟩ hK hE hw hA rfl hl.1 (Nat.le_of_ble_eq_true rfl) d_RecordReader_readEscape_100 ⟨by first | exact Nat.le_of_ble_eq_true rfl | (dsimp only; omega) | omega, by first | exact Nat.le_of_ble_eq_true rfl | (dsimp only; omega) | omega⟩ rfl (fun r9 h9 H locs hp hw => ?_)
          obtain ⟨r8, h8⟩ := hp
          subst r8
          subst h8
          refine W.eq (g2 := F0 m 103 ls [.int (zh (bt t n (p + 3)))]) rfl ?_
          refine lv_iconst (v := (-1)) hx hb d_RecordReader_readEscape_103 (by decide) ?_
          refine lv_icmp_ne (tgt := 113) hx hb d_RecordReader_readEscape_104 (by decide) (fun c_104 => ?_) (fun c_104 => ?_)
          · -- 104: True
            refine lv_aload_n hx hb d_RecordReader_readEscape_113 rfl (lv_at hl 3 rfl) ?_
            refine z_get hx hb hts (z_lay i_RecordReader) hown hK hw hrd rfl 0 (by decide) (z_in k_502 rfl) (fun _ h9 => h9) rfl d_RecordReader_readEscape_114 ?_
            refine lv_iconst (v := 4) hx hb d_RecordReader_readEscape_117 (by decide) ?_
            refine z_callV (n := 1) (As := [.int 4]) (rest := []) ⟨hx, hb, hml, hown, hts⟩ (c_Scanner_step (d := 4) l g h hsc) (z_in k_574 rfl) (z_in k_8 rfl) (z_in k_571 rfl) (z_in k_572 rfl) (z_in k_573 rfl) (by decide +kernel) ⟨by first | exact Nat.le_of_ble_eq_true rfl | (dsimp only; omega) | omega, by first | exact Nat.le_of_ble_eq_true rfl | (dsimp only; omega) | omega⟩ hK hE hw hA rfl hsc rfl hl.1 (Nat.le_of_ble_eq_true rfl) d_RecordReader_readEscape_118 ⟨by first | exact Nat.le_of_ble_eq_true rfl | (dsimp only; omega) | omega, by first | exact Nat.le_of_ble_eq_true rfl | (dsimp only; omega) | omega⟩ rfl (fun r9 h9 H locs hp hw => ?_)
            obtain ⟨r8, hh2⟩ := hp
            subst r8
            obtain ⟨h2, e8⟩ : ∃ x9, x9 = h9 := ⟨_, rfl⟩
            subst e8
            have f2_rd : h2 rd = some ((8, 0), .inr (9, [.ref sc, .ref q, .ref w, .ref tr, .long nu9])) := by rw [← hh2]; exact z_keep hsc hrd (z_t1 (by decide))
            have f2_sc : h2 sc = some ((6, 0), .inr (7, [.ref b, .int (nI n), .int (nI (p + 4)), .int fa, .int ws, .int wd])) := by rw [← hh2]; exact z_put_eq
            have f2_b : h2 b = some ((3, 0), .inl (g.2.1 0, len, .inl f)) := by rw [← hh2]; exact z_keep hsc hb0 (z_t1 (by decide))
            refine W.eq (g2 := F0 m 121 ls []) rfl ?_
            refine lv_iload_n hx hb d_RecordReader_readEscape_121 rfl (lv_at hl 1 rfl) ?_
            refine z_callS (n := 1) (As := [.int (bt t n (p + 2))]) (rest := []) ⟨hx, hb, hml, hown, hts⟩ (c_hexDigit l g h2) (z_in k_593 rfl) (z_in k_18 rfl) (z_in k_591 rfl) (z_in k_592 rfl) (by decide +kernel) ⟨by first | exact Nat.le_of_ble_eq_true rfl | (dsimp only; omega) | omega, by first | exact Nat.le_of_ble_eq_true rfl | (dsimp only; omega) | omega⟩ hK hE hw hA rfl hl.1 (Nat.le_of_ble_eq_true rfl) d_RecordReader_readEscape_122 ⟨by first | exact Nat.le_of_ble_eq_true rfl | (dsimp only; omega) | omega, by first | exact Nat.le_of_ble_eq_true rfl | (dsimp only; omega) | omega⟩ rfl (fun r9 h9 H locs hp hw => ?_)
            obtain ⟨r8, h8⟩ := hp
            subst r8
            subst h8
            refine W.eq (g2 := F0 m 125 ls [.int (zh (bt t n (p + 2)))]) rfl ?_
            refine lv_bipush (v := 16) hx hb d_RecordReader_readEscape_125 (by decide) ?_
            refine lv_imul hx hb d_RecordReader_readEscape_127 ?_
            refine lv_iload_n hx hb d_RecordReader_readEscape_128 rfl (lv_at hl 0 rfl) ?_
            refine z_callS (n := 1) (As := [.int (bt t n (p + 3))]) (rest := [.int ((zh (bt t n (p + 2))) * 16)]) ⟨hx, hb, hml, hown, hts⟩ (c_hexDigit l g h2) (z_in k_593 rfl) (z_in k_18 rfl) (z_in k_591 rfl) (z_in k_592 rfl) (by decide +kernel) ⟨by first | exact Nat.le_of_ble_eq_true rfl | (dsimp only; omega) | omega, by first | exact Nat.le_of_ble_eq_true rfl | (dsimp only; omega) | omega⟩ hK hE hw hA rfl hl.1 (Nat.le_of_ble_eq_true rfl) d_RecordReader_readEscape_129 ⟨by first | exact Nat.le_of_ble_eq_true rfl | (dsimp only; omega) | omega, by first | exact Nat.le_of_ble_eq_true rfl | (dsimp only; omega) | omega⟩ rfl (fun r9 h9 H locs hp hw => ?_)
            obtain ⟨r8, h8⟩ := hp
            subst r8
            subst h8
            refine W.eq (g2 := F0 m 132 ls [.int (zh (bt t n (p + 3))), .int ((zh (bt t n (p + 2))) * 16)]) rfl ?_
            refine lv_iadd hx hb d_RecordReader_readEscape_132 ?_
            exact z_iret hx hb hr hlocks hw (by unfold escR; rw [if_neg (fun z => by rcases z with z | z; exact c_20 z; exact c_26 z)]; rw [if_neg (fun z => z c_42)]; rw [if_neg c_73]; rw [if_neg c_104]; exact ⟨rfl, _, _, _, hh2⟩) (by decide) (by decide) d_RecordReader_readEscape_133
          · -- 104: False
            refine lv_aload_n hx hb d_RecordReader_readEscape_107 rfl (lv_at hl 3 rfl) ?_
            refine lv_iload_n hx hb d_RecordReader_readEscape_108 rfl (lv_at hl 0 rfl) ?_
            refine z_callV (n := 1) (As := [.int (bt t n (p + 3))]) (rest := []) ⟨hx, hb, hml, hown, hts⟩ (c_failEscape l g h hrd hsc) (z_in k_590 rfl) (z_in k_18 rfl) (z_in k_587 rfl) (z_in k_589 rfl) (z_in ks_14 rfl) (by decide +kernel) ⟨by first | exact Nat.le_of_ble_eq_true rfl | (dsimp only; omega) | omega, by first | exact Nat.le_of_ble_eq_true rfl | (dsimp only; omega) | omega⟩ hK hE hw hA rfl hrd rfl hl.1 (Nat.le_of_ble_eq_true rfl) d_RecordReader_readEscape_109 ⟨by first | exact Nat.le_of_ble_eq_true rfl | (dsimp only; omega) | omega, by first | exact Nat.le_of_ble_eq_true rfl | (dsimp only; omega) | omega⟩ rfl (fun r9 h9 H locs hp hw => ?_)
            obtain ⟨r8, hh3⟩ := hp
            subst r8
            obtain ⟨h3, e8⟩ : ∃ x9, x9 = h9 := ⟨_, rfl⟩
            subst e8
            have f3_rd : h3 rd = some ((8, 0), .inr (9, [.ref sc, .ref q, .ref w, .ref tr, .long nu9])) := by rw [← hh3]; exact z_keep hsc hrd (z_t1 (by decide))
            have f3_sc : h3 sc = some ((6, 0), .inr (7, [.ref b, .int (nI n), .int (nI p), .int (nI (if bt t n (p + 3) = -1 then n else p)), .int ws, .int wd])) := by rw [← hh3]; exact z_put_eq
            have f3_b : h3 b = some ((3, 0), .inl (g.2.1 0, len, .inl f)) := by rw [← hh3]; exact z_keep hsc hb0 (z_t1 (by decide))
            refine W.eq (g2 := F0 m 112 ls [.int (-1)]) rfl ?_
            exact z_iret hx hb hr hlocks hw (by unfold escR; rw [if_neg (fun z => by rcases z with z | z; exact c_20 z; exact c_26 z)]; rw [if_neg (fun z => z c_42)]; rw [if_neg c_73]; rw [if_pos c_104]; exact ⟨rfl, _, _, _, hh3⟩) (by decide) (by decide) d_RecordReader_readEscape_112
        · -- 73: False
          refine lv_aload_n hx hb d_RecordReader_readEscape_76 rfl (lv_at hl 2 rfl) ?_
          refine lv_iload_n hx hb d_RecordReader_readEscape_77 rfl (lv_at hl 0 rfl) ?_
          refine z_callV (n := 1) (As := [.int (bt t n (p + 2))]) (rest := []) ⟨hx, hb, hml, hown, hts⟩ (c_failEscape l g h hrd hsc) (z_in k_590 rfl) (z_in k_18 rfl) (z_in k_587 rfl) (z_in k_589 rfl) (z_in ks_14 rfl) (by decide +kernel) ⟨by first | exact Nat.le_of_ble_eq_true rfl | (dsimp only; omega) | omega, by first | exact Nat.le_of_ble_eq_true rfl | (dsimp only; omega) | omega⟩ hK hE hw hA rfl hrd rfl hl.1 (Nat.le_of_ble_eq_true rfl) d_RecordReader_readEscape_78 ⟨by first | exact Nat.le_of_ble_eq_true rfl | (dsimp only; omega) | omega, by first | exact Nat.le_of_ble_eq_true rfl | (dsimp only; omega) | omega⟩ rfl (fun r9 h9 H locs hp hw => ?_)
          obtain ⟨r8, hh4⟩ := hp
          subst r8
          obtain ⟨h4, e8⟩ : ∃ x9, x9 = h9 := ⟨_, rfl⟩
          subst e8
          have f4_rd : h4 rd = some ((8, 0), .inr (9, [.ref sc, .ref q, .ref w, .ref tr, .long nu9])) := by rw [← hh4]; exact z_keep hsc hrd (z_t1 (by decide))
          have f4_sc : h4 sc = some ((6, 0), .inr (7, [.ref b, .int (nI n), .int (nI p), .int (nI (if bt t n (p + 2) = -1 then n else p)), .int ws, .int wd])) := by rw [← hh4]; exact z_put_eq
          have f4_b : h4 b = some ((3, 0), .inl (g.2.1 0, len, .inl f)) := by rw [← hh4]; exact z_keep hsc hb0 (z_t1 (by decide))
          refine W.eq (g2 := F0 m 81 ls [.int (-1)]) rfl ?_
          exact z_iret hx hb hr hlocks hw (by unfold escR; rw [if_neg (fun z => by rcases z with z | z; exact c_20 z; exact c_26 z)]; rw [if_neg (fun z => z c_42)]; rw [if_pos c_73]; exact ⟨rfl, _, _, _, hh4⟩) (by decide) (by decide) d_RecordReader_readEscape_81
      · -- 42: False
        refine lv_aload_n hx hb d_RecordReader_readEscape_45 rfl (lv_at hl 1 rfl) ?_
        refine lv_iload_n hx hb d_RecordReader_readEscape_46 rfl (lv_at hl 0 rfl) ?_
        refine z_callV (n := 1) (As := [.int (bt t n (p + 1))]) (rest := []) ⟨hx, hb, hml, hown, hts⟩ (c_failEscape l g h hrd hsc) (z_in k_590 rfl) (z_in k_18 rfl) (z_in k_587 rfl) (z_in k_589 rfl) (z_in ks_14 rfl) (by decide +kernel) ⟨by first | exact Nat.le_of_ble_eq_true rfl | (dsimp only; omega) | omega, by first | exact Nat.le_of_ble_eq_true rfl | (dsimp only; omega) | omega⟩ hK hE hw hA rfl hrd rfl hl.1 (Nat.le_of_ble_eq_true rfl) d_RecordReader_readEscape_47 ⟨by first | exact Nat.le_of_ble_eq_true rfl | (dsimp only; omega) | omega, by first | exact Nat.le_of_ble_eq_true rfl | (dsimp only; omega) | omega⟩ rfl (fun r9 h9 H locs hp hw => ?_)
        obtain ⟨r8, hh5⟩ := hp
        subst r8
        obtain ⟨h5, e8⟩ : ∃ x9, x9 = h9 := ⟨_, rfl⟩
        subst e8
        have f5_rd : h5 rd = some ((8, 0), .inr (9, [.ref sc, .ref q, .ref w, .ref tr, .long nu9])) := by rw [← hh5]; exact z_keep hsc hrd (z_t1 (by decide))
        have f5_sc : h5 sc = some ((6, 0), .inr (7, [.ref b, .int (nI n), .int (nI p), .int (nI (if bt t n (p + 1) = -1 then n else p)), .int ws, .int wd])) := by rw [← hh5]; exact z_put_eq
        have f5_b : h5 b = some ((3, 0), .inl (g.2.1 0, len, .inl f)) := by rw [← hh5]; exact z_keep hsc hb0 (z_t1 (by decide))
        refine W.eq (g2 := F0 m 50 ls [.int (-1)]) rfl ?_
        exact z_iret hx hb hr hlocks hw (by unfold escR; rw [if_neg (fun z => by rcases z with z | z; exact c_20 z; exact c_26 z)]; rw [if_pos c_42]; exact ⟨rfl, _, _, _, hh5⟩) (by decide) (by decide) d_RecordReader_readEscape_50
    · -- 26: False
      refine lv_aload_n hx hb d_RecordReader_readEscape_29 rfl (lv_at hl 1 rfl) ?_
      refine z_get hx hb hts (z_lay i_RecordReader) hown hK hw hrd rfl 0 (by decide) (z_in k_502 rfl) (fun _ h9 => h9) rfl d_RecordReader_readEscape_30 ?_
      refine lv_iconst (v := 2) hx hb d_RecordReader_readEscape_33 (by decide) ?_
      refine z_callV (n := 1) (As := [.int 2]) (rest := []) ⟨hx, hb, hml, hown, hts⟩ (c_Scanner_step (d := 2) l g h hsc) (z_in k_574 rfl) (z_in k_8 rfl) (z_in k_571 rfl) (z_in k_572 rfl) (z_in k_573 rfl) (by decide +kernel) ⟨by first | exact Nat.le_of_ble_eq_true rfl | (dsimp only; omega) | omega, by first | exact Nat.le_of_ble_eq_true rfl | (dsimp only; omega) | omega⟩ hK hE hw hA rfl hsc rfl hl.1 (Nat.le_of_ble_eq_true rfl) d_RecordReader_readEscape_34 ⟨by first | exact Nat.le_of_ble_eq_true rfl | (dsimp only; omega) | omega, by first | exact Nat.le_of_ble_eq_true rfl | (dsimp only; omega) | omega⟩ rfl (fun r9 h9 H locs hp hw => ?_)
      obtain ⟨r8, hh6⟩ := hp
      subst r8
      obtain ⟨h6, e8⟩ : ∃ x9, x9 = h9 := ⟨_, rfl⟩
      subst e8
      have f6_rd : h6 rd = some ((8, 0), .inr (9, [.ref sc, .ref q, .ref w, .ref tr, .long nu9])) := by rw [← hh6]; exact z_keep hsc hrd (z_t1 (by decide))
      have f6_sc : h6 sc = some ((6, 0), .inr (7, [.ref b, .int (nI n), .int (nI (p + 2)), .int fa, .int ws, .int wd])) := by rw [← hh6]; exact z_put_eq
      have f6_b : h6 b = some ((3, 0), .inl (g.2.1 0, len, .inl f)) := by rw [← hh6]; exact z_keep hsc hb0 (z_t1 (by decide))
      refine W.eq (g2 := F0 m 37 ls []) rfl ?_
      refine lv_iload_n hx hb d_RecordReader_readEscape_37 rfl (lv_at hl 0 rfl) ?_
      exact z_iret hx hb hr hlocks hw (by unfold escR; rw [if_pos (Or.inr c_26)]; exact ⟨rfl, _, _, _, hh6⟩) (by decide) (by decide) d_RecordReader_readEscape_38

/-- true or false -/
def booR (t : Nat → Nat) (n p : Nat) : Sum Nat (Int64 × Nat) := if isLet (bt t n (sk t n p)) = true then (if wdIs t (sk t n p) (we t n (sk t n p)) 8 = true then .inr (1, we t n (sk t n p)) else if wdIs t (sk t n p) (we t n (sk t n p)) 9 = true then .inr (0, we t n (sk t n p)) else .inl (sk t n p)) else .inl (sk t n p)
/-- what a method that reads a number answers; rdE: the reader's cell with that number -/
def nuP (R : Sum Nat (Int64 × Nat)) (rdE : Int64 → va_E) (h : z_H) (rd sc b n : Nat) (r : Option Value) (h1 : z_H) : Prop := z_K (fun y => y = 6 ∨ y = 8) h h1 ∧ match R with
  | .inl F => r = some (.int 0) ∧ ScFa h1 sc b n F ∧ ∃ nu, h1 rd = some ((8, 0), rdE nu)
  | .inr P => r = some (.int 1) ∧ ScAt h1 sc b n P.2 ∧ h1 rd = some ((8, 0), rdE P.1)

set_option maxHeartbeats 4000000 in
set_option maxRecDepth 100000 in
theorem c_readBool (l : Launch) (g : z_G) (h : z_H) {rd sc q w tr b len n p : Nat} {f : Nat → Int32} {fa ws wd : Int32} {nu9 : Int64} {t : Nat → Nat} (hrd : h rd = some ((8, 0), .inr (9, [.ref sc, .ref q, .ref w, .ref tr, .long nu9]))) (hsc : h sc = some ((6, 0), .inr (7, [.ref b, .int (nI n), .int (nI p), .int fa, .int ws, .int wd]))) (hb0 : h b = some ((3, 0), .inl (g.2.1 0, len, .inl f))) (hn : n ≤ len) (hlen : len < 2 ^ 31) (hf : ∀ k, k < n → t k < 256 ∧ f k = sb_b (t k)) (hp : p ≤ n) : z_C l y_RecordReader_readBool prog_6_method_7_code 1 (Option.some Jvm.ClassFile.FieldType.boolean) 5 115 0 0 g [.ref rd] h (nuP (booR t n p) (fun nu => .inr (9, [.ref sc, .ref q, .ref w, .ref tr, .long nu])) h rd sc b n) := by
  refine z_C.of (by decide) (Nat.le_of_ble_eq_true rfl) (fun pg en s m below meth cd A ls hx hb hml hr hts hown hlocks hnm hK hE hA hw hl => ?_)
  have hl : lv_has ls 1 [(0, .ref rd)] := hl
  have sk1 := sk_le (t := t) hp
  have sk2 := sk_ge t n p
  have we1 := we_le (t := t) (sk_le (t := t) hp)
  have we2 := we_ge t n (sk t n p)
  have kk0 : z_K (fun y => y = 6 ∨ y = 8) h h := z_K.rf
  refine lv_aload_n hx hb d_RecordReader_readBool_0 rfl (lv_at hl 0 rfl) ?_
  refine z_get hx hb hts (z_lay i_RecordReader) hown hK hw hrd rfl 0 (by decide) (z_in k_502 rfl) (fun _ h9 => h9) rfl d_RecordReader_readBool_1 ?_
  refine z_callV (n := 0) (As := []) (rest := []) ⟨hx, hb, hml, hown, hts⟩ (c_Scanner_takeWord (t := t) l g h hsc hb0 hn hlen hf (by omega)) (z_in k_250 rfl) (z_in k_8 rfl) (z_in k_529 rfl) (z_in k_248 rfl) (z_in k_249 rfl) (by decide +kernel) ⟨by first | exact Nat.le_of_ble_eq_true rfl | (dsimp only; omega) | omega, by first | exact Nat.le_of_ble_eq_true rfl | (dsimp only; omega) | omega⟩ hK hE hw hA rfl hsc rfl hl.1 (Nat.le_of_ble_eq_true rfl) d_RecordReader_readBool_4 ⟨by first | exact Nat.le_of_ble_eq_true rfl | (dsimp only; omega) | omega, by first | exact Nat.le_of_ble_eq_true rfl | (dsimp only; omega) | omega⟩ rfl (fun r9 h9 H locs hp hw => ?_)
  unfold tWd at hp
  by_cases cw : isLet (bt t n (sk t n p)) = true
  · -- cw True
    rw [if_pos cw] at hp
    obtain ⟨r8, hh1⟩ := hp
    subst r8
    obtain ⟨h1, e8⟩ : ∃ x9, x9 = h9 := ⟨_, rfl⟩
    subst e8
    have f1_rd : h1 rd = some ((8, 0), .inr (9, [.ref sc, .ref q, .ref w, .ref tr, .long nu9])) := by rw [← hh1]; exact z_keep hsc hrd (z_t1 (by decide))
    have f1_sc : h1 sc = some ((6, 0), .inr (7, [.ref b, .int (nI n), .int (nI (we t n (sk t n p))), .int fa, .int (nI (sk t n p)), .int (nI (we t n (sk t n p)))])) := by rw [← hh1]; exact z_put_eq
    have f1_b : h1 b = some ((3, 0), .inl (g.2.1 0, len, .inl f)) := by rw [← hh1]; exact z_keep hsc hb0 (z_t1 (by decide))
    have kk1 : z_K (fun y => y = 6 ∨ y = 8) h h1 := kk0.tr (by rw [← hh1]; exact z_K.put hsc (by first | decide | simp | omega))
    refine W.eq (g2 := F0 m 7 ls [.int 1]) rfl ?_
    refine lv_if_ne (tgt := 12) hx hb d_RecordReader_readBool_7 (by decide) (fun c_7 => ?_) (fun c_7 => ?_)
    · -- 7: True
      refine lv_aload_n hx hb d_RecordReader_readBool_12 rfl (lv_at hl 0 rfl) ?_
      refine lv_aload_n hx hb d_RecordReader_readBool_13 rfl (lv_at hl 0 rfl) ?_
      refine z_get hx hb hts (z_lay i_RecordReader) hown hK hw f1_rd rfl 0 (by decide) (z_in k_502 rfl) (fun _ h9 => h9) rfl d_RecordReader_readBool_14 ?_
      refine va_ldcS hx hb hown hE.2.2.2.2.2.1.1 d_RecordReader_readBool_17 ?_
      refine z_callV (n := 1) (As := [.ref (g.2.2 (1 + 8))]) (rest := [.ref rd]) ⟨hx, hb, hml, hown, hts⟩ (c_Scanner_wordIs (t := t) (i := 8) l g h1 f1_sc f1_b hn hlen hf (by decide) (by omega) (by omega)) (z_in k_273 rfl) (z_in k_8 rfl) (z_in k_549 rfl) (z_in k_271 rfl) (z_in k_272 rfl) (by decide +kernel) ⟨by first | exact Nat.le_of_ble_eq_true rfl | (dsimp only; omega) | omega, by first | exact Nat.le_of_ble_eq_true rfl | (dsimp only; omega) | omega⟩ hK hE hw hA rfl f1_sc rfl hl.1 (Nat.le_of_ble_eq_true rfl) d_RecordReader_readBool_19 ⟨by first | exact Nat.le_of_ble_eq_true rfl | (dsimp only; omega) | omega, by first | exact Nat.le_of_ble_eq_true rfl | (dsimp only; omega) | omega⟩ rfl (fun r9 h9 H locs hp hw => ?_)
      obtain ⟨r8, h8⟩ := hp
      subst r8
      subst h8
      refine W.eq (g2 := F0 m 22 ls [.int (zb (wdIs t (sk t n p) (we t n (sk t n p)) 8)), .ref rd]) rfl ?_
      refine lv_if_eq (tgt := 29) hx hb d_RecordReader_readBool_22 (by decide) (fun c_22 => ?_) (fun c_22 => ?_)
      · -- 22: True
        have c_22 : (wdIs t (sk t n p) (we t n (sk t n p)) 8) = false := zb_f c_22
        refine lv_lconst (v := 0) hx hb d_RecordReader_readBool_29 (by decide) ?_
        refine z_putf (ty := .long) hx hb hts (z_lay i_RecordReader) t_RecordReader t_RecordReader_ok n_RecordReader hown hK hw f1_rd rfl 4 (by decide) (z_in k_506 rfl) (fun _ h9 => h9) rfl (by decide +kernel) rfl rfl (Nat.le_of_ble_eq_true rfl) d_RecordReader_readBool_30 (fun H locs hw => ?_)
        obtain ⟨h2, hh2⟩ : ∃ x9, z_put h1 rd (8, 0) (.inr (9, [.ref sc, .ref q, .ref w, .ref tr, .long 0])) = x9 := ⟨_, rfl⟩
        have hw : z_S g A s.heap h2 H locs := by rw [← hh2]; exact hw
        have f2_rd : h2 rd = some ((8, 0), .inr (9, [.ref sc, .ref q, .ref w, .ref tr, .long 0])) := by rw [← hh2]; exact z_put_eq
        have f2_sc : h2 sc = some ((6, 0), .inr (7, [.ref b, .int (nI n), .int (nI (we t n (sk t n p))), .int fa, .int (nI (sk t n p)), .int (nI (we t n (sk t n p)))])) := by rw [← hh2]; exact z_keep f1_rd f1_sc (z_t1 (by decide))
        have f2_b : h2 b = some ((3, 0), .inl (g.2.1 0, len, .inl f)) := by rw [← hh2]; exact z_keep f1_rd f1_b (z_t1 (by decide))
        have kk2 : z_K (fun y => y = 6 ∨ y = 8) h h2 := kk1.tr (by rw [← hh2]; exact z_K.put f1_rd (by first | decide | simp | omega))
        refine lv_aload_n hx hb d_RecordReader_readBool_33 rfl (lv_at hl 0 rfl) ?_
        refine z_get hx hb hts (z_lay i_RecordReader) hown hK hw f2_rd rfl 4 (by decide) (z_in k_506 rfl) (fun _ h9 => h9) rfl d_RecordReader_readBool_34 ?_
        refine lv_lconst (v := 1) hx hb d_RecordReader_readBool_37 (by decide) ?_
        refine W.lcmp hx hb d_RecordReader_readBool_38 ?_
        refine lv_if_eq (tgt := 64) hx hb d_RecordReader_readBool_39 (by decide) (fun c_39 => ?_) (fun c_39 => ?_)
        · -- 39: True
          have c_39 : (0 : Int64) = 1 := (lg_cmp_eq _ _).mp c_39
          exact absurd c_39 (by decide)
        · -- 39: False
          have c_39 : ¬ ((0 : Int64) = 1) := fun z => c_39 ((lg_cmp_eq _ _).mpr z)
          refine lv_aload_n hx hb d_RecordReader_readBool_42 rfl (lv_at hl 0 rfl) ?_
          refine z_get hx hb hts (z_lay i_RecordReader) hown hK hw f2_rd rfl 0 (by decide) (z_in k_502 rfl) (fun _ h9 => h9) rfl d_RecordReader_readBool_43 ?_
          refine va_ldcS hx hb hown hE.2.2.2.2.2.1.2.1 d_RecordReader_readBool_46 ?_
          refine z_callV (n := 1) (As := [.ref (g.2.2 (1 + 9))]) (rest := []) ⟨hx, hb, hml, hown, hts⟩ (c_Scanner_wordIs (t := t) (i := 9) l g h2 f2_sc f2_b hn hlen hf (by decide) (by omega) (by omega)) (z_in k_273 rfl) (z_in k_8 rfl) (z_in k_549 rfl) (z_in k_271 rfl) (z_in k_272 rfl) (by decide +kernel) ⟨by first | exact Nat.le_of_ble_eq_true rfl | (dsimp only; omega) | omega, by first | exact Nat.le_of_ble_eq_true rfl | (dsimp only; omega) | omega⟩ hK hE hw hA rfl f2_sc rfl hl.1 (Nat.le_of_ble_eq_true rfl) d_RecordReader_readBool_48 ⟨by first | exact Nat.le_of_ble_eq_true rfl | (dsimp only; omega) | omega, by first | exact Nat.le_of_ble_eq_true rfl | (dsimp only; omega) | omega⟩ rfl (fun r9 h9 H locs hp hw => ?_)
          obtain ⟨r8, h8⟩ := hp
          subst r8
          subst h8
          refine W.eq (g2 := F0 m 51 ls [.int (zb (wdIs t (sk t n p) (we t n (sk t n p)) 9))]) rfl ?_
          refine lv_if_ne (tgt := 64) hx hb d_RecordReader_readBool_51 (by decide) (fun c_51 => ?_) (fun c_51 => ?_)
          · -- 51: True
            have c_51 : (wdIs t (sk t n p) (we t n (sk t n p)) 9) = true := zb_t c_51
            refine lv_iconst (v := 1) hx hb d_RecordReader_readBool_64 (by decide) ?_
            refine lv_goto (tgt := 69) hx hb d_RecordReader_readBool_65 (by decide) ?_
            exact z_zret hx hb hr rfl hlocks hw (by unfold booR; rw [if_pos cw]; rw [if_neg (by rw [c_22]; decide)]; rw [if_pos c_51]; exact ⟨kk2, rfl, ⟨_, _, _, f2_sc⟩, f2_rd⟩) (by decide) (by decide) d_RecordReader_readBool_69
          · -- 51: False
            have c_51 : (wdIs t (sk t n p) (we t n (sk t n p)) 9) = false := zb_f c_51
            refine lv_aload_n hx hb d_RecordReader_readBool_54 rfl (lv_at hl 0 rfl) ?_
            refine z_get hx hb hts (z_lay i_RecordReader) hown hK hw f2_rd rfl 0 (by decide) (z_in k_502 rfl) (fun _ h9 => h9) rfl d_RecordReader_readBool_55 ?_
            refine z_callV (n := 0) (As := []) (rest := []) ⟨hx, hb, hml, hown, hts⟩ (c_Scanner_failAtWord l g h2 f2_sc) (z_in k_331 rfl) (z_in k_8 rfl) (z_in k_535 rfl) (z_in k_329 rfl) (z_in k_330 rfl) (by decide +kernel) ⟨by first | exact Nat.le_of_ble_eq_true rfl | (dsimp only; omega) | omega, by first | exact Nat.le_of_ble_eq_true rfl | (dsimp only; omega) | omega⟩ hK hE hw hA rfl f2_sc rfl hl.1 (Nat.le_of_ble_eq_true rfl) d_RecordReader_readBool_58 ⟨by first | exact Nat.le_of_ble_eq_true rfl | (dsimp only; omega) | omega, by first | exact Nat.le_of_ble_eq_true rfl | (dsimp only; omega) | omega⟩ rfl (fun r9 h9 H locs hp hw => ?_)
            obtain ⟨r8, hh3⟩ := hp
            subst r8
            obtain ⟨h3, e8⟩ : ∃ x9, x9 = h9 := ⟨_, rfl⟩
            subst e8
            have f3_rd : h3 rd = some ((8, 0), .inr (9, [.ref sc, .ref q, .ref w, .ref tr, .long 0])) := by rw [← hh3]; exact z_keep f2_sc f2_rd (z_t1 (by decide))
            have f3_sc : h3 sc = some ((6, 0), .inr (7, [.ref b, .int (nI n), .int (nI (we t n (sk t n p))), .int (nI (sk t n p)), .int (nI (sk t n p)), .int (nI (we t n (sk t n p)))])) := by rw [← hh3]; exact z_put_eq
            have f3_b : h3 b = some ((3, 0), .inl (g.2.1 0, len, .inl f)) := by rw [← hh3]; exact z_keep f2_sc f2_b (z_t1 (by decide))
            have kk3 : z_K (fun y => y = 6 ∨ y = 8) h h3 := kk2.tr (by rw [← hh3]; exact z_K.put f2_sc (by first | decide | simp | omega))
            refine W.eq (g2 := F0 m 61 ls [.int 0]) rfl ?_
            refine lv_if_eq (tgt := 68) hx hb d_RecordReader_readBool_61 (by decide) (fun c_61 => ?_) (fun c_61 => ?_)
            · -- 61: True
              refine lv_iconst (v := 0) hx hb d_RecordReader_readBool_68 (by decide) ?_
              exact z_zret hx hb hr rfl hlocks hw (by unfold booR; rw [if_pos cw]; rw [if_neg (by rw [c_22]; decide)]; rw [if_neg (by rw [c_51]; decide)]; exact ⟨kk3, rfl, ⟨_, _, _, _, f3_sc, rfl⟩, _, f3_rd⟩) (by decide) (by decide) d_RecordReader_readBool_69
            · -- 61: False
              exact absurd (by decide) c_61
      · -- 22: False
        have c_22 : (wdIs t (sk t n p) (we t n (sk t n p)) 8) = true := zb_t c_22
        refine lv_lconst (v := 1) hx hb d_RecordReader_readBool_25 (by decide) ?_
        refine lv_goto (tgt := 30) hx hb d_RecordReader_readBool_26 (by decide) ?_
        refine z_putf (ty := .long) hx hb hts (z_lay i_RecordReader) t_RecordReader t_RecordReader_ok n_RecordReader hown hK hw f1_rd rfl 4 (by decide) (z_in k_506 rfl) (fun _ h9 => h9) rfl (by decide +kernel) rfl rfl (Nat.le_of_ble_eq_true rfl) d_RecordReader_readBool_30 (fun H locs hw => ?_)
        obtain ⟨h4, hh4⟩ : ∃ x9, z_put h1 rd (8, 0) (.inr (9, [.ref sc, .ref q, .ref w, .ref tr, .long 1])) = x9 := ⟨_, rfl⟩
        have hw : z_S g A s.heap h4 H locs := by rw [← hh4]; exact hw
        have f4_rd : h4 rd = some ((8, 0), .inr (9, [.ref sc, .ref q, .ref w, .ref tr, .long 1])) := by rw [← hh4]; exact z_put_eq
        have f4_sc : h4 sc = some ((6, 0), .inr (7, [.ref b, .int (nI n), .int (nI (we t n (sk t n p))), .int fa, .int (nI (sk t n p)), .int (nI (we t n (sk t n p)))])) := by rw [← hh4]; exact z_keep f1_rd f1_sc (z_t1 (by decide))
        have f4_b : h4 b = some ((3, 0), .inl (g.2.1 0, len, .inl f)) := by rw [← hh4]; exact z_keep f1_rd f1_b (z_t1 (by decide))
        have kk4 : z_K (fun y => y = 6 ∨ y = 8) h h4 := kk1.tr (by rw [← hh4]; exact z_K.put f1_rd (by first | decide | simp | omega))
        refine lv_aload_n hx hb d_RecordReader_readBool_33 rfl (lv_at hl 0 rfl) ?_
        refine z_get hx hb hts (z_lay i_RecordReader) hown hK hw f4_rd rfl 4 (by decide) (z_in k_506 rfl) (fun _ h9 => h9) rfl d_RecordReader_readBool_34 ?_
        refine lv_lconst (v := 1) hx hb d_RecordReader_readBool_37 (by decide) ?_
        refine W.lcmp hx hb d_RecordReader_readBool_38 ?_
        refine lv_if_eq (tgt := 64) hx hb d_RecordReader_readBool_39 (by decide) (fun c_39 => ?_) (fun c_39 => ?_)
        · -- 39: True
          have c_39 : (1 : Int64) = 1 := (lg_cmp_eq _ _).mp c_39
          refine lv_iconst (v := 1) hx hb d_RecordReader_readBool_64 (by decide) ?_
          refine lv_goto (tgt := 69) hx hb d_RecordReader_readBool_65 (by decide) ?_
          exact z_zret hx hb hr rfl hlocks hw (by unfold booR; rw [if_pos cw]; rw [if_pos c_22]; exact ⟨kk4, rfl, ⟨_, _, _, f4_sc⟩, f4_rd⟩) (by decide) (by decide) d_RecordReader_readBool_69
        · -- 39: False
          have c_39 : ¬ ((1 : Int64) = 1) := fun z => c_39 ((lg_cmp_eq _ _).mpr z)
          exact absurd rfl c_39
    · -- 7: False
      exact absurd c_7 (by decide)
  · -- cw False
    rw [if_neg cw] at hp
    obtain ⟨r8, hh5⟩ := hp
    subst r8
    obtain ⟨h5, e8⟩ : ∃ x9, x9 = h9 := ⟨_, rfl⟩
    subst e8
    have f5_rd : h5 rd = some ((8, 0), .inr (9, [.ref sc, .ref q, .ref w, .ref tr, .long nu9])) := by rw [← hh5]; exact z_keep hsc hrd (z_t1 (by decide))
    have f5_sc : h5 sc = some ((6, 0), .inr (7, [.ref b, .int (nI n), .int (nI (sk t n p)), .int (nI (sk t n p)), .int ws, .int wd])) := by rw [← hh5]; exact z_put_eq
    have f5_b : h5 b = some ((3, 0), .inl (g.2.1 0, len, .inl f)) := by rw [← hh5]; exact z_keep hsc hb0 (z_t1 (by decide))
    have kk5 : z_K (fun y => y = 6 ∨ y = 8) h h5 := kk0.tr (by rw [← hh5]; exact z_K.put hsc (by first | decide | simp | omega))
    refine W.eq (g2 := F0 m 7 ls [.int 0]) rfl ?_
    refine lv_if_ne (tgt := 12) hx hb d_RecordReader_readBool_7 (by decide) (fun c_7 => ?_) (fun c_7 => ?_)
    · -- 7: True
      exact absurd (by decide) c_7
    · -- 7: False
      refine lv_iconst (v := 0) hx hb d_RecordReader_readBool_10 (by decide) ?_
      exact z_zret hx hb hr rfl hlocks hw (by unfold booR; rw [if_neg cw]; exact ⟨kk5, rfl, ⟨_, _, _, _, f5_sc, rfl⟩, _, f5_rd⟩) (by decide) (by decide) d_RecordReader_readBool_11

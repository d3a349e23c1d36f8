set_option maxHeartbeats 4000000 in
set_option maxRecDepth 100000 in
theorem c_Scanner_isDigit (l : Launch) (g : z_G) (h : z_H) {k : Int32}   : z_C l y_Scanner_isDigit prog_8_method_14_code 1 (Option.some Jvm.ClassFile.FieldType.boolean) 0 0 0 0 g [.int k] h (fun r h1 => r = some (.int (zb (isDig k))) ∧ h = h1) := by
  refine z_C.of (by decide) (Nat.le_of_ble_eq_true rfl) (fun pg en s m below meth cd A ls hx hb hml hr hts hown hlocks hnm hK hE hA hw hl => ?_)
  have hl : lv_has ls 1 [(0, .int k)] := hl
  refine lv_iload_n hx hb d_Scanner_isDigit_0 rfl (lv_at hl 0 rfl) ?_
  refine lv_bipush (v := 48) hx hb d_Scanner_isDigit_1 (by decide) ?_
  refine lv_icmp_lt (tgt := 16) hx hb d_Scanner_isDigit_3 (by decide) (fun c_3 => ?_) (fun c_3 => ?_)
  · -- 3: True
    refine lv_iconst (v := 0) hx hb d_Scanner_isDigit_16 (by decide) ?_
    exact z_zret hx hb hr rfl hlocks hw (by refine ⟨congrArg some (congrArg Value.int ?_), rfl⟩; simp [Int32.lt_iff_toInt_lt, Int32.le_iff_toInt_le] at c_3; simp [zb, isDig, Int32.lt_iff_toInt_lt, Int32.le_iff_toInt_le]; omega) (by decide) (by decide) d_Scanner_isDigit_17
  · -- 3: False
    refine lv_iload_n hx hb d_Scanner_isDigit_6 rfl (lv_at hl 0 rfl) ?_
    refine lv_bipush (v := 57) hx hb d_Scanner_isDigit_7 (by decide) ?_
    refine lv_icmp_gt (tgt := 16) hx hb d_Scanner_isDigit_9 (by decide) (fun c_9 => ?_) (fun c_9 => ?_)
    · -- 9: True
      refine lv_iconst (v := 0) hx hb d_Scanner_isDigit_16 (by decide) ?_
      exact z_zret hx hb hr rfl hlocks hw (by refine ⟨congrArg some (congrArg Value.int ?_), rfl⟩; simp [Int32.lt_iff_toInt_lt, Int32.le_iff_toInt_le] at c_3 c_9; simp [zb, isDig, Int32.lt_iff_toInt_lt, Int32.le_iff_toInt_le]; omega) (by decide) (by decide) d_Scanner_isDigit_17
    · -- 9: False
      refine lv_iconst (v := 1) hx hb d_Scanner_isDigit_12 (by decide) ?_
      refine lv_goto (tgt := 17) hx hb d_Scanner_isDigit_13 (by decide) ?_
      exact z_zret hx hb hr rfl hlocks hw (by refine ⟨congrArg some (congrArg Value.int ?_), rfl⟩; simp [Int32.lt_iff_toInt_lt, Int32.le_iff_toInt_le] at c_3 c_9; simp [zb, isDig, Int32.lt_iff_toInt_lt, Int32.le_iff_toInt_le]; omega) (by decide) (by decide) d_Scanner_isDigit_17

set_option maxHeartbeats 4000000 in
set_option maxRecDepth 100000 in
theorem c_Scanner_isLetter (l : Launch) (g : z_G) (h : z_H) {k : Int32}   : z_C l y_Scanner_isLetter prog_8_method_15_code 1 (Option.some Jvm.ClassFile.FieldType.boolean) 0 0 0 0 g [.int k] h (fun r h1 => r = some (.int (zb (isLet k))) ∧ h = h1) := by
  refine z_C.of (by decide) (Nat.le_of_ble_eq_true rfl) (fun pg en s m below meth cd A ls hx hb hml hr hts hown hlocks hnm hK hE hA hw hl => ?_)
  have hl : lv_has ls 1 [(0, .int k)] := hl
  refine lv_iload_n hx hb d_Scanner_isLetter_0 rfl (lv_at hl 0 rfl) ?_
  refine lv_bipush (v := 97) hx hb d_Scanner_isLetter_1 (by decide) ?_
  refine lv_icmp_lt (tgt := 12) hx hb d_Scanner_isLetter_3 (by decide) (fun c_3 => ?_) (fun c_3 => ?_)
  · -- 3: True
    refine lv_iload_n hx hb d_Scanner_isLetter_12 rfl (lv_at hl 0 rfl) ?_
    refine lv_bipush (v := 65) hx hb d_Scanner_isLetter_13 (by decide) ?_
    refine lv_icmp_lt (tgt := 28) hx hb d_Scanner_isLetter_15 (by decide) (fun c_15 => ?_) (fun c_15 => ?_)
    · -- 15: True
      refine lv_iconst (v := 0) hx hb d_Scanner_isLetter_28 (by decide) ?_
      exact z_zret hx hb hr rfl hlocks hw (by refine ⟨congrArg some (congrArg Value.int ?_), rfl⟩; simp [Int32.lt_iff_toInt_lt, Int32.le_iff_toInt_le] at c_3 c_15; simp [zb, isLet, Int32.lt_iff_toInt_lt, Int32.le_iff_toInt_le]; omega) (by decide) (by decide) d_Scanner_isLetter_29
    · -- 15: False
      refine lv_iload_n hx hb d_Scanner_isLetter_18 rfl (lv_at hl 0 rfl) ?_
      refine lv_bipush (v := 90) hx hb d_Scanner_isLetter_19 (by decide) ?_
      refine lv_icmp_gt (tgt := 28) hx hb d_Scanner_isLetter_21 (by decide) (fun c_21 => ?_) (fun c_21 => ?_)
      · -- 21: True
        refine lv_iconst (v := 0) hx hb d_Scanner_isLetter_28 (by decide) ?_
        exact z_zret hx hb hr rfl hlocks hw (by refine ⟨congrArg some (congrArg Value.int ?_), rfl⟩; simp [Int32.lt_iff_toInt_lt, Int32.le_iff_toInt_le] at c_3 c_15 c_21; simp [zb, isLet, Int32.lt_iff_toInt_lt, Int32.le_iff_toInt_le]; omega) (by decide) (by decide) d_Scanner_isLetter_29
      · -- 21: False
        refine lv_iconst (v := 1) hx hb d_Scanner_isLetter_24 (by decide) ?_
        refine lv_goto (tgt := 29) hx hb d_Scanner_isLetter_25 (by decide) ?_
        exact z_zret hx hb hr rfl hlocks hw (by refine ⟨congrArg some (congrArg Value.int ?_), rfl⟩; simp [Int32.lt_iff_toInt_lt, Int32.le_iff_toInt_le] at c_3 c_15 c_21; simp [zb, isLet, Int32.lt_iff_toInt_lt, Int32.le_iff_toInt_le]; omega) (by decide) (by decide) d_Scanner_isLetter_29
  · -- 3: False
    refine lv_iload_n hx hb d_Scanner_isLetter_6 rfl (lv_at hl 0 rfl) ?_
    refine lv_bipush (v := 122) hx hb d_Scanner_isLetter_7 (by decide) ?_
    refine lv_icmp_le (tgt := 24) hx hb d_Scanner_isLetter_9 (by decide) (fun c_9 => ?_) (fun c_9 => ?_)
    · -- 9: True
      refine lv_iconst (v := 1) hx hb d_Scanner_isLetter_24 (by decide) ?_
      refine lv_goto (tgt := 29) hx hb d_Scanner_isLetter_25 (by decide) ?_
      exact z_zret hx hb hr rfl hlocks hw (by refine ⟨congrArg some (congrArg Value.int ?_), rfl⟩; simp [Int32.lt_iff_toInt_lt, Int32.le_iff_toInt_le] at c_3 c_9; simp [zb, isLet, Int32.lt_iff_toInt_lt, Int32.le_iff_toInt_le]; omega) (by decide) (by decide) d_Scanner_isLetter_29
    · -- 9: False
      refine lv_iload_n hx hb d_Scanner_isLetter_12 rfl (lv_at hl 0 rfl) ?_
      refine lv_bipush (v := 65) hx hb d_Scanner_isLetter_13 (by decide) ?_
      refine lv_icmp_lt (tgt := 28) hx hb d_Scanner_isLetter_15 (by decide) (fun c_15 => ?_) (fun c_15 => ?_)
      · -- 15: True
        refine lv_iconst (v := 0) hx hb d_Scanner_isLetter_28 (by decide) ?_
        exact z_zret hx hb hr rfl hlocks hw (by refine ⟨congrArg some (congrArg Value.int ?_), rfl⟩; simp [Int32.lt_iff_toInt_lt, Int32.le_iff_toInt_le] at c_3 c_9 c_15; simp [zb, isLet, Int32.lt_iff_toInt_lt, Int32.le_iff_toInt_le]; omega) (by decide) (by decide) d_Scanner_isLetter_29
      · -- 15: False
        refine lv_iload_n hx hb d_Scanner_isLetter_18 rfl (lv_at hl 0 rfl) ?_
        refine lv_bipush (v := 90) hx hb d_Scanner_isLetter_19 (by decide) ?_
        refine lv_icmp_gt (tgt := 28) hx hb d_Scanner_isLetter_21 (by decide) (fun c_21 => ?_) (fun c_21 => ?_)
        · -- 21: True
          refine lv_iconst (v := 0) hx hb d_Scanner_isLetter_28 (by decide) ?_
          exact z_zret hx hb hr rfl hlocks hw (by refine ⟨congrArg some (congrArg Value.int ?_), rfl⟩; simp [Int32.lt_iff_toInt_lt, Int32.le_iff_toInt_le] at c_3 c_9 c_15 c_21; simp [zb, isLet, Int32.lt_iff_toInt_lt, Int32.le_iff_toInt_le]; omega) (by decide) (by decide) d_Scanner_isLetter_29
        · -- 21: False
          refine lv_iconst (v := 1) hx hb d_Scanner_isLetter_24 (by decide) ?_
          refine lv_goto (tgt := 29) hx hb d_Scanner_isLetter_25 (by decide) ?_
          exact z_zret hx hb hr rfl hlocks hw (by refine ⟨congrArg some (congrArg Value.int ?_), rfl⟩; simp [Int32.lt_iff_toInt_lt, Int32.le_iff_toInt_le] at c_3 c_9 c_15 c_21; simp [zb, isLet, Int32.lt_iff_toInt_lt, Int32.le_iff_toInt_le]; omega) (by decide) (by decide) d_Scanner_isLetter_29

set_option maxHeartbeats 4000000 in
set_option maxRecDepth 100000 in
theorem c_Scanner_byteAt (l : Launch) (g : z_G) (h : z_H) {sc b len n p : Nat} {f : Nat → Int32} {fa ws we : Int32} {t : Nat → Nat} {k : Int32} (hsc : h sc = some ((6, 0), .inr (7, [.ref b, .int (nI n), .int (nI p), .int fa, .int ws, .int we]))) (hb0 : h b = some ((3, 0), .inl (g.2.1 0, len, .inl f))) (hn : n ≤ len) (hlen : len < 2 ^ 31) (hf : ∀ k, k < n → t k < 256 ∧ f k = sb_b (t k)) : z_C l y_Scanner_byteAt prog_8_method_2_code 2 (Option.some Jvm.ClassFile.FieldType.int) 0 0 0 0 g [.ref sc, .int k] h (fun r h1 => r = some (.int (bz t n k)) ∧ h = h1) := by
  refine z_C.of (by decide) (Nat.le_of_ble_eq_true rfl) (fun pg en s m below meth cd A ls hx hb hml hr hts hown hlocks hnm hK hE hA hw hl => ?_)
  have hl : lv_has ls 2 [(0, .ref sc), (1, .int k)] := hl
  refine lv_iload_n hx hb d_Scanner_byteAt_0 rfl (lv_at hl 1 rfl) ?_
  refine lv_if_lt (tgt := 12) hx hb d_Scanner_byteAt_1 (by decide) (fun c_1 => ?_) (fun c_1 => ?_)
  · -- 1: True
    refine lv_iconst (v := (-1)) hx hb d_Scanner_byteAt_12 (by decide) ?_
    refine lv_goto (tgt := 26) hx hb d_Scanner_byteAt_13 (by decide) ?_
    exact z_iret hx hb hr hlocks hw (by refine ⟨congrArg some (congrArg Value.int ?_), rfl⟩; unfold bz; rw [if_pos c_1]) (by decide) (by decide) d_Scanner_byteAt_26
  · -- 1: False
    obtain ⟨j, hj, rfl⟩ := nI_of c_1
    have hl : lv_has ls 2 [(0, .ref sc), (1, .int (nI j))] := hl
    refine lv_iload_n hx hb d_Scanner_byteAt_4 rfl (lv_at hl 1 rfl) ?_
    refine lv_aload_n hx hb d_Scanner_byteAt_5 rfl (lv_at hl 0 rfl) ?_
    refine z_get hx hb hts (z_lay i_Scanner) hown hK hw hsc rfl 1 (by decide) (z_in k_189 rfl) (fun _ h9 => h9) rfl d_Scanner_byteAt_6 ?_
    refine lv_icmp_lt (tgt := 16) hx hb d_Scanner_byteAt_9 (by decide) (fun c_9 => ?_) (fun c_9 => ?_)
    · -- 9: True
      have c_9 : j < n := (nI_ltI (a := j) (b := n) (by omega) (by omega)).mp c_9
      refine lv_aload_n hx hb d_Scanner_byteAt_16 rfl (lv_at hl 0 rfl) ?_
      refine z_get hx hb hts (z_lay i_Scanner) hown hK hw hsc rfl 0 (by decide) (z_in k_188 rfl) (fun _ h9 => h9) rfl d_Scanner_byteAt_17 ?_
      refine lv_iload_n hx hb d_Scanner_byteAt_20 rfl (lv_at hl 1 rfl) ?_
      refine z_bald hx hb hK hw hb0 0 rfl (vp_in_nI (by omega) (by omega)) d_Scanner_byteAt_21 ?_
      refine z_topi (y := f j) (by rw [nI_clamp (by omega)]) ?_
      refine lv_sipush (v := 255) hx hb d_Scanner_byteAt_22 (by decide) ?_
      refine lv_iand hx hb d_Scanner_byteAt_25 ?_
      exact z_iret hx hb hr hlocks hw (by refine ⟨congrArg some (congrArg Value.int ?_), rfl⟩; rw [bz_n hj, bt_in c_9, (hf j c_9).2]; exact (sb_byte _ (hf j c_9).1).1) (by decide) (by decide) d_Scanner_byteAt_26
    · -- 9: False
      have c_9 : ¬ (j < n) := fun z => c_9 ((nI_ltI (a := j) (b := n) (by omega) (by omega)).mpr z)
      refine lv_iconst (v := (-1)) hx hb d_Scanner_byteAt_12 (by decide) ?_
      refine lv_goto (tgt := 26) hx hb d_Scanner_byteAt_13 (by decide) ?_
      exact z_iret hx hb hr hlocks hw (by refine ⟨congrArg some (congrArg Value.int ?_), rfl⟩; rw [bz_n hj, bt_out c_9]) (by decide) (by decide) d_Scanner_byteAt_26

set_option maxHeartbeats 4000000 in
set_option maxRecDepth 100000 in
theorem c_Scanner_here (l : Launch) (g : z_G) (h : z_H) {sc b len n p : Nat} {f : Nat → Int32} {fa ws we : Int32} {t : Nat → Nat} (hsc : h sc = some ((6, 0), .inr (7, [.ref b, .int (nI n), .int (nI p), .int fa, .int ws, .int we]))) (hb0 : h b = some ((3, 0), .inl (g.2.1 0, len, .inl f))) (hn : n ≤ len) (hlen : len < 2 ^ 31) (hf : ∀ k, k < n → t k < 256 ∧ f k = sb_b (t k)) (hp : p < 2 ^ 31) : z_C l y_Scanner_here prog_8_method_4_code 1 (Option.some Jvm.ClassFile.FieldType.int) 0 0 0 0 g [.ref sc] h (fun r h1 => r = some (.int (bt t n p)) ∧ h = h1) := by
  refine z_C.of (by decide) (Nat.le_of_ble_eq_true rfl) (fun pg en s m below meth cd A ls hx hb hml hr hts hown hlocks hnm hK hE hA hw hl => ?_)
  have hl : lv_has ls 1 [(0, .ref sc)] := hl
  refine lv_aload_n hx hb d_Scanner_here_0 rfl (lv_at hl 0 rfl) ?_
  refine z_get hx hb hts (z_lay i_Scanner) hown hK hw hsc rfl 2 (by decide) (z_in k_191 rfl) (fun _ h9 => h9) rfl d_Scanner_here_1 ?_
  refine lv_aload_n hx hb d_Scanner_here_4 rfl (lv_at hl 0 rfl) ?_
  refine z_get hx hb hts (z_lay i_Scanner) hown hK hw hsc rfl 1 (by decide) (z_in k_189 rfl) (fun _ h9 => h9) rfl d_Scanner_here_5 ?_
  refine lv_icmp_ge (tgt := 27) hx hb d_Scanner_here_8 (by decide) (fun c_8 => ?_) (fun c_8 => ?_)
  · -- 8: True
    have c_8 : n ≤ p := (nI_leI (a := n) (b := p) (by omega) (by omega)).mp c_8
    refine lv_iconst (v := (-1)) hx hb d_Scanner_here_27 (by decide) ?_
    exact z_iret hx hb hr hlocks hw (by refine ⟨congrArg some (congrArg Value.int ?_), rfl⟩; rw [bt_out (by omega)]) (by decide) (by decide) d_Scanner_here_28
  · -- 8: False
    have c_8 : ¬ (n ≤ p) := fun z => c_8 ((nI_leI (a := n) (b := p) (by omega) (by omega)).mpr z)
    refine lv_aload_n hx hb d_Scanner_here_11 rfl (lv_at hl 0 rfl) ?_
    refine z_get hx hb hts (z_lay i_Scanner) hown hK hw hsc rfl 0 (by decide) (z_in k_188 rfl) (fun _ h9 => h9) rfl d_Scanner_here_12 ?_
    refine lv_aload_n hx hb d_Scanner_here_15 rfl (lv_at hl 0 rfl) ?_
    refine z_get hx hb hts (z_lay i_Scanner) hown hK hw hsc rfl 2 (by decide) (z_in k_191 rfl) (fun _ h9 => h9) rfl d_Scanner_here_16 ?_
    refine z_bald hx hb hK hw hb0 0 rfl (vp_in_nI (by omega) (by omega)) d_Scanner_here_19 ?_
    refine z_topi (y := f p) (by rw [nI_clamp (by omega)]) ?_
    refine lv_sipush (v := 255) hx hb d_Scanner_here_20 (by decide) ?_
    refine lv_iand hx hb d_Scanner_here_23 ?_
    refine lv_goto (tgt := 28) hx hb d_Scanner_here_24 (by decide) ?_
    exact z_iret hx hb hr hlocks hw (by refine ⟨congrArg some (congrArg Value.int ?_), rfl⟩; rw [bt_in (by omega), (hf p (by omega)).2]; exact (sb_byte _ (hf p (by omega)).1).1) (by decide) (by decide) d_Scanner_here_28

set_option maxHeartbeats 4000000 in
set_option maxRecDepth 100000 in
theorem c_Scanner_step (l : Launch) (g : z_G) (h : z_H) {sc b n p : Nat} {fa ws we : Int32} {d : Nat} (hsc : h sc = some ((6, 0), .inr (7, [.ref b, .int (nI n), .int (nI p), .int fa, .int ws, .int we])))  : z_C l y_Scanner_step prog_8_method_5_code 2 (Option.none : Option Jvm.ClassFile.FieldType) 0 0 0 0 g [.ref sc, .int (nI d)] h (fun r h1 => r = none ∧ z_put h sc (6, 0) (.inr (7, [.ref b, .int (nI n), .int (nI (p + d)), .int (fa), .int (ws), .int (we)])) = h1) := by
  refine z_C.of (by decide) (Nat.le_of_ble_eq_true rfl) (fun pg en s m below meth cd A ls hx hb hml hr hts hown hlocks hnm hK hE hA hw hl => ?_)
  have hl : lv_has ls 2 [(0, .ref sc), (1, .int (nI d))] := hl
  refine lv_aload_n hx hb d_Scanner_step_0 rfl (lv_at hl 0 rfl) ?_
  refine lv_dup hx hb d_Scanner_step_1 rfl ?_
  refine z_get hx hb hts (z_lay i_Scanner) hown hK hw hsc rfl 2 (by decide) (z_in k_191 rfl) (fun _ h9 => h9) rfl d_Scanner_step_2 ?_
  refine lv_iload_n hx hb d_Scanner_step_5 rfl (lv_at hl 1 rfl) ?_
  refine lv_iadd hx hb d_Scanner_step_6 ?_
  refine z_topi (y := nI (p + d)) (nI_add p d) ?_
  refine z_putf (ty := .int) hx hb hts (z_lay i_Scanner) t_Scanner t_Scanner_ok n_Scanner hown hK hw hsc rfl 2 (by decide) (z_in k_191 rfl) (fun _ h9 => h9) rfl (by decide +kernel) rfl rfl (Nat.le_of_ble_eq_true rfl) d_Scanner_step_7 (fun H locs hw => ?_)
  obtain ⟨h1, hh1⟩ : ∃ x9, z_put h sc (6, 0) (.inr (7, [.ref b, .int (nI n), .int (nI (p + d)), .int fa, .int ws, .int we])) = x9 := ⟨_, rfl⟩
  have hw : z_S g A s.heap h1 H locs := by rw [← hh1]; exact hw
  have f1_sc : h1 sc = some ((6, 0), .inr (7, [.ref b, .int (nI n), .int (nI (p + d)), .int fa, .int ws, .int we])) := by rw [← hh1]; exact z_put_eq
  exact z_vret hx hb hr hlocks hw ⟨rfl, hh1⟩ (by decide) (by decide) d_Scanner_step_10

set_option maxHeartbeats 4000000 in
set_option maxRecDepth 100000 in
theorem c_Scanner_fail (l : Launch) (g : z_G) (h : z_H) {sc b n p : Nat} {fa ws we : Int32} {k : Int32} (hsc : h sc = some ((6, 0), .inr (7, [.ref b, .int (nI n), .int (nI p), .int fa, .int ws, .int we])))  : z_C l y_Scanner_fail prog_8_method_7_code 2 (Option.some Jvm.ClassFile.FieldType.boolean) 0 0 0 0 g [.ref sc, .int k] h (fun r h1 => r = some (.int 0) ∧ z_put h sc (6, 0) (.inr (7, [.ref b, .int (nI n), .int (nI p), .int (k), .int (ws), .int (we)])) = h1) := by
  refine z_C.of (by decide) (Nat.le_of_ble_eq_true rfl) (fun pg en s m below meth cd A ls hx hb hml hr hts hown hlocks hnm hK hE hA hw hl => ?_)
  have hl : lv_has ls 2 [(0, .ref sc), (1, .int k)] := hl
  refine lv_aload_n hx hb d_Scanner_fail_0 rfl (lv_at hl 0 rfl) ?_
  refine lv_iload_n hx hb d_Scanner_fail_1 rfl (lv_at hl 1 rfl) ?_
  refine z_putf (ty := .int) hx hb hts (z_lay i_Scanner) t_Scanner t_Scanner_ok n_Scanner hown hK hw hsc rfl 3 (by decide) (z_in k_193 rfl) (fun _ h9 => h9) rfl (by decide +kernel) rfl rfl (Nat.le_of_ble_eq_true rfl) d_Scanner_fail_2 (fun H locs hw => ?_)
  obtain ⟨h1, hh1⟩ : ∃ x9, z_put h sc (6, 0) (.inr (7, [.ref b, .int (nI n), .int (nI p), .int k, .int ws, .int we])) = x9 := ⟨_, rfl⟩
  have hw : z_S g A s.heap h1 H locs := by rw [← hh1]; exact hw
  have f1_sc : h1 sc = some ((6, 0), .inr (7, [.ref b, .int (nI n), .int (nI p), .int k, .int ws, .int we])) := by rw [← hh1]; exact z_put_eq
  refine lv_iconst (v := 0) hx hb d_Scanner_fail_5 (by decide) ?_
  exact z_zret hx hb hr rfl hlocks hw ⟨rfl, hh1⟩ (by decide) (by decide) d_Scanner_fail_6

set_option maxHeartbeats 4000000 in
set_option maxRecDepth 100000 in
theorem c_JS_coder (l : Launch) (g : z_G) (h : z_H) {i : Nat}  (hi : i < 11) : z_C l y_JS_coder prog_16_method_152_code 1 (Option.some Jvm.ClassFile.FieldType.byte) 0 0 0 0 g [.ref (g.2.2 (1 + i))] h (fun r h1 => r = some (.int 0) ∧ h = h1) := by
  refine z_C.of (by decide) (Nat.le_of_ble_eq_true rfl) (fun pg en s m below meth cd A ls hx hb hml hr hts hown hlocks hnm hK hE hA hw hl => ?_)
  have hl : lv_has ls 1 [(0, .ref (g.2.2 (1 + i)))] := hl
  refine va_gets hx hb hE.2.2.1 hw.2.2 hown (hts _ (z_in k_282 rfl)) (fun _ h9 => h9) d_JS_coder_0 ?_
  refine lv_if_eq (tgt := 13) hx hb d_JS_coder_3 (by decide) (fun c_3 => ?_) (fun c_3 => ?_)
  · -- 3: True
    exact absurd c_3 (by decide)
  · -- 3: False
    refine lv_aload_n hx hb d_JS_coder_6 rfl (lv_at hl 0 rfl) ?_
    refine vk_getf hx hb (hE.2.2.2.1.1 i hi).2.1 hw.2.2 hown (hts _ (z_in k_1099 rfl)) (fun _ h9 => h9) d_JS_coder_7 ?_
    refine lv_goto (tgt := 14) hx hb d_JS_coder_10 (by decide) ?_
    exact z_zret hx hb hr rfl hlocks hw ⟨rfl, rfl⟩ (by decide) (by decide) d_JS_coder_14

set_option maxHeartbeats 4000000 in
set_option maxRecDepth 100000 in
theorem c_JS_isLatin1 (l : Launch) (g : z_G) (h : z_H) {i : Nat}  (hi : i < 11) : z_C l y_JS_isLatin1 prog_16_method_154_code 1 (Option.some Jvm.ClassFile.FieldType.boolean) 0 0 0 0 g [.ref (g.2.2 (1 + i))] h (fun r h1 => r = some (.int 1) ∧ h = h1) := by
  refine z_C.of (by decide) (Nat.le_of_ble_eq_true rfl) (fun pg en s m below meth cd A ls hx hb hml hr hts hown hlocks hnm hK hE hA hw hl => ?_)
  have hl : lv_has ls 1 [(0, .ref (g.2.2 (1 + i)))] := hl
  refine va_gets hx hb hE.2.2.1 hw.2.2 hown (hts _ (z_in k_282 rfl)) (fun _ h9 => h9) d_JS_isLatin1_0 ?_
  refine lv_if_eq (tgt := 17) hx hb d_JS_isLatin1_3 (by decide) (fun c_3 => ?_) (fun c_3 => ?_)
  · -- 3: True
    exact absurd c_3 (by decide)
  · -- 3: False
    refine lv_aload_n hx hb d_JS_isLatin1_6 rfl (lv_at hl 0 rfl) ?_
    refine vk_getf hx hb (hE.2.2.2.1.1 i hi).2.1 hw.2.2 hown (hts _ (z_in k_1099 rfl)) (fun _ h9 => h9) d_JS_isLatin1_7 ?_
    refine lv_if_ne (tgt := 17) hx hb d_JS_isLatin1_10 (by decide) (fun c_10 => ?_) (fun c_10 => ?_)
    · -- 10: True
      exact absurd (by decide) c_10
    · -- 10: False
      refine lv_iconst (v := 1) hx hb d_JS_isLatin1_13 (by decide) ?_
      refine lv_goto (tgt := 18) hx hb d_JS_isLatin1_14 (by decide) ?_
      exact z_zret hx hb hr rfl hlocks hw ⟨rfl, rfl⟩ (by decide) (by decide) d_JS_isLatin1_18

set_option maxHeartbeats 4000000 in
set_option maxRecDepth 100000 in
theorem c_JS_length (l : Launch) (g : z_G) (h : z_H) {i : Nat}  (hi : i < 11) : z_C l y_JS_length prog_16_method_54_code 1 (Option.some Jvm.ClassFile.FieldType.int) 1 20 0 0 g [.ref (g.2.2 (1 + i))] h (fun r h1 => r = some (.int (nI (z_len.getD i 0))) ∧ h = h1) := by
  refine z_C.of (by decide) (Nat.le_of_ble_eq_true rfl) (fun pg en s m below meth cd A ls hx hb hml hr hts hown hlocks hnm hK hE hA hw hl => ?_)
  have hl : lv_has ls 1 [(0, .ref (g.2.2 (1 + i)))] := hl
  refine lv_aload_n hx hb d_JS_length_0 rfl (lv_at hl 0 rfl) ?_
  refine vk_getf hx hb (hE.2.2.2.1.1 i hi).2.2.1 hw.2.2 hown (hts _ (z_in k_1098 rfl)) (fun _ h9 => h9) d_JS_length_1 ?_
  refine va_tlen hx hb (v := nI (z_len.getD i 0)) (hE.2.2.2.1.1 i hi).2.2.2 hw.2.2 rfl d_JS_length_4 ?_
  refine lv_aload_n hx hb d_JS_length_5 rfl (lv_at hl 0 rfl) ?_
  refine z_callR (n := 0) (As := []) (rest := [.int (nI (z_len.getD i 0))]) ⟨hx, hb, hml, hown, hts⟩ (c_JS_coder l g h hi) (z_in k_281 rfl) (z_in k_10 rfl) (z_in k_278 rfl) (z_in k_279 rfl) (z_in k_280 rfl) (by decide +kernel) ⟨by first | exact Nat.le_of_ble_eq_true rfl | (dsimp only; omega) | omega, by first | exact Nat.le_of_ble_eq_true rfl | (dsimp only; omega) | omega⟩ hK hE hw hA (vk_recv (adK := fun i => g.2.2 (1 + i)) (i := i) hE.2.2.2.1 hi hw.2.2) rfl hl.1 (Nat.le_of_ble_eq_true rfl) d_JS_length_6 ⟨by first | exact Nat.le_of_ble_eq_true rfl | (dsimp only; omega) | omega, by first | exact Nat.le_of_ble_eq_true rfl | (dsimp only; omega) | omega⟩ rfl (fun r9 h9 H locs hp hw => ?_)
  obtain ⟨r8, h8⟩ := hp
  subst r8
  subst h8
  refine W.eq (g2 := F0 m 9 ls [.int 0, .int (nI (z_len.getD i 0))]) rfl ?_
  refine lv_ishr hx hb d_JS_length_9 ?_
  refine z_topi (y := nI (z_len.getD i 0)) (sb_shr0 _) ?_
  exact z_iret hx hb hr hlocks hw ⟨rfl, rfl⟩ (by decide) (by decide) d_JS_length_10

set_option maxHeartbeats 4000000 in
set_option maxRecDepth 100000 in
theorem c_JP_checkIndex_r (l : Launch) (g : z_G) (h : z_H) {k n : Nat} {q : Nat}  (hk : k < n) (hn : n < 2 ^ 31) : z_C l y_JP_checkIndex prog_21_method_11_code 3 (Option.some Jvm.ClassFile.FieldType.int) 0 0 0 0 g [.int (nI k), .int (nI n), .ref q] h (fun r h1 => r = some (.int (nI k)) ∧ h = h1) := by
  refine z_C.of (by decide) (Nat.le_of_ble_eq_true rfl) (fun pg en s m below meth cd A ls hx hb hml hr hts hown hlocks hnm hK hE hA hw hl => ?_)
  have hl : lv_has ls 3 [(0, .int (nI k)), (1, .int (nI n)), (2, .ref q)] := hl
  refine lv_iload_n hx hb d_JP_checkIndex_0 rfl (lv_at hl 0 rfl) ?_
  refine lv_if_lt (tgt := 9) hx hb d_JP_checkIndex_1 (by decide) (fun c_1 => ?_) (fun c_1 => ?_)
  · -- 1: True
    have c_1 : k < 0 := (nI_ltI (a := k) (b := 0) (by omega) (by omega)).mp c_1
    omega
  · -- 1: False
    have c_1 : ¬ (k < 0) := fun z => c_1 ((nI_ltI (a := k) (b := 0) (by omega) (by omega)).mpr z)
    refine lv_iload_n hx hb d_JP_checkIndex_4 rfl (lv_at hl 0 rfl) ?_
    refine lv_iload_n hx hb d_JP_checkIndex_5 rfl (lv_at hl 1 rfl) ?_
    refine lv_icmp_lt (tgt := 16) hx hb d_JP_checkIndex_6 (by decide) (fun c_6 => ?_) (fun c_6 => ?_)
    · -- 6: True
      have c_6 : k < n := (nI_ltI (a := k) (b := n) (by omega) (by omega)).mp c_6
      refine lv_iload_n hx hb d_JP_checkIndex_16 rfl (lv_at hl 0 rfl) ?_
      exact z_iret hx hb hr hlocks hw ⟨rfl, rfl⟩ (by decide) (by decide) d_JP_checkIndex_17
    · -- 6: False
      have c_6 : ¬ (k < n) := fun z => c_6 ((nI_ltI (a := k) (b := n) (by omega) (by omega)).mpr z)
      omega

set_option maxHeartbeats 4000000 in
set_option maxRecDepth 100000 in
theorem c_JP_checkIndex_n (l : Launch) (g : z_G) (h : z_H) {k n : Nat}  (hk : k < n) (hn : n < 2 ^ 31) : z_C l y_JP_checkIndex prog_21_method_11_code 3 (Option.some Jvm.ClassFile.FieldType.int) 0 0 0 0 g [.int (nI k), .int (nI n), .null] h (fun r h1 => r = some (.int (nI k)) ∧ h = h1) := by
  refine z_C.of (by decide) (Nat.le_of_ble_eq_true rfl) (fun pg en s m below meth cd A ls hx hb hml hr hts hown hlocks hnm hK hE hA hw hl => ?_)
  have hl : lv_has ls 3 [(0, .int (nI k)), (1, .int (nI n)), (2, .null)] := hl
  refine lv_iload_n hx hb d_JP_checkIndex_0 rfl (lv_at hl 0 rfl) ?_
  refine lv_if_lt (tgt := 9) hx hb d_JP_checkIndex_1 (by decide) (fun c_1 => ?_) (fun c_1 => ?_)
  · -- 1: True
    have c_1 : k < 0 := (nI_ltI (a := k) (b := 0) (by omega) (by omega)).mp c_1
    omega
  · -- 1: False
    have c_1 : ¬ (k < 0) := fun z => c_1 ((nI_ltI (a := k) (b := 0) (by omega) (by omega)).mpr z)
    refine lv_iload_n hx hb d_JP_checkIndex_4 rfl (lv_at hl 0 rfl) ?_
    refine lv_iload_n hx hb d_JP_checkIndex_5 rfl (lv_at hl 1 rfl) ?_
    refine lv_icmp_lt (tgt := 16) hx hb d_JP_checkIndex_6 (by decide) (fun c_6 => ?_) (fun c_6 => ?_)
    · -- 6: True
      have c_6 : k < n := (nI_ltI (a := k) (b := n) (by omega) (by omega)).mp c_6
      refine lv_iload_n hx hb d_JP_checkIndex_16 rfl (lv_at hl 0 rfl) ?_
      exact z_iret hx hb hr hlocks hw ⟨rfl, rfl⟩ (by decide) (by decide) d_JP_checkIndex_17
    · -- 6: False
      have c_6 : ¬ (k < n) := fun z => c_6 ((nI_ltI (a := k) (b := n) (by omega) (by omega)).mpr z)
      omega

set_option maxHeartbeats 4000000 in
set_option maxRecDepth 100000 in
theorem c_JS_checkIndex (l : Launch) (g : z_G) (h : z_H) {k n : Nat}  (hk : k < n) (hn : n < 2 ^ 31) : z_C l y_JS_checkIndex prog_16_method_155_code 2 (Option.none : Option Jvm.ClassFile.FieldType) 1 22 0 0 g [.int (nI k), .int (nI n)] h (fun r h1 => r = none ∧ h = h1) := by
  refine z_C.of (by decide) (Nat.le_of_ble_eq_true rfl) (fun pg en s m below meth cd A ls hx hb hml hr hts hown hlocks hnm hK hE hA hw hl => ?_)
  have hl : lv_has ls 2 [(0, .int (nI k)), (1, .int (nI n))] := hl
  refine lv_iload_n hx hb d_JS_checkIndex_0 rfl (lv_at hl 0 rfl) ?_
  refine lv_iload_n hx hb d_JS_checkIndex_1 rfl (lv_at hl 1 rfl) ?_
  rcases hE.2.2.2.2.2.2.2.2.2.2.2 with zN | ⟨q9, zR⟩
  · -- n
    refine va_gets hx hb zN hw.2.2 hown (hts _ (z_in k_302 rfl)) (fun _ h9 => h9) d_JS_checkIndex_2 ?_
    refine z_callS (n := 3) (As := [.int (nI k), .int (nI n), .null]) (rest := []) ⟨hx, hb, hml, hown, hts⟩ (c_JP_checkIndex_n l g h hk hn) (z_in k_306 rfl) (z_in k_12 rfl) (z_in k_304 rfl) (z_in k_305 rfl) (by decide +kernel) ⟨by first | exact Nat.le_of_ble_eq_true rfl | (dsimp only; omega) | omega, by first | exact Nat.le_of_ble_eq_true rfl | (dsimp only; omega) | omega⟩ hK hE hw hA rfl hl.1 (Nat.le_of_ble_eq_true rfl) d_JS_checkIndex_5 ⟨by first | exact Nat.le_of_ble_eq_true rfl | (dsimp only; omega) | omega, by first | exact Nat.le_of_ble_eq_true rfl | (dsimp only; omega) | omega⟩ rfl (fun r9 h9 H locs hp hw => ?_)
    obtain ⟨r8, h8⟩ := hp
    subst r8
    subst h8
    refine W.eq (g2 := F0 m 8 ls [.int (nI k)]) rfl ?_
    refine lv_pop hx hb d_JS_checkIndex_8 rfl ?_
    exact z_vret hx hb hr hlocks hw ⟨rfl, rfl⟩ (by decide) (by decide) d_JS_checkIndex_9
  · -- r
    refine va_gets hx hb zR hw.2.2 hown (hts _ (z_in k_302 rfl)) (fun _ h9 => h9) d_JS_checkIndex_2 ?_
    refine z_callS (n := 3) (As := [.int (nI k), .int (nI n), .ref q9]) (rest := []) ⟨hx, hb, hml, hown, hts⟩ (c_JP_checkIndex_r l g h hk hn) (z_in k_306 rfl) (z_in k_12 rfl) (z_in k_304 rfl) (z_in k_305 rfl) (by decide +kernel) ⟨by first | exact Nat.le_of_ble_eq_true rfl | (dsimp only; omega) | omega, by first | exact Nat.le_of_ble_eq_true rfl | (dsimp only; omega) | omega⟩ hK hE hw hA rfl hl.1 (Nat.le_of_ble_eq_true rfl) d_JS_checkIndex_5 ⟨by first | exact Nat.le_of_ble_eq_true rfl | (dsimp only; omega) | omega, by first | exact Nat.le_of_ble_eq_true rfl | (dsimp only; omega) | omega⟩ rfl (fun r9 h9 H locs hp hw => ?_)
    obtain ⟨r8, h8⟩ := hp
    subst r8
    subst h8
    refine W.eq (g2 := F0 m 8 ls [.int (nI k)]) rfl ?_
    refine lv_pop hx hb d_JS_checkIndex_8 rfl ?_
    exact z_vret hx hb hr hlocks hw ⟨rfl, rfl⟩ (by decide) (by decide) d_JS_checkIndex_9

theorem z_strs : ∀ i, i < 11 → (z_len.getD i 0 < 2 ^ 30 ∧ (z_byt.getD i []).length = z_len.getD i 0) := by decide +kernel
/-- the k-th char of the i-th string -/
def sch (i k : Nat) : Nat := (((z_byt.getD i []).getD k 0) &&& 255).toNatClampNeg
theorem sch_b (i k : Nat) : ((z_byt.getD i []).getD k 0) &&& 255 = nI (sch i k) ∧ sch i k < 256 := by
  obtain ⟨c, hc, e, -⟩ := b255 ((z_byt.getD i []).getD k 0)
  unfold sch
  rw [e, nI_clamp (by omega)]
  exact ⟨rfl, hc⟩
theorem i2c_small : ∀ c, c < 256 → ((nI c).toUInt32 % 65536).toInt32 = nI c := fun c hc => (sb_byte c hc).2.1

set_option maxHeartbeats 4000000 in
set_option maxRecDepth 100000 in
theorem c_JL_charAt (l : Launch) (g : z_G) (h : z_H) {i k : Nat}  (hi : i < 11) (hk : k < z_len.getD i 0) : z_C l y_JL_charAt prog_17_method_2_code 2 (Option.some Jvm.ClassFile.FieldType.char) 2 44 0 0 g [.ref (g.2.2 (20 + i)), .int (nI k)] h (fun r h1 => r = some (.int (nI (sch i k))) ∧ h = h1) := by
  refine z_C.of (by decide) (Nat.le_of_ble_eq_true rfl) (fun pg en s m below meth cd A ls hx hb hml hr hts hown hlocks hnm hK hE hA hw hl => ?_)
  have hl : lv_has ls 2 [(0, .ref (g.2.2 (20 + i))), (1, .int (nI k))] := hl
  refine lv_iload_n hx hb d_JL_charAt_0 rfl (lv_at hl 1 rfl) ?_
  refine lv_aload_n hx hb d_JL_charAt_1 rfl (lv_at hl 0 rfl) ?_
  refine va_tlen hx hb (v := nI (z_len.getD i 0)) (hE.2.2.2.1.1 i hi).2.2.2 hw.2.2 rfl d_JL_charAt_2 ?_
  refine z_callS (n := 2) (As := [.int (nI k), .int (nI (z_len.getD i 0))]) (rest := []) ⟨hx, hb, hml, hown, hts⟩ (c_JS_checkIndex l g h hk (by have := (z_strs i hi).1; omega)) (z_in k_301 rfl) (z_in k_10 rfl) (z_in k_299 rfl) (z_in k_300 rfl) (by decide +kernel) ⟨by first | exact Nat.le_of_ble_eq_true rfl | (dsimp only; omega) | omega, by first | exact Nat.le_of_ble_eq_true rfl | (dsimp only; omega) | omega⟩ hK hE hw hA rfl hl.1 (Nat.le_of_ble_eq_true rfl) d_JL_charAt_3 ⟨by first | exact Nat.le_of_ble_eq_true rfl | (dsimp only; omega) | omega, by first | exact Nat.le_of_ble_eq_true rfl | (dsimp only; omega) | omega⟩ rfl (fun r9 h9 H locs hp hw => ?_)
  obtain ⟨r8, h8⟩ := hp
  subst r8
  subst h8
  refine W.eq (g2 := F0 m 6 ls []) rfl ?_
  refine lv_aload_n hx hb d_JL_charAt_6 rfl (lv_at hl 0 rfl) ?_
  refine lv_iload_n hx hb d_JL_charAt_7 rfl (lv_at hl 1 rfl) ?_
  refine va_tb hx hb (v := .int ((z_byt.getD i []).getD k 0)) (hE.2.2.2.1.1 i hi).2.2.2 hw.2.2 (vp_in_nI hk (by have := (z_strs i hi).1; omega)) (by rw [nI_clamp (by have := (z_strs i hi).1; omega)]) d_JL_charAt_8 ?_
  refine lv_sipush (v := 255) hx hb d_JL_charAt_9 (by decide) ?_
  refine lv_iand hx hb d_JL_charAt_12 ?_
  refine z_topi (y := nI (sch i k)) ((sch_b i k).1) ?_
  refine lv_i2c hx hb d_JL_charAt_13 (i2c_small _ (sch_b i k).2) ?_
  exact z_zret hx hb hr (pk_charN (by have := (sch_b i k).2; omega)).1 hlocks hw ⟨rfl, rfl⟩ (by decide) (by decide) d_JL_charAt_14

set_option maxHeartbeats 4000000 in
set_option maxRecDepth 100000 in
theorem c_JS_charAt (l : Launch) (g : z_G) (h : z_H) {i k : Nat}  (hi : i < 11) (hk : k < z_len.getD i 0) : z_C l y_JS_charAt prog_16_method_56_code 2 (Option.some Jvm.ClassFile.FieldType.char) 3 66 0 0 g [.ref (g.2.2 (1 + i)), .int (nI k)] h (fun r h1 => r = some (.int (nI (sch i k))) ∧ h = h1) := by
  refine z_C.of (by decide) (Nat.le_of_ble_eq_true rfl) (fun pg en s m below meth cd A ls hx hb hml hr hts hown hlocks hnm hK hE hA hw hl => ?_)
  have hl : lv_has ls 2 [(0, .ref (g.2.2 (1 + i))), (1, .int (nI k))] := hl
  refine lv_aload_n hx hb d_JS_charAt_0 rfl (lv_at hl 0 rfl) ?_
  refine z_callR (n := 0) (As := []) (rest := []) ⟨hx, hb, hml, hown, hts⟩ (c_JS_isLatin1 l g h hi) (z_in k_295 rfl) (z_in k_10 rfl) (z_in k_292 rfl) (z_in k_293 rfl) (z_in k_294 rfl) (by decide +kernel) ⟨by first | exact Nat.le_of_ble_eq_true rfl | (dsimp only; omega) | omega, by first | exact Nat.le_of_ble_eq_true rfl | (dsimp only; omega) | omega⟩ hK hE hw hA (vk_recv (adK := fun i => g.2.2 (1 + i)) (i := i) hE.2.2.2.1 hi hw.2.2) rfl hl.1 (Nat.le_of_ble_eq_true rfl) d_JS_charAt_1 ⟨by first | exact Nat.le_of_ble_eq_true rfl | (dsimp only; omega) | omega, by first | exact Nat.le_of_ble_eq_true rfl | (dsimp only; omega) | omega⟩ rfl (fun r9 h9 H locs hp hw => ?_)
  obtain ⟨r8, h8⟩ := hp
  subst r8
  subst h8
  refine W.eq (g2 := F0 m 4 ls [.int 1]) rfl ?_
  refine lv_if_eq (tgt := 16) hx hb d_JS_charAt_4 (by decide) (fun c_4 => ?_) (fun c_4 => ?_)
  · -- 4: True
    exact absurd c_4 (by decide)
  · -- 4: False
    refine lv_aload_n hx hb d_JS_charAt_7 rfl (lv_at hl 0 rfl) ?_
    refine vk_getf hx hb (hE.2.2.2.1.1 i hi).2.2.1 hw.2.2 hown (hts _ (z_in k_1098 rfl)) (fun _ h9 => h9) d_JS_charAt_8 ?_
    refine lv_iload_n hx hb d_JS_charAt_11 rfl (lv_at hl 1 rfl) ?_
    refine z_callS (n := 2) (As := [.ref (g.2.2 (20 + i)), .int (nI k)]) (rest := []) ⟨hx, hb, hml, hown, hts⟩ (c_JL_charAt l g h hi hk) (z_in k_298 rfl) (z_in k_11 rfl) (z_in k_296 rfl) (z_in k_297 rfl) (by decide +kernel) ⟨by first | exact Nat.le_of_ble_eq_true rfl | (dsimp only; omega) | omega, by first | exact Nat.le_of_ble_eq_true rfl | (dsimp only; omega) | omega⟩ hK hE hw hA rfl hl.1 (Nat.le_of_ble_eq_true rfl) d_JS_charAt_12 ⟨by first | exact Nat.le_of_ble_eq_true rfl | (dsimp only; omega) | omega, by first | exact Nat.le_of_ble_eq_true rfl | (dsimp only; omega) | omega⟩ rfl (fun r9 h9 H locs hp hw => ?_)
    obtain ⟨r8, h8⟩ := hp
    subst r8
    subst h8
    refine W.eq (g2 := F0 m 15 ls [.int (nI (sch i k))]) rfl ?_
    exact z_zret hx hb hr (pk_charN (by have := (sch_b i k).2; omega)).1 hlocks hw ⟨rfl, rfl⟩ (by decide) (by decide) d_JS_charAt_15

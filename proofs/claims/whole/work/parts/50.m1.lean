/-- the fields of the reference's object: ma k is the address of its k-th row -/
abbrev mF (ma : Nat → Nat) (cod tpd siz fls cls9 ffl fcl nds sai ous at9 il : Int32) : List Value := [.int cod, .ref (ma 0), .ref (ma 1), .int tpd, .int siz, .ref (ma 2), .ref (ma 3), .ref (ma 4), .ref (ma 5), .int fls, .int cls9, .int ffl, .int fcl, .ref (ma 6), .ref (ma 7), .ref (ma 8), .ref (ma 9), .ref (ma 10), .int nds, .int sai, .ref (ma 11), .ref (ma 12), .ref (ma 13), .ref (ma 14), .ref (ma 15), .ref (ma 16), .ref (ma 17), .ref (ma 18), .int ous, .int at9, .int il]
theorem by_blI : ∀ b, b < 256 → ((decide (nI b = 32) || decide (nI b = 10)) = isBl b) := by decide +kernel
theorem bt_bl {t : Nat → Nat} {n q : Nat} (hf : q < n → t q < 256) : (decide (bt t n q = 32) || decide (bt t n q = 10)) = (decide (q < n) && isBl (t q)) := by
  by_cases h : q < n
  · rw [bt_in h, by_blI _ (hf h), decide_eq_true h]; simp
  · rw [bt_out h, decide_eq_false h, Bool.false_and]; decide
def wl (t : Nat → Nat) (n p : Nat) : Nat := if isLet (bt t n p) = true then we t n p - p else 0

set_option maxHeartbeats 300000 in
set_option maxRecDepth 100000 in
theorem m_look (l : Launch) (g : z_G) (h : z_H) {mo : Nat} {ma : Nat → Nat} {cod tpd fls cls9 ffl fcl nds sai ous il : Int32} {n p : Nat} {f : Nat → Int32} {t : Nat → Nat} (hmo : h mo = some ((20, 0), .inr (11, mF ma cod tpd (nI n) fls cls9 ffl fcl nds sai ous (nI p) il))) (htx : h (ma 1) = some ((22, 0), .inl (g.2.1 1, 4000, .inl f))) (hn : n ≤ 4000) (hf : ∀ k, k < n → t k < 256 ∧ f k = nI (t k)) (hp : p < 2 ^ 31) : z_C l y_M_look prog_13_method_6_code 1 (Option.some Jvm.ClassFile.FieldType.int) 0 0 0 0 g [.ref mo] h (fun x h1 => x = some (.int (bt t n p)) ∧ h = h1) := by
  refine z_C.of (by decide) (Nat.le_of_ble_eq_true rfl) (fun pg en s m below meth cd A ls hx hb hml hr hts hown hlocks hnm hK hE hA hw hl => ?_)
  have hl : lv_has ls 1 [(0, .ref mo)] := hl
  refine lv_aload_n hx hb d_M_look_0 rfl (lv_at hl 0 rfl) ?_
  refine z_get hx hb hts (z_lay i_M) hown hK hw hmo rfl 29 (by decide) (z_in k_800 rfl) (fun _ h9 => h9) rfl d_M_look_1 ?_
  refine lv_aload_n hx hb d_M_look_4 rfl (lv_at hl 0 rfl) ?_
  refine z_get hx hb hts (z_lay i_M) hown hK hw hmo rfl 4 (by decide) (z_in k_775 rfl) (fun _ h9 => h9) rfl d_M_look_5 ?_
  refine lv_icmp_ge (tgt := 23) hx hb d_M_look_8 (by decide) (fun c_8 => ?_) (fun c_8 => ?_)
  · -- 8: True
    have c_8 : n ≤ p := (nI_leI (a := n) (b := p) (by omega) (by omega)).mp c_8
    refine lv_iconst (v := (-1)) hx hb d_M_look_23 (by decide) ?_
    exact z_iret hx hb hr hlocks hw (by refine ⟨congrArg some (congrArg Value.int ?_), rfl⟩; rw [bt_out (by omega)]) (by decide) (by decide) d_M_look_24
  · -- 8: False
    have c_8 : ¬ (n ≤ p) := fun z => c_8 ((nI_leI (a := n) (b := p) (by omega) (by omega)).mpr z)
    refine lv_aload_n hx hb d_M_look_11 rfl (lv_at hl 0 rfl) ?_
    refine z_get hx hb hts (z_lay i_M) hown hK hw hmo rfl 2 (by decide) (z_in k_773 rfl) (fun _ h9 => h9) rfl d_M_look_12 ?_
    refine lv_aload_n hx hb d_M_look_15 rfl (lv_at hl 0 rfl) ?_
    refine z_get hx hb hts (z_lay i_M) hown hK hw hmo rfl 29 (by decide) (z_in k_800 rfl) (fun _ h9 => h9) rfl d_M_look_16 ?_
    refine z_iald hx hb hK hw htx 1 rfl (vp_in_nI (by omega) (by omega)) d_M_look_19 ?_
    refine z_topi (y := f p) (by rw [nI_clamp (by omega)]) ?_
    refine lv_goto (tgt := 24) hx hb d_M_look_20 (by decide) ?_
    exact z_iret hx hb hr hlocks hw (by refine ⟨congrArg some (congrArg Value.int ?_), rfl⟩; rw [bt_in (by omega), (hf p (by omega)).2]) (by decide) (by decide) d_M_look_24

set_option maxHeartbeats 300000 in
set_option maxRecDepth 100000 in
theorem m_isLetter (l : Launch) (g : z_G) (h : z_H) {k : Int32}   : z_C l y_M_isLetter prog_13_method_8_code 1 (Option.some Jvm.ClassFile.FieldType.boolean) 0 0 0 0 g [.int k] h (fun x h1 => x = some (.int (zb (isLet k))) ∧ h = h1) := by
  refine z_C.of (by decide) (Nat.le_of_ble_eq_true rfl) (fun pg en s m below meth cd A ls hx hb hml hr hts hown hlocks hnm hK hE hA hw hl => ?_)
  have hl : lv_has ls 1 [(0, .int k)] := hl
  refine lv_iload_n hx hb d_M_isLetter_0 rfl (lv_at hl 0 rfl) ?_
  refine lv_bipush (v := 97) hx hb d_M_isLetter_1 (by decide) ?_
  refine lv_icmp_lt (tgt := 12) hx hb d_M_isLetter_3 (by decide) (fun c_3 => ?_) (fun c_3 => ?_)
  · -- 3: True
    refine lv_iload_n hx hb d_M_isLetter_12 rfl (lv_at hl 0 rfl) ?_
    refine lv_bipush (v := 65) hx hb d_M_isLetter_13 (by decide) ?_
    refine lv_icmp_lt (tgt := 28) hx hb d_M_isLetter_15 (by decide) (fun c_15 => ?_) (fun c_15 => ?_)
    · -- 15: True
      refine lv_iconst (v := 0) hx hb d_M_isLetter_28 (by decide) ?_
      exact z_zret hx hb hr rfl hlocks hw (by refine ⟨congrArg some (congrArg Value.int ?_), rfl⟩; simp [Int32.lt_iff_toInt_lt, Int32.le_iff_toInt_le] at c_3 c_15; simp [zb, isLet, Int32.lt_iff_toInt_lt, Int32.le_iff_toInt_le]; omega) (by decide) (by decide) d_M_isLetter_29
    · -- 15: False
      refine lv_iload_n hx hb d_M_isLetter_18 rfl (lv_at hl 0 rfl) ?_
      refine lv_bipush (v := 90) hx hb d_M_isLetter_19 (by decide) ?_
      refine lv_icmp_gt (tgt := 28) hx hb d_M_isLetter_21 (by decide) (fun c_21 => ?_) (fun c_21 => ?_)
      · -- 21: True
        refine lv_iconst (v := 0) hx hb d_M_isLetter_28 (by decide) ?_
        exact z_zret hx hb hr rfl hlocks hw (by refine ⟨congrArg some (congrArg Value.int ?_), rfl⟩; simp [Int32.lt_iff_toInt_lt, Int32.le_iff_toInt_le] at c_3 c_15 c_21; simp [zb, isLet, Int32.lt_iff_toInt_lt, Int32.le_iff_toInt_le]; omega) (by decide) (by decide) d_M_isLetter_29
      · -- 21: False
        refine lv_iconst (v := 1) hx hb d_M_isLetter_24 (by decide) ?_
        refine lv_goto (tgt := 29) hx hb d_M_isLetter_25 (by decide) ?_
        exact z_zret hx hb hr rfl hlocks hw (by refine ⟨congrArg some (congrArg Value.int ?_), rfl⟩; simp [Int32.lt_iff_toInt_lt, Int32.le_iff_toInt_le] at c_3 c_15 c_21; simp [zb, isLet, Int32.lt_iff_toInt_lt, Int32.le_iff_toInt_le]; omega) (by decide) (by decide) d_M_isLetter_29
  · -- 3: False
    refine lv_iload_n hx hb d_M_isLetter_6 rfl (lv_at hl 0 rfl) ?_
    refine lv_bipush (v := 122) hx hb d_M_isLetter_7 (by decide) ?_
    refine lv_icmp_le (tgt := 24) hx hb d_M_isLetter_9 (by decide) (fun c_9 => ?_) (fun c_9 => ?_)
    · -- 9: True
      refine lv_iconst (v := 1) hx hb d_M_isLetter_24 (by decide) ?_
      refine lv_goto (tgt := 29) hx hb d_M_isLetter_25 (by decide) ?_
      exact z_zret hx hb hr rfl hlocks hw (by refine ⟨congrArg some (congrArg Value.int ?_), rfl⟩; simp [Int32.lt_iff_toInt_lt, Int32.le_iff_toInt_le] at c_3 c_9; simp [zb, isLet, Int32.lt_iff_toInt_lt, Int32.le_iff_toInt_le]; omega) (by decide) (by decide) d_M_isLetter_29
    · -- 9: False
      refine lv_iload_n hx hb d_M_isLetter_12 rfl (lv_at hl 0 rfl) ?_
      refine lv_bipush (v := 65) hx hb d_M_isLetter_13 (by decide) ?_
      refine lv_icmp_lt (tgt := 28) hx hb d_M_isLetter_15 (by decide) (fun c_15 => ?_) (fun c_15 => ?_)
      · -- 15: True
        refine lv_iconst (v := 0) hx hb d_M_isLetter_28 (by decide) ?_
        exact z_zret hx hb hr rfl hlocks hw (by refine ⟨congrArg some (congrArg Value.int ?_), rfl⟩; simp [Int32.lt_iff_toInt_lt, Int32.le_iff_toInt_le] at c_3 c_9 c_15; simp [zb, isLet, Int32.lt_iff_toInt_lt, Int32.le_iff_toInt_le]; omega) (by decide) (by decide) d_M_isLetter_29
      · -- 15: False
        refine lv_iload_n hx hb d_M_isLetter_18 rfl (lv_at hl 0 rfl) ?_
        refine lv_bipush (v := 90) hx hb d_M_isLetter_19 (by decide) ?_
        refine lv_icmp_gt (tgt := 28) hx hb d_M_isLetter_21 (by decide) (fun c_21 => ?_) (fun c_21 => ?_)
        · -- 21: True
          refine lv_iconst (v := 0) hx hb d_M_isLetter_28 (by decide) ?_
          exact z_zret hx hb hr rfl hlocks hw (by refine ⟨congrArg some (congrArg Value.int ?_), rfl⟩; simp [Int32.lt_iff_toInt_lt, Int32.le_iff_toInt_le] at c_3 c_9 c_15 c_21; simp [zb, isLet, Int32.lt_iff_toInt_lt, Int32.le_iff_toInt_le]; omega) (by decide) (by decide) d_M_isLetter_29
        · -- 21: False
          refine lv_iconst (v := 1) hx hb d_M_isLetter_24 (by decide) ?_
          refine lv_goto (tgt := 29) hx hb d_M_isLetter_25 (by decide) ?_
          exact z_zret hx hb hr rfl hlocks hw (by refine ⟨congrArg some (congrArg Value.int ?_), rfl⟩; simp [Int32.lt_iff_toInt_lt, Int32.le_iff_toInt_le] at c_3 c_9 c_15 c_21; simp [zb, isLet, Int32.lt_iff_toInt_lt, Int32.le_iff_toInt_le]; omega) (by decide) (by decide) d_M_isLetter_29

set_option maxHeartbeats 300000 in
set_option maxRecDepth 100000 in
theorem m_isDigit (l : Launch) (g : z_G) (h : z_H) {k : Int32}   : z_C l y_M_isDigit prog_13_method_9_code 1 (Option.some Jvm.ClassFile.FieldType.boolean) 0 0 0 0 g [.int k] h (fun x h1 => x = some (.int (zb (isDig k))) ∧ h = h1) := by
  refine z_C.of (by decide) (Nat.le_of_ble_eq_true rfl) (fun pg en s m below meth cd A ls hx hb hml hr hts hown hlocks hnm hK hE hA hw hl => ?_)
  have hl : lv_has ls 1 [(0, .int k)] := hl
  refine lv_iload_n hx hb d_M_isDigit_0 rfl (lv_at hl 0 rfl) ?_
  refine lv_bipush (v := 48) hx hb d_M_isDigit_1 (by decide) ?_
  refine lv_icmp_lt (tgt := 16) hx hb d_M_isDigit_3 (by decide) (fun c_3 => ?_) (fun c_3 => ?_)
  · -- 3: True
    refine lv_iconst (v := 0) hx hb d_M_isDigit_16 (by decide) ?_
    exact z_zret hx hb hr rfl hlocks hw (by refine ⟨congrArg some (congrArg Value.int ?_), rfl⟩; simp [Int32.lt_iff_toInt_lt, Int32.le_iff_toInt_le] at c_3; simp [zb, isDig, Int32.lt_iff_toInt_lt, Int32.le_iff_toInt_le]; omega) (by decide) (by decide) d_M_isDigit_17
  · -- 3: False
    refine lv_iload_n hx hb d_M_isDigit_6 rfl (lv_at hl 0 rfl) ?_
    refine lv_bipush (v := 57) hx hb d_M_isDigit_7 (by decide) ?_
    refine lv_icmp_gt (tgt := 16) hx hb d_M_isDigit_9 (by decide) (fun c_9 => ?_) (fun c_9 => ?_)
    · -- 9: True
      refine lv_iconst (v := 0) hx hb d_M_isDigit_16 (by decide) ?_
      exact z_zret hx hb hr rfl hlocks hw (by refine ⟨congrArg some (congrArg Value.int ?_), rfl⟩; simp [Int32.lt_iff_toInt_lt, Int32.le_iff_toInt_le] at c_3 c_9; simp [zb, isDig, Int32.lt_iff_toInt_lt, Int32.le_iff_toInt_le]; omega) (by decide) (by decide) d_M_isDigit_17
    · -- 9: False
      refine lv_iconst (v := 1) hx hb d_M_isDigit_12 (by decide) ?_
      refine lv_goto (tgt := 17) hx hb d_M_isDigit_13 (by decide) ?_
      exact z_zret hx hb hr rfl hlocks hw (by refine ⟨congrArg some (congrArg Value.int ?_), rfl⟩; simp [Int32.lt_iff_toInt_lt, Int32.le_iff_toInt_le] at c_3 c_9; simp [zb, isDig, Int32.lt_iff_toInt_lt, Int32.le_iff_toInt_le]; omega) (by decide) (by decide) d_M_isDigit_17

set_option maxHeartbeats 300000 in
set_option maxRecDepth 100000 in
theorem m_fail_no (l : Launch) (g : z_G) (h : z_H) {mo : Nat} {ma : Nat → Nat} {cod tpd fls cls9 ffl fcl nds sai ous il : Int32} {n p : Nat} {k : Int32} (hmo : h mo = some ((20, 0), .inr (11, mF ma cod tpd (nI n) fls cls9 ffl fcl nds sai ous (nI p) il))) (hil : ¬ il = -1) : z_C l y_M_fail prog_13_method_5_code 2 (Option.none : Option Jvm.ClassFile.FieldType) 0 0 0 0 g [.ref mo, .int k] h (fun x h1 => x = none ∧ h = h1) := by
  refine z_C.of (by decide) (Nat.le_of_ble_eq_true rfl) (fun pg en s m below meth cd A ls hx hb hml hr hts hown hlocks hnm hK hE hA hw hl => ?_)
  have hl : lv_has ls 2 [(0, .ref mo), (1, .int k)] := hl
  refine lv_aload_n hx hb d_M_fail_0 rfl (lv_at hl 0 rfl) ?_
  refine z_get hx hb hts (z_lay i_M) hown hK hw hmo rfl 30 (by decide) (z_in k_801 rfl) (fun _ h9 => h9) rfl d_M_fail_1 ?_
  refine lv_iconst (v := (-1)) hx hb d_M_fail_4 (by decide) ?_
  refine lv_icmp_ne (tgt := 13) hx hb d_M_fail_5 (by decide) (fun c_5 => ?_) (fun c_5 => ?_)
  · -- 5: True
    exact z_vret hx hb hr hlocks hw ⟨rfl, rfl⟩ (by decide) (by decide) d_M_fail_13
  · -- 5: False
    exact absurd (show il = -1 by simpa using c_5) hil

set_option maxHeartbeats 300000 in
set_option maxRecDepth 100000 in
theorem m_fail (l : Launch) (g : z_G) (h : z_H) {mo : Nat} {ma : Nat → Nat} {cod tpd fls cls9 ffl fcl nds sai ous : Int32} {n p : Nat} {k : Int32} (hmo : h mo = some ((20, 0), .inr (11, mF ma cod tpd (nI n) fls cls9 ffl fcl nds sai ous (nI p) (-1))))  : z_C l y_M_fail prog_13_method_5_code 2 (Option.none : Option Jvm.ClassFile.FieldType) 0 0 0 0 g [.ref mo, .int k] h (fun x h1 => x = none ∧ z_put h mo (20, 0) (.inr (11, mF ma cod tpd (nI n) fls cls9 ffl fcl nds sai ous (nI p) k)) = h1) := by
  refine z_C.of (by decide) (Nat.le_of_ble_eq_true rfl) (fun pg en s m below meth cd A ls hx hb hml hr hts hown hlocks hnm hK hE hA hw hl => ?_)
  have hl : lv_has ls 2 [(0, .ref mo), (1, .int k)] := hl
  refine lv_aload_n hx hb d_M_fail_0 rfl (lv_at hl 0 rfl) ?_
  refine z_get hx hb hts (z_lay i_M) hown hK hw hmo rfl 30 (by decide) (z_in k_801 rfl) (fun _ h9 => h9) rfl d_M_fail_1 ?_
  refine lv_iconst (v := (-1)) hx hb d_M_fail_4 (by decide) ?_
  refine lv_icmp_ne (tgt := 13) hx hb d_M_fail_5 (by decide) (fun c_5 => ?_) (fun c_5 => ?_)
  · -- 5: True
    exact absurd rfl c_5
  · -- 5: False
    refine lv_aload_n hx hb d_M_fail_8 rfl (lv_at hl 0 rfl) ?_
    refine lv_iload_n hx hb d_M_fail_9 rfl (lv_at hl 1 rfl) ?_
    refine z_putf (ty := .int) hx hb hts (z_lay i_M) t_M t_M_ok n_M hown hK hw hmo rfl 30 (by decide) (z_in k_801 rfl) (fun _ h9 => h9) rfl (by decide +kernel) rfl rfl (Nat.le_of_ble_eq_true rfl) d_M_fail_10 (fun H locs hw => ?_)
    obtain ⟨h1, hh1⟩ : ∃ x9, z_put h mo (20, 0) (.inr (11, mF ma cod tpd (nI n) fls cls9 ffl fcl nds sai ous (nI p) k)) = x9 := ⟨_, rfl⟩
    have hw : z_S g A s.heap h1 H locs := by rw [← hh1]; exact hw
    have f1_mo : h1 mo = some ((20, 0), .inr (11, mF ma cod tpd (nI n) fls cls9 ffl fcl nds sai ous (nI p) k)) := by rw [← hh1]; exact z_put_eq
    exact z_vret hx hb hr hlocks hw ⟨rfl, hh1⟩ (by decide) (by decide) d_M_fail_13

set_option maxHeartbeats 300000 in
set_option maxRecDepth 100000 in
theorem m_blanks (l : Launch) (g : z_G) (h : z_H) {mo : Nat} {ma : Nat → Nat} {cod tpd fls cls9 ffl fcl nds sai ous il : Int32} {n p : Nat} {f : Nat → Int32} {t : Nat → Nat} (hmo : h mo = some ((20, 0), .inr (11, mF ma cod tpd (nI n) fls cls9 ffl fcl nds sai ous (nI p) il))) (htx : h (ma 1) = some ((22, 0), .inl (g.2.1 1, 4000, .inl f))) (hn : n ≤ 4000) (hf : ∀ k, k < n → t k < 256 ∧ f k = nI (t k)) (hp : p ≤ n) : z_C l y_M_blanks prog_13_method_7_code 1 (Option.none : Option Jvm.ClassFile.FieldType) 1 20 0 0 g [.ref mo] h (fun x h1 => x = none ∧ z_put h mo (20, 0) (.inr (11, mF ma cod tpd (nI n) fls cls9 ffl fcl nds sai ous (nI (sk t n p)) il)) = h1) := by
  refine z_C.of (by decide) (Nat.le_of_ble_eq_true rfl) (fun pg en s m below meth cd A ls hx hb hml hr hts hown hlocks hnm hK hE hA hw hl => ?_)
  have hl : lv_has ls 1 [(0, .ref mo)] := hl
  have loop_0 : ∀ (fuel : Nat) (q : Nat) (hL : z_H) (H : Heap) (locs : List Loc) (ls : Array Slot) (L0_mo : hL mo = some ((20, 0), .inr (11, mF ma cod tpd (nI n) fls cls9 ffl fcl nds sai ous (nI q) il))) (L0_ma_1 : hL (ma 1) = some ((22, 0), .inl (g.2.1 1, 4000, .inl f))) (hq : z_put h mo (20, 0) (.inr (11, mF ma cod tpd (nI n) fls cls9 ffl fcl nds sai ous (nI q) il)) = hL) (hle : p ≤ q ∧ q ≤ n) (hsk : sk t n q = sk t n p), (n - q) < fuel → z_S g A s.heap hL H locs → lv_has ls 1 [(0, .ref mo)] → W pg l en { frames := 1, cells := 0, slots := 0, locals := 20 } s m [.ref mo].toArray below meth cd H locs 0 0 (MQ below (z_Q g A (fun x h1 => x = none ∧ z_put h mo (20, 0) (.inr (11, mF ma cod tpd (nI n) fls cls9 ffl fcl nds sai ous (nI (sk t n p)) il)) = h1)) [.ref mo].toArray s 0 0 A) (F0 m 0 ls []) := by
    intro fuel
    induction fuel with
    | zero => intro q hL H locs ls L0_mo L0_ma_1 hq hle hsk hm; exact absurd hm (Nat.not_lt_zero _)
    | succ fuel ih_0 =>
      intro q hL H locs ls L0_mo L0_ma_1 hq hle hsk hm hw hl
      refine lv_aload_n hx hb d_M_blanks_0 rfl (lv_at hl 0 rfl) ?_
      refine z_callV (n := 0) (As := []) (rest := []) ⟨hx, hb, hml, hown, hts⟩ (m_look (t := t) l g hL L0_mo L0_ma_1 hn hf (by omega)) (z_in k_889 rfl) (z_in k_7 rfl) (z_in k_886 rfl) (z_in k_888 rfl) (z_in ks_28 rfl) (by decide +kernel) ⟨by first | exact Nat.le_of_ble_eq_true rfl | (dsimp only; omega) | omega, by first | exact Nat.le_of_ble_eq_true rfl | (dsimp only; omega) | omega⟩ hK hE hw hA rfl L0_mo rfl hl.1 (Nat.le_of_ble_eq_true rfl) d_M_blanks_1 ⟨by first | exact Nat.le_of_ble_eq_true rfl | (dsimp only; omega) | omega, by first | exact Nat.le_of_ble_eq_true rfl | (dsimp only; omega) | omega⟩ rfl (fun r9 h9 H locs hp hw => ?_)
      obtain ⟨r8, h8⟩ := hp
      subst r8
      subst h8
      refine W.eq (g2 := F0 m 4 ls [.int (bt t n q)]) rfl ?_
      refine lv_bipush (v := 32) hx hb d_M_blanks_4 (by decide) ?_
      refine lv_icmp_eq (tgt := 18) hx hb d_M_blanks_6 (by decide) (fun c_6 => ?_) (fun c_6 => ?_)
      · -- 6: True
        have qb9 : (decide (q < n) && isBl (t q)) = true := by rw [← bt_bl (fun z => (hf q z).1)]; simp [c_6]
        have qlt : q < n := of_decide_eq_true (Bool.and_eq_true_iff.mp qb9).1
        have qbl := (Bool.and_eq_true_iff.mp qb9).2
        refine lv_aload_n hx hb d_M_blanks_18 rfl (lv_at hl 0 rfl) ?_
        refine lv_dup hx hb d_M_blanks_19 rfl ?_
        refine z_get hx hb hts (z_lay i_M) hown hK hw L0_mo rfl 29 (by decide) (z_in k_800 rfl) (fun _ h9 => h9) rfl d_M_blanks_20 ?_
        refine lv_iconst (v := 1) hx hb d_M_blanks_23 (by decide) ?_
        refine lv_iadd hx hb d_M_blanks_24 ?_
        refine z_topi (y := nI (q + 1)) (nI_add q 1) ?_
        refine z_putf (ty := .int) hx hb hts (z_lay i_M) t_M t_M_ok n_M hown hK hw L0_mo rfl 29 (by decide) (z_in k_800 rfl) (fun _ h9 => h9) rfl (by decide +kernel) rfl rfl (Nat.le_of_ble_eq_true rfl) d_M_blanks_25 (fun H locs hw => ?_)
        obtain ⟨h1, hh1⟩ : ∃ x9, z_put hL mo (20, 0) (.inr (11, mF ma cod tpd (nI n) fls cls9 ffl fcl nds sai ous (nI (q + 1)) il)) = x9 := ⟨_, rfl⟩
        have hw : z_S g A s.heap h1 H locs := by rw [← hh1]; exact hw
        have f1_mo : h1 mo = some ((20, 0), .inr (11, mF ma cod tpd (nI n) fls cls9 ffl fcl nds sai ous (nI (q + 1)) il)) := by rw [← hh1]; exact z_put_eq
        have f1_ma_1 : h1 (ma 1) = some ((22, 0), .inl (g.2.1 1, 4000, .inl f)) := by rw [← hh1]; exact z_keep L0_mo L0_ma_1 (z_t1 (by decide))
        refine lv_goto (tgt := 0) hx hb d_M_blanks_28 (by decide) ?_
        refine ih_0 (q + 1) h1 _ _ _ f1_mo f1_ma_1 (by rw [← hh1, ← hq, z_put_put]) (⟨by omega, by omega⟩) ((sk_step (p := q) qlt qbl).symm.trans hsk) ?_ hw (lv_sub hl [0] rfl)
        omega
      · -- 6: False
        refine lv_aload_n hx hb d_M_blanks_9 rfl (lv_at hl 0 rfl) ?_
        refine z_callV (n := 0) (As := []) (rest := []) ⟨hx, hb, hml, hown, hts⟩ (m_look (t := t) l g hL L0_mo L0_ma_1 hn hf (by omega)) (z_in k_889 rfl) (z_in k_7 rfl) (z_in k_886 rfl) (z_in k_888 rfl) (z_in ks_28 rfl) (by decide +kernel) ⟨by first | exact Nat.le_of_ble_eq_true rfl | (dsimp only; omega) | omega, by first | exact Nat.le_of_ble_eq_true rfl | (dsimp only; omega) | omega⟩ hK hE hw hA rfl L0_mo rfl hl.1 (Nat.le_of_ble_eq_true rfl) d_M_blanks_10 ⟨by first | exact Nat.le_of_ble_eq_true rfl | (dsimp only; omega) | omega, by first | exact Nat.le_of_ble_eq_true rfl | (dsimp only; omega) | omega⟩ rfl (fun r9 h9 H locs hp hw => ?_)
        obtain ⟨r8, h8⟩ := hp
        subst r8
        subst h8
        refine W.eq (g2 := F0 m 13 ls [.int (bt t n q)]) rfl ?_
        refine lv_bipush (v := 10) hx hb d_M_blanks_13 (by decide) ?_
        refine lv_icmp_ne (tgt := 31) hx hb d_M_blanks_15 (by decide) (fun c_15 => ?_) (fun c_15 => ?_)
        · -- 15: True
          exact z_vret hx hb hr hlocks hw (by have e9 : sk t n p = q := (by rw [← hsk]; refine sk_stop (fun z => ?_); have := bt_bl (n := n) (q := q) (fun z => (hf q z).1); rw [decide_eq_true z, decide_eq_false c_6, decide_eq_false (show ¬ bt t n q = 10 from c_15)] at this; simpa using this.symm); rw [e9]; exact ⟨rfl, hq⟩) (by decide) (by decide) d_M_blanks_31
        · -- 15: False
          have qb9 : (decide (q < n) && isBl (t q)) = true := by rw [← bt_bl (fun z => (hf q z).1)]; simp [show bt t n q = 10 by simpa using c_15]
          have qlt : q < n := of_decide_eq_true (Bool.and_eq_true_iff.mp qb9).1
          have qbl := (Bool.and_eq_true_iff.mp qb9).2
          refine lv_aload_n hx hb d_M_blanks_18 rfl (lv_at hl 0 rfl) ?_
          refine lv_dup hx hb d_M_blanks_19 rfl ?_
          refine z_get hx hb hts (z_lay i_M) hown hK hw L0_mo rfl 29 (by decide) (z_in k_800 rfl) (fun _ h9 => h9) rfl d_M_blanks_20 ?_
          refine lv_iconst (v := 1) hx hb d_M_blanks_23 (by decide) ?_
          refine lv_iadd hx hb d_M_blanks_24 ?_
          refine z_topi (y := nI (q + 1)) (nI_add q 1) ?_
          refine z_putf (ty := .int) hx hb hts (z_lay i_M) t_M t_M_ok n_M hown hK hw L0_mo rfl 29 (by decide) (z_in k_800 rfl) (fun _ h9 => h9) rfl (by decide +kernel) rfl rfl (Nat.le_of_ble_eq_true rfl) d_M_blanks_25 (fun H locs hw => ?_)
          obtain ⟨h2, hh2⟩ : ∃ x9, z_put hL mo (20, 0) (.inr (11, mF ma cod tpd (nI n) fls cls9 ffl fcl nds sai ous (nI (q + 1)) il)) = x9 := ⟨_, rfl⟩
          have hw : z_S g A s.heap h2 H locs := by rw [← hh2]; exact hw
          have f2_mo : h2 mo = some ((20, 0), .inr (11, mF ma cod tpd (nI n) fls cls9 ffl fcl nds sai ous (nI (q + 1)) il)) := by rw [← hh2]; exact z_put_eq
          have f2_ma_1 : h2 (ma 1) = some ((22, 0), .inl (g.2.1 1, 4000, .inl f)) := by rw [← hh2]; exact z_keep L0_mo L0_ma_1 (z_t1 (by decide))
          refine lv_goto (tgt := 0) hx hb d_M_blanks_28 (by decide) ?_
          refine ih_0 (q + 1) h2 _ _ _ f2_mo f2_ma_1 (by rw [← hh2, ← hq, z_put_put]) (⟨by omega, by omega⟩) ((sk_step (p := q) qlt qbl).symm.trans hsk) ?_ hw (lv_sub hl [0] rfl)
          omega
  exact loop_0 (n - p + 1) p h _ _ _ hmo htx (z_put_self hmo) (⟨Nat.le_refl _, hp⟩) rfl (by omega) hw (lv_sub hl [0] rfl)

set_option maxHeartbeats 300000 in
set_option maxRecDepth 100000 in
theorem m_word (l : Launch) (g : z_G) (h : z_H) {mo : Nat} {ma : Nat → Nat} {cod tpd fls cls9 ffl fcl nds sai ous il : Int32} {n p : Nat} {f : Nat → Int32} {t : Nat → Nat} (hmo : h mo = some ((20, 0), .inr (11, mF ma cod tpd (nI n) fls cls9 ffl fcl nds sai ous (nI p) il))) (htx : h (ma 1) = some ((22, 0), .inl (g.2.1 1, 4000, .inl f))) (hn : n ≤ 4000) (hf : ∀ k, k < n → t k < 256 ∧ f k = nI (t k)) (hp : p ≤ n) : z_C l y_M_word prog_13_method_10_code 2 (Option.some Jvm.ClassFile.FieldType.int) 1 20 0 0 g [.ref mo] h (fun x h1 => x = some (.int (nI (wl t n p))) ∧ h = h1) := by
  refine z_C.of (by decide) (Nat.le_of_ble_eq_true rfl) (fun pg en s m below meth cd A ls hx hb hml hr hts hown hlocks hnm hK hE hA hw hl => ?_)
  have hl : lv_has ls 2 [(0, .ref mo)] := hl
  refine lv_iconst (v := 0) hx hb d_M_word_0 (by decide) ?_
  refine lv_istore_n (lv' := [(1, .int 0), (0, .ref mo)]) hx hb d_M_word_1 rfl hl (by decide) rfl (fun ls hl => ?_)
  refine lv_aload_n hx hb d_M_word_2 rfl (lv_at hl 1 rfl) ?_
  refine z_callV (n := 0) (As := []) (rest := []) ⟨hx, hb, hml, hown, hts⟩ (m_look (t := t) l g h hmo htx hn hf (by omega)) (z_in k_889 rfl) (z_in k_7 rfl) (z_in k_886 rfl) (z_in k_888 rfl) (z_in ks_28 rfl) (by decide +kernel) ⟨by first | exact Nat.le_of_ble_eq_true rfl | (dsimp only; omega) | omega, by first | exact Nat.le_of_ble_eq_true rfl | (dsimp only; omega) | omega⟩ hK hE hw hA rfl hmo rfl hl.1 (Nat.le_of_ble_eq_true rfl) d_M_word_3 ⟨by first | exact Nat.le_of_ble_eq_true rfl | (dsimp only; omega) | omega, by first | exact Nat.le_of_ble_eq_true rfl | (dsimp only; omega) | omega⟩ rfl (fun r9 h9 H locs hp hw => ?_)
  obtain ⟨r8, h8⟩ := hp
  subst r8
  subst h8
  refine W.eq (g2 := F0 m 6 ls [.int (bt t n p)]) rfl ?_
  refine z_callS (n := 1) (As := [.int (bt t n p)]) (rest := []) ⟨hx, hb, hml, hown, hts⟩ (m_isLetter l g h) (z_in k_905 rfl) (z_in k_7 rfl) (z_in k_903 rfl) (z_in k_904 rfl) (by decide +kernel) ⟨by first | exact Nat.le_of_ble_eq_true rfl | (dsimp only; omega) | omega, by first | exact Nat.le_of_ble_eq_true rfl | (dsimp only; omega) | omega⟩ hK hE hw hA rfl hl.1 (Nat.le_of_ble_eq_true rfl) d_M_word_6 ⟨by first | exact Nat.le_of_ble_eq_true rfl | (dsimp only; omega) | omega, by first | exact Nat.le_of_ble_eq_true rfl | (dsimp only; omega) | omega⟩ rfl (fun r9 h9 H locs hp hw => ?_)
  obtain ⟨r8, h8⟩ := hp
  subst r8
  subst h8
  refine W.eq (g2 := F0 m 9 ls [.int (zb (isLet (bt t n p)))]) rfl ?_
  refine lv_if_ne (tgt := 14) hx hb d_M_word_9 (by decide) (fun c_9 => ?_) (fun c_9 => ?_)
  · -- 9: True
    have c_9 : (isLet (bt t n p)) = true := zb_t c_9
    have loop_14 : ∀ (fuel : Nat) (k : Nat) (H : Heap) (locs : List Loc) (ls : Array Slot)  (hle : p + k ≤ n) (hwe : we t n (p + k) = we t n p), (n - k) < fuel → z_S g A s.heap h H locs → lv_has ls 2 [(0, .ref mo), (1, .int (nI k))] → W pg l en { frames := 1, cells := 0, slots := 0, locals := 20 } s m [.ref mo].toArray below meth cd H locs 0 0 (MQ below (z_Q g A (fun x h1 => x = some (.int (nI (wl t n p))) ∧ h = h1)) [.ref mo].toArray s 0 0 A) (F0 m 14 ls []) := by
      intro fuel
      induction fuel with
      | zero => intro k H locs ls hle hwe hm; exact absurd hm (Nat.not_lt_zero _)
      | succ fuel ih_14 =>
        intro k H locs ls hle hwe hm hw hl
        refine lv_aload_n hx hb d_M_word_14 rfl (lv_at hl 0 rfl) ?_
        refine z_get hx hb hts (z_lay i_M) hown hK hw hmo rfl 29 (by decide) (z_in k_800 rfl) (fun _ h9 => h9) rfl d_M_word_15 ?_
        refine lv_iload_n hx hb d_M_word_18 rfl (lv_at hl 1 rfl) ?_
        refine lv_iadd hx hb d_M_word_19 ?_
        refine z_topi (y := nI (p + k)) (nI_add p k) ?_
        refine lv_aload_n hx hb d_M_word_20 rfl (lv_at hl 0 rfl) ?_
        refine z_get hx hb hts (z_lay i_M) hown hK hw hmo rfl 4 (by decide) (z_in k_775 rfl) (fun _ h9 => h9) rfl d_M_word_21 ?_
        refine lv_icmp_ge (tgt := 83) hx hb d_M_word_24 (by decide) (fun c_24 => ?_) (fun c_24 => ?_)
        · -- 24: True
          have c_24 : n ≤ (p + k) := (nI_leI (a := n) (b := p + k) (by omega) (by omega)).mp c_24
          refine lv_iload_n hx hb d_M_word_83 rfl (lv_at hl 1 rfl) ?_
          exact z_iret hx hb hr hlocks hw (by refine ⟨congrArg some (congrArg Value.int ?_), rfl⟩; unfold wl; rw [if_pos c_9]; have e9 : we t n p = p + k := (by rw [← hwe]; exact we_stop (fun z => absurd z (by omega))); rw [e9, Nat.add_sub_cancel_left]) (by decide) (by decide) d_M_word_84
        · -- 24: False
          have c_24 : ¬ (n ≤ (p + k)) := fun z => c_24 ((nI_leI (a := n) (b := p + k) (by omega) (by omega)).mpr z)
          refine lv_aload_n hx hb d_M_word_27 rfl (lv_at hl 0 rfl) ?_
          refine z_get hx hb hts (z_lay i_M) hown hK hw hmo rfl 2 (by decide) (z_in k_773 rfl) (fun _ h9 => h9) rfl d_M_word_28 ?_
          refine lv_aload_n hx hb d_M_word_31 rfl (lv_at hl 0 rfl) ?_
          refine z_get hx hb hts (z_lay i_M) hown hK hw hmo rfl 29 (by decide) (z_in k_800 rfl) (fun _ h9 => h9) rfl d_M_word_32 ?_
          refine lv_iload_n hx hb d_M_word_35 rfl (lv_at hl 1 rfl) ?_
          refine lv_iadd hx hb d_M_word_36 ?_
          refine z_topi (y := nI (p + k)) (nI_add p k) ?_
          refine z_iald hx hb hK hw htx 1 rfl (vp_in_nI (by omega) (by omega)) d_M_word_37 ?_
          refine z_topi (y := f (p + k)) (by rw [nI_clamp (by omega)]) ?_
          refine z_top (y := .int (nI (t (p + k)))) (by rw [(hf _ (by omega)).2]) ?_
          refine z_callS (n := 1) (As := [.int (nI (t (p + k)))]) (rest := []) ⟨hx, hb, hml, hown, hts⟩ (m_isLetter l g h) (z_in k_905 rfl) (z_in k_7 rfl) (z_in k_903 rfl) (z_in k_904 rfl) (by decide +kernel) ⟨by first | exact Nat.le_of_ble_eq_true rfl | (dsimp only; omega) | omega, by first | exact Nat.le_of_ble_eq_true rfl | (dsimp only; omega) | omega⟩ hK hE hw hA rfl hl.1 (Nat.le_of_ble_eq_true rfl) d_M_word_38 ⟨by first | exact Nat.le_of_ble_eq_true rfl | (dsimp only; omega) | omega, by first | exact Nat.le_of_ble_eq_true rfl | (dsimp only; omega) | omega⟩ rfl (fun r9 h9 H locs hp hw => ?_)
          obtain ⟨r8, h8⟩ := hp
          subst r8
          subst h8
          refine W.eq (g2 := F0 m 41 ls [.int (zb (isLet (nI (t (p + k)))))]) rfl ?_
          refine lv_if_ne (tgt := 77) hx hb d_M_word_41 (by decide) (fun c_41 => ?_) (fun c_41 => ?_)
          · -- 41: True
            have c_41 : (isLet (nI (t (p + k)))) = true := zb_t c_41
            have wd9 : wdN (t (p + k)) = true := by rw [← (by_wd _ (hf _ (by omega)).1).1]; unfold isWd; simp [c_41]
            refine lv_iinc (v := nI (k + 1)) (lv' := [(1, .int (nI (k + 1))), (0, .ref mo)]) hx hb d_M_word_77 hl (k := 1) rfl (nI_1 k) (by decide) rfl (fun ls hl => ?_)
            refine lv_goto (tgt := 14) hx hb d_M_word_80 (by decide) ?_
            refine ih_14 (k + 1) _ _ _ (by omega) ((we_step (p := p + k) (by omega) wd9).symm.trans hwe) ?_ hw (lv_sub hl [1, 0] rfl)
            omega
          · -- 41: False
            have c_41 : (isLet (nI (t (p + k)))) = false := zb_f c_41
            refine lv_aload_n hx hb d_M_word_44 rfl (lv_at hl 0 rfl) ?_
            refine z_get hx hb hts (z_lay i_M) hown hK hw hmo rfl 2 (by decide) (z_in k_773 rfl) (fun _ h9 => h9) rfl d_M_word_45 ?_
            refine lv_aload_n hx hb d_M_word_48 rfl (lv_at hl 0 rfl) ?_
            refine z_get hx hb hts (z_lay i_M) hown hK hw hmo rfl 29 (by decide) (z_in k_800 rfl) (fun _ h9 => h9) rfl d_M_word_49 ?_
            refine lv_iload_n hx hb d_M_word_52 rfl (lv_at hl 1 rfl) ?_
            refine lv_iadd hx hb d_M_word_53 ?_
            refine z_topi (y := nI (p + k)) (nI_add p k) ?_
            refine z_iald hx hb hK hw htx 1 rfl (vp_in_nI (by omega) (by omega)) d_M_word_54 ?_
            refine z_topi (y := f (p + k)) (by rw [nI_clamp (by omega)]) ?_
            refine z_top (y := .int (nI (t (p + k)))) (by rw [(hf _ (by omega)).2]) ?_
            refine z_callS (n := 1) (As := [.int (nI (t (p + k)))]) (rest := []) ⟨hx, hb, hml, hown, hts⟩ (m_isDigit l g h) (z_in k_908 rfl) (z_in k_7 rfl) (z_in k_906 rfl) (z_in k_907 rfl) (by decide +kernel) ⟨by first | exact Nat.le_of_ble_eq_true rfl | (dsimp only; omega) | omega, by first | exact Nat.le_of_ble_eq_true rfl | (dsimp only; omega) | omega⟩ hK hE hw hA rfl hl.1 (Nat.le_of_ble_eq_true rfl) d_M_word_55 ⟨by first | exact Nat.le_of_ble_eq_true rfl | (dsimp only; omega) | omega, by first | exact Nat.le_of_ble_eq_true rfl | (dsimp only; omega) | omega⟩ rfl (fun r9 h9 H locs hp hw => ?_)
            obtain ⟨r8, h8⟩ := hp
            subst r8
            subst h8
            refine W.eq (g2 := F0 m 58 ls [.int (zb (isDig (nI (t (p + k)))))]) rfl ?_
            refine lv_if_ne (tgt := 77) hx hb d_M_word_58 (by decide) (fun c_58 => ?_) (fun c_58 => ?_)
            · -- 58: True
              have c_58 : (isDig (nI (t (p + k)))) = true := zb_t c_58
              have wd9 : wdN (t (p + k)) = true := by rw [← (by_wd _ (hf _ (by omega)).1).1]; unfold isWd; simp [c_41, c_58]
              refine lv_iinc (v := nI (k + 1)) (lv' := [(1, .int (nI (k + 1))), (0, .ref mo)]) hx hb d_M_word_77 hl (k := 1) rfl (nI_1 k) (by decide) rfl (fun ls hl => ?_)
              refine lv_goto (tgt := 14) hx hb d_M_word_80 (by decide) ?_
              refine ih_14 (k + 1) _ _ _ (by omega) ((we_step (p := p + k) (by omega) wd9).symm.trans hwe) ?_ hw (lv_sub hl [1, 0] rfl)
              omega
            · -- 58: False
              have c_58 : (isDig (nI (t (p + k)))) = false := zb_f c_58
              refine lv_aload_n hx hb d_M_word_61 rfl (lv_at hl 0 rfl) ?_
              refine z_get hx hb hts (z_lay i_M) hown hK hw hmo rfl 2 (by decide) (z_in k_773 rfl) (fun _ h9 => h9) rfl d_M_word_62 ?_
              refine lv_aload_n hx hb d_M_word_65 rfl (lv_at hl 0 rfl) ?_
              refine z_get hx hb hts (z_lay i_M) hown hK hw hmo rfl 29 (by decide) (z_in k_800 rfl) (fun _ h9 => h9) rfl d_M_word_66 ?_
              refine lv_iload_n hx hb d_M_word_69 rfl (lv_at hl 1 rfl) ?_
              refine lv_iadd hx hb d_M_word_70 ?_
              refine z_topi (y := nI (p + k)) (nI_add p k) ?_
              refine z_iald hx hb hK hw htx 1 rfl (vp_in_nI (by omega) (by omega)) d_M_word_71 ?_
              refine z_topi (y := f (p + k)) (by rw [nI_clamp (by omega)]) ?_
              refine z_top (y := .int (nI (t (p + k)))) (by rw [(hf _ (by omega)).2]) ?_
              refine lv_bipush (v := 95) hx hb d_M_word_72 (by decide) ?_
              refine lv_icmp_ne (tgt := 83) hx hb d_M_word_74 (by decide) (fun c_74 => ?_) (fun c_74 => ?_)
              · -- 74: True
                refine lv_iload_n hx hb d_M_word_83 rfl (lv_at hl 1 rfl) ?_
                exact z_iret hx hb hr hlocks hw (by refine ⟨congrArg some (congrArg Value.int ?_), rfl⟩; unfold wl; rw [if_pos c_9]; have e9 : we t n p = p + k := (by rw [← hwe]; exact we_stop (fun z => by rw [← (by_wd _ (hf _ (by omega)).1).1]; unfold isWd; simp [c_41, c_58, c_74])); rw [e9, Nat.add_sub_cancel_left]) (by decide) (by decide) d_M_word_84
              · -- 74: False
                have wd9 : wdN (t (p + k)) = true := by rw [← (by_wd _ (hf _ (by omega)).1).1]; unfold isWd; simp [c_41, c_58, c_74]
                refine lv_iinc (v := nI (k + 1)) (lv' := [(1, .int (nI (k + 1))), (0, .ref mo)]) hx hb d_M_word_77 hl (k := 1) rfl (nI_1 k) (by decide) rfl (fun ls hl => ?_)
                refine lv_goto (tgt := 14) hx hb d_M_word_80 (by decide) ?_
                refine ih_14 (k + 1) _ _ _ (by omega) ((we_step (p := p + k) (by omega) wd9).symm.trans hwe) ?_ hw (lv_sub hl [1, 0] rfl)
                omega
    exact loop_14 (n - 0 + 1) 0  _ _ _  (by omega) rfl (by omega) hw (lv_sub hl [1, 0] rfl)
  · -- 9: False
    have c_9 : (isLet (bt t n p)) = false := zb_f c_9
    refine lv_iconst (v := 0) hx hb d_M_word_12 (by decide) ?_
    exact z_iret hx hb hr hlocks hw (by refine ⟨congrArg some (congrArg Value.int ?_), rfl⟩; unfold wl; rw [if_neg (by rw [c_9]; decide)]; rfl) (by decide) (by decide) d_M_word_13

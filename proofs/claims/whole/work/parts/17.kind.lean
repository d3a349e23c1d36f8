/-- the scanner's cell -/
abbrev scE (b n p : Nat) (fa ws wd : Int32) : va_E := .inr (7, [.ref b, .int (nI n), .int (nI p), .int fa, .int ws, .int wd])
/-- it stands at p2; it has the fault F -/
def ScOk (h h1 : z_H) (sc b n p2 : Nat) : Prop := ∃ fa ws wd, z_put h sc (6, 0) (scE b n p2 fa ws wd) = h1
def ScNo (h h1 : z_H) (sc b n F : Nat) : Prop := ∃ p2 ws wd, z_put h sc (6, 0) (scE b n p2 (nI F) ws wd) = h1
/-- the bytes from q to e are the i-th string -/
def wdIs (t : Nat → Nat) (q e i : Nat) : Bool := decide (e - q = z_len.getD i 0) && nmE t q (sch i) (z_len.getD i 0)
/-- which of some words stands from q to e -/
def pick (t : Nat → Nat) (q e : Nat) : List Nat → Nat → Sum Nat (Int32 × Nat)
  | [], _ => .inl q
  | i :: l, k => if wdIs t q e i = true then .inr (nI k, e) else pick t q e l (k + 1)
/-- the next word, one of some: a fault, or which one and the place behind it -/
def rdW (t : Nat → Nat) (n p : Nat) (is : List Nat) : Sum Nat (Int32 × Nat) := if isLet (bt t n (sk t n p)) = true then pick t (sk t n p) (we t n (sk t n p)) is 0 else .inl (sk t n p)
def wdP (R : Sum Nat (Int32 × Nat)) (h : z_H) (sc b n : Nat) (r : Option Value) (h1 : z_H) : Prop := match R with
  | .inl F => r = some (.int (-1)) ∧ ScNo h h1 sc b n F
  | .inr (k, p2) => r = some (.int k) ∧ ScOk h h1 sc b n p2

set_option maxHeartbeats 4000000 in
set_option maxRecDepth 100000 in
theorem c_readKind (l : Launch) (g : z_G) (h : z_H) {rd sc q b len n p : Nat} {f : Nat → Int32} {fa ws wd : Int32} {t : Nat → Nat} (hrd : h rd = some ((7, 0), .inr (8, [.ref sc, .ref q]))) (hsc : h sc = some ((6, 0), .inr (7, [.ref b, .int (nI n), .int (nI p), .int fa, .int ws, .int wd]))) (hb0 : h b = some ((3, 0), .inl (g.2.1 0, len, .inl f))) (hn : n ≤ len) (hlen : len < 2 ^ 31) (hf : ∀ k, k < n → t k < 256 ∧ f k = sb_b (t k)) (hp : p ≤ n) : z_C l y_SchemaReader_readKind prog_10_method_6_code 1 (Option.some Jvm.ClassFile.FieldType.int) 5 115 0 0 g [.ref rd] h (wdP (rdW t n p [0, 1, 2]) h sc b n) := by
  refine z_C.of (by decide) (Nat.le_of_ble_eq_true rfl) (fun pg en s m below meth cd A ls hx hb hml hr hts hown hlocks hnm hK hE hA hw hl => ?_)
  have hl : lv_has ls 1 [(0, .ref rd)] := hl
  have sk1 := sk_le (t := t) hp
  have sk2 := sk_ge t n p
  have we1 := we_le (t := t) (sk_le (t := t) hp)
  have we2 := we_ge t n (sk t n p)
  refine lv_aload_n hx hb d_SchemaReader_readKind_0 rfl (lv_at hl 0 rfl) ?_
  refine z_get hx hb hts (z_lay i_SchemaReader) hown hK hw hrd rfl 0 (by decide) (z_in k_220 rfl) (fun _ h9 => h9) rfl d_SchemaReader_readKind_1 ?_
  refine z_callV (n := 0) (As := []) (rest := []) ⟨hx, hb, hml, hown, hts⟩ (c_Scanner_takeWord (t := t) l g h hsc hb0 hn hlen hf (by omega)) (z_in k_250 rfl) (z_in k_8 rfl) (z_in k_247 rfl) (z_in k_248 rfl) (z_in k_249 rfl) (by decide +kernel) ⟨by first | exact Nat.le_of_ble_eq_true rfl | (dsimp only; omega) | omega, by first | exact Nat.le_of_ble_eq_true rfl | (dsimp only; omega) | omega⟩ hK hE hw hA rfl hsc rfl hl.1 (Nat.le_of_ble_eq_true rfl) d_SchemaReader_readKind_4 ⟨by first | exact Nat.le_of_ble_eq_true rfl | (dsimp only; omega) | omega, by first | exact Nat.le_of_ble_eq_true rfl | (dsimp only; omega) | omega⟩ rfl (fun r9 h9 H locs hp hw => ?_)
  unfold tWd at hp
  by_cases cw : isLet (bt t n (sk t n p)) = true
  · -- cw True
    rw [if_pos cw] at hp
    obtain ⟨r8, hh1⟩ := hp
    subst r8
    obtain ⟨h1, e8⟩ : ∃ x9, x9 = h9 := ⟨_, rfl⟩
    subst e8
    have f1_rd : h1 rd = some ((7, 0), .inr (8, [.ref sc, .ref q])) := by rw [← hh1]; exact z_keep hsc hrd (z_t1 (by decide))
    have f1_sc : h1 sc = some ((6, 0), .inr (7, [.ref b, .int (nI n), .int (nI (we t n (sk t n p))), .int fa, .int (nI (sk t n p)), .int (nI (we t n (sk t n p)))])) := by rw [← hh1]; exact z_put_eq
    have f1_b : h1 b = some ((3, 0), .inl (g.2.1 0, len, .inl f)) := by rw [← hh1]; exact z_keep hsc hb0 (z_t1 (by decide))
    refine W.eq (g2 := F0 m 7 ls [.int 1]) rfl ?_
    refine lv_if_ne (tgt := 12) hx hb d_SchemaReader_readKind_7 (by decide) (fun c_7 => ?_) (fun c_7 => ?_)
    · -- 7: True
      refine lv_aload_n hx hb d_SchemaReader_readKind_12 rfl (lv_at hl 0 rfl) ?_
      refine z_get hx hb hts (z_lay i_SchemaReader) hown hK hw f1_rd rfl 0 (by decide) (z_in k_220 rfl) (fun _ h9 => h9) rfl d_SchemaReader_readKind_13 ?_
      refine va_ldcS hx hb hown hE.2.2.2.2.1.1 d_SchemaReader_readKind_16 ?_
      refine z_callV (n := 1) (As := [.ref (g.2.2 (1 + 0))]) (rest := []) ⟨hx, hb, hml, hown, hts⟩ (c_Scanner_wordIs (t := t) (i := 0) l g h1 f1_sc f1_b hn hlen hf (by decide) (by omega) (by omega)) (z_in k_273 rfl) (z_in k_8 rfl) (z_in k_270 rfl) (z_in k_271 rfl) (z_in k_272 rfl) (by decide +kernel) ⟨by first | exact Nat.le_of_ble_eq_true rfl | (dsimp only; omega) | omega, by first | exact Nat.le_of_ble_eq_true rfl | (dsimp only; omega) | omega⟩ hK hE hw hA rfl f1_sc rfl hl.1 (Nat.le_of_ble_eq_true rfl) d_SchemaReader_readKind_18 ⟨by first | exact Nat.le_of_ble_eq_true rfl | (dsimp only; omega) | omega, by first | exact Nat.le_of_ble_eq_true rfl | (dsimp only; omega) | omega⟩ rfl (fun r9 h9 H locs hp hw => ?_)
      obtain ⟨r8, h8⟩ := hp
      subst r8
      subst h8
      refine W.eq (g2 := F0 m 21 ls [.int (zb (wdIs t (sk t n p) (we t n (sk t n p)) 0))]) rfl ?_
      refine lv_if_eq (tgt := 26) hx hb d_SchemaReader_readKind_21 (by decide) (fun c_21 => ?_) (fun c_21 => ?_)
      · -- 21: True
        have c_21 : (wdIs t (sk t n p) (we t n (sk t n p)) 0) = false := zb_f c_21
        refine lv_aload_n hx hb d_SchemaReader_readKind_26 rfl (lv_at hl 0 rfl) ?_
        refine z_get hx hb hts (z_lay i_SchemaReader) hown hK hw f1_rd rfl 0 (by decide) (z_in k_220 rfl) (fun _ h9 => h9) rfl d_SchemaReader_readKind_27 ?_
        refine va_ldcS hx hb hown hE.2.2.2.2.1.2.1 d_SchemaReader_readKind_30 ?_
        refine z_callV (n := 1) (As := [.ref (g.2.2 (1 + 1))]) (rest := []) ⟨hx, hb, hml, hown, hts⟩ (c_Scanner_wordIs (t := t) (i := 1) l g h1 f1_sc f1_b hn hlen hf (by decide) (by omega) (by omega)) (z_in k_273 rfl) (z_in k_8 rfl) (z_in k_270 rfl) (z_in k_271 rfl) (z_in k_272 rfl) (by decide +kernel) ⟨by first | exact Nat.le_of_ble_eq_true rfl | (dsimp only; omega) | omega, by first | exact Nat.le_of_ble_eq_true rfl | (dsimp only; omega) | omega⟩ hK hE hw hA rfl f1_sc rfl hl.1 (Nat.le_of_ble_eq_true rfl) d_SchemaReader_readKind_32 ⟨by first | exact Nat.le_of_ble_eq_true rfl | (dsimp only; omega) | omega, by first | exact Nat.le_of_ble_eq_true rfl | (dsimp only; omega) | omega⟩ rfl (fun r9 h9 H locs hp hw => ?_)
        obtain ⟨r8, h8⟩ := hp
        subst r8
        subst h8
        refine W.eq (g2 := F0 m 35 ls [.int (zb (wdIs t (sk t n p) (we t n (sk t n p)) 1))]) rfl ?_
        refine lv_if_eq (tgt := 40) hx hb d_SchemaReader_readKind_35 (by decide) (fun c_35 => ?_) (fun c_35 => ?_)
        · -- 35: True
          have c_35 : (wdIs t (sk t n p) (we t n (sk t n p)) 1) = false := zb_f c_35
          refine lv_aload_n hx hb d_SchemaReader_readKind_40 rfl (lv_at hl 0 rfl) ?_
          refine z_get hx hb hts (z_lay i_SchemaReader) hown hK hw f1_rd rfl 0 (by decide) (z_in k_220 rfl) (fun _ h9 => h9) rfl d_SchemaReader_readKind_41 ?_
          refine va_ldcS hx hb hown hE.2.2.2.2.1.2.2.1 d_SchemaReader_readKind_44 ?_
          refine z_callV (n := 1) (As := [.ref (g.2.2 (1 + 2))]) (rest := []) ⟨hx, hb, hml, hown, hts⟩ (c_Scanner_wordIs (t := t) (i := 2) l g h1 f1_sc f1_b hn hlen hf (by decide) (by omega) (by omega)) (z_in k_273 rfl) (z_in k_8 rfl) (z_in k_270 rfl) (z_in k_271 rfl) (z_in k_272 rfl) (by decide +kernel) ⟨by first | exact Nat.le_of_ble_eq_true rfl | (dsimp only; omega) | omega, by first | exact Nat.le_of_ble_eq_true rfl | (dsimp only; omega) | omega⟩ hK hE hw hA rfl f1_sc rfl hl.1 (Nat.le_of_ble_eq_true rfl) d_SchemaReader_readKind_46 ⟨by first | exact Nat.le_of_ble_eq_true rfl | (dsimp only; omega) | omega, by first | exact Nat.le_of_ble_eq_true rfl | (dsimp only; omega) | omega⟩ rfl (fun r9 h9 H locs hp hw => ?_)
          obtain ⟨r8, h8⟩ := hp
          subst r8
          subst h8
          refine W.eq (g2 := F0 m 49 ls [.int (zb (wdIs t (sk t n p) (we t n (sk t n p)) 2))]) rfl ?_
          refine lv_if_eq (tgt := 54) hx hb d_SchemaReader_readKind_49 (by decide) (fun c_49 => ?_) (fun c_49 => ?_)
          · -- 49: True
            have c_49 : (wdIs t (sk t n p) (we t n (sk t n p)) 2) = false := zb_f c_49
            refine lv_aload_n hx hb d_SchemaReader_readKind_54 rfl (lv_at hl 0 rfl) ?_
            refine z_get hx hb hts (z_lay i_SchemaReader) hown hK hw f1_rd rfl 0 (by decide) (z_in k_220 rfl) (fun _ h9 => h9) rfl d_SchemaReader_readKind_55 ?_
            refine z_callV (n := 0) (As := []) (rest := []) ⟨hx, hb, hml, hown, hts⟩ (c_Scanner_failAtWord l g h1 f1_sc) (z_in k_331 rfl) (z_in k_8 rfl) (z_in k_328 rfl) (z_in k_329 rfl) (z_in k_330 rfl) (by decide +kernel) ⟨by first | exact Nat.le_of_ble_eq_true rfl | (dsimp only; omega) | omega, by first | exact Nat.le_of_ble_eq_true rfl | (dsimp only; omega) | omega⟩ hK hE hw hA rfl f1_sc rfl hl.1 (Nat.le_of_ble_eq_true rfl) d_SchemaReader_readKind_58 ⟨by first | exact Nat.le_of_ble_eq_true rfl | (dsimp only; omega) | omega, by first | exact Nat.le_of_ble_eq_true rfl | (dsimp only; omega) | omega⟩ rfl (fun r9 h9 H locs hp hw => ?_)
            obtain ⟨r8, hh2⟩ := hp
            subst r8
            obtain ⟨h2, e8⟩ : ∃ x9, x9 = h9 := ⟨_, rfl⟩
            subst e8
            have f2_rd : h2 rd = some ((7, 0), .inr (8, [.ref sc, .ref q])) := by rw [← hh2]; exact z_keep f1_sc f1_rd (z_t1 (by decide))
            have f2_sc : h2 sc = some ((6, 0), .inr (7, [.ref b, .int (nI n), .int (nI (we t n (sk t n p))), .int (nI (sk t n p)), .int (nI (sk t n p)), .int (nI (we t n (sk t n p)))])) := by rw [← hh2]; exact z_put_eq
            have f2_b : h2 b = some ((3, 0), .inl (g.2.1 0, len, .inl f)) := by rw [← hh2]; exact z_keep f1_sc f1_b (z_t1 (by decide))
            refine W.eq (g2 := F0 m 61 ls [.int 0]) rfl ?_
            refine lv_pop hx hb d_SchemaReader_readKind_61 rfl ?_
            refine lv_iconst (v := (-1)) hx hb d_SchemaReader_readKind_62 (by decide) ?_
            exact z_iret hx hb hr hlocks hw (by unfold rdW; rw [if_pos cw]; simp only [pick, c_21, c_35, c_49, if_true, if_false, Bool.false_eq_true]; exact ⟨rfl, _, _, _, by rw [← hh2, ← hh1, z_put_put]⟩) (by decide) (by decide) d_SchemaReader_readKind_63
          · -- 49: False
            have c_49 : (wdIs t (sk t n p) (we t n (sk t n p)) 2) = true := zb_t c_49
            refine lv_iconst (v := 2) hx hb d_SchemaReader_readKind_52 (by decide) ?_
            exact z_iret hx hb hr hlocks hw (by unfold rdW; rw [if_pos cw]; simp only [pick, c_21, c_35, c_49, if_true, if_false, Bool.false_eq_true]; exact ⟨rfl, _, _, _, hh1⟩) (by decide) (by decide) d_SchemaReader_readKind_53
        · -- 35: False
          have c_35 : (wdIs t (sk t n p) (we t n (sk t n p)) 1) = true := zb_t c_35
          refine lv_iconst (v := 1) hx hb d_SchemaReader_readKind_38 (by decide) ?_
          exact z_iret hx hb hr hlocks hw (by unfold rdW; rw [if_pos cw]; simp only [pick, c_21, c_35, if_true, if_false, Bool.false_eq_true]; exact ⟨rfl, _, _, _, hh1⟩) (by decide) (by decide) d_SchemaReader_readKind_39
      · -- 21: False
        have c_21 : (wdIs t (sk t n p) (we t n (sk t n p)) 0) = true := zb_t c_21
        refine lv_iconst (v := 0) hx hb d_SchemaReader_readKind_24 (by decide) ?_
        exact z_iret hx hb hr hlocks hw (by unfold rdW; rw [if_pos cw]; simp only [pick, c_21, if_true, if_false, Bool.false_eq_true]; exact ⟨rfl, _, _, _, hh1⟩) (by decide) (by decide) d_SchemaReader_readKind_25
    · -- 7: False
      exact absurd c_7 (by decide)
  · -- cw False
    rw [if_neg cw] at hp
    obtain ⟨r8, hh3⟩ := hp
    subst r8
    obtain ⟨h3, e8⟩ : ∃ x9, x9 = h9 := ⟨_, rfl⟩
    subst e8
    have f3_rd : h3 rd = some ((7, 0), .inr (8, [.ref sc, .ref q])) := by rw [← hh3]; exact z_keep hsc hrd (z_t1 (by decide))
    have f3_sc : h3 sc = some ((6, 0), .inr (7, [.ref b, .int (nI n), .int (nI (sk t n p)), .int (nI (sk t n p)), .int ws, .int wd])) := by rw [← hh3]; exact z_put_eq
    have f3_b : h3 b = some ((3, 0), .inl (g.2.1 0, len, .inl f)) := by rw [← hh3]; exact z_keep hsc hb0 (z_t1 (by decide))
    refine W.eq (g2 := F0 m 7 ls [.int 0]) rfl ?_
    refine lv_if_ne (tgt := 12) hx hb d_SchemaReader_readKind_7 (by decide) (fun c_7 => ?_) (fun c_7 => ?_)
    · -- 7: True
      exact absurd (by decide) c_7
    · -- 7: False
      refine lv_iconst (v := (-1)) hx hb d_SchemaReader_readKind_10 (by decide) ?_
      exact z_iret hx hb hr hlocks hw (by unfold rdW; rw [if_neg cw]; exact ⟨rfl, _, _, _, hh3⟩) (by decide) (by decide) d_SchemaReader_readKind_11

set_option maxHeartbeats 4000000 in
set_option maxRecDepth 100000 in
theorem c_readType (l : Launch) (g : z_G) (h : z_H) {rd sc q b len n p : Nat} {f : Nat → Int32} {fa ws wd : Int32} {t : Nat → Nat} (hrd : h rd = some ((7, 0), .inr (8, [.ref sc, .ref q]))) (hsc : h sc = some ((6, 0), .inr (7, [.ref b, .int (nI n), .int (nI p), .int fa, .int ws, .int wd]))) (hb0 : h b = some ((3, 0), .inl (g.2.1 0, len, .inl f))) (hn : n ≤ len) (hlen : len < 2 ^ 31) (hf : ∀ k, k < n → t k < 256 ∧ f k = sb_b (t k)) (hp : p ≤ n) : z_C l y_SchemaReader_readType prog_10_method_7_code 1 (Option.some Jvm.ClassFile.FieldType.int) 5 115 0 0 g [.ref rd] h (wdP (rdW t n p [3, 4, 5, 6, 7]) h sc b n) := by
  refine z_C.of (by decide) (Nat.le_of_ble_eq_true rfl) (fun pg en s m below meth cd A ls hx hb hml hr hts hown hlocks hnm hK hE hA hw hl => ?_)
  have hl : lv_has ls 1 [(0, .ref rd)] := hl
  have sk1 := sk_le (t := t) hp
  have sk2 := sk_ge t n p
  have we1 := we_le (t := t) (sk_le (t := t) hp)
  have we2 := we_ge t n (sk t n p)
  refine lv_aload_n hx hb d_SchemaReader_readType_0 rfl (lv_at hl 0 rfl) ?_
  refine z_get hx hb hts (z_lay i_SchemaReader) hown hK hw hrd rfl 0 (by decide) (z_in k_220 rfl) (fun _ h9 => h9) rfl d_SchemaReader_readType_1 ?_
  refine z_callV (n := 0) (As := []) (rest := []) ⟨hx, hb, hml, hown, hts⟩ (c_Scanner_takeWord (t := t) l g h hsc hb0 hn hlen hf (by omega)) (z_in k_250 rfl) (z_in k_8 rfl) (z_in k_247 rfl) (z_in k_248 rfl) (z_in k_249 rfl) (by decide +kernel) ⟨by first | exact Nat.le_of_ble_eq_true rfl | (dsimp only; omega) | omega, by first | exact Nat.le_of_ble_eq_true rfl | (dsimp only; omega) | omega⟩ hK hE hw hA rfl hsc rfl hl.1 (Nat.le_of_ble_eq_true rfl) d_SchemaReader_readType_4 ⟨by first | exact Nat.le_of_ble_eq_true rfl | (dsimp only; omega) | omega, by first | exact Nat.le_of_ble_eq_true rfl | (dsimp only; omega) | omega⟩ rfl (fun r9 h9 H locs hp hw => ?_)
  unfold tWd at hp
  by_cases cw : isLet (bt t n (sk t n p)) = true
  · -- cw True
    rw [if_pos cw] at hp
    obtain ⟨r8, hh1⟩ := hp
    subst r8
    obtain ⟨h1, e8⟩ : ∃ x9, x9 = h9 := ⟨_, rfl⟩
    subst e8
    have f1_rd : h1 rd = some ((7, 0), .inr (8, [.ref sc, .ref q])) := by rw [← hh1]; exact z_keep hsc hrd (z_t1 (by decide))
    have f1_sc : h1 sc = some ((6, 0), .inr (7, [.ref b, .int (nI n), .int (nI (we t n (sk t n p))), .int fa, .int (nI (sk t n p)), .int (nI (we t n (sk t n p)))])) := by rw [← hh1]; exact z_put_eq
    have f1_b : h1 b = some ((3, 0), .inl (g.2.1 0, len, .inl f)) := by rw [← hh1]; exact z_keep hsc hb0 (z_t1 (by decide))
    refine W.eq (g2 := F0 m 7 ls [.int 1]) rfl ?_
    refine lv_if_ne (tgt := 12) hx hb d_SchemaReader_readType_7 (by decide) (fun c_7 => ?_) (fun c_7 => ?_)
    · -- 7: True
      refine lv_aload_n hx hb d_SchemaReader_readType_12 rfl (lv_at hl 0 rfl) ?_
      refine z_get hx hb hts (z_lay i_SchemaReader) hown hK hw f1_rd rfl 0 (by decide) (z_in k_220 rfl) (fun _ h9 => h9) rfl d_SchemaReader_readType_13 ?_
      refine va_ldcS hx hb hown hE.2.2.2.2.1.2.2.2.1 d_SchemaReader_readType_16 ?_
      refine z_callV (n := 1) (As := [.ref (g.2.2 (1 + 3))]) (rest := []) ⟨hx, hb, hml, hown, hts⟩ (c_Scanner_wordIs (t := t) (i := 3) l g h1 f1_sc f1_b hn hlen hf (by decide) (by omega) (by omega)) (z_in k_273 rfl) (z_in k_8 rfl) (z_in k_270 rfl) (z_in k_271 rfl) (z_in k_272 rfl) (by decide +kernel) ⟨by first | exact Nat.le_of_ble_eq_true rfl | (dsimp only; omega) | omega, by first | exact Nat.le_of_ble_eq_true rfl | (dsimp only; omega) | omega⟩ hK hE hw hA rfl f1_sc rfl hl.1 (Nat.le_of_ble_eq_true rfl) d_SchemaReader_readType_18 ⟨by first | exact Nat.le_of_ble_eq_true rfl | (dsimp only; omega) | omega, by first | exact Nat.le_of_ble_eq_true rfl | (dsimp only; omega) | omega⟩ rfl (fun r9 h9 H locs hp hw => ?_)
      obtain ⟨r8, h8⟩ := hp
      subst r8
      subst h8
      refine W.eq (g2 := F0 m 21 ls [.int (zb (wdIs t (sk t n p) (we t n (sk t n p)) 3))]) rfl ?_
      refine lv_if_eq (tgt := 26) hx hb d_SchemaReader_readType_21 (by decide) (fun c_21 => ?_) (fun c_21 => ?_)
      · -- 21: True
        have c_21 : (wdIs t (sk t n p) (we t n (sk t n p)) 3) = false := zb_f c_21
        refine lv_aload_n hx hb d_SchemaReader_readType_26 rfl (lv_at hl 0 rfl) ?_
        refine z_get hx hb hts (z_lay i_SchemaReader) hown hK hw f1_rd rfl 0 (by decide) (z_in k_220 rfl) (fun _ h9 => h9) rfl d_SchemaReader_readType_27 ?_
        refine va_ldcS hx hb hown hE.2.2.2.2.1.2.2.2.2.1 d_SchemaReader_readType_30 ?_
        refine z_callV (n := 1) (As := [.ref (g.2.2 (1 + 4))]) (rest := []) ⟨hx, hb, hml, hown, hts⟩ (c_Scanner_wordIs (t := t) (i := 4) l g h1 f1_sc f1_b hn hlen hf (by decide) (by omega) (by omega)) (z_in k_273 rfl) (z_in k_8 rfl) (z_in k_270 rfl) (z_in k_271 rfl) (z_in k_272 rfl) (by decide +kernel) ⟨by first | exact Nat.le_of_ble_eq_true rfl | (dsimp only; omega) | omega, by first | exact Nat.le_of_ble_eq_true rfl | (dsimp only; omega) | omega⟩ hK hE hw hA rfl f1_sc rfl hl.1 (Nat.le_of_ble_eq_true rfl) d_SchemaReader_readType_32 ⟨by first | exact Nat.le_of_ble_eq_true rfl | (dsimp only; omega) | omega, by first | exact Nat.le_of_ble_eq_true rfl | (dsimp only; omega) | omega⟩ rfl (fun r9 h9 H locs hp hw => ?_)
        obtain ⟨r8, h8⟩ := hp
        subst r8
        subst h8
        refine W.eq (g2 := F0 m 35 ls [.int (zb (wdIs t (sk t n p) (we t n (sk t n p)) 4))]) rfl ?_
        refine lv_if_eq (tgt := 40) hx hb d_SchemaReader_readType_35 (by decide) (fun c_35 => ?_) (fun c_35 => ?_)
        · -- 35: True
          have c_35 : (wdIs t (sk t n p) (we t n (sk t n p)) 4) = false := zb_f c_35
          refine lv_aload_n hx hb d_SchemaReader_readType_40 rfl (lv_at hl 0 rfl) ?_
          refine z_get hx hb hts (z_lay i_SchemaReader) hown hK hw f1_rd rfl 0 (by decide) (z_in k_220 rfl) (fun _ h9 => h9) rfl d_SchemaReader_readType_41 ?_
          refine va_ldcS hx hb hown hE.2.2.2.2.1.2.2.2.2.2.1 d_SchemaReader_readType_44 ?_
          refine z_callV (n := 1) (As := [.ref (g.2.2 (1 + 5))]) (rest := []) ⟨hx, hb, hml, hown, hts⟩ (c_Scanner_wordIs (t := t) (i := 5) l g h1 f1_sc f1_b hn hlen hf (by decide) (by omega) (by omega)) (z_in k_273 rfl) (z_in k_8 rfl) (z_in k_270 rfl) (z_in k_271 rfl) (z_in k_272 rfl) (by decide +kernel) ⟨by first | exact Nat.le_of_ble_eq_true rfl | (dsimp only; omega) | omega, by first | exact Nat.le_of_ble_eq_true rfl | (dsimp only; omega) | omega⟩ hK hE hw hA rfl f1_sc rfl hl.1 (Nat.le_of_ble_eq_true rfl) d_SchemaReader_readType_46 ⟨by first | exact Nat.le_of_ble_eq_true rfl | (dsimp only; omega) | omega, by first | exact Nat.le_of_ble_eq_true rfl | (dsimp only; omega) | omega⟩ rfl (fun r9 h9 H locs hp hw => ?_)
          obtain ⟨r8, h8⟩ := hp
          subst r8
          subst h8
          refine W.eq (g2 := F0 m 49 ls [.int (zb (wdIs t (sk t n p) (we t n (sk t n p)) 5))]) rfl ?_
          refine lv_if_eq (tgt := 54) hx hb d_SchemaReader_readType_49 (by decide) (fun c_49 => ?_) (fun c_49 => ?_)
          · -- 49: True
            have c_49 : (wdIs t (sk t n p) (we t n (sk t n p)) 5) = false := zb_f c_49
            refine lv_aload_n hx hb d_SchemaReader_readType_54 rfl (lv_at hl 0 rfl) ?_
            refine z_get hx hb hts (z_lay i_SchemaReader) hown hK hw f1_rd rfl 0 (by decide) (z_in k_220 rfl) (fun _ h9 => h9) rfl d_SchemaReader_readType_55 ?_
            refine va_ldcS hx hb hown hE.2.2.2.2.1.2.2.2.2.2.2.1 d_SchemaReader_readType_58 ?_
            refine z_callV (n := 1) (As := [.ref (g.2.2 (1 + 6))]) (rest := []) ⟨hx, hb, hml, hown, hts⟩ (c_Scanner_wordIs (t := t) (i := 6) l g h1 f1_sc f1_b hn hlen hf (by decide) (by omega) (by omega)) (z_in k_273 rfl) (z_in k_8 rfl) (z_in k_270 rfl) (z_in k_271 rfl) (z_in k_272 rfl) (by decide +kernel) ⟨by first | exact Nat.le_of_ble_eq_true rfl | (dsimp only; omega) | omega, by first | exact Nat.le_of_ble_eq_true rfl | (dsimp only; omega) | omega⟩ hK hE hw hA rfl f1_sc rfl hl.1 (Nat.le_of_ble_eq_true rfl) d_SchemaReader_readType_60 ⟨by first | exact Nat.le_of_ble_eq_true rfl | (dsimp only; omega) | omega, by first | exact Nat.le_of_ble_eq_true rfl | (dsimp only; omega) | omega⟩ rfl (fun r9 h9 H locs hp hw => ?_)
            obtain ⟨r8, h8⟩ := hp
            subst r8
            subst h8
            refine W.eq (g2 := F0 m 63 ls [.int (zb (wdIs t (sk t n p) (we t n (sk t n p)) 6))]) rfl ?_
            refine lv_if_eq (tgt := 68) hx hb d_SchemaReader_readType_63 (by decide) (fun c_63 => ?_) (fun c_63 => ?_)
            · -- 63: True
              have c_63 : (wdIs t (sk t n p) (we t n (sk t n p)) 6) = false := zb_f c_63
              refine lv_aload_n hx hb d_SchemaReader_readType_68 rfl (lv_at hl 0 rfl) ?_
              refine z_get hx hb hts (z_lay i_SchemaReader) hown hK hw f1_rd rfl 0 (by decide) (z_in k_220 rfl) (fun _ h9 => h9) rfl d_SchemaReader_readType_69 ?_
              refine va_ldcS hx hb hown hE.2.2.2.2.1.2.2.2.2.2.2.2 d_SchemaReader_readType_72 ?_
              refine z_callV (n := 1) (As := [.ref (g.2.2 (1 + 7))]) (rest := []) ⟨hx, hb, hml, hown, hts⟩ (c_Scanner_wordIs (t := t) (i := 7) l g h1 f1_sc f1_b hn hlen hf (by decide) (by omega) (by omega)) (z_in k_273 rfl) (z_in k_8 rfl) (z_in k_270 rfl) (z_in k_271 rfl) (z_in k_272 rfl) (by decide +kernel) ⟨by first | exact Nat.le_of_ble_eq_true rfl | (dsimp only; omega) | omega, by first | exact Nat.le_of_ble_eq_true rfl | (dsimp only; omega) | omega⟩ hK hE hw hA rfl f1_sc rfl hl.1 (Nat.le_of_ble_eq_true rfl) d_SchemaReader_readType_74 ⟨by first | exact Nat.le_of_ble_eq_true rfl | (dsimp only; omega) | omega, by first | exact Nat.le_of_ble_eq_true rfl | (dsimp only; omega) | omega⟩ rfl (fun r9 h9 H locs hp hw => ?_)
              obtain ⟨r8, h8⟩ := hp
              subst r8
              subst h8
              refine W.eq (g2 := F0 m 77 ls [.int (zb (wdIs t (sk t n p) (we t n (sk t n p)) 7))]) rfl ?_
              refine lv_if_eq (tgt := 82) hx hb d_SchemaReader_readType_77 (by decide) (fun c_77 => ?_) (fun c_77 => ?_)
              · -- 77: True
                have c_77 : (wdIs t (sk t n p) (we t n (sk t n p)) 7) = false := zb_f c_77
                refine lv_aload_n hx hb d_SchemaReader_readType_82 rfl (lv_at hl 0 rfl) ?_
                refine z_get hx hb hts (z_lay i_SchemaReader) hown hK hw f1_rd rfl 0 (by decide) (z_in k_220 rfl) (fun _ h9 => h9) rfl d_SchemaReader_readType_83 ?_
                refine z_callV (n := 0) (As := []) (rest := []) ⟨hx, hb, hml, hown, hts⟩ (c_Scanner_failAtWord l g h1 f1_sc) (z_in k_331 rfl) (z_in k_8 rfl) (z_in k_328 rfl) (z_in k_329 rfl) (z_in k_330 rfl) (by decide +kernel) ⟨by first | exact Nat.le_of_ble_eq_true rfl | (dsimp only; omega) | omega, by first | exact Nat.le_of_ble_eq_true rfl | (dsimp only; omega) | omega⟩ hK hE hw hA rfl f1_sc rfl hl.1 (Nat.le_of_ble_eq_true rfl) d_SchemaReader_readType_86 ⟨by first | exact Nat.le_of_ble_eq_true rfl | (dsimp only; omega) | omega, by first | exact Nat.le_of_ble_eq_true rfl | (dsimp only; omega) | omega⟩ rfl (fun r9 h9 H locs hp hw => ?_)
                obtain ⟨r8, hh2⟩ := hp
                subst r8
                obtain ⟨h2, e8⟩ : ∃ x9, x9 = h9 := ⟨_, rfl⟩
                subst e8
                have f2_rd : h2 rd = some ((7, 0), .inr (8, [.ref sc, .ref q])) := by rw [← hh2]; exact z_keep f1_sc f1_rd (z_t1 (by decide))
                have f2_sc : h2 sc = some ((6, 0), .inr (7, [.ref b, .int (nI n), .int (nI (we t n (sk t n p))), .int (nI (sk t n p)), .int (nI (sk t n p)), .int (nI (we t n (sk t n p)))])) := by rw [← hh2]; exact z_put_eq
                have f2_b : h2 b = some ((3, 0), .inl (g.2.1 0, len, .inl f)) := by rw [← hh2]; exact z_keep f1_sc f1_b (z_t1 (by decide))
                refine W.eq (g2 := F0 m 89 ls [.int 0]) rfl ?_
                refine lv_pop hx hb d_SchemaReader_readType_89 rfl ?_
                refine lv_iconst (v := (-1)) hx hb d_SchemaReader_readType_90 (by decide) ?_
                exact z_iret hx hb hr hlocks hw (by unfold rdW; rw [if_pos cw]; simp only [pick, c_21, c_35, c_49, c_63, c_77, if_true, if_false, Bool.false_eq_true]; exact ⟨rfl, _, _, _, by rw [← hh2, ← hh1, z_put_put]⟩) (by decide) (by decide) d_SchemaReader_readType_91
              · -- 77: False
                have c_77 : (wdIs t (sk t n p) (we t n (sk t n p)) 7) = true := zb_t c_77
                refine lv_iconst (v := 4) hx hb d_SchemaReader_readType_80 (by decide) ?_
                exact z_iret hx hb hr hlocks hw (by unfold rdW; rw [if_pos cw]; simp only [pick, c_21, c_35, c_49, c_63, c_77, if_true, if_false, Bool.false_eq_true]; exact ⟨rfl, _, _, _, hh1⟩) (by decide) (by decide) d_SchemaReader_readType_81
            · -- 63: False
              have c_63 : (wdIs t (sk t n p) (we t n (sk t n p)) 6) = true := zb_t c_63
              refine lv_iconst (v := 3) hx hb d_SchemaReader_readType_66 (by decide) ?_
              exact z_iret hx hb hr hlocks hw (by unfold rdW; rw [if_pos cw]; simp only [pick, c_21, c_35, c_49, c_63, if_true, if_false, Bool.false_eq_true]; exact ⟨rfl, _, _, _, hh1⟩) (by decide) (by decide) d_SchemaReader_readType_67
          · -- 49: False
            have c_49 : (wdIs t (sk t n p) (we t n (sk t n p)) 5) = true := zb_t c_49
            refine lv_iconst (v := 2) hx hb d_SchemaReader_readType_52 (by decide) ?_
            exact z_iret hx hb hr hlocks hw (by unfold rdW; rw [if_pos cw]; simp only [pick, c_21, c_35, c_49, if_true, if_false, Bool.false_eq_true]; exact ⟨rfl, _, _, _, hh1⟩) (by decide) (by decide) d_SchemaReader_readType_53
        · -- 35: False
          have c_35 : (wdIs t (sk t n p) (we t n (sk t n p)) 4) = true := zb_t c_35
          refine lv_iconst (v := 1) hx hb d_SchemaReader_readType_38 (by decide) ?_
          exact z_iret hx hb hr hlocks hw (by unfold rdW; rw [if_pos cw]; simp only [pick, c_21, c_35, if_true, if_false, Bool.false_eq_true]; exact ⟨rfl, _, _, _, hh1⟩) (by decide) (by decide) d_SchemaReader_readType_39
      · -- 21: False
        have c_21 : (wdIs t (sk t n p) (we t n (sk t n p)) 3) = true := zb_t c_21
        refine lv_iconst (v := 0) hx hb d_SchemaReader_readType_24 (by decide) ?_
        exact z_iret hx hb hr hlocks hw (by unfold rdW; rw [if_pos cw]; simp only [pick, c_21, if_true, if_false, Bool.false_eq_true]; exact ⟨rfl, _, _, _, hh1⟩) (by decide) (by decide) d_SchemaReader_readType_25
    · -- 7: False
      exact absurd c_7 (by decide)
  · -- cw False
    rw [if_neg cw] at hp
    obtain ⟨r8, hh3⟩ := hp
    subst r8
    obtain ⟨h3, e8⟩ : ∃ x9, x9 = h9 := ⟨_, rfl⟩
    subst e8
    have f3_rd : h3 rd = some ((7, 0), .inr (8, [.ref sc, .ref q])) := by rw [← hh3]; exact z_keep hsc hrd (z_t1 (by decide))
    have f3_sc : h3 sc = some ((6, 0), .inr (7, [.ref b, .int (nI n), .int (nI (sk t n p)), .int (nI (sk t n p)), .int ws, .int wd])) := by rw [← hh3]; exact z_put_eq
    have f3_b : h3 b = some ((3, 0), .inl (g.2.1 0, len, .inl f)) := by rw [← hh3]; exact z_keep hsc hb0 (z_t1 (by decide))
    refine W.eq (g2 := F0 m 7 ls [.int 0]) rfl ?_
    refine lv_if_ne (tgt := 12) hx hb d_SchemaReader_readType_7 (by decide) (fun c_7 => ?_) (fun c_7 => ?_)
    · -- 7: True
      exact absurd (by decide) c_7
    · -- 7: False
      refine lv_iconst (v := (-1)) hx hb d_SchemaReader_readType_10 (by decide) ?_
      exact z_iret hx hb hr hlocks hw (by unfold rdW; rw [if_neg cw]; exact ⟨rfl, _, _, _, hh3⟩) (by decide) (by decide) d_SchemaReader_readType_11

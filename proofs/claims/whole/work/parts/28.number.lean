/-- digits, added up below 0; st: where the number begins -/
def dgL (t : Nat → Nat) (n : Nat) (lim : Int64) (st : Nat) : Nat → Nat → Int64 → Sum Nat (Int64 × Nat)
  | 0, p, b => .inr (b, p)
  | k + 1, p, b => if isDig (bt t n p) = true then (if b < (lim + (bt t n p - 48).toInt64) / 10 then .inl st else dgL t n lim st k (p + 1) (b * 10 - (bt t n p - 48).toInt64)) else .inr (b, p)
def numN (t : Nat → Nat) (n p p1 : Nat) (neg : Bool) (lo : Int64) : Sum Nat (Int64 × Nat) :=
  if isDig (bt t n p1) = true then
    (if bt t n p1 = 48 ∧ (neg = true ∨ isDig (bt t n (p1 + 1)) = true) then .inl p
     else match dgL t n (if neg = true then lo else lo + 1) p 4000 p1 0 with
      | .inl F => .inl F
      | .inr x => .inr (if neg = true then x.1 else -x.1, x.2))
  else .inl (if bt t n p1 = -1 then p1 else p)
/-- a number of at least lo -/
def numR (t : Nat → Nat) (n p : Nat) (lo : Int64) : Sum Nat (Int64 × Nat) := if bt t n p = 45 then numN t n p (p + 1) true lo else numN t n p p false lo

theorem isDig_lt {t : Nat → Nat} {n p : Nat} (h : isDig (bt t n p) = true) : p < n := by
  apply Classical.byContradiction
  intro z
  rw [bt_out z] at h
  exact absurd h (by decide)

set_option maxHeartbeats 4000000 in
set_option maxRecDepth 100000 in
theorem c_readNumber (l : Launch) (g : z_G) (h : z_H) {rd sc q w tr b len n p : Nat} {f : Nat → Int32} {fa ws wd : Int32} {nu9 : Int64} {t : Nat → Nat} {lo : Int64} (hrd : h rd = some ((8, 0), .inr (9, [.ref sc, .ref q, .ref w, .ref tr, .long nu9]))) (hsc : h sc = some ((6, 0), .inr (7, [.ref b, .int (nI n), .int (nI p), .int fa, .int ws, .int wd]))) (hb0 : h b = some ((3, 0), .inl (g.2.1 0, len, .inl f))) (hn : n ≤ len) (hlen : len < 2 ^ 31) (hf : ∀ k, k < n → t k < 256 ∧ f k = sb_b (t k)) (hp : p ≤ n) (hl29 : len < 2 ^ 29) : z_C l y_RecordReader_readNumber prog_6_method_8_code 11 (Option.some Jvm.ClassFile.FieldType.boolean) 2 60 0 0 g [.ref rd, .long lo] h (nuP (numR t n p lo) (fun nu => .inr (9, [.ref sc, .ref q, .ref w, .ref tr, .long nu])) h rd sc b n) := by
  refine z_C.of (by decide) (Nat.le_of_ble_eq_true rfl) (fun pg en s m below meth cd A ls hx hb hml hr hts hown hlocks hnm hK hE hA hw hl => ?_)
  have hl : lv_has ls 11 [(0, .ref rd), (1, .long lo)] := hl
  have kk0 : z_K (fun y => y = 6 ∨ y = 8) h h := z_K.rf
  refine lv_aload_n hx hb d_RecordReader_readNumber_0 rfl (lv_at hl 0 rfl) ?_
  refine z_get hx hb hts (z_lay i_RecordReader) hown hK hw hrd rfl 0 (by decide) (z_in k_502 rfl) (fun _ h9 => h9) rfl d_RecordReader_readNumber_1 ?_
  refine z_getN hx hb hts (z_lay i_Scanner) hown hK hw hsc rfl 2 (by decide) hE.nest (z_inN k_192 rfl) (fun _ h9 => h9) rfl d_RecordReader_readNumber_4 ?_
  refine lv_istore_n (lv' := [(3, .int (nI p)), (0, .ref rd), (1, .long lo)]) hx hb d_RecordReader_readNumber_7 rfl hl (by decide) rfl (fun ls hl => ?_)
  refine lv_aload_n hx hb d_RecordReader_readNumber_8 rfl (lv_at hl 1 rfl) ?_
  refine z_get hx hb hts (z_lay i_RecordReader) hown hK hw hrd rfl 0 (by decide) (z_in k_502 rfl) (fun _ h9 => h9) rfl d_RecordReader_readNumber_9 ?_
  refine z_callV (n := 0) (As := []) (rest := []) ⟨hx, hb, hml, hown, hts⟩ (c_Scanner_here (t := t) l g h hsc hb0 hn hlen hf (by omega)) (z_in k_238 rfl) (z_in k_8 rfl) (z_in k_570 rfl) (z_in k_236 rfl) (z_in k_237 rfl) (by decide +kernel) ⟨by first | exact Nat.le_of_ble_eq_true rfl | (dsimp only; omega) | omega, by first | exact Nat.le_of_ble_eq_true rfl | (dsimp only; omega) | omega⟩ hK hE hw hA rfl hsc rfl hl.1 (Nat.le_of_ble_eq_true rfl) d_RecordReader_readNumber_12 ⟨by first | exact Nat.le_of_ble_eq_true rfl | (dsimp only; omega) | omega, by first | exact Nat.le_of_ble_eq_true rfl | (dsimp only; omega) | omega⟩ rfl (fun r9 h9 H locs hp hw => ?_)
  obtain ⟨r8, h8⟩ := hp
  subst r8
  subst h8
  refine W.eq (g2 := F0 m 15 ls [.int (bt t n p)]) rfl ?_
  refine lv_bipush (v := 45) hx hb d_RecordReader_readNumber_15 (by decide) ?_
  refine lv_icmp_ne (tgt := 24) hx hb d_RecordReader_readNumber_17 (by decide) (fun c_17 => ?_) (fun c_17 => ?_)
  · -- 17: True
    refine lv_iconst (v := 0) hx hb d_RecordReader_readNumber_24 (by decide) ?_
    refine lv_istore (lv' := [(4, .int 0), (3, .int (nI p)), (0, .ref rd), (1, .long lo)]) hx hb d_RecordReader_readNumber_25 hl (by decide) rfl (fun ls hl => ?_)
    refine lv_iload hx hb d_RecordReader_readNumber_27 (lv_at hl 0 rfl) ?_
    refine lv_if_eq (tgt := 40) hx hb d_RecordReader_readNumber_29 (by decide) (fun c_29 => ?_) (fun c_29 => ?_)
    · -- 29: True
      refine lv_aload_n hx hb d_RecordReader_readNumber_40 rfl (lv_at hl 2 rfl) ?_
      refine z_get hx hb hts (z_lay i_RecordReader) hown hK hw hrd rfl 0 (by decide) (z_in k_502 rfl) (fun _ h9 => h9) rfl d_RecordReader_readNumber_41 ?_
      refine z_callV (n := 0) (As := []) (rest := []) ⟨hx, hb, hml, hown, hts⟩ (c_Scanner_here (t := t) l g h hsc hb0 hn hlen hf (by omega)) (z_in k_238 rfl) (z_in k_8 rfl) (z_in k_570 rfl) (z_in k_236 rfl) (z_in k_237 rfl) (by decide +kernel) ⟨by first | exact Nat.le_of_ble_eq_true rfl | (dsimp only; omega) | omega, by first | exact Nat.le_of_ble_eq_true rfl | (dsimp only; omega) | omega⟩ hK hE hw hA rfl hsc rfl hl.1 (Nat.le_of_ble_eq_true rfl) d_RecordReader_readNumber_44 ⟨by first | exact Nat.le_of_ble_eq_true rfl | (dsimp only; omega) | omega, by first | exact Nat.le_of_ble_eq_true rfl | (dsimp only; omega) | omega⟩ rfl (fun r9 h9 H locs hp hw => ?_)
      obtain ⟨r8, h8⟩ := hp
      subst r8
      subst h8
      refine W.eq (g2 := F0 m 47 ls [.int (bt t n p)]) rfl ?_
      refine z_callS (n := 1) (As := [.int (bt t n p)]) (rest := []) ⟨hx, hb, hml, hown, hts⟩ (c_Scanner_isDigit l g h) (z_in k_268 rfl) (z_in k_8 rfl) (z_in k_575 rfl) (z_in k_267 rfl) (by decide +kernel) ⟨by first | exact Nat.le_of_ble_eq_true rfl | (dsimp only; omega) | omega, by first | exact Nat.le_of_ble_eq_true rfl | (dsimp only; omega) | omega⟩ hK hE hw hA rfl hl.1 (Nat.le_of_ble_eq_true rfl) d_RecordReader_readNumber_47 ⟨by first | exact Nat.le_of_ble_eq_true rfl | (dsimp only; omega) | omega, by first | exact Nat.le_of_ble_eq_true rfl | (dsimp only; omega) | omega⟩ rfl (fun r9 h9 H locs hp hw => ?_)
      obtain ⟨r8, h8⟩ := hp
      subst r8
      subst h8
      refine W.eq (g2 := F0 m 50 ls [.int (zb (isDig (bt t n p)))]) rfl ?_
      refine lv_if_ne (tgt := 83) hx hb d_RecordReader_readNumber_50 (by decide) (fun c_50 => ?_) (fun c_50 => ?_)
      · -- 50: True
        have c_50 : (isDig (bt t n p)) = true := zb_t c_50
        refine lv_aload_n hx hb d_RecordReader_readNumber_83 rfl (lv_at hl 2 rfl) ?_
        refine z_get hx hb hts (z_lay i_RecordReader) hown hK hw hrd rfl 0 (by decide) (z_in k_502 rfl) (fun _ h9 => h9) rfl d_RecordReader_readNumber_84 ?_
        refine z_callV (n := 0) (As := []) (rest := []) ⟨hx, hb, hml, hown, hts⟩ (c_Scanner_here (t := t) l g h hsc hb0 hn hlen hf (by omega)) (z_in k_238 rfl) (z_in k_8 rfl) (z_in k_570 rfl) (z_in k_236 rfl) (z_in k_237 rfl) (by decide +kernel) ⟨by first | exact Nat.le_of_ble_eq_true rfl | (dsimp only; omega) | omega, by first | exact Nat.le_of_ble_eq_true rfl | (dsimp only; omega) | omega⟩ hK hE hw hA rfl hsc rfl hl.1 (Nat.le_of_ble_eq_true rfl) d_RecordReader_readNumber_87 ⟨by first | exact Nat.le_of_ble_eq_true rfl | (dsimp only; omega) | omega, by first | exact Nat.le_of_ble_eq_true rfl | (dsimp only; omega) | omega⟩ rfl (fun r9 h9 H locs hp hw => ?_)
        obtain ⟨r8, h8⟩ := hp
        subst r8
        subst h8
        refine W.eq (g2 := F0 m 90 ls [.int (bt t n p)]) rfl ?_
        refine lv_bipush (v := 48) hx hb d_RecordReader_readNumber_90 (by decide) ?_
        refine lv_icmp_ne (tgt := 131) hx hb d_RecordReader_readNumber_92 (by decide) (fun c_92 => ?_) (fun c_92 => ?_)
        · -- 92: True
          refine lv_iload hx hb d_RecordReader_readNumber_131 (lv_at hl 0 rfl) ?_
          refine lv_if_eq (tgt := 140) hx hb d_RecordReader_readNumber_133 (by decide) (fun c_133 => ?_) (fun c_133 => ?_)
          · -- 133: True
            refine lv_lload_n hx hb d_RecordReader_readNumber_140 rfl (lv_at hl 3 rfl) ?_
            refine lv_lconst (v := 1) hx hb d_RecordReader_readNumber_141 (by decide) ?_
            refine lv_ladd hx hb d_RecordReader_readNumber_142 ?_
            refine lv_lstore (lv' := [(5, .long (lo + 1)), (4, .int 0), (3, .int (nI p)), (0, .ref rd), (1, .long lo)]) hx hb d_RecordReader_readNumber_143 hl (by decide) rfl (fun ls hl => ?_)
            refine lv_lconst (v := 0) hx hb d_RecordReader_readNumber_145 (by decide) ?_
            refine lv_lstore (lv' := [(7, .long 0), (5, .long (lo + 1)), (4, .int 0), (3, .int (nI p)), (0, .ref rd), (1, .long lo)]) hx hb d_RecordReader_readNumber_146 hl (by decide) rfl (fun ls hl => ?_)
            refine lv_iconst (v := 0) hx hb d_RecordReader_readNumber_148 (by decide) ?_
            refine lv_istore (lv' := [(9, .int 0), (7, .long 0), (5, .long (lo + 1)), (4, .int 0), (3, .int (nI p)), (0, .ref rd), (1, .long lo)]) hx hb d_RecordReader_readNumber_149 hl (by decide) rfl (fun ls hl => ?_)
            have loop_151 : ∀ (fuel : Nat) (k1 : Nat) (p2 : Nat) (b1 : Int64) (hL : z_H) (H : Heap) (locs : List Loc) (ls : Array Slot) (L151_rd : hL rd = some ((8, 0), .inr (9, [.ref sc, .ref q, .ref w, .ref tr, .long nu9]))) (L151_sc : hL sc = some ((6, 0), .inr (7, [.ref b, .int (nI n), .int (nI p2), .int fa, .int ws, .int wd]))) (L151_b : hL b = some ((3, 0), .inl (g.2.1 0, len, .inl f))) (kkL : z_K (fun y => y = 6 ∨ y = 8) h hL) (le1 : p2 ≤ n ∧ k1 ≤ 4000) (hR1 : dgL t n (lo + 1) p (4000 - k1) p2 b1 = dgL t n (lo + 1) p 4000 (p) 0), (4000 - k1) < fuel → z_S g A s.heap hL H locs → lv_has ls 11 [(0, .ref rd), (1, .long lo), (3, .int (nI p)), (4, .int 0), (5, .long (lo + 1)), (7, .long b1), (9, .int (nI k1))] → W pg l en { frames := 2, cells := 0, slots := 0, locals := 60 } s m [.ref rd, .long lo].toArray below meth cd H locs 0 0 (MQ below (z_Q g A (nuP (numR t n p lo) (fun nu => .inr (9, [.ref sc, .ref q, .ref w, .ref tr, .long nu])) h rd sc b n)) [.ref rd, .long lo].toArray s 0 0 A) (F0 m 151 ls []) := by
              intro fuel
              induction fuel with
              | zero => intro k1 p2 b1 hL H locs ls L151_rd L151_sc L151_b kkL le1 hR1 hm; exact absurd hm (Nat.not_lt_zero _)
              | succ fuel ih_151 =>
                intro k1 p2 b1 hL H locs ls L151_rd L151_sc L151_b kkL le1 hR1 hm hw hl
                refine lv_iload hx hb d_RecordReader_readNumber_151 (lv_at hl 6 rfl) ?_
                refine lv_sipush (v := 4000) hx hb d_RecordReader_readNumber_153 (by decide) ?_
                refine lv_icmp_ge (tgt := 235) hx hb d_RecordReader_readNumber_156 (by decide) (fun c_156 => ?_) (fun c_156 => ?_)
                · -- 156: True
                  have c_156 : 4000 ≤ k1 := (nI_leI (a := 4000) (b := k1) (by omega) (by omega)).mp c_156
                  refine lv_aload_n hx hb d_RecordReader_readNumber_235 rfl (lv_at hl 0 rfl) ?_
                  refine lv_iload hx hb d_RecordReader_readNumber_236 (lv_at hl 3 rfl) ?_
                  refine lv_if_eq (tgt := 246) hx hb d_RecordReader_readNumber_238 (by decide) (fun c_238 => ?_) (fun c_238 => ?_)
                  · -- 238: True
                    refine lv_lload hx hb d_RecordReader_readNumber_246 (lv_at hl 5 rfl) ?_
                    refine lv_lneg hx hb d_RecordReader_readNumber_248 ?_
                    refine z_putf (ty := .long) hx hb hts (z_lay i_RecordReader) t_RecordReader t_RecordReader_ok n_RecordReader hown hK hw L151_rd rfl 4 (by decide) (z_in k_506 rfl) (fun _ h9 => h9) rfl (by decide +kernel) rfl rfl (Nat.le_of_ble_eq_true rfl) d_RecordReader_readNumber_249 (fun H locs hw => ?_)
                    obtain ⟨h1, hh1⟩ : ∃ x9, z_put hL rd (8, 0) (.inr (9, [.ref sc, .ref q, .ref w, .ref tr, .long (-b1)])) = x9 := ⟨_, rfl⟩
                    have hw : z_S g A s.heap h1 H locs := by rw [← hh1]; exact hw
                    have f1_rd : h1 rd = some ((8, 0), .inr (9, [.ref sc, .ref q, .ref w, .ref tr, .long (-b1)])) := by rw [← hh1]; exact z_put_eq
                    have f1_sc : h1 sc = some ((6, 0), .inr (7, [.ref b, .int (nI n), .int (nI p2), .int fa, .int ws, .int wd])) := by rw [← hh1]; exact z_keep L151_rd L151_sc (z_t1 (by decide))
                    have f1_b : h1 b = some ((3, 0), .inl (g.2.1 0, len, .inl f)) := by rw [← hh1]; exact z_keep L151_rd L151_b (z_t1 (by decide))
                    have kk1 : z_K (fun y => y = 6 ∨ y = 8) h h1 := kkL.tr (by rw [← hh1]; exact z_K.put L151_rd (by first | decide | simp | omega))
                    refine lv_iconst (v := 1) hx hb d_RecordReader_readNumber_252 (by decide) ?_
                    have eD : dgL t n (lo + 1) p 4000 (p) 0 = .inr (b1, p2) := by rw [← hR1]; rw [show 4000 - k1 = 0 by omega]; rfl
                    have eW : numR t n p lo = .inr (-b1, p2) := by unfold numR; rw [if_neg c_17]; unfold numN; rw [if_pos c_50, if_neg (fun z => c_92 z.1), if_neg (by decide), eD]; simp
                    exact z_zret hx hb hr rfl hlocks hw (by rw [eW]; exact ⟨kk1, rfl, ⟨_, _, _, f1_sc⟩, f1_rd⟩) (by decide) (by decide) d_RecordReader_readNumber_253
                  · -- 238: False
                    exact absurd (by decide) c_238
                · -- 156: False
                  have c_156 : ¬ (4000 ≤ k1) := fun z => c_156 ((nI_leI (a := 4000) (b := k1) (by omega) (by omega)).mpr z)
                  refine lv_aload_n hx hb d_RecordReader_readNumber_159 rfl (lv_at hl 0 rfl) ?_
                  refine z_get hx hb hts (z_lay i_RecordReader) hown hK hw L151_rd rfl 0 (by decide) (z_in k_502 rfl) (fun _ h9 => h9) rfl d_RecordReader_readNumber_160 ?_
                  refine z_callV (n := 0) (As := []) (rest := []) ⟨hx, hb, hml, hown, hts⟩ (c_Scanner_here (t := t) l g hL L151_sc L151_b hn hlen hf (by omega)) (z_in k_238 rfl) (z_in k_8 rfl) (z_in k_570 rfl) (z_in k_236 rfl) (z_in k_237 rfl) (by decide +kernel) ⟨by first | exact Nat.le_of_ble_eq_true rfl | (dsimp only; omega) | omega, by first | exact Nat.le_of_ble_eq_true rfl | (dsimp only; omega) | omega⟩ hK hE hw hA rfl L151_sc rfl hl.1 (Nat.le_of_ble_eq_true rfl) d_RecordReader_readNumber_163 ⟨by first | exact Nat.le_of_ble_eq_true rfl | (dsimp only; omega) | omega, by first | exact Nat.le_of_ble_eq_true rfl | (dsimp only; omega) | omega⟩ rfl (fun r9 h9 H locs hp hw => ?_)
                  obtain ⟨r8, h8⟩ := hp
                  subst r8
                  subst h8
                  refine W.eq (g2 := F0 m 166 ls [.int (bt t n p2)]) rfl ?_
                  refine z_callS (n := 1) (As := [.int (bt t n p2)]) (rest := []) ⟨hx, hb, hml, hown, hts⟩ (c_Scanner_isDigit l g hL) (z_in k_268 rfl) (z_in k_8 rfl) (z_in k_575 rfl) (z_in k_267 rfl) (by decide +kernel) ⟨by first | exact Nat.le_of_ble_eq_true rfl | (dsimp only; omega) | omega, by first | exact Nat.le_of_ble_eq_true rfl | (dsimp only; omega) | omega⟩ hK hE hw hA rfl hl.1 (Nat.le_of_ble_eq_true rfl) d_RecordReader_readNumber_166 ⟨by first | exact Nat.le_of_ble_eq_true rfl | (dsimp only; omega) | omega, by first | exact Nat.le_of_ble_eq_true rfl | (dsimp only; omega) | omega⟩ rfl (fun r9 h9 H locs hp hw => ?_)
                  obtain ⟨r8, h8⟩ := hp
                  subst r8
                  subst h8
                  refine W.eq (g2 := F0 m 169 ls [.int (zb (isDig (bt t n p2)))]) rfl ?_
                  refine lv_if_eq (tgt := 235) hx hb d_RecordReader_readNumber_169 (by decide) (fun c_169 => ?_) (fun c_169 => ?_)
                  · -- 169: True
                    have c_169 : (isDig (bt t n p2)) = false := zb_f c_169
                    refine lv_aload_n hx hb d_RecordReader_readNumber_235 rfl (lv_at hl 0 rfl) ?_
                    refine lv_iload hx hb d_RecordReader_readNumber_236 (lv_at hl 3 rfl) ?_
                    refine lv_if_eq (tgt := 246) hx hb d_RecordReader_readNumber_238 (by decide) (fun c_238 => ?_) (fun c_238 => ?_)
                    · -- 238: True
                      refine lv_lload hx hb d_RecordReader_readNumber_246 (lv_at hl 5 rfl) ?_
                      refine lv_lneg hx hb d_RecordReader_readNumber_248 ?_
                      refine z_putf (ty := .long) hx hb hts (z_lay i_RecordReader) t_RecordReader t_RecordReader_ok n_RecordReader hown hK hw L151_rd rfl 4 (by decide) (z_in k_506 rfl) (fun _ h9 => h9) rfl (by decide +kernel) rfl rfl (Nat.le_of_ble_eq_true rfl) d_RecordReader_readNumber_249 (fun H locs hw => ?_)
                      obtain ⟨h2, hh2⟩ : ∃ x9, z_put hL rd (8, 0) (.inr (9, [.ref sc, .ref q, .ref w, .ref tr, .long (-b1)])) = x9 := ⟨_, rfl⟩
                      have hw : z_S g A s.heap h2 H locs := by rw [← hh2]; exact hw
                      have f2_rd : h2 rd = some ((8, 0), .inr (9, [.ref sc, .ref q, .ref w, .ref tr, .long (-b1)])) := by rw [← hh2]; exact z_put_eq
                      have f2_sc : h2 sc = some ((6, 0), .inr (7, [.ref b, .int (nI n), .int (nI p2), .int fa, .int ws, .int wd])) := by rw [← hh2]; exact z_keep L151_rd L151_sc (z_t1 (by decide))
                      have f2_b : h2 b = some ((3, 0), .inl (g.2.1 0, len, .inl f)) := by rw [← hh2]; exact z_keep L151_rd L151_b (z_t1 (by decide))
                      have kk2 : z_K (fun y => y = 6 ∨ y = 8) h h2 := kkL.tr (by rw [← hh2]; exact z_K.put L151_rd (by first | decide | simp | omega))
                      refine lv_iconst (v := 1) hx hb d_RecordReader_readNumber_252 (by decide) ?_
                      have eD : dgL t n (lo + 1) p 4000 (p) 0 = .inr (b1, p2) := by rw [← hR1]; rw [show 4000 - k1 = (4000 - (k1 + 1)) + 1 by omega]; simp only [dgL]; rw [if_neg (by rw [c_169]; decide)]
                      have eW : numR t n p lo = .inr (-b1, p2) := by unfold numR; rw [if_neg c_17]; unfold numN; rw [if_pos c_50, if_neg (fun z => c_92 z.1), if_neg (by decide), eD]; simp
                      exact z_zret hx hb hr rfl hlocks hw (by rw [eW]; exact ⟨kk2, rfl, ⟨_, _, _, f2_sc⟩, f2_rd⟩) (by decide) (by decide) d_RecordReader_readNumber_253
                    · -- 238: False
                      exact absurd (by decide) c_238
                  · -- 169: False
                    have c_169 : (isDig (bt t n p2)) = true := zb_t c_169
                    have pl9 : p2 < n := isDig_lt c_169
                    refine lv_aload_n hx hb d_RecordReader_readNumber_172 rfl (lv_at hl 0 rfl) ?_
                    refine z_get hx hb hts (z_lay i_RecordReader) hown hK hw L151_rd rfl 0 (by decide) (z_in k_502 rfl) (fun _ h9 => h9) rfl d_RecordReader_readNumber_173 ?_
                    refine z_callV (n := 0) (As := []) (rest := []) ⟨hx, hb, hml, hown, hts⟩ (c_Scanner_here (t := t) l g hL L151_sc L151_b hn hlen hf (by omega)) (z_in k_238 rfl) (z_in k_8 rfl) (z_in k_570 rfl) (z_in k_236 rfl) (z_in k_237 rfl) (by decide +kernel) ⟨by first | exact Nat.le_of_ble_eq_true rfl | (dsimp only; omega) | omega, by first | exact Nat.le_of_ble_eq_true rfl | (dsimp only; omega) | omega⟩ hK hE hw hA rfl L151_sc rfl hl.1 (Nat.le_of_ble_eq_true rfl) d_RecordReader_readNumber_176 ⟨by first | exact Nat.le_of_ble_eq_true rfl | (dsimp only; omega) | omega, by first | exact Nat.le_of_ble_eq_true rfl | (dsimp only; omega) | omega⟩ rfl (fun r9 h9 H locs hp hw => ?_)
                    obtain ⟨r8, h8⟩ := hp
                    subst r8
                    subst h8
                    refine W.eq (g2 := F0 m 179 ls [.int (bt t n p2)]) rfl ?_
                    refine lv_bipush (v := 48) hx hb d_RecordReader_readNumber_179 (by decide) ?_
                    refine lv_isub hx hb d_RecordReader_readNumber_181 ?_
                    refine lv_istore (lv' := [(10, .int ((bt t n p2) - 48)), (0, .ref rd), (1, .long lo), (3, .int (nI p)), (4, .int 0), (5, .long (lo + 1)), (7, .long b1), (9, .int (nI k1))]) hx hb d_RecordReader_readNumber_182 hl (by decide) rfl (fun ls hl => ?_)
                    refine lv_lload hx hb d_RecordReader_readNumber_184 (lv_at hl 6 rfl) ?_
                    refine lv_lload hx hb d_RecordReader_readNumber_186 (lv_at hl 5 rfl) ?_
                    refine lv_iload hx hb d_RecordReader_readNumber_188 (lv_at hl 0 rfl) ?_
                    refine lv_i2l hx hb d_RecordReader_readNumber_190 rfl ?_
                    refine lv_ladd hx hb d_RecordReader_readNumber_191 ?_
                    refine lv_ldc2 hx hb hown (hts _ (z_in k_577 rfl)) d_RecordReader_readNumber_192 ?_
                    refine lv_ldiv hx hb d_RecordReader_readNumber_195 (by decide) ?_
                    refine W.lcmp hx hb d_RecordReader_readNumber_196 ?_
                    refine lv_if_ge (tgt := 209) hx hb d_RecordReader_readNumber_197 (by decide) (fun c_197 => ?_) (fun c_197 => ?_)
                    · -- 197: True
                      have c_197 : (b1 : Int64) ≥ (((lo + 1) + (((bt t n p2) - 48 : Int32).toInt64)) / 10) := (lg_cmp_ge _ _).mp c_197
                      refine lv_lload hx hb d_RecordReader_readNumber_209 (lv_at hl 6 rfl) ?_
                      refine lv_ldc2 hx hb hown (hts _ (z_in k_577 rfl)) d_RecordReader_readNumber_211 ?_
                      refine lv_lmul hx hb d_RecordReader_readNumber_214 ?_
                      refine lv_iload hx hb d_RecordReader_readNumber_215 (lv_at hl 0 rfl) ?_
                      refine lv_i2l hx hb d_RecordReader_readNumber_217 rfl ?_
                      refine lv_lsub hx hb d_RecordReader_readNumber_218 ?_
                      refine lv_lstore (lv' := [(7, .long ((b1 * 10) - (((bt t n p2) - 48 : Int32).toInt64))), (10, .int ((bt t n p2) - 48)), (0, .ref rd), (1, .long lo), (3, .int (nI p)), (4, .int 0), (5, .long (lo + 1)), (9, .int (nI k1))]) hx hb d_RecordReader_readNumber_219 hl (by decide) rfl (fun ls hl => ?_)
                      refine lv_aload_n hx hb d_RecordReader_readNumber_221 rfl (lv_at hl 2 rfl) ?_
                      refine z_get hx hb hts (z_lay i_RecordReader) hown hK hw L151_rd rfl 0 (by decide) (z_in k_502 rfl) (fun _ h9 => h9) rfl d_RecordReader_readNumber_222 ?_
                      refine lv_iconst (v := 1) hx hb d_RecordReader_readNumber_225 (by decide) ?_
                      refine z_callV (n := 1) (As := [.int 1]) (rest := []) ⟨hx, hb, hml, hown, hts⟩ (c_Scanner_step (d := 1) l g hL L151_sc) (z_in k_574 rfl) (z_in k_8 rfl) (z_in k_571 rfl) (z_in k_572 rfl) (z_in k_573 rfl) (by decide +kernel) ⟨by first | exact Nat.le_of_ble_eq_true rfl | (dsimp only; omega) | omega, by first | exact Nat.le_of_ble_eq_true rfl | (dsimp only; omega) | omega⟩ hK hE hw hA rfl L151_sc rfl hl.1 (Nat.le_of_ble_eq_true rfl) d_RecordReader_readNumber_226 ⟨by first | exact Nat.le_of_ble_eq_true rfl | (dsimp only; omega) | omega, by first | exact Nat.le_of_ble_eq_true rfl | (dsimp only; omega) | omega⟩ rfl (fun r9 h9 H locs hp hw => ?_)
                      obtain ⟨r8, hh3⟩ := hp
                      subst r8
                      obtain ⟨h3, e8⟩ : ∃ x9, x9 = h9 := ⟨_, rfl⟩
                      subst e8
                      have f3_rd : h3 rd = some ((8, 0), .inr (9, [.ref sc, .ref q, .ref w, .ref tr, .long nu9])) := by rw [← hh3]; exact z_keep L151_sc L151_rd (z_t1 (by decide))
                      have f3_sc : h3 sc = some ((6, 0), .inr (7, [.ref b, .int (nI n), .int (nI (p2 + 1)), .int fa, .int ws, .int wd])) := by rw [← hh3]; exact z_put_eq
                      have f3_b : h3 b = some ((3, 0), .inl (g.2.1 0, len, .inl f)) := by rw [← hh3]; exact z_keep L151_sc L151_b (z_t1 (by decide))
                      have kk3 : z_K (fun y => y = 6 ∨ y = 8) h h3 := kkL.tr (by rw [← hh3]; exact z_K.put L151_sc (by first | decide | simp | omega))
                      refine W.eq (g2 := F0 m 229 ls []) rfl ?_
                      refine lv_iinc (v := nI (k1 + 1)) (lv' := [(9, .int (nI (k1 + 1))), (7, .long ((b1 * 10) - (((bt t n p2) - 48 : Int32).toInt64))), (10, .int ((bt t n p2) - 48)), (0, .ref rd), (1, .long lo), (3, .int (nI p)), (4, .int 0), (5, .long (lo + 1))]) hx hb d_RecordReader_readNumber_229 hl (k := 7) rfl (nI_1 k1) (by decide) rfl (fun ls hl => ?_)
                      refine lv_goto (tgt := 151) hx hb d_RecordReader_readNumber_232 (by decide) ?_
                      refine ih_151 (k1 + 1) (p2 + 1) (b1 * 10 - (bt t n p2 - 48).toInt64) h3 _ _ _ f3_rd f3_sc f3_b kk3 (⟨by omega, by omega⟩) (by rw [← hR1, show 4000 - k1 = (4000 - (k1 + 1)) + 1 by omega]; simp only [dgL]; rw [if_pos c_169, if_neg (by have z := c_197; exact fun y => absurd z (by simpa using y))]) ?_ hw (lv_sub hl [3, 4, 5, 6, 7, 1, 0] rfl)
                      omega
                    · -- 197: False
                      have c_197 : ¬ ((b1 : Int64) ≥ (((lo + 1) + (((bt t n p2) - 48 : Int32).toInt64)) / 10)) := fun z => c_197 ((lg_cmp_ge _ _).mpr z)
                      refine lv_aload_n hx hb d_RecordReader_readNumber_200 rfl (lv_at hl 1 rfl) ?_
                      refine z_get hx hb hts (z_lay i_RecordReader) hown hK hw L151_rd rfl 0 (by decide) (z_in k_502 rfl) (fun _ h9 => h9) rfl d_RecordReader_readNumber_201 ?_
                      refine lv_iload_n hx hb d_RecordReader_readNumber_204 rfl (lv_at hl 3 rfl) ?_
                      refine z_callV (n := 1) (As := [.int (nI p)]) (rest := []) ⟨hx, hb, hml, hown, hts⟩ (c_Scanner_fail l g hL L151_sc) (z_in k_262 rfl) (z_in k_8 rfl) (z_in k_564 rfl) (z_in k_260 rfl) (z_in k_261 rfl) (by decide +kernel) ⟨by first | exact Nat.le_of_ble_eq_true rfl | (dsimp only; omega) | omega, by first | exact Nat.le_of_ble_eq_true rfl | (dsimp only; omega) | omega⟩ hK hE hw hA rfl L151_sc rfl hl.1 (Nat.le_of_ble_eq_true rfl) d_RecordReader_readNumber_205 ⟨by first | exact Nat.le_of_ble_eq_true rfl | (dsimp only; omega) | omega, by first | exact Nat.le_of_ble_eq_true rfl | (dsimp only; omega) | omega⟩ rfl (fun r9 h9 H locs hp hw => ?_)
                      obtain ⟨r8, hh4⟩ := hp
                      subst r8
                      obtain ⟨h4, e8⟩ : ∃ x9, x9 = h9 := ⟨_, rfl⟩
                      subst e8
                      have f4_rd : h4 rd = some ((8, 0), .inr (9, [.ref sc, .ref q, .ref w, .ref tr, .long nu9])) := by rw [← hh4]; exact z_keep L151_sc L151_rd (z_t1 (by decide))
                      have f4_sc : h4 sc = some ((6, 0), .inr (7, [.ref b, .int (nI n), .int (nI p2), .int (nI p), .int ws, .int wd])) := by rw [← hh4]; exact z_put_eq
                      have f4_b : h4 b = some ((3, 0), .inl (g.2.1 0, len, .inl f)) := by rw [← hh4]; exact z_keep L151_sc L151_b (z_t1 (by decide))
                      have kk4 : z_K (fun y => y = 6 ∨ y = 8) h h4 := kkL.tr (by rw [← hh4]; exact z_K.put L151_sc (by first | decide | simp | omega))
                      refine W.eq (g2 := F0 m 208 ls [.int 0]) rfl ?_
                      have eD : dgL t n (lo + 1) p 4000 (p) 0 = .inl p := by rw [← hR1, show 4000 - k1 = (4000 - (k1 + 1)) + 1 by omega]; simp only [dgL]; rw [if_pos c_169, if_pos (by have z := c_197; simpa using z)]
                      have eW : numR t n p lo = .inl p := by unfold numR; rw [if_neg c_17]; unfold numN; rw [if_pos c_50, if_neg (fun z => c_92 z.1), if_neg (by decide), eD]
                      exact z_zret hx hb hr rfl hlocks hw (by rw [eW]; exact ⟨kk4, rfl, ⟨_, _, _, _, f4_sc, rfl⟩, _, f4_rd⟩) (by decide) (by decide) d_RecordReader_readNumber_208
            exact loop_151 (4000 - 0 + 1) 0 p 0 h _ _ _ hrd hsc hb0 kk0 (⟨by omega, by omega⟩) rfl (by omega) hw (lv_sub hl [5, 6, 4, 3, 2, 1, 0] rfl)
          · -- 133: False
            exact absurd (by decide) c_133
        · -- 92: False
          refine lv_iload hx hb d_RecordReader_readNumber_95 (lv_at hl 0 rfl) ?_
          refine lv_if_ne (tgt := 122) hx hb d_RecordReader_readNumber_97 (by decide) (fun c_97 => ?_) (fun c_97 => ?_)
          · -- 97: True
            exact absurd (by decide) c_97
          · -- 97: False
            refine lv_aload_n hx hb d_RecordReader_readNumber_100 rfl (lv_at hl 2 rfl) ?_
            refine z_get hx hb hts (z_lay i_RecordReader) hown hK hw hrd rfl 0 (by decide) (z_in k_502 rfl) (fun _ h9 => h9) rfl d_RecordReader_readNumber_101 ?_
            refine lv_aload_n hx hb d_RecordReader_readNumber_104 rfl (lv_at hl 2 rfl) ?_
            refine z_get hx hb hts (z_lay i_RecordReader) hown hK hw hrd rfl 0 (by decide) (z_in k_502 rfl) (fun _ h9 => h9) rfl d_RecordReader_readNumber_105 ?_
            refine z_getN hx hb hts (z_lay i_Scanner) hown hK hw hsc rfl 2 (by decide) hE.nest (z_inN k_192 rfl) (fun _ h9 => h9) rfl d_RecordReader_readNumber_108 ?_
            refine lv_iconst (v := 1) hx hb d_RecordReader_readNumber_111 (by decide) ?_
            refine lv_iadd hx hb d_RecordReader_readNumber_112 ?_
            refine z_topi (y := nI (p + 1)) (nI_add p 1) ?_
            refine z_callV (n := 1) (As := [.int (nI (p + 1))]) (rest := []) ⟨hx, hb, hml, hown, hts⟩ (c_Scanner_byteAt (t := t) l g h hsc hb0 hn hlen hf) (z_in k_287 rfl) (z_in k_8 rfl) (z_in k_576 rfl) (z_in k_285 rfl) (z_in k_286 rfl) (by decide +kernel) ⟨by first | exact Nat.le_of_ble_eq_true rfl | (dsimp only; omega) | omega, by first | exact Nat.le_of_ble_eq_true rfl | (dsimp only; omega) | omega⟩ hK hE hw hA rfl hsc rfl hl.1 (Nat.le_of_ble_eq_true rfl) d_RecordReader_readNumber_113 ⟨by first | exact Nat.le_of_ble_eq_true rfl | (dsimp only; omega) | omega, by first | exact Nat.le_of_ble_eq_true rfl | (dsimp only; omega) | omega⟩ rfl (fun r9 h9 H locs hp hw => ?_)
            rw [bz_n (by omega)] at hp
            obtain ⟨r8, h8⟩ := hp
            subst r8
            subst h8
            refine W.eq (g2 := F0 m 116 ls [.int (bt t n (p + 1))]) rfl ?_
            refine z_callS (n := 1) (As := [.int (bt t n (p + 1))]) (rest := []) ⟨hx, hb, hml, hown, hts⟩ (c_Scanner_isDigit l g h) (z_in k_268 rfl) (z_in k_8 rfl) (z_in k_575 rfl) (z_in k_267 rfl) (by decide +kernel) ⟨by first | exact Nat.le_of_ble_eq_true rfl | (dsimp only; omega) | omega, by first | exact Nat.le_of_ble_eq_true rfl | (dsimp only; omega) | omega⟩ hK hE hw hA rfl hl.1 (Nat.le_of_ble_eq_true rfl) d_RecordReader_readNumber_116 ⟨by first | exact Nat.le_of_ble_eq_true rfl | (dsimp only; omega) | omega, by first | exact Nat.le_of_ble_eq_true rfl | (dsimp only; omega) | omega⟩ rfl (fun r9 h9 H locs hp hw => ?_)
            obtain ⟨r8, h8⟩ := hp
            subst r8
            subst h8
            refine W.eq (g2 := F0 m 119 ls [.int (zb (isDig (bt t n (p + 1))))]) rfl ?_
            refine lv_if_eq (tgt := 131) hx hb d_RecordReader_readNumber_119 (by decide) (fun c_119 => ?_) (fun c_119 => ?_)
            · -- 119: True
              have c_119 : (isDig (bt t n (p + 1))) = false := zb_f c_119
              refine lv_iload hx hb d_RecordReader_readNumber_131 (lv_at hl 0 rfl) ?_
              refine lv_if_eq (tgt := 140) hx hb d_RecordReader_readNumber_133 (by decide) (fun c_133 => ?_) (fun c_133 => ?_)
              · -- 133: True
                refine lv_lload_n hx hb d_RecordReader_readNumber_140 rfl (lv_at hl 3 rfl) ?_
                refine lv_lconst (v := 1) hx hb d_RecordReader_readNumber_141 (by decide) ?_
                refine lv_ladd hx hb d_RecordReader_readNumber_142 ?_
                refine lv_lstore (lv' := [(5, .long (lo + 1)), (4, .int 0), (3, .int (nI p)), (0, .ref rd), (1, .long lo)]) hx hb d_RecordReader_readNumber_143 hl (by decide) rfl (fun ls hl => ?_)
                refine lv_lconst (v := 0) hx hb d_RecordReader_readNumber_145 (by decide) ?_
                refine lv_lstore (lv' := [(7, .long 0), (5, .long (lo + 1)), (4, .int 0), (3, .int (nI p)), (0, .ref rd), (1, .long lo)]) hx hb d_RecordReader_readNumber_146 hl (by decide) rfl (fun ls hl => ?_)
                refine lv_iconst (v := 0) hx hb d_RecordReader_readNumber_148 (by decide) ?_
                refine lv_istore (lv' := [(9, .int 0), (7, .long 0), (5, .long (lo + 1)), (4, .int 0), (3, .int (nI p)), (0, .ref rd), (1, .long lo)]) hx hb d_RecordReader_readNumber_149 hl (by decide) rfl (fun ls hl => ?_)
                have loop_151 : ∀ (fuel : Nat) (k1 : Nat) (p2 : Nat) (b1 : Int64) (hL : z_H) (H : Heap) (locs : List Loc) (ls : Array Slot) (L151_rd : hL rd = some ((8, 0), .inr (9, [.ref sc, .ref q, .ref w, .ref tr, .long nu9]))) (L151_sc : hL sc = some ((6, 0), .inr (7, [.ref b, .int (nI n), .int (nI p2), .int fa, .int ws, .int wd]))) (L151_b : hL b = some ((3, 0), .inl (g.2.1 0, len, .inl f))) (kkL : z_K (fun y => y = 6 ∨ y = 8) h hL) (le1 : p2 ≤ n ∧ k1 ≤ 4000) (hR1 : dgL t n (lo + 1) p (4000 - k1) p2 b1 = dgL t n (lo + 1) p 4000 (p) 0), (4000 - k1) < fuel → z_S g A s.heap hL H locs → lv_has ls 11 [(0, .ref rd), (1, .long lo), (3, .int (nI p)), (4, .int 0), (5, .long (lo + 1)), (7, .long b1), (9, .int (nI k1))] → W pg l en { frames := 2, cells := 0, slots := 0, locals := 60 } s m [.ref rd, .long lo].toArray below meth cd H locs 0 0 (MQ below (z_Q g A (nuP (numR t n p lo) (fun nu => .inr (9, [.ref sc, .ref q, .ref w, .ref tr, .long nu])) h rd sc b n)) [.ref rd, .long lo].toArray s 0 0 A) (F0 m 151 ls []) := by
                  intro fuel
                  induction fuel with
                  | zero => intro k1 p2 b1 hL H locs ls L151_rd L151_sc L151_b kkL le1 hR1 hm; exact absurd hm (Nat.not_lt_zero _)
                  | succ fuel ih_151 =>
                    intro k1 p2 b1 hL H locs ls L151_rd L151_sc L151_b kkL le1 hR1 hm hw hl
                    refine lv_iload hx hb d_RecordReader_readNumber_151 (lv_at hl 6 rfl) ?_
                    refine lv_sipush (v := 4000) hx hb d_RecordReader_readNumber_153 (by decide) ?_
                    refine lv_icmp_ge (tgt := 235) hx hb d_RecordReader_readNumber_156 (by decide) (fun c_156 => ?_) (fun c_156 => ?_)
                    · -- 156: True
                      have c_156 : 4000 ≤ k1 := (nI_leI (a := 4000) (b := k1) (by omega) (by omega)).mp c_156
                      refine lv_aload_n hx hb d_RecordReader_readNumber_235 rfl (lv_at hl 0 rfl) ?_
                      refine lv_iload hx hb d_RecordReader_readNumber_236 (lv_at hl 3 rfl) ?_
                      refine lv_if_eq (tgt := 246) hx hb d_RecordReader_readNumber_238 (by decide) (fun c_238 => ?_) (fun c_238 => ?_)
                      · -- 238: True
                        refine lv_lload hx hb d_RecordReader_readNumber_246 (lv_at hl 5 rfl) ?_
                        refine lv_lneg hx hb d_RecordReader_readNumber_248 ?_
                        refine z_putf (ty := .long) hx hb hts (z_lay i_RecordReader) t_RecordReader t_RecordReader_ok n_RecordReader hown hK hw L151_rd rfl 4 (by decide) (z_in k_506 rfl) (fun _ h9 => h9) rfl (by decide +kernel) rfl rfl (Nat.le_of_ble_eq_true rfl) d_RecordReader_readNumber_249 (fun H locs hw => ?_)
                        obtain ⟨h5, hh5⟩ : ∃ x9, z_put hL rd (8, 0) (.inr (9, [.ref sc, .ref q, .ref w, .ref tr, .long (-b1)])) = x9 := ⟨_, rfl⟩
                        have hw : z_S g A s.heap h5 H locs := by rw [← hh5]; exact hw
                        have f5_rd : h5 rd = some ((8, 0), .inr (9, [.ref sc, .ref q, .ref w, .ref tr, .long (-b1)])) := by rw [← hh5]; exact z_put_eq
                        have f5_sc : h5 sc = some ((6, 0), .inr (7, [.ref b, .int (nI n), .int (nI p2), .int fa, .int ws, .int wd])) := by rw [← hh5]; exact z_keep L151_rd L151_sc (z_t1 (by decide))
                        have f5_b : h5 b = some ((3, 0), .inl (g.2.1 0, len, .inl f)) := by rw [← hh5]; exact z_keep L151_rd L151_b (z_t1 (by decide))
                        have kk5 : z_K (fun y => y = 6 ∨ y = 8) h h5 := kkL.tr (by rw [← hh5]; exact z_K.put L151_rd (by first | decide | simp | omega))
                        refine lv_iconst (v := 1) hx hb d_RecordReader_readNumber_252 (by decide) ?_
                        have eD : dgL t n (lo + 1) p 4000 (p) 0 = .inr (b1, p2) := by rw [← hR1]; rw [show 4000 - k1 = 0 by omega]; rfl
                        have eW : numR t n p lo = .inr (-b1, p2) := by unfold numR; rw [if_neg c_17]; unfold numN; rw [if_pos c_50, if_neg (fun z => by rcases z.2 with y | y; cases y; rw [c_119] at y; cases y), if_neg (by decide), eD]; simp
                        exact z_zret hx hb hr rfl hlocks hw (by rw [eW]; exact ⟨kk5, rfl, ⟨_, _, _, f5_sc⟩, f5_rd⟩) (by decide) (by decide) d_RecordReader_readNumber_253
                      · -- 238: False
                        exact absurd (by decide) c_238
                    · -- 156: False
                      have c_156 : ¬ (4000 ≤ k1) := fun z => c_156 ((nI_leI (a := 4000) (b := k1) (by omega) (by omega)).mpr z)
                      refine lv_aload_n hx hb d_RecordReader_readNumber_159 rfl (lv_at hl 0 rfl) ?_
                      refine z_get hx hb hts (z_lay i_RecordReader) hown hK hw L151_rd rfl 0 (by decide) (z_in k_502 rfl) (fun _ h9 => h9) rfl d_RecordReader_readNumber_160 ?_
                      refine z_callV (n := 0) (As := []) (rest := []) ⟨hx, hb, hml, hown, hts⟩ (c_Scanner_here (t := t) l g hL L151_sc L151_b hn hlen hf (by omega)) (z_in k_238 rfl) (z_in k_8 rfl) (z_in k_570 rfl) (z_in k_236 rfl) (z_in k_237 rfl) (by decide +kernel) ⟨by first | exact Nat.le_of_ble_eq_true rfl | (dsimp only; omega) | omega, by first | exact Nat.le_of_ble_eq_true rfl | (dsimp only; omega) | omega⟩ hK hE hw hA rfl L151_sc rfl hl.1 (Nat.le_of_ble_eq_true rfl) d_RecordReader_readNumber_163 ⟨by first | exact Nat.le_of_ble_eq_true rfl | (dsimp only; omega) | omega, by first | exact Nat.le_of_ble_eq_true rfl | (dsimp only; omega) | omega⟩ rfl (fun r9 h9 H locs hp hw => ?_)
                      obtain ⟨r8, h8⟩ := hp
                      subst r8
                      subst h8
                      refine W.eq (g2 := F0 m 166 ls [.int (bt t n p2)]) rfl ?_
                      refine z_callS (n := 1) (As := [.int (bt t n p2)]) (rest := []) ⟨hx, hb, hml, hown, hts⟩ (c_Scanner_isDigit l g hL) (z_in k_268 rfl) (z_in k_8 rfl) (z_in k_575 rfl) (z_in k_267 rfl) (by decide +kernel) ⟨by first | exact Nat.le_of_ble_eq_true rfl | (dsimp only; omega) | omega, by first | exact Nat.le_of_ble_eq_true rfl | (dsimp only; omega) | omega⟩ hK hE hw hA rfl hl.1 (Nat.le_of_ble_eq_true rfl) d_RecordReader_readNumber_166 ⟨by first | exact Nat.le_of_ble_eq_true rfl | (dsimp only; omega) | omega, by first | exact Nat.le_of_ble_eq_true rfl | (dsimp only; omega) | omega⟩ rfl (fun r9 h9 H locs hp hw => ?_)
                      obtain ⟨r8, h8⟩ := hp
                      subst r8
                      subst h8
                      refine W.eq (g2 := F0 m 169 ls [.int (zb (isDig (bt t n p2)))]) rfl ?_
                      refine lv_if_eq (tgt := 235) hx hb d_RecordReader_readNumber_169 (by decide) (fun c_169 => ?_) (fun c_169 => ?_)
                      · -- 169: True
                        have c_169 : (isDig (bt t n p2)) = false := zb_f c_169
                        refine lv_aload_n hx hb d_RecordReader_readNumber_235 rfl (lv_at hl 0 rfl) ?_
                        refine lv_iload hx hb d_RecordReader_readNumber_236 (lv_at hl 3 rfl) ?_
                        refine lv_if_eq (tgt := 246) hx hb d_RecordReader_readNumber_238 (by decide) (fun c_238 => ?_) (fun c_238 => ?_)
                        · -- 238: True
                          refine lv_lload hx hb d_RecordReader_readNumber_246 (lv_at hl 5 rfl) ?_
                          refine lv_lneg hx hb d_RecordReader_readNumber_248 ?_
                          refine z_putf (ty := .long) hx hb hts (z_lay i_RecordReader) t_RecordReader t_RecordReader_ok n_RecordReader hown hK hw L151_rd rfl 4 (by decide) (z_in k_506 rfl) (fun _ h9 => h9) rfl (by decide +kernel) rfl rfl (Nat.le_of_ble_eq_true rfl) d_RecordReader_readNumber_249 (fun H locs hw => ?_)
                          obtain ⟨h6, hh6⟩ : ∃ x9, z_put hL rd (8, 0) (.inr (9, [.ref sc, .ref q, .ref w, .ref tr, .long (-b1)])) = x9 := ⟨_, rfl⟩
                          have hw : z_S g A s.heap h6 H locs := by rw [← hh6]; exact hw
                          have f6_rd : h6 rd = some ((8, 0), .inr (9, [.ref sc, .ref q, .ref w, .ref tr, .long (-b1)])) := by rw [← hh6]; exact z_put_eq
                          have f6_sc : h6 sc = some ((6, 0), .inr (7, [.ref b, .int (nI n), .int (nI p2), .int fa, .int ws, .int wd])) := by rw [← hh6]; exact z_keep L151_rd L151_sc (z_t1 (by decide))
                          have f6_b : h6 b = some ((3, 0), .inl (g.2.1 0, len, .inl f)) := by rw [← hh6]; exact z_keep L151_rd L151_b (z_t1 (by decide))
                          have kk6 : z_K (fun y => y = 6 ∨ y = 8) h h6 := kkL.tr (by rw [← hh6]; exact z_K.put L151_rd (by first | decide | simp | omega))
                          refine lv_iconst (v := 1) hx hb d_RecordReader_readNumber_252 (by decide) ?_
                          have eD : dgL t n (lo + 1) p 4000 (p) 0 = .inr (b1, p2) := by rw [← hR1]; rw [show 4000 - k1 = (4000 - (k1 + 1)) + 1 by omega]; simp only [dgL]; rw [if_neg (by rw [c_169]; decide)]
                          have eW : numR t n p lo = .inr (-b1, p2) := by unfold numR; rw [if_neg c_17]; unfold numN; rw [if_pos c_50, if_neg (fun z => by rcases z.2 with y | y; cases y; rw [c_119] at y; cases y), if_neg (by decide), eD]; simp
                          exact z_zret hx hb hr rfl hlocks hw (by rw [eW]; exact ⟨kk6, rfl, ⟨_, _, _, f6_sc⟩, f6_rd⟩) (by decide) (by decide) d_RecordReader_readNumber_253
                        · -- 238: False
                          exact absurd (by decide) c_238
                      · -- 169: False
                        have c_169 : (isDig (bt t n p2)) = true := zb_t c_169
                        have pl9 : p2 < n := isDig_lt c_169
                        refine lv_aload_n hx hb d_RecordReader_readNumber_172 rfl (lv_at hl 0 rfl) ?_
                        refine z_get hx hb hts (z_lay i_RecordReader) hown hK hw L151_rd rfl 0 (by decide) (z_in k_502 rfl) (fun _ h9 => h9) rfl d_RecordReader_readNumber_173 ?_
                        refine z_callV (n := 0) (As := []) (rest := []) ⟨hx, hb, hml, hown, hts⟩ (c_Scanner_here (t := t) l g hL L151_sc L151_b hn hlen hf (by omega)) (z_in k_238 rfl) (z_in k_8 rfl) (z_in k_570 rfl) (z_in k_236 rfl) (z_in k_237 rfl) (by decide +kernel) ⟨by first | exact Nat.le_of_ble_eq_true rfl | (dsimp only; omega) | omega, by first | exact Nat.le_of_ble_eq_true rfl | (dsimp only; omega) | omega⟩ hK hE hw hA rfl L151_sc rfl hl.1 (Nat.le_of_ble_eq_true rfl) d_RecordReader_readNumber_176 ⟨by first | exact Nat.le_of_ble_eq_true rfl | (dsimp only; omega) | omega, by first | exact Nat.le_of_ble_eq_true rfl | (dsimp only; omega) | omega⟩ rfl (fun r9 h9 H locs hp hw => ?_)
                        obtain ⟨r8, h8⟩ := hp
                        subst r8
                        subst h8
                        refine W.eq (g2 := F0 m 179 ls [.int (bt t n p2)]) rfl ?_
                        refine lv_bipush (v := 48) hx hb d_RecordReader_readNumber_179 (by decide) ?_
                        refine lv_isub hx hb d_RecordReader_readNumber_181 ?_
                        refine lv_istore (lv' := [(10, .int ((bt t n p2) - 48)), (0, .ref rd), (1, .long lo), (3, .int (nI p)), (4, .int 0), (5, .long (lo + 1)), (7, .long b1), (9, .int (nI k1))]) hx hb d_RecordReader_readNumber_182 hl (by decide) rfl (fun ls hl => ?_)
                        refine lv_lload hx hb d_RecordReader_readNumber_184 (lv_at hl 6 rfl) ?_
                        refine lv_lload hx hb d_RecordReader_readNumber_186 (lv_at hl 5 rfl) ?_
                        refine lv_iload hx hb d_RecordReader_readNumber_188 (lv_at hl 0 rfl) ?_
                        refine lv_i2l hx hb d_RecordReader_readNumber_190 rfl ?_
                        refine lv_ladd hx hb d_RecordReader_readNumber_191 ?_
                        refine lv_ldc2 hx hb hown (hts _ (z_in k_577 rfl)) d_RecordReader_readNumber_192 ?_
                        refine lv_ldiv hx hb d_RecordReader_readNumber_195 (by decide) ?_
                        refine W.lcmp hx hb d_RecordReader_readNumber_196 ?_
                        refine lv_if_ge (tgt := 209) hx hb d_RecordReader_readNumber_197 (by decide) (fun c_197 => ?_) (fun c_197 => ?_)
                        · -- 197: True
                          have c_197 : (b1 : Int64) ≥ (((lo + 1) + (((bt t n p2) - 48 : Int32).toInt64)) / 10) := (lg_cmp_ge _ _).mp c_197
                          refine lv_lload hx hb d_RecordReader_readNumber_209 (lv_at hl 6 rfl) ?_
                          refine lv_ldc2 hx hb hown (hts _ (z_in k_577 rfl)) d_RecordReader_readNumber_211 ?_
                          refine lv_lmul hx hb d_RecordReader_readNumber_214 ?_
                          refine lv_iload hx hb d_RecordReader_readNumber_215 (lv_at hl 0 rfl) ?_
                          refine lv_i2l hx hb d_RecordReader_readNumber_217 rfl ?_
                          refine lv_lsub hx hb d_RecordReader_readNumber_218 ?_
                          refine lv_lstore (lv' := [(7, .long ((b1 * 10) - (((bt t n p2) - 48 : Int32).toInt64))), (10, .int ((bt t n p2) - 48)), (0, .ref rd), (1, .long lo), (3, .int (nI p)), (4, .int 0), (5, .long (lo + 1)), (9, .int (nI k1))]) hx hb d_RecordReader_readNumber_219 hl (by decide) rfl (fun ls hl => ?_)
                          refine lv_aload_n hx hb d_RecordReader_readNumber_221 rfl (lv_at hl 2 rfl) ?_
                          refine z_get hx hb hts (z_lay i_RecordReader) hown hK hw L151_rd rfl 0 (by decide) (z_in k_502 rfl) (fun _ h9 => h9) rfl d_RecordReader_readNumber_222 ?_
                          refine lv_iconst (v := 1) hx hb d_RecordReader_readNumber_225 (by decide) ?_
                          refine z_callV (n := 1) (As := [.int 1]) (rest := []) ⟨hx, hb, hml, hown, hts⟩ (c_Scanner_step (d := 1) l g hL L151_sc) (z_in k_574 rfl) (z_in k_8 rfl) (z_in k_571 rfl) (z_in k_572 rfl) (z_in k_573 rfl) (by decide +kernel) ⟨by first | exact Nat.le_of_ble_eq_true rfl | (dsimp only; omega) | omega, by first | exact Nat.le_of_ble_eq_true rfl | (dsimp only; omega) | omega⟩ hK hE hw hA rfl L151_sc rfl hl.1 (Nat.le_of_ble_eq_true rfl) d_RecordReader_readNumber_226 ⟨by first | exact Nat.le_of_ble_eq_true rfl | (dsimp only; omega) | omega, by first | exact Nat.le_of_ble_eq_true rfl | (dsimp only; omega) | omega⟩ rfl (fun r9 h9 H locs hp hw => ?_)
                          obtain ⟨r8, hh7⟩ := hp
                          subst r8
                          obtain ⟨h7, e8⟩ : ∃ x9, x9 = h9 := ⟨_, rfl⟩
                          subst e8
                          have f7_rd : h7 rd = some ((8, 0), .inr (9, [.ref sc, .ref q, .ref w, .ref tr, .long nu9])) := by rw [← hh7]; exact z_keep L151_sc L151_rd (z_t1 (by decide))
                          have f7_sc : h7 sc = some ((6, 0), .inr (7, [.ref b, .int (nI n), .int (nI (p2 + 1)), .int fa, .int ws, .int wd])) := by rw [← hh7]; exact z_put_eq
                          have f7_b : h7 b = some ((3, 0), .inl (g.2.1 0, len, .inl f)) := by rw [← hh7]; exact z_keep L151_sc L151_b (z_t1 (by decide))
                          have kk7 : z_K (fun y => y = 6 ∨ y = 8) h h7 := kkL.tr (by rw [← hh7]; exact z_K.put L151_sc (by first | decide | simp | omega))
                          refine W.eq (g2 := F0 m 229 ls []) rfl ?_
                          refine lv_iinc (v := nI (k1 + 1)) (lv' := [(9, .int (nI (k1 + 1))), (7, .long ((b1 * 10) - (((bt t n p2) - 48 : Int32).toInt64))), (10, .int ((bt t n p2) - 48)), (0, .ref rd), (1, .long lo), (3, .int (nI p)), (4, .int 0), (5, .long (lo + 1))]) hx hb d_RecordReader_readNumber_229 hl (k := 7) rfl (nI_1 k1) (by decide) rfl (fun ls hl => ?_)
                          refine lv_goto (tgt := 151) hx hb d_RecordReader_readNumber_232 (by decide) ?_
                          refine ih_151 (k1 + 1) (p2 + 1) (b1 * 10 - (bt t n p2 - 48).toInt64) h7 _ _ _ f7_rd f7_sc f7_b kk7 (⟨by omega, by omega⟩) (by rw [← hR1, show 4000 - k1 = (4000 - (k1 + 1)) + 1 by omega]; simp only [dgL]; rw [if_pos c_169, if_neg (by have z := c_197; exact fun y => absurd z (by simpa using y))]) ?_ hw (lv_sub hl [3, 4, 5, 6, 7, 1, 0] rfl)
                          omega
                        · -- 197: False
                          have c_197 : ¬ ((b1 : Int64) ≥ (((lo + 1) + (((bt t n p2) - 48 : Int32).toInt64)) / 10)) := fun z => c_197 ((lg_cmp_ge _ _).mpr z)
                          refine lv_aload_n hx hb d_RecordReader_readNumber_200 rfl (lv_at hl 1 rfl) ?_
                          refine z_get hx hb hts (z_lay i_RecordReader) hown hK hw L151_rd rfl 0 (by decide) (z_in k_502 rfl) (fun _ h9 => h9) rfl d_RecordReader_readNumber_201 ?_
                          refine lv_iload_n hx hb d_RecordReader_readNumber_204 rfl (lv_at hl 3 rfl) ?_
                          refine z_callV (n := 1) (As := [.int (nI p)]) (rest := []) ⟨hx, hb, hml, hown, hts⟩ (c_Scanner_fail l g hL L151_sc) (z_in k_262 rfl) (z_in k_8 rfl) (z_in k_564 rfl) (z_in k_260 rfl) (z_in k_261 rfl) (by decide +kernel) ⟨by first | exact Nat.le_of_ble_eq_true rfl | (dsimp only; omega) | omega, by first | exact Nat.le_of_ble_eq_true rfl | (dsimp only; omega) | omega⟩ hK hE hw hA rfl L151_sc rfl hl.1 (Nat.le_of_ble_eq_true rfl) d_RecordReader_readNumber_205 ⟨by first | exact Nat.le_of_ble_eq_true rfl | (dsimp only; omega) | omega, by first | exact Nat.le_of_ble_eq_true rfl | (dsimp only; omega) | omega⟩ rfl (fun r9 h9 H locs hp hw => ?_)
                          obtain ⟨r8, hh8⟩ := hp
                          subst r8
                          obtain ⟨h8, e8⟩ : ∃ x9, x9 = h9 := ⟨_, rfl⟩
                          subst e8
                          have f8_rd : h8 rd = some ((8, 0), .inr (9, [.ref sc, .ref q, .ref w, .ref tr, .long nu9])) := by rw [← hh8]; exact z_keep L151_sc L151_rd (z_t1 (by decide))
                          have f8_sc : h8 sc = some ((6, 0), .inr (7, [.ref b, .int (nI n), .int (nI p2), .int (nI p), .int ws, .int wd])) := by rw [← hh8]; exact z_put_eq
                          have f8_b : h8 b = some ((3, 0), .inl (g.2.1 0, len, .inl f)) := by rw [← hh8]; exact z_keep L151_sc L151_b (z_t1 (by decide))
                          have kk8 : z_K (fun y => y = 6 ∨ y = 8) h h8 := kkL.tr (by rw [← hh8]; exact z_K.put L151_sc (by first | decide | simp | omega))
                          refine W.eq (g2 := F0 m 208 ls [.int 0]) rfl ?_
                          have eD : dgL t n (lo + 1) p 4000 (p) 0 = .inl p := by rw [← hR1, show 4000 - k1 = (4000 - (k1 + 1)) + 1 by omega]; simp only [dgL]; rw [if_pos c_169, if_pos (by have z := c_197; simpa using z)]
                          have eW : numR t n p lo = .inl p := by unfold numR; rw [if_neg c_17]; unfold numN; rw [if_pos c_50, if_neg (fun z => by rcases z.2 with y | y; cases y; rw [c_119] at y; cases y), if_neg (by decide), eD]
                          exact z_zret hx hb hr rfl hlocks hw (by rw [eW]; exact ⟨kk8, rfl, ⟨_, _, _, _, f8_sc, rfl⟩, _, f8_rd⟩) (by decide) (by decide) d_RecordReader_readNumber_208
                exact loop_151 (4000 - 0 + 1) 0 p 0 h _ _ _ hrd hsc hb0 kk0 (⟨by omega, by omega⟩) rfl (by omega) hw (lv_sub hl [5, 6, 4, 3, 2, 1, 0] rfl)
              · -- 133: False
                exact absurd (by decide) c_133
            · -- 119: False
              have c_119 : (isDig (bt t n (p + 1))) = true := zb_t c_119
              refine lv_aload_n hx hb d_RecordReader_readNumber_122 rfl (lv_at hl 2 rfl) ?_
              refine z_get hx hb hts (z_lay i_RecordReader) hown hK hw hrd rfl 0 (by decide) (z_in k_502 rfl) (fun _ h9 => h9) rfl d_RecordReader_readNumber_123 ?_
              refine lv_iload_n hx hb d_RecordReader_readNumber_126 rfl (lv_at hl 1 rfl) ?_
              refine z_callV (n := 1) (As := [.int (nI p)]) (rest := []) ⟨hx, hb, hml, hown, hts⟩ (c_Scanner_fail l g h hsc) (z_in k_262 rfl) (z_in k_8 rfl) (z_in k_564 rfl) (z_in k_260 rfl) (z_in k_261 rfl) (by decide +kernel) ⟨by first | exact Nat.le_of_ble_eq_true rfl | (dsimp only; omega) | omega, by first | exact Nat.le_of_ble_eq_true rfl | (dsimp only; omega) | omega⟩ hK hE hw hA rfl hsc rfl hl.1 (Nat.le_of_ble_eq_true rfl) d_RecordReader_readNumber_127 ⟨by first | exact Nat.le_of_ble_eq_true rfl | (dsimp only; omega) | omega, by first | exact Nat.le_of_ble_eq_true rfl | (dsimp only; omega) | omega⟩ rfl (fun r9 h9 H locs hp hw => ?_)
              obtain ⟨r8, hh9⟩ := hp
              subst r8
              obtain ⟨h9, e8⟩ : ∃ x9, x9 = h9 := ⟨_, rfl⟩
              subst e8
              have f9_rd : h9 rd = some ((8, 0), .inr (9, [.ref sc, .ref q, .ref w, .ref tr, .long nu9])) := by rw [← hh9]; exact z_keep hsc hrd (z_t1 (by decide))
              have f9_sc : h9 sc = some ((6, 0), .inr (7, [.ref b, .int (nI n), .int (nI p), .int (nI p), .int ws, .int wd])) := by rw [← hh9]; exact z_put_eq
              have f9_b : h9 b = some ((3, 0), .inl (g.2.1 0, len, .inl f)) := by rw [← hh9]; exact z_keep hsc hb0 (z_t1 (by decide))
              have kk9 : z_K (fun y => y = 6 ∨ y = 8) h h9 := kk0.tr (by rw [← hh9]; exact z_K.put hsc (by first | decide | simp | omega))
              refine W.eq (g2 := F0 m 130 ls [.int 0]) rfl ?_
              have eW : numR t n p lo = .inl p := by unfold numR; rw [if_neg c_17]; unfold numN; rw [if_pos c_50, if_pos ⟨c_92, Or.inr c_119⟩]
              exact z_zret hx hb hr rfl hlocks hw (by rw [eW]; exact ⟨kk9, rfl, ⟨_, _, _, _, f9_sc, rfl⟩, _, f9_rd⟩) (by decide) (by decide) d_RecordReader_readNumber_130
      · -- 50: False
        have c_50 : (isDig (bt t n p)) = false := zb_f c_50
        refine lv_aload_n hx hb d_RecordReader_readNumber_53 rfl (lv_at hl 2 rfl) ?_
        refine z_get hx hb hts (z_lay i_RecordReader) hown hK hw hrd rfl 0 (by decide) (z_in k_502 rfl) (fun _ h9 => h9) rfl d_RecordReader_readNumber_54 ?_
        refine z_callV (n := 0) (As := []) (rest := []) ⟨hx, hb, hml, hown, hts⟩ (c_Scanner_here (t := t) l g h hsc hb0 hn hlen hf (by omega)) (z_in k_238 rfl) (z_in k_8 rfl) (z_in k_570 rfl) (z_in k_236 rfl) (z_in k_237 rfl) (by decide +kernel) ⟨by first | exact Nat.le_of_ble_eq_true rfl | (dsimp only; omega) | omega, by first | exact Nat.le_of_ble_eq_true rfl | (dsimp only; omega) | omega⟩ hK hE hw hA rfl hsc rfl hl.1 (Nat.le_of_ble_eq_true rfl) d_RecordReader_readNumber_57 ⟨by first | exact Nat.le_of_ble_eq_true rfl | (dsimp only; omega) | omega, by first | exact Nat.le_of_ble_eq_true rfl | (dsimp only; omega) | omega⟩ rfl (fun r9 h9 H locs hp hw => ?_)
        obtain ⟨r8, h8⟩ := hp
        subst r8
        subst h8
        refine W.eq (g2 := F0 m 60 ls [.int (bt t n p)]) rfl ?_
        refine lv_iconst (v := (-1)) hx hb d_RecordReader_readNumber_60 (by decide) ?_
        refine lv_icmp_ne (tgt := 74) hx hb d_RecordReader_readNumber_61 (by decide) (fun c_61 => ?_) (fun c_61 => ?_)
        · -- 61: True
          refine lv_aload_n hx hb d_RecordReader_readNumber_74 rfl (lv_at hl 2 rfl) ?_
          refine z_get hx hb hts (z_lay i_RecordReader) hown hK hw hrd rfl 0 (by decide) (z_in k_502 rfl) (fun _ h9 => h9) rfl d_RecordReader_readNumber_75 ?_
          refine lv_iload_n hx hb d_RecordReader_readNumber_78 rfl (lv_at hl 1 rfl) ?_
          refine z_callV (n := 1) (As := [.int (nI p)]) (rest := []) ⟨hx, hb, hml, hown, hts⟩ (c_Scanner_fail l g h hsc) (z_in k_262 rfl) (z_in k_8 rfl) (z_in k_564 rfl) (z_in k_260 rfl) (z_in k_261 rfl) (by decide +kernel) ⟨by first | exact Nat.le_of_ble_eq_true rfl | (dsimp only; omega) | omega, by first | exact Nat.le_of_ble_eq_true rfl | (dsimp only; omega) | omega⟩ hK hE hw hA rfl hsc rfl hl.1 (Nat.le_of_ble_eq_true rfl) d_RecordReader_readNumber_79 ⟨by first | exact Nat.le_of_ble_eq_true rfl | (dsimp only; omega) | omega, by first | exact Nat.le_of_ble_eq_true rfl | (dsimp only; omega) | omega⟩ rfl (fun r9 h9 H locs hp hw => ?_)
          obtain ⟨r8, hh10⟩ := hp
          subst r8
          obtain ⟨h10, e8⟩ : ∃ x9, x9 = h9 := ⟨_, rfl⟩
          subst e8
          have f10_rd : h10 rd = some ((8, 0), .inr (9, [.ref sc, .ref q, .ref w, .ref tr, .long nu9])) := by rw [← hh10]; exact z_keep hsc hrd (z_t1 (by decide))
          have f10_sc : h10 sc = some ((6, 0), .inr (7, [.ref b, .int (nI n), .int (nI p), .int (nI p), .int ws, .int wd])) := by rw [← hh10]; exact z_put_eq
          have f10_b : h10 b = some ((3, 0), .inl (g.2.1 0, len, .inl f)) := by rw [← hh10]; exact z_keep hsc hb0 (z_t1 (by decide))
          have kk10 : z_K (fun y => y = 6 ∨ y = 8) h h10 := kk0.tr (by rw [← hh10]; exact z_K.put hsc (by first | decide | simp | omega))
          refine W.eq (g2 := F0 m 82 ls [.int 0]) rfl ?_
          have eW : numR t n p lo = .inl (p) := by unfold numR; rw [if_neg c_17]; unfold numN; rw [if_neg (by rw [c_50]; decide), if_neg c_61]
          exact z_zret hx hb hr rfl hlocks hw (by rw [eW]; exact ⟨kk10, rfl, ⟨_, _, _, _, f10_sc, rfl⟩, _, f10_rd⟩) (by decide) (by decide) d_RecordReader_readNumber_82
        · -- 61: False
          refine lv_aload_n hx hb d_RecordReader_readNumber_64 rfl (lv_at hl 2 rfl) ?_
          refine z_get hx hb hts (z_lay i_RecordReader) hown hK hw hrd rfl 0 (by decide) (z_in k_502 rfl) (fun _ h9 => h9) rfl d_RecordReader_readNumber_65 ?_
          refine z_callV (n := 0) (As := []) (rest := []) ⟨hx, hb, hml, hown, hts⟩ (c_Scanner_failHere l g h hsc) (z_in k_258 rfl) (z_in k_8 rfl) (z_in k_522 rfl) (z_in k_256 rfl) (z_in k_257 rfl) (by decide +kernel) ⟨by first | exact Nat.le_of_ble_eq_true rfl | (dsimp only; omega) | omega, by first | exact Nat.le_of_ble_eq_true rfl | (dsimp only; omega) | omega⟩ hK hE hw hA rfl hsc rfl hl.1 (Nat.le_of_ble_eq_true rfl) d_RecordReader_readNumber_68 ⟨by first | exact Nat.le_of_ble_eq_true rfl | (dsimp only; omega) | omega, by first | exact Nat.le_of_ble_eq_true rfl | (dsimp only; omega) | omega⟩ rfl (fun r9 h9 H locs hp hw => ?_)
          obtain ⟨r8, hh11⟩ := hp
          subst r8
          obtain ⟨h11, e8⟩ : ∃ x9, x9 = h9 := ⟨_, rfl⟩
          subst e8
          have f11_rd : h11 rd = some ((8, 0), .inr (9, [.ref sc, .ref q, .ref w, .ref tr, .long nu9])) := by rw [← hh11]; exact z_keep hsc hrd (z_t1 (by decide))
          have f11_sc : h11 sc = some ((6, 0), .inr (7, [.ref b, .int (nI n), .int (nI p), .int (nI p), .int ws, .int wd])) := by rw [← hh11]; exact z_put_eq
          have f11_b : h11 b = some ((3, 0), .inl (g.2.1 0, len, .inl f)) := by rw [← hh11]; exact z_keep hsc hb0 (z_t1 (by decide))
          have kk11 : z_K (fun y => y = 6 ∨ y = 8) h h11 := kk0.tr (by rw [← hh11]; exact z_K.put hsc (by first | decide | simp | omega))
          refine W.eq (g2 := F0 m 71 ls [.int 0]) rfl ?_
          refine lv_goto (tgt := 82) hx hb d_RecordReader_readNumber_71 (by decide) ?_
          have eW : numR t n p lo = .inl (p) := by unfold numR; rw [if_neg c_17]; unfold numN; rw [if_neg (by rw [c_50]; decide), if_pos c_61]
          exact z_zret hx hb hr rfl hlocks hw (by rw [eW]; exact ⟨kk11, rfl, ⟨_, _, _, _, f11_sc, rfl⟩, _, f11_rd⟩) (by decide) (by decide) d_RecordReader_readNumber_82
    · -- 29: False
      exact absurd (by decide) c_29
  · -- 17: False
    refine lv_iconst (v := 1) hx hb d_RecordReader_readNumber_20 (by decide) ?_
    refine lv_goto (tgt := 25) hx hb d_RecordReader_readNumber_21 (by decide) ?_
    refine lv_istore (lv' := [(4, .int 1), (3, .int (nI p)), (0, .ref rd), (1, .long lo)]) hx hb d_RecordReader_readNumber_25 hl (by decide) rfl (fun ls hl => ?_)
    refine lv_iload hx hb d_RecordReader_readNumber_27 (lv_at hl 0 rfl) ?_
    refine lv_if_eq (tgt := 40) hx hb d_RecordReader_readNumber_29 (by decide) (fun c_29 => ?_) (fun c_29 => ?_)
    · -- 29: True
      exact absurd c_29 (by decide)
    · -- 29: False
      refine lv_aload_n hx hb d_RecordReader_readNumber_32 rfl (lv_at hl 2 rfl) ?_
      refine z_get hx hb hts (z_lay i_RecordReader) hown hK hw hrd rfl 0 (by decide) (z_in k_502 rfl) (fun _ h9 => h9) rfl d_RecordReader_readNumber_33 ?_
      refine lv_iconst (v := 1) hx hb d_RecordReader_readNumber_36 (by decide) ?_
      refine z_callV (n := 1) (As := [.int 1]) (rest := []) ⟨hx, hb, hml, hown, hts⟩ (c_Scanner_step (d := 1) l g h hsc) (z_in k_574 rfl) (z_in k_8 rfl) (z_in k_571 rfl) (z_in k_572 rfl) (z_in k_573 rfl) (by decide +kernel) ⟨by first | exact Nat.le_of_ble_eq_true rfl | (dsimp only; omega) | omega, by first | exact Nat.le_of_ble_eq_true rfl | (dsimp only; omega) | omega⟩ hK hE hw hA rfl hsc rfl hl.1 (Nat.le_of_ble_eq_true rfl) d_RecordReader_readNumber_37 ⟨by first | exact Nat.le_of_ble_eq_true rfl | (dsimp only; omega) | omega, by first | exact Nat.le_of_ble_eq_true rfl | (dsimp only; omega) | omega⟩ rfl (fun r9 h9 H locs hp hw => ?_)
      obtain ⟨r8, hh12⟩ := hp
      subst r8
      obtain ⟨h12, e8⟩ : ∃ x9, x9 = h9 := ⟨_, rfl⟩
      subst e8
      have f12_rd : h12 rd = some ((8, 0), .inr (9, [.ref sc, .ref q, .ref w, .ref tr, .long nu9])) := by rw [← hh12]; exact z_keep hsc hrd (z_t1 (by decide))
      have f12_sc : h12 sc = some ((6, 0), .inr (7, [.ref b, .int (nI n), .int (nI (p + 1)), .int fa, .int ws, .int wd])) := by rw [← hh12]; exact z_put_eq
      have f12_b : h12 b = some ((3, 0), .inl (g.2.1 0, len, .inl f)) := by rw [← hh12]; exact z_keep hsc hb0 (z_t1 (by decide))
      have kk12 : z_K (fun y => y = 6 ∨ y = 8) h h12 := kk0.tr (by rw [← hh12]; exact z_K.put hsc (by first | decide | simp | omega))
      refine W.eq (g2 := F0 m 40 ls []) rfl ?_
      have pl8 : p < n := bt_lt (c := 45) c_17
      refine lv_aload_n hx hb d_RecordReader_readNumber_40 rfl (lv_at hl 2 rfl) ?_
      refine z_get hx hb hts (z_lay i_RecordReader) hown hK hw f12_rd rfl 0 (by decide) (z_in k_502 rfl) (fun _ h9 => h9) rfl d_RecordReader_readNumber_41 ?_
      refine z_callV (n := 0) (As := []) (rest := []) ⟨hx, hb, hml, hown, hts⟩ (c_Scanner_here (t := t) l g h12 f12_sc f12_b hn hlen hf (by omega)) (z_in k_238 rfl) (z_in k_8 rfl) (z_in k_570 rfl) (z_in k_236 rfl) (z_in k_237 rfl) (by decide +kernel) ⟨by first | exact Nat.le_of_ble_eq_true rfl | (dsimp only; omega) | omega, by first | exact Nat.le_of_ble_eq_true rfl | (dsimp only; omega) | omega⟩ hK hE hw hA rfl f12_sc rfl hl.1 (Nat.le_of_ble_eq_true rfl) d_RecordReader_readNumber_44 ⟨by first | exact Nat.le_of_ble_eq_true rfl | (dsimp only; omega) | omega, by first | exact Nat.le_of_ble_eq_true rfl | (dsimp only; omega) | omega⟩ rfl (fun r9 h9 H locs hp hw => ?_)
      obtain ⟨r8, h8⟩ := hp
      subst r8
      subst h8
      refine W.eq (g2 := F0 m 47 ls [.int (bt t n (p + 1))]) rfl ?_
      refine z_callS (n := 1) (As := [.int (bt t n (p + 1))]) (rest := []) ⟨hx, hb, hml, hown, hts⟩ (c_Scanner_isDigit l g h12) (z_in k_268 rfl) (z_in k_8 rfl) (z_in k_575 rfl) (z_in k_267 rfl) (by decide +kernel) ⟨by first | exact Nat.le_of_ble_eq_true rfl | (dsimp only; omega) | omega, by first | exact Nat.le_of_ble_eq_true rfl | (dsimp only; omega) | omega⟩ hK hE hw hA rfl hl.1 (Nat.le_of_ble_eq_true rfl) d_RecordReader_readNumber_47 ⟨by first | exact Nat.le_of_ble_eq_true rfl | (dsimp only; omega) | omega, by first | exact Nat.le_of_ble_eq_true rfl | (dsimp only; omega) | omega⟩ rfl (fun r9 h9 H locs hp hw => ?_)
      obtain ⟨r8, h8⟩ := hp
      subst r8
      subst h8
      refine W.eq (g2 := F0 m 50 ls [.int (zb (isDig (bt t n (p + 1))))]) rfl ?_
      refine lv_if_ne (tgt := 83) hx hb d_RecordReader_readNumber_50 (by decide) (fun c_50 => ?_) (fun c_50 => ?_)
      · -- 50: True
        have c_50 : (isDig (bt t n (p + 1))) = true := zb_t c_50
        refine lv_aload_n hx hb d_RecordReader_readNumber_83 rfl (lv_at hl 2 rfl) ?_
        refine z_get hx hb hts (z_lay i_RecordReader) hown hK hw f12_rd rfl 0 (by decide) (z_in k_502 rfl) (fun _ h9 => h9) rfl d_RecordReader_readNumber_84 ?_
        refine z_callV (n := 0) (As := []) (rest := []) ⟨hx, hb, hml, hown, hts⟩ (c_Scanner_here (t := t) l g h12 f12_sc f12_b hn hlen hf (by omega)) (z_in k_238 rfl) (z_in k_8 rfl) (z_in k_570 rfl) (z_in k_236 rfl) (z_in k_237 rfl) (by decide +kernel) ⟨by first | exact Nat.le_of_ble_eq_true rfl | (dsimp only; omega) | omega, by first | exact Nat.le_of_ble_eq_true rfl | (dsimp only; omega) | omega⟩ hK hE hw hA rfl f12_sc rfl hl.1 (Nat.le_of_ble_eq_true rfl) d_RecordReader_readNumber_87 ⟨by first | exact Nat.le_of_ble_eq_true rfl | (dsimp only; omega) | omega, by first | exact Nat.le_of_ble_eq_true rfl | (dsimp only; omega) | omega⟩ rfl (fun r9 h9 H locs hp hw => ?_)
        obtain ⟨r8, h8⟩ := hp
        subst r8
        subst h8
        refine W.eq (g2 := F0 m 90 ls [.int (bt t n (p + 1))]) rfl ?_
        refine lv_bipush (v := 48) hx hb d_RecordReader_readNumber_90 (by decide) ?_
        refine lv_icmp_ne (tgt := 131) hx hb d_RecordReader_readNumber_92 (by decide) (fun c_92 => ?_) (fun c_92 => ?_)
        · -- 92: True
          refine lv_iload hx hb d_RecordReader_readNumber_131 (lv_at hl 0 rfl) ?_
          refine lv_if_eq (tgt := 140) hx hb d_RecordReader_readNumber_133 (by decide) (fun c_133 => ?_) (fun c_133 => ?_)
          · -- 133: True
            exact absurd c_133 (by decide)
          · -- 133: False
            refine lv_lload_n hx hb d_RecordReader_readNumber_136 rfl (lv_at hl 3 rfl) ?_
            refine lv_goto (tgt := 143) hx hb d_RecordReader_readNumber_137 (by decide) ?_
            refine lv_lstore (lv' := [(5, .long lo), (4, .int 1), (3, .int (nI p)), (0, .ref rd), (1, .long lo)]) hx hb d_RecordReader_readNumber_143 hl (by decide) rfl (fun ls hl => ?_)
            refine lv_lconst (v := 0) hx hb d_RecordReader_readNumber_145 (by decide) ?_
            refine lv_lstore (lv' := [(7, .long 0), (5, .long lo), (4, .int 1), (3, .int (nI p)), (0, .ref rd), (1, .long lo)]) hx hb d_RecordReader_readNumber_146 hl (by decide) rfl (fun ls hl => ?_)
            refine lv_iconst (v := 0) hx hb d_RecordReader_readNumber_148 (by decide) ?_
            refine lv_istore (lv' := [(9, .int 0), (7, .long 0), (5, .long lo), (4, .int 1), (3, .int (nI p)), (0, .ref rd), (1, .long lo)]) hx hb d_RecordReader_readNumber_149 hl (by decide) rfl (fun ls hl => ?_)
            have loop_151 : ∀ (fuel : Nat) (k1 : Nat) (p2 : Nat) (b1 : Int64) (hL : z_H) (H : Heap) (locs : List Loc) (ls : Array Slot) (L151_rd : hL rd = some ((8, 0), .inr (9, [.ref sc, .ref q, .ref w, .ref tr, .long nu9]))) (L151_sc : hL sc = some ((6, 0), .inr (7, [.ref b, .int (nI n), .int (nI p2), .int fa, .int ws, .int wd]))) (L151_b : hL b = some ((3, 0), .inl (g.2.1 0, len, .inl f))) (kkL : z_K (fun y => y = 6 ∨ y = 8) h hL) (le1 : p2 ≤ n ∧ k1 ≤ 4000) (hR1 : dgL t n (lo) p (4000 - k1) p2 b1 = dgL t n (lo) p 4000 (p + 1) 0), (4000 - k1) < fuel → z_S g A s.heap hL H locs → lv_has ls 11 [(0, .ref rd), (1, .long lo), (3, .int (nI p)), (4, .int 1), (5, .long lo), (7, .long b1), (9, .int (nI k1))] → W pg l en { frames := 2, cells := 0, slots := 0, locals := 60 } s m [.ref rd, .long lo].toArray below meth cd H locs 0 0 (MQ below (z_Q g A (nuP (numR t n p lo) (fun nu => .inr (9, [.ref sc, .ref q, .ref w, .ref tr, .long nu])) h rd sc b n)) [.ref rd, .long lo].toArray s 0 0 A) (F0 m 151 ls []) := by
              intro fuel
              induction fuel with
              | zero => intro k1 p2 b1 hL H locs ls L151_rd L151_sc L151_b kkL le1 hR1 hm; exact absurd hm (Nat.not_lt_zero _)
              | succ fuel ih_151 =>
                intro k1 p2 b1 hL H locs ls L151_rd L151_sc L151_b kkL le1 hR1 hm hw hl
                refine lv_iload hx hb d_RecordReader_readNumber_151 (lv_at hl 6 rfl) ?_
                refine lv_sipush (v := 4000) hx hb d_RecordReader_readNumber_153 (by decide) ?_
                refine lv_icmp_ge (tgt := 235) hx hb d_RecordReader_readNumber_156 (by decide) (fun c_156 => ?_) (fun c_156 => ?_)
                · -- 156: True
                  have c_156 : 4000 ≤ k1 := (nI_leI (a := 4000) (b := k1) (by omega) (by omega)).mp c_156
                  refine lv_aload_n hx hb d_RecordReader_readNumber_235 rfl (lv_at hl 0 rfl) ?_
                  refine lv_iload hx hb d_RecordReader_readNumber_236 (lv_at hl 3 rfl) ?_
                  refine lv_if_eq (tgt := 246) hx hb d_RecordReader_readNumber_238 (by decide) (fun c_238 => ?_) (fun c_238 => ?_)
                  · -- 238: True
                    exact absurd c_238 (by decide)
                  · -- 238: False
                    refine lv_lload hx hb d_RecordReader_readNumber_241 (lv_at hl 5 rfl) ?_
                    refine lv_goto (tgt := 249) hx hb d_RecordReader_readNumber_243 (by decide) ?_
                    refine z_putf (ty := .long) hx hb hts (z_lay i_RecordReader) t_RecordReader t_RecordReader_ok n_RecordReader hown hK hw L151_rd rfl 4 (by decide) (z_in k_506 rfl) (fun _ h9 => h9) rfl (by decide +kernel) rfl rfl (Nat.le_of_ble_eq_true rfl) d_RecordReader_readNumber_249 (fun H locs hw => ?_)
                    obtain ⟨h13, hh13⟩ : ∃ x9, z_put hL rd (8, 0) (.inr (9, [.ref sc, .ref q, .ref w, .ref tr, .long b1])) = x9 := ⟨_, rfl⟩
                    have hw : z_S g A s.heap h13 H locs := by rw [← hh13]; exact hw
                    have f13_rd : h13 rd = some ((8, 0), .inr (9, [.ref sc, .ref q, .ref w, .ref tr, .long b1])) := by rw [← hh13]; exact z_put_eq
                    have f13_sc : h13 sc = some ((6, 0), .inr (7, [.ref b, .int (nI n), .int (nI p2), .int fa, .int ws, .int wd])) := by rw [← hh13]; exact z_keep L151_rd L151_sc (z_t1 (by decide))
                    have f13_b : h13 b = some ((3, 0), .inl (g.2.1 0, len, .inl f)) := by rw [← hh13]; exact z_keep L151_rd L151_b (z_t1 (by decide))
                    have kk13 : z_K (fun y => y = 6 ∨ y = 8) h h13 := kkL.tr (by rw [← hh13]; exact z_K.put L151_rd (by first | decide | simp | omega))
                    refine lv_iconst (v := 1) hx hb d_RecordReader_readNumber_252 (by decide) ?_
                    have eD : dgL t n (lo) p 4000 (p + 1) 0 = .inr (b1, p2) := by rw [← hR1]; rw [show 4000 - k1 = 0 by omega]; rfl
                    have eW : numR t n p lo = .inr (b1, p2) := by unfold numR; rw [if_pos c_17]; unfold numN; rw [if_pos c_50, if_neg (fun z => c_92 z.1), if_pos rfl, eD]; simp
                    exact z_zret hx hb hr rfl hlocks hw (by rw [eW]; exact ⟨kk13, rfl, ⟨_, _, _, f13_sc⟩, f13_rd⟩) (by decide) (by decide) d_RecordReader_readNumber_253
                · -- 156: False
                  have c_156 : ¬ (4000 ≤ k1) := fun z => c_156 ((nI_leI (a := 4000) (b := k1) (by omega) (by omega)).mpr z)
                  refine lv_aload_n hx hb d_RecordReader_readNumber_159 rfl (lv_at hl 0 rfl) ?_
                  refine z_get hx hb hts (z_lay i_RecordReader) hown hK hw L151_rd rfl 0 (by decide) (z_in k_502 rfl) (fun _ h9 => h9) rfl d_RecordReader_readNumber_160 ?_
                  refine z_callV (n := 0) (As := []) (rest := []) ⟨hx, hb, hml, hown, hts⟩ (c_Scanner_here (t := t) l g hL L151_sc L151_b hn hlen hf (by omega)) (z_in k_238 rfl) (z_in k_8 rfl) (z_in k_570 rfl) (z_in k_236 rfl) (z_in k_237 rfl) (by decide +kernel) ⟨by first | exact Nat.le_of_ble_eq_true rfl | (dsimp only; omega) | omega, by first | exact Nat.le_of_ble_eq_true rfl | (dsimp only; omega) | omega⟩ hK hE hw hA rfl L151_sc rfl hl.1 (Nat.le_of_ble_eq_true rfl) d_RecordReader_readNumber_163 ⟨by first | exact Nat.le_of_ble_eq_true rfl | (dsimp only; omega) | omega, by first | exact Nat.le_of_ble_eq_true rfl | (dsimp only; omega) | omega⟩ rfl (fun r9 h9 H locs hp hw => ?_)
                  obtain ⟨r8, h8⟩ := hp
                  subst r8
                  subst h8
                  refine W.eq (g2 := F0 m 166 ls [.int (bt t n p2)]) rfl ?_
                  refine z_callS (n := 1) (As := [.int (bt t n p2)]) (rest := []) ⟨hx, hb, hml, hown, hts⟩ (c_Scanner_isDigit l g hL) (z_in k_268 rfl) (z_in k_8 rfl) (z_in k_575 rfl) (z_in k_267 rfl) (by decide +kernel) ⟨by first | exact Nat.le_of_ble_eq_true rfl | (dsimp only; omega) | omega, by first | exact Nat.le_of_ble_eq_true rfl | (dsimp only; omega) | omega⟩ hK hE hw hA rfl hl.1 (Nat.le_of_ble_eq_true rfl) d_RecordReader_readNumber_166 ⟨by first | exact Nat.le_of_ble_eq_true rfl | (dsimp only; omega) | omega, by first | exact Nat.le_of_ble_eq_true rfl | (dsimp only; omega) | omega⟩ rfl (fun r9 h9 H locs hp hw => ?_)
                  obtain ⟨r8, h8⟩ := hp
                  subst r8
                  subst h8
                  refine W.eq (g2 := F0 m 169 ls [.int (zb (isDig (bt t n p2)))]) rfl ?_
                  refine lv_if_eq (tgt := 235) hx hb d_RecordReader_readNumber_169 (by decide) (fun c_169 => ?_) (fun c_169 => ?_)
                  · -- 169: True
                    have c_169 : (isDig (bt t n p2)) = false := zb_f c_169
                    refine lv_aload_n hx hb d_RecordReader_readNumber_235 rfl (lv_at hl 0 rfl) ?_
                    refine lv_iload hx hb d_RecordReader_readNumber_236 (lv_at hl 3 rfl) ?_
                    refine lv_if_eq (tgt := 246) hx hb d_RecordReader_readNumber_238 (by decide) (fun c_238 => ?_) (fun c_238 => ?_)
                    · -- 238: True
                      exact absurd c_238 (by decide)
                    · -- 238: False
                      refine lv_lload hx hb d_RecordReader_readNumber_241 (lv_at hl 5 rfl) ?_
                      refine lv_goto (tgt := 249) hx hb d_RecordReader_readNumber_243 (by decide) ?_
                      refine z_putf (ty := .long) hx hb hts (z_lay i_RecordReader) t_RecordReader t_RecordReader_ok n_RecordReader hown hK hw L151_rd rfl 4 (by decide) (z_in k_506 rfl) (fun _ h9 => h9) rfl (by decide +kernel) rfl rfl (Nat.le_of_ble_eq_true rfl) d_RecordReader_readNumber_249 (fun H locs hw => ?_)
                      obtain ⟨h14, hh14⟩ : ∃ x9, z_put hL rd (8, 0) (.inr (9, [.ref sc, .ref q, .ref w, .ref tr, .long b1])) = x9 := ⟨_, rfl⟩
                      have hw : z_S g A s.heap h14 H locs := by rw [← hh14]; exact hw
                      have f14_rd : h14 rd = some ((8, 0), .inr (9, [.ref sc, .ref q, .ref w, .ref tr, .long b1])) := by rw [← hh14]; exact z_put_eq
                      have f14_sc : h14 sc = some ((6, 0), .inr (7, [.ref b, .int (nI n), .int (nI p2), .int fa, .int ws, .int wd])) := by rw [← hh14]; exact z_keep L151_rd L151_sc (z_t1 (by decide))
                      have f14_b : h14 b = some ((3, 0), .inl (g.2.1 0, len, .inl f)) := by rw [← hh14]; exact z_keep L151_rd L151_b (z_t1 (by decide))
                      have kk14 : z_K (fun y => y = 6 ∨ y = 8) h h14 := kkL.tr (by rw [← hh14]; exact z_K.put L151_rd (by first | decide | simp | omega))
                      refine lv_iconst (v := 1) hx hb d_RecordReader_readNumber_252 (by decide) ?_
                      have eD : dgL t n (lo) p 4000 (p + 1) 0 = .inr (b1, p2) := by rw [← hR1]; rw [show 4000 - k1 = (4000 - (k1 + 1)) + 1 by omega]; simp only [dgL]; rw [if_neg (by rw [c_169]; decide)]
                      have eW : numR t n p lo = .inr (b1, p2) := by unfold numR; rw [if_pos c_17]; unfold numN; rw [if_pos c_50, if_neg (fun z => c_92 z.1), if_pos rfl, eD]; simp
                      exact z_zret hx hb hr rfl hlocks hw (by rw [eW]; exact ⟨kk14, rfl, ⟨_, _, _, f14_sc⟩, f14_rd⟩) (by decide) (by decide) d_RecordReader_readNumber_253
                  · -- 169: False
                    have c_169 : (isDig (bt t n p2)) = true := zb_t c_169
                    have pl9 : p2 < n := isDig_lt c_169
                    refine lv_aload_n hx hb d_RecordReader_readNumber_172 rfl (lv_at hl 0 rfl) ?_
                    refine z_get hx hb hts (z_lay i_RecordReader) hown hK hw L151_rd rfl 0 (by decide) (z_in k_502 rfl) (fun _ h9 => h9) rfl d_RecordReader_readNumber_173 ?_
                    refine z_callV (n := 0) (As := []) (rest := []) ⟨hx, hb, hml, hown, hts⟩ (c_Scanner_here (t := t) l g hL L151_sc L151_b hn hlen hf (by omega)) (z_in k_238 rfl) (z_in k_8 rfl) (z_in k_570 rfl) (z_in k_236 rfl) (z_in k_237 rfl) (by decide +kernel) ⟨by first | exact Nat.le_of_ble_eq_true rfl | (dsimp only; omega) | omega, by first | exact Nat.le_of_ble_eq_true rfl | (dsimp only; omega) | omega⟩ hK hE hw hA rfl L151_sc rfl hl.1 (Nat.le_of_ble_eq_true rfl) d_RecordReader_readNumber_176 ⟨by first | exact Nat.le_of_ble_eq_true rfl | (dsimp only; omega) | omega, by first | exact Nat.le_of_ble_eq_true rfl | (dsimp only; omega) | omega⟩ rfl (fun r9 h9 H locs hp hw => ?_)
                    obtain ⟨r8, h8⟩ := hp
                    subst r8
                    subst h8
                    refine W.eq (g2 := F0 m 179 ls [.int (bt t n p2)]) rfl ?_
                    refine lv_bipush (v := 48) hx hb d_RecordReader_readNumber_179 (by decide) ?_
                    refine lv_isub hx hb d_RecordReader_readNumber_181 ?_
                    refine lv_istore (lv' := [(10, .int ((bt t n p2) - 48)), (0, .ref rd), (1, .long lo), (3, .int (nI p)), (4, .int 1), (5, .long lo), (7, .long b1), (9, .int (nI k1))]) hx hb d_RecordReader_readNumber_182 hl (by decide) rfl (fun ls hl => ?_)
                    refine lv_lload hx hb d_RecordReader_readNumber_184 (lv_at hl 6 rfl) ?_
                    refine lv_lload hx hb d_RecordReader_readNumber_186 (lv_at hl 5 rfl) ?_
                    refine lv_iload hx hb d_RecordReader_readNumber_188 (lv_at hl 0 rfl) ?_
                    refine lv_i2l hx hb d_RecordReader_readNumber_190 rfl ?_
                    refine lv_ladd hx hb d_RecordReader_readNumber_191 ?_
                    refine lv_ldc2 hx hb hown (hts _ (z_in k_577 rfl)) d_RecordReader_readNumber_192 ?_
                    refine lv_ldiv hx hb d_RecordReader_readNumber_195 (by decide) ?_
                    refine W.lcmp hx hb d_RecordReader_readNumber_196 ?_
                    refine lv_if_ge (tgt := 209) hx hb d_RecordReader_readNumber_197 (by decide) (fun c_197 => ?_) (fun c_197 => ?_)
                    · -- 197: True
                      have c_197 : (b1 : Int64) ≥ ((lo + (((bt t n p2) - 48 : Int32).toInt64)) / 10) := (lg_cmp_ge _ _).mp c_197
                      refine lv_lload hx hb d_RecordReader_readNumber_209 (lv_at hl 6 rfl) ?_
                      refine lv_ldc2 hx hb hown (hts _ (z_in k_577 rfl)) d_RecordReader_readNumber_211 ?_
                      refine lv_lmul hx hb d_RecordReader_readNumber_214 ?_
                      refine lv_iload hx hb d_RecordReader_readNumber_215 (lv_at hl 0 rfl) ?_
                      refine lv_i2l hx hb d_RecordReader_readNumber_217 rfl ?_
                      refine lv_lsub hx hb d_RecordReader_readNumber_218 ?_
                      refine lv_lstore (lv' := [(7, .long ((b1 * 10) - (((bt t n p2) - 48 : Int32).toInt64))), (10, .int ((bt t n p2) - 48)), (0, .ref rd), (1, .long lo), (3, .int (nI p)), (4, .int 1), (5, .long lo), (9, .int (nI k1))]) hx hb d_RecordReader_readNumber_219 hl (by decide) rfl (fun ls hl => ?_)
                      refine lv_aload_n hx hb d_RecordReader_readNumber_221 rfl (lv_at hl 2 rfl) ?_
                      refine z_get hx hb hts (z_lay i_RecordReader) hown hK hw L151_rd rfl 0 (by decide) (z_in k_502 rfl) (fun _ h9 => h9) rfl d_RecordReader_readNumber_222 ?_
                      refine lv_iconst (v := 1) hx hb d_RecordReader_readNumber_225 (by decide) ?_
                      refine z_callV (n := 1) (As := [.int 1]) (rest := []) ⟨hx, hb, hml, hown, hts⟩ (c_Scanner_step (d := 1) l g hL L151_sc) (z_in k_574 rfl) (z_in k_8 rfl) (z_in k_571 rfl) (z_in k_572 rfl) (z_in k_573 rfl) (by decide +kernel) ⟨by first | exact Nat.le_of_ble_eq_true rfl | (dsimp only; omega) | omega, by first | exact Nat.le_of_ble_eq_true rfl | (dsimp only; omega) | omega⟩ hK hE hw hA rfl L151_sc rfl hl.1 (Nat.le_of_ble_eq_true rfl) d_RecordReader_readNumber_226 ⟨by first | exact Nat.le_of_ble_eq_true rfl | (dsimp only; omega) | omega, by first | exact Nat.le_of_ble_eq_true rfl | (dsimp only; omega) | omega⟩ rfl (fun r9 h9 H locs hp hw => ?_)
                      obtain ⟨r8, hh15⟩ := hp
                      subst r8
                      obtain ⟨h15, e8⟩ : ∃ x9, x9 = h9 := ⟨_, rfl⟩
                      subst e8
                      have f15_rd : h15 rd = some ((8, 0), .inr (9, [.ref sc, .ref q, .ref w, .ref tr, .long nu9])) := by rw [← hh15]; exact z_keep L151_sc L151_rd (z_t1 (by decide))
                      have f15_sc : h15 sc = some ((6, 0), .inr (7, [.ref b, .int (nI n), .int (nI (p2 + 1)), .int fa, .int ws, .int wd])) := by rw [← hh15]; exact z_put_eq
                      have f15_b : h15 b = some ((3, 0), .inl (g.2.1 0, len, .inl f)) := by rw [← hh15]; exact z_keep L151_sc L151_b (z_t1 (by decide))
                      have kk15 : z_K (fun y => y = 6 ∨ y = 8) h h15 := kkL.tr (by rw [← hh15]; exact z_K.put L151_sc (by first | decide | simp | omega))
                      refine W.eq (g2 := F0 m 229 ls []) rfl ?_
                      refine lv_iinc (v := nI (k1 + 1)) (lv' := [(9, .int (nI (k1 + 1))), (7, .long ((b1 * 10) - (((bt t n p2) - 48 : Int32).toInt64))), (10, .int ((bt t n p2) - 48)), (0, .ref rd), (1, .long lo), (3, .int (nI p)), (4, .int 1), (5, .long lo)]) hx hb d_RecordReader_readNumber_229 hl (k := 7) rfl (nI_1 k1) (by decide) rfl (fun ls hl => ?_)
                      refine lv_goto (tgt := 151) hx hb d_RecordReader_readNumber_232 (by decide) ?_
                      refine ih_151 (k1 + 1) (p2 + 1) (b1 * 10 - (bt t n p2 - 48).toInt64) h15 _ _ _ f15_rd f15_sc f15_b kk15 (⟨by omega, by omega⟩) (by rw [← hR1, show 4000 - k1 = (4000 - (k1 + 1)) + 1 by omega]; simp only [dgL]; rw [if_pos c_169, if_neg (by have z := c_197; exact fun y => absurd z (by simpa using y))]) ?_ hw (lv_sub hl [3, 4, 5, 6, 7, 1, 0] rfl)
                      omega
                    · -- 197: False
                      have c_197 : ¬ ((b1 : Int64) ≥ ((lo + (((bt t n p2) - 48 : Int32).toInt64)) / 10)) := fun z => c_197 ((lg_cmp_ge _ _).mpr z)
                      refine lv_aload_n hx hb d_RecordReader_readNumber_200 rfl (lv_at hl 1 rfl) ?_
                      refine z_get hx hb hts (z_lay i_RecordReader) hown hK hw L151_rd rfl 0 (by decide) (z_in k_502 rfl) (fun _ h9 => h9) rfl d_RecordReader_readNumber_201 ?_
                      refine lv_iload_n hx hb d_RecordReader_readNumber_204 rfl (lv_at hl 3 rfl) ?_
                      refine z_callV (n := 1) (As := [.int (nI p)]) (rest := []) ⟨hx, hb, hml, hown, hts⟩ (c_Scanner_fail l g hL L151_sc) (z_in k_262 rfl) (z_in k_8 rfl) (z_in k_564 rfl) (z_in k_260 rfl) (z_in k_261 rfl) (by decide +kernel) ⟨by first | exact Nat.le_of_ble_eq_true rfl | (dsimp only; omega) | omega, by first | exact Nat.le_of_ble_eq_true rfl | (dsimp only; omega) | omega⟩ hK hE hw hA rfl L151_sc rfl hl.1 (Nat.le_of_ble_eq_true rfl) d_RecordReader_readNumber_205 ⟨by first | exact Nat.le_of_ble_eq_true rfl | (dsimp only; omega) | omega, by first | exact Nat.le_of_ble_eq_true rfl | (dsimp only; omega) | omega⟩ rfl (fun r9 h9 H locs hp hw => ?_)
                      obtain ⟨r8, hh16⟩ := hp
                      subst r8
                      obtain ⟨h16, e8⟩ : ∃ x9, x9 = h9 := ⟨_, rfl⟩
                      subst e8
                      have f16_rd : h16 rd = some ((8, 0), .inr (9, [.ref sc, .ref q, .ref w, .ref tr, .long nu9])) := by rw [← hh16]; exact z_keep L151_sc L151_rd (z_t1 (by decide))
                      have f16_sc : h16 sc = some ((6, 0), .inr (7, [.ref b, .int (nI n), .int (nI p2), .int (nI p), .int ws, .int wd])) := by rw [← hh16]; exact z_put_eq
                      have f16_b : h16 b = some ((3, 0), .inl (g.2.1 0, len, .inl f)) := by rw [← hh16]; exact z_keep L151_sc L151_b (z_t1 (by decide))
                      have kk16 : z_K (fun y => y = 6 ∨ y = 8) h h16 := kkL.tr (by rw [← hh16]; exact z_K.put L151_sc (by first | decide | simp | omega))
                      refine W.eq (g2 := F0 m 208 ls [.int 0]) rfl ?_
                      have eD : dgL t n (lo) p 4000 (p + 1) 0 = .inl p := by rw [← hR1, show 4000 - k1 = (4000 - (k1 + 1)) + 1 by omega]; simp only [dgL]; rw [if_pos c_169, if_pos (by have z := c_197; simpa using z)]
                      have eW : numR t n p lo = .inl p := by unfold numR; rw [if_pos c_17]; unfold numN; rw [if_pos c_50, if_neg (fun z => c_92 z.1), if_pos rfl, eD]
                      exact z_zret hx hb hr rfl hlocks hw (by rw [eW]; exact ⟨kk16, rfl, ⟨_, _, _, _, f16_sc, rfl⟩, _, f16_rd⟩) (by decide) (by decide) d_RecordReader_readNumber_208
            exact loop_151 (4000 - 0 + 1) 0 (p + 1) 0 h12 _ _ _ f12_rd f12_sc f12_b kk12 (⟨by omega, by omega⟩) rfl (by omega) hw (lv_sub hl [5, 6, 4, 3, 2, 1, 0] rfl)
        · -- 92: False
          refine lv_iload hx hb d_RecordReader_readNumber_95 (lv_at hl 0 rfl) ?_
          refine lv_if_ne (tgt := 122) hx hb d_RecordReader_readNumber_97 (by decide) (fun c_97 => ?_) (fun c_97 => ?_)
          · -- 97: True
            refine lv_aload_n hx hb d_RecordReader_readNumber_122 rfl (lv_at hl 2 rfl) ?_
            refine z_get hx hb hts (z_lay i_RecordReader) hown hK hw f12_rd rfl 0 (by decide) (z_in k_502 rfl) (fun _ h9 => h9) rfl d_RecordReader_readNumber_123 ?_
            refine lv_iload_n hx hb d_RecordReader_readNumber_126 rfl (lv_at hl 1 rfl) ?_
            refine z_callV (n := 1) (As := [.int (nI p)]) (rest := []) ⟨hx, hb, hml, hown, hts⟩ (c_Scanner_fail l g h12 f12_sc) (z_in k_262 rfl) (z_in k_8 rfl) (z_in k_564 rfl) (z_in k_260 rfl) (z_in k_261 rfl) (by decide +kernel) ⟨by first | exact Nat.le_of_ble_eq_true rfl | (dsimp only; omega) | omega, by first | exact Nat.le_of_ble_eq_true rfl | (dsimp only; omega) | omega⟩ hK hE hw hA rfl f12_sc rfl hl.1 (Nat.le_of_ble_eq_true rfl) d_RecordReader_readNumber_127 ⟨by first | exact Nat.le_of_ble_eq_true rfl | (dsimp only; omega) | omega, by first | exact Nat.le_of_ble_eq_true rfl | (dsimp only; omega) | omega⟩ rfl (fun r9 h9 H locs hp hw => ?_)
            obtain ⟨r8, hh17⟩ := hp
            subst r8
            obtain ⟨h17, e8⟩ : ∃ x9, x9 = h9 := ⟨_, rfl⟩
            subst e8
            have f17_rd : h17 rd = some ((8, 0), .inr (9, [.ref sc, .ref q, .ref w, .ref tr, .long nu9])) := by rw [← hh17]; exact z_keep f12_sc f12_rd (z_t1 (by decide))
            have f17_sc : h17 sc = some ((6, 0), .inr (7, [.ref b, .int (nI n), .int (nI (p + 1)), .int (nI p), .int ws, .int wd])) := by rw [← hh17]; exact z_put_eq
            have f17_b : h17 b = some ((3, 0), .inl (g.2.1 0, len, .inl f)) := by rw [← hh17]; exact z_keep f12_sc f12_b (z_t1 (by decide))
            have kk17 : z_K (fun y => y = 6 ∨ y = 8) h h17 := kk12.tr (by rw [← hh17]; exact z_K.put f12_sc (by first | decide | simp | omega))
            refine W.eq (g2 := F0 m 130 ls [.int 0]) rfl ?_
            have eW : numR t n p lo = .inl p := by unfold numR; rw [if_pos c_17]; unfold numN; rw [if_pos c_50, if_pos ⟨c_92, Or.inl rfl⟩]
            exact z_zret hx hb hr rfl hlocks hw (by rw [eW]; exact ⟨kk17, rfl, ⟨_, _, _, _, f17_sc, rfl⟩, _, f17_rd⟩) (by decide) (by decide) d_RecordReader_readNumber_130
          · -- 97: False
            exact absurd c_97 (by decide)
      · -- 50: False
        have c_50 : (isDig (bt t n (p + 1))) = false := zb_f c_50
        refine lv_aload_n hx hb d_RecordReader_readNumber_53 rfl (lv_at hl 2 rfl) ?_
        refine z_get hx hb hts (z_lay i_RecordReader) hown hK hw f12_rd rfl 0 (by decide) (z_in k_502 rfl) (fun _ h9 => h9) rfl d_RecordReader_readNumber_54 ?_
        refine z_callV (n := 0) (As := []) (rest := []) ⟨hx, hb, hml, hown, hts⟩ (c_Scanner_here (t := t) l g h12 f12_sc f12_b hn hlen hf (by omega)) (z_in k_238 rfl) (z_in k_8 rfl) (z_in k_570 rfl) (z_in k_236 rfl) (z_in k_237 rfl) (by decide +kernel) ⟨by first | exact Nat.le_of_ble_eq_true rfl | (dsimp only; omega) | omega, by first | exact Nat.le_of_ble_eq_true rfl | (dsimp only; omega) | omega⟩ hK hE hw hA rfl f12_sc rfl hl.1 (Nat.le_of_ble_eq_true rfl) d_RecordReader_readNumber_57 ⟨by first | exact Nat.le_of_ble_eq_true rfl | (dsimp only; omega) | omega, by first | exact Nat.le_of_ble_eq_true rfl | (dsimp only; omega) | omega⟩ rfl (fun r9 h9 H locs hp hw => ?_)
        obtain ⟨r8, h8⟩ := hp
        subst r8
        subst h8
        refine W.eq (g2 := F0 m 60 ls [.int (bt t n (p + 1))]) rfl ?_
        refine lv_iconst (v := (-1)) hx hb d_RecordReader_readNumber_60 (by decide) ?_
        refine lv_icmp_ne (tgt := 74) hx hb d_RecordReader_readNumber_61 (by decide) (fun c_61 => ?_) (fun c_61 => ?_)
        · -- 61: True
          refine lv_aload_n hx hb d_RecordReader_readNumber_74 rfl (lv_at hl 2 rfl) ?_
          refine z_get hx hb hts (z_lay i_RecordReader) hown hK hw f12_rd rfl 0 (by decide) (z_in k_502 rfl) (fun _ h9 => h9) rfl d_RecordReader_readNumber_75 ?_
          refine lv_iload_n hx hb d_RecordReader_readNumber_78 rfl (lv_at hl 1 rfl) ?_
          refine z_callV (n := 1) (As := [.int (nI p)]) (rest := []) ⟨hx, hb, hml, hown, hts⟩ (c_Scanner_fail l g h12 f12_sc) (z_in k_262 rfl) (z_in k_8 rfl) (z_in k_564 rfl) (z_in k_260 rfl) (z_in k_261 rfl) (by decide +kernel) ⟨by first | exact Nat.le_of_ble_eq_true rfl | (dsimp only; omega) | omega, by first | exact Nat.le_of_ble_eq_true rfl | (dsimp only; omega) | omega⟩ hK hE hw hA rfl f12_sc rfl hl.1 (Nat.le_of_ble_eq_true rfl) d_RecordReader_readNumber_79 ⟨by first | exact Nat.le_of_ble_eq_true rfl | (dsimp only; omega) | omega, by first | exact Nat.le_of_ble_eq_true rfl | (dsimp only; omega) | omega⟩ rfl (fun r9 h9 H locs hp hw => ?_)
          obtain ⟨r8, hh18⟩ := hp
          subst r8
          obtain ⟨h18, e8⟩ : ∃ x9, x9 = h9 := ⟨_, rfl⟩
          subst e8
          have f18_rd : h18 rd = some ((8, 0), .inr (9, [.ref sc, .ref q, .ref w, .ref tr, .long nu9])) := by rw [← hh18]; exact z_keep f12_sc f12_rd (z_t1 (by decide))
          have f18_sc : h18 sc = some ((6, 0), .inr (7, [.ref b, .int (nI n), .int (nI (p + 1)), .int (nI p), .int ws, .int wd])) := by rw [← hh18]; exact z_put_eq
          have f18_b : h18 b = some ((3, 0), .inl (g.2.1 0, len, .inl f)) := by rw [← hh18]; exact z_keep f12_sc f12_b (z_t1 (by decide))
          have kk18 : z_K (fun y => y = 6 ∨ y = 8) h h18 := kk12.tr (by rw [← hh18]; exact z_K.put f12_sc (by first | decide | simp | omega))
          refine W.eq (g2 := F0 m 82 ls [.int 0]) rfl ?_
          have eW : numR t n p lo = .inl (p) := by unfold numR; rw [if_pos c_17]; unfold numN; rw [if_neg (by rw [c_50]; decide), if_neg c_61]
          exact z_zret hx hb hr rfl hlocks hw (by rw [eW]; exact ⟨kk18, rfl, ⟨_, _, _, _, f18_sc, rfl⟩, _, f18_rd⟩) (by decide) (by decide) d_RecordReader_readNumber_82
        · -- 61: False
          refine lv_aload_n hx hb d_RecordReader_readNumber_64 rfl (lv_at hl 2 rfl) ?_
          refine z_get hx hb hts (z_lay i_RecordReader) hown hK hw f12_rd rfl 0 (by decide) (z_in k_502 rfl) (fun _ h9 => h9) rfl d_RecordReader_readNumber_65 ?_
          refine z_callV (n := 0) (As := []) (rest := []) ⟨hx, hb, hml, hown, hts⟩ (c_Scanner_failHere l g h12 f12_sc) (z_in k_258 rfl) (z_in k_8 rfl) (z_in k_522 rfl) (z_in k_256 rfl) (z_in k_257 rfl) (by decide +kernel) ⟨by first | exact Nat.le_of_ble_eq_true rfl | (dsimp only; omega) | omega, by first | exact Nat.le_of_ble_eq_true rfl | (dsimp only; omega) | omega⟩ hK hE hw hA rfl f12_sc rfl hl.1 (Nat.le_of_ble_eq_true rfl) d_RecordReader_readNumber_68 ⟨by first | exact Nat.le_of_ble_eq_true rfl | (dsimp only; omega) | omega, by first | exact Nat.le_of_ble_eq_true rfl | (dsimp only; omega) | omega⟩ rfl (fun r9 h9 H locs hp hw => ?_)
          obtain ⟨r8, hh19⟩ := hp
          subst r8
          obtain ⟨h19, e8⟩ : ∃ x9, x9 = h9 := ⟨_, rfl⟩
          subst e8
          have f19_rd : h19 rd = some ((8, 0), .inr (9, [.ref sc, .ref q, .ref w, .ref tr, .long nu9])) := by rw [← hh19]; exact z_keep f12_sc f12_rd (z_t1 (by decide))
          have f19_sc : h19 sc = some ((6, 0), .inr (7, [.ref b, .int (nI n), .int (nI (p + 1)), .int (nI (p + 1)), .int ws, .int wd])) := by rw [← hh19]; exact z_put_eq
          have f19_b : h19 b = some ((3, 0), .inl (g.2.1 0, len, .inl f)) := by rw [← hh19]; exact z_keep f12_sc f12_b (z_t1 (by decide))
          have kk19 : z_K (fun y => y = 6 ∨ y = 8) h h19 := kk12.tr (by rw [← hh19]; exact z_K.put f12_sc (by first | decide | simp | omega))
          refine W.eq (g2 := F0 m 71 ls [.int 0]) rfl ?_
          refine lv_goto (tgt := 82) hx hb d_RecordReader_readNumber_71 (by decide) ?_
          have eW : numR t n p lo = .inl (p + 1) := by unfold numR; rw [if_pos c_17]; unfold numN; rw [if_neg (by rw [c_50]; decide), if_pos c_61]
          exact z_zret hx hb hr rfl hlocks hw (by rw [eW]; exact ⟨kk19, rfl, ⟨_, _, _, _, f19_sc, rfl⟩, _, f19_rd⟩) (by decide) (by decide) d_RecordReader_readNumber_82

set_option maxHeartbeats 4000000 in
set_option maxRecDepth 100000 in
theorem c_Scanner_wordIs (l : Launch) (g : z_G) (h : z_H) {sc b len n p a e i : Nat} {f : Nat → Int32} {fa : Int32} {t : Nat → Nat} (hsc : h sc = some ((6, 0), .inr (7, [.ref b, .int (nI n), .int (nI p), .int fa, .int (nI a), .int (nI e)]))) (hb0 : h b = some ((3, 0), .inl (g.2.1 0, len, .inl f))) (hn : n ≤ len) (hlen : len < 2 ^ 31) (hf : ∀ k, k < n → t k < 256 ∧ f k = sb_b (t k)) (hi : i < 11) (hae : a ≤ e) (hen : e ≤ n) : z_C l y_Scanner_wordIs prog_8_method_13_code 3 (Option.some Jvm.ClassFile.FieldType.boolean) 4 90 0 0 g [.ref sc, .ref (g.2.2 (1 + i))] h (fun r h1 => r = some (.int (zb (decide (e - a = z_len.getD i 0) && nmE t a (sch i) (z_len.getD i 0)))) ∧ h = h1) := by
  refine z_C.of (by decide) (Nat.le_of_ble_eq_true rfl) (fun pg en s m below meth cd A ls hx hb hml hr hts hown hlocks hnm hK hE hA hw hl => ?_)
  have hl : lv_has ls 3 [(0, .ref sc), (1, .ref (g.2.2 (1 + i)))] := hl
  have hz := (z_strs i hi).1
  refine lv_aload_n hx hb d_Scanner_wordIs_0 rfl (lv_at hl 0 rfl) ?_
  refine z_get hx hb hts (z_lay i_Scanner) hown hK hw hsc rfl 5 (by decide) (z_in k_200 rfl) (fun _ h9 => h9) rfl d_Scanner_wordIs_1 ?_
  refine lv_aload_n hx hb d_Scanner_wordIs_4 rfl (lv_at hl 0 rfl) ?_
  refine z_get hx hb hts (z_lay i_Scanner) hown hK hw hsc rfl 4 (by decide) (z_in k_196 rfl) (fun _ h9 => h9) rfl d_Scanner_wordIs_5 ?_
  refine lv_isub hx hb d_Scanner_wordIs_8 ?_
  refine z_topi (y := nI (e - a)) (pk_sub (a := e) (b := a) (by omega)) ?_
  refine lv_aload_n hx hb d_Scanner_wordIs_9 rfl (lv_at hl 1 rfl) ?_
  refine z_callR (n := 0) (As := []) (rest := [.int (nI (e - a))]) ⟨hx, hb, hml, hown, hts⟩ (c_JS_length l g h hi) (z_in k_277 rfl) (z_in k_10 rfl) (z_in k_274 rfl) (z_in k_275 rfl) (z_in k_276 rfl) (by decide +kernel) ⟨by first | exact Nat.le_of_ble_eq_true rfl | (dsimp only; omega) | omega, by first | exact Nat.le_of_ble_eq_true rfl | (dsimp only; omega) | omega⟩ hK hE hw hA (vk_recv (adK := fun i => g.2.2 (1 + i)) (i := i) hE.2.2.2.1 hi hw.2.2) rfl hl.1 (Nat.le_of_ble_eq_true rfl) d_Scanner_wordIs_10 ⟨by first | exact Nat.le_of_ble_eq_true rfl | (dsimp only; omega) | omega, by first | exact Nat.le_of_ble_eq_true rfl | (dsimp only; omega) | omega⟩ rfl (fun r9 h9 H locs hp hw => ?_)
  obtain ⟨r8, h8⟩ := hp
  subst r8
  subst h8
  refine W.eq (g2 := F0 m 13 ls [.int (nI (z_len.getD i 0)), .int (nI (e - a))]) rfl ?_
  refine lv_icmp_eq (tgt := 18) hx hb d_Scanner_wordIs_13 (by decide) (fun c_13 => ?_) (fun c_13 => ?_)
  · -- 13: True
    have c_13 : (e - a) = (z_len.getD i 0) := (nI_eq (a := e - a) (b := z_len.getD i 0) (by omega) (by omega)).mp c_13
    refine lv_iconst (v := 0) hx hb d_Scanner_wordIs_18 (by decide) ?_
    refine lv_istore_n (lv' := [(2, .int 0), (0, .ref sc), (1, .ref (g.2.2 (1 + i)))]) hx hb d_Scanner_wordIs_19 rfl hl (by decide) rfl (fun ls hl => ?_)
    have loop_20 : ∀ (fuel : Nat) (k : Nat) (hL : z_H) (H : Heap) (locs : List Loc) (ls : Array Slot) (L20_sc : hL sc = some ((6, 0), .inr (7, [.ref b, .int (nI n), .int (nI p), .int fa, .int (nI a), .int (nI e)]))) (L20_b : hL b = some ((3, 0), .inl (g.2.1 0, len, .inl f))) (hk : k ≤ z_len.getD i 0) (hE9 : nmE t a (sch i) k = true) (hL9 : hL = h), (z_len.getD i 0 - k) < fuel → z_S g A s.heap hL H locs → lv_has ls 3 [(0, .ref sc), (1, .ref (g.2.2 (1 + i))), (2, .int (nI k))] → W pg l en { frames := 4, cells := 0, slots := 0, locals := 90 } s m [.ref sc, .ref (g.2.2 (1 + i))].toArray below meth cd H locs 0 0 (MQ below (z_Q g A (fun r h1 => r = some (.int (zb (decide (e - a = z_len.getD i 0) && nmE t a (sch i) (z_len.getD i 0)))) ∧ h = h1)) [.ref sc, .ref (g.2.2 (1 + i))].toArray s 0 0 A) (F0 m 20 ls []) := by
      intro fuel
      induction fuel with
      | zero => intro k hL H locs ls L20_sc L20_b hk hE9 hL9 hm; exact absurd hm (Nat.not_lt_zero _)
      | succ fuel ih_20 =>
        intro k hL H locs ls L20_sc L20_b hk hE9 hL9 hm hw hl
        refine lv_iload_n hx hb d_Scanner_wordIs_20 rfl (lv_at hl 2 rfl) ?_
        refine lv_aload_n hx hb d_Scanner_wordIs_21 rfl (lv_at hl 1 rfl) ?_
        refine z_callR (n := 0) (As := []) (rest := [.int (nI k)]) ⟨hx, hb, hml, hown, hts⟩ (c_JS_length l g hL hi) (z_in k_277 rfl) (z_in k_10 rfl) (z_in k_274 rfl) (z_in k_275 rfl) (z_in k_276 rfl) (by decide +kernel) ⟨by first | exact Nat.le_of_ble_eq_true rfl | (dsimp only; omega) | omega, by first | exact Nat.le_of_ble_eq_true rfl | (dsimp only; omega) | omega⟩ hK hE hw hA (vk_recv (adK := fun i => g.2.2 (1 + i)) (i := i) hE.2.2.2.1 hi hw.2.2) rfl hl.1 (Nat.le_of_ble_eq_true rfl) d_Scanner_wordIs_22 ⟨by first | exact Nat.le_of_ble_eq_true rfl | (dsimp only; omega) | omega, by first | exact Nat.le_of_ble_eq_true rfl | (dsimp only; omega) | omega⟩ rfl (fun r9 h9 H locs hp hw => ?_)
        obtain ⟨r8, h8⟩ := hp
        subst r8
        subst h8
        refine W.eq (g2 := F0 m 25 ls [.int (nI (z_len.getD i 0)), .int (nI k)]) rfl ?_
        refine lv_icmp_ge (tgt := 54) hx hb d_Scanner_wordIs_25 (by decide) (fun c_25 => ?_) (fun c_25 => ?_)
        · -- 25: True
          have c_25 : (z_len.getD i 0) ≤ k := (nI_leI (a := z_len.getD i 0) (b := k) (by omega) (by omega)).mp c_25
          refine lv_iconst (v := 1) hx hb d_Scanner_wordIs_54 (by decide) ?_
          exact z_zret hx hb hr rfl hlocks hw (by refine ⟨congrArg some (congrArg Value.int ?_), hL9.symm⟩; rw [zb_1 (by rw [show z_len.getD i 0 = k by omega, hE9, decide_eq_true (by omega)]; rfl)]) (by decide) (by decide) d_Scanner_wordIs_55
        · -- 25: False
          have c_25 : ¬ ((z_len.getD i 0) ≤ k) := fun z => c_25 ((nI_leI (a := z_len.getD i 0) (b := k) (by omega) (by omega)).mpr z)
          refine lv_aload_n hx hb d_Scanner_wordIs_28 rfl (lv_at hl 0 rfl) ?_
          refine lv_aload_n hx hb d_Scanner_wordIs_29 rfl (lv_at hl 0 rfl) ?_
          refine z_get hx hb hts (z_lay i_Scanner) hown hK hw L20_sc rfl 4 (by decide) (z_in k_196 rfl) (fun _ h9 => h9) rfl d_Scanner_wordIs_30 ?_
          refine lv_iload_n hx hb d_Scanner_wordIs_33 rfl (lv_at hl 2 rfl) ?_
          refine lv_iadd hx hb d_Scanner_wordIs_34 ?_
          refine z_topi (y := nI (a + k)) (nI_add a k) ?_
          refine z_callV (n := 1) (As := [.int (nI (a + k))]) (rest := []) ⟨hx, hb, hml, hown, hts⟩ (c_Scanner_byteAt l g hL L20_sc L20_b hn hlen hf) (z_in k_287 rfl) (z_in k_8 rfl) (z_in k_284 rfl) (z_in k_285 rfl) (z_in k_286 rfl) (by decide +kernel) ⟨by first | exact Nat.le_of_ble_eq_true rfl | (dsimp only; omega) | omega, by first | exact Nat.le_of_ble_eq_true rfl | (dsimp only; omega) | omega⟩ hK hE hw hA rfl L20_sc rfl hl.1 (Nat.le_of_ble_eq_true rfl) d_Scanner_wordIs_35 ⟨by first | exact Nat.le_of_ble_eq_true rfl | (dsimp only; omega) | omega, by first | exact Nat.le_of_ble_eq_true rfl | (dsimp only; omega) | omega⟩ rfl (fun r9 h9 H locs hp hw => ?_)
          obtain ⟨r8, h8⟩ := hp
          subst r8
          subst h8
          refine W.eq (g2 := F0 m 38 ls [.int (bz t n (nI (a + k)))]) rfl ?_
          refine lv_aload_n hx hb d_Scanner_wordIs_38 rfl (lv_at hl 1 rfl) ?_
          refine lv_iload_n hx hb d_Scanner_wordIs_39 rfl (lv_at hl 2 rfl) ?_
          refine z_callR (n := 1) (As := [.int (nI k)]) (rest := [.int (bz t n (nI (a + k)))]) ⟨hx, hb, hml, hown, hts⟩ (c_JS_charAt l g hL hi (by omega)) (z_in k_291 rfl) (z_in k_10 rfl) (z_in k_288 rfl) (z_in k_289 rfl) (z_in k_290 rfl) (by decide +kernel) ⟨by first | exact Nat.le_of_ble_eq_true rfl | (dsimp only; omega) | omega, by first | exact Nat.le_of_ble_eq_true rfl | (dsimp only; omega) | omega⟩ hK hE hw hA (vk_recv (adK := fun i => g.2.2 (1 + i)) (i := i) hE.2.2.2.1 hi hw.2.2) rfl hl.1 (Nat.le_of_ble_eq_true rfl) d_Scanner_wordIs_40 ⟨by first | exact Nat.le_of_ble_eq_true rfl | (dsimp only; omega) | omega, by first | exact Nat.le_of_ble_eq_true rfl | (dsimp only; omega) | omega⟩ rfl (fun r9 h9 H locs hp hw => ?_)
          obtain ⟨r8, h8⟩ := hp
          subst r8
          subst h8
          refine W.eq (g2 := F0 m 43 ls [.int (nI (sch i k)), .int (bz t n (nI (a + k)))]) rfl ?_
          have bk : bz t n (nI (a + k)) = nI (t (a + k)) := by rw [bz_n (by omega), bt_in (by omega)]
          refine lv_icmp_eq (tgt := 48) hx hb d_Scanner_wordIs_43 (by decide) (fun c_43 => ?_) (fun c_43 => ?_)
          · -- 43: True
            refine lv_iinc (v := nI (k + 1)) (lv' := [(2, .int (nI (k + 1))), (0, .ref sc), (1, .ref (g.2.2 (1 + i)))]) hx hb d_Scanner_wordIs_48 hl (k := 2) rfl (nI_1 k) (by decide) rfl (fun ls hl => ?_)
            refine lv_goto (tgt := 20) hx hb d_Scanner_wordIs_51 (by decide) ?_
            refine ih_20 (k + 1) hL _ _ _ L20_sc L20_b (by omega) (by simp only [nmE]; rw [hE9]; simp; have z := c_43; rw [bk] at z; exact (nI_eq (by have := (hf (a + k) (by omega)).1; omega) (by have := (sch_b i k).2; omega)).mp z) hL9 ?_ hw (lv_sub hl [1, 2, 0] rfl)
            omega
          · -- 43: False
            refine lv_iconst (v := 0) hx hb d_Scanner_wordIs_46 (by decide) ?_
            exact z_zret hx hb hr rfl hlocks hw (by refine ⟨congrArg some (congrArg Value.int ?_), hL9.symm⟩; rw [zb_0 (by rw [nmE_no (k := k) (fun z => c_43 (by rw [bk, z])) (z_len.getD i 0) (by omega), Bool.and_false])]) (by decide) (by decide) d_Scanner_wordIs_47
    exact loop_20 (z_len.getD i 0 - 0 + 1) 0 h _ _ _ hsc hb0 (by omega) rfl rfl (by omega) hw (lv_sub hl [1, 2, 0] rfl)
  · -- 13: False
    have c_13 : ¬ ((e - a) = (z_len.getD i 0)) := fun z => c_13 ((nI_eq (a := e - a) (b := z_len.getD i 0) (by omega) (by omega)).mpr z)
    refine lv_iconst (v := 0) hx hb d_Scanner_wordIs_16 (by decide) ?_
    exact z_zret hx hb hr rfl hlocks hw (by refine ⟨congrArg some (congrArg Value.int ?_), rfl⟩; rw [zb_0 (by rw [decide_eq_false c_13, Bool.false_and])]) (by decide) (by decide) d_Scanner_wordIs_17

set_option maxHeartbeats 4000000 in
set_option maxRecDepth 100000 in
theorem c_Scanner_copy (l : Launch) (g : z_G) (h : z_H) {sc b len n p : Nat} {f : Nat → Int32} {fa ws we : Int32} {t : Nat → Nat} {i j : Nat} {tg : Nat × Nat} (hsc : h sc = some ((6, 0), .inr (7, [.ref b, .int (nI n), .int (nI p), .int fa, .int ws, .int we]))) (hb0 : h b = some ((3, 0), .inl (g.2.1 0, len, .inl f))) (hn : n ≤ len) (hlen : len < 2 ^ 29) (hij : i ≤ j) (hj : j ≤ n) (hne : ¬ (i = 0 ∧ j = len)) (hfb : z_fb f len) : z_C l y_Scanner_copy prog_8_method_3_code 3 (Option.some (Jvm.ClassFile.FieldType.array Jvm.ClassFile.FieldType.byte)) 3 86 1 (j - i) g [.ref sc, .int (nI i), .int (nI j)] h (fun r h1 => ∃ q f2, r = some (.ref q) ∧ h q = none ∧ (∀ k, k < j - i → f2 k = f (i + k)) ∧ z_put h q tg (.inl (g.2.1 0, j - i, .inl f2)) = h1) := by
  refine z_C.of (by decide) (Nat.le_of_ble_eq_true rfl) (fun pg en s m below meth cd A ls hx hb hml hr hts hown hlocks hnm hK hE hA hw hl => ?_)
  have hl : lv_has ls 3 [(0, .ref sc), (1, .int (nI i)), (2, .int (nI j))] := hl
  refine lv_iload_n hx hb d_Scanner_copy_0 rfl (lv_at hl 1 rfl) ?_
  refine lv_if_lt (tgt := 17) hx hb d_Scanner_copy_1 (by decide) (fun c_1 => ?_) (fun c_1 => ?_)
  · -- 1: True
    have c_1 : i < 0 := (nI_ltI (a := i) (b := 0) (by omega) (by omega)).mp c_1
    omega
  · -- 1: False
    have c_1 : ¬ (i < 0) := fun z => c_1 ((nI_ltI (a := i) (b := 0) (by omega) (by omega)).mpr z)
    refine lv_iload_n hx hb d_Scanner_copy_4 rfl (lv_at hl 2 rfl) ?_
    refine lv_iload_n hx hb d_Scanner_copy_5 rfl (lv_at hl 1 rfl) ?_
    refine lv_icmp_lt (tgt := 17) hx hb d_Scanner_copy_6 (by decide) (fun c_6 => ?_) (fun c_6 => ?_)
    · -- 6: True
      have c_6 : j < i := (nI_ltI (a := j) (b := i) (by omega) (by omega)).mp c_6
      omega
    · -- 6: False
      have c_6 : ¬ (j < i) := fun z => c_6 ((nI_ltI (a := j) (b := i) (by omega) (by omega)).mpr z)
      refine lv_iload_n hx hb d_Scanner_copy_9 rfl (lv_at hl 2 rfl) ?_
      refine lv_aload_n hx hb d_Scanner_copy_10 rfl (lv_at hl 0 rfl) ?_
      refine z_get hx hb hts (z_lay i_Scanner) hown hK hw hsc rfl 1 (by decide) (z_in k_189 rfl) (fun _ h9 => h9) rfl d_Scanner_copy_11 ?_
      refine lv_icmp_le (tgt := 23) hx hb d_Scanner_copy_14 (by decide) (fun c_14 => ?_) (fun c_14 => ?_)
      · -- 14: True
        have c_14 : j ≤ n := (nI_leI (a := j) (b := n) (by omega) (by omega)).mp c_14
        refine lv_aload_n hx hb d_Scanner_copy_23 rfl (lv_at hl 0 rfl) ?_
        refine z_get hx hb hts (z_lay i_Scanner) hown hK hw hsc rfl 0 (by decide) (z_in k_188 rfl) (fun _ h9 => h9) rfl d_Scanner_copy_24 ?_
        refine lv_iload_n hx hb d_Scanner_copy_27 rfl (lv_at hl 1 rfl) ?_
        refine lv_iload_n hx hb d_Scanner_copy_28 rfl (lv_at hl 2 rfl) ?_
        refine z_callS (n := 3) (As := [.ref b, .int (nI i), .int (nI j)]) (rest := []) ⟨hx, hb, hml, hown, hts⟩ (c_JA_copyOfRange (tg := tg) l g h hb0 hij (by omega) (fun z => hne (by omega)) (by omega) hfb) (z_in k_369 rfl) (z_in k_14 rfl) (z_in k_367 rfl) (z_in k_368 rfl) (by decide +kernel) ⟨by first | exact Nat.le_of_ble_eq_true rfl | (dsimp only; omega) | omega, by first | exact Nat.le_of_ble_eq_true rfl | (dsimp only; omega) | omega⟩ hK hE hw hA rfl hl.1 (Nat.le_of_ble_eq_true rfl) d_Scanner_copy_29 ⟨by first | exact Nat.le_of_ble_eq_true rfl | (dsimp only; omega) | omega, by first | exact Nat.le_of_ble_eq_true rfl | (dsimp only; omega) | omega⟩ rfl (fun r9 h9 H locs hp hw => ?_)
        obtain ⟨q, f2, r8, n_q, e8, hh1⟩ := hp
        subst r8
        obtain ⟨h1, e7⟩ : ∃ x9, x9 = h9 := ⟨_, rfl⟩
        subst e7
        refine W.eq (g2 := F0 m 32 ls [.ref q]) rfl ?_
        exact z_aret hx hb hr (Or.inr ⟨_, rfl⟩) (Or.inr ⟨_, rfl⟩) hlocks hw ⟨q, f2, rfl, n_q, e8, hh1⟩ (by decide) (by first | exact Nat.le_of_ble_eq_true rfl | (dsimp only; omega) | omega) d_Scanner_copy_32
      · -- 14: False
        have c_14 : ¬ (j ≤ n) := fun z => c_14 ((nI_leI (a := j) (b := n) (by omega) (by omega)).mpr z)
        omega

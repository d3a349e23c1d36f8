set_option maxHeartbeats 4000000 in
set_option maxRecDepth 100000 in
theorem c_Scanner_next (l : Launch) (g : z_G) (h : z_H) {sc b len n p : Nat} {f : Nat → Int32} {fa ws we : Int32} {t : Nat → Nat} (hsc : h sc = some ((6, 0), .inr (7, [.ref b, .int (nI n), .int (nI p), .int fa, .int ws, .int we]))) (hb0 : h b = some ((3, 0), .inl (g.2.1 0, len, .inl f))) (hn : n ≤ len) (hlen : len < 2 ^ 31) (hf : ∀ k, k < n → t k < 256 ∧ f k = sb_b (t k)) (hp : p ≤ n) : z_C l y_Scanner_next prog_8_method_6_code 1 (Option.some Jvm.ClassFile.FieldType.int) 1 20 0 0 g [.ref sc] h (fun r h1 => r = some (.int (bt t n (sk t n p))) ∧ z_put h sc (6, 0) (.inr (7, [.ref b, .int (nI n), .int (nI (sk t n p)), .int (fa), .int (ws), .int (we)])) = h1) := by
  refine z_C.of (by decide) (Nat.le_of_ble_eq_true rfl) (fun pg en s m below meth cd A ls hx hb hml hr hts hown hlocks hnm hK hE hA hw hl => ?_)
  have hl : lv_has ls 1 [(0, .ref sc)] := hl
  have loop_0 : ∀ (fuel : Nat) (q : Nat) (hL : z_H) (H : Heap) (locs : List Loc) (ls : Array Slot) (L0_sc : hL sc = some ((6, 0), .inr (7, [.ref b, .int (nI n), .int (nI q), .int fa, .int ws, .int we]))) (L0_b : hL b = some ((3, 0), .inl (g.2.1 0, len, .inl f))) (hq : z_put h sc (6, 0) (.inr (7, [.ref b, .int (nI n), .int (nI q), .int (fa), .int (ws), .int (we)])) = hL) (hle : p ≤ q ∧ q ≤ n) (hsk : sk t n q = sk t n p), (n - q) < fuel → z_S g A s.heap hL H locs → lv_has ls 1 [(0, .ref sc)] → W pg l en { frames := 1, cells := 0, slots := 0, locals := 20 } s m [.ref sc].toArray below meth cd H locs 0 0 (MQ below (z_Q g A (fun r h1 => r = some (.int (bt t n (sk t n p))) ∧ z_put h sc (6, 0) (.inr (7, [.ref b, .int (nI n), .int (nI (sk t n p)), .int (fa), .int (ws), .int (we)])) = h1)) [.ref sc].toArray s 0 0 A) (F0 m 0 ls []) := by
    intro fuel
    induction fuel with
    | zero => intro q hL H locs ls L0_sc L0_b hq hle hsk hm; exact absurd hm (Nat.not_lt_zero _)
    | succ fuel ih_0 =>
      intro q hL H locs ls L0_sc L0_b hq hle hsk hm hw hl
      refine lv_aload_n hx hb d_Scanner_next_0 rfl (lv_at hl 0 rfl) ?_
      refine z_get hx hb hts (z_lay i_Scanner) hown hK hw L0_sc rfl 2 (by decide) (z_in k_191 rfl) (fun _ h9 => h9) rfl d_Scanner_next_1 ?_
      refine lv_aload_n hx hb d_Scanner_next_4 rfl (lv_at hl 0 rfl) ?_
      refine z_get hx hb hts (z_lay i_Scanner) hown hK hw L0_sc rfl 1 (by decide) (z_in k_189 rfl) (fun _ h9 => h9) rfl d_Scanner_next_5 ?_
      refine lv_icmp_ge (tgt := 52) hx hb d_Scanner_next_8 (by decide) (fun c_8 => ?_) (fun c_8 => ?_)
      · -- 8: True
        have c_8 : n ≤ q := (nI_leI (a := n) (b := q) (by omega) (by omega)).mp c_8
        refine lv_aload_n hx hb d_Scanner_next_52 rfl (lv_at hl 0 rfl) ?_
        refine z_callV (n := 0) (As := []) (rest := []) ⟨hx, hb, hml, hown, hts⟩ (c_Scanner_here l g hL L0_sc L0_b hn hlen hf (by omega)) (z_in k_238 rfl) (z_in k_8 rfl) (z_in k_235 rfl) (z_in k_236 rfl) (z_in k_237 rfl) (by decide +kernel) ⟨by first | exact Nat.le_of_ble_eq_true rfl | (dsimp only; omega) | omega, by first | exact Nat.le_of_ble_eq_true rfl | (dsimp only; omega) | omega⟩ hK hE hw hA rfl L0_sc rfl hl.1 (Nat.le_of_ble_eq_true rfl) d_Scanner_next_53 ⟨by first | exact Nat.le_of_ble_eq_true rfl | (dsimp only; omega) | omega, by first | exact Nat.le_of_ble_eq_true rfl | (dsimp only; omega) | omega⟩ rfl (fun r9 h9 H locs hp hw => ?_)
        obtain ⟨r8, h8⟩ := hp
        subst r8
        subst h8
        refine W.eq (g2 := F0 m 56 ls [.int (bt t n q)]) rfl ?_
        exact z_iret hx hb hr hlocks hw (by have e9 : sk t n p = q := (by rw [← hsk]; exact sk_stop (fun h => absurd h (by omega))); rw [e9]; exact ⟨rfl, hq⟩) (by decide) (by decide) d_Scanner_next_56
      · -- 8: False
        have c_8 : ¬ (n ≤ q) := fun z => c_8 ((nI_leI (a := n) (b := q) (by omega) (by omega)).mpr z)
        refine lv_aload_n hx hb d_Scanner_next_11 rfl (lv_at hl 0 rfl) ?_
        refine z_get hx hb hts (z_lay i_Scanner) hown hK hw L0_sc rfl 0 (by decide) (z_in k_188 rfl) (fun _ h9 => h9) rfl d_Scanner_next_12 ?_
        refine lv_aload_n hx hb d_Scanner_next_15 rfl (lv_at hl 0 rfl) ?_
        refine z_get hx hb hts (z_lay i_Scanner) hown hK hw L0_sc rfl 2 (by decide) (z_in k_191 rfl) (fun _ h9 => h9) rfl d_Scanner_next_16 ?_
        refine z_bald hx hb hK hw L0_b 0 rfl (vp_in_nI (by omega) (by omega)) d_Scanner_next_19 ?_
        refine z_topi (y := f q) (by rw [nI_clamp (by omega)]) ?_
        refine lv_bipush (v := 32) hx hb d_Scanner_next_20 (by decide) ?_
        refine lv_icmp_eq (tgt := 39) hx hb d_Scanner_next_22 (by decide) (fun c_22 => ?_) (fun c_22 => ?_)
        · -- 22: True
          refine lv_aload_n hx hb d_Scanner_next_39 rfl (lv_at hl 0 rfl) ?_
          refine lv_dup hx hb d_Scanner_next_40 rfl ?_
          refine z_get hx hb hts (z_lay i_Scanner) hown hK hw L0_sc rfl 2 (by decide) (z_in k_191 rfl) (fun _ h9 => h9) rfl d_Scanner_next_41 ?_
          refine lv_iconst (v := 1) hx hb d_Scanner_next_44 (by decide) ?_
          refine lv_iadd hx hb d_Scanner_next_45 ?_
          refine z_topi (y := nI (q + 1)) (nI_add q 1) ?_
          refine z_putf (ty := .int) hx hb hts (z_lay i_Scanner) t_Scanner t_Scanner_ok n_Scanner hown hK hw L0_sc rfl 2 (by decide) (z_in k_191 rfl) (fun _ h9 => h9) rfl (by decide +kernel) rfl rfl (Nat.le_of_ble_eq_true rfl) d_Scanner_next_46 (fun H locs hw => ?_)
          obtain ⟨h1, hh1⟩ : ∃ x9, z_put hL sc (6, 0) (.inr (7, [.ref b, .int (nI n), .int (nI (q + 1)), .int fa, .int ws, .int we])) = x9 := ⟨_, rfl⟩
          have hw : z_S g A s.heap h1 H locs := by rw [← hh1]; exact hw
          have f1_sc : h1 sc = some ((6, 0), .inr (7, [.ref b, .int (nI n), .int (nI (q + 1)), .int fa, .int ws, .int we])) := by rw [← hh1]; exact z_put_eq
          have f1_b : h1 b = some ((3, 0), .inl (g.2.1 0, len, .inl f)) := by rw [← hh1]; exact z_keep L0_sc L0_b (z_t1 (by decide))
          refine lv_goto (tgt := 0) hx hb d_Scanner_next_49 (by decide) ?_
          refine ih_0 (q + 1) h1 _ _ _ f1_sc f1_b (by rw [← hh1, ← hq, z_put_put]) (⟨by omega, by omega⟩) ((sk_step (p := q) (by omega) (by rw [← by_bl _ (hf q (by omega)).1, ← (hf q (by omega)).2]; simp [c_22])).symm.trans hsk) ?_ hw (lv_sub hl [0] rfl)
          omega
        · -- 22: False
          refine lv_aload_n hx hb d_Scanner_next_25 rfl (lv_at hl 0 rfl) ?_
          refine z_get hx hb hts (z_lay i_Scanner) hown hK hw L0_sc rfl 0 (by decide) (z_in k_188 rfl) (fun _ h9 => h9) rfl d_Scanner_next_26 ?_
          refine lv_aload_n hx hb d_Scanner_next_29 rfl (lv_at hl 0 rfl) ?_
          refine z_get hx hb hts (z_lay i_Scanner) hown hK hw L0_sc rfl 2 (by decide) (z_in k_191 rfl) (fun _ h9 => h9) rfl d_Scanner_next_30 ?_
          refine z_bald hx hb hK hw L0_b 0 rfl (vp_in_nI (by omega) (by omega)) d_Scanner_next_33 ?_
          refine z_topi (y := f q) (by rw [nI_clamp (by omega)]) ?_
          refine lv_bipush (v := 10) hx hb d_Scanner_next_34 (by decide) ?_
          refine lv_icmp_ne (tgt := 52) hx hb d_Scanner_next_36 (by decide) (fun c_36 => ?_) (fun c_36 => ?_)
          · -- 36: True
            refine lv_aload_n hx hb d_Scanner_next_52 rfl (lv_at hl 0 rfl) ?_
            refine z_callV (n := 0) (As := []) (rest := []) ⟨hx, hb, hml, hown, hts⟩ (c_Scanner_here l g hL L0_sc L0_b hn hlen hf (by omega)) (z_in k_238 rfl) (z_in k_8 rfl) (z_in k_235 rfl) (z_in k_236 rfl) (z_in k_237 rfl) (by decide +kernel) ⟨by first | exact Nat.le_of_ble_eq_true rfl | (dsimp only; omega) | omega, by first | exact Nat.le_of_ble_eq_true rfl | (dsimp only; omega) | omega⟩ hK hE hw hA rfl L0_sc rfl hl.1 (Nat.le_of_ble_eq_true rfl) d_Scanner_next_53 ⟨by first | exact Nat.le_of_ble_eq_true rfl | (dsimp only; omega) | omega, by first | exact Nat.le_of_ble_eq_true rfl | (dsimp only; omega) | omega⟩ rfl (fun r9 h9 H locs hp hw => ?_)
            obtain ⟨r8, h8⟩ := hp
            subst r8
            subst h8
            refine W.eq (g2 := F0 m 56 ls [.int (bt t n q)]) rfl ?_
            exact z_iret hx hb hr hlocks hw (by have e9 : sk t n p = q := (by rw [← hsk]; exact sk_stop (fun h => by rw [← by_bl _ (hf q h).1, ← (hf q h).2]; simp [c_22, c_36])); rw [e9]; exact ⟨rfl, hq⟩) (by decide) (by decide) d_Scanner_next_56
          · -- 36: False
            refine lv_aload_n hx hb d_Scanner_next_39 rfl (lv_at hl 0 rfl) ?_
            refine lv_dup hx hb d_Scanner_next_40 rfl ?_
            refine z_get hx hb hts (z_lay i_Scanner) hown hK hw L0_sc rfl 2 (by decide) (z_in k_191 rfl) (fun _ h9 => h9) rfl d_Scanner_next_41 ?_
            refine lv_iconst (v := 1) hx hb d_Scanner_next_44 (by decide) ?_
            refine lv_iadd hx hb d_Scanner_next_45 ?_
            refine z_topi (y := nI (q + 1)) (nI_add q 1) ?_
            refine z_putf (ty := .int) hx hb hts (z_lay i_Scanner) t_Scanner t_Scanner_ok n_Scanner hown hK hw L0_sc rfl 2 (by decide) (z_in k_191 rfl) (fun _ h9 => h9) rfl (by decide +kernel) rfl rfl (Nat.le_of_ble_eq_true rfl) d_Scanner_next_46 (fun H locs hw => ?_)
            obtain ⟨h2, hh2⟩ : ∃ x9, z_put hL sc (6, 0) (.inr (7, [.ref b, .int (nI n), .int (nI (q + 1)), .int fa, .int ws, .int we])) = x9 := ⟨_, rfl⟩
            have hw : z_S g A s.heap h2 H locs := by rw [← hh2]; exact hw
            have f2_sc : h2 sc = some ((6, 0), .inr (7, [.ref b, .int (nI n), .int (nI (q + 1)), .int fa, .int ws, .int we])) := by rw [← hh2]; exact z_put_eq
            have f2_b : h2 b = some ((3, 0), .inl (g.2.1 0, len, .inl f)) := by rw [← hh2]; exact z_keep L0_sc L0_b (z_t1 (by decide))
            refine lv_goto (tgt := 0) hx hb d_Scanner_next_49 (by decide) ?_
            refine ih_0 (q + 1) h2 _ _ _ f2_sc f2_b (by rw [← hh2, ← hq, z_put_put]) (⟨by omega, by omega⟩) ((sk_step (p := q) (by omega) (by rw [← by_bl _ (hf q (by omega)).1, ← (hf q (by omega)).2]; simp [c_36])).symm.trans hsk) ?_ hw (lv_sub hl [0] rfl)
            omega
  exact loop_0 (n - p + 1) p h _ _ _ hsc hb0 (z_put_self hsc) (⟨Nat.le_refl _, hp⟩) rfl (by omega) hw (lv_sub hl [0] rfl)

set_option maxHeartbeats 4000000 in
set_option maxRecDepth 100000 in
theorem c_Scanner_failHere (l : Launch) (g : z_G) (h : z_H) {sc b n p : Nat} {fa ws we : Int32} (hsc : h sc = some ((6, 0), .inr (7, [.ref b, .int (nI n), .int (nI p), .int fa, .int ws, .int we])))  : z_C l y_Scanner_failHere prog_8_method_8_code 1 (Option.some Jvm.ClassFile.FieldType.boolean) 1 22 0 0 g [.ref sc] h (fun r h1 => r = some (.int 0) ∧ z_put h sc (6, 0) (.inr (7, [.ref b, .int (nI n), .int (nI p), .int (nI p), .int (ws), .int (we)])) = h1) := by
  refine z_C.of (by decide) (Nat.le_of_ble_eq_true rfl) (fun pg en s m below meth cd A ls hx hb hml hr hts hown hlocks hnm hK hE hA hw hl => ?_)
  have hl : lv_has ls 1 [(0, .ref sc)] := hl
  refine lv_aload_n hx hb d_Scanner_failHere_0 rfl (lv_at hl 0 rfl) ?_
  refine lv_aload_n hx hb d_Scanner_failHere_1 rfl (lv_at hl 0 rfl) ?_
  refine z_get hx hb hts (z_lay i_Scanner) hown hK hw hsc rfl 2 (by decide) (z_in k_191 rfl) (fun _ h9 => h9) rfl d_Scanner_failHere_2 ?_
  refine z_callV (n := 1) (As := [.int (nI p)]) (rest := []) ⟨hx, hb, hml, hown, hts⟩ (c_Scanner_fail l g h hsc) (z_in k_262 rfl) (z_in k_8 rfl) (z_in k_259 rfl) (z_in k_260 rfl) (z_in k_261 rfl) (by decide +kernel) ⟨by first | exact Nat.le_of_ble_eq_true rfl | (dsimp only; omega) | omega, by first | exact Nat.le_of_ble_eq_true rfl | (dsimp only; omega) | omega⟩ hK hE hw hA rfl hsc rfl hl.1 (Nat.le_of_ble_eq_true rfl) d_Scanner_failHere_5 ⟨by first | exact Nat.le_of_ble_eq_true rfl | (dsimp only; omega) | omega, by first | exact Nat.le_of_ble_eq_true rfl | (dsimp only; omega) | omega⟩ rfl (fun r9 h9 H locs hp hw => ?_)
  obtain ⟨r8, hh1⟩ := hp
  subst r8
  obtain ⟨h1, e8⟩ : ∃ x9, x9 = h9 := ⟨_, rfl⟩
  subst e8
  have f1_sc : h1 sc = some ((6, 0), .inr (7, [.ref b, .int (nI n), .int (nI p), .int (nI p), .int ws, .int we])) := by rw [← hh1]; exact z_put_eq
  refine W.eq (g2 := F0 m 8 ls [.int 0]) rfl ?_
  exact z_zret hx hb hr rfl hlocks hw ⟨rfl, hh1⟩ (by decide) (by decide) d_Scanner_failHere_8

set_option maxHeartbeats 4000000 in
set_option maxRecDepth 100000 in
theorem c_Scanner_failAtWord (l : Launch) (g : z_G) (h : z_H) {sc b n p : Nat} {fa ws we : Int32} (hsc : h sc = some ((6, 0), .inr (7, [.ref b, .int (nI n), .int (nI p), .int fa, .int ws, .int we])))  : z_C l y_Scanner_failAtWord prog_8_method_9_code 1 (Option.some Jvm.ClassFile.FieldType.boolean) 1 22 0 0 g [.ref sc] h (fun r h1 => r = some (.int 0) ∧ z_put h sc (6, 0) (.inr (7, [.ref b, .int (nI n), .int (nI p), .int (ws), .int (ws), .int (we)])) = h1) := by
  refine z_C.of (by decide) (Nat.le_of_ble_eq_true rfl) (fun pg en s m below meth cd A ls hx hb hml hr hts hown hlocks hnm hK hE hA hw hl => ?_)
  have hl : lv_has ls 1 [(0, .ref sc)] := hl
  refine lv_aload_n hx hb d_Scanner_failAtWord_0 rfl (lv_at hl 0 rfl) ?_
  refine lv_aload_n hx hb d_Scanner_failAtWord_1 rfl (lv_at hl 0 rfl) ?_
  refine z_get hx hb hts (z_lay i_Scanner) hown hK hw hsc rfl 4 (by decide) (z_in k_196 rfl) (fun _ h9 => h9) rfl d_Scanner_failAtWord_2 ?_
  refine z_callV (n := 1) (As := [.int ws]) (rest := []) ⟨hx, hb, hml, hown, hts⟩ (c_Scanner_fail l g h hsc) (z_in k_262 rfl) (z_in k_8 rfl) (z_in k_259 rfl) (z_in k_260 rfl) (z_in k_261 rfl) (by decide +kernel) ⟨by first | exact Nat.le_of_ble_eq_true rfl | (dsimp only; omega) | omega, by first | exact Nat.le_of_ble_eq_true rfl | (dsimp only; omega) | omega⟩ hK hE hw hA rfl hsc rfl hl.1 (Nat.le_of_ble_eq_true rfl) d_Scanner_failAtWord_5 ⟨by first | exact Nat.le_of_ble_eq_true rfl | (dsimp only; omega) | omega, by first | exact Nat.le_of_ble_eq_true rfl | (dsimp only; omega) | omega⟩ rfl (fun r9 h9 H locs hp hw => ?_)
  obtain ⟨r8, hh1⟩ := hp
  subst r8
  obtain ⟨h1, e8⟩ : ∃ x9, x9 = h9 := ⟨_, rfl⟩
  subst e8
  have f1_sc : h1 sc = some ((6, 0), .inr (7, [.ref b, .int (nI n), .int (nI p), .int ws, .int ws, .int we])) := by rw [← hh1]; exact z_put_eq
  refine W.eq (g2 := F0 m 8 ls [.int 0]) rfl ?_
  exact z_zret hx hb hr rfl hlocks hw ⟨rfl, hh1⟩ (by decide) (by decide) d_Scanner_failAtWord_8

set_option maxHeartbeats 4000000 in
set_option maxRecDepth 100000 in
theorem c_Scanner_isOfWord (l : Launch) (g : z_G) (h : z_H) {k : Int32}   : z_C l y_Scanner_isOfWord prog_8_method_16_code 1 (Option.some Jvm.ClassFile.FieldType.boolean) 1 20 0 0 g [.int k] h (fun r h1 => r = some (.int (zb (isWd k))) ∧ h = h1) := by
  refine z_C.of (by decide) (Nat.le_of_ble_eq_true rfl) (fun pg en s m below meth cd A ls hx hb hml hr hts hown hlocks hnm hK hE hA hw hl => ?_)
  have hl : lv_has ls 1 [(0, .int k)] := hl
  refine lv_iload_n hx hb d_Scanner_isOfWord_0 rfl (lv_at hl 0 rfl) ?_
  refine z_callS (n := 1) (As := [.int k]) (rest := []) ⟨hx, hb, hml, hown, hts⟩ (c_Scanner_isLetter l g h) (z_in k_254 rfl) (z_in k_8 rfl) (z_in k_252 rfl) (z_in k_253 rfl) (by decide +kernel) ⟨by first | exact Nat.le_of_ble_eq_true rfl | (dsimp only; omega) | omega, by first | exact Nat.le_of_ble_eq_true rfl | (dsimp only; omega) | omega⟩ hK hE hw hA rfl hl.1 (Nat.le_of_ble_eq_true rfl) d_Scanner_isOfWord_1 ⟨by first | exact Nat.le_of_ble_eq_true rfl | (dsimp only; omega) | omega, by first | exact Nat.le_of_ble_eq_true rfl | (dsimp only; omega) | omega⟩ rfl (fun r9 h9 H locs hp hw => ?_)
  obtain ⟨r8, h8⟩ := hp
  subst r8
  subst h8
  refine W.eq (g2 := F0 m 4 ls [.int (zb (isLet k))]) rfl ?_
  refine lv_if_ne (tgt := 20) hx hb d_Scanner_isOfWord_4 (by decide) (fun c_4 => ?_) (fun c_4 => ?_)
  · -- 4: True
    have c_4 : (isLet k) = true := zb_t c_4
    refine lv_iconst (v := 1) hx hb d_Scanner_isOfWord_20 (by decide) ?_
    refine lv_goto (tgt := 25) hx hb d_Scanner_isOfWord_21 (by decide) ?_
    exact z_zret hx hb hr rfl hlocks hw (by refine ⟨congrArg some (congrArg Value.int ?_), rfl⟩; simp [zb, isWd, c_4]) (by decide) (by decide) d_Scanner_isOfWord_25
  · -- 4: False
    have c_4 : (isLet k) = false := zb_f c_4
    refine lv_iload_n hx hb d_Scanner_isOfWord_7 rfl (lv_at hl 0 rfl) ?_
    refine z_callS (n := 1) (As := [.int k]) (rest := []) ⟨hx, hb, hml, hown, hts⟩ (c_Scanner_isDigit l g h) (z_in k_268 rfl) (z_in k_8 rfl) (z_in k_266 rfl) (z_in k_267 rfl) (by decide +kernel) ⟨by first | exact Nat.le_of_ble_eq_true rfl | (dsimp only; omega) | omega, by first | exact Nat.le_of_ble_eq_true rfl | (dsimp only; omega) | omega⟩ hK hE hw hA rfl hl.1 (Nat.le_of_ble_eq_true rfl) d_Scanner_isOfWord_8 ⟨by first | exact Nat.le_of_ble_eq_true rfl | (dsimp only; omega) | omega, by first | exact Nat.le_of_ble_eq_true rfl | (dsimp only; omega) | omega⟩ rfl (fun r9 h9 H locs hp hw => ?_)
    obtain ⟨r8, h8⟩ := hp
    subst r8
    subst h8
    refine W.eq (g2 := F0 m 11 ls [.int (zb (isDig k))]) rfl ?_
    refine lv_if_ne (tgt := 20) hx hb d_Scanner_isOfWord_11 (by decide) (fun c_11 => ?_) (fun c_11 => ?_)
    · -- 11: True
      have c_11 : (isDig k) = true := zb_t c_11
      refine lv_iconst (v := 1) hx hb d_Scanner_isOfWord_20 (by decide) ?_
      refine lv_goto (tgt := 25) hx hb d_Scanner_isOfWord_21 (by decide) ?_
      exact z_zret hx hb hr rfl hlocks hw (by refine ⟨congrArg some (congrArg Value.int ?_), rfl⟩; simp [zb, isWd, c_4, c_11]) (by decide) (by decide) d_Scanner_isOfWord_25
    · -- 11: False
      have c_11 : (isDig k) = false := zb_f c_11
      refine lv_iload_n hx hb d_Scanner_isOfWord_14 rfl (lv_at hl 0 rfl) ?_
      refine lv_bipush (v := 95) hx hb d_Scanner_isOfWord_15 (by decide) ?_
      refine lv_icmp_ne (tgt := 24) hx hb d_Scanner_isOfWord_17 (by decide) (fun c_17 => ?_) (fun c_17 => ?_)
      · -- 17: True
        refine lv_iconst (v := 0) hx hb d_Scanner_isOfWord_24 (by decide) ?_
        exact z_zret hx hb hr rfl hlocks hw (by refine ⟨congrArg some (congrArg Value.int ?_), rfl⟩; simp [zb, isWd, c_4, c_11, c_17]) (by decide) (by decide) d_Scanner_isOfWord_25
      · -- 17: False
        refine lv_iconst (v := 1) hx hb d_Scanner_isOfWord_20 (by decide) ?_
        refine lv_goto (tgt := 25) hx hb d_Scanner_isOfWord_21 (by decide) ?_
        exact z_zret hx hb hr rfl hlocks hw (by refine ⟨congrArg some (congrArg Value.int ?_), rfl⟩; simp [zb, isWd, c_4, c_11, c_17]) (by decide) (by decide) d_Scanner_isOfWord_25

/-- what takeSign does, from the place q of the next sign -/
def tSg (h : z_H) (sc b n : Nat) (t : Nat → Nat) (ws we fa k : Int32) (q : Nat) (r : Option Value) (h1 : z_H) : Prop :=
  if bt t n q = k then r = some (.int 1) ∧ z_put h sc (6, 0) (.inr (7, [.ref b, .int (nI n), .int (nI (q + 1)), .int (fa), .int (ws), .int (we)])) = h1
  else r = some (.int 0) ∧ z_put h sc (6, 0) (.inr (7, [.ref b, .int (nI n), .int (nI q), .int (nI q), .int (ws), .int (we)])) = h1
def tEn (h : z_H) (sc b n : Nat) (t : Nat → Nat) (ws we fa : Int32) (q : Nat) (r : Option Value) (h1 : z_H) : Prop :=
  if bt t n q = -1 then r = some (.int 1) ∧ z_put h sc (6, 0) (.inr (7, [.ref b, .int (nI n), .int (nI q), .int (fa), .int (ws), .int (we)])) = h1
  else r = some (.int 0) ∧ z_put h sc (6, 0) (.inr (7, [.ref b, .int (nI n), .int (nI q), .int (nI q), .int (ws), .int (we)])) = h1

set_option maxHeartbeats 4000000 in
set_option maxRecDepth 100000 in
theorem c_Scanner_takeSign (l : Launch) (g : z_G) (h : z_H) {sc b len n p : Nat} {f : Nat → Int32} {fa ws we : Int32} {t : Nat → Nat} {k : Int32} (hsc : h sc = some ((6, 0), .inr (7, [.ref b, .int (nI n), .int (nI p), .int fa, .int ws, .int we]))) (hb0 : h b = some ((3, 0), .inl (g.2.1 0, len, .inl f))) (hn : n ≤ len) (hlen : len < 2 ^ 31) (hf : ∀ k, k < n → t k < 256 ∧ f k = sb_b (t k)) (hp : p ≤ n) : z_C l y_Scanner_takeSign prog_8_method_10_code 2 (Option.some Jvm.ClassFile.FieldType.boolean) 2 42 0 0 g [.ref sc, .int k] h (tSg h sc b n t ws we fa k (sk t n p)) := by
  refine z_C.of (by decide) (Nat.le_of_ble_eq_true rfl) (fun pg en s m below meth cd A ls hx hb hml hr hts hown hlocks hnm hK hE hA hw hl => ?_)
  have hl : lv_has ls 2 [(0, .ref sc), (1, .int k)] := hl
  have sk1 := sk_le (t := t) hp
  have sk2 := sk_ge t n p
  refine lv_aload_n hx hb d_Scanner_takeSign_0 rfl (lv_at hl 0 rfl) ?_
  refine z_callV (n := 0) (As := []) (rest := []) ⟨hx, hb, hml, hown, hts⟩ (c_Scanner_next l g h hsc hb0 hn hlen hf (by omega)) (z_in k_234 rfl) (z_in k_8 rfl) (z_in k_251 rfl) (z_in k_232 rfl) (z_in k_233 rfl) (by decide +kernel) ⟨by first | exact Nat.le_of_ble_eq_true rfl | (dsimp only; omega) | omega, by first | exact Nat.le_of_ble_eq_true rfl | (dsimp only; omega) | omega⟩ hK hE hw hA rfl hsc rfl hl.1 (Nat.le_of_ble_eq_true rfl) d_Scanner_takeSign_1 ⟨by first | exact Nat.le_of_ble_eq_true rfl | (dsimp only; omega) | omega, by first | exact Nat.le_of_ble_eq_true rfl | (dsimp only; omega) | omega⟩ rfl (fun r9 h9 H locs hp hw => ?_)
  obtain ⟨r8, hh1⟩ := hp
  subst r8
  obtain ⟨h1, e8⟩ : ∃ x9, x9 = h9 := ⟨_, rfl⟩
  subst e8
  have f1_sc : h1 sc = some ((6, 0), .inr (7, [.ref b, .int (nI n), .int (nI (sk t n p)), .int fa, .int ws, .int we])) := by rw [← hh1]; exact z_put_eq
  have f1_b : h1 b = some ((3, 0), .inl (g.2.1 0, len, .inl f)) := by rw [← hh1]; exact z_keep hsc hb0 (z_t1 (by decide))
  refine W.eq (g2 := F0 m 4 ls [.int (bt t n (sk t n p))]) rfl ?_
  refine lv_iload_n hx hb d_Scanner_takeSign_4 rfl (lv_at hl 1 rfl) ?_
  refine lv_icmp_eq (tgt := 13) hx hb d_Scanner_takeSign_5 (by decide) (fun c_5 => ?_) (fun c_5 => ?_)
  · -- 5: True
    refine lv_aload_n hx hb d_Scanner_takeSign_13 rfl (lv_at hl 0 rfl) ?_
    refine lv_dup hx hb d_Scanner_takeSign_14 rfl ?_
    refine z_get hx hb hts (z_lay i_Scanner) hown hK hw f1_sc rfl 2 (by decide) (z_in k_191 rfl) (fun _ h9 => h9) rfl d_Scanner_takeSign_15 ?_
    refine lv_iconst (v := 1) hx hb d_Scanner_takeSign_18 (by decide) ?_
    refine lv_iadd hx hb d_Scanner_takeSign_19 ?_
    refine z_topi (y := nI ((sk t n p) + 1)) (nI_add (sk t n p) 1) ?_
    refine z_putf (ty := .int) hx hb hts (z_lay i_Scanner) t_Scanner t_Scanner_ok n_Scanner hown hK hw f1_sc rfl 2 (by decide) (z_in k_191 rfl) (fun _ h9 => h9) rfl (by decide +kernel) rfl rfl (Nat.le_of_ble_eq_true rfl) d_Scanner_takeSign_20 (fun H locs hw => ?_)
    obtain ⟨h2, hh2⟩ : ∃ x9, z_put h1 sc (6, 0) (.inr (7, [.ref b, .int (nI n), .int (nI ((sk t n p) + 1)), .int fa, .int ws, .int we])) = x9 := ⟨_, rfl⟩
    have hw : z_S g A s.heap h2 H locs := by rw [← hh2]; exact hw
    have f2_sc : h2 sc = some ((6, 0), .inr (7, [.ref b, .int (nI n), .int (nI ((sk t n p) + 1)), .int fa, .int ws, .int we])) := by rw [← hh2]; exact z_put_eq
    have f2_b : h2 b = some ((3, 0), .inl (g.2.1 0, len, .inl f)) := by rw [← hh2]; exact z_keep f1_sc f1_b (z_t1 (by decide))
    refine lv_iconst (v := 1) hx hb d_Scanner_takeSign_23 (by decide) ?_
    exact z_zret hx hb hr rfl hlocks hw (by unfold tSg; rw [if_pos c_5]; exact ⟨rfl, by rw [← hh2, ← hh1, z_put_put]⟩) (by decide) (by decide) d_Scanner_takeSign_24
  · -- 5: False
    refine lv_aload_n hx hb d_Scanner_takeSign_8 rfl (lv_at hl 0 rfl) ?_
    refine z_callV (n := 0) (As := []) (rest := []) ⟨hx, hb, hml, hown, hts⟩ (c_Scanner_failHere l g h1 f1_sc) (z_in k_258 rfl) (z_in k_8 rfl) (z_in k_255 rfl) (z_in k_256 rfl) (z_in k_257 rfl) (by decide +kernel) ⟨by first | exact Nat.le_of_ble_eq_true rfl | (dsimp only; omega) | omega, by first | exact Nat.le_of_ble_eq_true rfl | (dsimp only; omega) | omega⟩ hK hE hw hA rfl f1_sc rfl hl.1 (Nat.le_of_ble_eq_true rfl) d_Scanner_takeSign_9 ⟨by first | exact Nat.le_of_ble_eq_true rfl | (dsimp only; omega) | omega, by first | exact Nat.le_of_ble_eq_true rfl | (dsimp only; omega) | omega⟩ rfl (fun r9 h9 H locs hp hw => ?_)
    obtain ⟨r8, hh3⟩ := hp
    subst r8
    obtain ⟨h3, e8⟩ : ∃ x9, x9 = h9 := ⟨_, rfl⟩
    subst e8
    have f3_sc : h3 sc = some ((6, 0), .inr (7, [.ref b, .int (nI n), .int (nI (sk t n p)), .int (nI (sk t n p)), .int ws, .int we])) := by rw [← hh3]; exact z_put_eq
    have f3_b : h3 b = some ((3, 0), .inl (g.2.1 0, len, .inl f)) := by rw [← hh3]; exact z_keep f1_sc f1_b (z_t1 (by decide))
    refine W.eq (g2 := F0 m 12 ls [.int 0]) rfl ?_
    exact z_zret hx hb hr rfl hlocks hw (by unfold tSg; rw [if_neg c_5]; exact ⟨rfl, by rw [← hh3, ← hh1, z_put_put]⟩) (by decide) (by decide) d_Scanner_takeSign_12

set_option maxHeartbeats 4000000 in
set_option maxRecDepth 100000 in
theorem c_Scanner_takeEnd (l : Launch) (g : z_G) (h : z_H) {sc b len n p : Nat} {f : Nat → Int32} {fa ws we : Int32} {t : Nat → Nat} (hsc : h sc = some ((6, 0), .inr (7, [.ref b, .int (nI n), .int (nI p), .int fa, .int ws, .int we]))) (hb0 : h b = some ((3, 0), .inl (g.2.1 0, len, .inl f))) (hn : n ≤ len) (hlen : len < 2 ^ 31) (hf : ∀ k, k < n → t k < 256 ∧ f k = sb_b (t k)) (hp : p ≤ n) : z_C l y_Scanner_takeEnd prog_8_method_12_code 1 (Option.some Jvm.ClassFile.FieldType.boolean) 2 42 0 0 g [.ref sc] h (tEn h sc b n t ws we fa (sk t n p)) := by
  refine z_C.of (by decide) (Nat.le_of_ble_eq_true rfl) (fun pg en s m below meth cd A ls hx hb hml hr hts hown hlocks hnm hK hE hA hw hl => ?_)
  have hl : lv_has ls 1 [(0, .ref sc)] := hl
  have sk1 := sk_le (t := t) hp
  have sk2 := sk_ge t n p
  refine lv_aload_n hx hb d_Scanner_takeEnd_0 rfl (lv_at hl 0 rfl) ?_
  refine z_callV (n := 0) (As := []) (rest := []) ⟨hx, hb, hml, hown, hts⟩ (c_Scanner_next l g h hsc hb0 hn hlen hf (by omega)) (z_in k_234 rfl) (z_in k_8 rfl) (z_in k_251 rfl) (z_in k_232 rfl) (z_in k_233 rfl) (by decide +kernel) ⟨by first | exact Nat.le_of_ble_eq_true rfl | (dsimp only; omega) | omega, by first | exact Nat.le_of_ble_eq_true rfl | (dsimp only; omega) | omega⟩ hK hE hw hA rfl hsc rfl hl.1 (Nat.le_of_ble_eq_true rfl) d_Scanner_takeEnd_1 ⟨by first | exact Nat.le_of_ble_eq_true rfl | (dsimp only; omega) | omega, by first | exact Nat.le_of_ble_eq_true rfl | (dsimp only; omega) | omega⟩ rfl (fun r9 h9 H locs hp hw => ?_)
  obtain ⟨r8, hh1⟩ := hp
  subst r8
  obtain ⟨h1, e8⟩ : ∃ x9, x9 = h9 := ⟨_, rfl⟩
  subst e8
  have f1_sc : h1 sc = some ((6, 0), .inr (7, [.ref b, .int (nI n), .int (nI (sk t n p)), .int fa, .int ws, .int we])) := by rw [← hh1]; exact z_put_eq
  have f1_b : h1 b = some ((3, 0), .inl (g.2.1 0, len, .inl f)) := by rw [← hh1]; exact z_keep hsc hb0 (z_t1 (by decide))
  refine W.eq (g2 := F0 m 4 ls [.int (bt t n (sk t n p))]) rfl ?_
  refine lv_iconst (v := (-1)) hx hb d_Scanner_takeEnd_4 (by decide) ?_
  refine lv_icmp_eq (tgt := 15) hx hb d_Scanner_takeEnd_5 (by decide) (fun c_5 => ?_) (fun c_5 => ?_)
  · -- 5: True
    refine lv_iconst (v := 1) hx hb d_Scanner_takeEnd_15 (by decide) ?_
    refine lv_goto (tgt := 20) hx hb d_Scanner_takeEnd_16 (by decide) ?_
    exact z_zret hx hb hr rfl hlocks hw (by unfold tEn; rw [if_pos c_5]; exact ⟨rfl, by rw [← hh1]⟩) (by decide) (by decide) d_Scanner_takeEnd_20
  · -- 5: False
    refine lv_aload_n hx hb d_Scanner_takeEnd_8 rfl (lv_at hl 0 rfl) ?_
    refine z_callV (n := 0) (As := []) (rest := []) ⟨hx, hb, hml, hown, hts⟩ (c_Scanner_failHere l g h1 f1_sc) (z_in k_258 rfl) (z_in k_8 rfl) (z_in k_255 rfl) (z_in k_256 rfl) (z_in k_257 rfl) (by decide +kernel) ⟨by first | exact Nat.le_of_ble_eq_true rfl | (dsimp only; omega) | omega, by first | exact Nat.le_of_ble_eq_true rfl | (dsimp only; omega) | omega⟩ hK hE hw hA rfl f1_sc rfl hl.1 (Nat.le_of_ble_eq_true rfl) d_Scanner_takeEnd_9 ⟨by first | exact Nat.le_of_ble_eq_true rfl | (dsimp only; omega) | omega, by first | exact Nat.le_of_ble_eq_true rfl | (dsimp only; omega) | omega⟩ rfl (fun r9 h9 H locs hp hw => ?_)
    obtain ⟨r8, hh2⟩ := hp
    subst r8
    obtain ⟨h2, e8⟩ : ∃ x9, x9 = h9 := ⟨_, rfl⟩
    subst e8
    have f2_sc : h2 sc = some ((6, 0), .inr (7, [.ref b, .int (nI n), .int (nI (sk t n p)), .int (nI (sk t n p)), .int ws, .int we])) := by rw [← hh2]; exact z_put_eq
    have f2_b : h2 b = some ((3, 0), .inl (g.2.1 0, len, .inl f)) := by rw [← hh2]; exact z_keep f1_sc f1_b (z_t1 (by decide))
    refine W.eq (g2 := F0 m 12 ls [.int 0]) rfl ?_
    refine lv_if_eq (tgt := 19) hx hb d_Scanner_takeEnd_12 (by decide) (fun c_12 => ?_) (fun c_12 => ?_)
    · -- 12: True
      refine lv_iconst (v := 0) hx hb d_Scanner_takeEnd_19 (by decide) ?_
      exact z_zret hx hb hr rfl hlocks hw (by unfold tEn; rw [if_neg c_5]; exact ⟨rfl, by rw [← hh2, ← hh1, z_put_put]⟩) (by decide) (by decide) d_Scanner_takeEnd_20
    · -- 12: False
      exact absurd (by decide) c_12

/-- what takeWord does, from the place q of the next byte -/
def tWd (h : z_H) (sc b n : Nat) (t : Nat → Nat) (ws wd fa : Int32) (q : Nat) (r : Option Value) (h1 : z_H) : Prop :=
  if isLet (bt t n q) = true then r = some (.int 1) ∧ z_put h sc (6, 0) (.inr (7, [.ref b, .int (nI n), .int (nI (we t n q)), .int (fa), .int (nI q), .int (nI (we t n q))])) = h1
  else r = some (.int 0) ∧ z_put h sc (6, 0) (.inr (7, [.ref b, .int (nI n), .int (nI q), .int (nI q), .int (ws), .int (wd)])) = h1

set_option maxHeartbeats 4000000 in
set_option maxRecDepth 100000 in
theorem c_Scanner_takeWord (l : Launch) (g : z_G) (h : z_H) {sc b len n p : Nat} {f : Nat → Int32} {fa ws wd : Int32} {t : Nat → Nat} (hsc : h sc = some ((6, 0), .inr (7, [.ref b, .int (nI n), .int (nI p), .int fa, .int ws, .int wd]))) (hb0 : h b = some ((3, 0), .inl (g.2.1 0, len, .inl f))) (hn : n ≤ len) (hlen : len < 2 ^ 31) (hf : ∀ k, k < n → t k < 256 ∧ f k = sb_b (t k)) (hp : p ≤ n) : z_C l y_Scanner_takeWord prog_8_method_11_code 1 (Option.some Jvm.ClassFile.FieldType.boolean) 2 42 0 0 g [.ref sc] h (tWd h sc b n t ws wd fa (sk t n p)) := by
  refine z_C.of (by decide) (Nat.le_of_ble_eq_true rfl) (fun pg en s m below meth cd A ls hx hb hml hr hts hown hlocks hnm hK hE hA hw hl => ?_)
  have hl : lv_has ls 1 [(0, .ref sc)] := hl
  have sk1 := sk_le (t := t) hp
  have sk2 := sk_ge t n p
  refine lv_aload_n hx hb d_Scanner_takeWord_0 rfl (lv_at hl 0 rfl) ?_
  refine z_callV (n := 0) (As := []) (rest := []) ⟨hx, hb, hml, hown, hts⟩ (c_Scanner_next l g h hsc hb0 hn hlen hf (by omega)) (z_in k_234 rfl) (z_in k_8 rfl) (z_in k_251 rfl) (z_in k_232 rfl) (z_in k_233 rfl) (by decide +kernel) ⟨by first | exact Nat.le_of_ble_eq_true rfl | (dsimp only; omega) | omega, by first | exact Nat.le_of_ble_eq_true rfl | (dsimp only; omega) | omega⟩ hK hE hw hA rfl hsc rfl hl.1 (Nat.le_of_ble_eq_true rfl) d_Scanner_takeWord_1 ⟨by first | exact Nat.le_of_ble_eq_true rfl | (dsimp only; omega) | omega, by first | exact Nat.le_of_ble_eq_true rfl | (dsimp only; omega) | omega⟩ rfl (fun r9 h9 H locs hp hw => ?_)
  obtain ⟨r8, hh1⟩ := hp
  subst r8
  obtain ⟨h1, e8⟩ : ∃ x9, x9 = h9 := ⟨_, rfl⟩
  subst e8
  have f1_sc : h1 sc = some ((6, 0), .inr (7, [.ref b, .int (nI n), .int (nI (sk t n p)), .int fa, .int ws, .int wd])) := by rw [← hh1]; exact z_put_eq
  have f1_b : h1 b = some ((3, 0), .inl (g.2.1 0, len, .inl f)) := by rw [← hh1]; exact z_keep hsc hb0 (z_t1 (by decide))
  refine W.eq (g2 := F0 m 4 ls [.int (bt t n (sk t n p))]) rfl ?_
  refine z_callS (n := 1) (As := [.int (bt t n (sk t n p))]) (rest := []) ⟨hx, hb, hml, hown, hts⟩ (c_Scanner_isLetter l g h1) (z_in k_254 rfl) (z_in k_8 rfl) (z_in k_252 rfl) (z_in k_253 rfl) (by decide +kernel) ⟨by first | exact Nat.le_of_ble_eq_true rfl | (dsimp only; omega) | omega, by first | exact Nat.le_of_ble_eq_true rfl | (dsimp only; omega) | omega⟩ hK hE hw hA rfl hl.1 (Nat.le_of_ble_eq_true rfl) d_Scanner_takeWord_4 ⟨by first | exact Nat.le_of_ble_eq_true rfl | (dsimp only; omega) | omega, by first | exact Nat.le_of_ble_eq_true rfl | (dsimp only; omega) | omega⟩ rfl (fun r9 h9 H locs hp hw => ?_)
  obtain ⟨r8, h8⟩ := hp
  subst r8
  subst h8
  refine W.eq (g2 := F0 m 7 ls [.int (zb (isLet (bt t n (sk t n p))))]) rfl ?_
  refine lv_if_ne (tgt := 15) hx hb d_Scanner_takeWord_7 (by decide) (fun c_7 => ?_) (fun c_7 => ?_)
  · -- 7: True
    have c_7 : (isLet (bt t n (sk t n p))) = true := zb_t c_7
    refine lv_aload_n hx hb d_Scanner_takeWord_15 rfl (lv_at hl 0 rfl) ?_
    refine lv_aload_n hx hb d_Scanner_takeWord_16 rfl (lv_at hl 0 rfl) ?_
    refine z_get hx hb hts (z_lay i_Scanner) hown hK hw f1_sc rfl 2 (by decide) (z_in k_191 rfl) (fun _ h9 => h9) rfl d_Scanner_takeWord_17 ?_
    refine z_putf (ty := .int) hx hb hts (z_lay i_Scanner) t_Scanner t_Scanner_ok n_Scanner hown hK hw f1_sc rfl 4 (by decide) (z_in k_196 rfl) (fun _ h9 => h9) rfl (by decide +kernel) rfl rfl (Nat.le_of_ble_eq_true rfl) d_Scanner_takeWord_20 (fun H locs hw => ?_)
    obtain ⟨h2, hh2⟩ : ∃ x9, z_put h1 sc (6, 0) (.inr (7, [.ref b, .int (nI n), .int (nI (sk t n p)), .int fa, .int (nI (sk t n p)), .int wd])) = x9 := ⟨_, rfl⟩
    have hw : z_S g A s.heap h2 H locs := by rw [← hh2]; exact hw
    have f2_sc : h2 sc = some ((6, 0), .inr (7, [.ref b, .int (nI n), .int (nI (sk t n p)), .int fa, .int (nI (sk t n p)), .int wd])) := by rw [← hh2]; exact z_put_eq
    have f2_b : h2 b = some ((3, 0), .inl (g.2.1 0, len, .inl f)) := by rw [← hh2]; exact z_keep f1_sc f1_b (z_t1 (by decide))
    have loop_23 : ∀ (fuel : Nat) (q : Nat) (hL : z_H) (H : Heap) (locs : List Loc) (ls : Array Slot) (L23_sc : hL sc = some ((6, 0), .inr (7, [.ref b, .int (nI n), .int (nI q), .int fa, .int (nI (sk t n p)), .int wd]))) (L23_b : hL b = some ((3, 0), .inl (g.2.1 0, len, .inl f))) (hq : z_put h sc (6, 0) (.inr (7, [.ref b, .int (nI n), .int (nI q), .int (fa), .int (nI (sk t n p)), .int (wd)])) = hL) (hle : sk t n p ≤ q ∧ q ≤ n) (hwe : we t n q = we t n (sk t n p)), (n - q) < fuel → z_S g A s.heap hL H locs → lv_has ls 1 [(0, .ref sc)] → W pg l en { frames := 2, cells := 0, slots := 0, locals := 42 } s m [.ref sc].toArray below meth cd H locs 0 0 (MQ below (z_Q g A (tWd h sc b n t ws wd fa (sk t n p))) [.ref sc].toArray s 0 0 A) (F0 m 23 ls []) := by
      intro fuel
      induction fuel with
      | zero => intro q hL H locs ls L23_sc L23_b hq hle hwe hm; exact absurd hm (Nat.not_lt_zero _)
      | succ fuel ih_23 =>
        intro q hL H locs ls L23_sc L23_b hq hle hwe hm hw hl
        refine lv_aload_n hx hb d_Scanner_takeWord_23 rfl (lv_at hl 0 rfl) ?_
        refine z_get hx hb hts (z_lay i_Scanner) hown hK hw L23_sc rfl 2 (by decide) (z_in k_191 rfl) (fun _ h9 => h9) rfl d_Scanner_takeWord_24 ?_
        refine lv_aload_n hx hb d_Scanner_takeWord_27 rfl (lv_at hl 0 rfl) ?_
        refine z_get hx hb hts (z_lay i_Scanner) hown hK hw L23_sc rfl 1 (by decide) (z_in k_189 rfl) (fun _ h9 => h9) rfl d_Scanner_takeWord_28 ?_
        refine lv_icmp_ge (tgt := 62) hx hb d_Scanner_takeWord_31 (by decide) (fun c_31 => ?_) (fun c_31 => ?_)
        · -- 31: True
          have c_31 : n ≤ q := (nI_leI (a := n) (b := q) (by omega) (by omega)).mp c_31
          refine lv_aload_n hx hb d_Scanner_takeWord_62 rfl (lv_at hl 0 rfl) ?_
          refine lv_aload_n hx hb d_Scanner_takeWord_63 rfl (lv_at hl 0 rfl) ?_
          refine z_get hx hb hts (z_lay i_Scanner) hown hK hw L23_sc rfl 2 (by decide) (z_in k_191 rfl) (fun _ h9 => h9) rfl d_Scanner_takeWord_64 ?_
          refine z_putf (ty := .int) hx hb hts (z_lay i_Scanner) t_Scanner t_Scanner_ok n_Scanner hown hK hw L23_sc rfl 5 (by decide) (z_in k_200 rfl) (fun _ h9 => h9) rfl (by decide +kernel) rfl rfl (Nat.le_of_ble_eq_true rfl) d_Scanner_takeWord_67 (fun H locs hw => ?_)
          obtain ⟨h3, hh3⟩ : ∃ x9, z_put hL sc (6, 0) (.inr (7, [.ref b, .int (nI n), .int (nI q), .int fa, .int (nI (sk t n p)), .int (nI q)])) = x9 := ⟨_, rfl⟩
          have hw : z_S g A s.heap h3 H locs := by rw [← hh3]; exact hw
          have f3_sc : h3 sc = some ((6, 0), .inr (7, [.ref b, .int (nI n), .int (nI q), .int fa, .int (nI (sk t n p)), .int (nI q)])) := by rw [← hh3]; exact z_put_eq
          have f3_b : h3 b = some ((3, 0), .inl (g.2.1 0, len, .inl f)) := by rw [← hh3]; exact z_keep L23_sc L23_b (z_t1 (by decide))
          refine lv_iconst (v := 1) hx hb d_Scanner_takeWord_70 (by decide) ?_
          exact z_zret hx hb hr rfl hlocks hw (by have e9 : we t n (sk t n p) = q := (by rw [← hwe]; exact we_stop (fun h => absurd h (by omega))); unfold tWd; rw [if_pos c_7, e9]; exact ⟨rfl, by rw [← hh3, ← hq, z_put_put]⟩) (by decide) (by decide) d_Scanner_takeWord_71
        · -- 31: False
          have c_31 : ¬ (n ≤ q) := fun z => c_31 ((nI_leI (a := n) (b := q) (by omega) (by omega)).mpr z)
          refine lv_aload_n hx hb d_Scanner_takeWord_34 rfl (lv_at hl 0 rfl) ?_
          refine z_get hx hb hts (z_lay i_Scanner) hown hK hw L23_sc rfl 0 (by decide) (z_in k_188 rfl) (fun _ h9 => h9) rfl d_Scanner_takeWord_35 ?_
          refine lv_aload_n hx hb d_Scanner_takeWord_38 rfl (lv_at hl 0 rfl) ?_
          refine z_get hx hb hts (z_lay i_Scanner) hown hK hw L23_sc rfl 2 (by decide) (z_in k_191 rfl) (fun _ h9 => h9) rfl d_Scanner_takeWord_39 ?_
          refine z_bald hx hb hK hw L23_b 0 rfl (vp_in_nI (by omega) (by omega)) d_Scanner_takeWord_42 ?_
          refine z_topi (y := f q) (by rw [nI_clamp (by omega)]) ?_
          refine z_callS (n := 1) (As := [.int (f q)]) (rest := []) ⟨hx, hb, hml, hown, hts⟩ (c_Scanner_isOfWord l g hL) (z_in k_265 rfl) (z_in k_8 rfl) (z_in k_263 rfl) (z_in k_264 rfl) (by decide +kernel) ⟨by first | exact Nat.le_of_ble_eq_true rfl | (dsimp only; omega) | omega, by first | exact Nat.le_of_ble_eq_true rfl | (dsimp only; omega) | omega⟩ hK hE hw hA rfl hl.1 (Nat.le_of_ble_eq_true rfl) d_Scanner_takeWord_43 ⟨by first | exact Nat.le_of_ble_eq_true rfl | (dsimp only; omega) | omega, by first | exact Nat.le_of_ble_eq_true rfl | (dsimp only; omega) | omega⟩ rfl (fun r9 h9 H locs hp hw => ?_)
          obtain ⟨r8, h8⟩ := hp
          subst r8
          subst h8
          refine W.eq (g2 := F0 m 46 ls [.int (zb (isWd (f q)))]) rfl ?_
          refine lv_if_eq (tgt := 62) hx hb d_Scanner_takeWord_46 (by decide) (fun c_46 => ?_) (fun c_46 => ?_)
          · -- 46: True
            have c_46 : (isWd (f q)) = false := zb_f c_46
            refine lv_aload_n hx hb d_Scanner_takeWord_62 rfl (lv_at hl 0 rfl) ?_
            refine lv_aload_n hx hb d_Scanner_takeWord_63 rfl (lv_at hl 0 rfl) ?_
            refine z_get hx hb hts (z_lay i_Scanner) hown hK hw L23_sc rfl 2 (by decide) (z_in k_191 rfl) (fun _ h9 => h9) rfl d_Scanner_takeWord_64 ?_
            refine z_putf (ty := .int) hx hb hts (z_lay i_Scanner) t_Scanner t_Scanner_ok n_Scanner hown hK hw L23_sc rfl 5 (by decide) (z_in k_200 rfl) (fun _ h9 => h9) rfl (by decide +kernel) rfl rfl (Nat.le_of_ble_eq_true rfl) d_Scanner_takeWord_67 (fun H locs hw => ?_)
            obtain ⟨h4, hh4⟩ : ∃ x9, z_put hL sc (6, 0) (.inr (7, [.ref b, .int (nI n), .int (nI q), .int fa, .int (nI (sk t n p)), .int (nI q)])) = x9 := ⟨_, rfl⟩
            have hw : z_S g A s.heap h4 H locs := by rw [← hh4]; exact hw
            have f4_sc : h4 sc = some ((6, 0), .inr (7, [.ref b, .int (nI n), .int (nI q), .int fa, .int (nI (sk t n p)), .int (nI q)])) := by rw [← hh4]; exact z_put_eq
            have f4_b : h4 b = some ((3, 0), .inl (g.2.1 0, len, .inl f)) := by rw [← hh4]; exact z_keep L23_sc L23_b (z_t1 (by decide))
            refine lv_iconst (v := 1) hx hb d_Scanner_takeWord_70 (by decide) ?_
            exact z_zret hx hb hr rfl hlocks hw (by have e9 : we t n (sk t n p) = q := (by rw [← hwe]; exact we_stop (fun h => by rw [← (by_wd _ (hf q h).1).2, ← (hf q h).2]; exact c_46)); unfold tWd; rw [if_pos c_7, e9]; exact ⟨rfl, by rw [← hh4, ← hq, z_put_put]⟩) (by decide) (by decide) d_Scanner_takeWord_71
          · -- 46: False
            have c_46 : (isWd (f q)) = true := zb_t c_46
            refine lv_aload_n hx hb d_Scanner_takeWord_49 rfl (lv_at hl 0 rfl) ?_
            refine lv_dup hx hb d_Scanner_takeWord_50 rfl ?_
            refine z_get hx hb hts (z_lay i_Scanner) hown hK hw L23_sc rfl 2 (by decide) (z_in k_191 rfl) (fun _ h9 => h9) rfl d_Scanner_takeWord_51 ?_
            refine lv_iconst (v := 1) hx hb d_Scanner_takeWord_54 (by decide) ?_
            refine lv_iadd hx hb d_Scanner_takeWord_55 ?_
            refine z_topi (y := nI (q + 1)) (nI_add q 1) ?_
            refine z_putf (ty := .int) hx hb hts (z_lay i_Scanner) t_Scanner t_Scanner_ok n_Scanner hown hK hw L23_sc rfl 2 (by decide) (z_in k_191 rfl) (fun _ h9 => h9) rfl (by decide +kernel) rfl rfl (Nat.le_of_ble_eq_true rfl) d_Scanner_takeWord_56 (fun H locs hw => ?_)
            obtain ⟨h5, hh5⟩ : ∃ x9, z_put hL sc (6, 0) (.inr (7, [.ref b, .int (nI n), .int (nI (q + 1)), .int fa, .int (nI (sk t n p)), .int wd])) = x9 := ⟨_, rfl⟩
            have hw : z_S g A s.heap h5 H locs := by rw [← hh5]; exact hw
            have f5_sc : h5 sc = some ((6, 0), .inr (7, [.ref b, .int (nI n), .int (nI (q + 1)), .int fa, .int (nI (sk t n p)), .int wd])) := by rw [← hh5]; exact z_put_eq
            have f5_b : h5 b = some ((3, 0), .inl (g.2.1 0, len, .inl f)) := by rw [← hh5]; exact z_keep L23_sc L23_b (z_t1 (by decide))
            refine lv_goto (tgt := 23) hx hb d_Scanner_takeWord_59 (by decide) ?_
            refine ih_23 (q + 1) h5 _ _ _ f5_sc f5_b (by rw [← hh5, ← hq, z_put_put]) (⟨by omega, by omega⟩) ((we_step (p := q) (by omega) (by rw [← (by_wd _ (hf q (by omega)).1).2, ← (hf q (by omega)).2]; exact c_46)).symm.trans hwe) ?_ hw (lv_sub hl [0] rfl)
            omega
    exact loop_23 (n - (sk t n p) + 1) (sk t n p) h2 _ _ _ f2_sc f2_b (by rw [← hh2, ← hh1, z_put_put]) (⟨Nat.le_refl _, sk1⟩) rfl (by omega) hw (lv_sub hl [0] rfl)
  · -- 7: False
    have c_7 : (isLet (bt t n (sk t n p))) = false := zb_f c_7
    refine lv_aload_n hx hb d_Scanner_takeWord_10 rfl (lv_at hl 0 rfl) ?_
    refine z_callV (n := 0) (As := []) (rest := []) ⟨hx, hb, hml, hown, hts⟩ (c_Scanner_failHere l g h1 f1_sc) (z_in k_258 rfl) (z_in k_8 rfl) (z_in k_255 rfl) (z_in k_256 rfl) (z_in k_257 rfl) (by decide +kernel) ⟨by first | exact Nat.le_of_ble_eq_true rfl | (dsimp only; omega) | omega, by first | exact Nat.le_of_ble_eq_true rfl | (dsimp only; omega) | omega⟩ hK hE hw hA rfl f1_sc rfl hl.1 (Nat.le_of_ble_eq_true rfl) d_Scanner_takeWord_11 ⟨by first | exact Nat.le_of_ble_eq_true rfl | (dsimp only; omega) | omega, by first | exact Nat.le_of_ble_eq_true rfl | (dsimp only; omega) | omega⟩ rfl (fun r9 h9 H locs hp hw => ?_)
    obtain ⟨r8, hh6⟩ := hp
    subst r8
    obtain ⟨h6, e8⟩ : ∃ x9, x9 = h9 := ⟨_, rfl⟩
    subst e8
    have f6_sc : h6 sc = some ((6, 0), .inr (7, [.ref b, .int (nI n), .int (nI (sk t n p)), .int (nI (sk t n p)), .int ws, .int wd])) := by rw [← hh6]; exact z_put_eq
    have f6_b : h6 b = some ((3, 0), .inl (g.2.1 0, len, .inl f)) := by rw [← hh6]; exact z_keep f1_sc f1_b (z_t1 (by decide))
    refine W.eq (g2 := F0 m 14 ls [.int 0]) rfl ?_
    exact z_zret hx hb hr rfl hlocks hw (by unfold tWd; rw [if_neg (by rw [c_7]; decide)]; exact ⟨rfl, by rw [← hh6, ← hh1, z_put_put]⟩) (by decide) (by decide) d_Scanner_takeWord_14

set_option maxHeartbeats 4000000 in
set_option maxRecDepth 100000 in
theorem c_Scanner_init (l : Launch) (g : z_G) (h : z_H) {sc b n : Nat} {tg : Nat × Nat} (hsc : h sc = some (tg, .inr (7, [.null, .int 0, .int 0, .int 0, .int 0, .int 0])))  : z_C l y_Scanner_init prog_8_method_1_code 3 (Option.none : Option Jvm.ClassFile.FieldType) 1 12 0 0 g [.ref sc, .ref b, .int (nI n)] h (fun r h1 => r = none ∧ z_put h sc tg (.inr (7, [.ref b, .int (nI n), .int 0, .int (-1), .int 0, .int 0])) = h1) := by
  refine z_C.of (by decide) (Nat.le_of_ble_eq_true rfl) (fun pg en s m below meth cd A ls hx hb hml hr hts hown hlocks hnm hK hE hA hw hl => ?_)
  have hl : lv_has ls 3 [(0, .ref sc), (1, .ref b), (2, .int (nI n))] := hl
  refine lv_aload_n hx hb d_Scanner_init_0 rfl (lv_at hl 0 rfl) ?_
  refine W.objInit hx hb hown (hts _ (z_in k_187 rfl)) (hts _ (z_in k_26 rfl)) (hts _ (z_in k_27 rfl)) rfl (by rw [hml]; exact hl.1) rfl d_Scanner_init_1 (Nat.le_of_ble_eq_true rfl) (Nat.le_of_ble_eq_true rfl) ?_
  refine W.eq (g2 := F0 m 4 ls []) rfl ?_
  refine lv_aload_n hx hb d_Scanner_init_4 rfl (lv_at hl 0 rfl) ?_
  refine lv_aload_n hx hb d_Scanner_init_5 rfl (lv_at hl 1 rfl) ?_
  refine z_putF (ty := .array .byte) hx hb hts (z_lay i_Scanner) t_Scanner t_Scanner_ok n_Scanner hown hK hw hsc rfl 0 (by decide) (z_in k_188 rfl) (fun _ h9 => h9) rfl hnm rfl (by decide +kernel) rfl rfl (Nat.le_of_ble_eq_true rfl) d_Scanner_init_6 (fun H locs hw => ?_)
  obtain ⟨h1, hh1⟩ : ∃ x9, z_put h sc tg (.inr (7, [.ref b, .int 0, .int 0, .int 0, .int 0, .int 0])) = x9 := ⟨_, rfl⟩
  have hw : z_S g A s.heap h1 H locs := by rw [← hh1]; exact hw
  have f1_sc : h1 sc = some (tg, .inr (7, [.ref b, .int 0, .int 0, .int 0, .int 0, .int 0])) := by rw [← hh1]; exact z_put_eq
  refine lv_aload_n hx hb d_Scanner_init_9 rfl (lv_at hl 0 rfl) ?_
  refine lv_iload_n hx hb d_Scanner_init_10 rfl (lv_at hl 2 rfl) ?_
  refine z_putF (ty := .int) hx hb hts (z_lay i_Scanner) t_Scanner t_Scanner_ok n_Scanner hown hK hw f1_sc rfl 1 (by decide) (z_in k_189 rfl) (fun _ h9 => h9) rfl hnm rfl (by decide +kernel) rfl rfl (Nat.le_of_ble_eq_true rfl) d_Scanner_init_11 (fun H locs hw => ?_)
  obtain ⟨h2, hh2⟩ : ∃ x9, z_put h1 sc tg (.inr (7, [.ref b, .int (nI n), .int 0, .int 0, .int 0, .int 0])) = x9 := ⟨_, rfl⟩
  have hw : z_S g A s.heap h2 H locs := by rw [← hh2]; exact hw
  have f2_sc : h2 sc = some (tg, .inr (7, [.ref b, .int (nI n), .int 0, .int 0, .int 0, .int 0])) := by rw [← hh2]; exact z_put_eq
  refine lv_aload_n hx hb d_Scanner_init_14 rfl (lv_at hl 0 rfl) ?_
  refine lv_iconst (v := (-1)) hx hb d_Scanner_init_15 (by decide) ?_
  refine z_putf (ty := .int) hx hb hts (z_lay i_Scanner) t_Scanner t_Scanner_ok n_Scanner hown hK hw f2_sc rfl 3 (by decide) (z_in k_193 rfl) (fun _ h9 => h9) rfl (by decide +kernel) rfl rfl (Nat.le_of_ble_eq_true rfl) d_Scanner_init_16 (fun H locs hw => ?_)
  obtain ⟨h3, hh3⟩ : ∃ x9, z_put h2 sc tg (.inr (7, [.ref b, .int (nI n), .int 0, .int (-1), .int 0, .int 0])) = x9 := ⟨_, rfl⟩
  have hw : z_S g A s.heap h3 H locs := by rw [← hh3]; exact hw
  have f3_sc : h3 sc = some (tg, .inr (7, [.ref b, .int (nI n), .int 0, .int (-1), .int 0, .int 0])) := by rw [← hh3]; exact z_put_eq
  exact z_vret hx hb hr hlocks hw ⟨rfl, by rw [← hh3, ← hh2, ← hh1, z_put_put, z_put_put]⟩ (by decide) (by decide) d_Scanner_init_19

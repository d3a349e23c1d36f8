theorem c_put2 (l : Launch) (g : z_G) (h : z_H) {w j : Nat} {O : List Nat} {c : Int32} {b : Nat} (hO : OutB g h w j O) (hb9 : b < 256 ∧ c.toInt8.toInt32 = sb_b b) (hlen : O.length < 262144) (hj : j ≤ 8) : z_C l y_ByteRow_put prog_2_method_4_code 2 (Option.none : Option Jvm.ClassFile.FieldType) 2 70 (jf j (O ++ [b]).length - jf j O.length) (slj j (O ++ [b]).length - slj j O.length) g [.ref w, .int c] h (fun r h1 => r = none ∧ OutB g h1 w j (O ++ [b]) ∧ z_K (fun y => y = 4 ∨ y = 5) h h1) := by
  rw [show (O ++ [b]).length = O.length + 1 by simp]
  exact c_put l g h hO hb9 hlen hj
theorem nI_b : ∀ x, x < 256 → (nI x).toInt8.toInt32 = sb_b x := by decide +kernel
theorem sb_bb : ∀ x, x < 256 → (sb_b x).toInt8.toInt32 = sb_b x := by decide +kernel
theorem take_succ' (l : List Nat) {k : Nat} (hk : k < l.length) : l.take (k + 1) = l.take k ++ [l.getD k 0] := by
  rw [List.take_add_one, List.getElem?_eq_getElem hk]
  simp [List.getD_eq_getElem?_getD, List.getElem?_eq_getElem hk]
def wdO (i : Nat) : List Nat := (List.range (z_len.getD i 0)).map (sch i)
theorem wdO_len (i : Nat) : (wdO i).length = z_len.getD i 0 := by simp [wdO]
theorem wdO_get {i k : Nat} (h : k < z_len.getD i 0) : (wdO i).getD k 0 = sch i k := by
  unfold wdO
  rw [List.getD_eq_getElem?_getD, List.getElem?_map, List.getElem?_range h]
  rfl
def hxO (d : Nat) : Nat := if d < 10 then 48 + d else 87 + d
def tbO (c : Nat) : List Nat := if c < 32 ∨ 126 < c then [92, 120, hxO (c / 16), hxO (c % 16)] else if c = 39 ∨ c = 92 then [92, c] else [c]
theorem tbO_len (c : Nat) : 1 ≤ (tbO c).length ∧ (tbO c).length ≤ 4 := by
  unfold tbO
  split
  · exact ⟨by simp, by simp⟩
  · split
    · exact ⟨by simp, by simp⟩
    · exact ⟨by simp, by simp⟩
def tlO (l : List Nat) : List Nat := (l.map tbO).flatten
def txO (l : List Nat) : List Nat := [39] ++ tlO l ++ [39]
theorem tlO_app (a b : List Nat) : tlO (a ++ b) = tlO a ++ tlO b := by simp [tlO]
theorem tlO_one (c : Nat) : tlO [c] = tbO c := by simp [tlO]
theorem tlO_len (l : List Nat) : (tlO l).length ≤ 4 * l.length := by
  induction l with
  | nil => simp [tlO]
  | cons c l ih =>
    have h := (tbO_len c).2
    have e : tlO (c :: l) = tbO c ++ tlO l := by simp [tlO]
    rw [e, List.length_append, List.length_cons]
    omega
theorem tlO_take (l : List Nat) (k : Nat) : (tlO (l.take k)).length ≤ (tlO l).length := by
  have e : tlO l = tlO (l.take k) ++ tlO (l.drop k) := by rw [← tlO_app, List.take_append_drop]
  rw [e, List.length_append]
  omega

set_option maxHeartbeats 4000000 in
set_option maxRecDepth 100000 in
theorem c_putBytes (l : Launch) (g : z_G) (h : z_H) {wr q nw ow j : Nat} {O : List Nat} {nq : Nat} {tg : Nat × Nat} {lq : List Nat} {f : Nat → Int32} (hwr : h wr = some ((9, 0), .inr (10, [.ref q, .ref nw, .ref ow]))) (hnq : h nq = some (tg, .inl (g.2.1 0, lq.length, .inl f))) (hO : OutB g h ow j O) (hj : j ≤ 8) (hlen : O.length + lq.length ≤ 262144) (htg : tg.1 ≠ 4 ∧ tg.1 ≠ 5) (hlq : lq.length < 1000 ∧ ∀ k, k < lq.length → lq.getD k 0 < 256 ∧ f k = sb_b (lq.getD k 0)) : z_C l y_RecordWriter_putBytes prog_7_method_6_code 3 (Option.none : Option Jvm.ClassFile.FieldType) 3 100 (jf j (O ++ lq).length - jf j O.length) (slj j (O ++ lq).length - slj j O.length) g [.ref wr, .ref nq] h (fun x h1 => x = none ∧ OutB g h1 ow j (O ++ lq) ∧ z_K (fun y => y = 4 ∨ y = 5) h h1) := by
  refine z_C.of (by decide) (Nat.le_of_ble_eq_true rfl) (fun pg en s m below meth cd A ls hx hb hml hr hts hown hlocks hnm hK hE hA hw hl => ?_)
  have hl : lv_has ls 3 [(0, .ref wr), (1, .ref nq)] := hl
  have lX : (O ++ lq).length = O.length + lq.length := List.length_append
  have mX := jf_mono j (show O.length ≤ (O ++ lq).length by omega)
  have kk0 : z_K (fun y => y = 4 ∨ y = 5) h h := z_K.rf
  refine lv_iconst (v := 0) hx hb d_RecordWriter_putBytes_0 (by decide) ?_
  refine lv_istore_n (lv' := [(2, .int 0), (0, .ref wr), (1, .ref nq)]) hx hb d_RecordWriter_putBytes_1 rfl hl (by decide) rfl (fun ls hl => ?_)
  have loop_2 : ∀ (fuel : Nat) (k1 : Nat) (O1 : List Nat) (hL : z_H) (H : Heap) (locs : List Loc) (ls : Array Slot) (L2_wr : hL wr = some ((9, 0), .inr (10, [.ref q, .ref nw, .ref ow]))) (L2_nq : hL nq = some (tg, .inl (g.2.1 0, lq.length, .inl f))) (kkL : z_K (fun y => y = 4 ∨ y = 5) h hL) (oh1 : OutB g hL ow j O1) (le1 : k1 ≤ lq.length ∧ O1 = O ++ lq.take k1 ∧ O1.length = O.length + k1), (lq.length - k1) < fuel → z_S g A s.heap hL H locs → lv_has ls 3 [(0, .ref wr), (1, .ref nq), (2, .int (nI k1))] → W pg l en { frames := 3, cells := jf j (O ++ lq).length - jf j O.length, slots := slj j (O ++ lq).length - slj j O.length, locals := 100 } s m [.ref wr, .ref nq].toArray below meth cd H locs (jf j O1.length - jf j O.length) (slj j O1.length - slj j O.length) (MQ below (z_Q g A (fun x h1 => x = none ∧ OutB g h1 ow j (O ++ lq) ∧ z_K (fun y => y = 4 ∨ y = 5) h h1)) [.ref wr, .ref nq].toArray s (jf j (O ++ lq).length - jf j O.length) (slj j (O ++ lq).length - slj j O.length) A) (F0 m 2 ls []) := by
    intro fuel
    induction fuel with
    | zero => intro k1 O1 hL H locs ls L2_wr L2_nq kkL oh1 le1 hm; exact absurd hm (Nat.not_lt_zero _)
    | succ fuel ih_2 =>
      intro k1 O1 hL H locs ls L2_wr L2_nq kkL oh1 le1 hm hw hl
      have mk1 := jf_mono j (show O.length ≤ O1.length by omega)
      have mk2 := jf_mono j (show O1.length ≤ (O ++ lq).length by omega)
      refine lv_iload_n hx hb d_RecordWriter_putBytes_2 rfl (lv_at hl 2 rfl) ?_
      refine lv_aload_n hx hb d_RecordWriter_putBytes_3 rfl (lv_at hl 1 rfl) ?_
      refine z_alen hx hb hK hw L2_nq 0 rfl d_RecordWriter_putBytes_4 ?_
      refine lv_icmp_ge (tgt := 24) hx hb d_RecordWriter_putBytes_5 (by decide) (fun c_5 => ?_) (fun c_5 => ?_)
      · -- 5: True
        have c_5 : lq.length ≤ k1 := (nI_leI (a := lq.length) (b := k1) (by omega) (by omega)).mp c_5
        have eF : O1 = O ++ lq := by rw [le1.2.1, show k1 = lq.length by omega, List.take_length]
        have eJ : jf j O1.length = jf j (O ++ lq).length ∧ slj j O1.length = slj j (O ++ lq).length := ⟨congrArg (fun x => jf j x.length) eF, congrArg (fun x => slj j x.length) eF⟩
        exact z_vret hx hb hr hlocks hw ⟨rfl, eF ▸ oh1, kkL⟩ (by first | exact Nat.le_of_ble_eq_true rfl | (dsimp only; omega) | omega) (by first | exact Nat.le_of_ble_eq_true rfl | (dsimp only; omega) | omega) d_RecordWriter_putBytes_24
      · -- 5: False
        have c_5 : ¬ (lq.length ≤ k1) := fun z => c_5 ((nI_leI (a := lq.length) (b := k1) (by omega) (by omega)).mpr z)
        refine lv_aload_n hx hb d_RecordWriter_putBytes_8 rfl (lv_at hl 0 rfl) ?_
        refine z_get hx hb hts (z_lay i_RecordWriter) hown hK hw L2_wr rfl 2 (by decide) (z_in k_691 rfl) (fun _ h9 => h9) rfl d_RecordWriter_putBytes_9 ?_
        refine lv_aload_n hx hb d_RecordWriter_putBytes_12 rfl (lv_at hl 1 rfl) ?_
        refine lv_iload_n hx hb d_RecordWriter_putBytes_13 rfl (lv_at hl 2 rfl) ?_
        refine z_bald hx hb hK hw L2_nq 0 rfl (vp_in_nI (by omega) (by omega)) d_RecordWriter_putBytes_14 ?_
        refine z_topi (y := f k1) (by rw [nI_clamp (by omega)]) ?_
        obtain ⟨ob_1, f_1, how_1, -⟩ := id oh1
        have ln_1 : (O1 ++ ([lq.getD k1 0])).length = O1.length + ([lq.getD k1 0]).length := List.length_append
        simp only [List.length_cons, List.length_nil] at ln_1
        have ma_1 := jf_mono j (show O1.length ≤ (O1 ++ ([lq.getD k1 0])).length by omega)
        have mb_1 := jf_mono j (show (O1 ++ ([lq.getD k1 0])).length ≤ (O ++ lq).length by omega)
        refine z_callV (n := 1) (As := [.int (f k1)]) (rest := []) ⟨hx, hb, hml, hown, hts⟩ (c_put2 (O := O1) (b := lq.getD k1 0) l g hL oh1 ⟨(hlq.2 k1 (by omega)).1, by rw [(hlq.2 k1 (by omega)).2]; exact sb_bb _ (hlq.2 k1 (by omega)).1⟩ (by omega) hj) (z_in k_707 rfl) (z_in k_3 rfl) (z_in k_704 rfl) (z_in k_705 rfl) (z_in k_706 rfl) (by decide +kernel) ⟨by first | exact Nat.le_of_ble_eq_true rfl | (dsimp only; omega) | omega, by first | exact Nat.le_of_ble_eq_true rfl | (dsimp only; omega) | omega⟩ hK hE hw hA rfl how_1 rfl hl.1 (Nat.le_of_ble_eq_true rfl) d_RecordWriter_putBytes_15 ⟨by first | exact Nat.le_of_ble_eq_true rfl | (dsimp only; omega) | omega, by first | exact Nat.le_of_ble_eq_true rfl | (dsimp only; omega) | omega⟩ rfl (fun r9 h9 H locs hp hw => ?_)
        obtain ⟨r8, o8, k8⟩ := hp
        subst r8
        obtain ⟨h1, e7⟩ : ∃ x9, x9 = h9 := ⟨_, rfl⟩
        subst e7
        generalize eO_1 : O1 ++ ([lq.getD k1 0]) = O_1 at o8 ln_1 ma_1 mb_1 ⊢
        have oh_1 := o8
        have g1_wr : h1 wr = some ((9, 0), .inr (10, [.ref q, .ref nw, .ref ow])) := k8 _ _ _ L2_wr (by simp; try omega)
        have g1_nq : h1 nq = some (tg, .inl (g.2.1 0, lq.length, .inl f)) := k8 _ _ _ L2_nq (by simp; try omega)
        have kk1 : z_K (fun y => y = 4 ∨ y = 5) h h1 := kkL.tr k8
        refine W.eq (g2 := F0 m 18 ls []) rfl ?_
        refine lv_iinc (v := nI (k1 + 1)) (lv' := [(2, .int (nI (k1 + 1))), (0, .ref wr), (1, .ref nq)]) hx hb d_RecordWriter_putBytes_18 hl (k := 2) rfl (nI_1 k1) (by decide) rfl (fun ls hl => ?_)
        refine lv_goto (tgt := 2) hx hb d_RecordWriter_putBytes_21 (by decide) ?_
        refine W.widen (k := jf j O_1.length - jf j O.length) (n := slj j O_1.length - slj j O.length) (by first | exact Nat.le_of_ble_eq_true rfl | (dsimp only; omega) | omega) (by first | exact Nat.le_of_ble_eq_true rfl | (dsimp only; omega) | omega) ?_
        refine ih_2 (k1 + 1) O_1 h1 _ _ _ g1_wr g1_nq kk1 oh_1 (⟨by omega, by rw [← eO_1, le1.2.1, take_succ' lq (by omega), List.append_assoc], by omega⟩) ?_ hw (lv_sub hl [1, 2, 0] rfl)
        omega
  refine W.widen (k := jf j O.length - jf j O.length) (n := slj j O.length - slj j O.length) (by first | exact Nat.le_of_ble_eq_true rfl | (dsimp only; omega) | omega) (by first | exact Nat.le_of_ble_eq_true rfl | (dsimp only; omega) | omega) ?_
  exact loop_2 (lq.length - 0 + 1) 0 O h _ _ _ hwr hnq kk0 hO (⟨by omega, by simp, by omega⟩) (by omega) hw (lv_sub hl [1, 2, 0] rfl)

set_option maxHeartbeats 4000000 in
set_option maxRecDepth 100000 in
theorem c_putWord (l : Launch) (g : z_G) (h : z_H) {wr q nw ow j : Nat} {O : List Nat} {i : Nat} (hwr : h wr = some ((9, 0), .inr (10, [.ref q, .ref nw, .ref ow]))) (hO : OutB g h ow j O) (hj : j ≤ 8) (hlen : O.length + (wdO i).length ≤ 262144) (hi : i < 11) : z_C l y_RecordWriter_putWord prog_7_method_7_code 3 (Option.none : Option Jvm.ClassFile.FieldType) 5 120 (jf j (O ++ (wdO i)).length - jf j O.length) (slj j (O ++ (wdO i)).length - slj j O.length) g [.ref wr, .ref (g.2.2 (1 + i))] h (fun x h1 => x = none ∧ OutB g h1 ow j (O ++ (wdO i)) ∧ z_K (fun y => y = 4 ∨ y = 5) h h1) := by
  refine z_C.of (by decide) (Nat.le_of_ble_eq_true rfl) (fun pg en s m below meth cd A ls hx hb hml hr hts hown hlocks hnm hK hE hA hw hl => ?_)
  have hl : lv_has ls 3 [(0, .ref wr), (1, .ref (g.2.2 (1 + i)))] := hl
  have lX : (O ++ (wdO i)).length = O.length + (wdO i).length := List.length_append
  have mX := jf_mono j (show O.length ≤ (O ++ (wdO i)).length by omega)
  have hzl := (z_strs i hi).1
  have hwl := wdO_len i
  have kk0 : z_K (fun y => y = 4 ∨ y = 5) h h := z_K.rf
  refine lv_iconst (v := 0) hx hb d_RecordWriter_putWord_0 (by decide) ?_
  refine lv_istore_n (lv' := [(2, .int 0), (0, .ref wr), (1, .ref (g.2.2 (1 + i)))]) hx hb d_RecordWriter_putWord_1 rfl hl (by decide) rfl (fun ls hl => ?_)
  have loop_2 : ∀ (fuel : Nat) (k1 : Nat) (O1 : List Nat) (hL : z_H) (H : Heap) (locs : List Loc) (ls : Array Slot) (L2_wr : hL wr = some ((9, 0), .inr (10, [.ref q, .ref nw, .ref ow]))) (kkL : z_K (fun y => y = 4 ∨ y = 5) h hL) (oh1 : OutB g hL ow j O1) (le1 : k1 ≤ z_len.getD i 0 ∧ O1 = O ++ (wdO i).take k1 ∧ O1.length = O.length + k1), (z_len.getD i 0 - k1) < fuel → z_S g A s.heap hL H locs → lv_has ls 3 [(0, .ref wr), (1, .ref (g.2.2 (1 + i))), (2, .int (nI k1))] → W pg l en { frames := 5, cells := jf j (O ++ (wdO i)).length - jf j O.length, slots := slj j (O ++ (wdO i)).length - slj j O.length, locals := 120 } s m [.ref wr, .ref (g.2.2 (1 + i))].toArray below meth cd H locs (jf j O1.length - jf j O.length) (slj j O1.length - slj j O.length) (MQ below (z_Q g A (fun x h1 => x = none ∧ OutB g h1 ow j (O ++ (wdO i)) ∧ z_K (fun y => y = 4 ∨ y = 5) h h1)) [.ref wr, .ref (g.2.2 (1 + i))].toArray s (jf j (O ++ (wdO i)).length - jf j O.length) (slj j (O ++ (wdO i)).length - slj j O.length) A) (F0 m 2 ls []) := by
    intro fuel
    induction fuel with
    | zero => intro k1 O1 hL H locs ls L2_wr kkL oh1 le1 hm; exact absurd hm (Nat.not_lt_zero _)
    | succ fuel ih_2 =>
      intro k1 O1 hL H locs ls L2_wr kkL oh1 le1 hm hw hl
      have mk1 := jf_mono j (show O.length ≤ O1.length by omega)
      have mk2 := jf_mono j (show O1.length ≤ (O ++ (wdO i)).length by omega)
      refine lv_iload_n hx hb d_RecordWriter_putWord_2 rfl (lv_at hl 2 rfl) ?_
      refine lv_aload_n hx hb d_RecordWriter_putWord_3 rfl (lv_at hl 1 rfl) ?_
      refine z_callR (n := 0) (As := []) (rest := [.int (nI k1)]) ⟨hx, hb, hml, hown, hts⟩ (c_JS_length l g hL hi) (z_in k_277 rfl) (z_in k_10 rfl) (z_in k_741 rfl) (z_in k_275 rfl) (z_in k_276 rfl) (by decide +kernel) ⟨by first | exact Nat.le_of_ble_eq_true rfl | (dsimp only; omega) | omega, by first | exact Nat.le_of_ble_eq_true rfl | (dsimp only; omega) | omega⟩ hK hE hw hA (vk_recv (adK := fun i => g.2.2 (1 + i)) (i := i) hE.2.2.2.1 hi hw.2.2) rfl hl.1 (Nat.le_of_ble_eq_true rfl) d_RecordWriter_putWord_4 ⟨by first | exact Nat.le_of_ble_eq_true rfl | (dsimp only; omega) | omega, by first | exact Nat.le_of_ble_eq_true rfl | (dsimp only; omega) | omega⟩ rfl (fun r9 h9 H locs hp hw => ?_)
      obtain ⟨r8, h8⟩ := hp
      subst r8
      subst h8
      refine W.eq (g2 := F0 m 7 ls [.int (nI (z_len.getD i 0)), .int (nI k1)]) rfl ?_
      refine lv_icmp_ge (tgt := 28) hx hb d_RecordWriter_putWord_7 (by decide) (fun c_7 => ?_) (fun c_7 => ?_)
      · -- 7: True
        have c_7 : (z_len.getD i 0) ≤ k1 := (nI_leI (a := z_len.getD i 0) (b := k1) (by omega) (by omega)).mp c_7
        have eF : O1 = O ++ (wdO i) := by rw [le1.2.1, show k1 = (wdO i).length by omega, List.take_length]
        have eJ : jf j O1.length = jf j (O ++ (wdO i)).length ∧ slj j O1.length = slj j (O ++ (wdO i)).length := ⟨congrArg (fun x => jf j x.length) eF, congrArg (fun x => slj j x.length) eF⟩
        exact z_vret hx hb hr hlocks hw ⟨rfl, eF ▸ oh1, kkL⟩ (by first | exact Nat.le_of_ble_eq_true rfl | (dsimp only; omega) | omega) (by first | exact Nat.le_of_ble_eq_true rfl | (dsimp only; omega) | omega) d_RecordWriter_putWord_28
      · -- 7: False
        have c_7 : ¬ ((z_len.getD i 0) ≤ k1) := fun z => c_7 ((nI_leI (a := z_len.getD i 0) (b := k1) (by omega) (by omega)).mpr z)
        refine lv_aload_n hx hb d_RecordWriter_putWord_10 rfl (lv_at hl 0 rfl) ?_
        refine z_get hx hb hts (z_lay i_RecordWriter) hown hK hw L2_wr rfl 2 (by decide) (z_in k_691 rfl) (fun _ h9 => h9) rfl d_RecordWriter_putWord_11 ?_
        refine lv_aload_n hx hb d_RecordWriter_putWord_14 rfl (lv_at hl 1 rfl) ?_
        refine lv_iload_n hx hb d_RecordWriter_putWord_15 rfl (lv_at hl 2 rfl) ?_
        refine z_callR (n := 1) (As := [.int (nI k1)]) (rest := [.ref ow]) ⟨hx, hb, hml, hown, hts⟩ (c_JS_charAt l g hL hi (by omega)) (z_in k_291 rfl) (z_in k_10 rfl) (z_in k_742 rfl) (z_in k_289 rfl) (z_in k_290 rfl) (by decide +kernel) ⟨by first | exact Nat.le_of_ble_eq_true rfl | (dsimp only; omega) | omega, by first | exact Nat.le_of_ble_eq_true rfl | (dsimp only; omega) | omega⟩ hK hE hw hA (vk_recv (adK := fun i => g.2.2 (1 + i)) (i := i) hE.2.2.2.1 hi hw.2.2) rfl hl.1 (Nat.le_of_ble_eq_true rfl) d_RecordWriter_putWord_16 ⟨by first | exact Nat.le_of_ble_eq_true rfl | (dsimp only; omega) | omega, by first | exact Nat.le_of_ble_eq_true rfl | (dsimp only; omega) | omega⟩ rfl (fun r9 h9 H locs hp hw => ?_)
        obtain ⟨r8, h8⟩ := hp
        subst r8
        subst h8
        refine W.eq (g2 := F0 m 19 ls [.int (nI (sch i k1)), .ref ow]) rfl ?_
        obtain ⟨ob_1, f_1, how_1, -⟩ := id oh1
        have ln_1 : (O1 ++ ([sch i k1])).length = O1.length + ([sch i k1]).length := List.length_append
        simp only [List.length_cons, List.length_nil] at ln_1
        have ma_1 := jf_mono j (show O1.length ≤ (O1 ++ ([sch i k1])).length by omega)
        have mb_1 := jf_mono j (show (O1 ++ ([sch i k1])).length ≤ (O ++ (wdO i)).length by omega)
        refine z_callV (n := 1) (As := [.int (nI (sch i k1))]) (rest := []) ⟨hx, hb, hml, hown, hts⟩ (c_put2 (O := O1) (b := sch i k1) l g hL oh1 ⟨(sch_b i k1).2, nI_b _ (sch_b i k1).2⟩ (by omega) hj) (z_in k_707 rfl) (z_in k_3 rfl) (z_in k_704 rfl) (z_in k_705 rfl) (z_in k_706 rfl) (by decide +kernel) ⟨by first | exact Nat.le_of_ble_eq_true rfl | (dsimp only; omega) | omega, by first | exact Nat.le_of_ble_eq_true rfl | (dsimp only; omega) | omega⟩ hK hE hw hA rfl how_1 rfl hl.1 (Nat.le_of_ble_eq_true rfl) d_RecordWriter_putWord_19 ⟨by first | exact Nat.le_of_ble_eq_true rfl | (dsimp only; omega) | omega, by first | exact Nat.le_of_ble_eq_true rfl | (dsimp only; omega) | omega⟩ rfl (fun r9 h9 H locs hp hw => ?_)
        obtain ⟨r8, o8, k8⟩ := hp
        subst r8
        obtain ⟨h1, e7⟩ : ∃ x9, x9 = h9 := ⟨_, rfl⟩
        subst e7
        generalize eO_1 : O1 ++ ([sch i k1]) = O_1 at o8 ln_1 ma_1 mb_1 ⊢
        have oh_1 := o8
        have g1_wr : h1 wr = some ((9, 0), .inr (10, [.ref q, .ref nw, .ref ow])) := k8 _ _ _ L2_wr (by simp; try omega)
        have kk1 : z_K (fun y => y = 4 ∨ y = 5) h h1 := kkL.tr k8
        refine W.eq (g2 := F0 m 22 ls []) rfl ?_
        refine lv_iinc (v := nI (k1 + 1)) (lv' := [(2, .int (nI (k1 + 1))), (0, .ref wr), (1, .ref (g.2.2 (1 + i)))]) hx hb d_RecordWriter_putWord_22 hl (k := 2) rfl (nI_1 k1) (by decide) rfl (fun ls hl => ?_)
        refine lv_goto (tgt := 2) hx hb d_RecordWriter_putWord_25 (by decide) ?_
        refine W.widen (k := jf j O_1.length - jf j O.length) (n := slj j O_1.length - slj j O.length) (by first | exact Nat.le_of_ble_eq_true rfl | (dsimp only; omega) | omega) (by first | exact Nat.le_of_ble_eq_true rfl | (dsimp only; omega) | omega) ?_
        refine ih_2 (k1 + 1) O_1 h1 _ _ _ g1_wr kk1 oh_1 (⟨by omega, by rw [← eO_1, le1.2.1, take_succ' (wdO i) (by omega), wdO_get (by omega), List.append_assoc], by omega⟩) ?_ hw (lv_sub hl [1, 2, 0] rfl)
        omega
  refine W.widen (k := jf j O.length - jf j O.length) (n := slj j O.length - slj j O.length) (by first | exact Nat.le_of_ble_eq_true rfl | (dsimp only; omega) | omega) (by first | exact Nat.le_of_ble_eq_true rfl | (dsimp only; omega) | omega) ?_
  exact loop_2 (z_len.getD i 0 - 0 + 1) 0 O h _ _ _ hwr kk0 hO (⟨by omega, by simp, by omega⟩) (by omega) hw (lv_sub hl [1, 2, 0] rfl)

set_option maxHeartbeats 4000000 in
set_option maxRecDepth 100000 in
theorem c_hexSign (l : Launch) (g : z_G) (h : z_H) {d : Nat}  (hd : d < 16) : z_C l y_RecordWriter_hexSign prog_7_method_10_code 1 (Option.some Jvm.ClassFile.FieldType.int) 0 0 0 0 g [.int (nI d)] h (fun x h1 => x = some (.int (nI (hxO d))) ∧ h = h1) := by
  refine z_C.of (by decide) (Nat.le_of_ble_eq_true rfl) (fun pg en s m below meth cd A ls hx hb hml hr hts hown hlocks hnm hK hE hA hw hl => ?_)
  have hl : lv_has ls 1 [(0, .int (nI d))] := hl
  refine lv_iload_n hx hb d_RecordWriter_hexSign_0 rfl (lv_at hl 0 rfl) ?_
  refine lv_bipush (v := 10) hx hb d_RecordWriter_hexSign_1 (by decide) ?_
  refine lv_icmp_ge (tgt := 13) hx hb d_RecordWriter_hexSign_3 (by decide) (fun c_3 => ?_) (fun c_3 => ?_)
  · -- 3: True
    have c_3 : 10 ≤ d := (nI_leI (a := 10) (b := d) (by omega) (by omega)).mp c_3
    refine lv_bipush (v := 97) hx hb d_RecordWriter_hexSign_13 (by decide) ?_
    refine lv_iload_n hx hb d_RecordWriter_hexSign_15 rfl (lv_at hl 0 rfl) ?_
    refine lv_iadd hx hb d_RecordWriter_hexSign_16 ?_
    refine z_topi (y := nI (97 + d)) (nI_add 97 d) ?_
    refine lv_bipush (v := 10) hx hb d_RecordWriter_hexSign_17 (by decide) ?_
    refine lv_isub hx hb d_RecordWriter_hexSign_19 ?_
    refine z_topi (y := nI ((97 + d) - 10)) (pk_sub (a := 97 + d) (b := 10) (by omega)) ?_
    exact z_iret hx hb hr hlocks hw (by refine ⟨congrArg some (congrArg Value.int ?_), rfl⟩; unfold hxO; first | rw [if_pos (by omega)] | (rw [if_neg (by omega)]; congr 1; omega)) (by decide) (by decide) d_RecordWriter_hexSign_20
  · -- 3: False
    have c_3 : ¬ (10 ≤ d) := fun z => c_3 ((nI_leI (a := 10) (b := d) (by omega) (by omega)).mpr z)
    refine lv_bipush (v := 48) hx hb d_RecordWriter_hexSign_6 (by decide) ?_
    refine lv_iload_n hx hb d_RecordWriter_hexSign_8 rfl (lv_at hl 0 rfl) ?_
    refine lv_iadd hx hb d_RecordWriter_hexSign_9 ?_
    refine z_topi (y := nI (48 + d)) (nI_add 48 d) ?_
    refine lv_goto (tgt := 20) hx hb d_RecordWriter_hexSign_10 (by decide) ?_
    exact z_iret hx hb hr hlocks hw (by refine ⟨congrArg some (congrArg Value.int ?_), rfl⟩; unfold hxO; first | rw [if_pos (by omega)] | (rw [if_neg (by omega)]; congr 1; omega)) (by decide) (by decide) d_RecordWriter_hexSign_20

theorem hxO_lt {d : Nat} (h : d < 16) : hxO d < 256 := by unfold hxO; split <;> omega
theorem wdO_10 : wdO 10 = [92, 120] := by decide
theorem wdO_8 : wdO 8 = [116, 114, 117, 101] := by decide
theorem wdO_9 : wdO 9 = [102, 97, 108, 115, 101] := by decide
theorem wdl_10 : (wdO 10).length = 2 := by decide
theorem wdl_8 : (wdO 8).length = 4 := by decide
theorem wdl_9 : (wdO 9).length = 5 := by decide

set_option maxHeartbeats 4000000 in
set_option maxRecDepth 100000 in
theorem c_putTextByte (l : Launch) (g : z_G) (h : z_H) {wr q nw ow j : Nat} {O : List Nat} {c : Nat} (hwr : h wr = some ((9, 0), .inr (10, [.ref q, .ref nw, .ref ow]))) (hO : OutB g h ow j O) (hj : j ≤ 8) (hlen : O.length + (tbO c).length ≤ 262144) (hc : c < 256) : z_C l y_RecordWriter_putTextByte prog_7_method_9_code 2 (Option.none : Option Jvm.ClassFile.FieldType) 6 160 (jf j (O ++ (tbO c)).length - jf j O.length) (slj j (O ++ (tbO c)).length - slj j O.length) g [.ref wr, .int (nI c)] h (fun x h1 => x = none ∧ OutB g h1 ow j (O ++ (tbO c)) ∧ z_K (fun y => y = 4 ∨ y = 5) h h1) := by
  refine z_C.of (by decide) (Nat.le_of_ble_eq_true rfl) (fun pg en s m below meth cd A ls hx hb hml hr hts hown hlocks hnm hK hE hA hw hl => ?_)
  have hl : lv_has ls 2 [(0, .ref wr), (1, .int (nI c))] := hl
  have lX : (O ++ (tbO c)).length = O.length + (tbO c).length := List.length_append
  have mX := jf_mono j (show O.length ≤ (O ++ (tbO c)).length by omega)
  have w10 := wdl_10
  have kk0 : z_K (fun y => y = 4 ∨ y = 5) h h := z_K.rf
  refine lv_iload_n hx hb d_RecordWriter_putTextByte_0 rfl (lv_at hl 1 rfl) ?_
  refine lv_bipush (v := 32) hx hb d_RecordWriter_putTextByte_1 (by decide) ?_
  refine lv_icmp_lt (tgt := 12) hx hb d_RecordWriter_putTextByte_3 (by decide) (fun c_3 => ?_) (fun c_3 => ?_)
  · -- 3: True
    have c_3 : c < 32 := (nI_ltI (a := c) (b := 32) (by omega) (by omega)).mp c_3
    have eT : tbO c = [92, 120, hxO (c / 16), hxO (c % 16)] := by unfold tbO; rw [if_pos (by omega)]
    have lT := congrArg List.length eT
    simp only [List.length_cons, List.length_nil] at lT
    refine lv_aload_n hx hb d_RecordWriter_putTextByte_12 rfl (lv_at hl 0 rfl) ?_
    refine va_ldcS hx hb hown hE.2.2.2.2.2.1.2.2.2.2 d_RecordWriter_putTextByte_13 ?_
    have ln_1 : (O ++ (wdO 10)).length = O.length + (wdO 10).length := List.length_append
    have ma_1 := jf_mono j (show O.length ≤ (O ++ (wdO 10)).length by omega)
    have mb_1 := jf_mono j (show (O ++ (wdO 10)).length ≤ (O ++ (tbO c)).length by omega)
    refine z_callV (n := 1) (As := [.ref (g.2.2 (1 + 10))]) (rest := []) ⟨hx, hb, hml, hown, hts⟩ (c_putWord (O := O) (i := 10) l g h hwr hO hj (by have := wdO_len 10; omega) (by decide)) (z_in k_740 rfl) (z_in k_19 rfl) (z_in k_737 rfl) (z_in k_739 rfl) (z_in ks_23 rfl) (by decide +kernel) ⟨by first | exact Nat.le_of_ble_eq_true rfl | (dsimp only; omega) | omega, by first | exact Nat.le_of_ble_eq_true rfl | (dsimp only; omega) | omega⟩ hK hE hw hA rfl hwr rfl hl.1 (Nat.le_of_ble_eq_true rfl) d_RecordWriter_putTextByte_15 ⟨by first | exact Nat.le_of_ble_eq_true rfl | (dsimp only; omega) | omega, by first | exact Nat.le_of_ble_eq_true rfl | (dsimp only; omega) | omega⟩ rfl (fun r9 h9 H locs hp hw => ?_)
    obtain ⟨r8, o8, k8⟩ := hp
    subst r8
    obtain ⟨h1, e7⟩ : ∃ x9, x9 = h9 := ⟨_, rfl⟩
    subst e7
    generalize eO_1 : O ++ (wdO 10) = O_1 at o8 ln_1 ma_1 mb_1 ⊢
    have oh_1 := o8
    have g1_wr : h1 wr = some ((9, 0), .inr (10, [.ref q, .ref nw, .ref ow])) := k8 _ _ _ hwr (by simp; try omega)
    have kk1 : z_K (fun y => y = 4 ∨ y = 5) h h1 := kk0.tr k8
    refine W.eq (g2 := F0 m 18 ls []) rfl ?_
    refine lv_aload_n hx hb d_RecordWriter_putTextByte_18 rfl (lv_at hl 0 rfl) ?_
    refine z_get hx hb hts (z_lay i_RecordWriter) hown hK hw g1_wr rfl 2 (by decide) (z_in k_691 rfl) (fun _ h9 => h9) rfl d_RecordWriter_putTextByte_19 ?_
    refine lv_iload_n hx hb d_RecordWriter_putTextByte_22 rfl (lv_at hl 1 rfl) ?_
    refine lv_bipush (v := 16) hx hb d_RecordWriter_putTextByte_23 (by decide) ?_
    refine lv_idiv hx hb d_RecordWriter_putTextByte_25 (by decide) ?_
    refine z_topi (y := nI (c / 16)) (pk_div (a := c) (d := 16) (by omega) (by omega) (by omega)) ?_
    refine z_callS (n := 1) (As := [.int (nI (c / 16))]) (rest := [.ref ow]) ⟨hx, hb, hml, hown, hts⟩ (c_hexSign l g h1 (by omega)) (z_in k_745 rfl) (z_in k_19 rfl) (z_in k_743 rfl) (z_in k_744 rfl) (by decide +kernel) ⟨by first | exact Nat.le_of_ble_eq_true rfl | (dsimp only; omega) | omega, by first | exact Nat.le_of_ble_eq_true rfl | (dsimp only; omega) | omega⟩ hK hE hw hA rfl hl.1 (Nat.le_of_ble_eq_true rfl) d_RecordWriter_putTextByte_26 ⟨by first | exact Nat.le_of_ble_eq_true rfl | (dsimp only; omega) | omega, by first | exact Nat.le_of_ble_eq_true rfl | (dsimp only; omega) | omega⟩ rfl (fun r9 h9 H locs hp hw => ?_)
    obtain ⟨r8, h8⟩ := hp
    subst r8
    subst h8
    refine W.eq (g2 := F0 m 29 ls [.int (nI (hxO (c / 16))), .ref ow]) rfl ?_
    obtain ⟨ob_2, f_2, how_2, -⟩ := id oh_1
    have ln_2 : (O_1 ++ ([hxO (c / 16)])).length = O_1.length + ([hxO (c / 16)]).length := List.length_append
    simp only [List.length_cons, List.length_nil] at ln_2
    have ma_2 := jf_mono j (show O_1.length ≤ (O_1 ++ ([hxO (c / 16)])).length by omega)
    have mb_2 := jf_mono j (show (O_1 ++ ([hxO (c / 16)])).length ≤ (O ++ (tbO c)).length by omega)
    refine z_callV (n := 1) (As := [.int (nI (hxO (c / 16)))]) (rest := []) ⟨hx, hb, hml, hown, hts⟩ (c_put2 (O := O_1) (b := hxO (c / 16)) l g h1 oh_1 ⟨hxO_lt (by omega), nI_b _ (hxO_lt (by omega))⟩ (by omega) hj) (z_in k_707 rfl) (z_in k_3 rfl) (z_in k_704 rfl) (z_in k_705 rfl) (z_in k_706 rfl) (by decide +kernel) ⟨by first | exact Nat.le_of_ble_eq_true rfl | (dsimp only; omega) | omega, by first | exact Nat.le_of_ble_eq_true rfl | (dsimp only; omega) | omega⟩ hK hE hw hA rfl how_2 rfl hl.1 (Nat.le_of_ble_eq_true rfl) d_RecordWriter_putTextByte_29 ⟨by first | exact Nat.le_of_ble_eq_true rfl | (dsimp only; omega) | omega, by first | exact Nat.le_of_ble_eq_true rfl | (dsimp only; omega) | omega⟩ rfl (fun r9 h9 H locs hp hw => ?_)
    obtain ⟨r8, o8, k8⟩ := hp
    subst r8
    obtain ⟨h2, e7⟩ : ∃ x9, x9 = h9 := ⟨_, rfl⟩
    subst e7
    generalize eO_2 : O_1 ++ ([hxO (c / 16)]) = O_2 at o8 ln_2 ma_2 mb_2 ⊢
    have oh_2 := o8
    have g2_wr : h2 wr = some ((9, 0), .inr (10, [.ref q, .ref nw, .ref ow])) := k8 _ _ _ g1_wr (by simp; try omega)
    have kk2 : z_K (fun y => y = 4 ∨ y = 5) h h2 := kk1.tr k8
    refine W.eq (g2 := F0 m 32 ls []) rfl ?_
    refine lv_aload_n hx hb d_RecordWriter_putTextByte_32 rfl (lv_at hl 0 rfl) ?_
    refine z_get hx hb hts (z_lay i_RecordWriter) hown hK hw g2_wr rfl 2 (by decide) (z_in k_691 rfl) (fun _ h9 => h9) rfl d_RecordWriter_putTextByte_33 ?_
    refine lv_iload_n hx hb d_RecordWriter_putTextByte_36 rfl (lv_at hl 1 rfl) ?_
    refine lv_bipush (v := 16) hx hb d_RecordWriter_putTextByte_37 (by decide) ?_
    refine lv_irem hx hb d_RecordWriter_putTextByte_39 (by decide) ?_
    refine z_topi (y := nI (c % 16)) (pk_rem (a := c) (d := 16) (by omega) (by omega) (by omega)) ?_
    refine z_callS (n := 1) (As := [.int (nI (c % 16))]) (rest := [.ref ow]) ⟨hx, hb, hml, hown, hts⟩ (c_hexSign l g h2 (by omega)) (z_in k_745 rfl) (z_in k_19 rfl) (z_in k_743 rfl) (z_in k_744 rfl) (by decide +kernel) ⟨by first | exact Nat.le_of_ble_eq_true rfl | (dsimp only; omega) | omega, by first | exact Nat.le_of_ble_eq_true rfl | (dsimp only; omega) | omega⟩ hK hE hw hA rfl hl.1 (Nat.le_of_ble_eq_true rfl) d_RecordWriter_putTextByte_40 ⟨by first | exact Nat.le_of_ble_eq_true rfl | (dsimp only; omega) | omega, by first | exact Nat.le_of_ble_eq_true rfl | (dsimp only; omega) | omega⟩ rfl (fun r9 h9 H locs hp hw => ?_)
    obtain ⟨r8, h8⟩ := hp
    subst r8
    subst h8
    refine W.eq (g2 := F0 m 43 ls [.int (nI (hxO (c % 16))), .ref ow]) rfl ?_
    obtain ⟨ob_3, f_3, how_3, -⟩ := id oh_2
    have ln_3 : (O_2 ++ ([hxO (c % 16)])).length = O_2.length + ([hxO (c % 16)]).length := List.length_append
    simp only [List.length_cons, List.length_nil] at ln_3
    have ma_3 := jf_mono j (show O_2.length ≤ (O_2 ++ ([hxO (c % 16)])).length by omega)
    have mb_3 := jf_mono j (show (O_2 ++ ([hxO (c % 16)])).length ≤ (O ++ (tbO c)).length by omega)
    refine z_callV (n := 1) (As := [.int (nI (hxO (c % 16)))]) (rest := []) ⟨hx, hb, hml, hown, hts⟩ (c_put2 (O := O_2) (b := hxO (c % 16)) l g h2 oh_2 ⟨hxO_lt (by omega), nI_b _ (hxO_lt (by omega))⟩ (by omega) hj) (z_in k_707 rfl) (z_in k_3 rfl) (z_in k_704 rfl) (z_in k_705 rfl) (z_in k_706 rfl) (by decide +kernel) ⟨by first | exact Nat.le_of_ble_eq_true rfl | (dsimp only; omega) | omega, by first | exact Nat.le_of_ble_eq_true rfl | (dsimp only; omega) | omega⟩ hK hE hw hA rfl how_3 rfl hl.1 (Nat.le_of_ble_eq_true rfl) d_RecordWriter_putTextByte_43 ⟨by first | exact Nat.le_of_ble_eq_true rfl | (dsimp only; omega) | omega, by first | exact Nat.le_of_ble_eq_true rfl | (dsimp only; omega) | omega⟩ rfl (fun r9 h9 H locs hp hw => ?_)
    obtain ⟨r8, o8, k8⟩ := hp
    subst r8
    obtain ⟨h3, e7⟩ : ∃ x9, x9 = h9 := ⟨_, rfl⟩
    subst e7
    generalize eO_3 : O_2 ++ ([hxO (c % 16)]) = O_3 at o8 ln_3 ma_3 mb_3 ⊢
    have oh_3 := o8
    have g3_wr : h3 wr = some ((9, 0), .inr (10, [.ref q, .ref nw, .ref ow])) := k8 _ _ _ g2_wr (by simp; try omega)
    have kk3 : z_K (fun y => y = 4 ∨ y = 5) h h3 := kk2.tr k8
    refine W.eq (g2 := F0 m 46 ls []) rfl ?_
    have eF : O_3 = O ++ (tbO c) := by rw [← eO_3, ← eO_2, ← eO_1]; rw [eT, wdO_10]; simp
    have eJ : jf j O_3.length = jf j (O ++ (tbO c)).length ∧ slj j O_3.length = slj j (O ++ (tbO c)).length := ⟨congrArg (fun x => jf j x.length) eF, congrArg (fun x => slj j x.length) eF⟩
    exact z_vret hx hb hr hlocks hw ⟨rfl, eF ▸ oh_3, kk3⟩ (by first | exact Nat.le_of_ble_eq_true rfl | (dsimp only; omega) | omega) (by first | exact Nat.le_of_ble_eq_true rfl | (dsimp only; omega) | omega) d_RecordWriter_putTextByte_46
  · -- 3: False
    have c_3 : ¬ (c < 32) := fun z => c_3 ((nI_ltI (a := c) (b := 32) (by omega) (by omega)).mpr z)
    refine lv_iload_n hx hb d_RecordWriter_putTextByte_6 rfl (lv_at hl 1 rfl) ?_
    refine lv_bipush (v := 126) hx hb d_RecordWriter_putTextByte_7 (by decide) ?_
    refine lv_icmp_le (tgt := 47) hx hb d_RecordWriter_putTextByte_9 (by decide) (fun c_9 => ?_) (fun c_9 => ?_)
    · -- 9: True
      have c_9 : c ≤ 126 := (nI_leI (a := c) (b := 126) (by omega) (by omega)).mp c_9
      refine lv_iload_n hx hb d_RecordWriter_putTextByte_47 rfl (lv_at hl 1 rfl) ?_
      refine lv_bipush (v := 39) hx hb d_RecordWriter_putTextByte_48 (by decide) ?_
      refine lv_icmp_eq (tgt := 59) hx hb d_RecordWriter_putTextByte_50 (by decide) (fun c_50 => ?_) (fun c_50 => ?_)
      · -- 50: True
        have c_50 : c = 39 := (nI_eq (a := c) (b := 39) (by omega) (by omega)).mp c_50
        have eT : tbO c = [92, c] := by unfold tbO; rw [if_neg (by omega), if_pos (by omega)]
        have lT := congrArg List.length eT
        simp only [List.length_cons, List.length_nil] at lT
        refine lv_aload_n hx hb d_RecordWriter_putTextByte_59 rfl (lv_at hl 0 rfl) ?_
        refine z_get hx hb hts (z_lay i_RecordWriter) hown hK hw hwr rfl 2 (by decide) (z_in k_691 rfl) (fun _ h9 => h9) rfl d_RecordWriter_putTextByte_60 ?_
        refine lv_bipush (v := 92) hx hb d_RecordWriter_putTextByte_63 (by decide) ?_
        obtain ⟨ob_4, f_4, how_4, -⟩ := id hO
        have ln_4 : (O ++ ([92])).length = O.length + ([92]).length := List.length_append
        simp only [List.length_cons, List.length_nil] at ln_4
        have ma_4 := jf_mono j (show O.length ≤ (O ++ ([92])).length by omega)
        have mb_4 := jf_mono j (show (O ++ ([92])).length ≤ (O ++ (tbO c)).length by omega)
        refine z_callV (n := 1) (As := [.int 92]) (rest := []) ⟨hx, hb, hml, hown, hts⟩ (c_put2 (O := O) (b := 92) l g h hO ⟨by decide, by decide⟩ (by omega) hj) (z_in k_707 rfl) (z_in k_3 rfl) (z_in k_704 rfl) (z_in k_705 rfl) (z_in k_706 rfl) (by decide +kernel) ⟨by first | exact Nat.le_of_ble_eq_true rfl | (dsimp only; omega) | omega, by first | exact Nat.le_of_ble_eq_true rfl | (dsimp only; omega) | omega⟩ hK hE hw hA rfl how_4 rfl hl.1 (Nat.le_of_ble_eq_true rfl) d_RecordWriter_putTextByte_65 ⟨by first | exact Nat.le_of_ble_eq_true rfl | (dsimp only; omega) | omega, by first | exact Nat.le_of_ble_eq_true rfl | (dsimp only; omega) | omega⟩ rfl (fun r9 h9 H locs hp hw => ?_)
        obtain ⟨r8, o8, k8⟩ := hp
        subst r8
        obtain ⟨h4, e7⟩ : ∃ x9, x9 = h9 := ⟨_, rfl⟩
        subst e7
        generalize eO_4 : O ++ ([92]) = O_4 at o8 ln_4 ma_4 mb_4 ⊢
        have oh_4 := o8
        have g4_wr : h4 wr = some ((9, 0), .inr (10, [.ref q, .ref nw, .ref ow])) := k8 _ _ _ hwr (by simp; try omega)
        have kk4 : z_K (fun y => y = 4 ∨ y = 5) h h4 := kk0.tr k8
        refine W.eq (g2 := F0 m 68 ls []) rfl ?_
        refine lv_aload_n hx hb d_RecordWriter_putTextByte_68 rfl (lv_at hl 0 rfl) ?_
        refine z_get hx hb hts (z_lay i_RecordWriter) hown hK hw g4_wr rfl 2 (by decide) (z_in k_691 rfl) (fun _ h9 => h9) rfl d_RecordWriter_putTextByte_69 ?_
        refine lv_iload_n hx hb d_RecordWriter_putTextByte_72 rfl (lv_at hl 1 rfl) ?_
        obtain ⟨ob_5, f_5, how_5, -⟩ := id oh_4
        have ln_5 : (O_4 ++ ([c])).length = O_4.length + ([c]).length := List.length_append
        simp only [List.length_cons, List.length_nil] at ln_5
        have ma_5 := jf_mono j (show O_4.length ≤ (O_4 ++ ([c])).length by omega)
        have mb_5 := jf_mono j (show (O_4 ++ ([c])).length ≤ (O ++ (tbO c)).length by omega)
        refine z_callV (n := 1) (As := [.int (nI c)]) (rest := []) ⟨hx, hb, hml, hown, hts⟩ (c_put2 (O := O_4) (b := c) l g h4 oh_4 ⟨hc, nI_b _ hc⟩ (by omega) hj) (z_in k_707 rfl) (z_in k_3 rfl) (z_in k_704 rfl) (z_in k_705 rfl) (z_in k_706 rfl) (by decide +kernel) ⟨by first | exact Nat.le_of_ble_eq_true rfl | (dsimp only; omega) | omega, by first | exact Nat.le_of_ble_eq_true rfl | (dsimp only; omega) | omega⟩ hK hE hw hA rfl how_5 rfl hl.1 (Nat.le_of_ble_eq_true rfl) d_RecordWriter_putTextByte_73 ⟨by first | exact Nat.le_of_ble_eq_true rfl | (dsimp only; omega) | omega, by first | exact Nat.le_of_ble_eq_true rfl | (dsimp only; omega) | omega⟩ rfl (fun r9 h9 H locs hp hw => ?_)
        obtain ⟨r8, o8, k8⟩ := hp
        subst r8
        obtain ⟨h5, e7⟩ : ∃ x9, x9 = h9 := ⟨_, rfl⟩
        subst e7
        generalize eO_5 : O_4 ++ ([c]) = O_5 at o8 ln_5 ma_5 mb_5 ⊢
        have oh_5 := o8
        have g5_wr : h5 wr = some ((9, 0), .inr (10, [.ref q, .ref nw, .ref ow])) := k8 _ _ _ g4_wr (by simp; try omega)
        have kk5 : z_K (fun y => y = 4 ∨ y = 5) h h5 := kk4.tr k8
        refine W.eq (g2 := F0 m 76 ls []) rfl ?_
        have eF : O_5 = O ++ (tbO c) := by rw [← eO_5, ← eO_4]; rw [eT] <;> simp
        have eJ : jf j O_5.length = jf j (O ++ (tbO c)).length ∧ slj j O_5.length = slj j (O ++ (tbO c)).length := ⟨congrArg (fun x => jf j x.length) eF, congrArg (fun x => slj j x.length) eF⟩
        exact z_vret hx hb hr hlocks hw ⟨rfl, eF ▸ oh_5, kk5⟩ (by first | exact Nat.le_of_ble_eq_true rfl | (dsimp only; omega) | omega) (by first | exact Nat.le_of_ble_eq_true rfl | (dsimp only; omega) | omega) d_RecordWriter_putTextByte_76
      · -- 50: False
        have c_50 : ¬ (c = 39) := fun z => c_50 ((nI_eq (a := c) (b := 39) (by omega) (by omega)).mpr z)
        refine lv_iload_n hx hb d_RecordWriter_putTextByte_53 rfl (lv_at hl 1 rfl) ?_
        refine lv_bipush (v := 92) hx hb d_RecordWriter_putTextByte_54 (by decide) ?_
        refine lv_icmp_ne (tgt := 68) hx hb d_RecordWriter_putTextByte_56 (by decide) (fun c_56 => ?_) (fun c_56 => ?_)
        · -- 56: True
          have c_56 : ¬ (c = 92) := fun z => c_56 ((nI_eq (a := c) (b := 92) (by omega) (by omega)).mpr z)
          have eT : tbO c = [c] := by unfold tbO; rw [if_neg (by omega), if_neg (by omega)]
          have lT := congrArg List.length eT
          simp only [List.length_cons, List.length_nil] at lT
          refine lv_aload_n hx hb d_RecordWriter_putTextByte_68 rfl (lv_at hl 0 rfl) ?_
          refine z_get hx hb hts (z_lay i_RecordWriter) hown hK hw hwr rfl 2 (by decide) (z_in k_691 rfl) (fun _ h9 => h9) rfl d_RecordWriter_putTextByte_69 ?_
          refine lv_iload_n hx hb d_RecordWriter_putTextByte_72 rfl (lv_at hl 1 rfl) ?_
          obtain ⟨ob_6, f_6, how_6, -⟩ := id hO
          have ln_6 : (O ++ ([c])).length = O.length + ([c]).length := List.length_append
          simp only [List.length_cons, List.length_nil] at ln_6
          have ma_6 := jf_mono j (show O.length ≤ (O ++ ([c])).length by omega)
          have mb_6 := jf_mono j (show (O ++ ([c])).length ≤ (O ++ (tbO c)).length by omega)
          refine z_callV (n := 1) (As := [.int (nI c)]) (rest := []) ⟨hx, hb, hml, hown, hts⟩ (c_put2 (O := O) (b := c) l g h hO ⟨hc, nI_b _ hc⟩ (by omega) hj) (z_in k_707 rfl) (z_in k_3 rfl) (z_in k_704 rfl) (z_in k_705 rfl) (z_in k_706 rfl) (by decide +kernel) ⟨by first | exact Nat.le_of_ble_eq_true rfl | (dsimp only; omega) | omega, by first | exact Nat.le_of_ble_eq_true rfl | (dsimp only; omega) | omega⟩ hK hE hw hA rfl how_6 rfl hl.1 (Nat.le_of_ble_eq_true rfl) d_RecordWriter_putTextByte_73 ⟨by first | exact Nat.le_of_ble_eq_true rfl | (dsimp only; omega) | omega, by first | exact Nat.le_of_ble_eq_true rfl | (dsimp only; omega) | omega⟩ rfl (fun r9 h9 H locs hp hw => ?_)
          obtain ⟨r8, o8, k8⟩ := hp
          subst r8
          obtain ⟨h6, e7⟩ : ∃ x9, x9 = h9 := ⟨_, rfl⟩
          subst e7
          generalize eO_6 : O ++ ([c]) = O_6 at o8 ln_6 ma_6 mb_6 ⊢
          have oh_6 := o8
          have g6_wr : h6 wr = some ((9, 0), .inr (10, [.ref q, .ref nw, .ref ow])) := k8 _ _ _ hwr (by simp; try omega)
          have kk6 : z_K (fun y => y = 4 ∨ y = 5) h h6 := kk0.tr k8
          refine W.eq (g2 := F0 m 76 ls []) rfl ?_
          have eF : O_6 = O ++ (tbO c) := by rw [← eO_6]; rw [eT] <;> simp
          have eJ : jf j O_6.length = jf j (O ++ (tbO c)).length ∧ slj j O_6.length = slj j (O ++ (tbO c)).length := ⟨congrArg (fun x => jf j x.length) eF, congrArg (fun x => slj j x.length) eF⟩
          exact z_vret hx hb hr hlocks hw ⟨rfl, eF ▸ oh_6, kk6⟩ (by first | exact Nat.le_of_ble_eq_true rfl | (dsimp only; omega) | omega) (by first | exact Nat.le_of_ble_eq_true rfl | (dsimp only; omega) | omega) d_RecordWriter_putTextByte_76
        · -- 56: False
          have c_56 : c = 92 := (nI_eq (a := c) (b := 92) (by omega) (by omega)).mp c_56
          have eT : tbO c = [92, c] := by unfold tbO; rw [if_neg (by omega), if_pos (by omega)]
          have lT := congrArg List.length eT
          simp only [List.length_cons, List.length_nil] at lT
          refine lv_aload_n hx hb d_RecordWriter_putTextByte_59 rfl (lv_at hl 0 rfl) ?_
          refine z_get hx hb hts (z_lay i_RecordWriter) hown hK hw hwr rfl 2 (by decide) (z_in k_691 rfl) (fun _ h9 => h9) rfl d_RecordWriter_putTextByte_60 ?_
          refine lv_bipush (v := 92) hx hb d_RecordWriter_putTextByte_63 (by decide) ?_
          obtain ⟨ob_7, f_7, how_7, -⟩ := id hO
          have ln_7 : (O ++ ([92])).length = O.length + ([92]).length := List.length_append
          simp only [List.length_cons, List.length_nil] at ln_7
          have ma_7 := jf_mono j (show O.length ≤ (O ++ ([92])).length by omega)
          have mb_7 := jf_mono j (show (O ++ ([92])).length ≤ (O ++ (tbO c)).length by omega)
          refine z_callV (n := 1) (As := [.int 92]) (rest := []) ⟨hx, hb, hml, hown, hts⟩ (c_put2 (O := O) (b := 92) l g h hO ⟨by decide, by decide⟩ (by omega) hj) (z_in k_707 rfl) (z_in k_3 rfl) (z_in k_704 rfl) (z_in k_705 rfl) (z_in k_706 rfl) (by decide +kernel) ⟨by first | exact Nat.le_of_ble_eq_true rfl | (dsimp only; omega) | omega, by first | exact Nat.le_of_ble_eq_true rfl | (dsimp only; omega) | omega⟩ hK hE hw hA rfl how_7 rfl hl.1 (Nat.le_of_ble_eq_true rfl) d_RecordWriter_putTextByte_65 ⟨by first | exact Nat.le_of_ble_eq_true rfl | (dsimp only; omega) | omega, by first | exact Nat.le_of_ble_eq_true rfl | (dsimp only; omega) | omega⟩ rfl (fun r9 h9 H locs hp hw => ?_)
          obtain ⟨r8, o8, k8⟩ := hp
          subst r8
          obtain ⟨h7, e7⟩ : ∃ x9, x9 = h9 := ⟨_, rfl⟩
          subst e7
          generalize eO_7 : O ++ ([92]) = O_7 at o8 ln_7 ma_7 mb_7 ⊢
          have oh_7 := o8
          have g7_wr : h7 wr = some ((9, 0), .inr (10, [.ref q, .ref nw, .ref ow])) := k8 _ _ _ hwr (by simp; try omega)
          have kk7 : z_K (fun y => y = 4 ∨ y = 5) h h7 := kk0.tr k8
          refine W.eq (g2 := F0 m 68 ls []) rfl ?_
          refine lv_aload_n hx hb d_RecordWriter_putTextByte_68 rfl (lv_at hl 0 rfl) ?_
          refine z_get hx hb hts (z_lay i_RecordWriter) hown hK hw g7_wr rfl 2 (by decide) (z_in k_691 rfl) (fun _ h9 => h9) rfl d_RecordWriter_putTextByte_69 ?_
          refine lv_iload_n hx hb d_RecordWriter_putTextByte_72 rfl (lv_at hl 1 rfl) ?_
          obtain ⟨ob_8, f_8, how_8, -⟩ := id oh_7
          have ln_8 : (O_7 ++ ([c])).length = O_7.length + ([c]).length := List.length_append
          simp only [List.length_cons, List.length_nil] at ln_8
          have ma_8 := jf_mono j (show O_7.length ≤ (O_7 ++ ([c])).length by omega)
          have mb_8 := jf_mono j (show (O_7 ++ ([c])).length ≤ (O ++ (tbO c)).length by omega)
          refine z_callV (n := 1) (As := [.int (nI c)]) (rest := []) ⟨hx, hb, hml, hown, hts⟩ (c_put2 (O := O_7) (b := c) l g h7 oh_7 ⟨hc, nI_b _ hc⟩ (by omega) hj) (z_in k_707 rfl) (z_in k_3 rfl) (z_in k_704 rfl) (z_in k_705 rfl) (z_in k_706 rfl) (by decide +kernel) ⟨by first | exact Nat.le_of_ble_eq_true rfl | (dsimp only; omega) | omega, by first | exact Nat.le_of_ble_eq_true rfl | (dsimp only; omega) | omega⟩ hK hE hw hA rfl how_8 rfl hl.1 (Nat.le_of_ble_eq_true rfl) d_RecordWriter_putTextByte_73 ⟨by first | exact Nat.le_of_ble_eq_true rfl | (dsimp only; omega) | omega, by first | exact Nat.le_of_ble_eq_true rfl | (dsimp only; omega) | omega⟩ rfl (fun r9 h9 H locs hp hw => ?_)
          obtain ⟨r8, o8, k8⟩ := hp
          subst r8
          obtain ⟨h8, e7⟩ : ∃ x9, x9 = h9 := ⟨_, rfl⟩
          subst e7
          generalize eO_8 : O_7 ++ ([c]) = O_8 at o8 ln_8 ma_8 mb_8 ⊢
          have oh_8 := o8
          have g8_wr : h8 wr = some ((9, 0), .inr (10, [.ref q, .ref nw, .ref ow])) := k8 _ _ _ g7_wr (by simp; try omega)
          have kk8 : z_K (fun y => y = 4 ∨ y = 5) h h8 := kk7.tr k8
          refine W.eq (g2 := F0 m 76 ls []) rfl ?_
          have eF : O_8 = O ++ (tbO c) := by rw [← eO_8, ← eO_7]; rw [eT] <;> simp
          have eJ : jf j O_8.length = jf j (O ++ (tbO c)).length ∧ slj j O_8.length = slj j (O ++ (tbO c)).length := ⟨congrArg (fun x => jf j x.length) eF, congrArg (fun x => slj j x.length) eF⟩
          exact z_vret hx hb hr hlocks hw ⟨rfl, eF ▸ oh_8, kk8⟩ (by first | exact Nat.le_of_ble_eq_true rfl | (dsimp only; omega) | omega) (by first | exact Nat.le_of_ble_eq_true rfl | (dsimp only; omega) | omega) d_RecordWriter_putTextByte_76
    · -- 9: False
      have c_9 : ¬ (c ≤ 126) := fun z => c_9 ((nI_leI (a := c) (b := 126) (by omega) (by omega)).mpr z)
      have eT : tbO c = [92, 120, hxO (c / 16), hxO (c % 16)] := by unfold tbO; rw [if_pos (by omega)]
      have lT := congrArg List.length eT
      simp only [List.length_cons, List.length_nil] at lT
      refine lv_aload_n hx hb d_RecordWriter_putTextByte_12 rfl (lv_at hl 0 rfl) ?_
      refine va_ldcS hx hb hown hE.2.2.2.2.2.1.2.2.2.2 d_RecordWriter_putTextByte_13 ?_
      have ln_9 : (O ++ (wdO 10)).length = O.length + (wdO 10).length := List.length_append
      have ma_9 := jf_mono j (show O.length ≤ (O ++ (wdO 10)).length by omega)
      have mb_9 := jf_mono j (show (O ++ (wdO 10)).length ≤ (O ++ (tbO c)).length by omega)
      refine z_callV (n := 1) (As := [.ref (g.2.2 (1 + 10))]) (rest := []) ⟨hx, hb, hml, hown, hts⟩ (c_putWord (O := O) (i := 10) l g h hwr hO hj (by have := wdO_len 10; omega) (by decide)) (z_in k_740 rfl) (z_in k_19 rfl) (z_in k_737 rfl) (z_in k_739 rfl) (z_in ks_23 rfl) (by decide +kernel) ⟨by first | exact Nat.le_of_ble_eq_true rfl | (dsimp only; omega) | omega, by first | exact Nat.le_of_ble_eq_true rfl | (dsimp only; omega) | omega⟩ hK hE hw hA rfl hwr rfl hl.1 (Nat.le_of_ble_eq_true rfl) d_RecordWriter_putTextByte_15 ⟨by first | exact Nat.le_of_ble_eq_true rfl | (dsimp only; omega) | omega, by first | exact Nat.le_of_ble_eq_true rfl | (dsimp only; omega) | omega⟩ rfl (fun r9 h9 H locs hp hw => ?_)
      obtain ⟨r8, o8, k8⟩ := hp
      subst r8
      obtain ⟨h9, e7⟩ : ∃ x9, x9 = h9 := ⟨_, rfl⟩
      subst e7
      generalize eO_9 : O ++ (wdO 10) = O_9 at o8 ln_9 ma_9 mb_9 ⊢
      have oh_9 := o8
      have g9_wr : h9 wr = some ((9, 0), .inr (10, [.ref q, .ref nw, .ref ow])) := k8 _ _ _ hwr (by simp; try omega)
      have kk9 : z_K (fun y => y = 4 ∨ y = 5) h h9 := kk0.tr k8
      refine W.eq (g2 := F0 m 18 ls []) rfl ?_
      refine lv_aload_n hx hb d_RecordWriter_putTextByte_18 rfl (lv_at hl 0 rfl) ?_
      refine z_get hx hb hts (z_lay i_RecordWriter) hown hK hw g9_wr rfl 2 (by decide) (z_in k_691 rfl) (fun _ h9 => h9) rfl d_RecordWriter_putTextByte_19 ?_
      refine lv_iload_n hx hb d_RecordWriter_putTextByte_22 rfl (lv_at hl 1 rfl) ?_
      refine lv_bipush (v := 16) hx hb d_RecordWriter_putTextByte_23 (by decide) ?_
      refine lv_idiv hx hb d_RecordWriter_putTextByte_25 (by decide) ?_
      refine z_topi (y := nI (c / 16)) (pk_div (a := c) (d := 16) (by omega) (by omega) (by omega)) ?_
      refine z_callS (n := 1) (As := [.int (nI (c / 16))]) (rest := [.ref ow]) ⟨hx, hb, hml, hown, hts⟩ (c_hexSign l g h9 (by omega)) (z_in k_745 rfl) (z_in k_19 rfl) (z_in k_743 rfl) (z_in k_744 rfl) (by decide +kernel) ⟨by first | exact Nat.le_of_ble_eq_true rfl | (dsimp only; omega) | omega, by first | exact Nat.le_of_ble_eq_true rfl | (dsimp only; omega) | omega⟩ hK hE hw hA rfl hl.1 (Nat.le_of_ble_eq_true rfl) d_RecordWriter_putTextByte_26 ⟨by first | exact Nat.le_of_ble_eq_true rfl | (dsimp only; omega) | omega, by first | exact Nat.le_of_ble_eq_true rfl | (dsimp only; omega) | omega⟩ rfl (fun r9 h9 H locs hp hw => ?_)
      obtain ⟨r8, h8⟩ := hp
      subst r8
      subst h8
      refine W.eq (g2 := F0 m 29 ls [.int (nI (hxO (c / 16))), .ref ow]) rfl ?_
      obtain ⟨ob_10, f_10, how_10, -⟩ := id oh_9
      have ln_10 : (O_9 ++ ([hxO (c / 16)])).length = O_9.length + ([hxO (c / 16)]).length := List.length_append
      simp only [List.length_cons, List.length_nil] at ln_10
      have ma_10 := jf_mono j (show O_9.length ≤ (O_9 ++ ([hxO (c / 16)])).length by omega)
      have mb_10 := jf_mono j (show (O_9 ++ ([hxO (c / 16)])).length ≤ (O ++ (tbO c)).length by omega)
      refine z_callV (n := 1) (As := [.int (nI (hxO (c / 16)))]) (rest := []) ⟨hx, hb, hml, hown, hts⟩ (c_put2 (O := O_9) (b := hxO (c / 16)) l g h9 oh_9 ⟨hxO_lt (by omega), nI_b _ (hxO_lt (by omega))⟩ (by omega) hj) (z_in k_707 rfl) (z_in k_3 rfl) (z_in k_704 rfl) (z_in k_705 rfl) (z_in k_706 rfl) (by decide +kernel) ⟨by first | exact Nat.le_of_ble_eq_true rfl | (dsimp only; omega) | omega, by first | exact Nat.le_of_ble_eq_true rfl | (dsimp only; omega) | omega⟩ hK hE hw hA rfl how_10 rfl hl.1 (Nat.le_of_ble_eq_true rfl) d_RecordWriter_putTextByte_29 ⟨by first | exact Nat.le_of_ble_eq_true rfl | (dsimp only; omega) | omega, by first | exact Nat.le_of_ble_eq_true rfl | (dsimp only; omega) | omega⟩ rfl (fun r9 h9 H locs hp hw => ?_)
      obtain ⟨r8, o8, k8⟩ := hp
      subst r8
      obtain ⟨h10, e7⟩ : ∃ x9, x9 = h9 := ⟨_, rfl⟩
      subst e7
      generalize eO_10 : O_9 ++ ([hxO (c / 16)]) = O_10 at o8 ln_10 ma_10 mb_10 ⊢
      have oh_10 := o8
      have g10_wr : h10 wr = some ((9, 0), .inr (10, [.ref q, .ref nw, .ref ow])) := k8 _ _ _ g9_wr (by simp; try omega)
      have kk10 : z_K (fun y => y = 4 ∨ y = 5) h h10 := kk9.tr k8
      refine W.eq (g2 := F0 m 32 ls []) rfl ?_
      refine lv_aload_n hx hb d_RecordWriter_putTextByte_32 rfl (lv_at hl 0 rfl) ?_
      refine z_get hx hb hts (z_lay i_RecordWriter) hown hK hw g10_wr rfl 2 (by decide) (z_in k_691 rfl) (fun _ h9 => h9) rfl d_RecordWriter_putTextByte_33 ?_
      refine lv_iload_n hx hb d_RecordWriter_putTextByte_36 rfl (lv_at hl 1 rfl) ?_
      refine lv_bipush (v := 16) hx hb d_RecordWriter_putTextByte_37 (by decide) ?_
      refine lv_irem hx hb d_RecordWriter_putTextByte_39 (by decide) ?_
      refine z_topi (y := nI (c % 16)) (pk_rem (a := c) (d := 16) (by omega) (by omega) (by omega)) ?_
      refine z_callS (n := 1) (As := [.int (nI (c % 16))]) (rest := [.ref ow]) ⟨hx, hb, hml, hown, hts⟩ (c_hexSign l g h10 (by omega)) (z_in k_745 rfl) (z_in k_19 rfl) (z_in k_743 rfl) (z_in k_744 rfl) (by decide +kernel) ⟨by first | exact Nat.le_of_ble_eq_true rfl | (dsimp only; omega) | omega, by first | exact Nat.le_of_ble_eq_true rfl | (dsimp only; omega) | omega⟩ hK hE hw hA rfl hl.1 (Nat.le_of_ble_eq_true rfl) d_RecordWriter_putTextByte_40 ⟨by first | exact Nat.le_of_ble_eq_true rfl | (dsimp only; omega) | omega, by first | exact Nat.le_of_ble_eq_true rfl | (dsimp only; omega) | omega⟩ rfl (fun r9 h9 H locs hp hw => ?_)
      obtain ⟨r8, h8⟩ := hp
      subst r8
      subst h8
      refine W.eq (g2 := F0 m 43 ls [.int (nI (hxO (c % 16))), .ref ow]) rfl ?_
      obtain ⟨ob_11, f_11, how_11, -⟩ := id oh_10
      have ln_11 : (O_10 ++ ([hxO (c % 16)])).length = O_10.length + ([hxO (c % 16)]).length := List.length_append
      simp only [List.length_cons, List.length_nil] at ln_11
      have ma_11 := jf_mono j (show O_10.length ≤ (O_10 ++ ([hxO (c % 16)])).length by omega)
      have mb_11 := jf_mono j (show (O_10 ++ ([hxO (c % 16)])).length ≤ (O ++ (tbO c)).length by omega)
      refine z_callV (n := 1) (As := [.int (nI (hxO (c % 16)))]) (rest := []) ⟨hx, hb, hml, hown, hts⟩ (c_put2 (O := O_10) (b := hxO (c % 16)) l g h10 oh_10 ⟨hxO_lt (by omega), nI_b _ (hxO_lt (by omega))⟩ (by omega) hj) (z_in k_707 rfl) (z_in k_3 rfl) (z_in k_704 rfl) (z_in k_705 rfl) (z_in k_706 rfl) (by decide +kernel) ⟨by first | exact Nat.le_of_ble_eq_true rfl | (dsimp only; omega) | omega, by first | exact Nat.le_of_ble_eq_true rfl | (dsimp only; omega) | omega⟩ hK hE hw hA rfl how_11 rfl hl.1 (Nat.le_of_ble_eq_true rfl) d_RecordWriter_putTextByte_43 ⟨by first | exact Nat.le_of_ble_eq_true rfl | (dsimp only; omega) | omega, by first | exact Nat.le_of_ble_eq_true rfl | (dsimp only; omega) | omega⟩ rfl (fun r9 h9 H locs hp hw => ?_)
      obtain ⟨r8, o8, k8⟩ := hp
      subst r8
      obtain ⟨h11, e7⟩ : ∃ x9, x9 = h9 := ⟨_, rfl⟩
      subst e7
      generalize eO_11 : O_10 ++ ([hxO (c % 16)]) = O_11 at o8 ln_11 ma_11 mb_11 ⊢
      have oh_11 := o8
      have g11_wr : h11 wr = some ((9, 0), .inr (10, [.ref q, .ref nw, .ref ow])) := k8 _ _ _ g10_wr (by simp; try omega)
      have kk11 : z_K (fun y => y = 4 ∨ y = 5) h h11 := kk10.tr k8
      refine W.eq (g2 := F0 m 46 ls []) rfl ?_
      have eF : O_11 = O ++ (tbO c) := by rw [← eO_11, ← eO_10, ← eO_9]; rw [eT, wdO_10]; simp
      have eJ : jf j O_11.length = jf j (O ++ (tbO c)).length ∧ slj j O_11.length = slj j (O ++ (tbO c)).length := ⟨congrArg (fun x => jf j x.length) eF, congrArg (fun x => slj j x.length) eF⟩
      exact z_vret hx hb hr hlocks hw ⟨rfl, eF ▸ oh_11, kk11⟩ (by first | exact Nat.le_of_ble_eq_true rfl | (dsimp only; omega) | omega) (by first | exact Nat.le_of_ble_eq_true rfl | (dsimp only; omega) | omega) d_RecordWriter_putTextByte_46

theorem z_C.mono {l : Launch} {y : MethodName} {cc : ByteArray} {maxL : Nat} {ret : Option FieldType} {fr lo mc ms : Nat} {g : z_G} {av : List Value} {h : z_H} {post post' : Option Value → z_H → Prop} (hM : z_C l y cc maxL ret fr lo mc ms g av h post) (hp : ∀ r h1, post r h1 → post' r h1) : z_C l y cc maxL ret fr lo mc ms g av h post' := fun sz p e ha hc hk s m args below hf hap hP hK => by
  obtain ⟨n, o, a, b, c, ⟨⟨⟨r, h1, e1, e2, e3⟩, e4⟩, e5⟩⟩ := hM sz p e ha hc hk s m args below hf hap hP hK
  exact ⟨n, o, a, b, c, ⟨⟨r, h1, e1, hp r h1 e2, e3⟩, e4⟩, e5⟩
/-- the size of the row for the output once m bytes are in it -/
def cfR : Nat → Nat → Nat → Nat
  | 0, c, _ => c
  | k + 1, c, m => if m ≤ c then c else cfR k (2 * c) m
def cf (c m : Nat) : Nat := cfR 12 c m
/-- the output: n bytes o, in a row of cap places -/
def OutAt (g : z_G) (h : z_H) (w n cap : Nat) (o : Nat → Nat) : Prop := ∃ (ob : Nat) (f : Nat → Int32), h w = some ((4, 0), .inr (2, [.ref ob, .int (nI n)])) ∧ h ob = some ((5, 0), .inl (g.2.1 0, cap, .inl f)) ∧ n ≤ cap ∧ z_fb f cap ∧ ∀ k, k < n → o k < 256 ∧ f k = sb_b (o k)

set_option maxHeartbeats 4000000 in
set_option maxRecDepth 100000 in
theorem c_ByteRow_clear (l : Launch) (g : z_G) (h : z_H) {w ob n : Nat} (hbw : h w = some ((4, 0), .inr (2, [.ref ob, .int (nI n)])))  : z_C l y_ByteRow_clear prog_2_method_2_code 1 (Option.none : Option Jvm.ClassFile.FieldType) 0 0 0 0 g [.ref w] h (fun r h1 => r = none ∧ z_put h w (4, 0) (.inr (2, [.ref ob, .int 0])) = h1) := by
  refine z_C.of (by decide) (Nat.le_of_ble_eq_true rfl) (fun pg en s m below meth cd A ls hx hb hml hr hts hown hlocks hnm hK hE hA hw hl => ?_)
  have hl : lv_has ls 1 [(0, .ref w)] := hl
  refine lv_aload_n hx hb d_ByteRow_clear_0 rfl (lv_at hl 0 rfl) ?_
  refine lv_iconst (v := 0) hx hb d_ByteRow_clear_1 (by decide) ?_
  refine z_putf (ty := .int) hx hb hts (z_lay i_ByteRow) t_ByteRow t_ByteRow_ok n_ByteRow hown hK hw hbw rfl 1 (by decide) (z_in k_49 rfl) (fun _ h9 => h9) rfl (by decide +kernel) rfl rfl (Nat.le_of_ble_eq_true rfl) d_ByteRow_clear_2 (fun H locs hw => ?_)
  obtain ⟨h1, hh1⟩ : ∃ x9, z_put h w (4, 0) (.inr (2, [.ref ob, .int 0])) = x9 := ⟨_, rfl⟩
  have hw : z_S g A s.heap h1 H locs := by rw [← hh1]; exact hw
  have f1_w : h1 w = some ((4, 0), .inr (2, [.ref ob, .int 0])) := by rw [← hh1]; exact z_put_eq
  exact z_vret hx hb hr hlocks hw ⟨rfl, hh1⟩ (by decide) (by decide) d_ByteRow_clear_5

set_option maxHeartbeats 4000000 in
set_option maxRecDepth 100000 in
theorem c_ByteRow_byteAt (l : Launch) (g : z_G) (h : z_H) {w ob n cap : Nat} {f : Nat → Int32} {o : Nat → Nat} {k : Int32} (hbw : h w = some ((4, 0), .inr (2, [.ref ob, .int (nI n)]))) (hob : h ob = some ((5, 0), .inl (g.2.1 0, cap, .inl f))) (hn : n ≤ cap) (hc : cap < 2 ^ 29) (hf : ∀ k, k < n → o k < 256 ∧ f k = sb_b (o k)) : z_C l y_ByteRow_byteAt prog_2_method_3_code 2 (Option.some Jvm.ClassFile.FieldType.int) 0 0 0 0 g [.ref w, .int k] h (fun r h1 => r = some (.int (bz o n k)) ∧ h = h1) := by
  refine z_C.of (by decide) (Nat.le_of_ble_eq_true rfl) (fun pg en s m below meth cd A ls hx hb hml hr hts hown hlocks hnm hK hE hA hw hl => ?_)
  have hl : lv_has ls 2 [(0, .ref w), (1, .int k)] := hl
  refine lv_iload_n hx hb d_ByteRow_byteAt_0 rfl (lv_at hl 1 rfl) ?_
  refine lv_if_lt (tgt := 21) hx hb d_ByteRow_byteAt_1 (by decide) (fun c_1 => ?_) (fun c_1 => ?_)
  · -- 1: True
    refine lv_iconst (v := (-1)) hx hb d_ByteRow_byteAt_21 (by decide) ?_
    refine lv_goto (tgt := 35) hx hb d_ByteRow_byteAt_22 (by decide) ?_
    exact z_iret hx hb hr hlocks hw (by refine ⟨congrArg some (congrArg Value.int ?_), rfl⟩; unfold bz; rw [if_pos c_1]) (by decide) (by decide) d_ByteRow_byteAt_35
  · -- 1: False
    obtain ⟨j, hj, rfl⟩ := nI_of c_1
    have hl : lv_has ls 2 [(0, .ref w), (1, .int (nI j))] := hl
    refine lv_iload_n hx hb d_ByteRow_byteAt_4 rfl (lv_at hl 1 rfl) ?_
    refine lv_aload_n hx hb d_ByteRow_byteAt_5 rfl (lv_at hl 0 rfl) ?_
    refine z_get hx hb hts (z_lay i_ByteRow) hown hK hw hbw rfl 1 (by decide) (z_in k_49 rfl) (fun _ h9 => h9) rfl d_ByteRow_byteAt_6 ?_
    refine lv_icmp_ge (tgt := 21) hx hb d_ByteRow_byteAt_9 (by decide) (fun c_9 => ?_) (fun c_9 => ?_)
    · -- 9: True
      have c_9 : n ≤ j := (nI_leI (a := n) (b := j) (by omega) (by omega)).mp c_9
      refine lv_iconst (v := (-1)) hx hb d_ByteRow_byteAt_21 (by decide) ?_
      refine lv_goto (tgt := 35) hx hb d_ByteRow_byteAt_22 (by decide) ?_
      exact z_iret hx hb hr hlocks hw (by refine ⟨congrArg some (congrArg Value.int ?_), rfl⟩; rw [bz_n hj, bt_out (by omega)]) (by decide) (by decide) d_ByteRow_byteAt_35
    · -- 9: False
      have c_9 : ¬ (n ≤ j) := fun z => c_9 ((nI_leI (a := n) (b := j) (by omega) (by omega)).mpr z)
      refine lv_iload_n hx hb d_ByteRow_byteAt_12 rfl (lv_at hl 1 rfl) ?_
      refine lv_aload_n hx hb d_ByteRow_byteAt_13 rfl (lv_at hl 0 rfl) ?_
      refine z_get hx hb hts (z_lay i_ByteRow) hown hK hw hbw rfl 0 (by decide) (z_in k_48 rfl) (fun _ h9 => h9) rfl d_ByteRow_byteAt_14 ?_
      refine z_alen hx hb hK hw hob 0 rfl d_ByteRow_byteAt_17 ?_
      refine lv_icmp_lt (tgt := 25) hx hb d_ByteRow_byteAt_18 (by decide) (fun c_18 => ?_) (fun c_18 => ?_)
      · -- 18: True
        have c_18 : j < cap := (nI_ltI (a := j) (b := cap) (by omega) (by omega)).mp c_18
        refine lv_aload_n hx hb d_ByteRow_byteAt_25 rfl (lv_at hl 0 rfl) ?_
        refine z_get hx hb hts (z_lay i_ByteRow) hown hK hw hbw rfl 0 (by decide) (z_in k_48 rfl) (fun _ h9 => h9) rfl d_ByteRow_byteAt_26 ?_
        refine lv_iload_n hx hb d_ByteRow_byteAt_29 rfl (lv_at hl 1 rfl) ?_
        refine z_bald hx hb hK hw hob 0 rfl (vp_in_nI (by omega) (by omega)) d_ByteRow_byteAt_30 ?_
        refine z_topi (y := f j) (by rw [nI_clamp (by omega)]) ?_
        refine lv_sipush (v := 255) hx hb d_ByteRow_byteAt_31 (by decide) ?_
        refine lv_iand hx hb d_ByteRow_byteAt_34 ?_
        exact z_iret hx hb hr hlocks hw (by refine ⟨congrArg some (congrArg Value.int ?_), rfl⟩; rw [bz_n hj, bt_in (by omega), (hf j (by omega)).2]; exact (sb_byte _ (hf j (by omega)).1).1) (by decide) (by decide) d_ByteRow_byteAt_35
      · -- 18: False
        have c_18 : ¬ (j < cap) := fun z => c_18 ((nI_ltI (a := j) (b := cap) (by omega) (by omega)).mpr z)
        refine lv_iconst (v := (-1)) hx hb d_ByteRow_byteAt_21 (by decide) ?_
        refine lv_goto (tgt := 35) hx hb d_ByteRow_byteAt_22 (by decide) ?_
        exact z_iret hx hb hr hlocks hw (by refine ⟨congrArg some (congrArg Value.int ?_), rfl⟩; rw [bz_n hj, bt_out (by omega)]) (by decide) (by decide) d_ByteRow_byteAt_35

set_option maxHeartbeats 4000000 in
set_option maxRecDepth 100000 in
theorem c_ByteRow_init (l : Launch) (g : z_G) (h : z_H) {w : Nat} {tg : Nat × Nat} (hbw : h w = some (tg, .inr (2, [.null, .int 0])))  : z_C l y_ByteRow_init prog_2_method_1_code 1 (Option.none : Option Jvm.ClassFile.FieldType) 1 14 1 1024 g [.ref w] h (fun r h1 => ∃ ob, r = none ∧ h ob = none ∧ h1 ob = some ((5, 0), .inl (g.2.1 0, 1024, .inl (fun _ => 0))) ∧ h1 w = some (tg, .inr (2, [.ref ob, .int 0])) ∧ z_K (fun r => r = tg.1) h h1) := by
  refine z_C.of (by decide) (Nat.le_of_ble_eq_true rfl) (fun pg en s m below meth cd A ls hx hb hml hr hts hown hlocks hnm hK hE hA hw hl => ?_)
  have hl : lv_has ls 1 [(0, .ref w)] := hl
  have kk0 : z_K (fun r => r = tg.1) h h := z_K.rf
  refine lv_aload_n hx hb d_ByteRow_init_0 rfl (lv_at hl 0 rfl) ?_
  refine W.objInit hx hb hown (hts _ (z_in k_47 rfl)) (hts _ (z_in k_26 rfl)) (hts _ (z_in k_27 rfl)) rfl (by rw [hml]; exact hl.1) rfl d_ByteRow_init_1 (Nat.le_of_ble_eq_true rfl) (Nat.le_of_ble_eq_true rfl) ?_
  refine W.eq (g2 := F0 m 4 ls []) rfl ?_
  refine lv_aload_n hx hb d_ByteRow_init_4 rfl (lv_at hl 0 rfl) ?_
  refine lv_sipush (v := 1024) hx hb d_ByteRow_init_5 (by decide) ?_
  refine z_newa (atype := .byte) (N' := 1024) (a0 := (1024, .inl (fun _ => 0))) hx hb hts (z_in k_41 rfl) hK hw hA 0 rfl rfl (fun C z => by cases z) (fun cA => rfl) (by decide) (by rfl) (by show _ ≤ _; simp [componentBytes]; try omega) (by first | exact Nat.le_of_ble_eq_true rfl | (dsimp only; omega) | omega) (by first | exact Nat.le_of_ble_eq_true rfl | (dsimp only; omega) | omega) d_ByteRow_init_8 (5, 0) (fun ob H n_ob hw => ?_)
  obtain ⟨h1, hh1⟩ : ∃ x9, z_put h ob (5, 0) (.inl (g.2.1 0, 1024, .inl (fun _ => 0))) = x9 := ⟨_, rfl⟩
  have hw : z_S g A s.heap h1 H [] := by rw [← hh1]; exact hw
  have ne_w_ob : w ≠ ob := fun z => by have z2 := hbw; rw [z, n_ob] at z2; cases z2
  have f1_w : h1 w = some (tg, .inr (2, [.null, .int 0])) := by rw [← hh1]; exact z_keepN n_ob hbw
  have f1_ob : h1 ob = some ((5, 0), .inl (g.2.1 0, 1024, .inl (fun _ => 0))) := by rw [← hh1]; exact z_put_eq
  have kk1 : z_K (fun r => r = tg.1) h h1 := kk0.tr (by rw [← hh1]; exact z_K.new n_ob)
  refine z_putf (ty := .array .byte) hx hb hts (z_lay i_ByteRow) t_ByteRow t_ByteRow_ok n_ByteRow hown hK hw f1_w rfl 0 (by decide) (z_in k_48 rfl) (fun _ h9 => h9) rfl (by decide +kernel) rfl rfl (Nat.le_of_ble_eq_true rfl) d_ByteRow_init_10 (fun H locs hw => ?_)
  obtain ⟨h2, hh2⟩ : ∃ x9, z_put h1 w tg (.inr (2, [.ref ob, .int 0])) = x9 := ⟨_, rfl⟩
  have hw : z_S g A s.heap h2 H locs := by rw [← hh2]; exact hw
  have f2_w : h2 w = some (tg, .inr (2, [.ref ob, .int 0])) := by rw [← hh2]; exact z_put_eq
  have f2_ob : h2 ob = some ((5, 0), .inl (g.2.1 0, 1024, .inl (fun _ => 0))) := by rw [← hh2]; exact (z_put_ne (Ne.symm ne_w_ob)).trans f1_ob
  have kk2 : z_K (fun r => r = tg.1) h h2 := kk1.tr (by rw [← hh2]; exact z_K.put f1_w (by first | decide | simp | omega))
  exact z_vret hx hb hr hlocks hw ⟨ob, rfl, n_ob, f2_ob, f2_w, kk2⟩ (by decide) (by decide) d_ByteRow_init_13

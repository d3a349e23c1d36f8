def jfR : Nat → Nat → Nat → Nat
  | 0, j, _ => j
  | k + 1, j, m => if m ≤ 1024 * 2 ^ j then j else jfR k (j + 1) m
/-- how often the row for the output has doubled, when m bytes came into a row that had doubled j times -/
def jf (j m : Nat) : Nat := jfR (8 - j) j m
def capj (j m : Nat) : Nat := 1024 * 2 ^ jf j m
def slj (j m : Nat) : Nat := 2048 * 2 ^ jf j m
theorem jfR_ge : ∀ k j m, j ≤ jfR k j m ∧ jfR k j m ≤ j + k := by
  intro k
  induction k with
  | zero => intro j m; exact ⟨Nat.le_refl _, Nat.le_refl _⟩
  | succ k ih =>
    intro j m
    simp only [jfR]
    split
    · omega
    · have := ih (j + 1) m; omega
theorem jfR_in : ∀ k j m m', m ≤ m' → m' ≤ 1024 * 2 ^ jfR k j m → jfR k j m' = jfR k j m := by
  intro k
  induction k with
  | zero => intro j m m' _ _; rfl
  | succ k ih =>
    intro j m m' h1 h2
    simp only [jfR] at h2 ⊢
    split at h2
    · rename_i h3
      rw [if_pos h2, if_pos h3]
    · rename_i h3
      rw [if_neg h3, if_neg (by omega)]
      exact ih _ _ _ h1 h2
theorem jfR_up : ∀ k j m, m = 1024 * 2 ^ jfR k j m → jfR k j m < j + k → jfR k j (m + 1) = jfR k j m + 1 := by
  intro k
  induction k with
  | zero => intro j m _ h2; simp only [jfR] at h2; omega
  | succ k ih =>
    intro j m h1 h2
    simp only [jfR] at h1 h2 ⊢
    split at h1
    · rename_i h3
      rw [if_pos h3, if_neg (by omega)]
      cases k with
      | zero => rfl
      | succ k =>
        simp only [jfR]
        rw [if_pos (by have : 2 ^ j * 2 = 2 ^ (j + 1) := (Nat.pow_succ 2 j).symm; have : 0 < 2 ^ j := Nat.two_pow_pos j; omega)]
    · rename_i h3
      rw [if_neg h3] at h2
      rw [if_neg h3, if_neg (by omega)]
      exact ih _ _ h1 (by omega)
theorem jfR_fit : ∀ k j m, m ≤ 1024 * 2 ^ (j + k) → m ≤ 1024 * 2 ^ jfR k j m := by
  intro k
  induction k with
  | zero => intro j m h; exact h
  | succ k ih =>
    intro j m h
    simp only [jfR]
    split
    · assumption
    · exact ih _ _ (by rw [show j + 1 + k = j + (k + 1) by omega]; exact h)
theorem jfR_mono : ∀ k j m m', m ≤ m' → jfR k j m ≤ jfR k j m' := by
  intro k
  induction k with
  | zero => intro j m m' _; exact Nat.le_refl _
  | succ k ih =>
    intro j m m' h
    simp only [jfR]
    split
    · split
      · exact Nat.le_refl _
      · have := (jfR_ge k (j + 1) m').1; omega
    · rw [if_neg (by omega)]; exact ih _ _ _ h
theorem jf_mono (j : Nat) {m m' : Nat} (h : m ≤ m') : jf j m ≤ jf j m' ∧ slj j m ≤ slj j m' := by
  have h1 := jfR_mono (8 - j) j m m' h
  refine ⟨h1, ?_⟩
  unfold slj
  exact Nat.mul_le_mul_left _ (Nat.pow_le_pow_right (by decide) h1)
theorem jf_le {j : Nat} (m : Nat) (hj : j ≤ 8) : j ≤ jf j m ∧ jf j m ≤ 8 := by
  have := jfR_ge (8 - j) j m
  unfold jf
  omega
theorem capj_le {j : Nat} (m : Nat) (hj : j ≤ 8) : 1024 ≤ capj j m ∧ capj j m ≤ 262144 ∧ slj j m = 2 * capj j m := by
  have h1 := (jf_le m hj).2
  have h2 : 2 ^ jf j m ≤ 2 ^ 8 := Nat.pow_le_pow_right (by decide) h1
  have h3 : 0 < 2 ^ jf j m := Nat.two_pow_pos _
  unfold capj slj
  omega
theorem jf_in {j m : Nat} (h : m + 1 ≤ capj j m) : jf j (m + 1) = jf j m ∧ slj j (m + 1) = slj j m ∧ capj j (m + 1) = capj j m := by
  have h1 : jf j (m + 1) = jf j m := jfR_in _ _ _ _ (Nat.le_succ _) h
  unfold slj capj
  rw [h1]
  exact ⟨rfl, rfl, rfl⟩
theorem jf_up {j m : Nat} (hj : j ≤ 8) (h : m = capj j m) (hm : m < 262144) : jf j (m + 1) = jf j m + 1 ∧ slj j (m + 1) = slj j m + capj j m * 2 ∧ capj j (m + 1) = capj j m * 2 := by
  have h0 : jf j m < 8 := by
    apply Classical.byContradiction
    intro z
    have h1 := (jf_le m hj).2
    have h2 : jf j m = 8 := by omega
    unfold capj at h
    rw [h2] at h
    omega
  have h1 : jf j (m + 1) = jf j m + 1 := jfR_up _ _ _ h (by unfold jf at h0; omega)
  unfold slj capj
  rw [h1, Nat.pow_succ]
  omega
/-- the output: the bytes O, in a row that had doubled j times when it was empty -/
def OutB (g : z_G) (h : z_H) (ow j : Nat) (O : List Nat) : Prop := ∃ (ob : Nat) (f : Nat → Int32), h ow = some ((4, 0), .inr (2, [.ref ob, .int (nI O.length)])) ∧ h ob = some ((5, 0), .inl (g.2.1 0, capj j O.length, .inl f)) ∧ O.length ≤ capj j O.length ∧ z_fb f (capj j O.length) ∧ ∀ k, k < O.length → O.getD k 0 < 256 ∧ f k = sb_b (O.getD k 0)
theorem OutB.k {g : z_G} {h h1 : z_H} {ow j : Nat} {O : List Nat} {Ro : Nat → Prop} (x : OutB g h ow j O) (hk : z_K Ro h h1) (h0 : ¬ Ro 4) (h1' : ¬ Ro 5) : OutB g h1 ow j O := by
  obtain ⟨ob, f, e1, e2, e3⟩ := x
  exact ⟨ob, f, hk _ _ _ e1 h0, hk _ _ _ e2 h1', e3⟩
theorem OutB.add {g : z_G} {h1 : z_H} {ow j ob : Nat} {O : List Nat} {f f2 : Nat → Int32} {b : Nat} (h0 : ∀ k, k < O.length → O.getD k 0 < 256 ∧ f k = sb_b (O.getD k 0)) (e1 : h1 ow = some ((4, 0), .inr (2, [.ref ob, .int (nI (O.length + 1))]))) {cap : Nat} (e2 : h1 ob = some ((5, 0), .inl (g.2.1 0, cap, .inl f2))) (ec : capj j (O.length + 1) = cap) (el : O.length + 1 ≤ cap) (hk : ∀ k, k < O.length → f2 k = f k) (hn : f2 O.length = sb_b b) (hb : b < 256) (hfb : z_fb f2 cap) : OutB g h1 ow j (O ++ [b]) := by
  have hl : (O ++ [b]).length = O.length + 1 := by simp
  refine ⟨ob, f2, by rw [hl]; exact e1, by rw [hl, ec]; exact e2, by rw [hl, ec]; exact el, by rw [hl, ec]; exact hfb, fun k hk2 => ?_⟩
  rw [hl] at hk2
  by_cases e : k < O.length
  · have e3 : (O ++ [b]).getD k 0 = O.getD k 0 := by simp only [List.getD_eq_getElem?_getD]; rw [List.getElem?_append_left e]
    rw [e3, hk k e]; exact h0 k e
  · have e4 : k = O.length := by omega
    subst e4
    have e3 : (O ++ [b]).getD O.length 0 = b := by simp
    rw [e3]; exact ⟨hb, hn⟩

set_option maxHeartbeats 4000000 in
set_option maxRecDepth 100000 in
theorem c_put (l : Launch) (g : z_G) (h : z_H) {w j : Nat} {O : List Nat} {c : Int32} {b : Nat}  (hO : OutB g h w j O) (hb9 : b < 256 ∧ c.toInt8.toInt32 = sb_b b) (hlen : O.length < 262144) (hj : j ≤ 8) : z_C l y_ByteRow_put prog_2_method_4_code 2 (Option.none : Option Jvm.ClassFile.FieldType) 2 70 (jf j (O.length + 1) - jf j O.length) (slj j (O.length + 1) - slj j O.length) g [.ref w, .int c] h (fun r h1 => r = none ∧ OutB g h1 w j (O ++ [b]) ∧ z_K (fun y => y = 4 ∨ y = 5) h h1) := by
  refine z_C.of (by decide) (Nat.le_of_ble_eq_true rfl) (fun pg en s m below meth cd A ls hx hb hml hr hts hown hlocks hnm hK hE hA hw hl => ?_)
  have hl : lv_has ls 2 [(0, .ref w), (1, .int c)] := hl
  obtain ⟨ob, f, hbw, hob, hn, hfb, ho⟩ := hO
  obtain ⟨v1, v2, v3⟩ := capj_le O.length hj
  obtain ⟨cap, ecap⟩ : ∃ x, x = capj j O.length := ⟨_, rfl⟩
  rw [← ecap] at hob hn hfb v1 v2 v3
  have kk0 : z_K (fun y => y = 4 ∨ y = 5) h h := z_K.rf
  refine lv_aload_n hx hb d_ByteRow_put_0 rfl (lv_at hl 0 rfl) ?_
  refine z_get hx hb hts (z_lay i_ByteRow) hown hK hw hbw rfl 1 (by decide) (z_in k_49 rfl) (fun _ h9 => h9) rfl d_ByteRow_put_1 ?_
  refine lv_aload_n hx hb d_ByteRow_put_4 rfl (lv_at hl 0 rfl) ?_
  refine z_get hx hb hts (z_lay i_ByteRow) hown hK hw hbw rfl 0 (by decide) (z_in k_48 rfl) (fun _ h9 => h9) rfl d_ByteRow_put_5 ?_
  refine z_alen hx hb hK hw hob 0 rfl d_ByteRow_put_8 ?_
  refine lv_icmp_lt (tgt := 40) hx hb d_ByteRow_put_9 (by decide) (fun c_9 => ?_) (fun c_9 => ?_)
  · -- 9: True
    have c_9 : O.length < cap := (nI_ltI (a := O.length) (b := cap) (by omega) (by omega)).mp c_9
    obtain ⟨u1, u2, u3⟩ := jf_in (j := j) (m := O.length) (by omega)
    refine lv_aload_n hx hb d_ByteRow_put_40 rfl (lv_at hl 0 rfl) ?_
    refine z_get hx hb hts (z_lay i_ByteRow) hown hK hw hbw rfl 1 (by decide) (z_in k_49 rfl) (fun _ h9 => h9) rfl d_ByteRow_put_41 ?_
    refine lv_aload_n hx hb d_ByteRow_put_44 rfl (lv_at hl 0 rfl) ?_
    refine z_get hx hb hts (z_lay i_ByteRow) hown hK hw hbw rfl 0 (by decide) (z_in k_48 rfl) (fun _ h9 => h9) rfl d_ByteRow_put_45 ?_
    refine z_alen hx hb hK hw hob 0 rfl d_ByteRow_put_48 ?_
    refine lv_icmp_ge (tgt := 73) hx hb d_ByteRow_put_49 (by decide) (fun c_49 => ?_) (fun c_49 => ?_)
    · -- 49: True
      have c_49 : cap ≤ O.length := (nI_leI (a := cap) (b := O.length) (by omega) (by omega)).mp c_49
      omega
    · -- 49: False
      have c_49 : ¬ (cap ≤ O.length) := fun z => c_49 ((nI_leI (a := cap) (b := O.length) (by omega) (by omega)).mpr z)
      refine lv_aload_n hx hb d_ByteRow_put_52 rfl (lv_at hl 0 rfl) ?_
      refine z_get hx hb hts (z_lay i_ByteRow) hown hK hw hbw rfl 0 (by decide) (z_in k_48 rfl) (fun _ h9 => h9) rfl d_ByteRow_put_53 ?_
      refine lv_aload_n hx hb d_ByteRow_put_56 rfl (lv_at hl 0 rfl) ?_
      refine z_get hx hb hts (z_lay i_ByteRow) hown hK hw hbw rfl 1 (by decide) (z_in k_49 rfl) (fun _ h9 => h9) rfl d_ByteRow_put_57 ?_
      refine lv_iload_n hx hb d_ByteRow_put_60 rfl (lv_at hl 1 rfl) ?_
      refine lv_i2b hx hb d_ByteRow_put_61 rfl ?_
      refine z_bast hx hb hK hw hob 0 rfl (vp_in_nI (by omega) (by omega)) d_ByteRow_put_62 (fun H locs hw => ?_)
      rw [nI_clamp (by omega)] at hw
      rw [vp_nar_byte, show (c.toInt8.toInt32).toInt8.toInt32 = c.toInt8.toInt32 from by simp] at hw
      obtain ⟨h1, hh1⟩ : ∃ x9, z_put h ob (5, 0) (.inl (g.2.1 0, cap, .inl (upd f O.length c.toInt8.toInt32))) = x9 := ⟨_, rfl⟩
      have hw : z_S g A s.heap h1 H locs := by rw [← hh1]; exact hw
      have f1_w : h1 w = some ((4, 0), .inr (2, [.ref ob, .int (nI O.length)])) := by rw [← hh1]; exact z_keep hob hbw (z_t1 (by decide))
      have f1_ob : h1 ob = some ((5, 0), .inl (g.2.1 0, cap, .inl (upd f O.length c.toInt8.toInt32))) := by rw [← hh1]; exact z_put_eq
      have kk1 : z_K (fun y => y = 4 ∨ y = 5) h h1 := kk0.tr (by rw [← hh1]; exact z_K.put hob (by first | decide | simp | omega))
      refine lv_aload_n hx hb d_ByteRow_put_63 rfl (lv_at hl 0 rfl) ?_
      refine lv_dup hx hb d_ByteRow_put_64 rfl ?_
      refine z_get hx hb hts (z_lay i_ByteRow) hown hK hw f1_w rfl 1 (by decide) (z_in k_49 rfl) (fun _ h9 => h9) rfl d_ByteRow_put_65 ?_
      refine lv_iconst (v := 1) hx hb d_ByteRow_put_68 (by decide) ?_
      refine lv_iadd hx hb d_ByteRow_put_69 ?_
      refine z_topi (y := nI (O.length + 1)) (nI_add O.length 1) ?_
      refine z_putf (ty := .int) hx hb hts (z_lay i_ByteRow) t_ByteRow t_ByteRow_ok n_ByteRow hown hK hw f1_w rfl 1 (by decide) (z_in k_49 rfl) (fun _ h9 => h9) rfl (by decide +kernel) rfl rfl (Nat.le_of_ble_eq_true rfl) d_ByteRow_put_70 (fun H locs hw => ?_)
      obtain ⟨h2, hh2⟩ : ∃ x9, z_put h1 w (4, 0) (.inr (2, [.ref ob, .int (nI (O.length + 1))])) = x9 := ⟨_, rfl⟩
      have hw : z_S g A s.heap h2 H locs := by rw [← hh2]; exact hw
      have f2_w : h2 w = some ((4, 0), .inr (2, [.ref ob, .int (nI (O.length + 1))])) := by rw [← hh2]; exact z_put_eq
      have f2_ob : h2 ob = some ((5, 0), .inl (g.2.1 0, cap, .inl (upd f O.length c.toInt8.toInt32))) := by rw [← hh2]; exact z_keep f1_w f1_ob (z_t1 (by decide))
      have kk2 : z_K (fun y => y = 4 ∨ y = 5) h h2 := kk1.tr (by rw [← hh2]; exact z_K.put f1_w (by first | decide | simp | omega))
      exact z_vret hx hb hr hlocks hw ⟨rfl, OutB.add (f := f) ho f2_w f2_ob (by omega) (by omega) (fun k hk => pk_un (by omega)) (by rw [pk_us]; exact hb9.2) hb9.1 (z_fbu hfb (pk_fb _)), kk2⟩ (by first | exact Nat.le_of_ble_eq_true rfl | (dsimp only; omega) | omega) (by first | exact Nat.le_of_ble_eq_true rfl | (dsimp only; omega) | omega) d_ByteRow_put_73
  · -- 9: False
    have c_9 : ¬ (O.length < cap) := fun z => c_9 ((nI_ltI (a := O.length) (b := cap) (by omega) (by omega)).mpr z)
    obtain ⟨u1, u2, u3⟩ := jf_up (j := j) (m := O.length) hj (by omega) hlen
    refine lv_aload_n hx hb d_ByteRow_put_12 rfl (lv_at hl 0 rfl) ?_
    refine z_get hx hb hts (z_lay i_ByteRow) hown hK hw hbw rfl 0 (by decide) (z_in k_48 rfl) (fun _ h9 => h9) rfl d_ByteRow_put_13 ?_
    refine z_alen hx hb hK hw hob 0 rfl d_ByteRow_put_16 ?_
    refine lv_ldc hx hb hown (hts _ (z_in k_708 rfl)) d_ByteRow_put_17 ?_
    refine lv_icmp_ge (tgt := 40) hx hb d_ByteRow_put_19 (by decide) (fun c_19 => ?_) (fun c_19 => ?_)
    · -- 19: True
      have c_19 : 262144 ≤ cap := (nI_leI (a := 262144) (b := cap) (by omega) (by omega)).mp c_19
      omega
    · -- 19: False
      have c_19 : ¬ (262144 ≤ cap) := fun z => c_19 ((nI_leI (a := 262144) (b := cap) (by omega) (by omega)).mpr z)
      refine lv_aload_n hx hb d_ByteRow_put_22 rfl (lv_at hl 0 rfl) ?_
      refine lv_aload_n hx hb d_ByteRow_put_23 rfl (lv_at hl 0 rfl) ?_
      refine z_get hx hb hts (z_lay i_ByteRow) hown hK hw hbw rfl 0 (by decide) (z_in k_48 rfl) (fun _ h9 => h9) rfl d_ByteRow_put_24 ?_
      refine lv_aload_n hx hb d_ByteRow_put_27 rfl (lv_at hl 0 rfl) ?_
      refine z_get hx hb hts (z_lay i_ByteRow) hown hK hw hbw rfl 0 (by decide) (z_in k_48 rfl) (fun _ h9 => h9) rfl d_ByteRow_put_28 ?_
      refine z_alen hx hb hK hw hob 0 rfl d_ByteRow_put_31 ?_
      refine lv_iconst (v := 2) hx hb d_ByteRow_put_32 (by decide) ?_
      refine lv_imul hx hb d_ByteRow_put_33 ?_
      refine z_topi (y := nI (cap * 2)) (pk_mul cap 2) ?_
      refine z_callS (n := 2) (As := [.ref ob, .int (nI (cap * 2))]) (rest := [.ref w]) ⟨hx, hb, hml, hown, hts⟩ (c_JA_copyOf (tg := (5, 0)) l g h hob (by omega) (by omega) hfb) (z_in k_600 rfl) (z_in k_14 rfl) (z_in k_709 rfl) (z_in k_599 rfl) (by decide +kernel) ⟨by first | exact Nat.le_of_ble_eq_true rfl | (dsimp only; omega) | omega, by first | exact Nat.le_of_ble_eq_true rfl | (dsimp only; omega) | omega⟩ hK hE hw hA rfl hl.1 (Nat.le_of_ble_eq_true rfl) d_ByteRow_put_34 ⟨by first | exact Nat.le_of_ble_eq_true rfl | (dsimp only; omega) | omega, by first | exact Nat.le_of_ble_eq_true rfl | (dsimp only; omega) | omega⟩ rfl (fun r9 h9 H locs hp hw => ?_)
      obtain ⟨o2, f2, r8, n_o2, e8, e7, hh1⟩ := hp
      subst r8
      obtain ⟨h1, e6⟩ : ∃ x9, x9 = h9 := ⟨_, rfl⟩
      subst e6
      have ne_w_o2 : w ≠ o2 := fun z => by have z2 := hbw; rw [z, n_o2] at z2; cases z2
      have ne_ob_o2 : ob ≠ o2 := fun z => by have z2 := hob; rw [z, n_o2] at z2; cases z2
      have f1_w : h1 w = some ((4, 0), .inr (2, [.ref ob, .int (nI O.length)])) := by rw [← hh1]; exact z_keepN n_o2 hbw
      have f1_ob : h1 ob = some ((5, 0), .inl (g.2.1 0, cap, .inl f)) := by rw [← hh1]; exact z_keepN n_o2 hob
      have f1_o2 : h1 o2 = some ((5, 0), .inl (g.2.1 0, cap * 2, .inl f2)) := by rw [← hh1]; exact z_put_eq
      have kk1 : z_K (fun y => y = 4 ∨ y = 5) h h1 := kk0.tr (by rw [← hh1]; exact z_K.new n_o2)
      refine W.eq (g2 := F0 m 37 ls [.ref o2, .ref w]) rfl ?_
      refine z_putf (ty := .array .byte) hx hb hts (z_lay i_ByteRow) t_ByteRow t_ByteRow_ok n_ByteRow hown hK hw f1_w rfl 0 (by decide) (z_in k_48 rfl) (fun _ h9 => h9) rfl (by decide +kernel) rfl rfl (Nat.le_of_ble_eq_true rfl) d_ByteRow_put_37 (fun H locs hw => ?_)
      obtain ⟨h3, hh3⟩ : ∃ x9, z_put h1 w (4, 0) (.inr (2, [.ref o2, .int (nI O.length)])) = x9 := ⟨_, rfl⟩
      have hw : z_S g A s.heap h3 H locs := by rw [← hh3]; exact hw
      have f3_w : h3 w = some ((4, 0), .inr (2, [.ref o2, .int (nI O.length)])) := by rw [← hh3]; exact z_put_eq
      have f3_ob : h3 ob = some ((5, 0), .inl (g.2.1 0, cap, .inl f)) := by rw [← hh3]; exact z_keep f1_w f1_ob (z_t1 (by decide))
      have f3_o2 : h3 o2 = some ((5, 0), .inl (g.2.1 0, cap * 2, .inl f2)) := by rw [← hh3]; exact (z_put_ne (Ne.symm ne_w_o2)).trans f1_o2
      have kk3 : z_K (fun y => y = 4 ∨ y = 5) h h3 := kk1.tr (by rw [← hh3]; exact z_K.put f1_w (by first | decide | simp | omega))
      obtain ⟨u1, u2, u3⟩ := jf_up (j := j) (m := O.length) hj (by omega) hlen
      refine lv_aload_n hx hb d_ByteRow_put_40 rfl (lv_at hl 0 rfl) ?_
      refine z_get hx hb hts (z_lay i_ByteRow) hown hK hw f3_w rfl 1 (by decide) (z_in k_49 rfl) (fun _ h9 => h9) rfl d_ByteRow_put_41 ?_
      refine lv_aload_n hx hb d_ByteRow_put_44 rfl (lv_at hl 0 rfl) ?_
      refine z_get hx hb hts (z_lay i_ByteRow) hown hK hw f3_w rfl 0 (by decide) (z_in k_48 rfl) (fun _ h9 => h9) rfl d_ByteRow_put_45 ?_
      refine z_alen hx hb hK hw f3_o2 0 rfl d_ByteRow_put_48 ?_
      refine lv_icmp_ge (tgt := 73) hx hb d_ByteRow_put_49 (by decide) (fun c_49 => ?_) (fun c_49 => ?_)
      · -- 49: True
        have c_49 : (cap * 2) ≤ O.length := (nI_leI (a := cap * 2) (b := O.length) (by omega) (by omega)).mp c_49
        omega
      · -- 49: False
        have c_49 : ¬ ((cap * 2) ≤ O.length) := fun z => c_49 ((nI_leI (a := cap * 2) (b := O.length) (by omega) (by omega)).mpr z)
        refine lv_aload_n hx hb d_ByteRow_put_52 rfl (lv_at hl 0 rfl) ?_
        refine z_get hx hb hts (z_lay i_ByteRow) hown hK hw f3_w rfl 0 (by decide) (z_in k_48 rfl) (fun _ h9 => h9) rfl d_ByteRow_put_53 ?_
        refine lv_aload_n hx hb d_ByteRow_put_56 rfl (lv_at hl 0 rfl) ?_
        refine z_get hx hb hts (z_lay i_ByteRow) hown hK hw f3_w rfl 1 (by decide) (z_in k_49 rfl) (fun _ h9 => h9) rfl d_ByteRow_put_57 ?_
        refine lv_iload_n hx hb d_ByteRow_put_60 rfl (lv_at hl 1 rfl) ?_
        refine lv_i2b hx hb d_ByteRow_put_61 rfl ?_
        refine z_bast hx hb hK hw f3_o2 0 rfl (vp_in_nI (by omega) (by omega)) d_ByteRow_put_62 (fun H locs hw => ?_)
        rw [nI_clamp (by omega)] at hw
        rw [vp_nar_byte, show (c.toInt8.toInt32).toInt8.toInt32 = c.toInt8.toInt32 from by simp] at hw
        obtain ⟨h4, hh4⟩ : ∃ x9, z_put h3 o2 (5, 0) (.inl (g.2.1 0, cap * 2, .inl (upd f2 O.length c.toInt8.toInt32))) = x9 := ⟨_, rfl⟩
        have hw : z_S g A s.heap h4 H locs := by rw [← hh4]; exact hw
        have f4_w : h4 w = some ((4, 0), .inr (2, [.ref o2, .int (nI O.length)])) := by rw [← hh4]; exact (z_put_ne ne_w_o2).trans f3_w
        have f4_ob : h4 ob = some ((5, 0), .inl (g.2.1 0, cap, .inl f)) := by rw [← hh4]; exact (z_put_ne ne_ob_o2).trans f3_ob
        have f4_o2 : h4 o2 = some ((5, 0), .inl (g.2.1 0, cap * 2, .inl (upd f2 O.length c.toInt8.toInt32))) := by rw [← hh4]; exact z_put_eq
        have kk4 : z_K (fun y => y = 4 ∨ y = 5) h h4 := kk3.tr (by rw [← hh4]; exact z_K.put f3_o2 (by first | decide | simp | omega))
        refine lv_aload_n hx hb d_ByteRow_put_63 rfl (lv_at hl 0 rfl) ?_
        refine lv_dup hx hb d_ByteRow_put_64 rfl ?_
        refine z_get hx hb hts (z_lay i_ByteRow) hown hK hw f4_w rfl 1 (by decide) (z_in k_49 rfl) (fun _ h9 => h9) rfl d_ByteRow_put_65 ?_
        refine lv_iconst (v := 1) hx hb d_ByteRow_put_68 (by decide) ?_
        refine lv_iadd hx hb d_ByteRow_put_69 ?_
        refine z_topi (y := nI (O.length + 1)) (nI_add O.length 1) ?_
        refine z_putf (ty := .int) hx hb hts (z_lay i_ByteRow) t_ByteRow t_ByteRow_ok n_ByteRow hown hK hw f4_w rfl 1 (by decide) (z_in k_49 rfl) (fun _ h9 => h9) rfl (by decide +kernel) rfl rfl (Nat.le_of_ble_eq_true rfl) d_ByteRow_put_70 (fun H locs hw => ?_)
        obtain ⟨h5, hh5⟩ : ∃ x9, z_put h4 w (4, 0) (.inr (2, [.ref o2, .int (nI (O.length + 1))])) = x9 := ⟨_, rfl⟩
        have hw : z_S g A s.heap h5 H locs := by rw [← hh5]; exact hw
        have f5_w : h5 w = some ((4, 0), .inr (2, [.ref o2, .int (nI (O.length + 1))])) := by rw [← hh5]; exact z_put_eq
        have f5_ob : h5 ob = some ((5, 0), .inl (g.2.1 0, cap, .inl f)) := by rw [← hh5]; exact z_keep f4_w f4_ob (z_t1 (by decide))
        have f5_o2 : h5 o2 = some ((5, 0), .inl (g.2.1 0, cap * 2, .inl (upd f2 O.length c.toInt8.toInt32))) := by rw [← hh5]; exact (z_put_ne (Ne.symm ne_w_o2)).trans f4_o2
        have kk5 : z_K (fun y => y = 4 ∨ y = 5) h h5 := kk4.tr (by rw [← hh5]; exact z_K.put f4_w (by first | decide | simp | omega))
        exact z_vret hx hb hr hlocks hw ⟨rfl, OutB.add (f := f) ho f5_w f5_o2 (by omega) (by omega) (fun k hk => by rw [pk_un (by omega), e8 k (by omega) (by omega)]) (by rw [pk_us]; exact hb9.2) hb9.1 (z_fbu e7 (pk_fb _)), kk5⟩ (by first | exact Nat.le_of_ble_eq_true rfl | (dsimp only; omega) | omega) (by first | exact Nat.le_of_ble_eq_true rfl | (dsimp only; omega) | omega) d_ByteRow_put_73

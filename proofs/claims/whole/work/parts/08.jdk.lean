/-- the first n places hold bytes -/
def z_fb (f : Nat → Int32) (n : Nat) : Prop := ∀ k, k < n → fits .byte (.int (f k)) = true
theorem z_fb0 (n : Nat) : z_fb (fun _ => 0) n := fun _ _ => rfl
theorem z_fbu {f : Nat → Int32} {n k : Nat} {x : Int32} (h : z_fb f n) (hx : fits .byte (.int x) = true) : z_fb (upd f k x) n := fun j hj => by
  by_cases e : j = k
  · rw [e, pk_us]; exact hx
  · rw [pk_un e]; exact h j hj
theorem z_min {a b c : Nat} (ha : a < 2 ^ 31) (hb : b < 2 ^ 31) (hc : (b < a → c = b) ∧ (a ≤ b → c = a)) : (if nI b < nI a then nI b else nI a) = nI c := by
  by_cases z : b < a
  · rw [if_pos (nI_lt z ha), hc.1 z]
  · rw [if_neg (nI_nlt (by omega) hb), hc.2 (by omega)]

set_option maxHeartbeats 4000000 in
set_option maxRecDepth 100000 in
theorem c_JA_checkLength (l : Launch) (g : z_G) (h : z_H) {a b : Nat}  (ha : a < 2 ^ 31) (hb1 : b < 2 ^ 31) (hab : a ≤ b) : z_C l y_JA_checkLength prog_20_method_131_code 2 (Option.none : Option Jvm.ClassFile.FieldType) 0 0 0 0 g [.int (nI a), .int (nI b)] h (fun r h1 => r = none ∧ h = h1) := by
  refine z_C.of (by decide) (Nat.le_of_ble_eq_true rfl) (fun pg en s m below meth cd A ls hx hb hml hr hts hown hlocks hnm hK hE hA hw hl => ?_)
  have hl : lv_has ls 2 [(0, .int (nI a)), (1, .int (nI b))] := hl
  refine lv_iload_n hx hb d_JA_checkLength_0 rfl (lv_at hl 1 rfl) ?_
  refine lv_iload_n hx hb d_JA_checkLength_1 rfl (lv_at hl 0 rfl) ?_
  refine lv_icmp_ge (tgt := 37) hx hb d_JA_checkLength_2 (by decide) (fun c_2 => ?_) (fun c_2 => ?_)
  · -- 2: True
    have c_2 : a ≤ b := (nI_leI (a := a) (b := b) (by omega) (by omega)).mp c_2
    exact z_vret hx hb hr hlocks hw ⟨rfl, rfl⟩ (by decide) (by decide) d_JA_checkLength_37
  · -- 2: False
    have c_2 : ¬ (a ≤ b) := fun z => c_2 ((nI_leI (a := a) (b := b) (by omega) (by omega)).mpr z)
    omega

set_option maxHeartbeats 4000000 in
set_option maxRecDepth 100000 in
theorem c_JA_copyOfRangeByte (l : Launch) (g : z_G) (h : z_H) {src len : Nat} {ts tg : Nat × Nat} {f : Nat → Int32} {i j : Nat} (hs : h src = some (ts, .inl (g.2.1 0, len, .inl f))) (hij : i ≤ j) (hj : j ≤ len) (hlen : len < 2 ^ 29) (hfb : z_fb f len) : z_C l y_JA_copyOfRangeByte prog_20_method_133_code 5 (Option.some (Jvm.ClassFile.FieldType.array Jvm.ClassFile.FieldType.byte)) 1 40 1 (j - i) g [.ref src, .int (nI i), .int (nI j)] h (fun r h1 => ∃ q f2, r = some (.ref q) ∧ h q = none ∧ (∀ k, k < j - i → f2 k = f (i + k)) ∧ z_put h q tg (.inl (g.2.1 0, j - i, .inl f2)) = h1) := by
  refine z_C.of (by decide) (Nat.le_of_ble_eq_true rfl) (fun pg en s m below meth cd A ls hx hb hml hr hts hown hlocks hnm hK hE hA hw hl => ?_)
  have hl : lv_has ls 5 [(0, .ref src), (1, .int (nI i)), (2, .int (nI j))] := hl
  refine lv_iload_n hx hb d_JA_copyOfRangeByte_0 rfl (lv_at hl 1 rfl) ?_
  refine lv_iload_n hx hb d_JA_copyOfRangeByte_1 rfl (lv_at hl 2 rfl) ?_
  refine z_callS (n := 2) (As := [.int (nI i), .int (nI j)]) (rest := []) ⟨hx, hb, hml, hown, hts⟩ (c_JA_checkLength l g h (by omega) (by omega) (by omega)) (z_in k_375 rfl) (z_in k_14 rfl) (z_in k_373 rfl) (z_in k_374 rfl) (by decide +kernel) ⟨by first | exact Nat.le_of_ble_eq_true rfl | (dsimp only; omega) | omega, by first | exact Nat.le_of_ble_eq_true rfl | (dsimp only; omega) | omega⟩ hK hE hw hA rfl hl.1 (Nat.le_of_ble_eq_true rfl) d_JA_copyOfRangeByte_2 ⟨by first | exact Nat.le_of_ble_eq_true rfl | (dsimp only; omega) | omega, by first | exact Nat.le_of_ble_eq_true rfl | (dsimp only; omega) | omega⟩ rfl (fun r9 h9 H locs hp hw => ?_)
  obtain ⟨r8, h8⟩ := hp
  subst r8
  subst h8
  refine W.eq (g2 := F0 m 5 ls []) rfl ?_
  refine lv_iload_n hx hb d_JA_copyOfRangeByte_5 rfl (lv_at hl 2 rfl) ?_
  refine lv_iload_n hx hb d_JA_copyOfRangeByte_6 rfl (lv_at hl 1 rfl) ?_
  refine lv_isub hx hb d_JA_copyOfRangeByte_7 ?_
  refine z_topi (y := nI (j - i)) (pk_sub (a := j) (b := i) (by omega)) ?_
  refine lv_istore_n (lv' := [(3, .int (nI (j - i))), (0, .ref src), (1, .int (nI i)), (2, .int (nI j))]) hx hb d_JA_copyOfRangeByte_8 rfl hl (by decide) rfl (fun ls hl => ?_)
  refine lv_iload_n hx hb d_JA_copyOfRangeByte_9 rfl (lv_at hl 0 rfl) ?_
  refine z_newa (atype := .byte) (N' := j - i) (a0 := (j - i, .inl (fun _ => 0))) hx hb hts (z_in k_41 rfl) hK hw hA 0 rfl rfl (fun C z => by cases z) (fun cA => rfl) (nI_pos (by omega)) (by rw [nI_clamp (by omega)]) (by show _ ≤ _; simp [componentBytes]; try omega) (by first | exact Nat.le_of_ble_eq_true rfl | (dsimp only; omega) | omega) (by first | exact Nat.le_of_ble_eq_true rfl | (dsimp only; omega) | omega) d_JA_copyOfRangeByte_10 tg (fun q H n_q hw => ?_)
  obtain ⟨h1, hh1⟩ : ∃ x9, z_put h q tg (.inl (g.2.1 0, j - i, .inl (fun _ => 0))) = x9 := ⟨_, rfl⟩
  have hw : z_S g A s.heap h1 H locs := by rw [← hh1]; exact hw
  have ne_src_q : src ≠ q := fun z => by have z2 := hs; rw [z, n_q] at z2; cases z2
  have f1_src : h1 src = some (ts, .inl (g.2.1 0, len, .inl f)) := by rw [← hh1]; exact z_keepN n_q hs
  have f1_q : h1 q = some (tg, .inl (g.2.1 0, j - i, .inl (fun _ => 0))) := by rw [← hh1]; exact z_put_eq
  refine lv_astore (lv' := [(4, .ref q), (3, .int (nI (j - i))), (0, .ref src), (1, .int (nI i)), (2, .int (nI j))]) hx hb d_JA_copyOfRangeByte_12 hl (by decide) rfl (fun ls hl => ?_)
  refine lv_aload_n hx hb d_JA_copyOfRangeByte_14 rfl (lv_at hl 2 rfl) ?_
  refine lv_iload_n hx hb d_JA_copyOfRangeByte_15 rfl (lv_at hl 3 rfl) ?_
  refine lv_aload hx hb d_JA_copyOfRangeByte_16 (lv_at hl 0 rfl) ?_
  refine lv_iconst (v := 0) hx hb d_JA_copyOfRangeByte_18 (by decide) ?_
  refine lv_aload_n hx hb d_JA_copyOfRangeByte_19 rfl (lv_at hl 2 rfl) ?_
  refine z_alen hx hb hK hw f1_src 0 rfl d_JA_copyOfRangeByte_20 ?_
  refine lv_iload_n hx hb d_JA_copyOfRangeByte_21 rfl (lv_at hl 3 rfl) ?_
  refine lv_isub hx hb d_JA_copyOfRangeByte_22 ?_
  refine z_topi (y := nI (len - i)) (pk_sub (a := len) (b := i) (by omega)) ?_
  refine lv_iload_n hx hb d_JA_copyOfRangeByte_23 rfl (lv_at hl 1 rfl) ?_
  refine va_mmin hx hb (by rw [hml]; exact hl.1.symm) hown (hts _ (z_in k_376 rfl)) (hts _ (z_in k_377 rfl)) (hts _ (z_in k_15 rfl)) (hts _ (z_in k_378 rfl)) (Nat.le_of_ble_eq_true rfl) (Nat.le_of_ble_eq_true rfl) (by first | exact Nat.le_of_ble_eq_true rfl | (dsimp only; omega) | omega) (by first | exact Nat.le_of_ble_eq_true rfl | (dsimp only; omega) | omega) d_JA_copyOfRangeByte_24 ?_
  refine z_topi (y := nI (j - i)) (z_min (by omega) (by omega) (by omega)) ?_
  refine z_copyb (sp := i) (dp := 0) (n := j - i) hx hb (by rw [hml]; exact hl.1.symm) hown hts (z_in k_379 rfl) (z_in k_381 rfl) (z_in k_380 rfl) (z_in k_16 rfl) hK hw f1_src f1_q (by omega) (by omega) (by omega) (by omega) (fun k hk => hfb _ (by omega)) (Nat.le_of_ble_eq_true rfl) (Nat.le_of_ble_eq_true rfl) d_JA_copyOfRangeByte_27 (fun H locs hw => ?_)
  obtain ⟨h2, hh2⟩ : ∃ x9, z_put h1 q tg (.inl (g.2.1 0, j - i, .inl (va_cpy f (fun _ => 0) i 0 (j - i)))) = x9 := ⟨_, rfl⟩
  have hw : z_S g A s.heap h2 H locs := by rw [← hh2]; exact hw
  have f2_src : h2 src = some (ts, .inl (g.2.1 0, len, .inl f)) := by rw [← hh2]; exact (z_put_ne ne_src_q).trans f1_src
  have f2_q : h2 q = some (tg, .inl (g.2.1 0, j - i, .inl (va_cpy f (fun _ => 0) i 0 (j - i)))) := by rw [← hh2]; exact z_put_eq
  refine lv_aload hx hb d_JA_copyOfRangeByte_30 (lv_at hl 0 rfl) ?_
  exact z_aret hx hb hr (Or.inr ⟨_, rfl⟩) (Or.inr ⟨_, rfl⟩) hlocks hw ⟨q, va_cpy f (fun _ => 0) i 0 (j - i), rfl, n_q, fun k hk => by rw [pk_cpy_in (by omega) (by omega), Nat.sub_zero], by rw [← hh2, ← hh1, z_put_put]⟩ (by decide) (by first | exact Nat.le_of_ble_eq_true rfl | (dsimp only; omega) | omega) d_JA_copyOfRangeByte_32

set_option maxHeartbeats 4000000 in
set_option maxRecDepth 100000 in
theorem c_JA_copyOfRange (l : Launch) (g : z_G) (h : z_H) {src len : Nat} {ts tg : Nat × Nat} {f : Nat → Int32} {i j : Nat} (hs : h src = some (ts, .inl (g.2.1 0, len, .inl f))) (hij : i ≤ j) (hj : j ≤ len) (hne : ¬ (i = 0 ∧ j = len)) (hlen : len < 2 ^ 29) (hfb : z_fb f len) : z_C l y_JA_copyOfRange prog_20_method_132_code 3 (Option.some (Jvm.ClassFile.FieldType.array Jvm.ClassFile.FieldType.byte)) 2 64 1 (j - i) g [.ref src, .int (nI i), .int (nI j)] h (fun r h1 => ∃ q f2, r = some (.ref q) ∧ h q = none ∧ (∀ k, k < j - i → f2 k = f (i + k)) ∧ z_put h q tg (.inl (g.2.1 0, j - i, .inl f2)) = h1) := by
  refine z_C.of (by decide) (Nat.le_of_ble_eq_true rfl) (fun pg en s m below meth cd A ls hx hb hml hr hts hown hlocks hnm hK hE hA hw hl => ?_)
  have hl : lv_has ls 3 [(0, .ref src), (1, .int (nI i)), (2, .int (nI j))] := hl
  refine lv_iload_n hx hb d_JA_copyOfRange_0 rfl (lv_at hl 1 rfl) ?_
  refine lv_if_ne (tgt := 10) hx hb d_JA_copyOfRange_1 (by decide) (fun c_1 => ?_) (fun c_1 => ?_)
  · -- 1: True
    have c_1 : ¬ (i = 0) := fun z => c_1 ((nI_eq (a := i) (b := 0) (by omega) (by omega)).mpr z)
    refine lv_aload_n hx hb d_JA_copyOfRange_10 rfl (lv_at hl 0 rfl) ?_
    refine lv_iload_n hx hb d_JA_copyOfRange_11 rfl (lv_at hl 1 rfl) ?_
    refine lv_iload_n hx hb d_JA_copyOfRange_12 rfl (lv_at hl 2 rfl) ?_
    refine z_callS (n := 3) (As := [.ref src, .int (nI i), .int (nI j)]) (rest := []) ⟨hx, hb, hml, hown, hts⟩ (c_JA_copyOfRangeByte (tg := tg) l g h hs hij (by omega) hlen hfb) (z_in k_372 rfl) (z_in k_14 rfl) (z_in k_370 rfl) (z_in k_371 rfl) (by decide +kernel) ⟨by first | exact Nat.le_of_ble_eq_true rfl | (dsimp only; omega) | omega, by first | exact Nat.le_of_ble_eq_true rfl | (dsimp only; omega) | omega⟩ hK hE hw hA rfl hl.1 (Nat.le_of_ble_eq_true rfl) d_JA_copyOfRange_13 ⟨by first | exact Nat.le_of_ble_eq_true rfl | (dsimp only; omega) | omega, by first | exact Nat.le_of_ble_eq_true rfl | (dsimp only; omega) | omega⟩ rfl (fun r9 h9 H locs hp hw => ?_)
    obtain ⟨q, f2, r8, n_q, e8, hh1⟩ := hp
    subst r8
    obtain ⟨h1, e7⟩ : ∃ x9, x9 = h9 := ⟨_, rfl⟩
    subst e7
    have f1_src : h1 src = some (ts, .inl (g.2.1 0, len, .inl f)) := by rw [← hh1]; exact z_keepN n_q hs
    have f1_q : h1 q = some (tg, .inl (g.2.1 0, j - i, .inl f2)) := by rw [← hh1]; exact z_put_eq
    refine W.eq (g2 := F0 m 16 ls [.ref q]) rfl ?_
    exact z_aret hx hb hr (Or.inr ⟨_, rfl⟩) (Or.inr ⟨_, rfl⟩) hlocks hw ⟨q, f2, rfl, n_q, e8, hh1⟩ (by decide) (by first | exact Nat.le_of_ble_eq_true rfl | (dsimp only; omega) | omega) d_JA_copyOfRange_16
  · -- 1: False
    have c_1 : i = 0 := (nI_eq (a := i) (b := 0) (by omega) (by omega)).mp c_1
    refine lv_iload_n hx hb d_JA_copyOfRange_4 rfl (lv_at hl 2 rfl) ?_
    refine lv_aload_n hx hb d_JA_copyOfRange_5 rfl (lv_at hl 0 rfl) ?_
    refine z_alen hx hb hK hw hs 0 rfl d_JA_copyOfRange_6 ?_
    refine lv_icmp_eq (tgt := 17) hx hb d_JA_copyOfRange_7 (by decide) (fun c_7 => ?_) (fun c_7 => ?_)
    · -- 7: True
      have c_7 : j = len := (nI_eq (a := j) (b := len) (by omega) (by omega)).mp c_7
      omega
    · -- 7: False
      have c_7 : ¬ (j = len) := fun z => c_7 ((nI_eq (a := j) (b := len) (by omega) (by omega)).mpr z)
      refine lv_aload_n hx hb d_JA_copyOfRange_10 rfl (lv_at hl 0 rfl) ?_
      refine lv_iload_n hx hb d_JA_copyOfRange_11 rfl (lv_at hl 1 rfl) ?_
      refine lv_iload_n hx hb d_JA_copyOfRange_12 rfl (lv_at hl 2 rfl) ?_
      refine z_callS (n := 3) (As := [.ref src, .int (nI i), .int (nI j)]) (rest := []) ⟨hx, hb, hml, hown, hts⟩ (c_JA_copyOfRangeByte (tg := tg) l g h hs hij (by omega) hlen hfb) (z_in k_372 rfl) (z_in k_14 rfl) (z_in k_370 rfl) (z_in k_371 rfl) (by decide +kernel) ⟨by first | exact Nat.le_of_ble_eq_true rfl | (dsimp only; omega) | omega, by first | exact Nat.le_of_ble_eq_true rfl | (dsimp only; omega) | omega⟩ hK hE hw hA rfl hl.1 (Nat.le_of_ble_eq_true rfl) d_JA_copyOfRange_13 ⟨by first | exact Nat.le_of_ble_eq_true rfl | (dsimp only; omega) | omega, by first | exact Nat.le_of_ble_eq_true rfl | (dsimp only; omega) | omega⟩ rfl (fun r9 h9 H locs hp hw => ?_)
      obtain ⟨q, f2, r8, n_q, e8, hh1⟩ := hp
      subst r8
      obtain ⟨h1, e7⟩ : ∃ x9, x9 = h9 := ⟨_, rfl⟩
      subst e7
      have f1_src : h1 src = some (ts, .inl (g.2.1 0, len, .inl f)) := by rw [← hh1]; exact z_keepN n_q hs
      have f1_q : h1 q = some (tg, .inl (g.2.1 0, j - i, .inl f2)) := by rw [← hh1]; exact z_put_eq
      refine W.eq (g2 := F0 m 16 ls [.ref q]) rfl ?_
      exact z_aret hx hb hr (Or.inr ⟨_, rfl⟩) (Or.inr ⟨_, rfl⟩) hlocks hw ⟨q, f2, rfl, n_q, e8, hh1⟩ (by decide) (by first | exact Nat.le_of_ble_eq_true rfl | (dsimp only; omega) | omega) d_JA_copyOfRange_16

set_option maxHeartbeats 4000000 in
set_option maxRecDepth 100000 in
theorem c_JA_copyOf (l : Launch) (g : z_G) (h : z_H) {src len : Nat} {ts tg : Nat × Nat} {f : Nat → Int32} {j : Nat} (hs : h src = some (ts, .inl (g.2.1 0, len, .inl f))) (hj : j < 2 ^ 29) (hlen : len < 2 ^ 29) (hfb : z_fb f len) : z_C l y_JA_copyOf prog_20_method_121_code 3 (Option.some (Jvm.ClassFile.FieldType.array Jvm.ClassFile.FieldType.byte)) 1 40 1 j g [.ref src, .int (nI j)] h (fun r h1 => ∃ q f2, r = some (.ref q) ∧ h q = none ∧ (∀ k, k < j → k < len → f2 k = f k) ∧ z_fb f2 j ∧ z_put h q tg (.inl (g.2.1 0, j, .inl f2)) = h1) := by
  refine z_C.of (by decide) (Nat.le_of_ble_eq_true rfl) (fun pg en s m below meth cd A ls hx hb hml hr hts hown hlocks hnm hK hE hA hw hl => ?_)
  have hl : lv_has ls 3 [(0, .ref src), (1, .int (nI j))] := hl
  have m1 := Nat.min_le_left len j
  have m2 := Nat.min_le_right len j
  refine lv_iload_n hx hb d_JA_copyOf_0 rfl (lv_at hl 1 rfl) ?_
  refine lv_aload_n hx hb d_JA_copyOf_1 rfl (lv_at hl 0 rfl) ?_
  refine z_alen hx hb hK hw hs 0 rfl d_JA_copyOf_2 ?_
  refine lv_icmp_ne (tgt := 14) hx hb d_JA_copyOf_3 (by decide) (fun c_3 => ?_) (fun c_3 => ?_)
  · -- 3: True
    have c_3 : ¬ (j = len) := fun z => c_3 ((nI_eq (a := j) (b := len) (by omega) (by omega)).mpr z)
    refine lv_iload_n hx hb d_JA_copyOf_14 rfl (lv_at hl 1 rfl) ?_
    refine z_newa (atype := .byte) (N' := j) (a0 := (j, .inl (fun _ => 0))) hx hb hts (z_in k_41 rfl) hK hw hA 0 rfl rfl (fun C z => by cases z) (fun cA => rfl) (nI_pos (by omega)) (by rw [nI_clamp (by omega)]) (by show _ ≤ _; simp [componentBytes]; try omega) (by first | exact Nat.le_of_ble_eq_true rfl | (dsimp only; omega) | omega) (by first | exact Nat.le_of_ble_eq_true rfl | (dsimp only; omega) | omega) d_JA_copyOf_15 tg (fun q H n_q hw => ?_)
    obtain ⟨h1, hh1⟩ : ∃ x9, z_put h q tg (.inl (g.2.1 0, j, .inl (fun _ => 0))) = x9 := ⟨_, rfl⟩
    have hw : z_S g A s.heap h1 H [] := by rw [← hh1]; exact hw
    have ne_src_q : src ≠ q := fun z => by have z2 := hs; rw [z, n_q] at z2; cases z2
    have f1_src : h1 src = some (ts, .inl (g.2.1 0, len, .inl f)) := by rw [← hh1]; exact z_keepN n_q hs
    have f1_q : h1 q = some (tg, .inl (g.2.1 0, j, .inl (fun _ => 0))) := by rw [← hh1]; exact z_put_eq
    refine lv_astore_n (lv' := [(2, .ref q), (0, .ref src), (1, .int (nI j))]) hx hb d_JA_copyOf_17 rfl hl (by decide) rfl (fun ls hl => ?_)
    refine lv_aload_n hx hb d_JA_copyOf_18 rfl (lv_at hl 1 rfl) ?_
    refine lv_iconst (v := 0) hx hb d_JA_copyOf_19 (by decide) ?_
    refine lv_aload_n hx hb d_JA_copyOf_20 rfl (lv_at hl 0 rfl) ?_
    refine lv_iconst (v := 0) hx hb d_JA_copyOf_21 (by decide) ?_
    refine lv_aload_n hx hb d_JA_copyOf_22 rfl (lv_at hl 1 rfl) ?_
    refine z_alen hx hb hK hw f1_src 0 rfl d_JA_copyOf_23 ?_
    refine lv_iload_n hx hb d_JA_copyOf_24 rfl (lv_at hl 2 rfl) ?_
    refine va_mmin hx hb (by rw [hml]; exact hl.1.symm) hown (hts _ (z_in k_376 rfl)) (hts _ (z_in k_377 rfl)) (hts _ (z_in k_15 rfl)) (hts _ (z_in k_378 rfl)) (Nat.le_of_ble_eq_true rfl) (Nat.le_of_ble_eq_true rfl) (by first | exact Nat.le_of_ble_eq_true rfl | (dsimp only; omega) | omega) (by first | exact Nat.le_of_ble_eq_true rfl | (dsimp only; omega) | omega) d_JA_copyOf_25 ?_
    refine z_topi (y := nI (min len j)) (z_min (by omega) (by omega) (by omega)) ?_
    refine z_copyb (sp := 0) (dp := 0) (n := min len j) hx hb (by rw [hml]; exact hl.1.symm) hown hts (z_in k_379 rfl) (z_in k_381 rfl) (z_in k_380 rfl) (z_in k_16 rfl) hK hw f1_src f1_q (by omega) (by omega) (by omega) (by omega) (fun k hk => hfb _ (by omega)) (Nat.le_of_ble_eq_true rfl) (Nat.le_of_ble_eq_true rfl) d_JA_copyOf_28 (fun H locs hw => ?_)
    obtain ⟨h2, hh2⟩ : ∃ x9, z_put h1 q tg (.inl (g.2.1 0, j, .inl (va_cpy f (fun _ => 0) 0 0 (min len j)))) = x9 := ⟨_, rfl⟩
    have hw : z_S g A s.heap h2 H locs := by rw [← hh2]; exact hw
    have f2_src : h2 src = some (ts, .inl (g.2.1 0, len, .inl f)) := by rw [← hh2]; exact (z_put_ne ne_src_q).trans f1_src
    have f2_q : h2 q = some (tg, .inl (g.2.1 0, j, .inl (va_cpy f (fun _ => 0) 0 0 (min len j)))) := by rw [← hh2]; exact z_put_eq
    refine lv_aload_n hx hb d_JA_copyOf_31 rfl (lv_at hl 0 rfl) ?_
    exact z_aret hx hb hr (Or.inr ⟨_, rfl⟩) (Or.inr ⟨_, rfl⟩) hlocks hw ⟨q, va_cpy f (fun _ => 0) 0 0 (min len j), rfl, n_q, fun k h1 h2 => by rw [pk_cpy_in (by omega) (by rw [Nat.zero_add]; exact Nat.lt_min.mpr ⟨h2, h1⟩), Nat.sub_zero, Nat.zero_add], (fun k hk => by
      by_cases z : k < 0 + min len j
      · rw [pk_cpy_in (by omega) z]; exact hfb _ (by omega)
      · rw [pk_cpy_out (by omega)]; rfl), by rw [← hh2, ← hh1, z_put_put]⟩ (by decide) (by first | exact Nat.le_of_ble_eq_true rfl | (dsimp only; omega) | omega) d_JA_copyOf_32
  · -- 3: False
    have c_3 : j = len := (nI_eq (a := j) (b := len) (by omega) (by omega)).mp c_3
    refine lv_aload_n hx hb d_JA_copyOf_6 rfl (lv_at hl 0 rfl) ?_
    refine z_clone hx hb (by rw [hml]; exact hl.1.symm) hown hts (z_in k_382 rfl) (z_in k_383 rfl) (z_in k_384 rfl) (z_in k_385 rfl) (z_in k_386 rfl) hE.2.2.2.2.2.2.2.2.2.1 hK hw hA hs (fun k hk => hfb _ hk) (Nat.le_of_ble_eq_true rfl) (Nat.le_of_ble_eq_true rfl) (by first | exact Nat.le_of_ble_eq_true rfl | (dsimp only; omega) | omega) (by first | exact Nat.le_of_ble_eq_true rfl | (dsimp only; omega) | omega) d_JA_copyOf_7 tg (fun q H n_q hw => ?_)
    obtain ⟨h3, hh3⟩ : ∃ x9, z_put h q tg (.inl (g.2.1 0, len, .inl f)) = x9 := ⟨_, rfl⟩
    have hw : z_S g A s.heap h3 H [] := by rw [← hh3]; exact hw
    have ne_src_q : src ≠ q := fun z => by have z2 := hs; rw [z, n_q] at z2; cases z2
    have f3_src : h3 src = some (ts, .inl (g.2.1 0, len, .inl f)) := by rw [← hh3]; exact z_keepN n_q hs
    have f3_q : h3 q = some (tg, .inl (g.2.1 0, len, .inl f)) := by rw [← hh3]; exact z_put_eq
    refine z_castB hx hb hown hts (z_in k_388 rfl) hK hw f3_q d_JA_copyOf_10 ?_
    exact z_aret hx hb hr (Or.inr ⟨_, rfl⟩) (Or.inr ⟨_, rfl⟩) hlocks hw ⟨q, f, rfl, n_q, fun k _ _ => rfl, fun k hk => hfb k (by omega), by rw [c_3]; exact hh3⟩ (by decide) (by first | exact Nat.le_of_ble_eq_true rfl | (dsimp only; omega) | omega) d_JA_copyOf_13

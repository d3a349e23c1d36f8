theorem LwI.up {g : z_G} {s : State} {h : z_H} {xo mo : Nat} {H : Heap} {locs : List Loc} {cells slots k : Nat} (I : LwI g s h xo mo H locs cells slots k) : LwI g s h xo mo H locs cells slots (k + 1) := by
  obtain ⟨T, S, R, O, j, dp, hX, hM, hS, hR, ⟨bc, bs⟩, hw⟩ := I
  exact ⟨T, S, R, O, j, dp, hX, hM, hS, hR, ⟨by omega, by omega⟩, hw⟩
theorem LwI.room {g : z_G} {s : State} {h : z_H} {xo mo : Nat} {H : Heap} {locs : List Loc} {cells slots k : Nat} (I : LwI g s h xo mo H locs cells slots k) (hk : k ≤ 512) : (cells ≤ 600000 ∧ slots ≤ 7302250) ∧ ∀ q ∈ locs, s.heap.size ≤ q.base := by
  obtain ⟨T, S, R, O, j, dp, hX, hM, hS, hR, ⟨bc, bs⟩, hw⟩ := I
  have jl := (jf_le O.length hX.tape.2).2
  have sl := slj_le O.length hX.tape.2
  exact ⟨⟨by omega, by omega⟩, fun q hq => hw.2.2.2.2 q hq⟩
theorem lw_sub6 {L : Nat} (hL : L ≤ 3072) : (Int32.ofNat L - 6).toInt = (L : Int) - 6 := by
  have e : (Int32.ofNat L).toInt = (L : Int) := nI_toInt (by omega)
  rw [Int32.toInt_sub, e, show (6 : Int32).toInt = 6 from rfl]
  exact Int.bmod_eq_of_le (by omega) (by omega)

set_option maxHeartbeats 4000000 in
set_option maxRecDepth 100000 in
theorem law_head {p : Program} {l : Launch} {e : Env} {s : State} {m : MethodId} {below : List Frame} {meth : Method} {c : Code} {b L : Nat} {xs : Nat → Int32} {g : z_G} (C0 : lw_At p s m meth c b L xs) (hL : L ≤ 3072) (hK : va_K g.1 cls (ztys g) s) (hE : z_E g (fun q : Nat => s.heap.size ≤ q) s s.heap) {k : Nat} (hk : k ≤ 512) {h : z_H} {xo mo : Nat} {H : Heap} {locs : List Loc} {cells slots : Nat} (I : LwI g s h xo mo H locs cells slots k) {ls : Array Slot} (hl : lv_has ls 4 [(0, .ref b), (1, .ref xo), (2, .ref mo), (3, .int (nI (6 * k)))]) (kk : 6 * k + 6 ≤ L → ∀ (h1 : z_H) (H1 : Heap) (locs1 : List Loc) (cells1 slots1 : Nat), LwI g s h1 xo mo H1 locs1 cells1 slots1 (k + 1) → W p l e room_1 s m #[Value.ref b] below meth c H1 locs1 cells1 slots1 (lw_Z below #[Value.ref b] s) (F0 m 653 ls [])) : W p l e room_1 s m #[Value.ref b] below meth c H locs cells slots (lw_Z below #[Value.ref b] s) (F0 m 18 ls []) := by
  obtain ⟨hx, hb, hr, hml, hown, hts0, hXs, hbl, hlocks, hgv⟩ := id C0
  have hts : ∀ w ∈ z_tbl, w.before #[Value.ref b] s = true := fun w hw => hts0 w (List.mem_filter.mp hw).1
  have hA : ∀ q : Nat, s.heap.size ≤ q → (fun q : Nat => s.heap.size ≤ q) q := fun _ h => h
  have hbA : ¬ (fun q : Nat => s.heap.size ≤ q) b := Nat.not_le.mpr hbl
  have hw : z_S g (fun q : Nat => s.heap.size ≤ q) s.heap h H locs := by obtain ⟨T, S, R, O, j, dp, hX, hM, hS, hR, -, hw⟩ := id I; exact hw
  refine lv_iload_n hx hb d_L_law_18 rfl (lv_at hl 3 rfl) ?_
  refine lv_aload_n hx hb d_L_law_19 rfl (lv_at hl 0 rfl) ?_
  refine va_slen hx hb hXs hbl hbA hw.2.2 d_L_law_20 ?_
  refine lv_bipush (v := 6) hx hb d_L_law_21 (by decide) ?_
  refine lv_isub hx hb d_L_law_23 ?_
  refine lv_icmp_gt (tgt := 659) hx hb d_L_law_24 (by decide) (fun c_24 => ?_) (fun c_24 => ?_)
  · refine lv_iconst (v := 1) hx hb d_L_law_659 (by decide) ?_
    obtain ⟨⟨r1, r2⟩, r3⟩ := I.room hk
    refine va_forget r3 ?_
    refine W.widen (k := 600000) (n := 7302250) r1 r2 ?_
    exact lw_ret hx hb hr hlocks d_L_law_660
  · have hi : 6 * k + 6 ≤ L := by
      have z := c_24
      simp only [gt_iff_lt, Int32.lt_iff_toInt_lt] at z
      rw [lw_sub6 hL, nI_toInt (by omega)] at z
      omega
    have kk := kk hi
    refine lv_aload_n hx hb d_L_law_27 rfl (lv_at hl 0 rfl) ?_
    refine lv_iload_n hx hb d_L_law_28 rfl (lv_at hl 3 rfl) ?_
    refine va_sld hx hb hXs hbl hbA hw.2.2 (vp_in_nI (by omega) (by omega)) d_L_law_29 ?_
    refine lv_bipush (v := 31) hx hb d_L_law_30 (by decide) ?_
    refine lv_iand hx hb d_L_law_32 ?_
    rcases z_sw ((xs (nI (6 * k)).toNatClampNeg) &&& 31) 18 (by decide) with c_33 | ⟨j_33, c_33, d_33⟩
    · refine lv_tableOut (tgt := 653) hx hb d_L_law_33 (by rcases c_33 with z | z <;> first | exact Or.inl (by omega) | exact Or.inr (by omega)) (by decide) ?_
      exact kk _ _ _ _ _ I.up
    · match j_33, c_33, d_33 with
      | 0, c_33, d_33 =>
        refine lv_tableIn (tgt := 120) (off := 87) hx hb d_L_law_33 (by rw [d_33]; decide) (by rw [d_33]; decide) (by rw [d_33]; rfl) (by decide) ?_
        exact lb_feed C0 hL hK hE hi (by omega) I hl kk
      | 1, c_33, d_33 =>
        refine lv_tableIn (tgt := 183) (off := 150) hx hb d_L_law_33 (by rw [d_33]; decide) (by rw [d_33]; decide) (by rw [d_33]; rfl) (by decide) ?_
        exact lb_schema C0 hL hK hE hi (by omega) I hl kk
      | 2, c_33, d_33 =>
        refine lv_tableIn (tgt := 206) (off := 173) hx hb d_L_law_33 (by rw [d_33]; decide) (by rw [d_33]; decide) (by rw [d_33]; rfl) (by decide) ?_
        exact lb_count C0 hL hK hE hi (by omega) I hl kk
      | 3, c_33, d_33 =>
        refine lv_tableIn (tgt := 229) (off := 196) hx hb d_L_law_33 (by rw [d_33]; decide) (by rw [d_33]; decide) (by rw [d_33]; rfl) (by decide) ?_
        exact lb_field C0 hL hK hE hi (by omega) I hl kk
      | 4, c_33, d_33 =>
        refine lv_tableIn (tgt := 262) (off := 229) hx hb d_L_law_33 (by rw [d_33]; decide) (by rw [d_33]; decide) (by rw [d_33]; rfl) (by decide) ?_
        exact lb_letter C0 hL hK hE hi (by omega) I hl kk
      | 5, c_33, d_33 =>
        refine lv_tableIn (tgt := 295) (off := 262) hx hb d_L_law_33 (by rw [d_33]; decide) (by rw [d_33]; decide) (by rw [d_33]; rfl) (by decide) ?_
        exact lb_column C0 hL hK hE hi (by omega) I hl kk
      | 6, c_33, d_33 =>
        refine lv_tableIn (tgt := 318) (off := 285) hx hb d_L_law_33 (by rw [d_33]; decide) (by rw [d_33]; decide) (by rw [d_33]; rfl) (by decide) ?_
        exact lb_find C0 hL hK hE hi (by omega) I hl kk
      | 7, c_33, d_33 =>
        refine lv_tableIn (tgt := 351) (off := 318) hx hb d_L_law_33 (by rw [d_33]; decide) (by rw [d_33]; decide) (by rw [d_33]; rfl) (by decide) ?_
        exact lb_record C0 hL hK hE hi (by omega) I hl kk
      | 8, c_33, d_33 =>
        refine lv_tableIn (tgt := 374) (off := 341) hx hb d_L_law_33 (by rw [d_33]; decide) (by rw [d_33]; decide) (by rw [d_33]; rfl) (by decide) ?_
        exact lb_begin C0 hL hK hE hi (by omega) I hl kk
      | 9, c_33, d_33 =>
        refine lv_tableIn (tgt := 385) (off := 352) hx hb d_L_law_33 (by rw [d_33]; decide) (by rw [d_33]; decide) (by rw [d_33]; rfl) (by decide) ?_
        exact lb_add C0 hL hK hE hi (by omega) I hl kk
      | 10, c_33, d_33 =>
        refine lv_tableIn (tgt := 458) (off := 425) hx hb d_L_law_33 (by rw [d_33]; decide) (by rw [d_33]; decide) (by rw [d_33]; rfl) (by decide) ?_
        exact lb_addText C0 hL hK hE hi (by omega) I hl kk
      | 11, c_33, d_33 =>
        refine lv_tableIn (tgt := 501) (off := 468) hx hb d_L_law_33 (by rw [d_33]; decide) (by rw [d_33]; decide) (by rw [d_33]; rfl) (by decide) ?_
        exact lb_nodes C0 hL hK hE hi (by omega) I hl kk
      | 12, c_33, d_33 =>
        refine lv_tableIn (tgt := 514) (off := 481) hx hb d_L_law_33 (by rw [d_33]; decide) (by rw [d_33]; decide) (by rw [d_33]; rfl) (by decide) ?_
        exact lb_node C0 hL hK hE hi (by omega) I hl kk
      | 13, c_33, d_33 =>
        refine lv_tableIn (tgt := 547) (off := 514) hx hb d_L_law_33 (by rw [d_33]; decide) (by rw [d_33]; decide) (by rw [d_33]; rfl) (by decide) ?_
        exact lb_value C0 hL hK hE hi (by omega) I hl kk
      | 14, c_33, d_33 =>
        refine lv_tableIn (tgt := 571) (off := 538) hx hb d_L_law_33 (by rw [d_33]; decide) (by rw [d_33]; decide) (by rw [d_33]; rfl) (by decide) ?_
        exact lb_textByte C0 hL hK hE hi (by omega) I hl kk
      | 15, c_33, d_33 =>
        refine lv_tableIn (tgt := 604) (off := 571) hx hb d_L_law_33 (by rw [d_33]; decide) (by rw [d_33]; decide) (by rw [d_33]; rfl) (by decide) ?_
        exact lb_isWhole C0 hL hK hE hi (by omega) I hl kk
      | 16, c_33, d_33 =>
        refine lv_tableIn (tgt := 617) (off := 584) hx hb d_L_law_33 (by rw [d_33]; decide) (by rw [d_33]; decide) (by rw [d_33]; rfl) (by decide) ?_
        exact lb_write C0 hL hK hE hi (by omega) I hl kk
      | 17, c_33, d_33 =>
        refine lv_tableIn (tgt := 630) (off := 597) hx hb d_L_law_33 (by rw [d_33]; decide) (by rw [d_33]; decide) (by rw [d_33]; rfl) (by decide) ?_
        exact lb_output C0 hL hK hE hi (by omega) I hl kk
      | k + 18, c_33, d_33 => exact absurd c_33 (by omega)

set_option maxHeartbeats 4000000 in
theorem law_loop {p : Program} {l : Launch} {e : Env} {s : State} {m : MethodId} {below : List Frame} {meth : Method} {c : Code} {b L : Nat} {xs : Nat → Int32} {g : z_G} (C0 : lw_At p s m meth c b L xs) (hL : L ≤ 3072) (hK : va_K g.1 cls (ztys g) s) (hE : z_E g (fun q : Nat => s.heap.size ≤ q) s s.heap) {xo mo : Nat} : ∀ (n k : Nat), k ≤ 512 → L < 6 * k + 6 * n + 6 → ∀ (h : z_H) (H : Heap) (locs : List Loc) (cells slots : Nat), LwI g s h xo mo H locs cells slots k → ∀ (ls : Array Slot), lv_has ls 4 [(0, .ref b), (1, .ref xo), (2, .ref mo), (3, .int (nI (6 * k)))] → W p l e room_1 s m #[Value.ref b] below meth c H locs cells slots (lw_Z below #[Value.ref b] s) (F0 m 18 ls []) := by
  intro n
  induction n with
  | zero =>
    intro k hk hn h H locs cells slots I ls hl
    exact law_head C0 hL hK hE hk I hl (fun z => absurd z (by omega))
  | succ n ih =>
    intro k hk hn h H locs cells slots I ls hl
    refine law_head C0 hL hK hE hk I hl (fun z h1 H1 locs1 cells1 slots1 I1 => ?_)
    obtain ⟨hx, hb, hr, hml, hown, hts0, hXs, hbl, hlocks, hgv⟩ := id C0
    refine lv_iinc (v := nI (6 * (k + 1))) (lv' := [(3, .int (nI (6 * (k + 1)))), (0, .ref b), (1, .ref xo), (2, .ref mo)]) hx hb d_L_law_653 hl (k := 3) rfl (by rw [show 6 * (k + 1) = 6 * k + 6 by omega]; exact nI_add (6 * k) 6) (by decide) rfl (fun ls hl => ?_)
    refine lv_goto (tgt := 18) hx hb d_L_law_656 (by decide) ?_
    exact ih (k + 1) (by omega) (by omega) h1 H1 locs1 cells1 slots1 I1 ls (lv_sub hl [1, 2, 3, 0] rfl)

set_option maxHeartbeats 4000000 in
set_option maxRecDepth 100000 in
theorem whole_start {p : Program} {e : Env} {s : State} {m : MethodId} {below : List Frame} {meth : Method} {c : Code} (l : Launch) {b L : Nat} {xs : Nat → Int32} (hL : L ≤ 3072) (C0 : lw_At p s m meth c b L xs) : W p l e room_1 s m #[Value.ref b] below meth c s.heap [] 0 0 (lw_Z below #[Value.ref b] s) (entryFrame m ([Value.ref b] : List Value).toArray 4) := by
  obtain ⟨hx, hb, hr, hml, hown, hts0, hXs, hbl, hlocks, hgv⟩ := id C0
  have hts : ∀ w ∈ z_tbl, w.before #[Value.ref b] s = true := fun w hw => hts0 w (List.mem_filter.mp hw).1
  have hA : ∀ q : Nat, s.heap.size ≤ q → (fun q : Nat => s.heap.size ≤ q) q := fun _ h => h
  have hbA : ¬ (fun q : Nat => s.heap.size ≤ q) b := Nat.not_le.mpr hbl
  obtain ⟨g, hK, hE⟩ := st_all C0
  have hw : z_S g (fun q : Nat => s.heap.size ≤ q) s.heap (fun _ => none) s.heap [] := ⟨fun q t e h => (by cases h), fun q t e h => (by cases h), va_S.rf⟩
  generalize hAe : (fun q : Nat => s.heap.size ≤ q) = A at hE hA hw
  obtain ⟨h, hh0⟩ : ∃ h : z_H, h = fun _ => none := ⟨_, rfl⟩
  rw [← hh0] at hw
  have hl := lv_entry ([.ref b]) (n := 4) (Nat.le_of_ble_eq_true rfl)
  rw [lg_entry_eq]
  generalize (lg_sl ([.ref b]) ++ List.replicate (4 - (lg_sl ([.ref b])).length) Slot.unset).toArray = ls at hl ⊢
  have hl : lv_has ls 4 [(0, .ref b)] := hl
  refine z_new (ci := 0) (fs := [.null, .null, .null, .null, .null]) hx hb hts (z_lay i_X) t_X t_X_ok hown (z_in k_20 rfl) (z_in k_21 rfl) (z_in k_1 rfl) hK hw hA rfl (fun j hj => by rcases (show j = 0 ∨ j = 1 ∨ j = 2 ∨ j = 3 ∨ j = 4 by omega) with rfl | rfl | rfl | rfl | rfl <;> rfl) (by first | exact Nat.le_of_ble_eq_true rfl | (dsimp only; omega) | omega) (by first | exact Nat.le_of_ble_eq_true rfl | (dsimp only; omega) | omega) d_L_law_0 (1, 0) (fun xo H n_xo hw => ?_)
  obtain ⟨h1, hh1⟩ : ∃ x9, z_put h xo (1, 0) (.inr (0, [.null, .null, .null, .null, .null])) = x9 := ⟨_, rfl⟩
  have hw : z_S g A s.heap h1 H [] := by rw [← hh1]; exact hw
  have f1_xo : h1 xo = some ((1, 0), .inr (0, [.null, .null, .null, .null, .null])) := by rw [← hh1]; exact z_put_eq
  refine lv_dup hx hb d_L_law_3 rfl ?_
  refine z_callI (n := 0) (As := []) (rest := [.ref xo]) ⟨hx, hb, hml, hown, hts⟩ (x_init l g h1 f1_xo) (z_in k_24 rfl) (z_in k_1 rfl) (z_in k_22 rfl) (z_in k_23 rfl) rfl (by decide +kernel) ⟨by first | exact Nat.le_of_ble_eq_true rfl | (dsimp only; omega) | omega, by first | exact Nat.le_of_ble_eq_true rfl | (dsimp only; omega) | omega⟩ hK hE hw hA rfl hl.1 (Nat.le_of_ble_eq_true rfl) d_L_law_4 ⟨by first | exact Nat.le_of_ble_eq_true rfl | (dsimp only; omega) | omega, by first | exact Nat.le_of_ble_eq_true rfl | (dsimp only; omega) | omega⟩ rfl (fun r9 h9 H locs hp hw => ?_)
  obtain ⟨r8, hX, k8⟩ := hp
  subst r8
  obtain ⟨h2, e7⟩ : ∃ x9, x9 = h9 := ⟨_, rfl⟩
  subst e7
  refine W.eq (g2 := F0 m 7 ls [.ref xo]) rfl ?_
  refine lv_astore_n (lv' := [(1, .ref xo), (0, .ref b)]) hx hb d_L_law_7 rfl hl (by decide) rfl (fun ls hl => ?_)
  refine z_new (ci := 11) (fs := [.int 0, .null, .null, .int 0, .int 0, .null, .null, .null, .null, .int 0, .int 0, .int 0, .int 0, .null, .null, .null, .null, .null, .int 0, .int 0, .null, .null, .null, .null, .null, .null, .null, .null, .int 0, .int 0, .int 0]) hx hb hts (z_lay i_M) t_M t_M_ok hown (z_in k_762 rfl) (z_in k_763 rfl) (z_in k_7 rfl) hK hw hA rfl (fun j hj => by rcases (show j = 0 ∨ j = 1 ∨ j = 2 ∨ j = 3 ∨ j = 4 ∨ j = 5 ∨ j = 6 ∨ j = 7 ∨ j = 8 ∨ j = 9 ∨ j = 10 ∨ j = 11 ∨ j = 12 ∨ j = 13 ∨ j = 14 ∨ j = 15 ∨ j = 16 ∨ j = 17 ∨ j = 18 ∨ j = 19 ∨ j = 20 ∨ j = 21 ∨ j = 22 ∨ j = 23 ∨ j = 24 ∨ j = 25 ∨ j = 26 ∨ j = 27 ∨ j = 28 ∨ j = 29 ∨ j = 30 by omega) with rfl | rfl | rfl | rfl | rfl | rfl | rfl | rfl | rfl | rfl | rfl | rfl | rfl | rfl | rfl | rfl | rfl | rfl | rfl | rfl | rfl | rfl | rfl | rfl | rfl | rfl | rfl | rfl | rfl | rfl | rfl <;> rfl) (by first | exact Nat.le_of_ble_eq_true rfl | (dsimp only; omega) | omega) (by first | exact Nat.le_of_ble_eq_true rfl | (dsimp only; omega) | omega) d_L_law_8 (20, 0) (fun mo H n_mo hw => ?_)
  obtain ⟨h3, hh3⟩ : ∃ x9, z_put h2 mo (20, 0) (.inr (11, [.int 0, .null, .null, .int 0, .int 0, .null, .null, .null, .null, .int 0, .int 0, .int 0, .int 0, .null, .null, .null, .null, .null, .int 0, .int 0, .null, .null, .null, .null, .null, .null, .null, .null, .int 0, .int 0, .int 0])) = x9 := ⟨_, rfl⟩
  have hw : z_S g A s.heap h3 H locs := by rw [← hh3]; exact hw
  have f3_mo : h3 mo = some ((20, 0), .inr (11, [.int 0, .null, .null, .int 0, .int 0, .null, .null, .null, .null, .int 0, .int 0, .int 0, .int 0, .null, .null, .null, .null, .null, .int 0, .int 0, .null, .null, .null, .null, .null, .null, .null, .null, .int 0, .int 0, .int 0])) := by rw [← hh3]; exact z_put_eq
  have hX := hX.k (h1 := h3) (by rw [← hh3]; exact z_K.new n_mo)
  refine lv_dup hx hb d_L_law_11 rfl ?_
  refine z_callI (n := 0) (As := []) (rest := [.ref mo]) ⟨hx, hb, hml, hown, hts⟩ (m_init l g h3 f3_mo) (z_in k_766 rfl) (z_in k_7 rfl) (z_in k_764 rfl) (z_in k_765 rfl) rfl (by decide +kernel) ⟨by first | exact Nat.le_of_ble_eq_true rfl | (dsimp only; omega) | omega, by first | exact Nat.le_of_ble_eq_true rfl | (dsimp only; omega) | omega⟩ hK hE hw hA rfl hl.1 (Nat.le_of_ble_eq_true rfl) d_L_law_12 ⟨by first | exact Nat.le_of_ble_eq_true rfl | (dsimp only; omega) | omega, by first | exact Nat.le_of_ble_eq_true rfl | (dsimp only; omega) | omega⟩ rfl (fun r9 h9 H locs hp hw => ?_)
  obtain ⟨r8, hM, k8⟩ := hp
  subst r8
  obtain ⟨h4, e7⟩ : ∃ x9, x9 = h9 := ⟨_, rfl⟩
  subst e7
  have hX := hX.k k8
  refine W.eq (g2 := F0 m 15 ls [.ref mo]) rfl ?_
  refine lv_astore_n (lv' := [(2, .ref mo), (1, .ref xo), (0, .ref b)]) hx hb d_L_law_15 rfl hl (by decide) rfl (fun ls hl => ?_)
  refine lv_iconst (v := 0) hx hb d_L_law_16 (by decide) ?_
  refine lv_istore_n (lv' := [(3, .int 0), (2, .ref mo), (1, .ref xo), (0, .ref b)]) hx hb d_L_law_17 rfl hl (by decide) rfl (fun ls hl => ?_)
  subst hAe
  exact law_loop C0 hL hK hE 512 0 (by omega) (by omega) _ _ _ _ _ ⟨[], sch0, rec0, [], 0, _, hX, hM, WS0, WR0 _, ⟨by decide, by decide⟩, hw⟩ ls (lv_sub hl [3, 2, 1, 0] rfl)

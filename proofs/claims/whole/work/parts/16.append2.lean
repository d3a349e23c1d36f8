set_option maxHeartbeats 4000000 in
set_option maxRecDepth 100000 in
theorem c_Schema_append_top (l : Launch) (g : z_G) (h : z_H) {r q : Nat} {S : Sch} {fa ca : Nat} {ad na : Nat → Nat} {ff : Nat → Option Nat} {cf : Nat → Int32} {nf : Nat → Nat → Int32} {nq : Nat} {ki ty : Int32} {nm : List Nat} {fn : Nat → Int32} (hnq : h nq = some ((r + 2, S.1), .inl (g.2.1 0, nm.length, .inl fn))) (hS : SchP g h r q S fa ca ad na ff cf nf) (hg : grOK S) (hroom : S.1 < 128) (hcr : ty = 4 ∨ cc S < 64) (hnm9 : nm.length ≤ 16 ∧ ∀ k, k < nm.length → nm.getD k 0 < 128 ∧ fn k = sb_b (nm.getD k 0)) : z_C l y_Schema_append prog_9_method_5_code 6 (Option.some Jvm.ClassFile.FieldType.int) 2 70 1 9 g [.ref q, .int ki, .int ty, .int (-1), .ref nq] h (fun x h1 => ∃ fd, x = some (.int (nI S.1)) ∧ h fd = none ∧ SchP g h1 r q (addF S ki ty (-1) nm) fa ca (va_up ad S.1 fd) (va_up na S.1 nq) (va_up ff S.1 (some fd)) (if ty = 4 then cf else upd cf (cc S) (nI S.1)) (va_up nf S.1 fn) ∧ z_KT (fun t => t = (r, 0) ∨ t = (r, 1) ∨ t = (r, 2) ∨ t = (r + 1, S.1)) h h1) := by
  refine z_C.of (by decide) (Nat.le_of_ble_eq_true rfl) (fun pg en s m below meth cd A ls hx hb hml hr hts hown hlocks hnm hK hE hA hw hl => ?_)
  have hl : lv_has ls 6 [(0, .ref q), (1, .int ki), (2, .int ty), (3, .int (-1)), (4, .ref nq)] := hl
  obtain ⟨hq, hfa, hca, hfd, hnn, hnb, hcol, hsz, hcc⟩ := id hS
  have hrt := rq_le S (-1)
  have hgi : True := trivial
  have kk0 : z_KT (fun t => t = (r, 0) ∨ t = (r, 1) ∨ t = (r, 2) ∨ t = (r + 1, S.1)) h h := z_KT.rf
  refine lv_aload_n hx hb d_Schema_append_0 rfl (lv_at hl 0 rfl) ?_
  refine lv_iload_n hx hb d_Schema_append_1 rfl (lv_at hl 2 rfl) ?_
  refine z_callV (n := 1) (As := [.int ty]) (rest := []) ⟨hx, hb, hml, hown, hts⟩ (c_Schema_hasRoomFor l g h hS) (z_in k_348 rfl) (z_in k_4 rfl) (z_in k_393 rfl) (z_in k_346 rfl) (z_in k_347 rfl) (by decide +kernel) ⟨by first | exact Nat.le_of_ble_eq_true rfl | (dsimp only; omega) | omega, by first | exact Nat.le_of_ble_eq_true rfl | (dsimp only; omega) | omega⟩ hK hE hw hA rfl hq rfl hl.1 (Nat.le_of_ble_eq_true rfl) d_Schema_append_2 ⟨by first | exact Nat.le_of_ble_eq_true rfl | (dsimp only; omega) | omega, by first | exact Nat.le_of_ble_eq_true rfl | (dsimp only; omega) | omega⟩ rfl (fun r9 h9 H locs hp hw => ?_)
  obtain ⟨r8, h8⟩ := hp
  subst r8
  subst h8
  refine W.eq (g2 := F0 m 5 ls [.int (zb (decide (S.1 < 128) && (decide (ty = 4) || decide (cc S < 64))))]) rfl ?_
  refine lv_if_ne (tgt := 10) hx hb d_Schema_append_5 (by decide) (fun c_5 => ?_) (fun c_5 => ?_)
  · -- 5: True
    have c_5 : (decide (S.1 < 128) && (decide (ty = 4) || decide (cc S < 64))) = true := zb_t c_5
    refine z_new (ci := 4) (fs := [.int 0, .int 0, .int 0, .int 0, .null, .int 0, .int 0, .int 0, .int 0]) hx hb hts (z_lay i_Field) t_Field t_Field_ok hown (z_in k_62 rfl) (z_in k_394 rfl) (z_in k_17 rfl) hK hw hA rfl (fun j hj => by rcases (show j = 0 ∨ j = 1 ∨ j = 2 ∨ j = 3 ∨ j = 4 ∨ j = 5 ∨ j = 6 ∨ j = 7 ∨ j = 8 by omega) with rfl | rfl | rfl | rfl | rfl | rfl | rfl | rfl | rfl <;> rfl) (by first | exact Nat.le_of_ble_eq_true rfl | (dsimp only; omega) | omega) (by first | exact Nat.le_of_ble_eq_true rfl | (dsimp only; omega) | omega) d_Schema_append_10 (r + 1, S.1) (fun fd H n_fd hw => ?_)
    obtain ⟨h1, hh1⟩ : ∃ x9, z_put h fd (r + 1, S.1) (.inr (4, [.int 0, .int 0, .int 0, .int 0, .null, .int 0, .int 0, .int 0, .int 0])) = x9 := ⟨_, rfl⟩
    have hw : z_S g A s.heap h1 H locs := by rw [← hh1]; exact hw
    have ne_nq_fd : nq ≠ fd := fun z => by have z2 := hnq; rw [z, n_fd] at z2; cases z2
    have ne_q_fd : q ≠ fd := fun z => by have z2 := hq; rw [z, n_fd] at z2; cases z2
    have ne_fa_fd : fa ≠ fd := fun z => by have z2 := hfa; rw [z, n_fd] at z2; cases z2
    have ne_ca_fd : ca ≠ fd := fun z => by have z2 := hca; rw [z, n_fd] at z2; cases z2
    have f1_nq : h1 nq = some ((r + 2, S.1), .inl (g.2.1 0, nm.length, .inl fn)) := by rw [← hh1]; exact z_keepN n_fd hnq
    have f1_q : h1 q = some ((r, 0), .inr (3, [.ref fa, .ref ca, .int (nI S.1), .int (nI (cc S)), .int (nI (rq S (-1)))])) := by rw [← hh1]; exact z_keepN n_fd hq
    have f1_fa : h1 fa = some ((r, 1), .inl (g.2.1 3, 128, .inr (.inr (.inr (.inr ff))))) := by rw [← hh1]; exact z_keepN n_fd hfa
    have f1_ca : h1 ca = some ((r, 2), .inl (g.2.1 1, 64, .inl cf)) := by rw [← hh1]; exact z_keepN n_fd hca
    have f1_fd : h1 fd = some ((r + 1, S.1), .inr (4, [.int 0, .int 0, .int 0, .int 0, .null, .int 0, .int 0, .int 0, .int 0])) := by rw [← hh1]; exact z_put_eq
    have kk1 : z_KT (fun t => t = (r, 0) ∨ t = (r, 1) ∨ t = (r, 2) ∨ t = (r + 1, S.1)) h h1 := kk0.tr (by rw [← hh1]; exact z_KT.new n_fd)
    refine lv_dup hx hb d_Schema_append_13 rfl ?_
    refine lv_aload_n hx hb d_Schema_append_14 rfl (lv_at hl 0 rfl) ?_
    refine z_get hx hb hts (z_lay i_Schema) hown hK hw f1_q rfl 2 (by decide) (z_in k_66 rfl) (fun _ h9 => h9) rfl d_Schema_append_15 ?_
    refine lv_iload_n hx hb d_Schema_append_18 rfl (lv_at hl 1 rfl) ?_
    refine lv_iload_n hx hb d_Schema_append_19 rfl (lv_at hl 2 rfl) ?_
    refine lv_iload_n hx hb d_Schema_append_20 rfl (lv_at hl 3 rfl) ?_
    refine lv_aload hx hb d_Schema_append_21 (lv_at hl 4 rfl) ?_
    refine z_callI (n := 5) (As := [.int (nI S.1), .int ki, .int ty, .int (-1), .ref nq]) (rest := [.ref fd]) ⟨hx, hb, hml, hown, hts⟩ (c_Field_init l g h1 f1_fd) (z_in k_397 rfl) (z_in k_17 rfl) (z_in k_395 rfl) (z_in k_396 rfl) rfl (by decide +kernel) ⟨by first | exact Nat.le_of_ble_eq_true rfl | (dsimp only; omega) | omega, by first | exact Nat.le_of_ble_eq_true rfl | (dsimp only; omega) | omega⟩ hK hE hw hA rfl hl.1 (Nat.le_of_ble_eq_true rfl) d_Schema_append_23 ⟨by first | exact Nat.le_of_ble_eq_true rfl | (dsimp only; omega) | omega, by first | exact Nat.le_of_ble_eq_true rfl | (dsimp only; omega) | omega⟩ rfl (fun r9 h9 H locs hp hw => ?_)
    obtain ⟨r8, hh2⟩ := hp
    subst r8
    obtain ⟨h2, e8⟩ : ∃ x9, x9 = h9 := ⟨_, rfl⟩
    subst e8
    have f2_nq : h2 nq = some ((r + 2, S.1), .inl (g.2.1 0, nm.length, .inl fn)) := by rw [← hh2]; exact (z_put_ne ne_nq_fd).trans f1_nq
    have f2_q : h2 q = some ((r, 0), .inr (3, [.ref fa, .ref ca, .int (nI S.1), .int (nI (cc S)), .int (nI (rq S (-1)))])) := by rw [← hh2]; exact (z_put_ne ne_q_fd).trans f1_q
    have f2_fa : h2 fa = some ((r, 1), .inl (g.2.1 3, 128, .inr (.inr (.inr (.inr ff))))) := by rw [← hh2]; exact (z_put_ne ne_fa_fd).trans f1_fa
    have f2_ca : h2 ca = some ((r, 2), .inl (g.2.1 1, 64, .inl cf)) := by rw [← hh2]; exact (z_put_ne ne_ca_fd).trans f1_ca
    have f2_fd : h2 fd = some ((r + 1, S.1), .inr (4, [.int (nI S.1), .int ki, .int ty, .int (-1), .ref nq, .int (-1), .int 0, .int 0, .int 0])) := by rw [← hh2]; exact z_put_eq
    have kk2 : z_KT (fun t => t = (r, 0) ∨ t = (r, 1) ∨ t = (r, 2) ∨ t = (r + 1, S.1)) h h2 := kk1.tr (by rw [← hh2]; exact z_KT.put f1_fd (by first | decide | simp | omega))
    refine W.eq (g2 := F0 m 26 ls [.ref fd]) rfl ?_
    refine lv_astore (lv' := [(5, .ref fd), (0, .ref q), (1, .int ki), (2, .int ty), (3, .int (-1)), (4, .ref nq)]) hx hb d_Schema_append_26 hl (by decide) rfl (fun ls hl => ?_)
    have kkq : z_KT (fun t => t = (r + 1, S.1)) h h2 := by
      rw [← hh2, ← hh1, z_put_put]
      exact z_KT.new n_fd
    have hS2 := hS.kt kkq (fun t z => by subst z; exact ⟨by simp, by simp, by simp⟩)
    refine lv_aload_n hx hb d_Schema_append_28 rfl (lv_at hl 1 rfl) ?_
    refine lv_aload hx hb d_Schema_append_29 (lv_at hl 0 rfl) ?_
    refine z_callV (n := 1) (As := [.ref fd]) (rest := []) ⟨hx, hb, hml, hown, hts⟩ (c_Schema_setLevels_top l g h2 f2_fd hS2) (z_in k_448 rfl) (z_in k_4 rfl) (z_in k_445 rfl) (z_in k_447 rfl) (z_in ks_4 rfl) (by decide +kernel) ⟨by first | exact Nat.le_of_ble_eq_true rfl | (dsimp only; omega) | omega, by first | exact Nat.le_of_ble_eq_true rfl | (dsimp only; omega) | omega⟩ hK hE hw hA rfl f2_q rfl hl.1 (Nat.le_of_ble_eq_true rfl) d_Schema_append_31 ⟨by first | exact Nat.le_of_ble_eq_true rfl | (dsimp only; omega) | omega, by first | exact Nat.le_of_ble_eq_true rfl | (dsimp only; omega) | omega⟩ rfl (fun r9 h9 H locs hp hw => ?_)
    obtain ⟨r8, x8, y8, kt8⟩ := hp
    subst r8
    obtain ⟨h3, e8⟩ : ∃ x9, x9 = h9 := ⟨_, rfl⟩
    subst e8
    have g3_nq : h3 nq = some ((r + 2, S.1), .inl (g.2.1 0, nm.length, .inl fn)) := kt8 _ _ _ f2_nq (fun z => by rcases z with z | z <;> simp at z <;> omega)
    have g3_fa : h3 fa = some ((r, 1), .inl (g.2.1 3, 128, .inr (.inr (.inr (.inr ff))))) := kt8 _ _ _ f2_fa (fun z => by rcases z with z | z <;> simp at z <;> omega)
    have g3_ca : h3 ca = some ((r, 2), .inl (g.2.1 1, 64, .inl cf)) := kt8 _ _ _ f2_ca (fun z => by rcases z with z | z <;> simp at z <;> omega)
    have kk3 : z_KT (fun t => t = (r, 0) ∨ t = (r, 1) ∨ t = (r, 2) ∨ t = (r + 1, S.1)) h h3 := kk2.tr (kt8.mono (fun t z => by rcases z with z | z <;> simp [z]))
    refine W.eq (g2 := F0 m 34 ls []) rfl ?_
    refine lv_iload_n hx hb d_Schema_append_34 rfl (lv_at hl 3 rfl) ?_
    refine lv_iconst (v := 4) hx hb d_Schema_append_35 (by decide) ?_
    refine lv_icmp_eq (tgt := 71) hx hb d_Schema_append_36 (by decide) (fun c_36 => ?_) (fun c_36 => ?_)
    · -- 36: True
      refine lv_aload_n hx hb d_Schema_append_71 rfl (lv_at hl 1 rfl) ?_
      refine z_get hx hb hts (z_lay i_Schema) hown hK hw y8 rfl 0 (by decide) (z_in k_64 rfl) (fun _ h9 => h9) rfl d_Schema_append_72 ?_
      refine lv_aload_n hx hb d_Schema_append_75 rfl (lv_at hl 1 rfl) ?_
      refine z_get hx hb hts (z_lay i_Schema) hown hK hw y8 rfl 2 (by decide) (z_in k_66 rfl) (fun _ h9 => h9) rfl d_Schema_append_76 ?_
      refine lv_aload hx hb d_Schema_append_79 (lv_at hl 0 rfl) ?_
      refine z_astq hx hb hK hw g3_fa 3 rfl x8 rfl (vp_in_nI (by omega) (by omega)) d_Schema_append_81 (fun H locs hw => ?_)
      rw [nI_clamp (by omega)] at hw
      obtain ⟨h4, hh4⟩ : ∃ x9, z_put h3 fa (r, 1) (.inl (g.2.1 3, 128, .inr (.inr (.inr (.inr (va_up ff S.1 (some fd))))))) = x9 := ⟨_, rfl⟩
      have hw : z_S g A s.heap h4 H locs := by rw [← hh4]; exact hw
      have f4_nq : h4 nq = some ((r + 2, S.1), .inl (g.2.1 0, nm.length, .inl fn)) := by rw [← hh4]; exact z_keep g3_fa g3_nq (z_t1 (by omega))
      have f4_q : h4 q = some ((r, 0), .inr (3, [.ref fa, .ref ca, .int (nI S.1), .int (nI (cc S)), .int (nI (rq S (-1) + (if ki = 0 then 1 else 0)))])) := by rw [← hh4]; exact z_keep g3_fa y8 (z_t2 (by omega))
      have f4_fa : h4 fa = some ((r, 1), .inl (g.2.1 3, 128, .inr (.inr (.inr (.inr (va_up ff S.1 (some fd))))))) := by rw [← hh4]; exact z_put_eq
      have f4_ca : h4 ca = some ((r, 2), .inl (g.2.1 1, 64, .inl cf)) := by rw [← hh4]; exact z_keep g3_fa g3_ca (z_t2 (by omega))
      have f4_fd : h4 fd = some ((r + 1, S.1), .inr (4, [.int (nI S.1), .int ki, .int ty, .int (-1), .ref nq, .int (-1), .int (if ki = 2 then 1 else 0), .int (if ki = 0 then 0 else 1), .int 0])) := by rw [← hh4]; exact (z_put_ne (Ne.symm ne_fa_fd)).trans x8
      have kk4 : z_KT (fun t => t = (r, 0) ∨ t = (r, 1) ∨ t = (r, 2) ∨ t = (r + 1, S.1)) h h4 := kk3.tr (by rw [← hh4]; exact z_KT.put g3_fa (by first | decide | simp | omega))
      refine lv_aload_n hx hb d_Schema_append_82 rfl (lv_at hl 1 rfl) ?_
      refine lv_dup hx hb d_Schema_append_83 rfl ?_
      refine z_get hx hb hts (z_lay i_Schema) hown hK hw f4_q rfl 2 (by decide) (z_in k_66 rfl) (fun _ h9 => h9) rfl d_Schema_append_84 ?_
      refine lv_iconst (v := 1) hx hb d_Schema_append_87 (by decide) ?_
      refine lv_iadd hx hb d_Schema_append_88 ?_
      refine z_topi (y := nI (S.1 + 1)) (nI_add S.1 1) ?_
      refine z_putf (ty := .int) hx hb hts (z_lay i_Schema) t_Schema t_Schema_ok n_Schema hown hK hw f4_q rfl 2 (by decide) (z_in k_66 rfl) (fun _ h9 => h9) rfl (by decide +kernel) rfl rfl (Nat.le_of_ble_eq_true rfl) d_Schema_append_89 (fun H locs hw => ?_)
      obtain ⟨h5, hh5⟩ : ∃ x9, z_put h4 q (r, 0) (.inr (3, [.ref fa, .ref ca, .int (nI (S.1 + 1)), .int (nI (cc S)), .int (nI (rq S (-1) + (if ki = 0 then 1 else 0)))])) = x9 := ⟨_, rfl⟩
      have hw : z_S g A s.heap h5 H locs := by rw [← hh5]; exact hw
      have f5_nq : h5 nq = some ((r + 2, S.1), .inl (g.2.1 0, nm.length, .inl fn)) := by rw [← hh5]; exact z_keep f4_q f4_nq (z_t1 (by omega))
      have f5_q : h5 q = some ((r, 0), .inr (3, [.ref fa, .ref ca, .int (nI (S.1 + 1)), .int (nI (cc S)), .int (nI (rq S (-1) + (if ki = 0 then 1 else 0)))])) := by rw [← hh5]; exact z_put_eq
      have f5_fa : h5 fa = some ((r, 1), .inl (g.2.1 3, 128, .inr (.inr (.inr (.inr (va_up ff S.1 (some fd))))))) := by rw [← hh5]; exact z_keep f4_q f4_fa (z_t2 (by omega))
      have f5_ca : h5 ca = some ((r, 2), .inl (g.2.1 1, 64, .inl cf)) := by rw [← hh5]; exact z_keep f4_q f4_ca (z_t2 (by omega))
      have f5_fd : h5 fd = some ((r + 1, S.1), .inr (4, [.int (nI S.1), .int ki, .int ty, .int (-1), .ref nq, .int (-1), .int (if ki = 2 then 1 else 0), .int (if ki = 0 then 0 else 1), .int 0])) := by rw [← hh5]; exact (z_put_ne (Ne.symm ne_q_fd)).trans f4_fd
      have kk5 : z_KT (fun t => t = (r, 0) ∨ t = (r, 1) ∨ t = (r, 2) ∨ t = (r + 1, S.1)) h h5 := kk4.tr (by rw [← hh5]; exact z_KT.put f4_q (by first | decide | simp | omega))
      refine lv_aload hx hb d_Schema_append_92 (lv_at hl 0 rfl) ?_
      refine z_getN hx hb hts (z_lay i_Field) hown hK hw f5_fd rfl 0 (by decide) hE.nest (z_inN k_403 rfl) (fun _ h9 => h9) rfl d_Schema_append_94 ?_
      exact z_iret hx hb hr hlocks hw ⟨fd, rfl, n_fd, hS.add (gr := -1) hg hroom hcr (Or.inl rfl) hnm9 (by simpa [c_36, hgi] using f5_q) f5_fa (by rw [if_pos c_36]; exact f5_ca) (by rw [show newF S ki ty (-1) nm = (ki, ty, -1, -1, (if ki = 2 then 1 else 0), (if ki = 0 then 0 else 1), nm) by simp [newF, upR, upD, c_36]]; exact f5_fd) f5_nq (fun j hj => by rw [if_neg (fun z => by have z2 := z.2; have := congrArg Int32.toInt z2; rw [nI_toInt (by omega)] at this; simp at this), Nat.add_zero]; exact kk5 _ _ _ (hfd j hj).2 (by simp; omega)) (fun j hj => (kk5 _ _ _ (hnn j hj) (by simp)).trans (hnn j hj).symm), kk5⟩ (by decide) (by decide) d_Schema_append_97
    · -- 36: False
      have hcl : cc S < 64 := hcr.resolve_left c_36
      refine lv_aload hx hb d_Schema_append_39 (lv_at hl 0 rfl) ?_
      refine lv_aload_n hx hb d_Schema_append_41 rfl (lv_at hl 1 rfl) ?_
      refine z_get hx hb hts (z_lay i_Schema) hown hK hw y8 rfl 3 (by decide) (z_in k_68 rfl) (fun _ h9 => h9) rfl d_Schema_append_42 ?_
      refine z_putN (ty := .int) hx hb hts (z_lay i_Field) t_Field t_Field_ok n_Field hown hK hw x8 rfl 5 (by decide) hE.nest (z_inN k_420 rfl) (fun _ h9 => h9) rfl (by decide +kernel) rfl rfl (Nat.le_of_ble_eq_true rfl) d_Schema_append_45 (fun H locs hw => ?_)
      obtain ⟨h6, hh6⟩ : ∃ x9, z_put h3 fd (r + 1, S.1) (.inr (4, [.int (nI S.1), .int ki, .int ty, .int (-1), .ref nq, .int (nI (cc S)), .int (if ki = 2 then 1 else 0), .int (if ki = 0 then 0 else 1), .int 0])) = x9 := ⟨_, rfl⟩
      have hw : z_S g A s.heap h6 H locs := by rw [← hh6]; exact hw
      have f6_nq : h6 nq = some ((r + 2, S.1), .inl (g.2.1 0, nm.length, .inl fn)) := by rw [← hh6]; exact (z_put_ne ne_nq_fd).trans g3_nq
      have f6_q : h6 q = some ((r, 0), .inr (3, [.ref fa, .ref ca, .int (nI S.1), .int (nI (cc S)), .int (nI (rq S (-1) + (if ki = 0 then 1 else 0)))])) := by rw [← hh6]; exact (z_put_ne ne_q_fd).trans y8
      have f6_fa : h6 fa = some ((r, 1), .inl (g.2.1 3, 128, .inr (.inr (.inr (.inr ff))))) := by rw [← hh6]; exact (z_put_ne ne_fa_fd).trans g3_fa
      have f6_ca : h6 ca = some ((r, 2), .inl (g.2.1 1, 64, .inl cf)) := by rw [← hh6]; exact (z_put_ne ne_ca_fd).trans g3_ca
      have f6_fd : h6 fd = some ((r + 1, S.1), .inr (4, [.int (nI S.1), .int ki, .int ty, .int (-1), .ref nq, .int (nI (cc S)), .int (if ki = 2 then 1 else 0), .int (if ki = 0 then 0 else 1), .int 0])) := by rw [← hh6]; exact z_put_eq
      have kk6 : z_KT (fun t => t = (r, 0) ∨ t = (r, 1) ∨ t = (r, 2) ∨ t = (r + 1, S.1)) h h6 := kk3.tr (by rw [← hh6]; exact z_KT.put x8 (by first | decide | simp | omega))
      refine lv_aload_n hx hb d_Schema_append_48 rfl (lv_at hl 1 rfl) ?_
      refine z_get hx hb hts (z_lay i_Schema) hown hK hw f6_q rfl 1 (by decide) (z_in k_65 rfl) (fun _ h9 => h9) rfl d_Schema_append_49 ?_
      refine lv_aload_n hx hb d_Schema_append_52 rfl (lv_at hl 1 rfl) ?_
      refine z_get hx hb hts (z_lay i_Schema) hown hK hw f6_q rfl 3 (by decide) (z_in k_68 rfl) (fun _ h9 => h9) rfl d_Schema_append_53 ?_
      refine lv_aload_n hx hb d_Schema_append_56 rfl (lv_at hl 1 rfl) ?_
      refine z_get hx hb hts (z_lay i_Schema) hown hK hw f6_q rfl 2 (by decide) (z_in k_66 rfl) (fun _ h9 => h9) rfl d_Schema_append_57 ?_
      refine z_iast hx hb hK hw f6_ca 1 rfl (vp_in_nI (by omega) (by omega)) d_Schema_append_60 (fun H locs hw => ?_)
      rw [nI_clamp (by omega)] at hw
      obtain ⟨h7, hh7⟩ : ∃ x9, z_put h6 ca (r, 2) (.inl (g.2.1 1, 64, .inl (upd cf (cc S) (nI S.1)))) = x9 := ⟨_, rfl⟩
      have hw : z_S g A s.heap h7 H locs := by rw [← hh7]; exact hw
      have f7_nq : h7 nq = some ((r + 2, S.1), .inl (g.2.1 0, nm.length, .inl fn)) := by rw [← hh7]; exact z_keep f6_ca f6_nq (z_t1 (by omega))
      have f7_q : h7 q = some ((r, 0), .inr (3, [.ref fa, .ref ca, .int (nI S.1), .int (nI (cc S)), .int (nI (rq S (-1) + (if ki = 0 then 1 else 0)))])) := by rw [← hh7]; exact z_keep f6_ca f6_q (z_t2 (by omega))
      have f7_fa : h7 fa = some ((r, 1), .inl (g.2.1 3, 128, .inr (.inr (.inr (.inr ff))))) := by rw [← hh7]; exact z_keep f6_ca f6_fa (z_t2 (by omega))
      have f7_ca : h7 ca = some ((r, 2), .inl (g.2.1 1, 64, .inl (upd cf (cc S) (nI S.1)))) := by rw [← hh7]; exact z_put_eq
      have f7_fd : h7 fd = some ((r + 1, S.1), .inr (4, [.int (nI S.1), .int ki, .int ty, .int (-1), .ref nq, .int (nI (cc S)), .int (if ki = 2 then 1 else 0), .int (if ki = 0 then 0 else 1), .int 0])) := by rw [← hh7]; exact (z_put_ne (Ne.symm ne_ca_fd)).trans f6_fd
      have kk7 : z_KT (fun t => t = (r, 0) ∨ t = (r, 1) ∨ t = (r, 2) ∨ t = (r + 1, S.1)) h h7 := kk6.tr (by rw [← hh7]; exact z_KT.put f6_ca (by first | decide | simp | omega))
      refine lv_aload_n hx hb d_Schema_append_61 rfl (lv_at hl 1 rfl) ?_
      refine lv_dup hx hb d_Schema_append_62 rfl ?_
      refine z_get hx hb hts (z_lay i_Schema) hown hK hw f7_q rfl 3 (by decide) (z_in k_68 rfl) (fun _ h9 => h9) rfl d_Schema_append_63 ?_
      refine lv_iconst (v := 1) hx hb d_Schema_append_66 (by decide) ?_
      refine lv_iadd hx hb d_Schema_append_67 ?_
      refine z_topi (y := nI ((cc S) + 1)) (nI_add (cc S) 1) ?_
      refine z_putf (ty := .int) hx hb hts (z_lay i_Schema) t_Schema t_Schema_ok n_Schema hown hK hw f7_q rfl 3 (by decide) (z_in k_68 rfl) (fun _ h9 => h9) rfl (by decide +kernel) rfl rfl (Nat.le_of_ble_eq_true rfl) d_Schema_append_68 (fun H locs hw => ?_)
      obtain ⟨h8, hh8⟩ : ∃ x9, z_put h7 q (r, 0) (.inr (3, [.ref fa, .ref ca, .int (nI S.1), .int (nI ((cc S) + 1)), .int (nI (rq S (-1) + (if ki = 0 then 1 else 0)))])) = x9 := ⟨_, rfl⟩
      have hw : z_S g A s.heap h8 H locs := by rw [← hh8]; exact hw
      have f8_nq : h8 nq = some ((r + 2, S.1), .inl (g.2.1 0, nm.length, .inl fn)) := by rw [← hh8]; exact z_keep f7_q f7_nq (z_t1 (by omega))
      have f8_q : h8 q = some ((r, 0), .inr (3, [.ref fa, .ref ca, .int (nI S.1), .int (nI ((cc S) + 1)), .int (nI (rq S (-1) + (if ki = 0 then 1 else 0)))])) := by rw [← hh8]; exact z_put_eq
      have f8_fa : h8 fa = some ((r, 1), .inl (g.2.1 3, 128, .inr (.inr (.inr (.inr ff))))) := by rw [← hh8]; exact z_keep f7_q f7_fa (z_t2 (by omega))
      have f8_ca : h8 ca = some ((r, 2), .inl (g.2.1 1, 64, .inl (upd cf (cc S) (nI S.1)))) := by rw [← hh8]; exact z_keep f7_q f7_ca (z_t2 (by omega))
      have f8_fd : h8 fd = some ((r + 1, S.1), .inr (4, [.int (nI S.1), .int ki, .int ty, .int (-1), .ref nq, .int (nI (cc S)), .int (if ki = 2 then 1 else 0), .int (if ki = 0 then 0 else 1), .int 0])) := by rw [← hh8]; exact (z_put_ne (Ne.symm ne_q_fd)).trans f7_fd
      have kk8 : z_KT (fun t => t = (r, 0) ∨ t = (r, 1) ∨ t = (r, 2) ∨ t = (r + 1, S.1)) h h8 := kk7.tr (by rw [← hh8]; exact z_KT.put f7_q (by first | decide | simp | omega))
      refine lv_aload_n hx hb d_Schema_append_71 rfl (lv_at hl 1 rfl) ?_
      refine z_get hx hb hts (z_lay i_Schema) hown hK hw f8_q rfl 0 (by decide) (z_in k_64 rfl) (fun _ h9 => h9) rfl d_Schema_append_72 ?_
      refine lv_aload_n hx hb d_Schema_append_75 rfl (lv_at hl 1 rfl) ?_
      refine z_get hx hb hts (z_lay i_Schema) hown hK hw f8_q rfl 2 (by decide) (z_in k_66 rfl) (fun _ h9 => h9) rfl d_Schema_append_76 ?_
      refine lv_aload hx hb d_Schema_append_79 (lv_at hl 0 rfl) ?_
      refine z_astq hx hb hK hw f8_fa 3 rfl f8_fd rfl (vp_in_nI (by omega) (by omega)) d_Schema_append_81 (fun H locs hw => ?_)
      rw [nI_clamp (by omega)] at hw
      obtain ⟨h9, hh9⟩ : ∃ x9, z_put h8 fa (r, 1) (.inl (g.2.1 3, 128, .inr (.inr (.inr (.inr (va_up ff S.1 (some fd))))))) = x9 := ⟨_, rfl⟩
      have hw : z_S g A s.heap h9 H locs := by rw [← hh9]; exact hw
      have f9_nq : h9 nq = some ((r + 2, S.1), .inl (g.2.1 0, nm.length, .inl fn)) := by rw [← hh9]; exact z_keep f8_fa f8_nq (z_t1 (by omega))
      have f9_q : h9 q = some ((r, 0), .inr (3, [.ref fa, .ref ca, .int (nI S.1), .int (nI ((cc S) + 1)), .int (nI (rq S (-1) + (if ki = 0 then 1 else 0)))])) := by rw [← hh9]; exact z_keep f8_fa f8_q (z_t2 (by omega))
      have f9_fa : h9 fa = some ((r, 1), .inl (g.2.1 3, 128, .inr (.inr (.inr (.inr (va_up ff S.1 (some fd))))))) := by rw [← hh9]; exact z_put_eq
      have f9_ca : h9 ca = some ((r, 2), .inl (g.2.1 1, 64, .inl (upd cf (cc S) (nI S.1)))) := by rw [← hh9]; exact z_keep f8_fa f8_ca (z_t2 (by omega))
      have f9_fd : h9 fd = some ((r + 1, S.1), .inr (4, [.int (nI S.1), .int ki, .int ty, .int (-1), .ref nq, .int (nI (cc S)), .int (if ki = 2 then 1 else 0), .int (if ki = 0 then 0 else 1), .int 0])) := by rw [← hh9]; exact (z_put_ne (Ne.symm ne_fa_fd)).trans f8_fd
      have kk9 : z_KT (fun t => t = (r, 0) ∨ t = (r, 1) ∨ t = (r, 2) ∨ t = (r + 1, S.1)) h h9 := kk8.tr (by rw [← hh9]; exact z_KT.put f8_fa (by first | decide | simp | omega))
      refine lv_aload_n hx hb d_Schema_append_82 rfl (lv_at hl 1 rfl) ?_
      refine lv_dup hx hb d_Schema_append_83 rfl ?_
      refine z_get hx hb hts (z_lay i_Schema) hown hK hw f9_q rfl 2 (by decide) (z_in k_66 rfl) (fun _ h9 => h9) rfl d_Schema_append_84 ?_
      refine lv_iconst (v := 1) hx hb d_Schema_append_87 (by decide) ?_
      refine lv_iadd hx hb d_Schema_append_88 ?_
      refine z_topi (y := nI (S.1 + 1)) (nI_add S.1 1) ?_
      refine z_putf (ty := .int) hx hb hts (z_lay i_Schema) t_Schema t_Schema_ok n_Schema hown hK hw f9_q rfl 2 (by decide) (z_in k_66 rfl) (fun _ h9 => h9) rfl (by decide +kernel) rfl rfl (Nat.le_of_ble_eq_true rfl) d_Schema_append_89 (fun H locs hw => ?_)
      obtain ⟨h10, hh10⟩ : ∃ x9, z_put h9 q (r, 0) (.inr (3, [.ref fa, .ref ca, .int (nI (S.1 + 1)), .int (nI ((cc S) + 1)), .int (nI (rq S (-1) + (if ki = 0 then 1 else 0)))])) = x9 := ⟨_, rfl⟩
      have hw : z_S g A s.heap h10 H locs := by rw [← hh10]; exact hw
      have f10_nq : h10 nq = some ((r + 2, S.1), .inl (g.2.1 0, nm.length, .inl fn)) := by rw [← hh10]; exact z_keep f9_q f9_nq (z_t1 (by omega))
      have f10_q : h10 q = some ((r, 0), .inr (3, [.ref fa, .ref ca, .int (nI (S.1 + 1)), .int (nI ((cc S) + 1)), .int (nI (rq S (-1) + (if ki = 0 then 1 else 0)))])) := by rw [← hh10]; exact z_put_eq
      have f10_fa : h10 fa = some ((r, 1), .inl (g.2.1 3, 128, .inr (.inr (.inr (.inr (va_up ff S.1 (some fd))))))) := by rw [← hh10]; exact z_keep f9_q f9_fa (z_t2 (by omega))
      have f10_ca : h10 ca = some ((r, 2), .inl (g.2.1 1, 64, .inl (upd cf (cc S) (nI S.1)))) := by rw [← hh10]; exact z_keep f9_q f9_ca (z_t2 (by omega))
      have f10_fd : h10 fd = some ((r + 1, S.1), .inr (4, [.int (nI S.1), .int ki, .int ty, .int (-1), .ref nq, .int (nI (cc S)), .int (if ki = 2 then 1 else 0), .int (if ki = 0 then 0 else 1), .int 0])) := by rw [← hh10]; exact (z_put_ne (Ne.symm ne_q_fd)).trans f9_fd
      have kk10 : z_KT (fun t => t = (r, 0) ∨ t = (r, 1) ∨ t = (r, 2) ∨ t = (r + 1, S.1)) h h10 := kk9.tr (by rw [← hh10]; exact z_KT.put f9_q (by first | decide | simp | omega))
      refine lv_aload hx hb d_Schema_append_92 (lv_at hl 0 rfl) ?_
      refine z_getN hx hb hts (z_lay i_Field) hown hK hw f10_fd rfl 0 (by decide) hE.nest (z_inN k_403 rfl) (fun _ h9 => h9) rfl d_Schema_append_94 ?_
      exact z_iret hx hb hr hlocks hw ⟨fd, rfl, n_fd, hS.add (gr := -1) hg hroom hcr (Or.inl rfl) hnm9 (by simpa [c_36, hgi] using f10_q) f10_fa (by rw [if_neg c_36]; exact f10_ca) (by rw [show newF S ki ty (-1) nm = (ki, ty, -1, nI (cc S), (if ki = 2 then 1 else 0), (if ki = 0 then 0 else 1), nm) by simp [newF, upR, upD, c_36]]; exact f10_fd) f10_nq (fun j hj => by rw [if_neg (fun z => by have z2 := z.2; have := congrArg Int32.toInt z2; rw [nI_toInt (by omega)] at this; simp at this), Nat.add_zero]; exact kk10 _ _ _ (hfd j hj).2 (by simp; omega)) (fun j hj => (kk10 _ _ _ (hnn j hj) (by simp)).trans (hnn j hj).symm), kk10⟩ (by decide) (by decide) d_Schema_append_97
  · -- 5: False
    have c_5 : (decide (S.1 < 128) && (decide (ty = 4) || decide (cc S < 64))) = false := zb_f c_5
    exact absurd c_5 (by rw [decide_eq_true hroom]; rcases hcr with z | z <;> simp [z])

set_option maxHeartbeats 4000000 in
set_option maxRecDepth 100000 in
theorem c_Schema_append (l : Launch) (g : z_G) (h : z_H) {r q : Nat} {S : Sch} {fa ca : Nat} {ad na : Nat → Nat} {ff : Nat → Option Nat} {cf : Nat → Int32} {nf : Nat → Nat → Int32} {nq : Nat} {ki ty : Int32} {nm : List Nat} {fn : Nat → Int32} {i : Nat} (hnq : h nq = some ((r + 2, S.1), .inl (g.2.1 0, nm.length, .inl fn))) (hS : SchP g h r q S fa ca ad na ff cf nf) (hg : grOK S) (hroom : S.1 < 128) (hcr : ty = 4 ∨ cc S < 64) (hnm9 : nm.length ≤ 16 ∧ ∀ k, k < nm.length → nm.getD k 0 < 128 ∧ fn k = sb_b (nm.getD k 0)) (hi : i < S.1) : z_C l y_Schema_append prog_9_method_5_code 6 (Option.some Jvm.ClassFile.FieldType.int) 2 70 1 9 g [.ref q, .int ki, .int ty, .int (nI i), .ref nq] h (fun x h1 => ∃ fd, x = some (.int (nI S.1)) ∧ h fd = none ∧ SchP g h1 r q (addF S ki ty (nI i) nm) fa ca (va_up ad S.1 fd) (va_up na S.1 nq) (va_up ff S.1 (some fd)) (if ty = 4 then cf else upd cf (cc S) (nI S.1)) (va_up nf S.1 fn) ∧ z_KT (fun t => t = (r, 0) ∨ t = (r, 1) ∨ t = (r, 2) ∨ t = (r + 1, S.1) ∨ t = (r + 1, i)) h h1) := by
  refine z_C.of (by decide) (Nat.le_of_ble_eq_true rfl) (fun pg en s m below meth cd A ls hx hb hml hr hts hown hlocks hnm hK hE hA hw hl => ?_)
  have hl : lv_has ls 6 [(0, .ref q), (1, .int ki), (2, .int ty), (3, .int (nI i)), (4, .ref nq)] := hl
  obtain ⟨hq, hfa, hca, hfd, hnn, hnb, hcol, hsz, hcc⟩ := id hS
  have hrt := rq_le S (-1)
  have hfi := (hfd i hi).2
  have hri := rq_le S (nI i)
  have hgi : ¬ nI i = (-1 : Int32) := fun z => by have := congrArg Int32.toInt z; rw [nI_toInt (by omega)] at this; simp at this
  have kk0 : z_KT (fun t => t = (r, 0) ∨ t = (r, 1) ∨ t = (r, 2) ∨ t = (r + 1, S.1) ∨ t = (r + 1, i)) h h := z_KT.rf
  refine lv_aload_n hx hb d_Schema_append_0 rfl (lv_at hl 0 rfl) ?_
  refine lv_iload_n hx hb d_Schema_append_1 rfl (lv_at hl 2 rfl) ?_
  refine z_callV (n := 1) (As := [.int ty]) (rest := []) ⟨hx, hb, hml, hown, hts⟩ (c_Schema_hasRoomFor l g h hS) (z_in k_348 rfl) (z_in k_4 rfl) (z_in k_393 rfl) (z_in k_346 rfl) (z_in k_347 rfl) (by decide +kernel) ⟨by first | exact Nat.le_of_ble_eq_true rfl | (dsimp only; omega) | omega, by first | exact Nat.le_of_ble_eq_true rfl | (dsimp only; omega) | omega⟩ hK hE hw hA rfl hq rfl hl.1 (Nat.le_of_ble_eq_true rfl) d_Schema_append_2 ⟨by first | exact Nat.le_of_ble_eq_true rfl | (dsimp only; omega) | omega, by first | exact Nat.le_of_ble_eq_true rfl | (dsimp only; omega) | omega⟩ rfl (fun r9 h9 H locs hp hw => ?_)
  obtain ⟨r8, h8⟩ := hp
  subst r8
  subst h8
  refine W.eq (g2 := F0 m 5 ls [.int (zb (decide (S.1 < 128) && (decide (ty = 4) || decide (cc S < 64))))]) rfl ?_
  refine lv_if_ne (tgt := 10) hx hb d_Schema_append_5 (by decide) (fun c_5 => ?_) (fun c_5 => ?_)
  · -- 5: True
    have c_5 : (decide (S.1 < 128) && (decide (ty = 4) || decide (cc S < 64))) = true := zb_t c_5
    refine z_new (ci := 4) (fs := [.int 0, .int 0, .int 0, .int 0, .null, .int 0, .int 0, .int 0, .int 0]) hx hb hts (z_lay i_Field) t_Field t_Field_ok hown (z_in k_62 rfl) (z_in k_394 rfl) (z_in k_17 rfl) hK hw hA rfl (fun j hj => by rcases (show j = 0 ∨ j = 1 ∨ j = 2 ∨ j = 3 ∨ j = 4 ∨ j = 5 ∨ j = 6 ∨ j = 7 ∨ j = 8 by omega) with rfl | rfl | rfl | rfl | rfl | rfl | rfl | rfl | rfl <;> rfl) (by first | exact Nat.le_of_ble_eq_true rfl | (dsimp only; omega) | omega) (by first | exact Nat.le_of_ble_eq_true rfl | (dsimp only; omega) | omega) d_Schema_append_10 (r + 1, S.1) (fun fd H n_fd hw => ?_)
    obtain ⟨h1, hh1⟩ : ∃ x9, z_put h fd (r + 1, S.1) (.inr (4, [.int 0, .int 0, .int 0, .int 0, .null, .int 0, .int 0, .int 0, .int 0])) = x9 := ⟨_, rfl⟩
    have hw : z_S g A s.heap h1 H locs := by rw [← hh1]; exact hw
    have ne_nq_fd : nq ≠ fd := fun z => by have z2 := hnq; rw [z, n_fd] at z2; cases z2
    have ne_q_fd : q ≠ fd := fun z => by have z2 := hq; rw [z, n_fd] at z2; cases z2
    have ne_fa_fd : fa ≠ fd := fun z => by have z2 := hfa; rw [z, n_fd] at z2; cases z2
    have ne_ca_fd : ca ≠ fd := fun z => by have z2 := hca; rw [z, n_fd] at z2; cases z2
    have ne_ad_i_fd : (ad i) ≠ fd := fun z => by have z2 := hfi; rw [z, n_fd] at z2; cases z2
    have f1_nq : h1 nq = some ((r + 2, S.1), .inl (g.2.1 0, nm.length, .inl fn)) := by rw [← hh1]; exact z_keepN n_fd hnq
    have f1_q : h1 q = some ((r, 0), .inr (3, [.ref fa, .ref ca, .int (nI S.1), .int (nI (cc S)), .int (nI (rq S (-1)))])) := by rw [← hh1]; exact z_keepN n_fd hq
    have f1_fa : h1 fa = some ((r, 1), .inl (g.2.1 3, 128, .inr (.inr (.inr (.inr ff))))) := by rw [← hh1]; exact z_keepN n_fd hfa
    have f1_ca : h1 ca = some ((r, 2), .inl (g.2.1 1, 64, .inl cf)) := by rw [← hh1]; exact z_keepN n_fd hca
    have f1_ad_i : h1 (ad i) = some ((r + 1, i), .inr (4, [.int (nI i), .int (fKi (S.2 i)), .int (fTy (S.2 i)), .int (fGr (S.2 i)), .ref (na i), .int (fCo (S.2 i)), .int (fRe (S.2 i)), .int (fDe (S.2 i)), .int (nI (rq S (nI i)))])) := by rw [← hh1]; exact z_keepN n_fd hfi
    have f1_fd : h1 fd = some ((r + 1, S.1), .inr (4, [.int 0, .int 0, .int 0, .int 0, .null, .int 0, .int 0, .int 0, .int 0])) := by rw [← hh1]; exact z_put_eq
    have kk1 : z_KT (fun t => t = (r, 0) ∨ t = (r, 1) ∨ t = (r, 2) ∨ t = (r + 1, S.1) ∨ t = (r + 1, i)) h h1 := kk0.tr (by rw [← hh1]; exact z_KT.new n_fd)
    refine lv_dup hx hb d_Schema_append_13 rfl ?_
    refine lv_aload_n hx hb d_Schema_append_14 rfl (lv_at hl 0 rfl) ?_
    refine z_get hx hb hts (z_lay i_Schema) hown hK hw f1_q rfl 2 (by decide) (z_in k_66 rfl) (fun _ h9 => h9) rfl d_Schema_append_15 ?_
    refine lv_iload_n hx hb d_Schema_append_18 rfl (lv_at hl 1 rfl) ?_
    refine lv_iload_n hx hb d_Schema_append_19 rfl (lv_at hl 2 rfl) ?_
    refine lv_iload_n hx hb d_Schema_append_20 rfl (lv_at hl 3 rfl) ?_
    refine lv_aload hx hb d_Schema_append_21 (lv_at hl 4 rfl) ?_
    refine z_callI (n := 5) (As := [.int (nI S.1), .int ki, .int ty, .int (nI i), .ref nq]) (rest := [.ref fd]) ⟨hx, hb, hml, hown, hts⟩ (c_Field_init l g h1 f1_fd) (z_in k_397 rfl) (z_in k_17 rfl) (z_in k_395 rfl) (z_in k_396 rfl) rfl (by decide +kernel) ⟨by first | exact Nat.le_of_ble_eq_true rfl | (dsimp only; omega) | omega, by first | exact Nat.le_of_ble_eq_true rfl | (dsimp only; omega) | omega⟩ hK hE hw hA rfl hl.1 (Nat.le_of_ble_eq_true rfl) d_Schema_append_23 ⟨by first | exact Nat.le_of_ble_eq_true rfl | (dsimp only; omega) | omega, by first | exact Nat.le_of_ble_eq_true rfl | (dsimp only; omega) | omega⟩ rfl (fun r9 h9 H locs hp hw => ?_)
    obtain ⟨r8, hh2⟩ := hp
    subst r8
    obtain ⟨h2, e8⟩ : ∃ x9, x9 = h9 := ⟨_, rfl⟩
    subst e8
    have f2_nq : h2 nq = some ((r + 2, S.1), .inl (g.2.1 0, nm.length, .inl fn)) := by rw [← hh2]; exact (z_put_ne ne_nq_fd).trans f1_nq
    have f2_q : h2 q = some ((r, 0), .inr (3, [.ref fa, .ref ca, .int (nI S.1), .int (nI (cc S)), .int (nI (rq S (-1)))])) := by rw [← hh2]; exact (z_put_ne ne_q_fd).trans f1_q
    have f2_fa : h2 fa = some ((r, 1), .inl (g.2.1 3, 128, .inr (.inr (.inr (.inr ff))))) := by rw [← hh2]; exact (z_put_ne ne_fa_fd).trans f1_fa
    have f2_ca : h2 ca = some ((r, 2), .inl (g.2.1 1, 64, .inl cf)) := by rw [← hh2]; exact (z_put_ne ne_ca_fd).trans f1_ca
    have f2_ad_i : h2 (ad i) = some ((r + 1, i), .inr (4, [.int (nI i), .int (fKi (S.2 i)), .int (fTy (S.2 i)), .int (fGr (S.2 i)), .ref (na i), .int (fCo (S.2 i)), .int (fRe (S.2 i)), .int (fDe (S.2 i)), .int (nI (rq S (nI i)))])) := by rw [← hh2]; exact (z_put_ne ne_ad_i_fd).trans f1_ad_i
    have f2_fd : h2 fd = some ((r + 1, S.1), .inr (4, [.int (nI S.1), .int ki, .int ty, .int (nI i), .ref nq, .int (-1), .int 0, .int 0, .int 0])) := by rw [← hh2]; exact z_put_eq
    have kk2 : z_KT (fun t => t = (r, 0) ∨ t = (r, 1) ∨ t = (r, 2) ∨ t = (r + 1, S.1) ∨ t = (r + 1, i)) h h2 := kk1.tr (by rw [← hh2]; exact z_KT.put f1_fd (by first | decide | simp | omega))
    refine W.eq (g2 := F0 m 26 ls [.ref fd]) rfl ?_
    refine lv_astore (lv' := [(5, .ref fd), (0, .ref q), (1, .int ki), (2, .int ty), (3, .int (nI i)), (4, .ref nq)]) hx hb d_Schema_append_26 hl (by decide) rfl (fun ls hl => ?_)
    have kkq : z_KT (fun t => t = (r + 1, S.1)) h h2 := by
      rw [← hh2, ← hh1, z_put_put]
      exact z_KT.new n_fd
    have hS2 := hS.kt kkq (fun t z => by subst z; exact ⟨by simp, by simp, by simp⟩)
    refine lv_aload_n hx hb d_Schema_append_28 rfl (lv_at hl 1 rfl) ?_
    refine lv_aload hx hb d_Schema_append_29 (lv_at hl 0 rfl) ?_
    refine z_callV (n := 1) (As := [.ref fd]) (rest := []) ⟨hx, hb, hml, hown, hts⟩ (c_Schema_setLevels l g h2 f2_fd hS2 hi hi) (z_in k_448 rfl) (z_in k_4 rfl) (z_in k_445 rfl) (z_in k_447 rfl) (z_in ks_4 rfl) (by decide +kernel) ⟨by first | exact Nat.le_of_ble_eq_true rfl | (dsimp only; omega) | omega, by first | exact Nat.le_of_ble_eq_true rfl | (dsimp only; omega) | omega⟩ hK hE hw hA rfl f2_q rfl hl.1 (Nat.le_of_ble_eq_true rfl) d_Schema_append_31 ⟨by first | exact Nat.le_of_ble_eq_true rfl | (dsimp only; omega) | omega, by first | exact Nat.le_of_ble_eq_true rfl | (dsimp only; omega) | omega⟩ rfl (fun r9 h9 H locs hp hw => ?_)
    obtain ⟨r8, x8, y8, kt8⟩ := hp
    subst r8
    obtain ⟨h3, e8⟩ : ∃ x9, x9 = h9 := ⟨_, rfl⟩
    subst e8
    have g3_nq : h3 nq = some ((r + 2, S.1), .inl (g.2.1 0, nm.length, .inl fn)) := kt8 _ _ _ f2_nq (fun z => by rcases z with z | z <;> simp at z <;> omega)
    have g3_q : h3 q = some ((r, 0), .inr (3, [.ref fa, .ref ca, .int (nI S.1), .int (nI (cc S)), .int (nI (rq S (-1)))])) := kt8 _ _ _ f2_q (fun z => by rcases z with z | z <;> simp at z <;> omega)
    have g3_fa : h3 fa = some ((r, 1), .inl (g.2.1 3, 128, .inr (.inr (.inr (.inr ff))))) := kt8 _ _ _ f2_fa (fun z => by rcases z with z | z <;> simp at z <;> omega)
    have g3_ca : h3 ca = some ((r, 2), .inl (g.2.1 1, 64, .inl cf)) := kt8 _ _ _ f2_ca (fun z => by rcases z with z | z <;> simp at z <;> omega)
    have kk3 : z_KT (fun t => t = (r, 0) ∨ t = (r, 1) ∨ t = (r, 2) ∨ t = (r + 1, S.1) ∨ t = (r + 1, i)) h h3 := kk2.tr (kt8.mono (fun t z => by rcases z with z | z <;> simp [z]))
    refine W.eq (g2 := F0 m 34 ls []) rfl ?_
    refine lv_iload_n hx hb d_Schema_append_34 rfl (lv_at hl 3 rfl) ?_
    refine lv_iconst (v := 4) hx hb d_Schema_append_35 (by decide) ?_
    refine lv_icmp_eq (tgt := 71) hx hb d_Schema_append_36 (by decide) (fun c_36 => ?_) (fun c_36 => ?_)
    · -- 36: True
      refine lv_aload_n hx hb d_Schema_append_71 rfl (lv_at hl 1 rfl) ?_
      refine z_get hx hb hts (z_lay i_Schema) hown hK hw g3_q rfl 0 (by decide) (z_in k_64 rfl) (fun _ h9 => h9) rfl d_Schema_append_72 ?_
      refine lv_aload_n hx hb d_Schema_append_75 rfl (lv_at hl 1 rfl) ?_
      refine z_get hx hb hts (z_lay i_Schema) hown hK hw g3_q rfl 2 (by decide) (z_in k_66 rfl) (fun _ h9 => h9) rfl d_Schema_append_76 ?_
      refine lv_aload hx hb d_Schema_append_79 (lv_at hl 0 rfl) ?_
      refine z_astq hx hb hK hw g3_fa 3 rfl x8 rfl (vp_in_nI (by omega) (by omega)) d_Schema_append_81 (fun H locs hw => ?_)
      rw [nI_clamp (by omega)] at hw
      obtain ⟨h4, hh4⟩ : ∃ x9, z_put h3 fa (r, 1) (.inl (g.2.1 3, 128, .inr (.inr (.inr (.inr (va_up ff S.1 (some fd))))))) = x9 := ⟨_, rfl⟩
      have hw : z_S g A s.heap h4 H locs := by rw [← hh4]; exact hw
      have f4_nq : h4 nq = some ((r + 2, S.1), .inl (g.2.1 0, nm.length, .inl fn)) := by rw [← hh4]; exact z_keep g3_fa g3_nq (z_t1 (by omega))
      have f4_q : h4 q = some ((r, 0), .inr (3, [.ref fa, .ref ca, .int (nI S.1), .int (nI (cc S)), .int (nI (rq S (-1)))])) := by rw [← hh4]; exact z_keep g3_fa g3_q (z_t2 (by omega))
      have f4_fa : h4 fa = some ((r, 1), .inl (g.2.1 3, 128, .inr (.inr (.inr (.inr (va_up ff S.1 (some fd))))))) := by rw [← hh4]; exact z_put_eq
      have f4_ca : h4 ca = some ((r, 2), .inl (g.2.1 1, 64, .inl cf)) := by rw [← hh4]; exact z_keep g3_fa g3_ca (z_t2 (by omega))
      have f4_ad_i : h4 (ad i) = some ((r + 1, i), .inr (4, [.int (nI i), .int (fKi (S.2 i)), .int (fTy (S.2 i)), .int (fGr (S.2 i)), .ref (na i), .int (fCo (S.2 i)), .int (fRe (S.2 i)), .int (fDe (S.2 i)), .int (nI (rq S (nI i) + (if ki = 0 then 1 else 0)))])) := by rw [← hh4]; exact z_keep g3_fa y8 (z_t1 (by omega))
      have f4_fd : h4 fd = some ((r + 1, S.1), .inr (4, [.int (nI S.1), .int ki, .int ty, .int (nI i), .ref nq, .int (-1), .int (fRe (S.2 i) + (if ki = 2 then 1 else 0)), .int (fDe (S.2 i) + (if ki = 0 then 0 else 1)), .int 0])) := by rw [← hh4]; exact (z_put_ne (Ne.symm ne_fa_fd)).trans x8
      have kk4 : z_KT (fun t => t = (r, 0) ∨ t = (r, 1) ∨ t = (r, 2) ∨ t = (r + 1, S.1) ∨ t = (r + 1, i)) h h4 := kk3.tr (by rw [← hh4]; exact z_KT.put g3_fa (by first | decide | simp | omega))
      refine lv_aload_n hx hb d_Schema_append_82 rfl (lv_at hl 1 rfl) ?_
      refine lv_dup hx hb d_Schema_append_83 rfl ?_
      refine z_get hx hb hts (z_lay i_Schema) hown hK hw f4_q rfl 2 (by decide) (z_in k_66 rfl) (fun _ h9 => h9) rfl d_Schema_append_84 ?_
      refine lv_iconst (v := 1) hx hb d_Schema_append_87 (by decide) ?_
      refine lv_iadd hx hb d_Schema_append_88 ?_
      refine z_topi (y := nI (S.1 + 1)) (nI_add S.1 1) ?_
      refine z_putf (ty := .int) hx hb hts (z_lay i_Schema) t_Schema t_Schema_ok n_Schema hown hK hw f4_q rfl 2 (by decide) (z_in k_66 rfl) (fun _ h9 => h9) rfl (by decide +kernel) rfl rfl (Nat.le_of_ble_eq_true rfl) d_Schema_append_89 (fun H locs hw => ?_)
      obtain ⟨h5, hh5⟩ : ∃ x9, z_put h4 q (r, 0) (.inr (3, [.ref fa, .ref ca, .int (nI (S.1 + 1)), .int (nI (cc S)), .int (nI (rq S (-1)))])) = x9 := ⟨_, rfl⟩
      have hw : z_S g A s.heap h5 H locs := by rw [← hh5]; exact hw
      have f5_nq : h5 nq = some ((r + 2, S.1), .inl (g.2.1 0, nm.length, .inl fn)) := by rw [← hh5]; exact z_keep f4_q f4_nq (z_t1 (by omega))
      have f5_q : h5 q = some ((r, 0), .inr (3, [.ref fa, .ref ca, .int (nI (S.1 + 1)), .int (nI (cc S)), .int (nI (rq S (-1)))])) := by rw [← hh5]; exact z_put_eq
      have f5_fa : h5 fa = some ((r, 1), .inl (g.2.1 3, 128, .inr (.inr (.inr (.inr (va_up ff S.1 (some fd))))))) := by rw [← hh5]; exact z_keep f4_q f4_fa (z_t2 (by omega))
      have f5_ca : h5 ca = some ((r, 2), .inl (g.2.1 1, 64, .inl cf)) := by rw [← hh5]; exact z_keep f4_q f4_ca (z_t2 (by omega))
      have f5_ad_i : h5 (ad i) = some ((r + 1, i), .inr (4, [.int (nI i), .int (fKi (S.2 i)), .int (fTy (S.2 i)), .int (fGr (S.2 i)), .ref (na i), .int (fCo (S.2 i)), .int (fRe (S.2 i)), .int (fDe (S.2 i)), .int (nI (rq S (nI i) + (if ki = 0 then 1 else 0)))])) := by rw [← hh5]; exact z_keep f4_q f4_ad_i (z_t1 (by omega))
      have f5_fd : h5 fd = some ((r + 1, S.1), .inr (4, [.int (nI S.1), .int ki, .int ty, .int (nI i), .ref nq, .int (-1), .int (fRe (S.2 i) + (if ki = 2 then 1 else 0)), .int (fDe (S.2 i) + (if ki = 0 then 0 else 1)), .int 0])) := by rw [← hh5]; exact (z_put_ne (Ne.symm ne_q_fd)).trans f4_fd
      have kk5 : z_KT (fun t => t = (r, 0) ∨ t = (r, 1) ∨ t = (r, 2) ∨ t = (r + 1, S.1) ∨ t = (r + 1, i)) h h5 := kk4.tr (by rw [← hh5]; exact z_KT.put f4_q (by first | decide | simp | omega))
      refine lv_aload hx hb d_Schema_append_92 (lv_at hl 0 rfl) ?_
      refine z_getN hx hb hts (z_lay i_Field) hown hK hw f5_fd rfl 0 (by decide) hE.nest (z_inN k_403 rfl) (fun _ h9 => h9) rfl d_Schema_append_94 ?_
      exact z_iret hx hb hr hlocks hw ⟨fd, rfl, n_fd, hS.add (gr := (nI i)) hg hroom hcr (Or.inr ⟨i, hi, rfl⟩) hnm9 (by simpa [c_36, hgi] using f5_q) f5_fa (by rw [if_pos c_36]; exact f5_ca) (by rw [show newF S ki ty (nI i) nm = (ki, ty, nI i, -1, fRe (S.2 i) + (if ki = 2 then 1 else 0), fDe (S.2 i) + (if ki = 0 then 0 else 1), nm) by simp [newF, upR, upD, c_36, hgi, nI_clamp (show i < 2 ^ 31 by omega)]]; exact f5_fd) f5_nq (fun j hj => by
        by_cases e : j = i
        · subst e; simpa using f5_ad_i
        · rw [if_neg (fun z => e ((nI_eq (by omega) (by omega)).mp z.2).symm), Nat.add_zero]; exact kk5 _ _ _ (hfd j hj).2 (by simp; omega)) (fun j hj => (kk5 _ _ _ (hnn j hj) (by simp)).trans (hnn j hj).symm), kk5⟩ (by decide) (by decide) d_Schema_append_97
    · -- 36: False
      have hcl : cc S < 64 := hcr.resolve_left c_36
      refine lv_aload hx hb d_Schema_append_39 (lv_at hl 0 rfl) ?_
      refine lv_aload_n hx hb d_Schema_append_41 rfl (lv_at hl 1 rfl) ?_
      refine z_get hx hb hts (z_lay i_Schema) hown hK hw g3_q rfl 3 (by decide) (z_in k_68 rfl) (fun _ h9 => h9) rfl d_Schema_append_42 ?_
      refine z_putN (ty := .int) hx hb hts (z_lay i_Field) t_Field t_Field_ok n_Field hown hK hw x8 rfl 5 (by decide) hE.nest (z_inN k_420 rfl) (fun _ h9 => h9) rfl (by decide +kernel) rfl rfl (Nat.le_of_ble_eq_true rfl) d_Schema_append_45 (fun H locs hw => ?_)
      obtain ⟨h6, hh6⟩ : ∃ x9, z_put h3 fd (r + 1, S.1) (.inr (4, [.int (nI S.1), .int ki, .int ty, .int (nI i), .ref nq, .int (nI (cc S)), .int (fRe (S.2 i) + (if ki = 2 then 1 else 0)), .int (fDe (S.2 i) + (if ki = 0 then 0 else 1)), .int 0])) = x9 := ⟨_, rfl⟩
      have hw : z_S g A s.heap h6 H locs := by rw [← hh6]; exact hw
      have f6_nq : h6 nq = some ((r + 2, S.1), .inl (g.2.1 0, nm.length, .inl fn)) := by rw [← hh6]; exact (z_put_ne ne_nq_fd).trans g3_nq
      have f6_q : h6 q = some ((r, 0), .inr (3, [.ref fa, .ref ca, .int (nI S.1), .int (nI (cc S)), .int (nI (rq S (-1)))])) := by rw [← hh6]; exact (z_put_ne ne_q_fd).trans g3_q
      have f6_fa : h6 fa = some ((r, 1), .inl (g.2.1 3, 128, .inr (.inr (.inr (.inr ff))))) := by rw [← hh6]; exact (z_put_ne ne_fa_fd).trans g3_fa
      have f6_ca : h6 ca = some ((r, 2), .inl (g.2.1 1, 64, .inl cf)) := by rw [← hh6]; exact (z_put_ne ne_ca_fd).trans g3_ca
      have f6_ad_i : h6 (ad i) = some ((r + 1, i), .inr (4, [.int (nI i), .int (fKi (S.2 i)), .int (fTy (S.2 i)), .int (fGr (S.2 i)), .ref (na i), .int (fCo (S.2 i)), .int (fRe (S.2 i)), .int (fDe (S.2 i)), .int (nI (rq S (nI i) + (if ki = 0 then 1 else 0)))])) := by rw [← hh6]; exact (z_put_ne ne_ad_i_fd).trans y8
      have f6_fd : h6 fd = some ((r + 1, S.1), .inr (4, [.int (nI S.1), .int ki, .int ty, .int (nI i), .ref nq, .int (nI (cc S)), .int (fRe (S.2 i) + (if ki = 2 then 1 else 0)), .int (fDe (S.2 i) + (if ki = 0 then 0 else 1)), .int 0])) := by rw [← hh6]; exact z_put_eq
      have kk6 : z_KT (fun t => t = (r, 0) ∨ t = (r, 1) ∨ t = (r, 2) ∨ t = (r + 1, S.1) ∨ t = (r + 1, i)) h h6 := kk3.tr (by rw [← hh6]; exact z_KT.put x8 (by first | decide | simp | omega))
      refine lv_aload_n hx hb d_Schema_append_48 rfl (lv_at hl 1 rfl) ?_
      refine z_get hx hb hts (z_lay i_Schema) hown hK hw f6_q rfl 1 (by decide) (z_in k_65 rfl) (fun _ h9 => h9) rfl d_Schema_append_49 ?_
      refine lv_aload_n hx hb d_Schema_append_52 rfl (lv_at hl 1 rfl) ?_
      refine z_get hx hb hts (z_lay i_Schema) hown hK hw f6_q rfl 3 (by decide) (z_in k_68 rfl) (fun _ h9 => h9) rfl d_Schema_append_53 ?_
      refine lv_aload_n hx hb d_Schema_append_56 rfl (lv_at hl 1 rfl) ?_
      refine z_get hx hb hts (z_lay i_Schema) hown hK hw f6_q rfl 2 (by decide) (z_in k_66 rfl) (fun _ h9 => h9) rfl d_Schema_append_57 ?_
      refine z_iast hx hb hK hw f6_ca 1 rfl (vp_in_nI (by omega) (by omega)) d_Schema_append_60 (fun H locs hw => ?_)
      rw [nI_clamp (by omega)] at hw
      obtain ⟨h7, hh7⟩ : ∃ x9, z_put h6 ca (r, 2) (.inl (g.2.1 1, 64, .inl (upd cf (cc S) (nI S.1)))) = x9 := ⟨_, rfl⟩
      have hw : z_S g A s.heap h7 H locs := by rw [← hh7]; exact hw
      have f7_nq : h7 nq = some ((r + 2, S.1), .inl (g.2.1 0, nm.length, .inl fn)) := by rw [← hh7]; exact z_keep f6_ca f6_nq (z_t1 (by omega))
      have f7_q : h7 q = some ((r, 0), .inr (3, [.ref fa, .ref ca, .int (nI S.1), .int (nI (cc S)), .int (nI (rq S (-1)))])) := by rw [← hh7]; exact z_keep f6_ca f6_q (z_t2 (by omega))
      have f7_fa : h7 fa = some ((r, 1), .inl (g.2.1 3, 128, .inr (.inr (.inr (.inr ff))))) := by rw [← hh7]; exact z_keep f6_ca f6_fa (z_t2 (by omega))
      have f7_ca : h7 ca = some ((r, 2), .inl (g.2.1 1, 64, .inl (upd cf (cc S) (nI S.1)))) := by rw [← hh7]; exact z_put_eq
      have f7_ad_i : h7 (ad i) = some ((r + 1, i), .inr (4, [.int (nI i), .int (fKi (S.2 i)), .int (fTy (S.2 i)), .int (fGr (S.2 i)), .ref (na i), .int (fCo (S.2 i)), .int (fRe (S.2 i)), .int (fDe (S.2 i)), .int (nI (rq S (nI i) + (if ki = 0 then 1 else 0)))])) := by rw [← hh7]; exact z_keep f6_ca f6_ad_i (z_t1 (by omega))
      have f7_fd : h7 fd = some ((r + 1, S.1), .inr (4, [.int (nI S.1), .int ki, .int ty, .int (nI i), .ref nq, .int (nI (cc S)), .int (fRe (S.2 i) + (if ki = 2 then 1 else 0)), .int (fDe (S.2 i) + (if ki = 0 then 0 else 1)), .int 0])) := by rw [← hh7]; exact (z_put_ne (Ne.symm ne_ca_fd)).trans f6_fd
      have kk7 : z_KT (fun t => t = (r, 0) ∨ t = (r, 1) ∨ t = (r, 2) ∨ t = (r + 1, S.1) ∨ t = (r + 1, i)) h h7 := kk6.tr (by rw [← hh7]; exact z_KT.put f6_ca (by first | decide | simp | omega))
      refine lv_aload_n hx hb d_Schema_append_61 rfl (lv_at hl 1 rfl) ?_
      refine lv_dup hx hb d_Schema_append_62 rfl ?_
      refine z_get hx hb hts (z_lay i_Schema) hown hK hw f7_q rfl 3 (by decide) (z_in k_68 rfl) (fun _ h9 => h9) rfl d_Schema_append_63 ?_
      refine lv_iconst (v := 1) hx hb d_Schema_append_66 (by decide) ?_
      refine lv_iadd hx hb d_Schema_append_67 ?_
      refine z_topi (y := nI ((cc S) + 1)) (nI_add (cc S) 1) ?_
      refine z_putf (ty := .int) hx hb hts (z_lay i_Schema) t_Schema t_Schema_ok n_Schema hown hK hw f7_q rfl 3 (by decide) (z_in k_68 rfl) (fun _ h9 => h9) rfl (by decide +kernel) rfl rfl (Nat.le_of_ble_eq_true rfl) d_Schema_append_68 (fun H locs hw => ?_)
      obtain ⟨h8, hh8⟩ : ∃ x9, z_put h7 q (r, 0) (.inr (3, [.ref fa, .ref ca, .int (nI S.1), .int (nI ((cc S) + 1)), .int (nI (rq S (-1)))])) = x9 := ⟨_, rfl⟩
      have hw : z_S g A s.heap h8 H locs := by rw [← hh8]; exact hw
      have f8_nq : h8 nq = some ((r + 2, S.1), .inl (g.2.1 0, nm.length, .inl fn)) := by rw [← hh8]; exact z_keep f7_q f7_nq (z_t1 (by omega))
      have f8_q : h8 q = some ((r, 0), .inr (3, [.ref fa, .ref ca, .int (nI S.1), .int (nI ((cc S) + 1)), .int (nI (rq S (-1)))])) := by rw [← hh8]; exact z_put_eq
      have f8_fa : h8 fa = some ((r, 1), .inl (g.2.1 3, 128, .inr (.inr (.inr (.inr ff))))) := by rw [← hh8]; exact z_keep f7_q f7_fa (z_t2 (by omega))
      have f8_ca : h8 ca = some ((r, 2), .inl (g.2.1 1, 64, .inl (upd cf (cc S) (nI S.1)))) := by rw [← hh8]; exact z_keep f7_q f7_ca (z_t2 (by omega))
      have f8_ad_i : h8 (ad i) = some ((r + 1, i), .inr (4, [.int (nI i), .int (fKi (S.2 i)), .int (fTy (S.2 i)), .int (fGr (S.2 i)), .ref (na i), .int (fCo (S.2 i)), .int (fRe (S.2 i)), .int (fDe (S.2 i)), .int (nI (rq S (nI i) + (if ki = 0 then 1 else 0)))])) := by rw [← hh8]; exact z_keep f7_q f7_ad_i (z_t1 (by omega))
      have f8_fd : h8 fd = some ((r + 1, S.1), .inr (4, [.int (nI S.1), .int ki, .int ty, .int (nI i), .ref nq, .int (nI (cc S)), .int (fRe (S.2 i) + (if ki = 2 then 1 else 0)), .int (fDe (S.2 i) + (if ki = 0 then 0 else 1)), .int 0])) := by rw [← hh8]; exact (z_put_ne (Ne.symm ne_q_fd)).trans f7_fd
      have kk8 : z_KT (fun t => t = (r, 0) ∨ t = (r, 1) ∨ t = (r, 2) ∨ t = (r + 1, S.1) ∨ t = (r + 1, i)) h h8 := kk7.tr (by rw [← hh8]; exact z_KT.put f7_q (by first | decide | simp | omega))
      refine lv_aload_n hx hb d_Schema_append_71 rfl (lv_at hl 1 rfl) ?_
      refine z_get hx hb hts (z_lay i_Schema) hown hK hw f8_q rfl 0 (by decide) (z_in k_64 rfl) (fun _ h9 => h9) rfl d_Schema_append_72 ?_
      refine lv_aload_n hx hb d_Schema_append_75 rfl (lv_at hl 1 rfl) ?_
      refine z_get hx hb hts (z_lay i_Schema) hown hK hw f8_q rfl 2 (by decide) (z_in k_66 rfl) (fun _ h9 => h9) rfl d_Schema_append_76 ?_
      refine lv_aload hx hb d_Schema_append_79 (lv_at hl 0 rfl) ?_
      refine z_astq hx hb hK hw f8_fa 3 rfl f8_fd rfl (vp_in_nI (by omega) (by omega)) d_Schema_append_81 (fun H locs hw => ?_)
      rw [nI_clamp (by omega)] at hw
      obtain ⟨h9, hh9⟩ : ∃ x9, z_put h8 fa (r, 1) (.inl (g.2.1 3, 128, .inr (.inr (.inr (.inr (va_up ff S.1 (some fd))))))) = x9 := ⟨_, rfl⟩
      have hw : z_S g A s.heap h9 H locs := by rw [← hh9]; exact hw
      have f9_nq : h9 nq = some ((r + 2, S.1), .inl (g.2.1 0, nm.length, .inl fn)) := by rw [← hh9]; exact z_keep f8_fa f8_nq (z_t1 (by omega))
      have f9_q : h9 q = some ((r, 0), .inr (3, [.ref fa, .ref ca, .int (nI S.1), .int (nI ((cc S) + 1)), .int (nI (rq S (-1)))])) := by rw [← hh9]; exact z_keep f8_fa f8_q (z_t2 (by omega))
      have f9_fa : h9 fa = some ((r, 1), .inl (g.2.1 3, 128, .inr (.inr (.inr (.inr (va_up ff S.1 (some fd))))))) := by rw [← hh9]; exact z_put_eq
      have f9_ca : h9 ca = some ((r, 2), .inl (g.2.1 1, 64, .inl (upd cf (cc S) (nI S.1)))) := by rw [← hh9]; exact z_keep f8_fa f8_ca (z_t2 (by omega))
      have f9_ad_i : h9 (ad i) = some ((r + 1, i), .inr (4, [.int (nI i), .int (fKi (S.2 i)), .int (fTy (S.2 i)), .int (fGr (S.2 i)), .ref (na i), .int (fCo (S.2 i)), .int (fRe (S.2 i)), .int (fDe (S.2 i)), .int (nI (rq S (nI i) + (if ki = 0 then 1 else 0)))])) := by rw [← hh9]; exact z_keep f8_fa f8_ad_i (z_t1 (by omega))
      have f9_fd : h9 fd = some ((r + 1, S.1), .inr (4, [.int (nI S.1), .int ki, .int ty, .int (nI i), .ref nq, .int (nI (cc S)), .int (fRe (S.2 i) + (if ki = 2 then 1 else 0)), .int (fDe (S.2 i) + (if ki = 0 then 0 else 1)), .int 0])) := by rw [← hh9]; exact (z_put_ne (Ne.symm ne_fa_fd)).trans f8_fd
      have kk9 : z_KT (fun t => t = (r, 0) ∨ t = (r, 1) ∨ t = (r, 2) ∨ t = (r + 1, S.1) ∨ t = (r + 1, i)) h h9 := kk8.tr (by rw [← hh9]; exact z_KT.put f8_fa (by first | decide | simp | omega))
      refine lv_aload_n hx hb d_Schema_append_82 rfl (lv_at hl 1 rfl) ?_
      refine lv_dup hx hb d_Schema_append_83 rfl ?_
      refine z_get hx hb hts (z_lay i_Schema) hown hK hw f9_q rfl 2 (by decide) (z_in k_66 rfl) (fun _ h9 => h9) rfl d_Schema_append_84 ?_
      refine lv_iconst (v := 1) hx hb d_Schema_append_87 (by decide) ?_
      refine lv_iadd hx hb d_Schema_append_88 ?_
      refine z_topi (y := nI (S.1 + 1)) (nI_add S.1 1) ?_
      refine z_putf (ty := .int) hx hb hts (z_lay i_Schema) t_Schema t_Schema_ok n_Schema hown hK hw f9_q rfl 2 (by decide) (z_in k_66 rfl) (fun _ h9 => h9) rfl (by decide +kernel) rfl rfl (Nat.le_of_ble_eq_true rfl) d_Schema_append_89 (fun H locs hw => ?_)
      obtain ⟨h10, hh10⟩ : ∃ x9, z_put h9 q (r, 0) (.inr (3, [.ref fa, .ref ca, .int (nI (S.1 + 1)), .int (nI ((cc S) + 1)), .int (nI (rq S (-1)))])) = x9 := ⟨_, rfl⟩
      have hw : z_S g A s.heap h10 H locs := by rw [← hh10]; exact hw
      have f10_nq : h10 nq = some ((r + 2, S.1), .inl (g.2.1 0, nm.length, .inl fn)) := by rw [← hh10]; exact z_keep f9_q f9_nq (z_t1 (by omega))
      have f10_q : h10 q = some ((r, 0), .inr (3, [.ref fa, .ref ca, .int (nI (S.1 + 1)), .int (nI ((cc S) + 1)), .int (nI (rq S (-1)))])) := by rw [← hh10]; exact z_put_eq
      have f10_fa : h10 fa = some ((r, 1), .inl (g.2.1 3, 128, .inr (.inr (.inr (.inr (va_up ff S.1 (some fd))))))) := by rw [← hh10]; exact z_keep f9_q f9_fa (z_t2 (by omega))
      have f10_ca : h10 ca = some ((r, 2), .inl (g.2.1 1, 64, .inl (upd cf (cc S) (nI S.1)))) := by rw [← hh10]; exact z_keep f9_q f9_ca (z_t2 (by omega))
      have f10_ad_i : h10 (ad i) = some ((r + 1, i), .inr (4, [.int (nI i), .int (fKi (S.2 i)), .int (fTy (S.2 i)), .int (fGr (S.2 i)), .ref (na i), .int (fCo (S.2 i)), .int (fRe (S.2 i)), .int (fDe (S.2 i)), .int (nI (rq S (nI i) + (if ki = 0 then 1 else 0)))])) := by rw [← hh10]; exact z_keep f9_q f9_ad_i (z_t1 (by omega))
      have f10_fd : h10 fd = some ((r + 1, S.1), .inr (4, [.int (nI S.1), .int ki, .int ty, .int (nI i), .ref nq, .int (nI (cc S)), .int (fRe (S.2 i) + (if ki = 2 then 1 else 0)), .int (fDe (S.2 i) + (if ki = 0 then 0 else 1)), .int 0])) := by rw [← hh10]; exact (z_put_ne (Ne.symm ne_q_fd)).trans f9_fd
      have kk10 : z_KT (fun t => t = (r, 0) ∨ t = (r, 1) ∨ t = (r, 2) ∨ t = (r + 1, S.1) ∨ t = (r + 1, i)) h h10 := kk9.tr (by rw [← hh10]; exact z_KT.put f9_q (by first | decide | simp | omega))
      refine lv_aload hx hb d_Schema_append_92 (lv_at hl 0 rfl) ?_
      refine z_getN hx hb hts (z_lay i_Field) hown hK hw f10_fd rfl 0 (by decide) hE.nest (z_inN k_403 rfl) (fun _ h9 => h9) rfl d_Schema_append_94 ?_
      exact z_iret hx hb hr hlocks hw ⟨fd, rfl, n_fd, hS.add (gr := (nI i)) hg hroom hcr (Or.inr ⟨i, hi, rfl⟩) hnm9 (by simpa [c_36, hgi] using f10_q) f10_fa (by rw [if_neg c_36]; exact f10_ca) (by rw [show newF S ki ty (nI i) nm = (ki, ty, nI i, nI (cc S), fRe (S.2 i) + (if ki = 2 then 1 else 0), fDe (S.2 i) + (if ki = 0 then 0 else 1), nm) by simp [newF, upR, upD, c_36, hgi, nI_clamp (show i < 2 ^ 31 by omega)]]; exact f10_fd) f10_nq (fun j hj => by
        by_cases e : j = i
        · subst e; simpa using f10_ad_i
        · rw [if_neg (fun z => e ((nI_eq (by omega) (by omega)).mp z.2).symm), Nat.add_zero]; exact kk10 _ _ _ (hfd j hj).2 (by simp; omega)) (fun j hj => (kk10 _ _ _ (hnn j hj) (by simp)).trans (hnn j hj).symm), kk10⟩ (by decide) (by decide) d_Schema_append_97
  · -- 5: False
    have c_5 : (decide (S.1 < 128) && (decide (ty = 4) || decide (cc S < 64))) = false := zb_f c_5
    exact absurd c_5 (by rw [decide_eq_true hroom]; rcases hcr with z | z <;> simp [z])

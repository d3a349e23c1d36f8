/-- all cells but those with the tags T stay as they are -/
def z_KT (T : Nat × Nat → Prop) (h h1 : z_H) : Prop := ∀ (q : Nat) (t : Nat × Nat) (e : va_E), h q = some (t, e) → ¬ T t → h1 q = some (t, e)
theorem z_KT.rf {T : Nat × Nat → Prop} {h : z_H} : z_KT T h h := fun _ _ _ a _ => a
theorem z_KT.tr {T : Nat × Nat → Prop} {h h1 h2 : z_H} (a : z_KT T h h1) (b : z_KT T h1 h2) : z_KT T h h2 := fun q t e x y => b q t e (a q t e x y) y
theorem z_KT.mono {T T' : Nat × Nat → Prop} {h h1 : z_H} (a : z_KT T h h1) (hT : ∀ r, T r → T' r) : z_KT T' h h1 := fun q t e x y => a q t e x (fun z => y (hT _ z))
theorem z_KT.put {T : Nat × Nat → Prop} {h : z_H} {q : Nat} {t : Nat × Nat} {e0 e : va_E} (hq : h q = some (t, e0)) (hT : T t) : z_KT T h (z_put h q t e) := fun x t' e' hx hn => z_keep hq hx (fun z => hn (by rw [z]; exact hT))
theorem z_KT.new {T : Nat × Nat → Prop} {h : z_H} {q : Nat} {t : Nat × Nat} {e : va_E} (hq : h q = none) : z_KT T h (z_put h q t e) := fun x t' e' hx _ => z_keepN hq hx
theorem z_KT.K {T : Nat × Nat → Prop} {R : Nat → Prop} {h h1 : z_H} (a : z_KT T h h1) (hT : ∀ t, T t → R t.1) : z_K R h h1 := fun q t e x y => a q t e x (fun z => y (hT _ z))

set_option maxHeartbeats 4000000 in
set_option maxRecDepth 100000 in
theorem c_Schema_setLevels_top (l : Launch) (g : z_G) (h : z_H) {r q : Nat} {S : Sch} {fa ca : Nat} {ad na : Nat → Nat} {ff : Nat → Option Nat} {cf : Nat → Int32} {nf : Nat → Nat → Int32} {fd nq n : Nat} {ki ty : Int32} (hfdn : h fd = some ((r + 1, n), .inr (4, [.int (nI n), .int ki, .int ty, .int (-1), .ref nq, .int (-1), .int 0, .int 0, .int 0]))) (hS : SchP g h r q S fa ca ad na ff cf nf) : z_C l y_Schema_setLevels prog_9_method_6_code 3 (Option.none : Option Jvm.ClassFile.FieldType) 1 40 0 0 g [.ref q, .ref fd] h (fun x h1 => x = none ∧ h1 fd = some ((r + 1, n), .inr (4, [.int (nI n), .int ki, .int ty, .int (-1), .ref nq, .int (-1), .int ((if ki = 2 then 1 else 0)), .int ((if ki = 0 then 0 else 1)), .int 0])) ∧ h1 q = some ((r, 0), .inr (3, [.ref fa, .ref ca, .int (nI S.1), .int (nI (cc S)), .int (nI (rq S (-1) + (if ki = 0 then 1 else 0)))])) ∧ z_KT (fun t => t = (r + 1, n) ∨ t = (r, 0)) h h1) := by
  refine z_C.of (by decide) (Nat.le_of_ble_eq_true rfl) (fun pg en s m below meth cd A ls hx hb hml hr hts hown hlocks hnm hK hE hA hw hl => ?_)
  have hl : lv_has ls 3 [(0, .ref q), (1, .ref fd)] := hl
  obtain ⟨hq, hfa, hca, hfd, hnn, hnb, hcol, hsz, hcc⟩ := id hS
  have hrt := rq_le S (-1)
  have hne : (r + 1, n) ≠ ((r, 0) : Nat × Nat) := fun z => by have := congrArg Prod.fst z; simp at this
  have hne2 : (r + 1, n) ≠ ((r, 1) : Nat × Nat) := fun z => by have := congrArg Prod.fst z; simp at this
  have hne3 : (r + 1, n) ≠ ((r, 2) : Nat × Nat) := fun z => by have := congrArg Prod.fst z; simp at this
  have kk0 : z_KT (fun t => t = (r + 1, n) ∨ t = (r, 0)) h h := z_KT.rf
  refine lv_aload_n hx hb d_Schema_setLevels_0 rfl (lv_at hl 0 rfl) ?_
  refine lv_aload_n hx hb d_Schema_setLevels_1 rfl (lv_at hl 1 rfl) ?_
  refine z_getN hx hb hts (z_lay i_Field) hown hK hw hfdn rfl 3 (by decide) hE.nest (z_inN k_415 rfl) (fun _ h9 => h9) rfl d_Schema_setLevels_2 ?_
  refine z_callV (n := 1) (As := [.int (-1)]) (rest := []) ⟨hx, hb, hml, hown, hts⟩ (c_Schema_fieldAt_no l g h hS (Or.inl (by decide))) (z_in k_356 rfl) (z_in k_4 rfl) (z_in k_353 rfl) (z_in k_354 rfl) (z_in k_355 rfl) (by decide +kernel) ⟨by first | exact Nat.le_of_ble_eq_true rfl | (dsimp only; omega) | omega, by first | exact Nat.le_of_ble_eq_true rfl | (dsimp only; omega) | omega⟩ hK hE hw hA rfl hq rfl hl.1 (Nat.le_of_ble_eq_true rfl) d_Schema_setLevels_5 ⟨by first | exact Nat.le_of_ble_eq_true rfl | (dsimp only; omega) | omega, by first | exact Nat.le_of_ble_eq_true rfl | (dsimp only; omega) | omega⟩ rfl (fun r9 h9 H locs hp hw => ?_)
  obtain ⟨r8, h8⟩ := hp
  subst r8
  subst h8
  refine W.eq (g2 := F0 m 8 ls [.null]) rfl ?_
  refine lv_astore_nN (lv' := [(2, .null), (0, .ref q), (1, .ref fd)]) hx hb d_Schema_setLevels_8 rfl hl (by decide) rfl (fun ls hl => ?_)
  refine lv_aload_nN hx hb d_Schema_setLevels_9 rfl (lv_at hl 0 rfl) ?_
  refine lv_ifnullN (tgt := 29) hx hb d_Schema_setLevels_10 (by decide) ?_
  refine lv_aload_n hx hb d_Schema_setLevels_29 rfl (lv_at hl 2 rfl) ?_
  refine z_getN hx hb hts (z_lay i_Field) hown hK hw hfdn rfl 1 (by decide) hE.nest (z_inN k_408 rfl) (fun _ h9 => h9) rfl d_Schema_setLevels_30 ?_
  refine lv_iconst (v := 2) hx hb d_Schema_setLevels_33 (by decide) ?_
  refine lv_icmp_ne (tgt := 47) hx hb d_Schema_setLevels_34 (by decide) (fun c_34 => ?_) (fun c_34 => ?_)
  · -- 34: True
    refine lv_aload_n hx hb d_Schema_setLevels_47 rfl (lv_at hl 2 rfl) ?_
    refine z_getN hx hb hts (z_lay i_Field) hown hK hw hfdn rfl 1 (by decide) hE.nest (z_inN k_408 rfl) (fun _ h9 => h9) rfl d_Schema_setLevels_48 ?_
    refine lv_if_eq (tgt := 67) hx hb d_Schema_setLevels_51 (by decide) (fun c_51 => ?_) (fun c_51 => ?_)
    · -- 51: True
      refine lv_aload_nN hx hb d_Schema_setLevels_67 rfl (lv_at hl 0 rfl) ?_
      refine lv_ifnullN (tgt := 84) hx hb d_Schema_setLevels_68 (by decide) ?_
      refine lv_aload_n hx hb d_Schema_setLevels_84 rfl (lv_at hl 1 rfl) ?_
      refine lv_dup hx hb d_Schema_setLevels_85 rfl ?_
      refine z_get hx hb hts (z_lay i_Schema) hown hK hw hq rfl 4 (by decide) (z_in k_70 rfl) (fun _ h9 => h9) rfl d_Schema_setLevels_86 ?_
      refine lv_iconst (v := 1) hx hb d_Schema_setLevels_89 (by decide) ?_
      refine lv_iadd hx hb d_Schema_setLevels_90 ?_
      refine z_topi (y := nI ((rq S (-1)) + 1)) (nI_add (rq S (-1)) 1) ?_
      refine z_putf (ty := .int) hx hb hts (z_lay i_Schema) t_Schema t_Schema_ok n_Schema hown hK hw hq rfl 4 (by decide) (z_in k_70 rfl) (fun _ h9 => h9) rfl (by decide +kernel) rfl rfl (Nat.le_of_ble_eq_true rfl) d_Schema_setLevels_91 (fun H locs hw => ?_)
      obtain ⟨h1, hh1⟩ : ∃ x9, z_put h q (r, 0) (.inr (3, [.ref fa, .ref ca, .int (nI S.1), .int (nI (cc S)), .int (nI ((rq S (-1)) + 1))])) = x9 := ⟨_, rfl⟩
      have hw : z_S g A s.heap h1 H locs := by rw [← hh1]; exact hw
      have f1_fd : h1 fd = some ((r + 1, n), .inr (4, [.int (nI n), .int ki, .int ty, .int (-1), .ref nq, .int (-1), .int 0, .int 0, .int 0])) := by rw [← hh1]; exact z_keep hq hfdn hne
      have f1_q : h1 q = some ((r, 0), .inr (3, [.ref fa, .ref ca, .int (nI S.1), .int (nI (cc S)), .int (nI ((rq S (-1)) + 1))])) := by rw [← hh1]; exact z_put_eq
      have f1_fa : h1 fa = some ((r, 1), .inl (g.2.1 3, 128, .inr (.inr (.inr (.inr ff))))) := by rw [← hh1]; exact z_keep hq hfa (z_t2 (by decide))
      have f1_ca : h1 ca = some ((r, 2), .inl (g.2.1 1, 64, .inl cf)) := by rw [← hh1]; exact z_keep hq hca (z_t2 (by decide))
      have kk1 : z_KT (fun t => t = (r + 1, n) ∨ t = (r, 0)) h h1 := kk0.tr (by rw [← hh1]; exact z_KT.put hq (by first | decide | simp | omega))
      exact z_vret hx hb hr hlocks hw (by refine ⟨rfl, ?_, ?_, kk1⟩; (try simp only [c_34, c_51, if_true, if_false, Int32.zero_add, Int32.add_zero]); (first | exact f1_fd | simpa [c_34, c_51] using f1_fd); (first | exact f1_q | simpa [c_34, c_51] using f1_q)) (by decide) (by decide) d_Schema_setLevels_94
    · -- 51: False
      refine lv_aload_n hx hb d_Schema_setLevels_54 rfl (lv_at hl 2 rfl) ?_
      refine lv_dup hx hb d_Schema_setLevels_55 rfl ?_
      refine z_getN hx hb hts (z_lay i_Field) hown hK hw hfdn rfl 7 (by decide) hE.nest (z_inN k_424 rfl) (fun _ h9 => h9) rfl d_Schema_setLevels_56 ?_
      refine lv_iconst (v := 1) hx hb d_Schema_setLevels_59 (by decide) ?_
      refine lv_iadd hx hb d_Schema_setLevels_60 ?_
      refine z_topi (y := 1) (by decide) ?_
      refine z_putN (ty := .int) hx hb hts (z_lay i_Field) t_Field t_Field_ok n_Field hown hK hw hfdn rfl 7 (by decide) hE.nest (z_inN k_424 rfl) (fun _ h9 => h9) rfl (by decide +kernel) rfl rfl (Nat.le_of_ble_eq_true rfl) d_Schema_setLevels_61 (fun H locs hw => ?_)
      obtain ⟨h2, hh2⟩ : ∃ x9, z_put h fd (r + 1, n) (.inr (4, [.int (nI n), .int ki, .int ty, .int (-1), .ref nq, .int (-1), .int 0, .int 1, .int 0])) = x9 := ⟨_, rfl⟩
      have hw : z_S g A s.heap h2 H locs := by rw [← hh2]; exact hw
      have f2_fd : h2 fd = some ((r + 1, n), .inr (4, [.int (nI n), .int ki, .int ty, .int (-1), .ref nq, .int (-1), .int 0, .int 1, .int 0])) := by rw [← hh2]; exact z_put_eq
      have f2_q : h2 q = some ((r, 0), .inr (3, [.ref fa, .ref ca, .int (nI S.1), .int (nI (cc S)), .int (nI (rq S (-1)))])) := by rw [← hh2]; exact z_keep hfdn hq (Ne.symm hne)
      have f2_fa : h2 fa = some ((r, 1), .inl (g.2.1 3, 128, .inr (.inr (.inr (.inr ff))))) := by rw [← hh2]; exact z_keep hfdn hfa (Ne.symm hne2)
      have f2_ca : h2 ca = some ((r, 2), .inl (g.2.1 1, 64, .inl cf)) := by rw [← hh2]; exact z_keep hfdn hca (Ne.symm hne3)
      have kk2 : z_KT (fun t => t = (r + 1, n) ∨ t = (r, 0)) h h2 := kk0.tr (by rw [← hh2]; exact z_KT.put hfdn (by first | decide | simp | omega))
      refine lv_goto (tgt := 94) hx hb d_Schema_setLevels_64 (by decide) ?_
      exact z_vret hx hb hr hlocks hw (by refine ⟨rfl, ?_, ?_, kk2⟩; (try simp only [c_34, c_51, if_true, if_false, Int32.zero_add, Int32.add_zero]); (first | exact f2_fd | simpa [c_34, c_51] using f2_fd); (first | exact f2_q | simpa [c_34, c_51] using f2_q)) (by decide) (by decide) d_Schema_setLevels_94
  · -- 34: False
    refine lv_aload_n hx hb d_Schema_setLevels_37 rfl (lv_at hl 2 rfl) ?_
    refine lv_dup hx hb d_Schema_setLevels_38 rfl ?_
    refine z_getN hx hb hts (z_lay i_Field) hown hK hw hfdn rfl 6 (by decide) hE.nest (z_inN k_422 rfl) (fun _ h9 => h9) rfl d_Schema_setLevels_39 ?_
    refine lv_iconst (v := 1) hx hb d_Schema_setLevels_42 (by decide) ?_
    refine lv_iadd hx hb d_Schema_setLevels_43 ?_
    refine z_topi (y := 1) (by decide) ?_
    refine z_putN (ty := .int) hx hb hts (z_lay i_Field) t_Field t_Field_ok n_Field hown hK hw hfdn rfl 6 (by decide) hE.nest (z_inN k_422 rfl) (fun _ h9 => h9) rfl (by decide +kernel) rfl rfl (Nat.le_of_ble_eq_true rfl) d_Schema_setLevels_44 (fun H locs hw => ?_)
    obtain ⟨h3, hh3⟩ : ∃ x9, z_put h fd (r + 1, n) (.inr (4, [.int (nI n), .int ki, .int ty, .int (-1), .ref nq, .int (-1), .int 1, .int 0, .int 0])) = x9 := ⟨_, rfl⟩
    have hw : z_S g A s.heap h3 H locs := by rw [← hh3]; exact hw
    have f3_fd : h3 fd = some ((r + 1, n), .inr (4, [.int (nI n), .int ki, .int ty, .int (-1), .ref nq, .int (-1), .int 1, .int 0, .int 0])) := by rw [← hh3]; exact z_put_eq
    have f3_q : h3 q = some ((r, 0), .inr (3, [.ref fa, .ref ca, .int (nI S.1), .int (nI (cc S)), .int (nI (rq S (-1)))])) := by rw [← hh3]; exact z_keep hfdn hq (Ne.symm hne)
    have f3_fa : h3 fa = some ((r, 1), .inl (g.2.1 3, 128, .inr (.inr (.inr (.inr ff))))) := by rw [← hh3]; exact z_keep hfdn hfa (Ne.symm hne2)
    have f3_ca : h3 ca = some ((r, 2), .inl (g.2.1 1, 64, .inl cf)) := by rw [← hh3]; exact z_keep hfdn hca (Ne.symm hne3)
    have kk3 : z_KT (fun t => t = (r + 1, n) ∨ t = (r, 0)) h h3 := kk0.tr (by rw [← hh3]; exact z_KT.put hfdn (by first | decide | simp | omega))
    refine lv_aload_n hx hb d_Schema_setLevels_47 rfl (lv_at hl 2 rfl) ?_
    refine z_getN hx hb hts (z_lay i_Field) hown hK hw f3_fd rfl 1 (by decide) hE.nest (z_inN k_408 rfl) (fun _ h9 => h9) rfl d_Schema_setLevels_48 ?_
    refine lv_if_eq (tgt := 67) hx hb d_Schema_setLevels_51 (by decide) (fun c_51 => ?_) (fun c_51 => ?_)
    · -- 51: True
      exact absurd (c_34.symm.trans c_51) (by decide)
    · -- 51: False
      refine lv_aload_n hx hb d_Schema_setLevels_54 rfl (lv_at hl 2 rfl) ?_
      refine lv_dup hx hb d_Schema_setLevels_55 rfl ?_
      refine z_getN hx hb hts (z_lay i_Field) hown hK hw f3_fd rfl 7 (by decide) hE.nest (z_inN k_424 rfl) (fun _ h9 => h9) rfl d_Schema_setLevels_56 ?_
      refine lv_iconst (v := 1) hx hb d_Schema_setLevels_59 (by decide) ?_
      refine lv_iadd hx hb d_Schema_setLevels_60 ?_
      refine z_topi (y := 1) (by decide) ?_
      refine z_putN (ty := .int) hx hb hts (z_lay i_Field) t_Field t_Field_ok n_Field hown hK hw f3_fd rfl 7 (by decide) hE.nest (z_inN k_424 rfl) (fun _ h9 => h9) rfl (by decide +kernel) rfl rfl (Nat.le_of_ble_eq_true rfl) d_Schema_setLevels_61 (fun H locs hw => ?_)
      obtain ⟨h4, hh4⟩ : ∃ x9, z_put h3 fd (r + 1, n) (.inr (4, [.int (nI n), .int ki, .int ty, .int (-1), .ref nq, .int (-1), .int 1, .int 1, .int 0])) = x9 := ⟨_, rfl⟩
      have hw : z_S g A s.heap h4 H locs := by rw [← hh4]; exact hw
      have f4_fd : h4 fd = some ((r + 1, n), .inr (4, [.int (nI n), .int ki, .int ty, .int (-1), .ref nq, .int (-1), .int 1, .int 1, .int 0])) := by rw [← hh4]; exact z_put_eq
      have f4_q : h4 q = some ((r, 0), .inr (3, [.ref fa, .ref ca, .int (nI S.1), .int (nI (cc S)), .int (nI (rq S (-1)))])) := by rw [← hh4]; exact z_keep f3_fd f3_q (Ne.symm hne)
      have f4_fa : h4 fa = some ((r, 1), .inl (g.2.1 3, 128, .inr (.inr (.inr (.inr ff))))) := by rw [← hh4]; exact z_keep f3_fd f3_fa (Ne.symm hne2)
      have f4_ca : h4 ca = some ((r, 2), .inl (g.2.1 1, 64, .inl cf)) := by rw [← hh4]; exact z_keep f3_fd f3_ca (Ne.symm hne3)
      have kk4 : z_KT (fun t => t = (r + 1, n) ∨ t = (r, 0)) h h4 := kk3.tr (by rw [← hh4]; exact z_KT.put f3_fd (by first | decide | simp | omega))
      refine lv_goto (tgt := 94) hx hb d_Schema_setLevels_64 (by decide) ?_
      exact z_vret hx hb hr hlocks hw (by refine ⟨rfl, ?_, ?_, kk4⟩; (try simp only [c_34, c_51, if_true, if_false, Int32.zero_add, Int32.add_zero]); (first | exact f4_fd | simpa [c_34, c_51] using f4_fd); (first | exact f4_q | simpa [c_34, c_51] using f4_q)) (by decide) (by decide) d_Schema_setLevels_94

set_option maxHeartbeats 4000000 in
set_option maxRecDepth 100000 in
theorem c_Schema_setLevels (l : Launch) (g : z_G) (h : z_H) {r q : Nat} {S : Sch} {fa ca : Nat} {ad na : Nat → Nat} {ff : Nat → Option Nat} {cf : Nat → Int32} {nf : Nat → Nat → Int32} {fd nq n : Nat} {ki ty : Int32} {i : Nat} (hfdn : h fd = some ((r + 1, n), .inr (4, [.int (nI n), .int ki, .int ty, .int (nI i), .ref nq, .int (-1), .int 0, .int 0, .int 0]))) (hS : SchP g h r q S fa ca ad na ff cf nf) (hi : i < S.1) (hin : i < n) : z_C l y_Schema_setLevels prog_9_method_6_code 3 (Option.none : Option Jvm.ClassFile.FieldType) 1 40 0 0 g [.ref q, .ref fd] h (fun x h1 => x = none ∧ h1 fd = some ((r + 1, n), .inr (4, [.int (nI n), .int ki, .int ty, .int (nI i), .ref nq, .int (-1), .int (fRe (S.2 i) + (if ki = 2 then 1 else 0)), .int (fDe (S.2 i) + (if ki = 0 then 0 else 1)), .int 0])) ∧ h1 (ad i) = some ((r + 1, i), .inr (4, [.int (nI i), .int (fKi (S.2 i)), .int (fTy (S.2 i)), .int (fGr (S.2 i)), .ref (na i), .int (fCo (S.2 i)), .int (fRe (S.2 i)), .int (fDe (S.2 i)), .int (nI (rq S (nI i) + (if ki = 0 then 1 else 0)))])) ∧ z_KT (fun t => t = (r + 1, n) ∨ t = (r + 1, i)) h h1) := by
  refine z_C.of (by decide) (Nat.le_of_ble_eq_true rfl) (fun pg en s m below meth cd A ls hx hb hml hr hts hown hlocks hnm hK hE hA hw hl => ?_)
  have hl : lv_has ls 3 [(0, .ref q), (1, .ref fd)] := hl
  obtain ⟨hq, hfa, hca, hfd, hnn, hnb, hcol, hsz, hcc⟩ := id hS
  have hrt := rq_le S (-1)
  have hne : (r + 1, n) ≠ ((r, 0) : Nat × Nat) := fun z => by have := congrArg Prod.fst z; simp at this
  have hne2 : (r + 1, n) ≠ ((r, 1) : Nat × Nat) := fun z => by have := congrArg Prod.fst z; simp at this
  have hne3 : (r + 1, n) ≠ ((r, 2) : Nat × Nat) := fun z => by have := congrArg Prod.fst z; simp at this
  have hfi := (hfd i hi).2
  have hri := rq_le S (nI i)
  have kk0 : z_KT (fun t => t = (r + 1, n) ∨ t = (r + 1, i)) h h := z_KT.rf
  refine lv_aload_n hx hb d_Schema_setLevels_0 rfl (lv_at hl 0 rfl) ?_
  refine lv_aload_n hx hb d_Schema_setLevels_1 rfl (lv_at hl 1 rfl) ?_
  refine z_getN hx hb hts (z_lay i_Field) hown hK hw hfdn rfl 3 (by decide) hE.nest (z_inN k_415 rfl) (fun _ h9 => h9) rfl d_Schema_setLevels_2 ?_
  refine z_callV (n := 1) (As := [.int (nI i)]) (rest := []) ⟨hx, hb, hml, hown, hts⟩ (c_Schema_fieldAt (i := i) l g h hS (by omega)) (z_in k_356 rfl) (z_in k_4 rfl) (z_in k_353 rfl) (z_in k_354 rfl) (z_in k_355 rfl) (by decide +kernel) ⟨by first | exact Nat.le_of_ble_eq_true rfl | (dsimp only; omega) | omega, by first | exact Nat.le_of_ble_eq_true rfl | (dsimp only; omega) | omega⟩ hK hE hw hA rfl hq rfl hl.1 (Nat.le_of_ble_eq_true rfl) d_Schema_setLevels_5 ⟨by first | exact Nat.le_of_ble_eq_true rfl | (dsimp only; omega) | omega, by first | exact Nat.le_of_ble_eq_true rfl | (dsimp only; omega) | omega⟩ rfl (fun r9 h9 H locs hp hw => ?_)
  obtain ⟨r8, h8⟩ := hp
  subst r8
  subst h8
  refine W.eq (g2 := F0 m 8 ls [.ref (ad i)]) rfl ?_
  refine lv_astore_n (lv' := [(2, .ref (ad i)), (0, .ref q), (1, .ref fd)]) hx hb d_Schema_setLevels_8 rfl hl (by decide) rfl (fun ls hl => ?_)
  refine lv_aload_n hx hb d_Schema_setLevels_9 rfl (lv_at hl 0 rfl) ?_
  refine lv_ifnull hx hb d_Schema_setLevels_10 ?_
  refine lv_aload_n hx hb d_Schema_setLevels_13 rfl (lv_at hl 2 rfl) ?_
  refine lv_aload_n hx hb d_Schema_setLevels_14 rfl (lv_at hl 0 rfl) ?_
  refine z_getN hx hb hts (z_lay i_Field) hown hK hw hfi rfl 6 (by decide) hE.nest (z_inN k_422 rfl) (fun _ h9 => h9) rfl d_Schema_setLevels_15 ?_
  refine z_putN (ty := .int) hx hb hts (z_lay i_Field) t_Field t_Field_ok n_Field hown hK hw hfdn rfl 6 (by decide) hE.nest (z_inN k_422 rfl) (fun _ h9 => h9) rfl (by decide +kernel) rfl rfl (Nat.le_of_ble_eq_true rfl) d_Schema_setLevels_18 (fun H locs hw => ?_)
  obtain ⟨h1, hh1⟩ : ∃ x9, z_put h fd (r + 1, n) (.inr (4, [.int (nI n), .int ki, .int ty, .int (nI i), .ref nq, .int (-1), .int (fRe (S.2 i)), .int 0, .int 0])) = x9 := ⟨_, rfl⟩
  have hw : z_S g A s.heap h1 H locs := by rw [← hh1]; exact hw
  have f1_fd : h1 fd = some ((r + 1, n), .inr (4, [.int (nI n), .int ki, .int ty, .int (nI i), .ref nq, .int (-1), .int (fRe (S.2 i)), .int 0, .int 0])) := by rw [← hh1]; exact z_put_eq
  have f1_q : h1 q = some ((r, 0), .inr (3, [.ref fa, .ref ca, .int (nI S.1), .int (nI (cc S)), .int (nI (rq S (-1)))])) := by rw [← hh1]; exact z_keep hfdn hq (Ne.symm hne)
  have f1_fa : h1 fa = some ((r, 1), .inl (g.2.1 3, 128, .inr (.inr (.inr (.inr ff))))) := by rw [← hh1]; exact z_keep hfdn hfa (Ne.symm hne2)
  have f1_ca : h1 ca = some ((r, 2), .inl (g.2.1 1, 64, .inl cf)) := by rw [← hh1]; exact z_keep hfdn hca (Ne.symm hne3)
  have f1_ad_i : h1 (ad i) = some ((r + 1, i), .inr (4, [.int (nI i), .int (fKi (S.2 i)), .int (fTy (S.2 i)), .int (fGr (S.2 i)), .ref (na i), .int (fCo (S.2 i)), .int (fRe (S.2 i)), .int (fDe (S.2 i)), .int (nI (rq S (nI i)))])) := by rw [← hh1]; exact z_keep hfdn hfi (z_t2 (by omega))
  have kk1 : z_KT (fun t => t = (r + 1, n) ∨ t = (r + 1, i)) h h1 := kk0.tr (by rw [← hh1]; exact z_KT.put hfdn (by first | decide | simp | omega))
  refine lv_aload_n hx hb d_Schema_setLevels_21 rfl (lv_at hl 2 rfl) ?_
  refine lv_aload_n hx hb d_Schema_setLevels_22 rfl (lv_at hl 0 rfl) ?_
  refine z_getN hx hb hts (z_lay i_Field) hown hK hw f1_ad_i rfl 7 (by decide) hE.nest (z_inN k_424 rfl) (fun _ h9 => h9) rfl d_Schema_setLevels_23 ?_
  refine z_putN (ty := .int) hx hb hts (z_lay i_Field) t_Field t_Field_ok n_Field hown hK hw f1_fd rfl 7 (by decide) hE.nest (z_inN k_424 rfl) (fun _ h9 => h9) rfl (by decide +kernel) rfl rfl (Nat.le_of_ble_eq_true rfl) d_Schema_setLevels_26 (fun H locs hw => ?_)
  obtain ⟨h2, hh2⟩ : ∃ x9, z_put h1 fd (r + 1, n) (.inr (4, [.int (nI n), .int ki, .int ty, .int (nI i), .ref nq, .int (-1), .int (fRe (S.2 i)), .int (fDe (S.2 i)), .int 0])) = x9 := ⟨_, rfl⟩
  have hw : z_S g A s.heap h2 H locs := by rw [← hh2]; exact hw
  have f2_fd : h2 fd = some ((r + 1, n), .inr (4, [.int (nI n), .int ki, .int ty, .int (nI i), .ref nq, .int (-1), .int (fRe (S.2 i)), .int (fDe (S.2 i)), .int 0])) := by rw [← hh2]; exact z_put_eq
  have f2_q : h2 q = some ((r, 0), .inr (3, [.ref fa, .ref ca, .int (nI S.1), .int (nI (cc S)), .int (nI (rq S (-1)))])) := by rw [← hh2]; exact z_keep f1_fd f1_q (Ne.symm hne)
  have f2_fa : h2 fa = some ((r, 1), .inl (g.2.1 3, 128, .inr (.inr (.inr (.inr ff))))) := by rw [← hh2]; exact z_keep f1_fd f1_fa (Ne.symm hne2)
  have f2_ca : h2 ca = some ((r, 2), .inl (g.2.1 1, 64, .inl cf)) := by rw [← hh2]; exact z_keep f1_fd f1_ca (Ne.symm hne3)
  have f2_ad_i : h2 (ad i) = some ((r + 1, i), .inr (4, [.int (nI i), .int (fKi (S.2 i)), .int (fTy (S.2 i)), .int (fGr (S.2 i)), .ref (na i), .int (fCo (S.2 i)), .int (fRe (S.2 i)), .int (fDe (S.2 i)), .int (nI (rq S (nI i)))])) := by rw [← hh2]; exact z_keep f1_fd f1_ad_i (z_t2 (by omega))
  have kk2 : z_KT (fun t => t = (r + 1, n) ∨ t = (r + 1, i)) h h2 := kk1.tr (by rw [← hh2]; exact z_KT.put f1_fd (by first | decide | simp | omega))
  refine lv_aload_n hx hb d_Schema_setLevels_29 rfl (lv_at hl 2 rfl) ?_
  refine z_getN hx hb hts (z_lay i_Field) hown hK hw f2_fd rfl 1 (by decide) hE.nest (z_inN k_408 rfl) (fun _ h9 => h9) rfl d_Schema_setLevels_30 ?_
  refine lv_iconst (v := 2) hx hb d_Schema_setLevels_33 (by decide) ?_
  refine lv_icmp_ne (tgt := 47) hx hb d_Schema_setLevels_34 (by decide) (fun c_34 => ?_) (fun c_34 => ?_)
  · -- 34: True
    refine lv_aload_n hx hb d_Schema_setLevels_47 rfl (lv_at hl 2 rfl) ?_
    refine z_getN hx hb hts (z_lay i_Field) hown hK hw f2_fd rfl 1 (by decide) hE.nest (z_inN k_408 rfl) (fun _ h9 => h9) rfl d_Schema_setLevels_48 ?_
    refine lv_if_eq (tgt := 67) hx hb d_Schema_setLevels_51 (by decide) (fun c_51 => ?_) (fun c_51 => ?_)
    · -- 51: True
      refine lv_aload_n hx hb d_Schema_setLevels_67 rfl (lv_at hl 0 rfl) ?_
      refine lv_ifnull hx hb d_Schema_setLevels_68 ?_
      refine lv_aload_n hx hb d_Schema_setLevels_71 rfl (lv_at hl 0 rfl) ?_
      refine lv_dup hx hb d_Schema_setLevels_72 rfl ?_
      refine z_getN hx hb hts (z_lay i_Field) hown hK hw f2_ad_i rfl 8 (by decide) hE.nest (z_inN k_425 rfl) (fun _ h9 => h9) rfl d_Schema_setLevels_73 ?_
      refine lv_iconst (v := 1) hx hb d_Schema_setLevels_76 (by decide) ?_
      refine lv_iadd hx hb d_Schema_setLevels_77 ?_
      refine z_topi (y := nI ((rq S (nI i)) + 1)) (nI_add (rq S (nI i)) 1) ?_
      refine z_putN (ty := .int) hx hb hts (z_lay i_Field) t_Field t_Field_ok n_Field hown hK hw f2_ad_i rfl 8 (by decide) hE.nest (z_inN k_425 rfl) (fun _ h9 => h9) rfl (by decide +kernel) rfl rfl (Nat.le_of_ble_eq_true rfl) d_Schema_setLevels_78 (fun H locs hw => ?_)
      obtain ⟨h3, hh3⟩ : ∃ x9, z_put h2 (ad i) (r + 1, i) (.inr (4, [.int (nI i), .int (fKi (S.2 i)), .int (fTy (S.2 i)), .int (fGr (S.2 i)), .ref (na i), .int (fCo (S.2 i)), .int (fRe (S.2 i)), .int (fDe (S.2 i)), .int (nI ((rq S (nI i)) + 1))])) = x9 := ⟨_, rfl⟩
      have hw : z_S g A s.heap h3 H locs := by rw [← hh3]; exact hw
      have f3_fd : h3 fd = some ((r + 1, n), .inr (4, [.int (nI n), .int ki, .int ty, .int (nI i), .ref nq, .int (-1), .int (fRe (S.2 i)), .int (fDe (S.2 i)), .int 0])) := by rw [← hh3]; exact z_keep f2_ad_i f2_fd (z_t2 (by omega))
      have f3_q : h3 q = some ((r, 0), .inr (3, [.ref fa, .ref ca, .int (nI S.1), .int (nI (cc S)), .int (nI (rq S (-1)))])) := by rw [← hh3]; exact z_keep f2_ad_i f2_q (z_t1 (by omega))
      have f3_fa : h3 fa = some ((r, 1), .inl (g.2.1 3, 128, .inr (.inr (.inr (.inr ff))))) := by rw [← hh3]; exact z_keep f2_ad_i f2_fa (z_t1 (by omega))
      have f3_ca : h3 ca = some ((r, 2), .inl (g.2.1 1, 64, .inl cf)) := by rw [← hh3]; exact z_keep f2_ad_i f2_ca (z_t1 (by omega))
      have f3_ad_i : h3 (ad i) = some ((r + 1, i), .inr (4, [.int (nI i), .int (fKi (S.2 i)), .int (fTy (S.2 i)), .int (fGr (S.2 i)), .ref (na i), .int (fCo (S.2 i)), .int (fRe (S.2 i)), .int (fDe (S.2 i)), .int (nI ((rq S (nI i)) + 1))])) := by rw [← hh3]; exact z_put_eq
      have kk3 : z_KT (fun t => t = (r + 1, n) ∨ t = (r + 1, i)) h h3 := kk2.tr (by rw [← hh3]; exact z_KT.put f2_ad_i (by first | decide | simp | omega))
      refine lv_goto (tgt := 94) hx hb d_Schema_setLevels_81 (by decide) ?_
      exact z_vret hx hb hr hlocks hw (by refine ⟨rfl, ?_, ?_, kk3⟩; (try simp only [c_34, c_51, if_true, if_false, Int32.zero_add, Int32.add_zero]); (first | exact f3_fd | simpa [c_34, c_51] using f3_fd); (first | exact f3_ad_i | simpa [c_34, c_51] using f3_ad_i)) (by decide) (by decide) d_Schema_setLevels_94
    · -- 51: False
      refine lv_aload_n hx hb d_Schema_setLevels_54 rfl (lv_at hl 2 rfl) ?_
      refine lv_dup hx hb d_Schema_setLevels_55 rfl ?_
      refine z_getN hx hb hts (z_lay i_Field) hown hK hw f2_fd rfl 7 (by decide) hE.nest (z_inN k_424 rfl) (fun _ h9 => h9) rfl d_Schema_setLevels_56 ?_
      refine lv_iconst (v := 1) hx hb d_Schema_setLevels_59 (by decide) ?_
      refine lv_iadd hx hb d_Schema_setLevels_60 ?_
      refine z_putN (ty := .int) hx hb hts (z_lay i_Field) t_Field t_Field_ok n_Field hown hK hw f2_fd rfl 7 (by decide) hE.nest (z_inN k_424 rfl) (fun _ h9 => h9) rfl (by decide +kernel) rfl rfl (Nat.le_of_ble_eq_true rfl) d_Schema_setLevels_61 (fun H locs hw => ?_)
      obtain ⟨h4, hh4⟩ : ∃ x9, z_put h2 fd (r + 1, n) (.inr (4, [.int (nI n), .int ki, .int ty, .int (nI i), .ref nq, .int (-1), .int (fRe (S.2 i)), .int ((fDe (S.2 i)) + 1), .int 0])) = x9 := ⟨_, rfl⟩
      have hw : z_S g A s.heap h4 H locs := by rw [← hh4]; exact hw
      have f4_fd : h4 fd = some ((r + 1, n), .inr (4, [.int (nI n), .int ki, .int ty, .int (nI i), .ref nq, .int (-1), .int (fRe (S.2 i)), .int ((fDe (S.2 i)) + 1), .int 0])) := by rw [← hh4]; exact z_put_eq
      have f4_q : h4 q = some ((r, 0), .inr (3, [.ref fa, .ref ca, .int (nI S.1), .int (nI (cc S)), .int (nI (rq S (-1)))])) := by rw [← hh4]; exact z_keep f2_fd f2_q (Ne.symm hne)
      have f4_fa : h4 fa = some ((r, 1), .inl (g.2.1 3, 128, .inr (.inr (.inr (.inr ff))))) := by rw [← hh4]; exact z_keep f2_fd f2_fa (Ne.symm hne2)
      have f4_ca : h4 ca = some ((r, 2), .inl (g.2.1 1, 64, .inl cf)) := by rw [← hh4]; exact z_keep f2_fd f2_ca (Ne.symm hne3)
      have f4_ad_i : h4 (ad i) = some ((r + 1, i), .inr (4, [.int (nI i), .int (fKi (S.2 i)), .int (fTy (S.2 i)), .int (fGr (S.2 i)), .ref (na i), .int (fCo (S.2 i)), .int (fRe (S.2 i)), .int (fDe (S.2 i)), .int (nI (rq S (nI i)))])) := by rw [← hh4]; exact z_keep f2_fd f2_ad_i (z_t2 (by omega))
      have kk4 : z_KT (fun t => t = (r + 1, n) ∨ t = (r + 1, i)) h h4 := kk2.tr (by rw [← hh4]; exact z_KT.put f2_fd (by first | decide | simp | omega))
      refine lv_goto (tgt := 94) hx hb d_Schema_setLevels_64 (by decide) ?_
      exact z_vret hx hb hr hlocks hw (by refine ⟨rfl, ?_, ?_, kk4⟩; (try simp only [c_34, c_51, if_true, if_false, Int32.zero_add, Int32.add_zero]); (first | exact f4_fd | simpa [c_34, c_51] using f4_fd); (first | exact f4_ad_i | simpa [c_34, c_51] using f4_ad_i)) (by decide) (by decide) d_Schema_setLevels_94
  · -- 34: False
    refine lv_aload_n hx hb d_Schema_setLevels_37 rfl (lv_at hl 2 rfl) ?_
    refine lv_dup hx hb d_Schema_setLevels_38 rfl ?_
    refine z_getN hx hb hts (z_lay i_Field) hown hK hw f2_fd rfl 6 (by decide) hE.nest (z_inN k_422 rfl) (fun _ h9 => h9) rfl d_Schema_setLevels_39 ?_
    refine lv_iconst (v := 1) hx hb d_Schema_setLevels_42 (by decide) ?_
    refine lv_iadd hx hb d_Schema_setLevels_43 ?_
    refine z_putN (ty := .int) hx hb hts (z_lay i_Field) t_Field t_Field_ok n_Field hown hK hw f2_fd rfl 6 (by decide) hE.nest (z_inN k_422 rfl) (fun _ h9 => h9) rfl (by decide +kernel) rfl rfl (Nat.le_of_ble_eq_true rfl) d_Schema_setLevels_44 (fun H locs hw => ?_)
    obtain ⟨h5, hh5⟩ : ∃ x9, z_put h2 fd (r + 1, n) (.inr (4, [.int (nI n), .int ki, .int ty, .int (nI i), .ref nq, .int (-1), .int ((fRe (S.2 i)) + 1), .int (fDe (S.2 i)), .int 0])) = x9 := ⟨_, rfl⟩
    have hw : z_S g A s.heap h5 H locs := by rw [← hh5]; exact hw
    have f5_fd : h5 fd = some ((r + 1, n), .inr (4, [.int (nI n), .int ki, .int ty, .int (nI i), .ref nq, .int (-1), .int ((fRe (S.2 i)) + 1), .int (fDe (S.2 i)), .int 0])) := by rw [← hh5]; exact z_put_eq
    have f5_q : h5 q = some ((r, 0), .inr (3, [.ref fa, .ref ca, .int (nI S.1), .int (nI (cc S)), .int (nI (rq S (-1)))])) := by rw [← hh5]; exact z_keep f2_fd f2_q (Ne.symm hne)
    have f5_fa : h5 fa = some ((r, 1), .inl (g.2.1 3, 128, .inr (.inr (.inr (.inr ff))))) := by rw [← hh5]; exact z_keep f2_fd f2_fa (Ne.symm hne2)
    have f5_ca : h5 ca = some ((r, 2), .inl (g.2.1 1, 64, .inl cf)) := by rw [← hh5]; exact z_keep f2_fd f2_ca (Ne.symm hne3)
    have f5_ad_i : h5 (ad i) = some ((r + 1, i), .inr (4, [.int (nI i), .int (fKi (S.2 i)), .int (fTy (S.2 i)), .int (fGr (S.2 i)), .ref (na i), .int (fCo (S.2 i)), .int (fRe (S.2 i)), .int (fDe (S.2 i)), .int (nI (rq S (nI i)))])) := by rw [← hh5]; exact z_keep f2_fd f2_ad_i (z_t2 (by omega))
    have kk5 : z_KT (fun t => t = (r + 1, n) ∨ t = (r + 1, i)) h h5 := kk2.tr (by rw [← hh5]; exact z_KT.put f2_fd (by first | decide | simp | omega))
    refine lv_aload_n hx hb d_Schema_setLevels_47 rfl (lv_at hl 2 rfl) ?_
    refine z_getN hx hb hts (z_lay i_Field) hown hK hw f5_fd rfl 1 (by decide) hE.nest (z_inN k_408 rfl) (fun _ h9 => h9) rfl d_Schema_setLevels_48 ?_
    refine lv_if_eq (tgt := 67) hx hb d_Schema_setLevels_51 (by decide) (fun c_51 => ?_) (fun c_51 => ?_)
    · -- 51: True
      exact absurd (c_34.symm.trans c_51) (by decide)
    · -- 51: False
      refine lv_aload_n hx hb d_Schema_setLevels_54 rfl (lv_at hl 2 rfl) ?_
      refine lv_dup hx hb d_Schema_setLevels_55 rfl ?_
      refine z_getN hx hb hts (z_lay i_Field) hown hK hw f5_fd rfl 7 (by decide) hE.nest (z_inN k_424 rfl) (fun _ h9 => h9) rfl d_Schema_setLevels_56 ?_
      refine lv_iconst (v := 1) hx hb d_Schema_setLevels_59 (by decide) ?_
      refine lv_iadd hx hb d_Schema_setLevels_60 ?_
      refine z_putN (ty := .int) hx hb hts (z_lay i_Field) t_Field t_Field_ok n_Field hown hK hw f5_fd rfl 7 (by decide) hE.nest (z_inN k_424 rfl) (fun _ h9 => h9) rfl (by decide +kernel) rfl rfl (Nat.le_of_ble_eq_true rfl) d_Schema_setLevels_61 (fun H locs hw => ?_)
      obtain ⟨h6, hh6⟩ : ∃ x9, z_put h5 fd (r + 1, n) (.inr (4, [.int (nI n), .int ki, .int ty, .int (nI i), .ref nq, .int (-1), .int ((fRe (S.2 i)) + 1), .int ((fDe (S.2 i)) + 1), .int 0])) = x9 := ⟨_, rfl⟩
      have hw : z_S g A s.heap h6 H locs := by rw [← hh6]; exact hw
      have f6_fd : h6 fd = some ((r + 1, n), .inr (4, [.int (nI n), .int ki, .int ty, .int (nI i), .ref nq, .int (-1), .int ((fRe (S.2 i)) + 1), .int ((fDe (S.2 i)) + 1), .int 0])) := by rw [← hh6]; exact z_put_eq
      have f6_q : h6 q = some ((r, 0), .inr (3, [.ref fa, .ref ca, .int (nI S.1), .int (nI (cc S)), .int (nI (rq S (-1)))])) := by rw [← hh6]; exact z_keep f5_fd f5_q (Ne.symm hne)
      have f6_fa : h6 fa = some ((r, 1), .inl (g.2.1 3, 128, .inr (.inr (.inr (.inr ff))))) := by rw [← hh6]; exact z_keep f5_fd f5_fa (Ne.symm hne2)
      have f6_ca : h6 ca = some ((r, 2), .inl (g.2.1 1, 64, .inl cf)) := by rw [← hh6]; exact z_keep f5_fd f5_ca (Ne.symm hne3)
      have f6_ad_i : h6 (ad i) = some ((r + 1, i), .inr (4, [.int (nI i), .int (fKi (S.2 i)), .int (fTy (S.2 i)), .int (fGr (S.2 i)), .ref (na i), .int (fCo (S.2 i)), .int (fRe (S.2 i)), .int (fDe (S.2 i)), .int (nI (rq S (nI i)))])) := by rw [← hh6]; exact z_keep f5_fd f5_ad_i (z_t2 (by omega))
      have kk6 : z_KT (fun t => t = (r + 1, n) ∨ t = (r + 1, i)) h h6 := kk5.tr (by rw [← hh6]; exact z_KT.put f5_fd (by first | decide | simp | omega))
      refine lv_goto (tgt := 94) hx hb d_Schema_setLevels_64 (by decide) ?_
      exact z_vret hx hb hr hlocks hw (by refine ⟨rfl, ?_, ?_, kk6⟩; (try simp only [c_34, c_51, if_true, if_false, Int32.zero_add, Int32.add_zero]); (first | exact f6_fd | simpa [c_34, c_51] using f6_fd); (first | exact f6_ad_i | simpa [c_34, c_51] using f6_ad_i)) (by decide) (by decide) d_Schema_setLevels_94

/-- the levels above a field of a group -/
def upR (S : Sch) (gr : Int32) : Int32 := if gr = -1 then 0 else fRe (S.2 gr.toNatClampNeg)
def upD (S : Sch) (gr : Int32) : Int32 := if gr = -1 then 0 else fDe (S.2 gr.toNatClampNeg)
/-- a field as it comes behind the others -/
def newF (S : Sch) (ki ty gr : Int32) (nm : List Nat) : Fld := (ki, ty, gr, (if ty = 4 then -1 else nI (cc S)), upR S gr + (if ki = 2 then 1 else 0), upD S gr + (if ki = 0 then 0 else 1), nm)
def addF (S : Sch) (ki ty gr : Int32) (nm : List Nat) : Sch := (S.1 + 1, va_up S.2 S.1 (newF S ki ty gr nm))
/-- groups stand before what is in them -/
def grOK (S : Sch) : Prop := ∀ i, i < S.1 → fGr (S.2 i) = -1 ∨ ∃ j, j < i ∧ fGr (S.2 i) = nI j
theorem rqC_congr {F G : Nat → Fld} {gr : Int32} : ∀ n, (∀ i, i < n → F i = G i) → rqC F gr n = rqC G gr n := by
  intro n
  induction n with
  | zero => intro _; rfl
  | succ n ih => intro h; simp only [rqC]; rw [ih (fun i hi => h i (by omega)), h n (by omega)]
theorem ccC_congr {F G : Nat → Fld} : ∀ n, (∀ i, i < n → F i = G i) → ccC F n = ccC G n := by
  intro n
  induction n with
  | zero => intro _; rfl
  | succ n ih => intro h; simp only [ccC]; rw [ih (fun i hi => h i (by omega)), h n (by omega)]
theorem addF_old {S : Sch} {ki ty gr : Int32} {nm : List Nat} {i : Nat} (h : i < S.1) : (addF S ki ty gr nm).2 i = S.2 i := va_up_ne _ _ (by omega)
theorem addF_new {S : Sch} {ki ty gr : Int32} {nm : List Nat} : (addF S ki ty gr nm).2 S.1 = newF S ki ty gr nm := va_up_self _ _ _
theorem addF_rq {S : Sch} {ki ty gr : Int32} {nm : List Nat} (x : Int32) : rq (addF S ki ty gr nm) x = rq S x + (if ki = 0 ∧ gr = x then 1 else 0) := by
  show rqC (addF S ki ty gr nm).2 x (S.1 + 1) = _
  simp only [rqC]
  rw [rqC_congr (G := S.2) S.1 (fun i hi => addF_old hi), addF_new]
  rfl
theorem addF_cc {S : Sch} {ki ty gr : Int32} {nm : List Nat} : cc (addF S ki ty gr nm) = cc S + (if ty = 4 then 0 else 1) := by
  show ccC (addF S ki ty gr nm).2 (S.1 + 1) = _
  simp only [ccC]
  rw [ccC_congr (G := S.2) S.1 (fun i hi => addF_old hi), addF_new]
  rfl
theorem rqC_0 {F : Nat → Fld} {x : Int32} : ∀ n, (∀ i, i < n → ¬ fGr (F i) = x) → rqC F x n = 0 := by
  intro n
  induction n with
  | zero => intro _; rfl
  | succ n ih => intro h; simp only [rqC]; rw [ih (fun i hi => h i (by omega)), if_neg (fun z => h n (by omega) z.2)]
theorem grOK_new {S : Sch} (hg : grOK S) (hs : S.1 ≤ 128) : rq S (nI S.1) = 0 := rqC_0 _ (fun i hi z => by
  rcases hg i hi with e | ⟨j, hj, e⟩
  · rw [e] at z
    have := congrArg Int32.toInt z
    rw [nI_toInt (by omega)] at this
    simp at this
  · rw [e] at z
    have := (nI_eq (by omega) (by omega)).mp z
    omega)
theorem ccC_le (F : Nat → Fld) : ∀ k, ccC F k ≤ k := by
  intro k
  induction k with
  | zero => exact Nat.le_refl _
  | succ k ih => simp only [ccC]; split <;> omega
theorem ccC_mono (F : Nat → Fld) {a : Nat} : ∀ b, a ≤ b → ccC F a ≤ ccC F b := by
  intro b
  induction b with
  | zero => intro h; rw [Nat.le_zero.mp h]; exact Nat.le_refl _
  | succ b ih =>
    intro h
    by_cases e : a = b + 1
    · rw [e]; exact Nat.le_refl _
    · have := ih (by omega)
      simp only [ccC]
      omega

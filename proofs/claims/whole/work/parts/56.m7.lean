theorem m_readField (l : Launch) (g : z_G) {mo : Nat} {ma : Nat → Nat} {cod tpd fls cls9 nds sai ous : Int32} {n : Nat} {f : Nat → Int32} {t : Nat → Nat} (hn : n ≤ 4000) (hf : ∀ k, k < n → t k < 256 ∧ f k = nI (t k)) : ∀ (D d : Nat), d + D = 16 → ∀ (h : z_H) (p : Nat) (S : Sch) (il gr : Int32), h mo = some ((20, 0), .inr (11, mF ma cod tpd (nI n) fls cls9 (nI S.1) (nI (cc S)) nds sai ous (nI p) il)) → h (ma 1) = some ((22, 0), .inl (g.2.1 1, 4000, .inl f)) → MSc g h (ma 3) (ma 5) 25 28 S → scB S → p ≤ n → z_C l y_M_readField prog_13_method_15_code 10 (Option.none : Option Jvm.ClassFile.FieldType) (10 * D + 10) (300 * D + 300) 0 0 g [.ref mo, .int gr, .int (nI d)] h (fun x h1 => x = none ∧ rfP g h h1 mo ma cod tpd fls cls9 nds sai ous il n S (fldD t n (D + 1) d p S gr)) := by
  intro D
  induction D with
  | zero =>
    intro d hd h p S il gr h1 h2 ⟨fw, rf, lf, h3⟩ h4 h5
    exact m_readField_of (fM := 0) (lM := 0) (FLD := fun gi p S => fldD t n 0 (d + 1) p S (nI gi)) l g h h1 h2 hn hf h5 h3 h4 (by omega) rfl (fun z => absurd z (by omega))
  | succ D ih =>
    intro d hd h p S il gr h1 h2 ⟨fw, rf, lf, h3⟩ h4 h5
    rw [show 10 * (D + 1) + 10 = 10 * D + 10 + 10 by omega, show 300 * (D + 1) + 300 = 300 * D + 300 + 300 by omega]
    exact m_readField_of (fM := 10 * D + 10) (lM := 300 * D + 300) (FLD := fun gi p S => fldD t n (D + 1) (d + 1) p S (nI gi)) l g h h1 h2 hn hf h5 h3 h4 (by omega) rfl (fun _ h p S il gi a b c e q => ih (d + 1) (by omega) h p S il (nI gi) a b c e q)

def topC (FR : Nat → Sch → Res) (t : Nat → Nat) (n c p : Nat) (S : Sch) : Res := match FR p S with
  | .inl x => .inl x
  | .inr y => topL FR t n c false y.1 y.2
theorem schR_eq (t : Nat → Nat) (n : Nat) : schR t n = topC (fun p S => fldD t n 17 0 p S (-1)) t n 128 0 sch0 := by
  unfold schR topC
  rw [show (129 : Nat) = 128 + 1 from rfl]
  generalize (128 : Nat) = c
  simp only [topL]
  rw [if_neg (show ¬ (true = false ∧ bt t n (sk t n 0) = -1) from fun z => by cases z.1)]
  rfl
theorem topL_step (FR : Nat → Sch → Res) (t : Nat → Nat) (n c p : Nat) (S : Sch) : topL FR t n (c + 1) false p S = if bt t n (sk t n p) = -1 then .inr (sk t n p, S) else topC FR t n c (sk t n p) S := by
  simp only [topL, topC]
  by_cases h : bt t n (sk t n p) = -1
  · rw [if_pos h, if_pos ⟨trivial, h⟩]
  · rw [if_neg h, if_neg (fun z => h z.2)]; rfl
theorem topC_no {FR : Nat → Sch → Res} {t : Nat → Nat} {n c p : Nat} {S : Sch} {F : Nat × Nat} (h : FR p S = .inl F) : topC FR t n c p S = .inl F := by
  unfold topC
  rw [h]
theorem topC_ok {FR : Nat → Sch → Res} {t : Nat → Nat} {n c p : Nat} {S : Sch} {P : Nat × Sch} (h : FR p S = .inr P) : topC FR t n c p S = topL FR t n c false P.1 P.2 := by
  unfold topC
  rw [h]
theorem MSc.any {g : z_G} {h : z_H} {ra le tr lr : Nat} {S : Sch} (x : MSc g h ra le tr lr S) : MSc g h ra le tr lr sch0 := by
  obtain ⟨a, b, c, d⟩ := x
  exact ⟨a, b, c, d.1, d.2.1, d.2.2.1, fun i hi => absurd hi (Nat.not_lt_zero _)⟩
def sel6 (a b c d e f : Nat → Int32) : Nat → Nat → Int32
  | 0 => a
  | 1 => b
  | 2 => c
  | 3 => d
  | 4 => e
  | _ => f
theorem scB0 : scB sch0 := ⟨by decide, by decide, fun i hi => absurd hi (Nat.not_lt_zero _)⟩
theorem bt_end {t : Nat → Nat} {n p : Nat} (hf : ∀ k, k < n → t k < 256) : bt t n p = -1 ↔ n ≤ p := by
  constructor
  · intro h
    apply Classical.byContradiction
    intro z
    rw [bt_in (by omega)] at h
    have := hf p (by omega)
    exact nI_ne1 (by omega) h
  · intro h; exact bt_out (by omega)

set_option maxHeartbeats 300000 in
set_option maxRecDepth 100000 in
theorem m_schema_few (l : Launch) (g : z_G) (h : z_H) {mo : Nat} {T : List Nat} {S : Sch} {R : Rec} {O : List Nat} {n : Int32}  (hM : MAt g h mo T S R O) (ho : n < 0 ∨ nI T.length < n) : z_C l y_M_schema prog_13_method_16_code 4 (Option.some Jvm.ClassFile.FieldType.int) 1 60 0 0 g [.ref mo, .int n] h (fun x h1 => MPt g h x (.int (-2)) h1 mo T S R O) := by
  refine z_C.of (by decide) (Nat.le_of_ble_eq_true rfl) (fun pg en s m below meth cd A ls hx hb hml hr hts hown hlocks hnm hK hE hA hw hl => ?_)
  have hl : lv_has ls 4 [(0, .ref mo), (1, .int n)] := hl
  obtain ⟨ma, cod, siz, ffl, fcl, at9, il, hmo, hTp, hTx, ⟨rw9, rf, lf, hSc⟩, hSf, ⟨nf, np, nr, ns, nv, tx, hNd⟩, hOl, hOu⟩ := id hM
  obtain ⟨ftp, htp, hT4, hTv⟩ := id hTp
  obtain ⟨fou, hou, hO6, hOv⟩ := id hOu
  have kk0 : z_K (fun y => y = 20) h h := z_K.rf
  refine lv_aload_n hx hb d_M_schema_0 rfl (lv_at hl 0 rfl) ?_
  refine lv_iconst (v := 0) hx hb d_M_schema_1 (by decide) ?_
  refine z_putf (ty := .int) hx hb hts (z_lay i_M) t_M t_M_ok n_M hown hK hw hmo rfl 0 (by decide) (z_in k_771 rfl) (fun _ h9 => h9) rfl (by decide +kernel) rfl rfl (Nat.le_of_ble_eq_true rfl) d_M_schema_2 (fun H locs hw => ?_)
  obtain ⟨h1, hh1⟩ : ∃ x9, z_put h mo (20, 0) (.inr (11, mF ma 0 (nI T.length) siz (nI S.1) (nI (cc S)) ffl fcl (nI R.1) (nI (tbC R.2 R.1)) (nI O.length) at9 il)) = x9 := ⟨_, rfl⟩
  have hw : z_S g A s.heap h1 H locs := by rw [← hh1]; exact hw
  have f1_mo : h1 mo = some ((20, 0), .inr (11, mF ma 0 (nI T.length) siz (nI S.1) (nI (cc S)) ffl fcl (nI R.1) (nI (tbC R.2 R.1)) (nI O.length) at9 il)) := by rw [← hh1]; exact z_put_eq
  have kk1 : z_K (fun y => y = 20) h h1 := kk0.tr (by rw [← hh1]; exact z_K.put hmo (by first | decide | simp | omega))
  refine lv_aload_n hx hb d_M_schema_5 rfl (lv_at hl 0 rfl) ?_
  refine lv_iload_n hx hb d_M_schema_6 rfl (lv_at hl 1 rfl) ?_
  refine z_callV (n := 1) (As := [.int n]) (rest := []) ⟨hx, hb, hml, hown, hts⟩ (m_takes_few l g h1 f1_mo (by omega) ho) (z_in k_877 rfl) (z_in k_7 rfl) (z_in k_874 rfl) (z_in k_876 rfl) (z_in ks_25 rfl) (by decide +kernel) ⟨by first | exact Nat.le_of_ble_eq_true rfl | (dsimp only; omega) | omega, by first | exact Nat.le_of_ble_eq_true rfl | (dsimp only; omega) | omega⟩ hK hE hw hA rfl f1_mo rfl hl.1 (Nat.le_of_ble_eq_true rfl) d_M_schema_7 ⟨by first | exact Nat.le_of_ble_eq_true rfl | (dsimp only; omega) | omega, by first | exact Nat.le_of_ble_eq_true rfl | (dsimp only; omega) | omega⟩ rfl (fun r9 h9 H locs hp hw => ?_)
  obtain ⟨r8, h8⟩ := hp
  subst r8
  subst h8
  refine W.eq (g2 := F0 m 10 ls [.int 0]) rfl ?_
  refine lv_if_ne (tgt := 16) hx hb d_M_schema_10 (by decide) (fun c_10 => ?_) (fun c_10 => ?_)
  · -- 10: True
    exact absurd (by decide) c_10
  · -- 10: False
    refine lv_bipush (v := (-2)) hx hb d_M_schema_13 (by decide) ?_
    exact z_iret hx hb hr hlocks hw (by refine ⟨congrArg some (congrArg Value.int ?_), ⟨ma, _, _, _, _, _, _, f1_mo, hTp.k kk1 (by omega), hTx.k kk1 (by omega), ⟨_, _, _, hSc.k kk1 (by omega) (by omega) (by omega)⟩, hSf.k kk1 (by omega) (by omega) (by omega), ⟨_, _, _, _, _, _, hNd.k kk1 (by omega) (by omega) (by omega)⟩, hOl.k kk1 (by omega) (by omega) (by omega), hOu.k kk1 (by omega)⟩, kk1.mono (fun y z => by unfold KMr; omega)⟩; rfl) (by decide) (by decide) d_M_schema_15

set_option maxHeartbeats 300000 in
set_option maxRecDepth 100000 in
theorem m_find_few (l : Launch) (g : z_G) (h : z_H) {mo : Nat} {T : List Nat} {S : Sch} {R : Rec} {O : List Nat} {k n : Int32}  (hM : MAt g h mo T S R O) (ho : n < 0 ∨ nI T.length < n) : z_C l y_M_find prog_13_method_24_code 3 (Option.some Jvm.ClassFile.FieldType.int) 1 60 0 0 g [.ref mo, .int k, .int n] h (fun x h1 => MPt g h x (.int (-2)) h1 mo T S R O) := by
  refine z_C.of (by decide) (Nat.le_of_ble_eq_true rfl) (fun pg en s m below meth cd A ls hx hb hml hr hts hown hlocks hnm hK hE hA hw hl => ?_)
  have hl : lv_has ls 3 [(0, .ref mo), (1, .int k), (2, .int n)] := hl
  obtain ⟨ma, cod, siz, ffl, fcl, at9, il, hmo, hTp, hTx, ⟨rw9, rf, lf, hSc⟩, hSf, ⟨nf, np, nr, ns, nv, tx, hNd⟩, hOl, hOu⟩ := id hM
  obtain ⟨ftp, htp, hT4, hTv⟩ := id hTp
  obtain ⟨fou, hou, hO6, hOv⟩ := id hOu
  have kk0 : z_K (fun y => y = 20) h h := z_K.rf
  refine lv_aload_n hx hb d_M_find_0 rfl (lv_at hl 0 rfl) ?_
  refine lv_iconst (v := 0) hx hb d_M_find_1 (by decide) ?_
  refine z_putf (ty := .int) hx hb hts (z_lay i_M) t_M t_M_ok n_M hown hK hw hmo rfl 0 (by decide) (z_in k_771 rfl) (fun _ h9 => h9) rfl (by decide +kernel) rfl rfl (Nat.le_of_ble_eq_true rfl) d_M_find_2 (fun H locs hw => ?_)
  obtain ⟨h1, hh1⟩ : ∃ x9, z_put h mo (20, 0) (.inr (11, mF ma 0 (nI T.length) siz (nI S.1) (nI (cc S)) ffl fcl (nI R.1) (nI (tbC R.2 R.1)) (nI O.length) at9 il)) = x9 := ⟨_, rfl⟩
  have hw : z_S g A s.heap h1 H locs := by rw [← hh1]; exact hw
  have f1_mo : h1 mo = some ((20, 0), .inr (11, mF ma 0 (nI T.length) siz (nI S.1) (nI (cc S)) ffl fcl (nI R.1) (nI (tbC R.2 R.1)) (nI O.length) at9 il)) := by rw [← hh1]; exact z_put_eq
  have kk1 : z_K (fun y => y = 20) h h1 := kk0.tr (by rw [← hh1]; exact z_K.put hmo (by first | decide | simp | omega))
  refine lv_aload_n hx hb d_M_find_5 rfl (lv_at hl 0 rfl) ?_
  refine lv_iload_n hx hb d_M_find_6 rfl (lv_at hl 2 rfl) ?_
  refine z_callV (n := 1) (As := [.int n]) (rest := []) ⟨hx, hb, hml, hown, hts⟩ (m_takes_few l g h1 f1_mo (by omega) ho) (z_in k_877 rfl) (z_in k_7 rfl) (z_in k_874 rfl) (z_in k_876 rfl) (z_in ks_25 rfl) (by decide +kernel) ⟨by first | exact Nat.le_of_ble_eq_true rfl | (dsimp only; omega) | omega, by first | exact Nat.le_of_ble_eq_true rfl | (dsimp only; omega) | omega⟩ hK hE hw hA rfl f1_mo rfl hl.1 (Nat.le_of_ble_eq_true rfl) d_M_find_7 ⟨by first | exact Nat.le_of_ble_eq_true rfl | (dsimp only; omega) | omega, by first | exact Nat.le_of_ble_eq_true rfl | (dsimp only; omega) | omega⟩ rfl (fun r9 h9 H locs hp hw => ?_)
  obtain ⟨r8, h8⟩ := hp
  subst r8
  subst h8
  refine W.eq (g2 := F0 m 10 ls [.int 0]) rfl ?_
  refine lv_if_ne (tgt := 16) hx hb d_M_find_10 (by decide) (fun c_10 => ?_) (fun c_10 => ?_)
  · -- 10: True
    exact absurd (by decide) c_10
  · -- 10: False
    refine lv_bipush (v := (-2)) hx hb d_M_find_13 (by decide) ?_
    exact z_iret hx hb hr hlocks hw (by refine ⟨congrArg some (congrArg Value.int ?_), ⟨ma, _, _, _, _, _, _, f1_mo, hTp.k kk1 (by omega), hTx.k kk1 (by omega), ⟨_, _, _, hSc.k kk1 (by omega) (by omega) (by omega)⟩, hSf.k kk1 (by omega) (by omega) (by omega), ⟨_, _, _, _, _, _, hNd.k kk1 (by omega) (by omega) (by omega)⟩, hOl.k kk1 (by omega) (by omega) (by omega), hOu.k kk1 (by omega)⟩, kk1.mono (fun y z => by unfold KMr; omega)⟩; rfl) (by decide) (by decide) d_M_find_15

set_option maxHeartbeats 300000 in
set_option maxRecDepth 100000 in
theorem m_record_few (l : Launch) (g : z_G) (h : z_H) {mo : Nat} {T : List Nat} {S : Sch} {R : Rec} {O : List Nat} {n : Int32}  (hM : MAt g h mo T S R O) (ho : n < 0 ∨ nI T.length < n) : z_C l y_M_record prog_13_method_36_code 5 (Option.some Jvm.ClassFile.FieldType.int) 1 60 0 0 g [.ref mo, .int n] h (fun x h1 => MPt g h x (.int (-2)) h1 mo T S R O) := by
  refine z_C.of (by decide) (Nat.le_of_ble_eq_true rfl) (fun pg en s m below meth cd A ls hx hb hml hr hts hown hlocks hnm hK hE hA hw hl => ?_)
  have hl : lv_has ls 5 [(0, .ref mo), (1, .int n)] := hl
  obtain ⟨ma, cod, siz, ffl, fcl, at9, il, hmo, hTp, hTx, ⟨rw9, rf, lf, hSc⟩, hSf, ⟨nf, np, nr, ns, nv, tx, hNd⟩, hOl, hOu⟩ := id hM
  obtain ⟨ftp, htp, hT4, hTv⟩ := id hTp
  obtain ⟨fou, hou, hO6, hOv⟩ := id hOu
  have kk0 : z_K (fun y => y = 20) h h := z_K.rf
  refine lv_aload_n hx hb d_M_record_0 rfl (lv_at hl 0 rfl) ?_
  refine lv_iconst (v := 0) hx hb d_M_record_1 (by decide) ?_
  refine z_putf (ty := .int) hx hb hts (z_lay i_M) t_M t_M_ok n_M hown hK hw hmo rfl 0 (by decide) (z_in k_771 rfl) (fun _ h9 => h9) rfl (by decide +kernel) rfl rfl (Nat.le_of_ble_eq_true rfl) d_M_record_2 (fun H locs hw => ?_)
  obtain ⟨h1, hh1⟩ : ∃ x9, z_put h mo (20, 0) (.inr (11, mF ma 0 (nI T.length) siz (nI S.1) (nI (cc S)) ffl fcl (nI R.1) (nI (tbC R.2 R.1)) (nI O.length) at9 il)) = x9 := ⟨_, rfl⟩
  have hw : z_S g A s.heap h1 H locs := by rw [← hh1]; exact hw
  have f1_mo : h1 mo = some ((20, 0), .inr (11, mF ma 0 (nI T.length) siz (nI S.1) (nI (cc S)) ffl fcl (nI R.1) (nI (tbC R.2 R.1)) (nI O.length) at9 il)) := by rw [← hh1]; exact z_put_eq
  have kk1 : z_K (fun y => y = 20) h h1 := kk0.tr (by rw [← hh1]; exact z_K.put hmo (by first | decide | simp | omega))
  refine lv_aload_n hx hb d_M_record_5 rfl (lv_at hl 0 rfl) ?_
  refine lv_iload_n hx hb d_M_record_6 rfl (lv_at hl 1 rfl) ?_
  refine z_callV (n := 1) (As := [.int n]) (rest := []) ⟨hx, hb, hml, hown, hts⟩ (m_takes_few l g h1 f1_mo (by omega) ho) (z_in k_877 rfl) (z_in k_7 rfl) (z_in k_874 rfl) (z_in k_876 rfl) (z_in ks_25 rfl) (by decide +kernel) ⟨by first | exact Nat.le_of_ble_eq_true rfl | (dsimp only; omega) | omega, by first | exact Nat.le_of_ble_eq_true rfl | (dsimp only; omega) | omega⟩ hK hE hw hA rfl f1_mo rfl hl.1 (Nat.le_of_ble_eq_true rfl) d_M_record_7 ⟨by first | exact Nat.le_of_ble_eq_true rfl | (dsimp only; omega) | omega, by first | exact Nat.le_of_ble_eq_true rfl | (dsimp only; omega) | omega⟩ rfl (fun r9 h9 H locs hp hw => ?_)
  obtain ⟨r8, h8⟩ := hp
  subst r8
  subst h8
  refine W.eq (g2 := F0 m 10 ls [.int 0]) rfl ?_
  refine lv_if_ne (tgt := 16) hx hb d_M_record_10 (by decide) (fun c_10 => ?_) (fun c_10 => ?_)
  · -- 10: True
    exact absurd (by decide) c_10
  · -- 10: False
    refine lv_bipush (v := (-2)) hx hb d_M_record_13 (by decide) ?_
    exact z_iret hx hb hr hlocks hw (by refine ⟨congrArg some (congrArg Value.int ?_), ⟨ma, _, _, _, _, _, _, f1_mo, hTp.k kk1 (by omega), hTx.k kk1 (by omega), ⟨_, _, _, hSc.k kk1 (by omega) (by omega) (by omega)⟩, hSf.k kk1 (by omega) (by omega) (by omega), ⟨_, _, _, _, _, _, hNd.k kk1 (by omega) (by omega) (by omega)⟩, hOl.k kk1 (by omega) (by omega) (by omega), hOu.k kk1 (by omega)⟩, kk1.mono (fun y z => by unfold KMr; omega)⟩; rfl) (by decide) (by decide) d_M_record_15

set_option maxHeartbeats 300000 in
set_option maxRecDepth 100000 in
theorem m_addText_few (l : Launch) (g : z_G) (h : z_H) {mo : Nat} {T : List Nat} {S : Sch} {R : Rec} {O : List Nat} {a b n : Int32}  (hM : MAt g h mo T S R O) (ho : n < 0 ∨ nI T.length < n) : z_C l y_M_addText prog_13_method_40_code 6 (Option.some Jvm.ClassFile.FieldType.int) 1 60 0 0 g [.ref mo, .int a, .int b, .int n] h (fun x h1 => MPt g h x (.int (-2)) h1 mo T S R O) := by
  refine z_C.of (by decide) (Nat.le_of_ble_eq_true rfl) (fun pg en s m below meth cd A ls hx hb hml hr hts hown hlocks hnm hK hE hA hw hl => ?_)
  have hl : lv_has ls 6 [(0, .ref mo), (1, .int a), (2, .int b), (3, .int n)] := hl
  obtain ⟨ma, cod, siz, ffl, fcl, at9, il, hmo, hTp, hTx, ⟨rw9, rf, lf, hSc⟩, hSf, ⟨nf, np, nr, ns, nv, tx, hNd⟩, hOl, hOu⟩ := id hM
  obtain ⟨ftp, htp, hT4, hTv⟩ := id hTp
  obtain ⟨fou, hou, hO6, hOv⟩ := id hOu
  have kk0 : z_K (fun y => y = 20) h h := z_K.rf
  refine lv_aload_n hx hb d_M_addText_0 rfl (lv_at hl 0 rfl) ?_
  refine lv_iconst (v := 0) hx hb d_M_addText_1 (by decide) ?_
  refine z_putf (ty := .int) hx hb hts (z_lay i_M) t_M t_M_ok n_M hown hK hw hmo rfl 0 (by decide) (z_in k_771 rfl) (fun _ h9 => h9) rfl (by decide +kernel) rfl rfl (Nat.le_of_ble_eq_true rfl) d_M_addText_2 (fun H locs hw => ?_)
  obtain ⟨h1, hh1⟩ : ∃ x9, z_put h mo (20, 0) (.inr (11, mF ma 0 (nI T.length) siz (nI S.1) (nI (cc S)) ffl fcl (nI R.1) (nI (tbC R.2 R.1)) (nI O.length) at9 il)) = x9 := ⟨_, rfl⟩
  have hw : z_S g A s.heap h1 H locs := by rw [← hh1]; exact hw
  have f1_mo : h1 mo = some ((20, 0), .inr (11, mF ma 0 (nI T.length) siz (nI S.1) (nI (cc S)) ffl fcl (nI R.1) (nI (tbC R.2 R.1)) (nI O.length) at9 il)) := by rw [← hh1]; exact z_put_eq
  have kk1 : z_K (fun y => y = 20) h h1 := kk0.tr (by rw [← hh1]; exact z_K.put hmo (by first | decide | simp | omega))
  refine lv_aload_n hx hb d_M_addText_5 rfl (lv_at hl 0 rfl) ?_
  refine lv_iload_n hx hb d_M_addText_6 rfl (lv_at hl 3 rfl) ?_
  refine z_callV (n := 1) (As := [.int n]) (rest := []) ⟨hx, hb, hml, hown, hts⟩ (m_takes_few l g h1 f1_mo (by omega) ho) (z_in k_877 rfl) (z_in k_7 rfl) (z_in k_874 rfl) (z_in k_876 rfl) (z_in ks_25 rfl) (by decide +kernel) ⟨by first | exact Nat.le_of_ble_eq_true rfl | (dsimp only; omega) | omega, by first | exact Nat.le_of_ble_eq_true rfl | (dsimp only; omega) | omega⟩ hK hE hw hA rfl f1_mo rfl hl.1 (Nat.le_of_ble_eq_true rfl) d_M_addText_7 ⟨by first | exact Nat.le_of_ble_eq_true rfl | (dsimp only; omega) | omega, by first | exact Nat.le_of_ble_eq_true rfl | (dsimp only; omega) | omega⟩ rfl (fun r9 h9 H locs hp hw => ?_)
  obtain ⟨r8, h8⟩ := hp
  subst r8
  subst h8
  refine W.eq (g2 := F0 m 10 ls [.int 0]) rfl ?_
  refine lv_if_ne (tgt := 16) hx hb d_M_addText_10 (by decide) (fun c_10 => ?_) (fun c_10 => ?_)
  · -- 10: True
    exact absurd (by decide) c_10
  · -- 10: False
    refine lv_bipush (v := (-2)) hx hb d_M_addText_13 (by decide) ?_
    exact z_iret hx hb hr hlocks hw (by refine ⟨congrArg some (congrArg Value.int ?_), ⟨ma, _, _, _, _, _, _, f1_mo, hTp.k kk1 (by omega), hTx.k kk1 (by omega), ⟨_, _, _, hSc.k kk1 (by omega) (by omega) (by omega)⟩, hSf.k kk1 (by omega) (by omega) (by omega), ⟨_, _, _, _, _, _, hNd.k kk1 (by omega) (by omega) (by omega)⟩, hOl.k kk1 (by omega) (by omega) (by omega), hOu.k kk1 (by omega)⟩, kk1.mono (fun y z => by unfold KMr; omega)⟩; rfl) (by decide) (by decide) d_M_addText_15

set_option maxHeartbeats 4000000 in
set_option maxRecDepth 100000 in
theorem m_schema_ok (l : Launch) (g : z_G) (h : z_H) {mo : Nat} {T : List Nat} {S : Sch} {R : Rec} {O : List Nat} {i : Nat}  (hM : MAt g h mo T S R O) (hi : i ≤ T.length) (hR0 : 0 < R.1 ∧ ndFi (R.2 0) = -1 ∧ ndPa (R.2 0) = -1) (hs8 : S.1 ≤ 128) : z_C l y_M_schema prog_13_method_16_code 4 (Option.some Jvm.ClassFile.FieldType.int) 180 5500 0 0 g [.ref mo, .int (nI i)] h (fun x h1 => MPt g h x (.int (oSchema T S R (nI i)).1) h1 mo (oSchema T S R (nI i)).2.1 (oSchema T S R (nI i)).2.2.1 (oSchema T S R (nI i)).2.2.2 O) := by
  refine z_C.of (by decide) (Nat.le_of_ble_eq_true rfl) (fun pg en s m below meth cd A ls hx hb hml hr hts hown hlocks hnm hK hE hA hw hl => ?_)
  have hl : lv_has ls 4 [(0, .ref mo), (1, .int (nI i))] := hl
  obtain ⟨ma, cod, siz, ffl, fcl, at9, il, hmo, hTp, hTx, ⟨rw9, rf, lf, hSc⟩, hSf, ⟨nf, np, nr, ns, nv, tx, hNd⟩, hOl, hOu⟩ := id hM
  obtain ⟨ftp, htp, hT4, hTv⟩ := id hTp
  obtain ⟨fou, hou, hO6, hOv⟩ := id hOu
  obtain ⟨ftx, htx⟩ := id hTx
  have hrw_0 : h (rw9 0) = some ((24, 0), .inl (g.2.1 1, 128, .inl (rf 0))) := hSc.2.1 0 (by omega)
  have hrw_1 : h (rw9 1) = some ((24, 1), .inl (g.2.1 1, 128, .inl (rf 1))) := hSc.2.1 1 (by omega)
  have hrw_2 : h (rw9 2) = some ((24, 2), .inl (g.2.1 1, 128, .inl (rf 2))) := hSc.2.1 2 (by omega)
  have hrw_3 : h (rw9 3) = some ((24, 3), .inl (g.2.1 1, 128, .inl (rf 3))) := hSc.2.1 3 (by omega)
  have hrw_4 : h (rw9 4) = some ((24, 4), .inl (g.2.1 1, 128, .inl (rf 4))) := hSc.2.1 4 (by omega)
  have hrw_5 : h (rw9 5) = some ((24, 5), .inl (g.2.1 1, 128, .inl (rf 5))) := hSc.2.1 5 (by omega)
  have hN0 := hNd.2.2.2.2.2.2 0 hR0.1
  obtain ⟨X, eX⟩ : ∃ x, x = schR (tT T) i := ⟨_, rfl⟩
  have kk0 : z_K (fun y => y = 20 ∨ y = 22 ∨ y = 24 ∨ y = 26 ∨ y = 27 ∨ y = 28) h h := z_K.rf
  have sg_Fh : z_K (fun y => y = 20 ∨ y = 22) h h := z_K.rf
  refine lv_aload_n hx hb d_M_schema_0 rfl (lv_at hl 0 rfl) ?_
  refine lv_iconst (v := 0) hx hb d_M_schema_1 (by decide) ?_
  refine z_putf (ty := .int) hx hb hts (z_lay i_M) t_M t_M_ok n_M hown hK hw hmo rfl 0 (by decide) (z_in k_771 rfl) (fun _ h9 => h9) rfl (by decide +kernel) rfl rfl (Nat.le_of_ble_eq_true rfl) d_M_schema_2 (fun H locs hw => ?_)
  obtain ⟨h1, hh1⟩ : ∃ x9, z_put h mo (20, 0) (.inr (11, mF ma 0 (nI T.length) siz (nI S.1) (nI (cc S)) ffl fcl (nI R.1) (nI (tbC R.2 R.1)) (nI O.length) at9 il)) = x9 := ⟨_, rfl⟩
  have hw : z_S g A s.heap h1 H locs := by rw [← hh1]; exact hw
  have f1_mo : h1 mo = some ((20, 0), .inr (11, mF ma 0 (nI T.length) siz (nI S.1) (nI (cc S)) ffl fcl (nI R.1) (nI (tbC R.2 R.1)) (nI O.length) at9 il)) := by rw [← hh1]; exact z_put_eq
  have f1_ma_1 : h1 (ma 1) = some ((22, 0), .inl (g.2.1 1, 4000, .inl ftx)) := by rw [← hh1]; exact z_keep hmo htx (z_t1 (by decide))
  have f1_ma_0 : h1 (ma 0) = some ((21, 0), .inl (g.2.1 1, 4000, .inl ftp)) := by rw [← hh1]; exact z_keep hmo htp (z_t1 (by decide))
  have f1_ma_2 : h1 (ma 2) = some ((23, 0), .inl (g.2.1 5, 6, .inr (.inr (.inr (.inr (fun k => some (rw9 k))))))) := by rw [← hh1]; exact z_keep hmo hSc.1 (z_t1 (by decide))
  have f1_rw9_0 : h1 (rw9 0) = some ((24, 0), .inl (g.2.1 1, 128, .inl (rf 0))) := by rw [← hh1]; exact z_keep hmo hrw_0 (z_t1 (by decide))
  have f1_rw9_1 : h1 (rw9 1) = some ((24, 1), .inl (g.2.1 1, 128, .inl (rf 1))) := by rw [← hh1]; exact z_keep hmo hrw_1 (z_t1 (by decide))
  have f1_rw9_2 : h1 (rw9 2) = some ((24, 2), .inl (g.2.1 1, 128, .inl (rf 2))) := by rw [← hh1]; exact z_keep hmo hrw_2 (z_t1 (by decide))
  have f1_rw9_3 : h1 (rw9 3) = some ((24, 3), .inl (g.2.1 1, 128, .inl (rf 3))) := by rw [← hh1]; exact z_keep hmo hrw_3 (z_t1 (by decide))
  have f1_rw9_4 : h1 (rw9 4) = some ((24, 4), .inl (g.2.1 1, 128, .inl (rf 4))) := by rw [← hh1]; exact z_keep hmo hrw_4 (z_t1 (by decide))
  have f1_rw9_5 : h1 (rw9 5) = some ((24, 5), .inl (g.2.1 1, 128, .inl (rf 5))) := by rw [← hh1]; exact z_keep hmo hrw_5 (z_t1 (by decide))
  have f1_ma_4 : h1 (ma 4) = some ((27, 0), .inl (g.2.1 1, 2048, .inl lf)) := by rw [← hh1]; exact z_keep hmo hSc.2.2.1 (z_t1 (by decide))
  have kk1 : z_K (fun y => y = 20 ∨ y = 22 ∨ y = 24 ∨ y = 26 ∨ y = 27 ∨ y = 28) h h1 := kk0.tr (by rw [← hh1]; exact z_K.put hmo (by first | decide | simp | omega))
  have sg_Fh1 : z_K (fun y => y = 20 ∨ y = 22) h h1 := sg_Fh.tr (by rw [← hh1]; exact z_K.put hmo (by simp))
  refine lv_aload_n hx hb d_M_schema_5 rfl (lv_at hl 0 rfl) ?_
  refine lv_iload_n hx hb d_M_schema_6 rfl (lv_at hl 1 rfl) ?_
  refine z_callV (n := 1) (As := [.int (nI i)]) (rest := []) ⟨hx, hb, hml, hown, hts⟩ (m_takes (n := i) l g h1 f1_mo f1_ma_1 f1_ma_0 hT4 hi) (z_in k_877 rfl) (z_in k_7 rfl) (z_in k_874 rfl) (z_in k_876 rfl) (z_in ks_25 rfl) (by decide +kernel) ⟨by first | exact Nat.le_of_ble_eq_true rfl | (dsimp only; omega) | omega, by first | exact Nat.le_of_ble_eq_true rfl | (dsimp only; omega) | omega⟩ hK hE hw hA rfl f1_mo rfl hl.1 (Nat.le_of_ble_eq_true rfl) d_M_schema_7 ⟨by first | exact Nat.le_of_ble_eq_true rfl | (dsimp only; omega) | omega, by first | exact Nat.le_of_ble_eq_true rfl | (dsimp only; omega) | omega⟩ rfl (fun r9 h9 H locs hp hw => ?_)
  obtain ⟨f2, r8, m8, t8, cp8, k8⟩ := hp
  subst r8
  obtain ⟨h2, e7⟩ : ∃ x9, x9 = h9 := ⟨_, rfl⟩
  subst e7
  have g2_ma_0 : h2 (ma 0) = some ((21, 0), .inl (g.2.1 1, 4000, .inl ftp)) := k8 _ _ _ f1_ma_0 (by simp)
  have g2_ma_2 : h2 (ma 2) = some ((23, 0), .inl (g.2.1 5, 6, .inr (.inr (.inr (.inr (fun k => some (rw9 k))))))) := k8 _ _ _ f1_ma_2 (by simp)
  have g2_rw9_0 : h2 (rw9 0) = some ((24, 0), .inl (g.2.1 1, 128, .inl (rf 0))) := k8 _ _ _ f1_rw9_0 (by simp)
  have g2_rw9_1 : h2 (rw9 1) = some ((24, 1), .inl (g.2.1 1, 128, .inl (rf 1))) := k8 _ _ _ f1_rw9_1 (by simp)
  have g2_rw9_2 : h2 (rw9 2) = some ((24, 2), .inl (g.2.1 1, 128, .inl (rf 2))) := k8 _ _ _ f1_rw9_2 (by simp)
  have g2_rw9_3 : h2 (rw9 3) = some ((24, 3), .inl (g.2.1 1, 128, .inl (rf 3))) := k8 _ _ _ f1_rw9_3 (by simp)
  have g2_rw9_4 : h2 (rw9 4) = some ((24, 4), .inl (g.2.1 1, 128, .inl (rf 4))) := k8 _ _ _ f1_rw9_4 (by simp)
  have g2_rw9_5 : h2 (rw9 5) = some ((24, 5), .inl (g.2.1 1, 128, .inl (rf 5))) := k8 _ _ _ f1_rw9_5 (by simp)
  have g2_ma_4 : h2 (ma 4) = some ((27, 0), .inl (g.2.1 1, 2048, .inl lf)) := k8 _ _ _ f1_ma_4 (by simp)
  have kk2 : z_K (fun y => y = 20 ∨ y = 22 ∨ y = 24 ∨ y = 26 ∨ y = 27 ∨ y = 28) h h2 := kk1.tr (k8.mono (fun y z => by omega))
  have sg_Fh2 : z_K (fun y => y = 20 ∨ y = 22) h h2 := sg_Fh1.tr (k8.mono (fun y z => by omega))
  have hn4 : i ≤ 4000 := by omega
  have hf2 : ∀ k, k < i → tT T k < 256 ∧ f2 k = nI (tT T k) := fun k hk => ⟨(hTv k (by omega)).1, by rw [cp8 k hk]; exact (hTv k (by omega)).2⟩
  refine W.eq (g2 := F0 m 10 ls [.int 1]) rfl ?_
  refine lv_if_ne (tgt := 16) hx hb d_M_schema_10 (by decide) (fun c_10 => ?_) (fun c_10 => ?_)
  · -- 10: True
    refine lv_aload_n hx hb d_M_schema_16 rfl (lv_at hl 0 rfl) ?_
    refine lv_iconst (v := 0) hx hb d_M_schema_17 (by decide) ?_
    refine z_putf (ty := .int) hx hb hts (z_lay i_M) t_M t_M_ok n_M hown hK hw m8 rfl 11 (by decide) (z_in k_782 rfl) (fun _ h9 => h9) rfl (by decide +kernel) rfl rfl (Nat.le_of_ble_eq_true rfl) d_M_schema_18 (fun H locs hw => ?_)
    obtain ⟨h3, hh3⟩ : ∃ x9, z_put h2 mo (20, 0) (.inr (11, mF ma 0 0 (nI i) (nI S.1) (nI (cc S)) 0 fcl (nI R.1) (nI (tbC R.2 R.1)) (nI O.length) 0 (-1))) = x9 := ⟨_, rfl⟩
    have hw : z_S g A s.heap h3 H locs := by rw [← hh3]; exact hw
    have f3_mo : h3 mo = some ((20, 0), .inr (11, mF ma 0 0 (nI i) (nI S.1) (nI (cc S)) 0 fcl (nI R.1) (nI (tbC R.2 R.1)) (nI O.length) 0 (-1))) := by rw [← hh3]; exact z_put_eq
    have f3_ma_1 : h3 (ma 1) = some ((22, 0), .inl (g.2.1 1, 4000, .inl f2)) := by rw [← hh3]; exact z_keep m8 t8 (z_t1 (by decide))
    have f3_ma_0 : h3 (ma 0) = some ((21, 0), .inl (g.2.1 1, 4000, .inl ftp)) := by rw [← hh3]; exact z_keep m8 g2_ma_0 (z_t1 (by decide))
    have f3_ma_2 : h3 (ma 2) = some ((23, 0), .inl (g.2.1 5, 6, .inr (.inr (.inr (.inr (fun k => some (rw9 k))))))) := by rw [← hh3]; exact z_keep m8 g2_ma_2 (z_t1 (by decide))
    have f3_rw9_0 : h3 (rw9 0) = some ((24, 0), .inl (g.2.1 1, 128, .inl (rf 0))) := by rw [← hh3]; exact z_keep m8 g2_rw9_0 (z_t1 (by decide))
    have f3_rw9_1 : h3 (rw9 1) = some ((24, 1), .inl (g.2.1 1, 128, .inl (rf 1))) := by rw [← hh3]; exact z_keep m8 g2_rw9_1 (z_t1 (by decide))
    have f3_rw9_2 : h3 (rw9 2) = some ((24, 2), .inl (g.2.1 1, 128, .inl (rf 2))) := by rw [← hh3]; exact z_keep m8 g2_rw9_2 (z_t1 (by decide))
    have f3_rw9_3 : h3 (rw9 3) = some ((24, 3), .inl (g.2.1 1, 128, .inl (rf 3))) := by rw [← hh3]; exact z_keep m8 g2_rw9_3 (z_t1 (by decide))
    have f3_rw9_4 : h3 (rw9 4) = some ((24, 4), .inl (g.2.1 1, 128, .inl (rf 4))) := by rw [← hh3]; exact z_keep m8 g2_rw9_4 (z_t1 (by decide))
    have f3_rw9_5 : h3 (rw9 5) = some ((24, 5), .inl (g.2.1 1, 128, .inl (rf 5))) := by rw [← hh3]; exact z_keep m8 g2_rw9_5 (z_t1 (by decide))
    have f3_ma_4 : h3 (ma 4) = some ((27, 0), .inl (g.2.1 1, 2048, .inl lf)) := by rw [← hh3]; exact z_keep m8 g2_ma_4 (z_t1 (by decide))
    have kk3 : z_K (fun y => y = 20 ∨ y = 22 ∨ y = 24 ∨ y = 26 ∨ y = 27 ∨ y = 28) h h3 := kk2.tr (by rw [← hh3]; exact z_K.put m8 (by first | decide | simp | omega))
    have sg_Fh3 : z_K (fun y => y = 20 ∨ y = 22) h h3 := sg_Fh2.tr (by rw [← hh3]; exact z_K.put m8 (by simp))
    refine lv_aload_n hx hb d_M_schema_21 rfl (lv_at hl 0 rfl) ?_
    refine lv_iconst (v := 0) hx hb d_M_schema_22 (by decide) ?_
    refine z_putf (ty := .int) hx hb hts (z_lay i_M) t_M t_M_ok n_M hown hK hw f3_mo rfl 12 (by decide) (z_in k_783 rfl) (fun _ h9 => h9) rfl (by decide +kernel) rfl rfl (Nat.le_of_ble_eq_true rfl) d_M_schema_23 (fun H locs hw => ?_)
    obtain ⟨h4, hh4⟩ : ∃ x9, z_put h3 mo (20, 0) (.inr (11, mF ma 0 0 (nI i) (nI S.1) (nI (cc S)) 0 0 (nI R.1) (nI (tbC R.2 R.1)) (nI O.length) 0 (-1))) = x9 := ⟨_, rfl⟩
    have hw : z_S g A s.heap h4 H locs := by rw [← hh4]; exact hw
    have f4_mo : h4 mo = some ((20, 0), .inr (11, mF ma 0 0 (nI i) (nI S.1) (nI (cc S)) 0 0 (nI R.1) (nI (tbC R.2 R.1)) (nI O.length) 0 (-1))) := by rw [← hh4]; exact z_put_eq
    have f4_ma_1 : h4 (ma 1) = some ((22, 0), .inl (g.2.1 1, 4000, .inl f2)) := by rw [← hh4]; exact z_keep f3_mo f3_ma_1 (z_t1 (by decide))
    have f4_ma_0 : h4 (ma 0) = some ((21, 0), .inl (g.2.1 1, 4000, .inl ftp)) := by rw [← hh4]; exact z_keep f3_mo f3_ma_0 (z_t1 (by decide))
    have f4_ma_2 : h4 (ma 2) = some ((23, 0), .inl (g.2.1 5, 6, .inr (.inr (.inr (.inr (fun k => some (rw9 k))))))) := by rw [← hh4]; exact z_keep f3_mo f3_ma_2 (z_t1 (by decide))
    have f4_rw9_0 : h4 (rw9 0) = some ((24, 0), .inl (g.2.1 1, 128, .inl (rf 0))) := by rw [← hh4]; exact z_keep f3_mo f3_rw9_0 (z_t1 (by decide))
    have f4_rw9_1 : h4 (rw9 1) = some ((24, 1), .inl (g.2.1 1, 128, .inl (rf 1))) := by rw [← hh4]; exact z_keep f3_mo f3_rw9_1 (z_t1 (by decide))
    have f4_rw9_2 : h4 (rw9 2) = some ((24, 2), .inl (g.2.1 1, 128, .inl (rf 2))) := by rw [← hh4]; exact z_keep f3_mo f3_rw9_2 (z_t1 (by decide))
    have f4_rw9_3 : h4 (rw9 3) = some ((24, 3), .inl (g.2.1 1, 128, .inl (rf 3))) := by rw [← hh4]; exact z_keep f3_mo f3_rw9_3 (z_t1 (by decide))
    have f4_rw9_4 : h4 (rw9 4) = some ((24, 4), .inl (g.2.1 1, 128, .inl (rf 4))) := by rw [← hh4]; exact z_keep f3_mo f3_rw9_4 (z_t1 (by decide))
    have f4_rw9_5 : h4 (rw9 5) = some ((24, 5), .inl (g.2.1 1, 128, .inl (rf 5))) := by rw [← hh4]; exact z_keep f3_mo f3_rw9_5 (z_t1 (by decide))
    have f4_ma_4 : h4 (ma 4) = some ((27, 0), .inl (g.2.1 1, 2048, .inl lf)) := by rw [← hh4]; exact z_keep f3_mo f3_ma_4 (z_t1 (by decide))
    have kk4 : z_K (fun y => y = 20 ∨ y = 22 ∨ y = 24 ∨ y = 26 ∨ y = 27 ∨ y = 28) h h4 := kk3.tr (by rw [← hh4]; exact z_K.put f3_mo (by first | decide | simp | omega))
    have sg_Fh4 : z_K (fun y => y = 20 ∨ y = 22) h h4 := sg_Fh3.tr (by rw [← hh4]; exact z_K.put f3_mo (by simp))
    have loop_26 : ∀ (fuel : Nat) (c : Nat) (p3 : Nat) (S3 : Sch) (hL : z_H) (H : Heap) (locs : List Loc) (ls : Array Slot) (L26_mo : hL mo = some ((20, 0), .inr (11, mF ma 0 0 (nI i) (nI S.1) (nI (cc S)) (nI S3.1) (nI (cc S3)) (nI R.1) (nI (tbC R.2 R.1)) (nI O.length) (nI p3) (-1)))) (L26_ma_1 : hL (ma 1) = some ((22, 0), .inl (g.2.1 1, 4000, .inl f2))) (L26_ma_0 : hL (ma 0) = some ((21, 0), .inl (g.2.1 1, 4000, .inl ftp))) (L26_ma_2 : hL (ma 2) = some ((23, 0), .inl (g.2.1 5, 6, .inr (.inr (.inr (.inr (fun k => some (rw9 k)))))))) (L26_rw9_0 : hL (rw9 0) = some ((24, 0), .inl (g.2.1 1, 128, .inl (rf 0)))) (L26_rw9_1 : hL (rw9 1) = some ((24, 1), .inl (g.2.1 1, 128, .inl (rf 1)))) (L26_rw9_2 : hL (rw9 2) = some ((24, 2), .inl (g.2.1 1, 128, .inl (rf 2)))) (L26_rw9_3 : hL (rw9 3) = some ((24, 3), .inl (g.2.1 1, 128, .inl (rf 3)))) (L26_rw9_4 : hL (rw9 4) = some ((24, 4), .inl (g.2.1 1, 128, .inl (rf 4)))) (L26_rw9_5 : hL (rw9 5) = some ((24, 5), .inl (g.2.1 1, 128, .inl (rf 5)))) (L26_ma_4 : hL (ma 4) = some ((27, 0), .inl (g.2.1 1, 2048, .inl lf))) (hle3 : p3 ≤ i) (kk3 : z_K (fun y => y = 20 ∨ y = 22 ∨ y = 24 ∨ y = 26 ∨ y = 27 ∨ y = 28) h hL) (hSc3 : MSc g hL (ma 3) (ma 5) 25 28 S3) (hB3 : scB S3) (hc3 : 128 ≤ c + S3.1) (hX3 : X = topC (fun p S => fldD (tT T) i 17 0 p S (-1)) (tT T) i c p3 S3), c < fuel → z_S g A s.heap hL H locs → lv_has ls 4 [(0, .ref mo), (1, .int (nI i))] → W pg l en { frames := 180, cells := 0, slots := 0, locals := 5500 } s m [.ref mo, .int (nI i)].toArray below meth cd H locs 0 0 (MQ below (z_Q g A (fun x h1 => MPt g h x (.int (oSchema T S R (nI i)).1) h1 mo (oSchema T S R (nI i)).2.1 (oSchema T S R (nI i)).2.2.1 (oSchema T S R (nI i)).2.2.2 O)) [.ref mo, .int (nI i)].toArray s 0 0 A) (F0 m 26 ls []) := by
      intro fuel
      induction fuel with
      | zero => intro c p3 S3 hL H locs ls L26_mo L26_ma_1 L26_ma_0 L26_ma_2 L26_rw9_0 L26_rw9_1 L26_rw9_2 L26_rw9_3 L26_rw9_4 L26_rw9_5 L26_ma_4 hle3 kk3 hSc3 hB3 hc3 hX3 hm; exact absurd hm (Nat.not_lt_zero _)
      | succ fuel ih_26 =>
        intro c p3 S3 hL H locs ls L26_mo L26_ma_1 L26_ma_0 L26_ma_2 L26_rw9_0 L26_rw9_1 L26_rw9_2 L26_rw9_3 L26_rw9_4 L26_rw9_5 L26_ma_4 hle3 kk3 hSc3 hB3 hc3 hX3 hm hw hl
        refine lv_aload_n hx hb d_M_schema_26 rfl (lv_at hl 0 rfl) ?_
        refine lv_iconst (v := (-1)) hx hb d_M_schema_27 (by decide) ?_
        refine lv_iconst (v := 0) hx hb d_M_schema_28 (by decide) ?_
        refine z_callV (n := 2) (As := [.int (-1), .int 0]) (rest := []) ⟨hx, hb, hml, hown, hts⟩ (m_readField (t := tT T) l g hn4 hf2 16 0 (by omega) hL p3 S3 (-1) (-1) L26_mo L26_ma_1 hSc3 hB3 hle3) (z_in k_881 rfl) (z_in k_7 rfl) (z_in k_878 rfl) (z_in k_880 rfl) (z_in ks_26 rfl) (by decide +kernel) ⟨by first | exact Nat.le_of_ble_eq_true rfl | (dsimp only; omega) | omega, by first | exact Nat.le_of_ble_eq_true rfl | (dsimp only; omega) | omega⟩ hK hE hw hA rfl L26_mo rfl hl.1 (Nat.le_of_ble_eq_true rfl) d_M_schema_29 ⟨by first | exact Nat.le_of_ble_eq_true rfl | (dsimp only; omega) | omega, by first | exact Nat.le_of_ble_eq_true rfl | (dsimp only; omega) | omega⟩ rfl (fun r9 h9 H locs hp hw => ?_)
        obtain ⟨r8, kk8, p4, S4, m4, le4, sc4, b4, im4⟩ := hp
        subst r8
        obtain ⟨h5, e7⟩ : ∃ x9, x9 = h9 := ⟨_, rfl⟩
        subst e7
        have g5_ma_1 : h5 (ma 1) = some ((22, 0), .inl (g.2.1 1, 4000, .inl f2)) := kk8 _ _ _ L26_ma_1 (by simp)
        have g5_ma_0 : h5 (ma 0) = some ((21, 0), .inl (g.2.1 1, 4000, .inl ftp)) := kk8 _ _ _ L26_ma_0 (by simp)
        have g5_ma_2 : h5 (ma 2) = some ((23, 0), .inl (g.2.1 5, 6, .inr (.inr (.inr (.inr (fun k => some (rw9 k))))))) := kk8 _ _ _ L26_ma_2 (by simp)
        have g5_rw9_0 : h5 (rw9 0) = some ((24, 0), .inl (g.2.1 1, 128, .inl (rf 0))) := kk8 _ _ _ L26_rw9_0 (by simp)
        have g5_rw9_1 : h5 (rw9 1) = some ((24, 1), .inl (g.2.1 1, 128, .inl (rf 1))) := kk8 _ _ _ L26_rw9_1 (by simp)
        have g5_rw9_2 : h5 (rw9 2) = some ((24, 2), .inl (g.2.1 1, 128, .inl (rf 2))) := kk8 _ _ _ L26_rw9_2 (by simp)
        have g5_rw9_3 : h5 (rw9 3) = some ((24, 3), .inl (g.2.1 1, 128, .inl (rf 3))) := kk8 _ _ _ L26_rw9_3 (by simp)
        have g5_rw9_4 : h5 (rw9 4) = some ((24, 4), .inl (g.2.1 1, 128, .inl (rf 4))) := kk8 _ _ _ L26_rw9_4 (by simp)
        have g5_rw9_5 : h5 (rw9 5) = some ((24, 5), .inl (g.2.1 1, 128, .inl (rf 5))) := kk8 _ _ _ L26_rw9_5 (by simp)
        have g5_ma_4 : h5 (ma 4) = some ((27, 0), .inl (g.2.1 1, 2048, .inl lf)) := kk8 _ _ _ L26_ma_4 (by simp)
        have kk5 : z_K (fun y => y = 20 ∨ y = 22 ∨ y = 24 ∨ y = 26 ∨ y = 27 ∨ y = 28) h h5 := kk3.tr (kk8.mono (fun y z => by omega))
        refine W.eq (g2 := F0 m 32 ls []) rfl ?_
        refine lv_aload_n hx hb d_M_schema_32 rfl (lv_at hl 0 rfl) ?_
        refine z_callV (n := 0) (As := []) (rest := []) ⟨hx, hb, hml, hown, hts⟩ (m_blanks (t := tT T) (n := i) l g h5 m4 g5_ma_1 hn4 hf2 (by omega)) (z_in k_885 rfl) (z_in k_7 rfl) (z_in k_882 rfl) (z_in k_884 rfl) (z_in ks_27 rfl) (by decide +kernel) ⟨by first | exact Nat.le_of_ble_eq_true rfl | (dsimp only; omega) | omega, by first | exact Nat.le_of_ble_eq_true rfl | (dsimp only; omega) | omega⟩ hK hE hw hA rfl m4 rfl hl.1 (Nat.le_of_ble_eq_true rfl) d_M_schema_33 ⟨by first | exact Nat.le_of_ble_eq_true rfl | (dsimp only; omega) | omega, by first | exact Nat.le_of_ble_eq_true rfl | (dsimp only; omega) | omega⟩ rfl (fun r9 h9 H locs hp hw => ?_)
        have sq6 := sk_le (t := tT T) (n := i) (p := p4) (by omega)
        have sr6 := sk_ge (tT T) i p4
        obtain ⟨r8, hh7⟩ := hp
        subst r8
        obtain ⟨h7, e8⟩ : ∃ x9, x9 = h9 := ⟨_, rfl⟩
        subst e8
        have f7_mo : h7 mo = some ((20, 0), .inr (11, mF ma 0 0 (nI i) (nI S.1) (nI (cc S)) (nI S4.1) (nI (cc S4)) (nI R.1) (nI (tbC R.2 R.1)) (nI O.length) (nI (sk (tT T) i p4)) (resI (-1) (fldD (tT T) i 17 0 p3 S3 (-1))))) := by rw [← hh7]; exact z_put_eq
        have f7_ma_1 : h7 (ma 1) = some ((22, 0), .inl (g.2.1 1, 4000, .inl f2)) := by rw [← hh7]; exact z_keep m4 g5_ma_1 (z_t1 (by decide))
        have f7_ma_0 : h7 (ma 0) = some ((21, 0), .inl (g.2.1 1, 4000, .inl ftp)) := by rw [← hh7]; exact z_keep m4 g5_ma_0 (z_t1 (by decide))
        have f7_ma_2 : h7 (ma 2) = some ((23, 0), .inl (g.2.1 5, 6, .inr (.inr (.inr (.inr (fun k => some (rw9 k))))))) := by rw [← hh7]; exact z_keep m4 g5_ma_2 (z_t1 (by decide))
        have f7_rw9_0 : h7 (rw9 0) = some ((24, 0), .inl (g.2.1 1, 128, .inl (rf 0))) := by rw [← hh7]; exact z_keep m4 g5_rw9_0 (z_t1 (by decide))
        have f7_rw9_1 : h7 (rw9 1) = some ((24, 1), .inl (g.2.1 1, 128, .inl (rf 1))) := by rw [← hh7]; exact z_keep m4 g5_rw9_1 (z_t1 (by decide))
        have f7_rw9_2 : h7 (rw9 2) = some ((24, 2), .inl (g.2.1 1, 128, .inl (rf 2))) := by rw [← hh7]; exact z_keep m4 g5_rw9_2 (z_t1 (by decide))
        have f7_rw9_3 : h7 (rw9 3) = some ((24, 3), .inl (g.2.1 1, 128, .inl (rf 3))) := by rw [← hh7]; exact z_keep m4 g5_rw9_3 (z_t1 (by decide))
        have f7_rw9_4 : h7 (rw9 4) = some ((24, 4), .inl (g.2.1 1, 128, .inl (rf 4))) := by rw [← hh7]; exact z_keep m4 g5_rw9_4 (z_t1 (by decide))
        have f7_rw9_5 : h7 (rw9 5) = some ((24, 5), .inl (g.2.1 1, 128, .inl (rf 5))) := by rw [← hh7]; exact z_keep m4 g5_rw9_5 (z_t1 (by decide))
        have f7_ma_4 : h7 (ma 4) = some ((27, 0), .inl (g.2.1 1, 2048, .inl lf)) := by rw [← hh7]; exact z_keep m4 g5_ma_4 (z_t1 (by decide))
        have kk7 : z_K (fun y => y = 20 ∨ y = 22 ∨ y = 24 ∨ y = 26 ∨ y = 27 ∨ y = 28) h h7 := kk5.tr (by rw [← hh7]; exact z_K.put m4 (by first | decide | simp | omega))
        have kS6 : z_K (fun y => y = 20) h5 h7 := by rw [← hh7]; exact z_K.put m4 rfl
        refine W.eq (g2 := F0 m 36 ls []) rfl ?_
        refine lv_aload_n hx hb d_M_schema_36 rfl (lv_at hl 0 rfl) ?_
        refine z_get hx hb hts (z_lay i_M) hown hK hw f7_mo rfl 30 (by decide) (z_in k_801 rfl) (fun _ h9 => h9) rfl d_M_schema_37 ?_
        refine lv_iconst (v := (-1)) hx hb d_M_schema_40 (by decide) ?_
        refine lv_icmp_ne (tgt := 55) hx hb d_M_schema_41 (by decide) (fun c_41 => ?_) (fun c_41 => ?_)
        · -- 41: True
          refine lv_aload_n hx hb d_M_schema_55 rfl (lv_at hl 0 rfl) ?_
          refine z_get hx hb hts (z_lay i_M) hown hK hw f7_mo rfl 30 (by decide) (z_in k_801 rfl) (fun _ h9 => h9) rfl d_M_schema_56 ?_
          refine lv_iconst (v := (-1)) hx hb d_M_schema_59 (by decide) ?_
          refine lv_icmp_eq (tgt := 68) hx hb d_M_schema_60 (by decide) (fun c_60 => ?_) (fun c_60 => ?_)
          · -- 60: True
            exact absurd c_60 c_41
          · -- 60: False
            have eFn : ∃ F, fldD (tT T) i 17 0 p3 S3 (-1) = .inl F := resI_inl c_41
            obtain ⟨F9, eF9⟩ := eFn
            have eXf : X = .inl F9 := by rw [hX3]; exact topC_no eF9
            have eW : oSchema T S R (nI i) = (nI F9.1, [], S, R) := by unfold oSchema; rw [if_neg (not_few hi hT4), nI_clamp (by omega), ← eX, eXf]
            refine lv_aload_n hx hb d_M_schema_63 rfl (lv_at hl 0 rfl) ?_
            refine z_get hx hb hts (z_lay i_M) hown hK hw f7_mo rfl 30 (by decide) (z_in k_801 rfl) (fun _ h9 => h9) rfl d_M_schema_64 ?_
            exact z_iret hx hb hr hlocks hw (by refine ⟨by rw [eW, eF9]; rfl, ?_, kk7.mono (fun y z => by unfold KMr; omega)⟩; rw [eW]; exact ⟨ma, _, _, _, _, _, _, f7_mo, ⟨ftp, f7_ma_0, Nat.zero_le _, fun k hk => absurd hk (Nat.not_lt_zero _)⟩, ⟨_, f7_ma_1⟩, ⟨_, _, _, MSp.six (h := h) (S := S) (rf := rf) (lf := lf) f7_ma_2 f7_rw9_0 f7_rw9_1 f7_rw9_2 f7_rw9_3 f7_rw9_4 f7_rw9_5 f7_ma_4 hSc.2.2.2⟩, (sc4.k kS6 (by omega) (by omega) (by omega)).any, ⟨_, _, _, _, _, _, hNd.k kk7 (by omega) (by omega) (by omega)⟩, hOl.k kk7 (by omega) (by omega) (by omega), hOu.k kk7 (by omega)⟩) (by decide) (by decide) d_M_schema_67
        · -- 41: False
          have e4 : resI (-1) (fldD (tT T) i 17 0 p3 S3 (-1)) = -1 := by simpa using c_41
          obtain ⟨eF4, lt4⟩ := im4 e4
          obtain ⟨c5, ec5⟩ : ∃ c5, c = c5 + 1 := ⟨c - 1, by have := b4.1; omega⟩
          have eX8 : X = if bt (tT T) i (sk (tT T) i p4) = -1 then .inr (sk (tT T) i p4, S4) else topC (fun p S => fldD (tT T) i 17 0 p S (-1)) (tT T) i c5 (sk (tT T) i p4) S4 := by rw [hX3, topC_ok (P := (p4, S4)) eF4, ec5]; exact topL_step _ _ _ _ _ _
          have fi8 : h7 mo = some ((20, 0), .inr (11, mF ma 0 0 (nI i) (nI S.1) (nI (cc S)) (nI S4.1) (nI (cc S4)) (nI R.1) (nI (tbC R.2 R.1)) (nI O.length) (nI (sk (tT T) i p4)) (-1))) := by have z9 := f7_mo; rw [e4] at z9; exact z9
          refine lv_aload_n hx hb d_M_schema_44 rfl (lv_at hl 0 rfl) ?_
          refine z_get hx hb hts (z_lay i_M) hown hK hw fi8 rfl 29 (by decide) (z_in k_800 rfl) (fun _ h9 => h9) rfl d_M_schema_45 ?_
          refine lv_aload_n hx hb d_M_schema_48 rfl (lv_at hl 0 rfl) ?_
          refine z_get hx hb hts (z_lay i_M) hown hK hw fi8 rfl 4 (by decide) (z_in k_775 rfl) (fun _ h9 => h9) rfl d_M_schema_49 ?_
          refine lv_icmp_lt (tgt := 26) hx hb d_M_schema_52 (by decide) (fun c_52 => ?_) (fun c_52 => ?_)
          · -- 52: True
            have c_52 : (sk (tT T) i p4) < i := (nI_ltI (a := sk (tT T) i p4) (b := i) (by omega) (by omega)).mp c_52
            refine ih_26 c5 (sk (tT T) i p4) S4 h7 _ _ _ fi8 f7_ma_1 f7_ma_0 f7_ma_2 f7_rw9_0 f7_rw9_1 f7_rw9_2 f7_rw9_3 f7_rw9_4 f7_rw9_5 f7_ma_4 (by omega) kk7 (sc4.k kS6 (by omega) (by omega) (by omega)) b4 (by omega) (by rw [eX8, if_neg (fun z => absurd ((bt_end (fun k hk => (hf2 k hk).1)).mp z) (by omega))]) ?_ hw (lv_sub hl [0, 1] rfl)
            omega
          · -- 52: False
            have c_52 : ¬ ((sk (tT T) i p4) < i) := fun z => c_52 ((nI_ltI (a := sk (tT T) i p4) (b := i) (by omega) (by omega)).mpr z)
            refine lv_aload_n hx hb d_M_schema_55 rfl (lv_at hl 0 rfl) ?_
            refine z_get hx hb hts (z_lay i_M) hown hK hw fi8 rfl 30 (by decide) (z_in k_801 rfl) (fun _ h9 => h9) rfl d_M_schema_56 ?_
            refine lv_iconst (v := (-1)) hx hb d_M_schema_59 (by decide) ?_
            refine lv_icmp_eq (tgt := 68) hx hb d_M_schema_60 (by decide) (fun c_60 => ?_) (fun c_60 => ?_)
            · -- 60: True
              have eXk : X = .inr (sk (tT T) i p4, S4) := by rw [eX8, if_pos ((bt_end (fun k hk => (hf2 k hk).1)).mpr (by omega))]
              have eW : oSchema T S R (nI i) = (-1, [], S4, rec0) := by unfold oSchema; rw [if_neg (not_few hi hT4), nI_clamp (by omega), ← eX, eXk]
              obtain ⟨fw, rg, lg9, hSg⟩ : MSc g h7 (ma 3) (ma 5) 25 28 S4 := sc4.k kS6 (by omega) (by omega) (by omega)
              have hs4 := b4.1
              have hgw_0 : h7 (fw 0) = some ((26, 0), .inl (g.2.1 1, 128, .inl (rg 0))) := hSg.2.1 0 (by omega)
              have hgw_1 : h7 (fw 1) = some ((26, 1), .inl (g.2.1 1, 128, .inl (rg 1))) := hSg.2.1 1 (by omega)
              have hgw_2 : h7 (fw 2) = some ((26, 2), .inl (g.2.1 1, 128, .inl (rg 2))) := hSg.2.1 2 (by omega)
              have hgw_3 : h7 (fw 3) = some ((26, 3), .inl (g.2.1 1, 128, .inl (rg 3))) := hSg.2.1 3 (by omega)
              have hgw_4 : h7 (fw 4) = some ((26, 4), .inl (g.2.1 1, 128, .inl (rg 4))) := hSg.2.1 4 (by omega)
              have hgw_5 : h7 (fw 5) = some ((26, 5), .inl (g.2.1 1, 128, .inl (rg 5))) := hSg.2.1 5 (by omega)
              refine lv_aload_n hx hb d_M_schema_68 rfl (lv_at hl 0 rfl) ?_
              refine lv_aload_n hx hb d_M_schema_69 rfl (lv_at hl 0 rfl) ?_
              refine z_get hx hb hts (z_lay i_M) hown hK hw fi8 rfl 11 (by decide) (z_in k_782 rfl) (fun _ h9 => h9) rfl d_M_schema_70 ?_
              refine z_putf (ty := .int) hx hb hts (z_lay i_M) t_M t_M_ok n_M hown hK hw fi8 rfl 9 (by decide) (z_in k_780 rfl) (fun _ h9 => h9) rfl (by decide +kernel) rfl rfl (Nat.le_of_ble_eq_true rfl) d_M_schema_73 (fun H locs hw => ?_)
              obtain ⟨h9, hh9⟩ : ∃ x9, z_put h7 mo (20, 0) (.inr (11, mF ma 0 0 (nI i) (nI S4.1) (nI (cc S)) (nI S4.1) (nI (cc S4)) (nI R.1) (nI (tbC R.2 R.1)) (nI O.length) (nI (sk (tT T) i p4)) (-1))) = x9 := ⟨_, rfl⟩
              have hw : z_S g A s.heap h9 H locs := by rw [← hh9]; exact hw
              have f9_mo : h9 mo = some ((20, 0), .inr (11, mF ma 0 0 (nI i) (nI S4.1) (nI (cc S)) (nI S4.1) (nI (cc S4)) (nI R.1) (nI (tbC R.2 R.1)) (nI O.length) (nI (sk (tT T) i p4)) (-1))) := by rw [← hh9]; exact z_put_eq
              have f9_ma_1 : h9 (ma 1) = some ((22, 0), .inl (g.2.1 1, 4000, .inl f2)) := by rw [← hh9]; exact z_keep fi8 f7_ma_1 (z_t1 (by decide))
              have f9_ma_0 : h9 (ma 0) = some ((21, 0), .inl (g.2.1 1, 4000, .inl ftp)) := by rw [← hh9]; exact z_keep fi8 f7_ma_0 (z_t1 (by decide))
              have f9_ma_2 : h9 (ma 2) = some ((23, 0), .inl (g.2.1 5, 6, .inr (.inr (.inr (.inr (fun k => some (rw9 k))))))) := by rw [← hh9]; exact z_keep fi8 f7_ma_2 (z_t1 (by decide))
              have f9_rw9_0 : h9 (rw9 0) = some ((24, 0), .inl (g.2.1 1, 128, .inl (rf 0))) := by rw [← hh9]; exact z_keep fi8 f7_rw9_0 (z_t1 (by decide))
              have f9_rw9_1 : h9 (rw9 1) = some ((24, 1), .inl (g.2.1 1, 128, .inl (rf 1))) := by rw [← hh9]; exact z_keep fi8 f7_rw9_1 (z_t1 (by decide))
              have f9_rw9_2 : h9 (rw9 2) = some ((24, 2), .inl (g.2.1 1, 128, .inl (rf 2))) := by rw [← hh9]; exact z_keep fi8 f7_rw9_2 (z_t1 (by decide))
              have f9_rw9_3 : h9 (rw9 3) = some ((24, 3), .inl (g.2.1 1, 128, .inl (rf 3))) := by rw [← hh9]; exact z_keep fi8 f7_rw9_3 (z_t1 (by decide))
              have f9_rw9_4 : h9 (rw9 4) = some ((24, 4), .inl (g.2.1 1, 128, .inl (rf 4))) := by rw [← hh9]; exact z_keep fi8 f7_rw9_4 (z_t1 (by decide))
              have f9_rw9_5 : h9 (rw9 5) = some ((24, 5), .inl (g.2.1 1, 128, .inl (rf 5))) := by rw [← hh9]; exact z_keep fi8 f7_rw9_5 (z_t1 (by decide))
              have f9_ma_4 : h9 (ma 4) = some ((27, 0), .inl (g.2.1 1, 2048, .inl lf)) := by rw [← hh9]; exact z_keep fi8 f7_ma_4 (z_t1 (by decide))
              have f9_fw_0 : h9 (fw 0) = some ((26, 0), .inl (g.2.1 1, 128, .inl (rg 0))) := by rw [← hh9]; exact z_keep fi8 hgw_0 (z_t1 (by decide))
              have f9_fw_1 : h9 (fw 1) = some ((26, 1), .inl (g.2.1 1, 128, .inl (rg 1))) := by rw [← hh9]; exact z_keep fi8 hgw_1 (z_t1 (by decide))
              have f9_fw_2 : h9 (fw 2) = some ((26, 2), .inl (g.2.1 1, 128, .inl (rg 2))) := by rw [← hh9]; exact z_keep fi8 hgw_2 (z_t1 (by decide))
              have f9_fw_3 : h9 (fw 3) = some ((26, 3), .inl (g.2.1 1, 128, .inl (rg 3))) := by rw [← hh9]; exact z_keep fi8 hgw_3 (z_t1 (by decide))
              have f9_fw_4 : h9 (fw 4) = some ((26, 4), .inl (g.2.1 1, 128, .inl (rg 4))) := by rw [← hh9]; exact z_keep fi8 hgw_4 (z_t1 (by decide))
              have f9_fw_5 : h9 (fw 5) = some ((26, 5), .inl (g.2.1 1, 128, .inl (rg 5))) := by rw [← hh9]; exact z_keep fi8 hgw_5 (z_t1 (by decide))
              have f9_ma_3 : h9 (ma 3) = some ((25, 0), .inl (g.2.1 5, 6, .inr (.inr (.inr (.inr (fun k => some (fw k))))))) := by rw [← hh9]; exact z_keep fi8 hSg.1 (z_t1 (by decide))
              have f9_ma_5 : h9 (ma 5) = some ((28, 0), .inl (g.2.1 1, 2048, .inl lg9)) := by rw [← hh9]; exact z_keep fi8 hSg.2.2.1 (z_t1 (by decide))
              have kk9 : z_K (fun y => y = 20 ∨ y = 22 ∨ y = 24 ∨ y = 26 ∨ y = 27 ∨ y = 28) h h9 := kk7.tr (by rw [← hh9]; exact z_K.put fi8 (by first | decide | simp | omega))
              refine lv_aload_n hx hb d_M_schema_76 rfl (lv_at hl 0 rfl) ?_
              refine lv_aload_n hx hb d_M_schema_77 rfl (lv_at hl 0 rfl) ?_
              refine z_get hx hb hts (z_lay i_M) hown hK hw f9_mo rfl 12 (by decide) (z_in k_783 rfl) (fun _ h9 => h9) rfl d_M_schema_78 ?_
              refine z_putf (ty := .int) hx hb hts (z_lay i_M) t_M t_M_ok n_M hown hK hw f9_mo rfl 10 (by decide) (z_in k_781 rfl) (fun _ h9 => h9) rfl (by decide +kernel) rfl rfl (Nat.le_of_ble_eq_true rfl) d_M_schema_81 (fun H locs hw => ?_)
              obtain ⟨h10, hh10⟩ : ∃ x9, z_put h9 mo (20, 0) (.inr (11, mF ma 0 0 (nI i) (nI S4.1) (nI (cc S4)) (nI S4.1) (nI (cc S4)) (nI R.1) (nI (tbC R.2 R.1)) (nI O.length) (nI (sk (tT T) i p4)) (-1))) = x9 := ⟨_, rfl⟩
              have hw : z_S g A s.heap h10 H locs := by rw [← hh10]; exact hw
              have f10_mo : h10 mo = some ((20, 0), .inr (11, mF ma 0 0 (nI i) (nI S4.1) (nI (cc S4)) (nI S4.1) (nI (cc S4)) (nI R.1) (nI (tbC R.2 R.1)) (nI O.length) (nI (sk (tT T) i p4)) (-1))) := by rw [← hh10]; exact z_put_eq
              have f10_ma_1 : h10 (ma 1) = some ((22, 0), .inl (g.2.1 1, 4000, .inl f2)) := by rw [← hh10]; exact z_keep f9_mo f9_ma_1 (z_t1 (by decide))
              have f10_ma_0 : h10 (ma 0) = some ((21, 0), .inl (g.2.1 1, 4000, .inl ftp)) := by rw [← hh10]; exact z_keep f9_mo f9_ma_0 (z_t1 (by decide))
              have f10_ma_2 : h10 (ma 2) = some ((23, 0), .inl (g.2.1 5, 6, .inr (.inr (.inr (.inr (fun k => some (rw9 k))))))) := by rw [← hh10]; exact z_keep f9_mo f9_ma_2 (z_t1 (by decide))
              have f10_rw9_0 : h10 (rw9 0) = some ((24, 0), .inl (g.2.1 1, 128, .inl (rf 0))) := by rw [← hh10]; exact z_keep f9_mo f9_rw9_0 (z_t1 (by decide))
              have f10_rw9_1 : h10 (rw9 1) = some ((24, 1), .inl (g.2.1 1, 128, .inl (rf 1))) := by rw [← hh10]; exact z_keep f9_mo f9_rw9_1 (z_t1 (by decide))
              have f10_rw9_2 : h10 (rw9 2) = some ((24, 2), .inl (g.2.1 1, 128, .inl (rf 2))) := by rw [← hh10]; exact z_keep f9_mo f9_rw9_2 (z_t1 (by decide))
              have f10_rw9_3 : h10 (rw9 3) = some ((24, 3), .inl (g.2.1 1, 128, .inl (rf 3))) := by rw [← hh10]; exact z_keep f9_mo f9_rw9_3 (z_t1 (by decide))
              have f10_rw9_4 : h10 (rw9 4) = some ((24, 4), .inl (g.2.1 1, 128, .inl (rf 4))) := by rw [← hh10]; exact z_keep f9_mo f9_rw9_4 (z_t1 (by decide))
              have f10_rw9_5 : h10 (rw9 5) = some ((24, 5), .inl (g.2.1 1, 128, .inl (rf 5))) := by rw [← hh10]; exact z_keep f9_mo f9_rw9_5 (z_t1 (by decide))
              have f10_ma_4 : h10 (ma 4) = some ((27, 0), .inl (g.2.1 1, 2048, .inl lf)) := by rw [← hh10]; exact z_keep f9_mo f9_ma_4 (z_t1 (by decide))
              have f10_fw_0 : h10 (fw 0) = some ((26, 0), .inl (g.2.1 1, 128, .inl (rg 0))) := by rw [← hh10]; exact z_keep f9_mo f9_fw_0 (z_t1 (by decide))
              have f10_fw_1 : h10 (fw 1) = some ((26, 1), .inl (g.2.1 1, 128, .inl (rg 1))) := by rw [← hh10]; exact z_keep f9_mo f9_fw_1 (z_t1 (by decide))
              have f10_fw_2 : h10 (fw 2) = some ((26, 2), .inl (g.2.1 1, 128, .inl (rg 2))) := by rw [← hh10]; exact z_keep f9_mo f9_fw_2 (z_t1 (by decide))
              have f10_fw_3 : h10 (fw 3) = some ((26, 3), .inl (g.2.1 1, 128, .inl (rg 3))) := by rw [← hh10]; exact z_keep f9_mo f9_fw_3 (z_t1 (by decide))
              have f10_fw_4 : h10 (fw 4) = some ((26, 4), .inl (g.2.1 1, 128, .inl (rg 4))) := by rw [← hh10]; exact z_keep f9_mo f9_fw_4 (z_t1 (by decide))
              have f10_fw_5 : h10 (fw 5) = some ((26, 5), .inl (g.2.1 1, 128, .inl (rg 5))) := by rw [← hh10]; exact z_keep f9_mo f9_fw_5 (z_t1 (by decide))
              have f10_ma_3 : h10 (ma 3) = some ((25, 0), .inl (g.2.1 5, 6, .inr (.inr (.inr (.inr (fun k => some (fw k))))))) := by rw [← hh10]; exact z_keep f9_mo f9_ma_3 (z_t1 (by decide))
              have f10_ma_5 : h10 (ma 5) = some ((28, 0), .inl (g.2.1 1, 2048, .inl lg9)) := by rw [← hh10]; exact z_keep f9_mo f9_ma_5 (z_t1 (by decide))
              have kk10 : z_K (fun y => y = 20 ∨ y = 22 ∨ y = 24 ∨ y = 26 ∨ y = 27 ∨ y = 28) h h10 := kk9.tr (by rw [← hh10]; exact z_K.put f9_mo (by first | decide | simp | omega))
              refine lv_iconst (v := 0) hx hb d_M_schema_84 (by decide) ?_
              refine lv_istore_n (lv' := [(2, .int 0), (0, .ref mo), (1, .int (nI i))]) hx hb d_M_schema_85 rfl hl (by decide) rfl (fun ls hl => ?_)
              refine lv_iload_n hx hb d_M_schema_86 rfl (lv_at hl 0 rfl) ?_
              refine lv_bipush (v := 6) hx hb d_M_schema_87 (by decide) ?_
              refine lv_icmp_ge (tgt := 130) hx hb d_M_schema_89 (by decide) (fun c_89 => ?_) (fun c_89 => ?_)
              · -- 89: True
                exact absurd c_89 (by decide)
              · -- 89: False
                refine lv_iconst (v := 0) hx hb d_M_schema_92 (by decide) ?_
                refine lv_istore_n (lv' := [(3, .int 0), (2, .int 0), (0, .ref mo), (1, .int (nI i))]) hx hb d_M_schema_93 rfl hl (by decide) rfl (fun ls hl => ?_)
                have loop_94 : ∀ (fuel : Nat) (f09 : Nat) (rX0 : Nat → Int32) (hW0 : z_H) (H : Heap) (locs : List Loc) (ls : Array Slot) (L94_mo : hW0 mo = some ((20, 0), .inr (11, mF ma 0 0 (nI i) (nI S4.1) (nI (cc S4)) (nI S4.1) (nI (cc S4)) (nI R.1) (nI (tbC R.2 R.1)) (nI O.length) (nI (sk (tT T) i p4)) (-1)))) (L94_ma_1 : hW0 (ma 1) = some ((22, 0), .inl (g.2.1 1, 4000, .inl f2))) (L94_ma_0 : hW0 (ma 0) = some ((21, 0), .inl (g.2.1 1, 4000, .inl ftp))) (L94_ma_2 : hW0 (ma 2) = some ((23, 0), .inl (g.2.1 5, 6, .inr (.inr (.inr (.inr (fun k => some (rw9 k)))))))) (L94_rw9_0 : hW0 (rw9 0) = some ((24, 0), .inl (g.2.1 1, 128, .inl rX0))) (L94_rw9_1 : hW0 (rw9 1) = some ((24, 1), .inl (g.2.1 1, 128, .inl (rf 1)))) (L94_rw9_2 : hW0 (rw9 2) = some ((24, 2), .inl (g.2.1 1, 128, .inl (rf 2)))) (L94_rw9_3 : hW0 (rw9 3) = some ((24, 3), .inl (g.2.1 1, 128, .inl (rf 3)))) (L94_rw9_4 : hW0 (rw9 4) = some ((24, 4), .inl (g.2.1 1, 128, .inl (rf 4)))) (L94_rw9_5 : hW0 (rw9 5) = some ((24, 5), .inl (g.2.1 1, 128, .inl (rf 5)))) (L94_ma_4 : hW0 (ma 4) = some ((27, 0), .inl (g.2.1 1, 2048, .inl lf))) (L94_fw_0 : hW0 (fw 0) = some ((26, 0), .inl (g.2.1 1, 128, .inl (rg 0)))) (L94_fw_1 : hW0 (fw 1) = some ((26, 1), .inl (g.2.1 1, 128, .inl (rg 1)))) (L94_fw_2 : hW0 (fw 2) = some ((26, 2), .inl (g.2.1 1, 128, .inl (rg 2)))) (L94_fw_3 : hW0 (fw 3) = some ((26, 3), .inl (g.2.1 1, 128, .inl (rg 3)))) (L94_fw_4 : hW0 (fw 4) = some ((26, 4), .inl (g.2.1 1, 128, .inl (rg 4)))) (L94_fw_5 : hW0 (fw 5) = some ((26, 5), .inl (g.2.1 1, 128, .inl (rg 5)))) (L94_ma_3 : hW0 (ma 3) = some ((25, 0), .inl (g.2.1 5, 6, .inr (.inr (.inr (.inr (fun k => some (fw k)))))))) (L94_ma_5 : hW0 (ma 5) = some ((28, 0), .inl (g.2.1 1, 2048, .inl lg9))) (hv0 : f09 ≤ S4.1) (hcp0 : ∀ j, j < f09 → rX0 j = rg 0 j) (kkR0 : z_K (fun y => y = 20 ∨ y = 22 ∨ y = 24 ∨ y = 26 ∨ y = 27 ∨ y = 28) h hW0), (S4.1 - f09) < fuel → z_S g A s.heap hW0 H locs → lv_has ls 4 [(0, .ref mo), (1, .int (nI i)), (2, .int 0), (3, .int (nI f09))] → W pg l en { frames := 180, cells := 0, slots := 0, locals := 5500 } s m [.ref mo, .int (nI i)].toArray below meth cd H locs 0 0 (MQ below (z_Q g A (fun x h1 => MPt g h x (.int (oSchema T S R (nI i)).1) h1 mo (oSchema T S R (nI i)).2.1 (oSchema T S R (nI i)).2.2.1 (oSchema T S R (nI i)).2.2.2 O)) [.ref mo, .int (nI i)].toArray s 0 0 A) (F0 m 94 ls []) := by
                  intro fuel
                  induction fuel with
                  | zero => intro f09 rX0 hW0 H locs ls L94_mo L94_ma_1 L94_ma_0 L94_ma_2 L94_rw9_0 L94_rw9_1 L94_rw9_2 L94_rw9_3 L94_rw9_4 L94_rw9_5 L94_ma_4 L94_fw_0 L94_fw_1 L94_fw_2 L94_fw_3 L94_fw_4 L94_fw_5 L94_ma_3 L94_ma_5 hv0 hcp0 kkR0 hm; exact absurd hm (Nat.not_lt_zero _)
                  | succ fuel ih_94 =>
                    intro f09 rX0 hW0 H locs ls L94_mo L94_ma_1 L94_ma_0 L94_ma_2 L94_rw9_0 L94_rw9_1 L94_rw9_2 L94_rw9_3 L94_rw9_4 L94_rw9_5 L94_ma_4 L94_fw_0 L94_fw_1 L94_fw_2 L94_fw_3 L94_fw_4 L94_fw_5 L94_ma_3 L94_ma_5 hv0 hcp0 kkR0 hm hw hl
                    refine lv_iload_n hx hb d_M_schema_94 rfl (lv_at hl 3 rfl) ?_
                    refine lv_aload_n hx hb d_M_schema_95 rfl (lv_at hl 0 rfl) ?_
                    refine z_get hx hb hts (z_lay i_M) hown hK hw L94_mo rfl 9 (by decide) (z_in k_780 rfl) (fun _ h9 => h9) rfl d_M_schema_96 ?_
                    refine lv_icmp_ge (tgt := 124) hx hb d_M_schema_99 (by decide) (fun c_99 => ?_) (fun c_99 => ?_)
                    · -- 99: True
                      have c_99 : S4.1 ≤ f09 := (nI_leI (a := S4.1) (b := f09) (by omega) (by omega)).mp c_99
                      refine lv_iinc (v := 1) (lv' := [(2, .int 1), (0, .ref mo), (1, .int (nI i)), (3, .int (nI f09))]) hx hb d_M_schema_124 hl (k := 2) rfl (by decide) (by decide) rfl (fun ls hl => ?_)
                      refine lv_goto (tgt := 86) hx hb d_M_schema_127 (by decide) ?_
                      refine lv_iload_n hx hb d_M_schema_86 rfl (lv_at hl 0 rfl) ?_
                      refine lv_bipush (v := 6) hx hb d_M_schema_87 (by decide) ?_
                      refine lv_icmp_ge (tgt := 130) hx hb d_M_schema_89 (by decide) (fun c_89 => ?_) (fun c_89 => ?_)
                      · -- 89: True
                        exact absurd c_89 (by decide)
                      · -- 89: False
                        refine lv_iconst (v := 0) hx hb d_M_schema_92 (by decide) ?_
                        refine lv_istore_n (lv' := [(3, .int 0), (2, .int 1), (0, .ref mo), (1, .int (nI i))]) hx hb d_M_schema_93 rfl hl (by decide) rfl (fun ls hl => ?_)
                        have loop_94 : ∀ (fuel : Nat) (f19 : Nat) (rX1 : Nat → Int32) (hW1 : z_H) (H : Heap) (locs : List Loc) (ls : Array Slot) (L94_mo : hW1 mo = some ((20, 0), .inr (11, mF ma 0 0 (nI i) (nI S4.1) (nI (cc S4)) (nI S4.1) (nI (cc S4)) (nI R.1) (nI (tbC R.2 R.1)) (nI O.length) (nI (sk (tT T) i p4)) (-1)))) (L94_ma_1 : hW1 (ma 1) = some ((22, 0), .inl (g.2.1 1, 4000, .inl f2))) (L94_ma_0 : hW1 (ma 0) = some ((21, 0), .inl (g.2.1 1, 4000, .inl ftp))) (L94_ma_2 : hW1 (ma 2) = some ((23, 0), .inl (g.2.1 5, 6, .inr (.inr (.inr (.inr (fun k => some (rw9 k)))))))) (L94_rw9_0 : hW1 (rw9 0) = some ((24, 0), .inl (g.2.1 1, 128, .inl rX0))) (L94_rw9_1 : hW1 (rw9 1) = some ((24, 1), .inl (g.2.1 1, 128, .inl rX1))) (L94_rw9_2 : hW1 (rw9 2) = some ((24, 2), .inl (g.2.1 1, 128, .inl (rf 2)))) (L94_rw9_3 : hW1 (rw9 3) = some ((24, 3), .inl (g.2.1 1, 128, .inl (rf 3)))) (L94_rw9_4 : hW1 (rw9 4) = some ((24, 4), .inl (g.2.1 1, 128, .inl (rf 4)))) (L94_rw9_5 : hW1 (rw9 5) = some ((24, 5), .inl (g.2.1 1, 128, .inl (rf 5)))) (L94_ma_4 : hW1 (ma 4) = some ((27, 0), .inl (g.2.1 1, 2048, .inl lf))) (L94_fw_0 : hW1 (fw 0) = some ((26, 0), .inl (g.2.1 1, 128, .inl (rg 0)))) (L94_fw_1 : hW1 (fw 1) = some ((26, 1), .inl (g.2.1 1, 128, .inl (rg 1)))) (L94_fw_2 : hW1 (fw 2) = some ((26, 2), .inl (g.2.1 1, 128, .inl (rg 2)))) (L94_fw_3 : hW1 (fw 3) = some ((26, 3), .inl (g.2.1 1, 128, .inl (rg 3)))) (L94_fw_4 : hW1 (fw 4) = some ((26, 4), .inl (g.2.1 1, 128, .inl (rg 4)))) (L94_fw_5 : hW1 (fw 5) = some ((26, 5), .inl (g.2.1 1, 128, .inl (rg 5)))) (L94_ma_3 : hW1 (ma 3) = some ((25, 0), .inl (g.2.1 5, 6, .inr (.inr (.inr (.inr (fun k => some (fw k)))))))) (L94_ma_5 : hW1 (ma 5) = some ((28, 0), .inl (g.2.1 1, 2048, .inl lg9))) (hv1 : f19 ≤ S4.1) (hcp1 : ∀ j, j < f19 → rX1 j = rg 1 j) (kkR1 : z_K (fun y => y = 20 ∨ y = 22 ∨ y = 24 ∨ y = 26 ∨ y = 27 ∨ y = 28) h hW1), (S4.1 - f19) < fuel → z_S g A s.heap hW1 H locs → lv_has ls 4 [(0, .ref mo), (1, .int (nI i)), (2, .int 1), (3, .int (nI f19))] → W pg l en { frames := 180, cells := 0, slots := 0, locals := 5500 } s m [.ref mo, .int (nI i)].toArray below meth cd H locs 0 0 (MQ below (z_Q g A (fun x h1 => MPt g h x (.int (oSchema T S R (nI i)).1) h1 mo (oSchema T S R (nI i)).2.1 (oSchema T S R (nI i)).2.2.1 (oSchema T S R (nI i)).2.2.2 O)) [.ref mo, .int (nI i)].toArray s 0 0 A) (F0 m 94 ls []) := by
                          intro fuel
                          induction fuel with
                          | zero => intro f19 rX1 hW1 H locs ls L94_mo L94_ma_1 L94_ma_0 L94_ma_2 L94_rw9_0 L94_rw9_1 L94_rw9_2 L94_rw9_3 L94_rw9_4 L94_rw9_5 L94_ma_4 L94_fw_0 L94_fw_1 L94_fw_2 L94_fw_3 L94_fw_4 L94_fw_5 L94_ma_3 L94_ma_5 hv1 hcp1 kkR1 hm; exact absurd hm (Nat.not_lt_zero _)
                          | succ fuel ih_94 =>
                            intro f19 rX1 hW1 H locs ls L94_mo L94_ma_1 L94_ma_0 L94_ma_2 L94_rw9_0 L94_rw9_1 L94_rw9_2 L94_rw9_3 L94_rw9_4 L94_rw9_5 L94_ma_4 L94_fw_0 L94_fw_1 L94_fw_2 L94_fw_3 L94_fw_4 L94_fw_5 L94_ma_3 L94_ma_5 hv1 hcp1 kkR1 hm hw hl
                            refine lv_iload_n hx hb d_M_schema_94 rfl (lv_at hl 3 rfl) ?_
                            refine lv_aload_n hx hb d_M_schema_95 rfl (lv_at hl 0 rfl) ?_
                            refine z_get hx hb hts (z_lay i_M) hown hK hw L94_mo rfl 9 (by decide) (z_in k_780 rfl) (fun _ h9 => h9) rfl d_M_schema_96 ?_
                            refine lv_icmp_ge (tgt := 124) hx hb d_M_schema_99 (by decide) (fun c_99 => ?_) (fun c_99 => ?_)
                            · -- 99: True
                              have c_99 : S4.1 ≤ f19 := (nI_leI (a := S4.1) (b := f19) (by omega) (by omega)).mp c_99
                              refine lv_iinc (v := 2) (lv' := [(2, .int 2), (0, .ref mo), (1, .int (nI i)), (3, .int (nI f19))]) hx hb d_M_schema_124 hl (k := 2) rfl (by decide) (by decide) rfl (fun ls hl => ?_)
                              refine lv_goto (tgt := 86) hx hb d_M_schema_127 (by decide) ?_
                              refine lv_iload_n hx hb d_M_schema_86 rfl (lv_at hl 0 rfl) ?_
                              refine lv_bipush (v := 6) hx hb d_M_schema_87 (by decide) ?_
                              refine lv_icmp_ge (tgt := 130) hx hb d_M_schema_89 (by decide) (fun c_89 => ?_) (fun c_89 => ?_)
                              · -- 89: True
                                exact absurd c_89 (by decide)
                              · -- 89: False
                                refine lv_iconst (v := 0) hx hb d_M_schema_92 (by decide) ?_
                                refine lv_istore_n (lv' := [(3, .int 0), (2, .int 2), (0, .ref mo), (1, .int (nI i))]) hx hb d_M_schema_93 rfl hl (by decide) rfl (fun ls hl => ?_)
                                have loop_94 : ∀ (fuel : Nat) (f29 : Nat) (rX2 : Nat → Int32) (hW2 : z_H) (H : Heap) (locs : List Loc) (ls : Array Slot) (L94_mo : hW2 mo = some ((20, 0), .inr (11, mF ma 0 0 (nI i) (nI S4.1) (nI (cc S4)) (nI S4.1) (nI (cc S4)) (nI R.1) (nI (tbC R.2 R.1)) (nI O.length) (nI (sk (tT T) i p4)) (-1)))) (L94_ma_1 : hW2 (ma 1) = some ((22, 0), .inl (g.2.1 1, 4000, .inl f2))) (L94_ma_0 : hW2 (ma 0) = some ((21, 0), .inl (g.2.1 1, 4000, .inl ftp))) (L94_ma_2 : hW2 (ma 2) = some ((23, 0), .inl (g.2.1 5, 6, .inr (.inr (.inr (.inr (fun k => some (rw9 k)))))))) (L94_rw9_0 : hW2 (rw9 0) = some ((24, 0), .inl (g.2.1 1, 128, .inl rX0))) (L94_rw9_1 : hW2 (rw9 1) = some ((24, 1), .inl (g.2.1 1, 128, .inl rX1))) (L94_rw9_2 : hW2 (rw9 2) = some ((24, 2), .inl (g.2.1 1, 128, .inl rX2))) (L94_rw9_3 : hW2 (rw9 3) = some ((24, 3), .inl (g.2.1 1, 128, .inl (rf 3)))) (L94_rw9_4 : hW2 (rw9 4) = some ((24, 4), .inl (g.2.1 1, 128, .inl (rf 4)))) (L94_rw9_5 : hW2 (rw9 5) = some ((24, 5), .inl (g.2.1 1, 128, .inl (rf 5)))) (L94_ma_4 : hW2 (ma 4) = some ((27, 0), .inl (g.2.1 1, 2048, .inl lf))) (L94_fw_0 : hW2 (fw 0) = some ((26, 0), .inl (g.2.1 1, 128, .inl (rg 0)))) (L94_fw_1 : hW2 (fw 1) = some ((26, 1), .inl (g.2.1 1, 128, .inl (rg 1)))) (L94_fw_2 : hW2 (fw 2) = some ((26, 2), .inl (g.2.1 1, 128, .inl (rg 2)))) (L94_fw_3 : hW2 (fw 3) = some ((26, 3), .inl (g.2.1 1, 128, .inl (rg 3)))) (L94_fw_4 : hW2 (fw 4) = some ((26, 4), .inl (g.2.1 1, 128, .inl (rg 4)))) (L94_fw_5 : hW2 (fw 5) = some ((26, 5), .inl (g.2.1 1, 128, .inl (rg 5)))) (L94_ma_3 : hW2 (ma 3) = some ((25, 0), .inl (g.2.1 5, 6, .inr (.inr (.inr (.inr (fun k => some (fw k)))))))) (L94_ma_5 : hW2 (ma 5) = some ((28, 0), .inl (g.2.1 1, 2048, .inl lg9))) (hv2 : f29 ≤ S4.1) (hcp2 : ∀ j, j < f29 → rX2 j = rg 2 j) (kkR2 : z_K (fun y => y = 20 ∨ y = 22 ∨ y = 24 ∨ y = 26 ∨ y = 27 ∨ y = 28) h hW2), (S4.1 - f29) < fuel → z_S g A s.heap hW2 H locs → lv_has ls 4 [(0, .ref mo), (1, .int (nI i)), (2, .int 2), (3, .int (nI f29))] → W pg l en { frames := 180, cells := 0, slots := 0, locals := 5500 } s m [.ref mo, .int (nI i)].toArray below meth cd H locs 0 0 (MQ below (z_Q g A (fun x h1 => MPt g h x (.int (oSchema T S R (nI i)).1) h1 mo (oSchema T S R (nI i)).2.1 (oSchema T S R (nI i)).2.2.1 (oSchema T S R (nI i)).2.2.2 O)) [.ref mo, .int (nI i)].toArray s 0 0 A) (F0 m 94 ls []) := by
                                  intro fuel
                                  induction fuel with
                                  | zero => intro f29 rX2 hW2 H locs ls L94_mo L94_ma_1 L94_ma_0 L94_ma_2 L94_rw9_0 L94_rw9_1 L94_rw9_2 L94_rw9_3 L94_rw9_4 L94_rw9_5 L94_ma_4 L94_fw_0 L94_fw_1 L94_fw_2 L94_fw_3 L94_fw_4 L94_fw_5 L94_ma_3 L94_ma_5 hv2 hcp2 kkR2 hm; exact absurd hm (Nat.not_lt_zero _)
                                  | succ fuel ih_94 =>
                                    intro f29 rX2 hW2 H locs ls L94_mo L94_ma_1 L94_ma_0 L94_ma_2 L94_rw9_0 L94_rw9_1 L94_rw9_2 L94_rw9_3 L94_rw9_4 L94_rw9_5 L94_ma_4 L94_fw_0 L94_fw_1 L94_fw_2 L94_fw_3 L94_fw_4 L94_fw_5 L94_ma_3 L94_ma_5 hv2 hcp2 kkR2 hm hw hl
                                    refine lv_iload_n hx hb d_M_schema_94 rfl (lv_at hl 3 rfl) ?_
                                    refine lv_aload_n hx hb d_M_schema_95 rfl (lv_at hl 0 rfl) ?_
                                    refine z_get hx hb hts (z_lay i_M) hown hK hw L94_mo rfl 9 (by decide) (z_in k_780 rfl) (fun _ h9 => h9) rfl d_M_schema_96 ?_
                                    refine lv_icmp_ge (tgt := 124) hx hb d_M_schema_99 (by decide) (fun c_99 => ?_) (fun c_99 => ?_)
                                    · -- 99: True
                                      have c_99 : S4.1 ≤ f29 := (nI_leI (a := S4.1) (b := f29) (by omega) (by omega)).mp c_99
                                      refine lv_iinc (v := 3) (lv' := [(2, .int 3), (0, .ref mo), (1, .int (nI i)), (3, .int (nI f29))]) hx hb d_M_schema_124 hl (k := 2) rfl (by decide) (by decide) rfl (fun ls hl => ?_)
                                      refine lv_goto (tgt := 86) hx hb d_M_schema_127 (by decide) ?_
                                      refine lv_iload_n hx hb d_M_schema_86 rfl (lv_at hl 0 rfl) ?_
                                      refine lv_bipush (v := 6) hx hb d_M_schema_87 (by decide) ?_
                                      refine lv_icmp_ge (tgt := 130) hx hb d_M_schema_89 (by decide) (fun c_89 => ?_) (fun c_89 => ?_)
                                      · -- 89: True
                                        exact absurd c_89 (by decide)
                                      · -- 89: False
                                        refine lv_iconst (v := 0) hx hb d_M_schema_92 (by decide) ?_
                                        refine lv_istore_n (lv' := [(3, .int 0), (2, .int 3), (0, .ref mo), (1, .int (nI i))]) hx hb d_M_schema_93 rfl hl (by decide) rfl (fun ls hl => ?_)
                                        have loop_94 : ∀ (fuel : Nat) (f39 : Nat) (rX3 : Nat → Int32) (hW3 : z_H) (H : Heap) (locs : List Loc) (ls : Array Slot) (L94_mo : hW3 mo = some ((20, 0), .inr (11, mF ma 0 0 (nI i) (nI S4.1) (nI (cc S4)) (nI S4.1) (nI (cc S4)) (nI R.1) (nI (tbC R.2 R.1)) (nI O.length) (nI (sk (tT T) i p4)) (-1)))) (L94_ma_1 : hW3 (ma 1) = some ((22, 0), .inl (g.2.1 1, 4000, .inl f2))) (L94_ma_0 : hW3 (ma 0) = some ((21, 0), .inl (g.2.1 1, 4000, .inl ftp))) (L94_ma_2 : hW3 (ma 2) = some ((23, 0), .inl (g.2.1 5, 6, .inr (.inr (.inr (.inr (fun k => some (rw9 k)))))))) (L94_rw9_0 : hW3 (rw9 0) = some ((24, 0), .inl (g.2.1 1, 128, .inl rX0))) (L94_rw9_1 : hW3 (rw9 1) = some ((24, 1), .inl (g.2.1 1, 128, .inl rX1))) (L94_rw9_2 : hW3 (rw9 2) = some ((24, 2), .inl (g.2.1 1, 128, .inl rX2))) (L94_rw9_3 : hW3 (rw9 3) = some ((24, 3), .inl (g.2.1 1, 128, .inl rX3))) (L94_rw9_4 : hW3 (rw9 4) = some ((24, 4), .inl (g.2.1 1, 128, .inl (rf 4)))) (L94_rw9_5 : hW3 (rw9 5) = some ((24, 5), .inl (g.2.1 1, 128, .inl (rf 5)))) (L94_ma_4 : hW3 (ma 4) = some ((27, 0), .inl (g.2.1 1, 2048, .inl lf))) (L94_fw_0 : hW3 (fw 0) = some ((26, 0), .inl (g.2.1 1, 128, .inl (rg 0)))) (L94_fw_1 : hW3 (fw 1) = some ((26, 1), .inl (g.2.1 1, 128, .inl (rg 1)))) (L94_fw_2 : hW3 (fw 2) = some ((26, 2), .inl (g.2.1 1, 128, .inl (rg 2)))) (L94_fw_3 : hW3 (fw 3) = some ((26, 3), .inl (g.2.1 1, 128, .inl (rg 3)))) (L94_fw_4 : hW3 (fw 4) = some ((26, 4), .inl (g.2.1 1, 128, .inl (rg 4)))) (L94_fw_5 : hW3 (fw 5) = some ((26, 5), .inl (g.2.1 1, 128, .inl (rg 5)))) (L94_ma_3 : hW3 (ma 3) = some ((25, 0), .inl (g.2.1 5, 6, .inr (.inr (.inr (.inr (fun k => some (fw k)))))))) (L94_ma_5 : hW3 (ma 5) = some ((28, 0), .inl (g.2.1 1, 2048, .inl lg9))) (hv3 : f39 ≤ S4.1) (hcp3 : ∀ j, j < f39 → rX3 j = rg 3 j) (kkR3 : z_K (fun y => y = 20 ∨ y = 22 ∨ y = 24 ∨ y = 26 ∨ y = 27 ∨ y = 28) h hW3), (S4.1 - f39) < fuel → z_S g A s.heap hW3 H locs → lv_has ls 4 [(0, .ref mo), (1, .int (nI i)), (2, .int 3), (3, .int (nI f39))] → W pg l en { frames := 180, cells := 0, slots := 0, locals := 5500 } s m [.ref mo, .int (nI i)].toArray below meth cd H locs 0 0 (MQ below (z_Q g A (fun x h1 => MPt g h x (.int (oSchema T S R (nI i)).1) h1 mo (oSchema T S R (nI i)).2.1 (oSchema T S R (nI i)).2.2.1 (oSchema T S R (nI i)).2.2.2 O)) [.ref mo, .int (nI i)].toArray s 0 0 A) (F0 m 94 ls []) := by
                                          intro fuel
                                          induction fuel with
                                          | zero => intro f39 rX3 hW3 H locs ls L94_mo L94_ma_1 L94_ma_0 L94_ma_2 L94_rw9_0 L94_rw9_1 L94_rw9_2 L94_rw9_3 L94_rw9_4 L94_rw9_5 L94_ma_4 L94_fw_0 L94_fw_1 L94_fw_2 L94_fw_3 L94_fw_4 L94_fw_5 L94_ma_3 L94_ma_5 hv3 hcp3 kkR3 hm; exact absurd hm (Nat.not_lt_zero _)
                                          | succ fuel ih_94 =>
                                            intro f39 rX3 hW3 H locs ls L94_mo L94_ma_1 L94_ma_0 L94_ma_2 L94_rw9_0 L94_rw9_1 L94_rw9_2 L94_rw9_3 L94_rw9_4 L94_rw9_5 L94_ma_4 L94_fw_0 L94_fw_1 L94_fw_2 L94_fw_3 L94_fw_4 L94_fw_5 L94_ma_3 L94_ma_5 hv3 hcp3 kkR3 hm hw hl
                                            refine lv_iload_n hx hb d_M_schema_94 rfl (lv_at hl 3 rfl) ?_
                                            refine lv_aload_n hx hb d_M_schema_95 rfl (lv_at hl 0 rfl) ?_
                                            refine z_get hx hb hts (z_lay i_M) hown hK hw L94_mo rfl 9 (by decide) (z_in k_780 rfl) (fun _ h9 => h9) rfl d_M_schema_96 ?_
                                            refine lv_icmp_ge (tgt := 124) hx hb d_M_schema_99 (by decide) (fun c_99 => ?_) (fun c_99 => ?_)
                                            · -- 99: True
                                              have c_99 : S4.1 ≤ f39 := (nI_leI (a := S4.1) (b := f39) (by omega) (by omega)).mp c_99
                                              refine lv_iinc (v := 4) (lv' := [(2, .int 4), (0, .ref mo), (1, .int (nI i)), (3, .int (nI f39))]) hx hb d_M_schema_124 hl (k := 2) rfl (by decide) (by decide) rfl (fun ls hl => ?_)
                                              refine lv_goto (tgt := 86) hx hb d_M_schema_127 (by decide) ?_
                                              refine lv_iload_n hx hb d_M_schema_86 rfl (lv_at hl 0 rfl) ?_
                                              refine lv_bipush (v := 6) hx hb d_M_schema_87 (by decide) ?_
                                              refine lv_icmp_ge (tgt := 130) hx hb d_M_schema_89 (by decide) (fun c_89 => ?_) (fun c_89 => ?_)
                                              · -- 89: True
                                                exact absurd c_89 (by decide)
                                              · -- 89: False
                                                refine lv_iconst (v := 0) hx hb d_M_schema_92 (by decide) ?_
                                                refine lv_istore_n (lv' := [(3, .int 0), (2, .int 4), (0, .ref mo), (1, .int (nI i))]) hx hb d_M_schema_93 rfl hl (by decide) rfl (fun ls hl => ?_)
                                                have loop_94 : ∀ (fuel : Nat) (f49 : Nat) (rX4 : Nat → Int32) (hW4 : z_H) (H : Heap) (locs : List Loc) (ls : Array Slot) (L94_mo : hW4 mo = some ((20, 0), .inr (11, mF ma 0 0 (nI i) (nI S4.1) (nI (cc S4)) (nI S4.1) (nI (cc S4)) (nI R.1) (nI (tbC R.2 R.1)) (nI O.length) (nI (sk (tT T) i p4)) (-1)))) (L94_ma_1 : hW4 (ma 1) = some ((22, 0), .inl (g.2.1 1, 4000, .inl f2))) (L94_ma_0 : hW4 (ma 0) = some ((21, 0), .inl (g.2.1 1, 4000, .inl ftp))) (L94_ma_2 : hW4 (ma 2) = some ((23, 0), .inl (g.2.1 5, 6, .inr (.inr (.inr (.inr (fun k => some (rw9 k)))))))) (L94_rw9_0 : hW4 (rw9 0) = some ((24, 0), .inl (g.2.1 1, 128, .inl rX0))) (L94_rw9_1 : hW4 (rw9 1) = some ((24, 1), .inl (g.2.1 1, 128, .inl rX1))) (L94_rw9_2 : hW4 (rw9 2) = some ((24, 2), .inl (g.2.1 1, 128, .inl rX2))) (L94_rw9_3 : hW4 (rw9 3) = some ((24, 3), .inl (g.2.1 1, 128, .inl rX3))) (L94_rw9_4 : hW4 (rw9 4) = some ((24, 4), .inl (g.2.1 1, 128, .inl rX4))) (L94_rw9_5 : hW4 (rw9 5) = some ((24, 5), .inl (g.2.1 1, 128, .inl (rf 5)))) (L94_ma_4 : hW4 (ma 4) = some ((27, 0), .inl (g.2.1 1, 2048, .inl lf))) (L94_fw_0 : hW4 (fw 0) = some ((26, 0), .inl (g.2.1 1, 128, .inl (rg 0)))) (L94_fw_1 : hW4 (fw 1) = some ((26, 1), .inl (g.2.1 1, 128, .inl (rg 1)))) (L94_fw_2 : hW4 (fw 2) = some ((26, 2), .inl (g.2.1 1, 128, .inl (rg 2)))) (L94_fw_3 : hW4 (fw 3) = some ((26, 3), .inl (g.2.1 1, 128, .inl (rg 3)))) (L94_fw_4 : hW4 (fw 4) = some ((26, 4), .inl (g.2.1 1, 128, .inl (rg 4)))) (L94_fw_5 : hW4 (fw 5) = some ((26, 5), .inl (g.2.1 1, 128, .inl (rg 5)))) (L94_ma_3 : hW4 (ma 3) = some ((25, 0), .inl (g.2.1 5, 6, .inr (.inr (.inr (.inr (fun k => some (fw k)))))))) (L94_ma_5 : hW4 (ma 5) = some ((28, 0), .inl (g.2.1 1, 2048, .inl lg9))) (hv4 : f49 ≤ S4.1) (hcp4 : ∀ j, j < f49 → rX4 j = rg 4 j) (kkR4 : z_K (fun y => y = 20 ∨ y = 22 ∨ y = 24 ∨ y = 26 ∨ y = 27 ∨ y = 28) h hW4), (S4.1 - f49) < fuel → z_S g A s.heap hW4 H locs → lv_has ls 4 [(0, .ref mo), (1, .int (nI i)), (2, .int 4), (3, .int (nI f49))] → W pg l en { frames := 180, cells := 0, slots := 0, locals := 5500 } s m [.ref mo, .int (nI i)].toArray below meth cd H locs 0 0 (MQ below (z_Q g A (fun x h1 => MPt g h x (.int (oSchema T S R (nI i)).1) h1 mo (oSchema T S R (nI i)).2.1 (oSchema T S R (nI i)).2.2.1 (oSchema T S R (nI i)).2.2.2 O)) [.ref mo, .int (nI i)].toArray s 0 0 A) (F0 m 94 ls []) := by
                                                  intro fuel
                                                  induction fuel with
                                                  | zero => intro f49 rX4 hW4 H locs ls L94_mo L94_ma_1 L94_ma_0 L94_ma_2 L94_rw9_0 L94_rw9_1 L94_rw9_2 L94_rw9_3 L94_rw9_4 L94_rw9_5 L94_ma_4 L94_fw_0 L94_fw_1 L94_fw_2 L94_fw_3 L94_fw_4 L94_fw_5 L94_ma_3 L94_ma_5 hv4 hcp4 kkR4 hm; exact absurd hm (Nat.not_lt_zero _)
                                                  | succ fuel ih_94 =>
                                                    intro f49 rX4 hW4 H locs ls L94_mo L94_ma_1 L94_ma_0 L94_ma_2 L94_rw9_0 L94_rw9_1 L94_rw9_2 L94_rw9_3 L94_rw9_4 L94_rw9_5 L94_ma_4 L94_fw_0 L94_fw_1 L94_fw_2 L94_fw_3 L94_fw_4 L94_fw_5 L94_ma_3 L94_ma_5 hv4 hcp4 kkR4 hm hw hl
                                                    refine lv_iload_n hx hb d_M_schema_94 rfl (lv_at hl 3 rfl) ?_
                                                    refine lv_aload_n hx hb d_M_schema_95 rfl (lv_at hl 0 rfl) ?_
                                                    refine z_get hx hb hts (z_lay i_M) hown hK hw L94_mo rfl 9 (by decide) (z_in k_780 rfl) (fun _ h9 => h9) rfl d_M_schema_96 ?_
                                                    refine lv_icmp_ge (tgt := 124) hx hb d_M_schema_99 (by decide) (fun c_99 => ?_) (fun c_99 => ?_)
                                                    · -- 99: True
                                                      have c_99 : S4.1 ≤ f49 := (nI_leI (a := S4.1) (b := f49) (by omega) (by omega)).mp c_99
                                                      refine lv_iinc (v := 5) (lv' := [(2, .int 5), (0, .ref mo), (1, .int (nI i)), (3, .int (nI f49))]) hx hb d_M_schema_124 hl (k := 2) rfl (by decide) (by decide) rfl (fun ls hl => ?_)
                                                      refine lv_goto (tgt := 86) hx hb d_M_schema_127 (by decide) ?_
                                                      refine lv_iload_n hx hb d_M_schema_86 rfl (lv_at hl 0 rfl) ?_
                                                      refine lv_bipush (v := 6) hx hb d_M_schema_87 (by decide) ?_
                                                      refine lv_icmp_ge (tgt := 130) hx hb d_M_schema_89 (by decide) (fun c_89 => ?_) (fun c_89 => ?_)
                                                      · -- 89: True
                                                        exact absurd c_89 (by decide)
                                                      · -- 89: False
                                                        refine lv_iconst (v := 0) hx hb d_M_schema_92 (by decide) ?_
                                                        refine lv_istore_n (lv' := [(3, .int 0), (2, .int 5), (0, .ref mo), (1, .int (nI i))]) hx hb d_M_schema_93 rfl hl (by decide) rfl (fun ls hl => ?_)
                                                        have loop_94 : ∀ (fuel : Nat) (f59 : Nat) (rX5 : Nat → Int32) (hW5 : z_H) (H : Heap) (locs : List Loc) (ls : Array Slot) (L94_mo : hW5 mo = some ((20, 0), .inr (11, mF ma 0 0 (nI i) (nI S4.1) (nI (cc S4)) (nI S4.1) (nI (cc S4)) (nI R.1) (nI (tbC R.2 R.1)) (nI O.length) (nI (sk (tT T) i p4)) (-1)))) (L94_ma_1 : hW5 (ma 1) = some ((22, 0), .inl (g.2.1 1, 4000, .inl f2))) (L94_ma_0 : hW5 (ma 0) = some ((21, 0), .inl (g.2.1 1, 4000, .inl ftp))) (L94_ma_2 : hW5 (ma 2) = some ((23, 0), .inl (g.2.1 5, 6, .inr (.inr (.inr (.inr (fun k => some (rw9 k)))))))) (L94_rw9_0 : hW5 (rw9 0) = some ((24, 0), .inl (g.2.1 1, 128, .inl rX0))) (L94_rw9_1 : hW5 (rw9 1) = some ((24, 1), .inl (g.2.1 1, 128, .inl rX1))) (L94_rw9_2 : hW5 (rw9 2) = some ((24, 2), .inl (g.2.1 1, 128, .inl rX2))) (L94_rw9_3 : hW5 (rw9 3) = some ((24, 3), .inl (g.2.1 1, 128, .inl rX3))) (L94_rw9_4 : hW5 (rw9 4) = some ((24, 4), .inl (g.2.1 1, 128, .inl rX4))) (L94_rw9_5 : hW5 (rw9 5) = some ((24, 5), .inl (g.2.1 1, 128, .inl rX5))) (L94_ma_4 : hW5 (ma 4) = some ((27, 0), .inl (g.2.1 1, 2048, .inl lf))) (L94_fw_0 : hW5 (fw 0) = some ((26, 0), .inl (g.2.1 1, 128, .inl (rg 0)))) (L94_fw_1 : hW5 (fw 1) = some ((26, 1), .inl (g.2.1 1, 128, .inl (rg 1)))) (L94_fw_2 : hW5 (fw 2) = some ((26, 2), .inl (g.2.1 1, 128, .inl (rg 2)))) (L94_fw_3 : hW5 (fw 3) = some ((26, 3), .inl (g.2.1 1, 128, .inl (rg 3)))) (L94_fw_4 : hW5 (fw 4) = some ((26, 4), .inl (g.2.1 1, 128, .inl (rg 4)))) (L94_fw_5 : hW5 (fw 5) = some ((26, 5), .inl (g.2.1 1, 128, .inl (rg 5)))) (L94_ma_3 : hW5 (ma 3) = some ((25, 0), .inl (g.2.1 5, 6, .inr (.inr (.inr (.inr (fun k => some (fw k)))))))) (L94_ma_5 : hW5 (ma 5) = some ((28, 0), .inl (g.2.1 1, 2048, .inl lg9))) (hv5 : f59 ≤ S4.1) (hcp5 : ∀ j, j < f59 → rX5 j = rg 5 j) (kkR5 : z_K (fun y => y = 20 ∨ y = 22 ∨ y = 24 ∨ y = 26 ∨ y = 27 ∨ y = 28) h hW5), (S4.1 - f59) < fuel → z_S g A s.heap hW5 H locs → lv_has ls 4 [(0, .ref mo), (1, .int (nI i)), (2, .int 5), (3, .int (nI f59))] → W pg l en { frames := 180, cells := 0, slots := 0, locals := 5500 } s m [.ref mo, .int (nI i)].toArray below meth cd H locs 0 0 (MQ below (z_Q g A (fun x h1 => MPt g h x (.int (oSchema T S R (nI i)).1) h1 mo (oSchema T S R (nI i)).2.1 (oSchema T S R (nI i)).2.2.1 (oSchema T S R (nI i)).2.2.2 O)) [.ref mo, .int (nI i)].toArray s 0 0 A) (F0 m 94 ls []) := by
                                                          intro fuel
                                                          induction fuel with
                                                          | zero => intro f59 rX5 hW5 H locs ls L94_mo L94_ma_1 L94_ma_0 L94_ma_2 L94_rw9_0 L94_rw9_1 L94_rw9_2 L94_rw9_3 L94_rw9_4 L94_rw9_5 L94_ma_4 L94_fw_0 L94_fw_1 L94_fw_2 L94_fw_3 L94_fw_4 L94_fw_5 L94_ma_3 L94_ma_5 hv5 hcp5 kkR5 hm; exact absurd hm (Nat.not_lt_zero _)
                                                          | succ fuel ih_94 =>
                                                            intro f59 rX5 hW5 H locs ls L94_mo L94_ma_1 L94_ma_0 L94_ma_2 L94_rw9_0 L94_rw9_1 L94_rw9_2 L94_rw9_3 L94_rw9_4 L94_rw9_5 L94_ma_4 L94_fw_0 L94_fw_1 L94_fw_2 L94_fw_3 L94_fw_4 L94_fw_5 L94_ma_3 L94_ma_5 hv5 hcp5 kkR5 hm hw hl
                                                            refine lv_iload_n hx hb d_M_schema_94 rfl (lv_at hl 3 rfl) ?_
                                                            refine lv_aload_n hx hb d_M_schema_95 rfl (lv_at hl 0 rfl) ?_
                                                            refine z_get hx hb hts (z_lay i_M) hown hK hw L94_mo rfl 9 (by decide) (z_in k_780 rfl) (fun _ h9 => h9) rfl d_M_schema_96 ?_
                                                            refine lv_icmp_ge (tgt := 124) hx hb d_M_schema_99 (by decide) (fun c_99 => ?_) (fun c_99 => ?_)
                                                            · -- 99: True
                                                              have c_99 : S4.1 ≤ f59 := (nI_leI (a := S4.1) (b := f59) (by omega) (by omega)).mp c_99
                                                              refine lv_iinc (v := 6) (lv' := [(2, .int 6), (0, .ref mo), (1, .int (nI i)), (3, .int (nI f59))]) hx hb d_M_schema_124 hl (k := 2) rfl (by decide) (by decide) rfl (fun ls hl => ?_)
                                                              refine lv_goto (tgt := 86) hx hb d_M_schema_127 (by decide) ?_
                                                              refine lv_iload_n hx hb d_M_schema_86 rfl (lv_at hl 0 rfl) ?_
                                                              refine lv_bipush (v := 6) hx hb d_M_schema_87 (by decide) ?_
                                                              refine lv_icmp_ge (tgt := 130) hx hb d_M_schema_89 (by decide) (fun c_89 => ?_) (fun c_89 => ?_)
                                                              · -- 89: True
                                                                refine lv_iconst (v := 0) hx hb d_M_schema_130 (by decide) ?_
                                                                refine lv_istore_n (lv' := [(2, .int 0), (0, .ref mo), (1, .int (nI i)), (3, .int (nI f59))]) hx hb d_M_schema_131 rfl hl (by decide) rfl (fun ls hl => ?_)
                                                                have loop_132 : ∀ (fuel : Nat) (k : Nat) (l2 : Nat → Int32) (hLL : z_H) (H : Heap) (locs : List Loc) (ls : Array Slot) (L132_mo : hLL mo = some ((20, 0), .inr (11, mF ma 0 0 (nI i) (nI S4.1) (nI (cc S4)) (nI S4.1) (nI (cc S4)) (nI R.1) (nI (tbC R.2 R.1)) (nI O.length) (nI (sk (tT T) i p4)) (-1)))) (L132_ma_1 : hLL (ma 1) = some ((22, 0), .inl (g.2.1 1, 4000, .inl f2))) (L132_ma_0 : hLL (ma 0) = some ((21, 0), .inl (g.2.1 1, 4000, .inl ftp))) (L132_ma_2 : hLL (ma 2) = some ((23, 0), .inl (g.2.1 5, 6, .inr (.inr (.inr (.inr (fun k => some (rw9 k)))))))) (L132_rw9_0 : hLL (rw9 0) = some ((24, 0), .inl (g.2.1 1, 128, .inl rX0))) (L132_rw9_1 : hLL (rw9 1) = some ((24, 1), .inl (g.2.1 1, 128, .inl rX1))) (L132_rw9_2 : hLL (rw9 2) = some ((24, 2), .inl (g.2.1 1, 128, .inl rX2))) (L132_rw9_3 : hLL (rw9 3) = some ((24, 3), .inl (g.2.1 1, 128, .inl rX3))) (L132_rw9_4 : hLL (rw9 4) = some ((24, 4), .inl (g.2.1 1, 128, .inl rX4))) (L132_rw9_5 : hLL (rw9 5) = some ((24, 5), .inl (g.2.1 1, 128, .inl rX5))) (L132_ma_4 : hLL (ma 4) = some ((27, 0), .inl (g.2.1 1, 2048, .inl l2))) (L132_fw_0 : hLL (fw 0) = some ((26, 0), .inl (g.2.1 1, 128, .inl (rg 0)))) (L132_fw_1 : hLL (fw 1) = some ((26, 1), .inl (g.2.1 1, 128, .inl (rg 1)))) (L132_fw_2 : hLL (fw 2) = some ((26, 2), .inl (g.2.1 1, 128, .inl (rg 2)))) (L132_fw_3 : hLL (fw 3) = some ((26, 3), .inl (g.2.1 1, 128, .inl (rg 3)))) (L132_fw_4 : hLL (fw 4) = some ((26, 4), .inl (g.2.1 1, 128, .inl (rg 4)))) (L132_fw_5 : hLL (fw 5) = some ((26, 5), .inl (g.2.1 1, 128, .inl (rg 5)))) (L132_ma_3 : hLL (ma 3) = some ((25, 0), .inl (g.2.1 5, 6, .inr (.inr (.inr (.inr (fun k => some (fw k)))))))) (L132_ma_5 : hLL (ma 5) = some ((28, 0), .inl (g.2.1 1, 2048, .inl lg9))) (hk9 : k ≤ 2048) (hcpl : ∀ j, j < k → l2 j = lg9 j) (kkl : z_K (fun y => y = 20 ∨ y = 22 ∨ y = 24 ∨ y = 26 ∨ y = 27 ∨ y = 28) h hLL), (2048 - k) < fuel → z_S g A s.heap hLL H locs → lv_has ls 4 [(0, .ref mo), (1, .int (nI i)), (2, .int (nI k))] → W pg l en { frames := 180, cells := 0, slots := 0, locals := 5500 } s m [.ref mo, .int (nI i)].toArray below meth cd H locs 0 0 (MQ below (z_Q g A (fun x h1 => MPt g h x (.int (oSchema T S R (nI i)).1) h1 mo (oSchema T S R (nI i)).2.1 (oSchema T S R (nI i)).2.2.1 (oSchema T S R (nI i)).2.2.2 O)) [.ref mo, .int (nI i)].toArray s 0 0 A) (F0 m 132 ls []) := by
                                                                  intro fuel
                                                                  induction fuel with
                                                                  | zero => intro k l2 hLL H locs ls L132_mo L132_ma_1 L132_ma_0 L132_ma_2 L132_rw9_0 L132_rw9_1 L132_rw9_2 L132_rw9_3 L132_rw9_4 L132_rw9_5 L132_ma_4 L132_fw_0 L132_fw_1 L132_fw_2 L132_fw_3 L132_fw_4 L132_fw_5 L132_ma_3 L132_ma_5 hk9 hcpl kkl hm; exact absurd hm (Nat.not_lt_zero _)
                                                                  | succ fuel ih_132 =>
                                                                    intro k l2 hLL H locs ls L132_mo L132_ma_1 L132_ma_0 L132_ma_2 L132_rw9_0 L132_rw9_1 L132_rw9_2 L132_rw9_3 L132_rw9_4 L132_rw9_5 L132_ma_4 L132_fw_0 L132_fw_1 L132_fw_2 L132_fw_3 L132_fw_4 L132_fw_5 L132_ma_3 L132_ma_5 hk9 hcpl kkl hm hw hl
                                                                    refine lv_iload_n hx hb d_M_schema_132 rfl (lv_at hl 2 rfl) ?_
                                                                    refine lv_aload_n hx hb d_M_schema_133 rfl (lv_at hl 0 rfl) ?_
                                                                    refine z_get hx hb hts (z_lay i_M) hown hK hw L132_mo rfl 7 (by decide) (z_in k_778 rfl) (fun _ h9 => h9) rfl d_M_schema_134 ?_
                                                                    refine z_alen hx hb hK hw L132_ma_4 1 rfl d_M_schema_137 ?_
                                                                    refine lv_icmp_ge (tgt := 159) hx hb d_M_schema_138 (by decide) (fun c_138 => ?_) (fun c_138 => ?_)
                                                                    · -- 138: True
                                                                      have c_138 : 2048 ≤ k := (nI_leI (a := 2048) (b := k) (by omega) (by omega)).mp c_138
                                                                      refine lv_aload_n hx hb d_M_schema_159 rfl (lv_at hl 0 rfl) ?_
                                                                      refine z_callV (n := 0) (As := []) (rest := []) ⟨hx, hb, hml, hown, hts⟩ (m_empty l g hLL L132_mo) (z_in k_931 rfl) (z_in k_7 rfl) (z_in k_928 rfl) (z_in k_930 rfl) (z_in ks_35 rfl) (by decide +kernel) ⟨by first | exact Nat.le_of_ble_eq_true rfl | (dsimp only; omega) | omega, by first | exact Nat.le_of_ble_eq_true rfl | (dsimp only; omega) | omega⟩ hK hE hw hA rfl L132_mo rfl hl.1 (Nat.le_of_ble_eq_true rfl) d_M_schema_160 ⟨by first | exact Nat.le_of_ble_eq_true rfl | (dsimp only; omega) | omega, by first | exact Nat.le_of_ble_eq_true rfl | (dsimp only; omega) | omega⟩ rfl (fun r9 h9 H locs hp hw => ?_)
                                                                      obtain ⟨r8, hh11⟩ := hp
                                                                      subst r8
                                                                      obtain ⟨h11, e8⟩ : ∃ x9, x9 = h9 := ⟨_, rfl⟩
                                                                      subst e8
                                                                      have f11_mo : h11 mo = some ((20, 0), .inr (11, mF ma 0 0 (nI i) (nI S4.1) (nI (cc S4)) (nI S4.1) (nI (cc S4)) 1 0 (nI O.length) (nI (sk (tT T) i p4)) (-1))) := by rw [← hh11]; exact z_put_eq
                                                                      have f11_ma_1 : h11 (ma 1) = some ((22, 0), .inl (g.2.1 1, 4000, .inl f2)) := by rw [← hh11]; exact z_keep L132_mo L132_ma_1 (z_t1 (by decide))
                                                                      have f11_ma_0 : h11 (ma 0) = some ((21, 0), .inl (g.2.1 1, 4000, .inl ftp)) := by rw [← hh11]; exact z_keep L132_mo L132_ma_0 (z_t1 (by decide))
                                                                      have f11_ma_2 : h11 (ma 2) = some ((23, 0), .inl (g.2.1 5, 6, .inr (.inr (.inr (.inr (fun k => some (rw9 k))))))) := by rw [← hh11]; exact z_keep L132_mo L132_ma_2 (z_t1 (by decide))
                                                                      have f11_rw9_0 : h11 (rw9 0) = some ((24, 0), .inl (g.2.1 1, 128, .inl rX0)) := by rw [← hh11]; exact z_keep L132_mo L132_rw9_0 (z_t1 (by decide))
                                                                      have f11_rw9_1 : h11 (rw9 1) = some ((24, 1), .inl (g.2.1 1, 128, .inl rX1)) := by rw [← hh11]; exact z_keep L132_mo L132_rw9_1 (z_t1 (by decide))
                                                                      have f11_rw9_2 : h11 (rw9 2) = some ((24, 2), .inl (g.2.1 1, 128, .inl rX2)) := by rw [← hh11]; exact z_keep L132_mo L132_rw9_2 (z_t1 (by decide))
                                                                      have f11_rw9_3 : h11 (rw9 3) = some ((24, 3), .inl (g.2.1 1, 128, .inl rX3)) := by rw [← hh11]; exact z_keep L132_mo L132_rw9_3 (z_t1 (by decide))
                                                                      have f11_rw9_4 : h11 (rw9 4) = some ((24, 4), .inl (g.2.1 1, 128, .inl rX4)) := by rw [← hh11]; exact z_keep L132_mo L132_rw9_4 (z_t1 (by decide))
                                                                      have f11_rw9_5 : h11 (rw9 5) = some ((24, 5), .inl (g.2.1 1, 128, .inl rX5)) := by rw [← hh11]; exact z_keep L132_mo L132_rw9_5 (z_t1 (by decide))
                                                                      have f11_ma_4 : h11 (ma 4) = some ((27, 0), .inl (g.2.1 1, 2048, .inl l2)) := by rw [← hh11]; exact z_keep L132_mo L132_ma_4 (z_t1 (by decide))
                                                                      have f11_fw_0 : h11 (fw 0) = some ((26, 0), .inl (g.2.1 1, 128, .inl (rg 0))) := by rw [← hh11]; exact z_keep L132_mo L132_fw_0 (z_t1 (by decide))
                                                                      have f11_fw_1 : h11 (fw 1) = some ((26, 1), .inl (g.2.1 1, 128, .inl (rg 1))) := by rw [← hh11]; exact z_keep L132_mo L132_fw_1 (z_t1 (by decide))
                                                                      have f11_fw_2 : h11 (fw 2) = some ((26, 2), .inl (g.2.1 1, 128, .inl (rg 2))) := by rw [← hh11]; exact z_keep L132_mo L132_fw_2 (z_t1 (by decide))
                                                                      have f11_fw_3 : h11 (fw 3) = some ((26, 3), .inl (g.2.1 1, 128, .inl (rg 3))) := by rw [← hh11]; exact z_keep L132_mo L132_fw_3 (z_t1 (by decide))
                                                                      have f11_fw_4 : h11 (fw 4) = some ((26, 4), .inl (g.2.1 1, 128, .inl (rg 4))) := by rw [← hh11]; exact z_keep L132_mo L132_fw_4 (z_t1 (by decide))
                                                                      have f11_fw_5 : h11 (fw 5) = some ((26, 5), .inl (g.2.1 1, 128, .inl (rg 5))) := by rw [← hh11]; exact z_keep L132_mo L132_fw_5 (z_t1 (by decide))
                                                                      have f11_ma_3 : h11 (ma 3) = some ((25, 0), .inl (g.2.1 5, 6, .inr (.inr (.inr (.inr (fun k => some (fw k))))))) := by rw [← hh11]; exact z_keep L132_mo L132_ma_3 (z_t1 (by decide))
                                                                      have f11_ma_5 : h11 (ma 5) = some ((28, 0), .inl (g.2.1 1, 2048, .inl lg9)) := by rw [← hh11]; exact z_keep L132_mo L132_ma_5 (z_t1 (by decide))
                                                                      have kk11 : z_K (fun y => y = 20 ∨ y = 22 ∨ y = 24 ∨ y = 26 ∨ y = 27 ∨ y = 28) h h11 := kkl.tr (by rw [← hh11]; exact z_K.put L132_mo (by first | decide | simp | omega))
                                                                      refine W.eq (g2 := F0 m 163 ls []) rfl ?_
                                                                      refine lv_iconst (v := (-1)) hx hb d_M_schema_163 (by decide) ?_
                                                                      exact z_iret hx hb hr hlocks hw (by refine ⟨by rw [eW], ?_, kk11.mono (fun y z => by unfold KMr; omega)⟩; rw [eW]; exact ⟨ma, _, _, _, _, _, _, f11_mo, ⟨ftp, f11_ma_0, Nat.zero_le _, fun k hk => absurd hk (Nat.not_lt_zero _)⟩, ⟨_, f11_ma_1⟩, ⟨_, _, _, MSp.six (h := h) (S := S) (rf := rf) (lf := lf) (rf1 := sel6 rX0 rX1 rX2 rX3 rX4 rX5) f11_ma_2 f11_rw9_0 f11_rw9_1 f11_rw9_2 f11_rw9_3 f11_rw9_4 f11_rw9_5 f11_ma_4 (fun j hj => by have hj : j < S4.1 := hj; have z := hSg.2.2.2 j hj; have b9 := (b4.2.2 j hj).1; refine ⟨(hcp0 j (by omega)).trans z.1, (hcp1 j (by omega)).trans z.2.1, (hcp2 j (by omega)).trans z.2.2.1, (hcp3 j (by omega)).trans z.2.2.2.1, (hcp4 j (by omega)).trans z.2.2.2.2.1, fun k hk => ?_⟩; have hk : k < (fNm (S4.2 j)).length := hk; rw [hcpl _ (by omega)]; exact z.2.2.2.2.2 k hk)⟩, ⟨fw, sel6 (rg 0) (rg 1) (rg 2) (rg 3) (rg 4) (rg 5), lg9, MSp.six (h := h) (S := S) (rf := rf) (lf := lf) f11_ma_3 f11_fw_0 f11_fw_1 f11_fw_2 f11_fw_3 f11_fw_4 f11_fw_5 f11_ma_5 (fun j hj => absurd hj (Nat.not_lt_zero _))⟩, ⟨_, _, _, _, _, _, (hNd.k kk11 (by omega) (by omega) (by omega)).zero ⟨hN0.1.trans hR0.2.1, hN0.2.1.trans hR0.2.2⟩⟩, hOl.k kk11 (by omega) (by omega) (by omega), hOu.k kk11 (by omega)⟩) (by decide) (by decide) d_M_schema_164
                                                                    · -- 138: False
                                                                      have c_138 : ¬ (2048 ≤ k) := fun z => c_138 ((nI_leI (a := 2048) (b := k) (by omega) (by omega)).mpr z)
                                                                      refine lv_aload_n hx hb d_M_schema_141 rfl (lv_at hl 0 rfl) ?_
                                                                      refine z_get hx hb hts (z_lay i_M) hown hK hw L132_mo rfl 7 (by decide) (z_in k_778 rfl) (fun _ h9 => h9) rfl d_M_schema_142 ?_
                                                                      refine lv_iload_n hx hb d_M_schema_145 rfl (lv_at hl 2 rfl) ?_
                                                                      refine lv_aload_n hx hb d_M_schema_146 rfl (lv_at hl 0 rfl) ?_
                                                                      refine z_get hx hb hts (z_lay i_M) hown hK hw L132_mo rfl 8 (by decide) (z_in k_779 rfl) (fun _ h9 => h9) rfl d_M_schema_147 ?_
                                                                      refine lv_iload_n hx hb d_M_schema_150 rfl (lv_at hl 2 rfl) ?_
                                                                      refine z_iald hx hb hK hw L132_ma_5 1 rfl (vp_in_nI (by omega) (by omega)) d_M_schema_151 ?_
                                                                      refine z_topi (y := lg9 k) (by rw [nI_clamp (by omega)]) ?_
                                                                      refine z_iast hx hb hK hw L132_ma_4 1 rfl (vp_in_nI (by omega) (by omega)) d_M_schema_152 (fun H locs hw => ?_)
                                                                      rw [nI_clamp (by omega)] at hw
                                                                      obtain ⟨h12, hh12⟩ : ∃ x9, z_put hLL (ma 4) (27, 0) (.inl (g.2.1 1, 2048, .inl (upd l2 k (lg9 k)))) = x9 := ⟨_, rfl⟩
                                                                      have hw : z_S g A s.heap h12 H locs := by rw [← hh12]; exact hw
                                                                      have f12_mo : h12 mo = some ((20, 0), .inr (11, mF ma 0 0 (nI i) (nI S4.1) (nI (cc S4)) (nI S4.1) (nI (cc S4)) (nI R.1) (nI (tbC R.2 R.1)) (nI O.length) (nI (sk (tT T) i p4)) (-1))) := by rw [← hh12]; exact z_keep L132_ma_4 L132_mo (z_t1 (by decide))
                                                                      have f12_ma_1 : h12 (ma 1) = some ((22, 0), .inl (g.2.1 1, 4000, .inl f2)) := by rw [← hh12]; exact z_keep L132_ma_4 L132_ma_1 (z_t1 (by decide))
                                                                      have f12_ma_0 : h12 (ma 0) = some ((21, 0), .inl (g.2.1 1, 4000, .inl ftp)) := by rw [← hh12]; exact z_keep L132_ma_4 L132_ma_0 (z_t1 (by decide))
                                                                      have f12_ma_2 : h12 (ma 2) = some ((23, 0), .inl (g.2.1 5, 6, .inr (.inr (.inr (.inr (fun k => some (rw9 k))))))) := by rw [← hh12]; exact z_keep L132_ma_4 L132_ma_2 (z_t1 (by decide))
                                                                      have f12_rw9_0 : h12 (rw9 0) = some ((24, 0), .inl (g.2.1 1, 128, .inl rX0)) := by rw [← hh12]; exact z_keep L132_ma_4 L132_rw9_0 (z_t1 (by decide))
                                                                      have f12_rw9_1 : h12 (rw9 1) = some ((24, 1), .inl (g.2.1 1, 128, .inl rX1)) := by rw [← hh12]; exact z_keep L132_ma_4 L132_rw9_1 (z_t1 (by decide))
                                                                      have f12_rw9_2 : h12 (rw9 2) = some ((24, 2), .inl (g.2.1 1, 128, .inl rX2)) := by rw [← hh12]; exact z_keep L132_ma_4 L132_rw9_2 (z_t1 (by decide))
                                                                      have f12_rw9_3 : h12 (rw9 3) = some ((24, 3), .inl (g.2.1 1, 128, .inl rX3)) := by rw [← hh12]; exact z_keep L132_ma_4 L132_rw9_3 (z_t1 (by decide))
                                                                      have f12_rw9_4 : h12 (rw9 4) = some ((24, 4), .inl (g.2.1 1, 128, .inl rX4)) := by rw [← hh12]; exact z_keep L132_ma_4 L132_rw9_4 (z_t1 (by decide))
                                                                      have f12_rw9_5 : h12 (rw9 5) = some ((24, 5), .inl (g.2.1 1, 128, .inl rX5)) := by rw [← hh12]; exact z_keep L132_ma_4 L132_rw9_5 (z_t1 (by decide))
                                                                      have f12_ma_4 : h12 (ma 4) = some ((27, 0), .inl (g.2.1 1, 2048, .inl (upd l2 k (lg9 k)))) := by rw [← hh12]; exact z_put_eq
                                                                      have f12_fw_0 : h12 (fw 0) = some ((26, 0), .inl (g.2.1 1, 128, .inl (rg 0))) := by rw [← hh12]; exact z_keep L132_ma_4 L132_fw_0 (z_t1 (by decide))
                                                                      have f12_fw_1 : h12 (fw 1) = some ((26, 1), .inl (g.2.1 1, 128, .inl (rg 1))) := by rw [← hh12]; exact z_keep L132_ma_4 L132_fw_1 (z_t1 (by decide))
                                                                      have f12_fw_2 : h12 (fw 2) = some ((26, 2), .inl (g.2.1 1, 128, .inl (rg 2))) := by rw [← hh12]; exact z_keep L132_ma_4 L132_fw_2 (z_t1 (by decide))
                                                                      have f12_fw_3 : h12 (fw 3) = some ((26, 3), .inl (g.2.1 1, 128, .inl (rg 3))) := by rw [← hh12]; exact z_keep L132_ma_4 L132_fw_3 (z_t1 (by decide))
                                                                      have f12_fw_4 : h12 (fw 4) = some ((26, 4), .inl (g.2.1 1, 128, .inl (rg 4))) := by rw [← hh12]; exact z_keep L132_ma_4 L132_fw_4 (z_t1 (by decide))
                                                                      have f12_fw_5 : h12 (fw 5) = some ((26, 5), .inl (g.2.1 1, 128, .inl (rg 5))) := by rw [← hh12]; exact z_keep L132_ma_4 L132_fw_5 (z_t1 (by decide))
                                                                      have f12_ma_3 : h12 (ma 3) = some ((25, 0), .inl (g.2.1 5, 6, .inr (.inr (.inr (.inr (fun k => some (fw k))))))) := by rw [← hh12]; exact z_keep L132_ma_4 L132_ma_3 (z_t1 (by decide))
                                                                      have f12_ma_5 : h12 (ma 5) = some ((28, 0), .inl (g.2.1 1, 2048, .inl lg9)) := by rw [← hh12]; exact z_keep L132_ma_4 L132_ma_5 (z_t1 (by decide))
                                                                      have kk12 : z_K (fun y => y = 20 ∨ y = 22 ∨ y = 24 ∨ y = 26 ∨ y = 27 ∨ y = 28) h h12 := kkl.tr (by rw [← hh12]; exact z_K.put L132_ma_4 (by first | decide | simp | omega))
                                                                      refine lv_iinc (v := nI (k + 1)) (lv' := [(2, .int (nI (k + 1))), (0, .ref mo), (1, .int (nI i))]) hx hb d_M_schema_153 hl (k := 2) rfl (nI_1 k) (by decide) rfl (fun ls hl => ?_)
                                                                      refine lv_goto (tgt := 132) hx hb d_M_schema_156 (by decide) ?_
                                                                      refine ih_132 (k + 1) (upd l2 k (lg9 k)) h12 _ _ _ f12_mo f12_ma_1 f12_ma_0 f12_ma_2 f12_rw9_0 f12_rw9_1 f12_rw9_2 f12_rw9_3 f12_rw9_4 f12_rw9_5 f12_ma_4 f12_fw_0 f12_fw_1 f12_fw_2 f12_fw_3 f12_fw_4 f12_fw_5 f12_ma_3 f12_ma_5 (by omega) (fun j hj => (Nat.lt_succ_iff_lt_or_eq.mp hj).elim (fun z => by rw [pk_un (by omega)]; exact hcpl j z) (fun z => by rw [z, pk_us])) kk12 ?_ hw (lv_sub hl [1, 2, 0] rfl)
                                                                      omega
                                                                exact loop_132 (2048 - 0 + 1) 0 lf hW5 _ _ _ L94_mo L94_ma_1 L94_ma_0 L94_ma_2 L94_rw9_0 L94_rw9_1 L94_rw9_2 L94_rw9_3 L94_rw9_4 L94_rw9_5 L94_ma_4 L94_fw_0 L94_fw_1 L94_fw_2 L94_fw_3 L94_fw_4 L94_fw_5 L94_ma_3 L94_ma_5 (Nat.zero_le _) (fun j hj => absurd hj (Nat.not_lt_zero _)) kkR5 (by omega) hw (lv_sub hl [1, 2, 0] rfl)
                                                              · -- 89: False
                                                                exact absurd (by decide) c_89
                                                            · -- 99: False
                                                              have c_99 : ¬ (S4.1 ≤ f59) := fun z => c_99 ((nI_leI (a := S4.1) (b := f59) (by omega) (by omega)).mpr z)
                                                              refine lv_aload_n hx hb d_M_schema_102 rfl (lv_at hl 0 rfl) ?_
                                                              refine z_get hx hb hts (z_lay i_M) hown hK hw L94_mo rfl 5 (by decide) (z_in k_776 rfl) (fun _ h9 => h9) rfl d_M_schema_103 ?_
                                                              refine lv_iload_n hx hb d_M_schema_106 rfl (lv_at hl 2 rfl) ?_
                                                              refine z_aldr hx hb hK hw L94_ma_2 5 rfl (by unfold vp_in; decide) d_M_schema_107 ?_
                                                              refine z_top (y := va_rf ((fun k => some (rw9 k)) 5)) (by rfl) ?_
                                                              refine z_top (y := .ref (rw9 5)) (rfl) ?_
                                                              refine lv_iload_n hx hb d_M_schema_108 rfl (lv_at hl 3 rfl) ?_
                                                              refine lv_aload_n hx hb d_M_schema_109 rfl (lv_at hl 0 rfl) ?_
                                                              refine z_get hx hb hts (z_lay i_M) hown hK hw L94_mo rfl 6 (by decide) (z_in k_777 rfl) (fun _ h9 => h9) rfl d_M_schema_110 ?_
                                                              refine lv_iload_n hx hb d_M_schema_113 rfl (lv_at hl 2 rfl) ?_
                                                              refine z_aldr hx hb hK hw L94_ma_3 5 rfl (by unfold vp_in; decide) d_M_schema_114 ?_
                                                              refine z_top (y := va_rf ((fun k => some (fw k)) 5)) (by rfl) ?_
                                                              refine z_top (y := .ref (fw 5)) (rfl) ?_
                                                              refine lv_iload_n hx hb d_M_schema_115 rfl (lv_at hl 3 rfl) ?_
                                                              refine z_iald hx hb hK hw L94_fw_5 1 rfl (vp_in_nI (by omega) (by omega)) d_M_schema_116 ?_
                                                              refine z_topi (y := (rg 5) f59) (by rw [nI_clamp (by omega)]) ?_
                                                              refine z_iast hx hb hK hw L94_rw9_5 1 rfl (vp_in_nI (by omega) (by omega)) d_M_schema_117 (fun H locs hw => ?_)
                                                              rw [nI_clamp (by omega)] at hw
                                                              obtain ⟨h13, hh13⟩ : ∃ x9, z_put hW5 (rw9 5) (24, 5) (.inl (g.2.1 1, 128, .inl (upd rX5 f59 ((rg 5) f59)))) = x9 := ⟨_, rfl⟩
                                                              have hw : z_S g A s.heap h13 H locs := by rw [← hh13]; exact hw
                                                              have f13_mo : h13 mo = some ((20, 0), .inr (11, mF ma 0 0 (nI i) (nI S4.1) (nI (cc S4)) (nI S4.1) (nI (cc S4)) (nI R.1) (nI (tbC R.2 R.1)) (nI O.length) (nI (sk (tT T) i p4)) (-1))) := by rw [← hh13]; exact z_keep L94_rw9_5 L94_mo (z_t1 (by decide))
                                                              have f13_ma_1 : h13 (ma 1) = some ((22, 0), .inl (g.2.1 1, 4000, .inl f2)) := by rw [← hh13]; exact z_keep L94_rw9_5 L94_ma_1 (z_t1 (by decide))
                                                              have f13_ma_0 : h13 (ma 0) = some ((21, 0), .inl (g.2.1 1, 4000, .inl ftp)) := by rw [← hh13]; exact z_keep L94_rw9_5 L94_ma_0 (z_t1 (by decide))
                                                              have f13_ma_2 : h13 (ma 2) = some ((23, 0), .inl (g.2.1 5, 6, .inr (.inr (.inr (.inr (fun k => some (rw9 k))))))) := by rw [← hh13]; exact z_keep L94_rw9_5 L94_ma_2 (z_t1 (by decide))
                                                              have f13_rw9_0 : h13 (rw9 0) = some ((24, 0), .inl (g.2.1 1, 128, .inl rX0)) := by rw [← hh13]; exact z_keep L94_rw9_5 L94_rw9_0 (by decide)
                                                              have f13_rw9_1 : h13 (rw9 1) = some ((24, 1), .inl (g.2.1 1, 128, .inl rX1)) := by rw [← hh13]; exact z_keep L94_rw9_5 L94_rw9_1 (by decide)
                                                              have f13_rw9_2 : h13 (rw9 2) = some ((24, 2), .inl (g.2.1 1, 128, .inl rX2)) := by rw [← hh13]; exact z_keep L94_rw9_5 L94_rw9_2 (by decide)
                                                              have f13_rw9_3 : h13 (rw9 3) = some ((24, 3), .inl (g.2.1 1, 128, .inl rX3)) := by rw [← hh13]; exact z_keep L94_rw9_5 L94_rw9_3 (by decide)
                                                              have f13_rw9_4 : h13 (rw9 4) = some ((24, 4), .inl (g.2.1 1, 128, .inl rX4)) := by rw [← hh13]; exact z_keep L94_rw9_5 L94_rw9_4 (by decide)
                                                              have f13_rw9_5 : h13 (rw9 5) = some ((24, 5), .inl (g.2.1 1, 128, .inl (upd rX5 f59 ((rg 5) f59)))) := by rw [← hh13]; exact z_put_eq
                                                              have f13_ma_4 : h13 (ma 4) = some ((27, 0), .inl (g.2.1 1, 2048, .inl lf)) := by rw [← hh13]; exact z_keep L94_rw9_5 L94_ma_4 (z_t1 (by decide))
                                                              have f13_fw_0 : h13 (fw 0) = some ((26, 0), .inl (g.2.1 1, 128, .inl (rg 0))) := by rw [← hh13]; exact z_keep L94_rw9_5 L94_fw_0 (z_t1 (by decide))
                                                              have f13_fw_1 : h13 (fw 1) = some ((26, 1), .inl (g.2.1 1, 128, .inl (rg 1))) := by rw [← hh13]; exact z_keep L94_rw9_5 L94_fw_1 (z_t1 (by decide))
                                                              have f13_fw_2 : h13 (fw 2) = some ((26, 2), .inl (g.2.1 1, 128, .inl (rg 2))) := by rw [← hh13]; exact z_keep L94_rw9_5 L94_fw_2 (z_t1 (by decide))
                                                              have f13_fw_3 : h13 (fw 3) = some ((26, 3), .inl (g.2.1 1, 128, .inl (rg 3))) := by rw [← hh13]; exact z_keep L94_rw9_5 L94_fw_3 (z_t1 (by decide))
                                                              have f13_fw_4 : h13 (fw 4) = some ((26, 4), .inl (g.2.1 1, 128, .inl (rg 4))) := by rw [← hh13]; exact z_keep L94_rw9_5 L94_fw_4 (z_t1 (by decide))
                                                              have f13_fw_5 : h13 (fw 5) = some ((26, 5), .inl (g.2.1 1, 128, .inl (rg 5))) := by rw [← hh13]; exact z_keep L94_rw9_5 L94_fw_5 (z_t1 (by decide))
                                                              have f13_ma_3 : h13 (ma 3) = some ((25, 0), .inl (g.2.1 5, 6, .inr (.inr (.inr (.inr (fun k => some (fw k))))))) := by rw [← hh13]; exact z_keep L94_rw9_5 L94_ma_3 (z_t1 (by decide))
                                                              have f13_ma_5 : h13 (ma 5) = some ((28, 0), .inl (g.2.1 1, 2048, .inl lg9)) := by rw [← hh13]; exact z_keep L94_rw9_5 L94_ma_5 (z_t1 (by decide))
                                                              have kk13 : z_K (fun y => y = 20 ∨ y = 22 ∨ y = 24 ∨ y = 26 ∨ y = 27 ∨ y = 28) h h13 := kkR5.tr (by rw [← hh13]; exact z_K.put L94_rw9_5 (by first | decide | simp | omega))
                                                              refine lv_iinc (v := nI (f59 + 1)) (lv' := [(3, .int (nI (f59 + 1))), (0, .ref mo), (1, .int (nI i)), (2, .int 5)]) hx hb d_M_schema_118 hl (k := 3) rfl (nI_1 f59) (by decide) rfl (fun ls hl => ?_)
                                                              refine lv_goto (tgt := 94) hx hb d_M_schema_121 (by decide) ?_
                                                              refine ih_94 (f59 + 1) (upd rX5 f59 ((rg 5) f59)) h13 _ _ _ f13_mo f13_ma_1 f13_ma_0 f13_ma_2 f13_rw9_0 f13_rw9_1 f13_rw9_2 f13_rw9_3 f13_rw9_4 f13_rw9_5 f13_ma_4 f13_fw_0 f13_fw_1 f13_fw_2 f13_fw_3 f13_fw_4 f13_fw_5 f13_ma_3 f13_ma_5 (by omega) (fun j hj => (Nat.lt_succ_iff_lt_or_eq.mp hj).elim (fun z => by rw [pk_un (by omega)]; exact hcp5 j z) (fun z => by rw [z, pk_us])) kk13 ?_ hw (lv_sub hl [1, 2, 3, 0] rfl)
                                                              omega
                                                        exact loop_94 (S4.1 - 0 + 1) 0 (rf 5) hW4 _ _ _ L94_mo L94_ma_1 L94_ma_0 L94_ma_2 L94_rw9_0 L94_rw9_1 L94_rw9_2 L94_rw9_3 L94_rw9_4 L94_rw9_5 L94_ma_4 L94_fw_0 L94_fw_1 L94_fw_2 L94_fw_3 L94_fw_4 L94_fw_5 L94_ma_3 L94_ma_5 (Nat.zero_le _) (fun j hj => absurd hj (Nat.not_lt_zero _)) kkR4 (by omega) hw (lv_sub hl [2, 3, 1, 0] rfl)
                                                    · -- 99: False
                                                      have c_99 : ¬ (S4.1 ≤ f49) := fun z => c_99 ((nI_leI (a := S4.1) (b := f49) (by omega) (by omega)).mpr z)
                                                      refine lv_aload_n hx hb d_M_schema_102 rfl (lv_at hl 0 rfl) ?_
                                                      refine z_get hx hb hts (z_lay i_M) hown hK hw L94_mo rfl 5 (by decide) (z_in k_776 rfl) (fun _ h9 => h9) rfl d_M_schema_103 ?_
                                                      refine lv_iload_n hx hb d_M_schema_106 rfl (lv_at hl 2 rfl) ?_
                                                      refine z_aldr hx hb hK hw L94_ma_2 5 rfl (by unfold vp_in; decide) d_M_schema_107 ?_
                                                      refine z_top (y := va_rf ((fun k => some (rw9 k)) 4)) (by rfl) ?_
                                                      refine z_top (y := .ref (rw9 4)) (rfl) ?_
                                                      refine lv_iload_n hx hb d_M_schema_108 rfl (lv_at hl 3 rfl) ?_
                                                      refine lv_aload_n hx hb d_M_schema_109 rfl (lv_at hl 0 rfl) ?_
                                                      refine z_get hx hb hts (z_lay i_M) hown hK hw L94_mo rfl 6 (by decide) (z_in k_777 rfl) (fun _ h9 => h9) rfl d_M_schema_110 ?_
                                                      refine lv_iload_n hx hb d_M_schema_113 rfl (lv_at hl 2 rfl) ?_
                                                      refine z_aldr hx hb hK hw L94_ma_3 5 rfl (by unfold vp_in; decide) d_M_schema_114 ?_
                                                      refine z_top (y := va_rf ((fun k => some (fw k)) 4)) (by rfl) ?_
                                                      refine z_top (y := .ref (fw 4)) (rfl) ?_
                                                      refine lv_iload_n hx hb d_M_schema_115 rfl (lv_at hl 3 rfl) ?_
                                                      refine z_iald hx hb hK hw L94_fw_4 1 rfl (vp_in_nI (by omega) (by omega)) d_M_schema_116 ?_
                                                      refine z_topi (y := (rg 4) f49) (by rw [nI_clamp (by omega)]) ?_
                                                      refine z_iast hx hb hK hw L94_rw9_4 1 rfl (vp_in_nI (by omega) (by omega)) d_M_schema_117 (fun H locs hw => ?_)
                                                      rw [nI_clamp (by omega)] at hw
                                                      obtain ⟨h14, hh14⟩ : ∃ x9, z_put hW4 (rw9 4) (24, 4) (.inl (g.2.1 1, 128, .inl (upd rX4 f49 ((rg 4) f49)))) = x9 := ⟨_, rfl⟩
                                                      have hw : z_S g A s.heap h14 H locs := by rw [← hh14]; exact hw
                                                      have f14_mo : h14 mo = some ((20, 0), .inr (11, mF ma 0 0 (nI i) (nI S4.1) (nI (cc S4)) (nI S4.1) (nI (cc S4)) (nI R.1) (nI (tbC R.2 R.1)) (nI O.length) (nI (sk (tT T) i p4)) (-1))) := by rw [← hh14]; exact z_keep L94_rw9_4 L94_mo (z_t1 (by decide))
                                                      have f14_ma_1 : h14 (ma 1) = some ((22, 0), .inl (g.2.1 1, 4000, .inl f2)) := by rw [← hh14]; exact z_keep L94_rw9_4 L94_ma_1 (z_t1 (by decide))
                                                      have f14_ma_0 : h14 (ma 0) = some ((21, 0), .inl (g.2.1 1, 4000, .inl ftp)) := by rw [← hh14]; exact z_keep L94_rw9_4 L94_ma_0 (z_t1 (by decide))
                                                      have f14_ma_2 : h14 (ma 2) = some ((23, 0), .inl (g.2.1 5, 6, .inr (.inr (.inr (.inr (fun k => some (rw9 k))))))) := by rw [← hh14]; exact z_keep L94_rw9_4 L94_ma_2 (z_t1 (by decide))
                                                      have f14_rw9_0 : h14 (rw9 0) = some ((24, 0), .inl (g.2.1 1, 128, .inl rX0)) := by rw [← hh14]; exact z_keep L94_rw9_4 L94_rw9_0 (by decide)
                                                      have f14_rw9_1 : h14 (rw9 1) = some ((24, 1), .inl (g.2.1 1, 128, .inl rX1)) := by rw [← hh14]; exact z_keep L94_rw9_4 L94_rw9_1 (by decide)
                                                      have f14_rw9_2 : h14 (rw9 2) = some ((24, 2), .inl (g.2.1 1, 128, .inl rX2)) := by rw [← hh14]; exact z_keep L94_rw9_4 L94_rw9_2 (by decide)
                                                      have f14_rw9_3 : h14 (rw9 3) = some ((24, 3), .inl (g.2.1 1, 128, .inl rX3)) := by rw [← hh14]; exact z_keep L94_rw9_4 L94_rw9_3 (by decide)
                                                      have f14_rw9_4 : h14 (rw9 4) = some ((24, 4), .inl (g.2.1 1, 128, .inl (upd rX4 f49 ((rg 4) f49)))) := by rw [← hh14]; exact z_put_eq
                                                      have f14_rw9_5 : h14 (rw9 5) = some ((24, 5), .inl (g.2.1 1, 128, .inl (rf 5))) := by rw [← hh14]; exact z_keep L94_rw9_4 L94_rw9_5 (by decide)
                                                      have f14_ma_4 : h14 (ma 4) = some ((27, 0), .inl (g.2.1 1, 2048, .inl lf)) := by rw [← hh14]; exact z_keep L94_rw9_4 L94_ma_4 (z_t1 (by decide))
                                                      have f14_fw_0 : h14 (fw 0) = some ((26, 0), .inl (g.2.1 1, 128, .inl (rg 0))) := by rw [← hh14]; exact z_keep L94_rw9_4 L94_fw_0 (z_t1 (by decide))
                                                      have f14_fw_1 : h14 (fw 1) = some ((26, 1), .inl (g.2.1 1, 128, .inl (rg 1))) := by rw [← hh14]; exact z_keep L94_rw9_4 L94_fw_1 (z_t1 (by decide))
                                                      have f14_fw_2 : h14 (fw 2) = some ((26, 2), .inl (g.2.1 1, 128, .inl (rg 2))) := by rw [← hh14]; exact z_keep L94_rw9_4 L94_fw_2 (z_t1 (by decide))
                                                      have f14_fw_3 : h14 (fw 3) = some ((26, 3), .inl (g.2.1 1, 128, .inl (rg 3))) := by rw [← hh14]; exact z_keep L94_rw9_4 L94_fw_3 (z_t1 (by decide))
                                                      have f14_fw_4 : h14 (fw 4) = some ((26, 4), .inl (g.2.1 1, 128, .inl (rg 4))) := by rw [← hh14]; exact z_keep L94_rw9_4 L94_fw_4 (z_t1 (by decide))
                                                      have f14_fw_5 : h14 (fw 5) = some ((26, 5), .inl (g.2.1 1, 128, .inl (rg 5))) := by rw [← hh14]; exact z_keep L94_rw9_4 L94_fw_5 (z_t1 (by decide))
                                                      have f14_ma_3 : h14 (ma 3) = some ((25, 0), .inl (g.2.1 5, 6, .inr (.inr (.inr (.inr (fun k => some (fw k))))))) := by rw [← hh14]; exact z_keep L94_rw9_4 L94_ma_3 (z_t1 (by decide))
                                                      have f14_ma_5 : h14 (ma 5) = some ((28, 0), .inl (g.2.1 1, 2048, .inl lg9)) := by rw [← hh14]; exact z_keep L94_rw9_4 L94_ma_5 (z_t1 (by decide))
                                                      have kk14 : z_K (fun y => y = 20 ∨ y = 22 ∨ y = 24 ∨ y = 26 ∨ y = 27 ∨ y = 28) h h14 := kkR4.tr (by rw [← hh14]; exact z_K.put L94_rw9_4 (by first | decide | simp | omega))
                                                      refine lv_iinc (v := nI (f49 + 1)) (lv' := [(3, .int (nI (f49 + 1))), (0, .ref mo), (1, .int (nI i)), (2, .int 4)]) hx hb d_M_schema_118 hl (k := 3) rfl (nI_1 f49) (by decide) rfl (fun ls hl => ?_)
                                                      refine lv_goto (tgt := 94) hx hb d_M_schema_121 (by decide) ?_
                                                      refine ih_94 (f49 + 1) (upd rX4 f49 ((rg 4) f49)) h14 _ _ _ f14_mo f14_ma_1 f14_ma_0 f14_ma_2 f14_rw9_0 f14_rw9_1 f14_rw9_2 f14_rw9_3 f14_rw9_4 f14_rw9_5 f14_ma_4 f14_fw_0 f14_fw_1 f14_fw_2 f14_fw_3 f14_fw_4 f14_fw_5 f14_ma_3 f14_ma_5 (by omega) (fun j hj => (Nat.lt_succ_iff_lt_or_eq.mp hj).elim (fun z => by rw [pk_un (by omega)]; exact hcp4 j z) (fun z => by rw [z, pk_us])) kk14 ?_ hw (lv_sub hl [1, 2, 3, 0] rfl)
                                                      omega
                                                exact loop_94 (S4.1 - 0 + 1) 0 (rf 4) hW3 _ _ _ L94_mo L94_ma_1 L94_ma_0 L94_ma_2 L94_rw9_0 L94_rw9_1 L94_rw9_2 L94_rw9_3 L94_rw9_4 L94_rw9_5 L94_ma_4 L94_fw_0 L94_fw_1 L94_fw_2 L94_fw_3 L94_fw_4 L94_fw_5 L94_ma_3 L94_ma_5 (Nat.zero_le _) (fun j hj => absurd hj (Nat.not_lt_zero _)) kkR3 (by omega) hw (lv_sub hl [2, 3, 1, 0] rfl)
                                            · -- 99: False
                                              have c_99 : ¬ (S4.1 ≤ f39) := fun z => c_99 ((nI_leI (a := S4.1) (b := f39) (by omega) (by omega)).mpr z)
                                              refine lv_aload_n hx hb d_M_schema_102 rfl (lv_at hl 0 rfl) ?_
                                              refine z_get hx hb hts (z_lay i_M) hown hK hw L94_mo rfl 5 (by decide) (z_in k_776 rfl) (fun _ h9 => h9) rfl d_M_schema_103 ?_
                                              refine lv_iload_n hx hb d_M_schema_106 rfl (lv_at hl 2 rfl) ?_
                                              refine z_aldr hx hb hK hw L94_ma_2 5 rfl (by unfold vp_in; decide) d_M_schema_107 ?_
                                              refine z_top (y := va_rf ((fun k => some (rw9 k)) 3)) (by rfl) ?_
                                              refine z_top (y := .ref (rw9 3)) (rfl) ?_
                                              refine lv_iload_n hx hb d_M_schema_108 rfl (lv_at hl 3 rfl) ?_
                                              refine lv_aload_n hx hb d_M_schema_109 rfl (lv_at hl 0 rfl) ?_
                                              refine z_get hx hb hts (z_lay i_M) hown hK hw L94_mo rfl 6 (by decide) (z_in k_777 rfl) (fun _ h9 => h9) rfl d_M_schema_110 ?_
                                              refine lv_iload_n hx hb d_M_schema_113 rfl (lv_at hl 2 rfl) ?_
                                              refine z_aldr hx hb hK hw L94_ma_3 5 rfl (by unfold vp_in; decide) d_M_schema_114 ?_
                                              refine z_top (y := va_rf ((fun k => some (fw k)) 3)) (by rfl) ?_
                                              refine z_top (y := .ref (fw 3)) (rfl) ?_
                                              refine lv_iload_n hx hb d_M_schema_115 rfl (lv_at hl 3 rfl) ?_
                                              refine z_iald hx hb hK hw L94_fw_3 1 rfl (vp_in_nI (by omega) (by omega)) d_M_schema_116 ?_
                                              refine z_topi (y := (rg 3) f39) (by rw [nI_clamp (by omega)]) ?_
                                              refine z_iast hx hb hK hw L94_rw9_3 1 rfl (vp_in_nI (by omega) (by omega)) d_M_schema_117 (fun H locs hw => ?_)
                                              rw [nI_clamp (by omega)] at hw
                                              obtain ⟨h15, hh15⟩ : ∃ x9, z_put hW3 (rw9 3) (24, 3) (.inl (g.2.1 1, 128, .inl (upd rX3 f39 ((rg 3) f39)))) = x9 := ⟨_, rfl⟩
                                              have hw : z_S g A s.heap h15 H locs := by rw [← hh15]; exact hw
                                              have f15_mo : h15 mo = some ((20, 0), .inr (11, mF ma 0 0 (nI i) (nI S4.1) (nI (cc S4)) (nI S4.1) (nI (cc S4)) (nI R.1) (nI (tbC R.2 R.1)) (nI O.length) (nI (sk (tT T) i p4)) (-1))) := by rw [← hh15]; exact z_keep L94_rw9_3 L94_mo (z_t1 (by decide))
                                              have f15_ma_1 : h15 (ma 1) = some ((22, 0), .inl (g.2.1 1, 4000, .inl f2)) := by rw [← hh15]; exact z_keep L94_rw9_3 L94_ma_1 (z_t1 (by decide))
                                              have f15_ma_0 : h15 (ma 0) = some ((21, 0), .inl (g.2.1 1, 4000, .inl ftp)) := by rw [← hh15]; exact z_keep L94_rw9_3 L94_ma_0 (z_t1 (by decide))
                                              have f15_ma_2 : h15 (ma 2) = some ((23, 0), .inl (g.2.1 5, 6, .inr (.inr (.inr (.inr (fun k => some (rw9 k))))))) := by rw [← hh15]; exact z_keep L94_rw9_3 L94_ma_2 (z_t1 (by decide))
                                              have f15_rw9_0 : h15 (rw9 0) = some ((24, 0), .inl (g.2.1 1, 128, .inl rX0)) := by rw [← hh15]; exact z_keep L94_rw9_3 L94_rw9_0 (by decide)
                                              have f15_rw9_1 : h15 (rw9 1) = some ((24, 1), .inl (g.2.1 1, 128, .inl rX1)) := by rw [← hh15]; exact z_keep L94_rw9_3 L94_rw9_1 (by decide)
                                              have f15_rw9_2 : h15 (rw9 2) = some ((24, 2), .inl (g.2.1 1, 128, .inl rX2)) := by rw [← hh15]; exact z_keep L94_rw9_3 L94_rw9_2 (by decide)
                                              have f15_rw9_3 : h15 (rw9 3) = some ((24, 3), .inl (g.2.1 1, 128, .inl (upd rX3 f39 ((rg 3) f39)))) := by rw [← hh15]; exact z_put_eq
                                              have f15_rw9_4 : h15 (rw9 4) = some ((24, 4), .inl (g.2.1 1, 128, .inl (rf 4))) := by rw [← hh15]; exact z_keep L94_rw9_3 L94_rw9_4 (by decide)
                                              have f15_rw9_5 : h15 (rw9 5) = some ((24, 5), .inl (g.2.1 1, 128, .inl (rf 5))) := by rw [← hh15]; exact z_keep L94_rw9_3 L94_rw9_5 (by decide)
                                              have f15_ma_4 : h15 (ma 4) = some ((27, 0), .inl (g.2.1 1, 2048, .inl lf)) := by rw [← hh15]; exact z_keep L94_rw9_3 L94_ma_4 (z_t1 (by decide))
                                              have f15_fw_0 : h15 (fw 0) = some ((26, 0), .inl (g.2.1 1, 128, .inl (rg 0))) := by rw [← hh15]; exact z_keep L94_rw9_3 L94_fw_0 (z_t1 (by decide))
                                              have f15_fw_1 : h15 (fw 1) = some ((26, 1), .inl (g.2.1 1, 128, .inl (rg 1))) := by rw [← hh15]; exact z_keep L94_rw9_3 L94_fw_1 (z_t1 (by decide))
                                              have f15_fw_2 : h15 (fw 2) = some ((26, 2), .inl (g.2.1 1, 128, .inl (rg 2))) := by rw [← hh15]; exact z_keep L94_rw9_3 L94_fw_2 (z_t1 (by decide))
                                              have f15_fw_3 : h15 (fw 3) = some ((26, 3), .inl (g.2.1 1, 128, .inl (rg 3))) := by rw [← hh15]; exact z_keep L94_rw9_3 L94_fw_3 (z_t1 (by decide))
                                              have f15_fw_4 : h15 (fw 4) = some ((26, 4), .inl (g.2.1 1, 128, .inl (rg 4))) := by rw [← hh15]; exact z_keep L94_rw9_3 L94_fw_4 (z_t1 (by decide))
                                              have f15_fw_5 : h15 (fw 5) = some ((26, 5), .inl (g.2.1 1, 128, .inl (rg 5))) := by rw [← hh15]; exact z_keep L94_rw9_3 L94_fw_5 (z_t1 (by decide))
                                              have f15_ma_3 : h15 (ma 3) = some ((25, 0), .inl (g.2.1 5, 6, .inr (.inr (.inr (.inr (fun k => some (fw k))))))) := by rw [← hh15]; exact z_keep L94_rw9_3 L94_ma_3 (z_t1 (by decide))
                                              have f15_ma_5 : h15 (ma 5) = some ((28, 0), .inl (g.2.1 1, 2048, .inl lg9)) := by rw [← hh15]; exact z_keep L94_rw9_3 L94_ma_5 (z_t1 (by decide))
                                              have kk15 : z_K (fun y => y = 20 ∨ y = 22 ∨ y = 24 ∨ y = 26 ∨ y = 27 ∨ y = 28) h h15 := kkR3.tr (by rw [← hh15]; exact z_K.put L94_rw9_3 (by first | decide | simp | omega))
                                              refine lv_iinc (v := nI (f39 + 1)) (lv' := [(3, .int (nI (f39 + 1))), (0, .ref mo), (1, .int (nI i)), (2, .int 3)]) hx hb d_M_schema_118 hl (k := 3) rfl (nI_1 f39) (by decide) rfl (fun ls hl => ?_)
                                              refine lv_goto (tgt := 94) hx hb d_M_schema_121 (by decide) ?_
                                              refine ih_94 (f39 + 1) (upd rX3 f39 ((rg 3) f39)) h15 _ _ _ f15_mo f15_ma_1 f15_ma_0 f15_ma_2 f15_rw9_0 f15_rw9_1 f15_rw9_2 f15_rw9_3 f15_rw9_4 f15_rw9_5 f15_ma_4 f15_fw_0 f15_fw_1 f15_fw_2 f15_fw_3 f15_fw_4 f15_fw_5 f15_ma_3 f15_ma_5 (by omega) (fun j hj => (Nat.lt_succ_iff_lt_or_eq.mp hj).elim (fun z => by rw [pk_un (by omega)]; exact hcp3 j z) (fun z => by rw [z, pk_us])) kk15 ?_ hw (lv_sub hl [1, 2, 3, 0] rfl)
                                              omega
                                        exact loop_94 (S4.1 - 0 + 1) 0 (rf 3) hW2 _ _ _ L94_mo L94_ma_1 L94_ma_0 L94_ma_2 L94_rw9_0 L94_rw9_1 L94_rw9_2 L94_rw9_3 L94_rw9_4 L94_rw9_5 L94_ma_4 L94_fw_0 L94_fw_1 L94_fw_2 L94_fw_3 L94_fw_4 L94_fw_5 L94_ma_3 L94_ma_5 (Nat.zero_le _) (fun j hj => absurd hj (Nat.not_lt_zero _)) kkR2 (by omega) hw (lv_sub hl [2, 3, 1, 0] rfl)
                                    · -- 99: False
                                      have c_99 : ¬ (S4.1 ≤ f29) := fun z => c_99 ((nI_leI (a := S4.1) (b := f29) (by omega) (by omega)).mpr z)
                                      refine lv_aload_n hx hb d_M_schema_102 rfl (lv_at hl 0 rfl) ?_
                                      refine z_get hx hb hts (z_lay i_M) hown hK hw L94_mo rfl 5 (by decide) (z_in k_776 rfl) (fun _ h9 => h9) rfl d_M_schema_103 ?_
                                      refine lv_iload_n hx hb d_M_schema_106 rfl (lv_at hl 2 rfl) ?_
                                      refine z_aldr hx hb hK hw L94_ma_2 5 rfl (by unfold vp_in; decide) d_M_schema_107 ?_
                                      refine z_top (y := va_rf ((fun k => some (rw9 k)) 2)) (by rfl) ?_
                                      refine z_top (y := .ref (rw9 2)) (rfl) ?_
                                      refine lv_iload_n hx hb d_M_schema_108 rfl (lv_at hl 3 rfl) ?_
                                      refine lv_aload_n hx hb d_M_schema_109 rfl (lv_at hl 0 rfl) ?_
                                      refine z_get hx hb hts (z_lay i_M) hown hK hw L94_mo rfl 6 (by decide) (z_in k_777 rfl) (fun _ h9 => h9) rfl d_M_schema_110 ?_
                                      refine lv_iload_n hx hb d_M_schema_113 rfl (lv_at hl 2 rfl) ?_
                                      refine z_aldr hx hb hK hw L94_ma_3 5 rfl (by unfold vp_in; decide) d_M_schema_114 ?_
                                      refine z_top (y := va_rf ((fun k => some (fw k)) 2)) (by rfl) ?_
                                      refine z_top (y := .ref (fw 2)) (rfl) ?_
                                      refine lv_iload_n hx hb d_M_schema_115 rfl (lv_at hl 3 rfl) ?_
                                      refine z_iald hx hb hK hw L94_fw_2 1 rfl (vp_in_nI (by omega) (by omega)) d_M_schema_116 ?_
                                      refine z_topi (y := (rg 2) f29) (by rw [nI_clamp (by omega)]) ?_
                                      refine z_iast hx hb hK hw L94_rw9_2 1 rfl (vp_in_nI (by omega) (by omega)) d_M_schema_117 (fun H locs hw => ?_)
                                      rw [nI_clamp (by omega)] at hw
                                      obtain ⟨h16, hh16⟩ : ∃ x9, z_put hW2 (rw9 2) (24, 2) (.inl (g.2.1 1, 128, .inl (upd rX2 f29 ((rg 2) f29)))) = x9 := ⟨_, rfl⟩
                                      have hw : z_S g A s.heap h16 H locs := by rw [← hh16]; exact hw
                                      have f16_mo : h16 mo = some ((20, 0), .inr (11, mF ma 0 0 (nI i) (nI S4.1) (nI (cc S4)) (nI S4.1) (nI (cc S4)) (nI R.1) (nI (tbC R.2 R.1)) (nI O.length) (nI (sk (tT T) i p4)) (-1))) := by rw [← hh16]; exact z_keep L94_rw9_2 L94_mo (z_t1 (by decide))
                                      have f16_ma_1 : h16 (ma 1) = some ((22, 0), .inl (g.2.1 1, 4000, .inl f2)) := by rw [← hh16]; exact z_keep L94_rw9_2 L94_ma_1 (z_t1 (by decide))
                                      have f16_ma_0 : h16 (ma 0) = some ((21, 0), .inl (g.2.1 1, 4000, .inl ftp)) := by rw [← hh16]; exact z_keep L94_rw9_2 L94_ma_0 (z_t1 (by decide))
                                      have f16_ma_2 : h16 (ma 2) = some ((23, 0), .inl (g.2.1 5, 6, .inr (.inr (.inr (.inr (fun k => some (rw9 k))))))) := by rw [← hh16]; exact z_keep L94_rw9_2 L94_ma_2 (z_t1 (by decide))
                                      have f16_rw9_0 : h16 (rw9 0) = some ((24, 0), .inl (g.2.1 1, 128, .inl rX0)) := by rw [← hh16]; exact z_keep L94_rw9_2 L94_rw9_0 (by decide)
                                      have f16_rw9_1 : h16 (rw9 1) = some ((24, 1), .inl (g.2.1 1, 128, .inl rX1)) := by rw [← hh16]; exact z_keep L94_rw9_2 L94_rw9_1 (by decide)
                                      have f16_rw9_2 : h16 (rw9 2) = some ((24, 2), .inl (g.2.1 1, 128, .inl (upd rX2 f29 ((rg 2) f29)))) := by rw [← hh16]; exact z_put_eq
                                      have f16_rw9_3 : h16 (rw9 3) = some ((24, 3), .inl (g.2.1 1, 128, .inl (rf 3))) := by rw [← hh16]; exact z_keep L94_rw9_2 L94_rw9_3 (by decide)
                                      have f16_rw9_4 : h16 (rw9 4) = some ((24, 4), .inl (g.2.1 1, 128, .inl (rf 4))) := by rw [← hh16]; exact z_keep L94_rw9_2 L94_rw9_4 (by decide)
                                      have f16_rw9_5 : h16 (rw9 5) = some ((24, 5), .inl (g.2.1 1, 128, .inl (rf 5))) := by rw [← hh16]; exact z_keep L94_rw9_2 L94_rw9_5 (by decide)
                                      have f16_ma_4 : h16 (ma 4) = some ((27, 0), .inl (g.2.1 1, 2048, .inl lf)) := by rw [← hh16]; exact z_keep L94_rw9_2 L94_ma_4 (z_t1 (by decide))
                                      have f16_fw_0 : h16 (fw 0) = some ((26, 0), .inl (g.2.1 1, 128, .inl (rg 0))) := by rw [← hh16]; exact z_keep L94_rw9_2 L94_fw_0 (z_t1 (by decide))
                                      have f16_fw_1 : h16 (fw 1) = some ((26, 1), .inl (g.2.1 1, 128, .inl (rg 1))) := by rw [← hh16]; exact z_keep L94_rw9_2 L94_fw_1 (z_t1 (by decide))
                                      have f16_fw_2 : h16 (fw 2) = some ((26, 2), .inl (g.2.1 1, 128, .inl (rg 2))) := by rw [← hh16]; exact z_keep L94_rw9_2 L94_fw_2 (z_t1 (by decide))
                                      have f16_fw_3 : h16 (fw 3) = some ((26, 3), .inl (g.2.1 1, 128, .inl (rg 3))) := by rw [← hh16]; exact z_keep L94_rw9_2 L94_fw_3 (z_t1 (by decide))
                                      have f16_fw_4 : h16 (fw 4) = some ((26, 4), .inl (g.2.1 1, 128, .inl (rg 4))) := by rw [← hh16]; exact z_keep L94_rw9_2 L94_fw_4 (z_t1 (by decide))
                                      have f16_fw_5 : h16 (fw 5) = some ((26, 5), .inl (g.2.1 1, 128, .inl (rg 5))) := by rw [← hh16]; exact z_keep L94_rw9_2 L94_fw_5 (z_t1 (by decide))
                                      have f16_ma_3 : h16 (ma 3) = some ((25, 0), .inl (g.2.1 5, 6, .inr (.inr (.inr (.inr (fun k => some (fw k))))))) := by rw [← hh16]; exact z_keep L94_rw9_2 L94_ma_3 (z_t1 (by decide))
                                      have f16_ma_5 : h16 (ma 5) = some ((28, 0), .inl (g.2.1 1, 2048, .inl lg9)) := by rw [← hh16]; exact z_keep L94_rw9_2 L94_ma_5 (z_t1 (by decide))
                                      have kk16 : z_K (fun y => y = 20 ∨ y = 22 ∨ y = 24 ∨ y = 26 ∨ y = 27 ∨ y = 28) h h16 := kkR2.tr (by rw [← hh16]; exact z_K.put L94_rw9_2 (by first | decide | simp | omega))
                                      refine lv_iinc (v := nI (f29 + 1)) (lv' := [(3, .int (nI (f29 + 1))), (0, .ref mo), (1, .int (nI i)), (2, .int 2)]) hx hb d_M_schema_118 hl (k := 3) rfl (nI_1 f29) (by decide) rfl (fun ls hl => ?_)
                                      refine lv_goto (tgt := 94) hx hb d_M_schema_121 (by decide) ?_
                                      refine ih_94 (f29 + 1) (upd rX2 f29 ((rg 2) f29)) h16 _ _ _ f16_mo f16_ma_1 f16_ma_0 f16_ma_2 f16_rw9_0 f16_rw9_1 f16_rw9_2 f16_rw9_3 f16_rw9_4 f16_rw9_5 f16_ma_4 f16_fw_0 f16_fw_1 f16_fw_2 f16_fw_3 f16_fw_4 f16_fw_5 f16_ma_3 f16_ma_5 (by omega) (fun j hj => (Nat.lt_succ_iff_lt_or_eq.mp hj).elim (fun z => by rw [pk_un (by omega)]; exact hcp2 j z) (fun z => by rw [z, pk_us])) kk16 ?_ hw (lv_sub hl [1, 2, 3, 0] rfl)
                                      omega
                                exact loop_94 (S4.1 - 0 + 1) 0 (rf 2) hW1 _ _ _ L94_mo L94_ma_1 L94_ma_0 L94_ma_2 L94_rw9_0 L94_rw9_1 L94_rw9_2 L94_rw9_3 L94_rw9_4 L94_rw9_5 L94_ma_4 L94_fw_0 L94_fw_1 L94_fw_2 L94_fw_3 L94_fw_4 L94_fw_5 L94_ma_3 L94_ma_5 (Nat.zero_le _) (fun j hj => absurd hj (Nat.not_lt_zero _)) kkR1 (by omega) hw (lv_sub hl [2, 3, 1, 0] rfl)
                            · -- 99: False
                              have c_99 : ¬ (S4.1 ≤ f19) := fun z => c_99 ((nI_leI (a := S4.1) (b := f19) (by omega) (by omega)).mpr z)
                              refine lv_aload_n hx hb d_M_schema_102 rfl (lv_at hl 0 rfl) ?_
                              refine z_get hx hb hts (z_lay i_M) hown hK hw L94_mo rfl 5 (by decide) (z_in k_776 rfl) (fun _ h9 => h9) rfl d_M_schema_103 ?_
                              refine lv_iload_n hx hb d_M_schema_106 rfl (lv_at hl 2 rfl) ?_
                              refine z_aldr hx hb hK hw L94_ma_2 5 rfl (by unfold vp_in; decide) d_M_schema_107 ?_
                              refine z_top (y := va_rf ((fun k => some (rw9 k)) 1)) (by rfl) ?_
                              refine z_top (y := .ref (rw9 1)) (rfl) ?_
                              refine lv_iload_n hx hb d_M_schema_108 rfl (lv_at hl 3 rfl) ?_
                              refine lv_aload_n hx hb d_M_schema_109 rfl (lv_at hl 0 rfl) ?_
                              refine z_get hx hb hts (z_lay i_M) hown hK hw L94_mo rfl 6 (by decide) (z_in k_777 rfl) (fun _ h9 => h9) rfl d_M_schema_110 ?_
                              refine lv_iload_n hx hb d_M_schema_113 rfl (lv_at hl 2 rfl) ?_
                              refine z_aldr hx hb hK hw L94_ma_3 5 rfl (by unfold vp_in; decide) d_M_schema_114 ?_
                              refine z_top (y := va_rf ((fun k => some (fw k)) 1)) (by rfl) ?_
                              refine z_top (y := .ref (fw 1)) (rfl) ?_
                              refine lv_iload_n hx hb d_M_schema_115 rfl (lv_at hl 3 rfl) ?_
                              refine z_iald hx hb hK hw L94_fw_1 1 rfl (vp_in_nI (by omega) (by omega)) d_M_schema_116 ?_
                              refine z_topi (y := (rg 1) f19) (by rw [nI_clamp (by omega)]) ?_
                              refine z_iast hx hb hK hw L94_rw9_1 1 rfl (vp_in_nI (by omega) (by omega)) d_M_schema_117 (fun H locs hw => ?_)
                              rw [nI_clamp (by omega)] at hw
                              obtain ⟨h17, hh17⟩ : ∃ x9, z_put hW1 (rw9 1) (24, 1) (.inl (g.2.1 1, 128, .inl (upd rX1 f19 ((rg 1) f19)))) = x9 := ⟨_, rfl⟩
                              have hw : z_S g A s.heap h17 H locs := by rw [← hh17]; exact hw
                              have f17_mo : h17 mo = some ((20, 0), .inr (11, mF ma 0 0 (nI i) (nI S4.1) (nI (cc S4)) (nI S4.1) (nI (cc S4)) (nI R.1) (nI (tbC R.2 R.1)) (nI O.length) (nI (sk (tT T) i p4)) (-1))) := by rw [← hh17]; exact z_keep L94_rw9_1 L94_mo (z_t1 (by decide))
                              have f17_ma_1 : h17 (ma 1) = some ((22, 0), .inl (g.2.1 1, 4000, .inl f2)) := by rw [← hh17]; exact z_keep L94_rw9_1 L94_ma_1 (z_t1 (by decide))
                              have f17_ma_0 : h17 (ma 0) = some ((21, 0), .inl (g.2.1 1, 4000, .inl ftp)) := by rw [← hh17]; exact z_keep L94_rw9_1 L94_ma_0 (z_t1 (by decide))
                              have f17_ma_2 : h17 (ma 2) = some ((23, 0), .inl (g.2.1 5, 6, .inr (.inr (.inr (.inr (fun k => some (rw9 k))))))) := by rw [← hh17]; exact z_keep L94_rw9_1 L94_ma_2 (z_t1 (by decide))
                              have f17_rw9_0 : h17 (rw9 0) = some ((24, 0), .inl (g.2.1 1, 128, .inl rX0)) := by rw [← hh17]; exact z_keep L94_rw9_1 L94_rw9_0 (by decide)
                              have f17_rw9_1 : h17 (rw9 1) = some ((24, 1), .inl (g.2.1 1, 128, .inl (upd rX1 f19 ((rg 1) f19)))) := by rw [← hh17]; exact z_put_eq
                              have f17_rw9_2 : h17 (rw9 2) = some ((24, 2), .inl (g.2.1 1, 128, .inl (rf 2))) := by rw [← hh17]; exact z_keep L94_rw9_1 L94_rw9_2 (by decide)
                              have f17_rw9_3 : h17 (rw9 3) = some ((24, 3), .inl (g.2.1 1, 128, .inl (rf 3))) := by rw [← hh17]; exact z_keep L94_rw9_1 L94_rw9_3 (by decide)
                              have f17_rw9_4 : h17 (rw9 4) = some ((24, 4), .inl (g.2.1 1, 128, .inl (rf 4))) := by rw [← hh17]; exact z_keep L94_rw9_1 L94_rw9_4 (by decide)
                              have f17_rw9_5 : h17 (rw9 5) = some ((24, 5), .inl (g.2.1 1, 128, .inl (rf 5))) := by rw [← hh17]; exact z_keep L94_rw9_1 L94_rw9_5 (by decide)
                              have f17_ma_4 : h17 (ma 4) = some ((27, 0), .inl (g.2.1 1, 2048, .inl lf)) := by rw [← hh17]; exact z_keep L94_rw9_1 L94_ma_4 (z_t1 (by decide))
                              have f17_fw_0 : h17 (fw 0) = some ((26, 0), .inl (g.2.1 1, 128, .inl (rg 0))) := by rw [← hh17]; exact z_keep L94_rw9_1 L94_fw_0 (z_t1 (by decide))
                              have f17_fw_1 : h17 (fw 1) = some ((26, 1), .inl (g.2.1 1, 128, .inl (rg 1))) := by rw [← hh17]; exact z_keep L94_rw9_1 L94_fw_1 (z_t1 (by decide))
                              have f17_fw_2 : h17 (fw 2) = some ((26, 2), .inl (g.2.1 1, 128, .inl (rg 2))) := by rw [← hh17]; exact z_keep L94_rw9_1 L94_fw_2 (z_t1 (by decide))
                              have f17_fw_3 : h17 (fw 3) = some ((26, 3), .inl (g.2.1 1, 128, .inl (rg 3))) := by rw [← hh17]; exact z_keep L94_rw9_1 L94_fw_3 (z_t1 (by decide))
                              have f17_fw_4 : h17 (fw 4) = some ((26, 4), .inl (g.2.1 1, 128, .inl (rg 4))) := by rw [← hh17]; exact z_keep L94_rw9_1 L94_fw_4 (z_t1 (by decide))
                              have f17_fw_5 : h17 (fw 5) = some ((26, 5), .inl (g.2.1 1, 128, .inl (rg 5))) := by rw [← hh17]; exact z_keep L94_rw9_1 L94_fw_5 (z_t1 (by decide))
                              have f17_ma_3 : h17 (ma 3) = some ((25, 0), .inl (g.2.1 5, 6, .inr (.inr (.inr (.inr (fun k => some (fw k))))))) := by rw [← hh17]; exact z_keep L94_rw9_1 L94_ma_3 (z_t1 (by decide))
                              have f17_ma_5 : h17 (ma 5) = some ((28, 0), .inl (g.2.1 1, 2048, .inl lg9)) := by rw [← hh17]; exact z_keep L94_rw9_1 L94_ma_5 (z_t1 (by decide))
                              have kk17 : z_K (fun y => y = 20 ∨ y = 22 ∨ y = 24 ∨ y = 26 ∨ y = 27 ∨ y = 28) h h17 := kkR1.tr (by rw [← hh17]; exact z_K.put L94_rw9_1 (by first | decide | simp | omega))
                              refine lv_iinc (v := nI (f19 + 1)) (lv' := [(3, .int (nI (f19 + 1))), (0, .ref mo), (1, .int (nI i)), (2, .int 1)]) hx hb d_M_schema_118 hl (k := 3) rfl (nI_1 f19) (by decide) rfl (fun ls hl => ?_)
                              refine lv_goto (tgt := 94) hx hb d_M_schema_121 (by decide) ?_
                              refine ih_94 (f19 + 1) (upd rX1 f19 ((rg 1) f19)) h17 _ _ _ f17_mo f17_ma_1 f17_ma_0 f17_ma_2 f17_rw9_0 f17_rw9_1 f17_rw9_2 f17_rw9_3 f17_rw9_4 f17_rw9_5 f17_ma_4 f17_fw_0 f17_fw_1 f17_fw_2 f17_fw_3 f17_fw_4 f17_fw_5 f17_ma_3 f17_ma_5 (by omega) (fun j hj => (Nat.lt_succ_iff_lt_or_eq.mp hj).elim (fun z => by rw [pk_un (by omega)]; exact hcp1 j z) (fun z => by rw [z, pk_us])) kk17 ?_ hw (lv_sub hl [1, 2, 3, 0] rfl)
                              omega
                        exact loop_94 (S4.1 - 0 + 1) 0 (rf 1) hW0 _ _ _ L94_mo L94_ma_1 L94_ma_0 L94_ma_2 L94_rw9_0 L94_rw9_1 L94_rw9_2 L94_rw9_3 L94_rw9_4 L94_rw9_5 L94_ma_4 L94_fw_0 L94_fw_1 L94_fw_2 L94_fw_3 L94_fw_4 L94_fw_5 L94_ma_3 L94_ma_5 (Nat.zero_le _) (fun j hj => absurd hj (Nat.not_lt_zero _)) kkR0 (by omega) hw (lv_sub hl [2, 3, 1, 0] rfl)
                    · -- 99: False
                      have c_99 : ¬ (S4.1 ≤ f09) := fun z => c_99 ((nI_leI (a := S4.1) (b := f09) (by omega) (by omega)).mpr z)
                      refine lv_aload_n hx hb d_M_schema_102 rfl (lv_at hl 0 rfl) ?_
                      refine z_get hx hb hts (z_lay i_M) hown hK hw L94_mo rfl 5 (by decide) (z_in k_776 rfl) (fun _ h9 => h9) rfl d_M_schema_103 ?_
                      refine lv_iload_n hx hb d_M_schema_106 rfl (lv_at hl 2 rfl) ?_
                      refine z_aldr hx hb hK hw L94_ma_2 5 rfl (by unfold vp_in; decide) d_M_schema_107 ?_
                      refine z_top (y := va_rf ((fun k => some (rw9 k)) 0)) (by rfl) ?_
                      refine z_top (y := .ref (rw9 0)) (rfl) ?_
                      refine lv_iload_n hx hb d_M_schema_108 rfl (lv_at hl 3 rfl) ?_
                      refine lv_aload_n hx hb d_M_schema_109 rfl (lv_at hl 0 rfl) ?_
                      refine z_get hx hb hts (z_lay i_M) hown hK hw L94_mo rfl 6 (by decide) (z_in k_777 rfl) (fun _ h9 => h9) rfl d_M_schema_110 ?_
                      refine lv_iload_n hx hb d_M_schema_113 rfl (lv_at hl 2 rfl) ?_
                      refine z_aldr hx hb hK hw L94_ma_3 5 rfl (by unfold vp_in; decide) d_M_schema_114 ?_
                      refine z_top (y := va_rf ((fun k => some (fw k)) 0)) (by rfl) ?_
                      refine z_top (y := .ref (fw 0)) (rfl) ?_
                      refine lv_iload_n hx hb d_M_schema_115 rfl (lv_at hl 3 rfl) ?_
                      refine z_iald hx hb hK hw L94_fw_0 1 rfl (vp_in_nI (by omega) (by omega)) d_M_schema_116 ?_
                      refine z_topi (y := (rg 0) f09) (by rw [nI_clamp (by omega)]) ?_
                      refine z_iast hx hb hK hw L94_rw9_0 1 rfl (vp_in_nI (by omega) (by omega)) d_M_schema_117 (fun H locs hw => ?_)
                      rw [nI_clamp (by omega)] at hw
                      obtain ⟨h18, hh18⟩ : ∃ x9, z_put hW0 (rw9 0) (24, 0) (.inl (g.2.1 1, 128, .inl (upd rX0 f09 ((rg 0) f09)))) = x9 := ⟨_, rfl⟩
                      have hw : z_S g A s.heap h18 H locs := by rw [← hh18]; exact hw
                      have f18_mo : h18 mo = some ((20, 0), .inr (11, mF ma 0 0 (nI i) (nI S4.1) (nI (cc S4)) (nI S4.1) (nI (cc S4)) (nI R.1) (nI (tbC R.2 R.1)) (nI O.length) (nI (sk (tT T) i p4)) (-1))) := by rw [← hh18]; exact z_keep L94_rw9_0 L94_mo (z_t1 (by decide))
                      have f18_ma_1 : h18 (ma 1) = some ((22, 0), .inl (g.2.1 1, 4000, .inl f2)) := by rw [← hh18]; exact z_keep L94_rw9_0 L94_ma_1 (z_t1 (by decide))
                      have f18_ma_0 : h18 (ma 0) = some ((21, 0), .inl (g.2.1 1, 4000, .inl ftp)) := by rw [← hh18]; exact z_keep L94_rw9_0 L94_ma_0 (z_t1 (by decide))
                      have f18_ma_2 : h18 (ma 2) = some ((23, 0), .inl (g.2.1 5, 6, .inr (.inr (.inr (.inr (fun k => some (rw9 k))))))) := by rw [← hh18]; exact z_keep L94_rw9_0 L94_ma_2 (z_t1 (by decide))
                      have f18_rw9_0 : h18 (rw9 0) = some ((24, 0), .inl (g.2.1 1, 128, .inl (upd rX0 f09 ((rg 0) f09)))) := by rw [← hh18]; exact z_put_eq
                      have f18_rw9_1 : h18 (rw9 1) = some ((24, 1), .inl (g.2.1 1, 128, .inl (rf 1))) := by rw [← hh18]; exact z_keep L94_rw9_0 L94_rw9_1 (by decide)
                      have f18_rw9_2 : h18 (rw9 2) = some ((24, 2), .inl (g.2.1 1, 128, .inl (rf 2))) := by rw [← hh18]; exact z_keep L94_rw9_0 L94_rw9_2 (by decide)
                      have f18_rw9_3 : h18 (rw9 3) = some ((24, 3), .inl (g.2.1 1, 128, .inl (rf 3))) := by rw [← hh18]; exact z_keep L94_rw9_0 L94_rw9_3 (by decide)
                      have f18_rw9_4 : h18 (rw9 4) = some ((24, 4), .inl (g.2.1 1, 128, .inl (rf 4))) := by rw [← hh18]; exact z_keep L94_rw9_0 L94_rw9_4 (by decide)
                      have f18_rw9_5 : h18 (rw9 5) = some ((24, 5), .inl (g.2.1 1, 128, .inl (rf 5))) := by rw [← hh18]; exact z_keep L94_rw9_0 L94_rw9_5 (by decide)
                      have f18_ma_4 : h18 (ma 4) = some ((27, 0), .inl (g.2.1 1, 2048, .inl lf)) := by rw [← hh18]; exact z_keep L94_rw9_0 L94_ma_4 (z_t1 (by decide))
                      have f18_fw_0 : h18 (fw 0) = some ((26, 0), .inl (g.2.1 1, 128, .inl (rg 0))) := by rw [← hh18]; exact z_keep L94_rw9_0 L94_fw_0 (z_t1 (by decide))
                      have f18_fw_1 : h18 (fw 1) = some ((26, 1), .inl (g.2.1 1, 128, .inl (rg 1))) := by rw [← hh18]; exact z_keep L94_rw9_0 L94_fw_1 (z_t1 (by decide))
                      have f18_fw_2 : h18 (fw 2) = some ((26, 2), .inl (g.2.1 1, 128, .inl (rg 2))) := by rw [← hh18]; exact z_keep L94_rw9_0 L94_fw_2 (z_t1 (by decide))
                      have f18_fw_3 : h18 (fw 3) = some ((26, 3), .inl (g.2.1 1, 128, .inl (rg 3))) := by rw [← hh18]; exact z_keep L94_rw9_0 L94_fw_3 (z_t1 (by decide))
                      have f18_fw_4 : h18 (fw 4) = some ((26, 4), .inl (g.2.1 1, 128, .inl (rg 4))) := by rw [← hh18]; exact z_keep L94_rw9_0 L94_fw_4 (z_t1 (by decide))
                      have f18_fw_5 : h18 (fw 5) = some ((26, 5), .inl (g.2.1 1, 128, .inl (rg 5))) := by rw [← hh18]; exact z_keep L94_rw9_0 L94_fw_5 (z_t1 (by decide))
                      have f18_ma_3 : h18 (ma 3) = some ((25, 0), .inl (g.2.1 5, 6, .inr (.inr (.inr (.inr (fun k => some (fw k))))))) := by rw [← hh18]; exact z_keep L94_rw9_0 L94_ma_3 (z_t1 (by decide))
                      have f18_ma_5 : h18 (ma 5) = some ((28, 0), .inl (g.2.1 1, 2048, .inl lg9)) := by rw [← hh18]; exact z_keep L94_rw9_0 L94_ma_5 (z_t1 (by decide))
                      have kk18 : z_K (fun y => y = 20 ∨ y = 22 ∨ y = 24 ∨ y = 26 ∨ y = 27 ∨ y = 28) h h18 := kkR0.tr (by rw [← hh18]; exact z_K.put L94_rw9_0 (by first | decide | simp | omega))
                      refine lv_iinc (v := nI (f09 + 1)) (lv' := [(3, .int (nI (f09 + 1))), (0, .ref mo), (1, .int (nI i)), (2, .int 0)]) hx hb d_M_schema_118 hl (k := 3) rfl (nI_1 f09) (by decide) rfl (fun ls hl => ?_)
                      refine lv_goto (tgt := 94) hx hb d_M_schema_121 (by decide) ?_
                      refine ih_94 (f09 + 1) (upd rX0 f09 ((rg 0) f09)) h18 _ _ _ f18_mo f18_ma_1 f18_ma_0 f18_ma_2 f18_rw9_0 f18_rw9_1 f18_rw9_2 f18_rw9_3 f18_rw9_4 f18_rw9_5 f18_ma_4 f18_fw_0 f18_fw_1 f18_fw_2 f18_fw_3 f18_fw_4 f18_fw_5 f18_ma_3 f18_ma_5 (by omega) (fun j hj => (Nat.lt_succ_iff_lt_or_eq.mp hj).elim (fun z => by rw [pk_un (by omega)]; exact hcp0 j z) (fun z => by rw [z, pk_us])) kk18 ?_ hw (lv_sub hl [1, 2, 3, 0] rfl)
                      omega
                exact loop_94 (S4.1 - 0 + 1) 0 (rf 0) h10 _ _ _ f10_mo f10_ma_1 f10_ma_0 f10_ma_2 f10_rw9_0 f10_rw9_1 f10_rw9_2 f10_rw9_3 f10_rw9_4 f10_rw9_5 f10_ma_4 f10_fw_0 f10_fw_1 f10_fw_2 f10_fw_3 f10_fw_4 f10_fw_5 f10_ma_3 f10_ma_5 (Nat.zero_le _) (fun j hj => absurd hj (Nat.not_lt_zero _)) kk10 (by omega) hw (lv_sub hl [2, 3, 1, 0] rfl)
            · -- 60: False
              exact absurd rfl c_60
    exact loop_26 (128 + 1) 128 0 sch0 h4 _ _ _ f4_mo f4_ma_1 f4_ma_0 f4_ma_2 f4_rw9_0 f4_rw9_1 f4_rw9_2 f4_rw9_3 f4_rw9_4 f4_rw9_5 f4_ma_4 (Nat.zero_le _) kk4 (hSf.k sg_Fh4 (by omega) (by omega) (by omega)) scB0 (Nat.le_refl _) (by rw [eX]; exact schR_eq _ _) (by omega) hw (lv_sub hl [0, 1] rfl)
  · -- 10: False
    exact absurd c_10 (by decide)

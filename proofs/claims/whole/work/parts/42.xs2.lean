/-- two addresses are not one; said so that arithmetic doesn't look at it -/
def z_NE (a b : Nat) : Prop := a ≠ b
def sch0 : Sch := (0, fun _ => (0, 0, 0, 0, 0, 0, []))
theorem SchP.zero {g : z_G} {h : z_H} {r q fa ca : Nat} {ff : Nat → Option Nat} {cf : Nat → Int32} (h1 : h q = some ((r, 0), .inr (3, [.ref fa, .ref ca, .int 0, .int 0, .int 0]))) (h2 : h fa = some ((r, 1), .inl (g.2.1 3, 128, .inr (.inr (.inr (.inr ff)))))) (h3 : h ca = some ((r, 2), .inl (g.2.1 1, 64, .inl cf))) : SchP g h r q sch0 fa ca (fun _ => 0) (fun _ => 0) ff cf (fun _ _ => 0) :=
  ⟨h1, h2, h3, fun i hi => absurd hi (Nat.not_lt_zero _), fun i hi => absurd hi (Nat.not_lt_zero _), fun i hi => absurd hi (Nat.not_lt_zero _), fun i hi => absurd hi (Nat.not_lt_zero _), by decide, by decide⟩
theorem grOK0 : grOK sch0 := fun i hi => absurd hi (Nat.not_lt_zero _)
theorem c_readSchema0 (l : Launch) (g : z_G) (h : z_H) {r q rd sc b len n : Nat} {f : Nat → Int32} {fa ws wd : Int32} {t : Nat → Nat} {X : Res} (eX : X = schR t n) (hrd : h rd = some ((7, 0), .inr (8, [.ref sc, .ref q]))) (hsc : h sc = some ((6, 0), .inr (7, [.ref b, .int (nI n), .int (nI 0), .int fa, .int ws, .int wd]))) (hb0 : h b = some ((3, 0), .inl (g.2.1 0, len, .inl f))) (hn : n ≤ len) (hlen : len < 2 ^ 31) (hf : ∀ k, k < n → t k < 256 ∧ f k = sb_b (t k)) (hl29 : len < 2 ^ 29) (hl16 : 16 < len) (hfb : z_fb f len) (hr0 : 100 ≤ r) (hA9 : SchAt g h r q sch0) : z_C l y_SchemaReader_readSchema prog_10_method_2_code 2 (Option.some Jvm.ClassFile.FieldType.boolean) 201 5900 (2 * rSz X) (25 * rSz X) g [.ref rd] h (rdP g X h r q sc b n) := by
  subst eX
  exact c_readSchema (S := sch0) (p := 0) l g h hrd hsc hb0 hn hlen hf (Nat.zero_le _) hl29 hl16 hfb hr0 hA9 grOK0 (by decide)
theorem schR_rsz (t : Nat → Nat) (n : Nat) : rSz (schR t n) ≤ 128 := (topL_ok (fun p S z => fldD_ok 17 0 p S (-1) z) 129 true 0 sch0 (by decide)).2

set_option maxHeartbeats 300000 in
set_option maxRecDepth 100000 in
theorem x_find_few (l : Launch) (g : z_G) (h : z_H) {xo : Nat} {T : List Nat} {S : Sch} {R : Rec} {O : List Nat} {j : Nat} {k n : Int32}  (hX : XAt g h xo T S R O j) (ho : n < 0 ∨ nI T.length < n) : z_C l y_X_find prog_1_method_8_code 4 (Option.some Jvm.ClassFile.FieldType.int) 3 100 1 6 g [.ref xo, .int k, .int n] h (fun x h1 => x = some (.int (-2)) ∧ h = h1) := by
  refine z_C.of (by decide) (Nat.le_of_ble_eq_true rfl) (fun pg en s m below meth cd A ls hx hb hml hr hts hown hlocks hnm hK hE hA hw hl => ?_)
  have hl : lv_has ls 4 [(0, .ref xo), (1, .int k), (2, .int n)] := hl
  obtain ⟨tp, b, ow, kn, pr, sp, r, mr, mr2, ra2, f, rf2, a2, c2, hxo, htp0, hb0, ⟨hfb, hT4, hT⟩, ⟨hO, hj⟩, ⟨⟨fa9, ca, adS, na, ff, cf, nf, hS⟩, hr0, hgr⟩, ⟨⟨ra, ad, tx, rf, tf, hN⟩, hpa⟩, ⟨hsp, hra2⟩, hmr⟩ := id hX
  have hkn := hS.1
  have hpr := hN.1
  have hs8 : S.1 ≤ 128 := hS.2.2.2.2.2.2.2.1
  have hcc8 : cc S ≤ 64 := hS.2.2.2.2.2.2.2.2
  have hR2 : R.1 ≤ 2000 := hN.2.2.2.2.2.1
  refine lv_aload_n hx hb d_X_find_0 rfl (lv_at hl 0 rfl) ?_
  refine z_get hx hb hts (z_lay i_X) hown hK hw hxo rfl 0 (by decide) (z_in k_146 rfl) (fun _ h9 => h9) rfl d_X_find_1 ?_
  refine lv_iload_n hx hb d_X_find_4 rfl (lv_at hl 2 rfl) ?_
  refine z_callV (n := 1) (As := [.int n]) (rest := []) ⟨hx, hb, hml, hown, hts⟩ (c_Tape_cut_few l g h htp0 hT4 ho) (z_in k_181 rfl) (z_in k_2 rfl) (z_in k_178 rfl) (z_in k_179 rfl) (z_in k_180 rfl) (by decide +kernel) ⟨by first | exact Nat.le_of_ble_eq_true rfl | (dsimp only; omega) | omega, by first | exact Nat.le_of_ble_eq_true rfl | (dsimp only; omega) | omega⟩ hK hE hw hA rfl htp0 rfl hl.1 (Nat.le_of_ble_eq_true rfl) d_X_find_5 ⟨by first | exact Nat.le_of_ble_eq_true rfl | (dsimp only; omega) | omega, by first | exact Nat.le_of_ble_eq_true rfl | (dsimp only; omega) | omega⟩ rfl (fun r9 h9 H locs hp hw => ?_)
  obtain ⟨r8, h8⟩ := hp
  subst r8
  subst h8
  refine W.eq (g2 := F0 m 8 ls [.null]) rfl ?_
  refine lv_astore_nN (lv' := [(3, .null), (0, .ref xo), (1, .int k), (2, .int n)]) hx hb d_X_find_8 rfl hl (by decide) rfl (fun ls hl => ?_)
  refine lv_aload_nN hx hb d_X_find_9 rfl (lv_at hl 0 rfl) ?_
  refine lv_ifnonnullN hx hb d_X_find_10 ?_
  refine lv_bipush (v := (-2)) hx hb d_X_find_13 (by decide) ?_
  refine lv_goto (tgt := 29) hx hb d_X_find_15 (by decide) ?_
  exact z_iret hx hb hr hlocks hw ⟨rfl, rfl⟩ (by decide) (by decide) d_X_find_29

set_option maxHeartbeats 300000 in
set_option maxRecDepth 100000 in
theorem x_find_ok (l : Launch) (g : z_G) (h : z_H) {xo : Nat} {T : List Nat} {S : Sch} {R : Rec} {O : List Nat} {j : Nat} {k : Int32} {i : Nat}  (hX : XAt g h xo T S R O j) (hi : i ≤ T.length) : z_C l y_X_find prog_1_method_8_code 4 (Option.some Jvm.ClassFile.FieldType.int) 3 100 1 6 g [.ref xo, .int k, .int (nI i)] h (fun x h1 => XPt g h x (.int (nmd S k (tT T) 0 i)) h1 xo [] S R O j) := by
  refine z_C.of (by decide) (Nat.le_of_ble_eq_true rfl) (fun pg en s m below meth cd A ls hx hb hml hr hts hown hlocks hnm hK hE hA hw hl => ?_)
  have hl : lv_has ls 4 [(0, .ref xo), (1, .int k), (2, .int (nI i))] := hl
  obtain ⟨tp, b, ow, kn, pr, sp, r, mr, mr2, ra2, f, rf2, a2, c2, hxo, htp0, hb0, ⟨hfb, hT4, hT⟩, ⟨hO, hj⟩, ⟨⟨fa9, ca, adS, na, ff, cf, nf, hS⟩, hr0, hgr⟩, ⟨⟨ra, ad, tx, rf, tf, hN⟩, hpa⟩, ⟨hsp, hra2⟩, hmr⟩ := id hX
  have hkn := hS.1
  have hpr := hN.1
  have hs8 : S.1 ≤ 128 := hS.2.2.2.2.2.2.2.1
  have hcc8 : cc S ≤ 64 := hS.2.2.2.2.2.2.2.2
  have hR2 : R.1 ≤ 2000 := hN.2.2.2.2.2.1
  have kk0 : z_K (fun y => y = 2 ∨ y = 6) h h := z_K.rf
  refine lv_aload_n hx hb d_X_find_0 rfl (lv_at hl 0 rfl) ?_
  refine z_get hx hb hts (z_lay i_X) hown hK hw hxo rfl 0 (by decide) (z_in k_146 rfl) (fun _ h9 => h9) rfl d_X_find_1 ?_
  refine lv_iload_n hx hb d_X_find_4 rfl (lv_at hl 2 rfl) ?_
  refine z_callV (n := 1) (As := [.int (nI i)]) (rest := []) ⟨hx, hb, hml, hown, hts⟩ (c_Tape_cut (k := i) l g h htp0 hT4 hi) (z_in k_181 rfl) (z_in k_2 rfl) (z_in k_178 rfl) (z_in k_179 rfl) (z_in k_180 rfl) (by decide +kernel) ⟨by first | exact Nat.le_of_ble_eq_true rfl | (dsimp only; omega) | omega, by first | exact Nat.le_of_ble_eq_true rfl | (dsimp only; omega) | omega⟩ hK hE hw hA rfl htp0 rfl hl.1 (Nat.le_of_ble_eq_true rfl) d_X_find_5 ⟨by first | exact Nat.le_of_ble_eq_true rfl | (dsimp only; omega) | omega, by first | exact Nat.le_of_ble_eq_true rfl | (dsimp only; omega) | omega⟩ rfl (fun r9 h9 H locs hp hw => ?_)
  obtain ⟨sc, r8, hscC, htpC, k8⟩ := hp
  subst r8
  obtain ⟨h1, e7⟩ : ∃ x9, x9 = h9 := ⟨_, rfl⟩
  subst e7
  have g1_xo : h1 xo = some ((1, 0), .inr (0, [.ref tp, .ref ow, .ref kn, .ref pr, .ref sp])) := k8 _ _ _ hxo (by simp; try omega)
  have g1_b : h1 b = some ((3, 0), .inl (g.2.1 0, 4000, .inl f)) := k8 _ _ _ hb0 (by simp; try omega)
  have g1_kn : h1 kn = some ((r, 0), .inr (3, [.ref fa9, .ref ca, .int (nI S.1), .int (nI (cc S)), .int (nI (rq S (-1)))])) := k8 _ _ _ hkn (by simp; try omega)
  have g1_pr : h1 pr = some ((mr, 0), .inr (5, [.ref ra, .int (nI R.1), .int (nI (tbC R.2 R.1))])) := k8 _ _ _ hpr (by simp; try omega)
  have kk1 : z_K (fun y => y = 2 ∨ y = 6) h h1 := kk0.tr (k8.mono (fun y z => by rcases z with z | z <;> simp [z]))
  refine W.eq (g2 := F0 m 8 ls [.ref sc]) rfl ?_
  refine lv_astore_n (lv' := [(3, .ref sc), (0, .ref xo), (1, .int k), (2, .int (nI i))]) hx hb d_X_find_8 rfl hl (by decide) rfl (fun ls hl => ?_)
  refine lv_aload_n hx hb d_X_find_9 rfl (lv_at hl 0 rfl) ?_
  refine lv_ifnonnull (tgt := 18) hx hb d_X_find_10 (by decide) ?_
  refine lv_aload_n hx hb d_X_find_18 rfl (lv_at hl 1 rfl) ?_
  refine z_get hx hb hts (z_lay i_X) hown hK hw g1_xo rfl 2 (by decide) (z_in k_148 rfl) (fun _ h9 => h9) rfl d_X_find_19 ?_
  refine lv_iload_n hx hb d_X_find_22 rfl (lv_at hl 2 rfl) ?_
  refine lv_aload_n hx hb d_X_find_23 rfl (lv_at hl 0 rfl) ?_
  refine lv_iconst (v := 0) hx hb d_X_find_24 (by decide) ?_
  refine lv_iload_n hx hb d_X_find_25 rfl (lv_at hl 3 rfl) ?_
  refine z_callV (n := 4) (As := [.int k, .ref sc, .int 0, .int (nI i)]) (rest := []) ⟨hx, hb, hml, hown, hts⟩ (c_Schema_named (t := tT T) (i := 0) (j := i) l g h1 hscC g1_b (hS.k kk1 (by omega) (by omega) (by omega)) (by omega) (by omega) (fun k hk => hT k (by omega)) (by omega) (by omega)) (z_in k_352 rfl) (z_in k_4 rfl) (z_in k_491 rfl) (z_in k_350 rfl) (z_in k_351 rfl) (by decide +kernel) ⟨by first | exact Nat.le_of_ble_eq_true rfl | (dsimp only; omega) | omega, by first | exact Nat.le_of_ble_eq_true rfl | (dsimp only; omega) | omega⟩ hK hE hw hA rfl g1_kn rfl hl.1 (Nat.le_of_ble_eq_true rfl) d_X_find_26 ⟨by first | exact Nat.le_of_ble_eq_true rfl | (dsimp only; omega) | omega, by first | exact Nat.le_of_ble_eq_true rfl | (dsimp only; omega) | omega⟩ rfl (fun r9 h9 H locs hp hw => ?_)
  obtain ⟨r8, h8⟩ := hp
  subst r8
  subst h8
  refine W.eq (g2 := F0 m 29 ls [.int (nmd S k (tT T) 0 i)]) rfl ?_
  exact z_iret hx hb hr hlocks hw ⟨rfl, ⟨tp, b, ow, kn, pr, sp, r, mr, mr2, ra2, f, rf2, a2, c2, g1_xo, htpC, g1_b, ⟨hfb, Nat.zero_le _, fun k hk => absurd hk (Nat.not_lt_zero _)⟩, ⟨hO.k kk1 (by omega) (by omega), hj⟩, ⟨⟨_, _, _, _, _, _, _, hS.k kk1 (by omega) (by omega) (by omega)⟩, hr0, hgr⟩, ⟨⟨_, _, _, _, _, hN.k kk1 (by omega) (by omega) (by omega)⟩, hpa⟩, ⟨kk1 _ _ _ hsp (by dsimp only; omega), kk1 _ _ _ hra2 (by dsimp only; omega)⟩, hmr⟩, kk1.mono (fun y z => by unfold KXr; omega)⟩ (by decide) (by decide) d_X_find_29

set_option maxHeartbeats 300000 in
set_option maxRecDepth 100000 in
theorem x_schema_few (l : Launch) (g : z_G) (h : z_H) {xo : Nat} {T : List Nat} {S : Sch} {R : Rec} {O : List Nat} {j : Nat} {n : Int32}  (hX : XAt g h xo T S R O j) (ho : n < 0 ∨ nI T.length < n) : z_C l y_X_schema prog_1_method_3_code 4 (Option.some Jvm.ClassFile.FieldType.int) 210 6000 270 3500 g [.ref xo, .int n] h (fun x h1 => x = some (.int (-2)) ∧ h = h1) := by
  refine z_C.of (by decide) (Nat.le_of_ble_eq_true rfl) (fun pg en s m below meth cd A ls hx hb hml hr hts hown hlocks hnm hK hE hA hw hl => ?_)
  have hl : lv_has ls 4 [(0, .ref xo), (1, .int n)] := hl
  obtain ⟨tp, b, ow, kn, pr, sp, r, mr, mr2, ra2, f, rf2, a2, c2, hxo, htp0, hb0, ⟨hfb, hT4, hT⟩, ⟨hO, hj⟩, ⟨⟨fa9, ca, adS, na, ff, cf, nf, hS⟩, hr0, hgr⟩, ⟨⟨ra, ad, tx, rf, tf, hN⟩, hpa⟩, ⟨hsp, hra2⟩, hmr⟩ := id hX
  have hkn := hS.1
  have hpr := hN.1
  have hs8 : S.1 ≤ 128 := hS.2.2.2.2.2.2.2.1
  have hcc8 : cc S ≤ 64 := hS.2.2.2.2.2.2.2.2
  have hR2 : R.1 ≤ 2000 := hN.2.2.2.2.2.1
  refine lv_aload_n hx hb d_X_schema_0 rfl (lv_at hl 0 rfl) ?_
  refine z_get hx hb hts (z_lay i_X) hown hK hw hxo rfl 0 (by decide) (z_in k_146 rfl) (fun _ h9 => h9) rfl d_X_schema_1 ?_
  refine lv_iload_n hx hb d_X_schema_4 rfl (lv_at hl 1 rfl) ?_
  refine z_callV (n := 1) (As := [.int n]) (rest := []) ⟨hx, hb, hml, hown, hts⟩ (c_Tape_cut_few l g h htp0 hT4 ho) (z_in k_181 rfl) (z_in k_2 rfl) (z_in k_178 rfl) (z_in k_179 rfl) (z_in k_180 rfl) (by decide +kernel) ⟨by first | exact Nat.le_of_ble_eq_true rfl | (dsimp only; omega) | omega, by first | exact Nat.le_of_ble_eq_true rfl | (dsimp only; omega) | omega⟩ hK hE hw hA rfl htp0 rfl hl.1 (Nat.le_of_ble_eq_true rfl) d_X_schema_5 ⟨by first | exact Nat.le_of_ble_eq_true rfl | (dsimp only; omega) | omega, by first | exact Nat.le_of_ble_eq_true rfl | (dsimp only; omega) | omega⟩ rfl (fun r9 h9 H locs hp hw => ?_)
  obtain ⟨r8, h8⟩ := hp
  subst r8
  subst h8
  refine W.eq (g2 := F0 m 8 ls [.null]) rfl ?_
  refine lv_astore_nN (lv' := [(2, .null), (0, .ref xo), (1, .int n)]) hx hb d_X_schema_8 rfl hl (by decide) rfl (fun ls hl => ?_)
  refine lv_aload_nN hx hb d_X_schema_9 rfl (lv_at hl 0 rfl) ?_
  refine lv_ifnonnullN hx hb d_X_schema_10 ?_
  refine lv_bipush (v := (-2)) hx hb d_X_schema_13 (by decide) ?_
  exact z_iret hx hb hr hlocks hw ⟨rfl, rfl⟩ (by decide) (by decide) d_X_schema_15

set_option maxHeartbeats 300000 in
set_option maxRecDepth 100000 in
theorem x_schema_ok (l : Launch) (g : z_G) (h : z_H) {xo : Nat} {T : List Nat} {S : Sch} {R : Rec} {O : List Nat} {j : Nat} {i : Nat}  (hX : XAt g h xo T S R O j) (hi : i ≤ T.length) : z_C l y_X_schema prog_1_method_3_code 4 (Option.some Jvm.ClassFile.FieldType.int) 210 6000 270 3500 g [.ref xo, .int (nI i)] h (fun x h1 => XPt g h x (.int (oSchema T S R (nI i)).1) h1 xo (oSchema T S R (nI i)).2.1 (oSchema T S R (nI i)).2.2.1 (oSchema T S R (nI i)).2.2.2 O j) := by
  refine z_C.of (by decide) (Nat.le_of_ble_eq_true rfl) (fun pg en s m below meth cd A ls hx hb hml hr hts hown hlocks hnm hK hE hA hw hl => ?_)
  have hl : lv_has ls 4 [(0, .ref xo), (1, .int (nI i))] := hl
  obtain ⟨tp, b, ow, kn, pr, sp, r, mr, mr2, ra2, f, rf2, a2, c2, hxo, htp0, hb0, ⟨hfb, hT4, hT⟩, ⟨hO, hj⟩, ⟨⟨fa9, ca, adS, na, ff, cf, nf, hS⟩, hr0, hgr⟩, ⟨⟨ra, ad, tx, rf, tf, hN⟩, hpa⟩, ⟨hsp, hra2⟩, hmr⟩ := id hX
  have hkn := hS.1
  have hpr := hN.1
  have hs8 : S.1 ≤ 128 := hS.2.2.2.2.2.2.2.1
  have hcc8 : cc S ≤ 64 := hS.2.2.2.2.2.2.2.2
  have hR2 : R.1 ≤ 2000 := hN.2.2.2.2.2.1
  obtain ⟨X9, eX9⟩ : ∃ x, x = schR (tT T) i := ⟨_, rfl⟩
  have hrz : rSz X9 ≤ 128 := by rw [eX9]; exact schR_rsz (tT T) i
  have kk0 : z_K (fun y => y = 1 ∨ y = 2 ∨ y = 6 ∨ y = 7 ∨ y = r + 3 ∨ y = r + 4) h h := z_K.rf
  refine lv_aload_n hx hb d_X_schema_0 rfl (lv_at hl 0 rfl) ?_
  refine z_get hx hb hts (z_lay i_X) hown hK hw hxo rfl 0 (by decide) (z_in k_146 rfl) (fun _ h9 => h9) rfl d_X_schema_1 ?_
  refine lv_iload_n hx hb d_X_schema_4 rfl (lv_at hl 1 rfl) ?_
  refine z_callV (n := 1) (As := [.int (nI i)]) (rest := []) ⟨hx, hb, hml, hown, hts⟩ (c_Tape_cut (k := i) l g h htp0 hT4 hi) (z_in k_181 rfl) (z_in k_2 rfl) (z_in k_178 rfl) (z_in k_179 rfl) (z_in k_180 rfl) (by decide +kernel) ⟨by first | exact Nat.le_of_ble_eq_true rfl | (dsimp only; omega) | omega, by first | exact Nat.le_of_ble_eq_true rfl | (dsimp only; omega) | omega⟩ hK hE hw hA rfl htp0 rfl hl.1 (Nat.le_of_ble_eq_true rfl) d_X_schema_5 ⟨by first | exact Nat.le_of_ble_eq_true rfl | (dsimp only; omega) | omega, by first | exact Nat.le_of_ble_eq_true rfl | (dsimp only; omega) | omega⟩ rfl (fun r9 h9 H locs hp hw => ?_)
  obtain ⟨sc, r8, hscC, htpC, k8⟩ := hp
  subst r8
  obtain ⟨h1, e7⟩ : ∃ x9, x9 = h9 := ⟨_, rfl⟩
  subst e7
  have g1_xo : h1 xo = some ((1, 0), .inr (0, [.ref tp, .ref ow, .ref kn, .ref pr, .ref sp])) := k8 _ _ _ hxo (by simp; try omega)
  have g1_b : h1 b = some ((3, 0), .inl (g.2.1 0, 4000, .inl f)) := k8 _ _ _ hb0 (by simp; try omega)
  have g1_kn : h1 kn = some ((r, 0), .inr (3, [.ref fa9, .ref ca, .int (nI S.1), .int (nI (cc S)), .int (nI (rq S (-1)))])) := k8 _ _ _ hkn (by simp; try omega)
  have g1_pr : h1 pr = some ((mr, 0), .inr (5, [.ref ra, .int (nI R.1), .int (nI (tbC R.2 R.1))])) := k8 _ _ _ hpr (by simp; try omega)
  have kk1 : z_K (fun y => y = 1 ∨ y = 2 ∨ y = 6 ∨ y = 7 ∨ y = r + 3 ∨ y = r + 4) h h1 := kk0.tr (k8.mono (fun y z => by rcases z with z | z <;> simp [z]))
  refine W.eq (g2 := F0 m 8 ls [.ref sc]) rfl ?_
  refine lv_astore_n (lv' := [(2, .ref sc), (0, .ref xo), (1, .int (nI i))]) hx hb d_X_schema_8 rfl hl (by decide) rfl (fun ls hl => ?_)
  refine lv_aload_n hx hb d_X_schema_9 rfl (lv_at hl 0 rfl) ?_
  refine lv_ifnonnull (tgt := 16) hx hb d_X_schema_10 (by decide) ?_
  refine z_new (ci := 3) (fs := [.null, .null, .int 0, .int 0, .int 0]) hx hb hts (z_lay i_Schema) t_Schema t_Schema_ok hown (z_in k_56 rfl) (z_in k_57 rfl) (z_in k_4 rfl) hK hw hA rfl (fun j hj => by rcases (show j = 0 ∨ j = 1 ∨ j = 2 ∨ j = 3 ∨ j = 4 by omega) with rfl | rfl | rfl | rfl | rfl <;> rfl) (by first | exact Nat.le_of_ble_eq_true rfl | (dsimp only; omega) | omega) (by first | exact Nat.le_of_ble_eq_true rfl | (dsimp only; omega) | omega) d_X_schema_16 (r + 3, 0) (fun q2 H n_q2 hw => ?_)
  obtain ⟨h2, hh2⟩ : ∃ x9, z_put h1 q2 (r + 3, 0) (.inr (3, [.null, .null, .int 0, .int 0, .int 0])) = x9 := ⟨_, rfl⟩
  have hw : z_S g A s.heap h2 H locs := by rw [← hh2]; exact hw
  have ne_xo_q2 : z_NE xo q2 := (show xo ≠ q2 from fun z => by have z2 := g1_xo; rw [z, n_q2] at z2; cases z2)
  have ne_tp_q2 : z_NE tp q2 := (show tp ≠ q2 from fun z => by have z2 := htpC; rw [z, n_q2] at z2; cases z2)
  have ne_b_q2 : z_NE b q2 := (show b ≠ q2 from fun z => by have z2 := g1_b; rw [z, n_q2] at z2; cases z2)
  have ne_kn_q2 : z_NE kn q2 := (show kn ≠ q2 from fun z => by have z2 := g1_kn; rw [z, n_q2] at z2; cases z2)
  have ne_pr_q2 : z_NE pr q2 := (show pr ≠ q2 from fun z => by have z2 := g1_pr; rw [z, n_q2] at z2; cases z2)
  have ne_sc_q2 : z_NE sc q2 := (show sc ≠ q2 from fun z => by have z2 := hscC; rw [z, n_q2] at z2; cases z2)
  have f2_xo : h2 xo = some ((1, 0), .inr (0, [.ref tp, .ref ow, .ref kn, .ref pr, .ref sp])) := by rw [← hh2]; exact z_keepN n_q2 g1_xo
  have f2_tp : h2 tp = some ((2, 0), .inr (1, [.ref b, .int (nI 0)])) := by rw [← hh2]; exact z_keepN n_q2 htpC
  have f2_b : h2 b = some ((3, 0), .inl (g.2.1 0, 4000, .inl f)) := by rw [← hh2]; exact z_keepN n_q2 g1_b
  have f2_kn : h2 kn = some ((r, 0), .inr (3, [.ref fa9, .ref ca, .int (nI S.1), .int (nI (cc S)), .int (nI (rq S (-1)))])) := by rw [← hh2]; exact z_keepN n_q2 g1_kn
  have f2_pr : h2 pr = some ((mr, 0), .inr (5, [.ref ra, .int (nI R.1), .int (nI (tbC R.2 R.1))])) := by rw [← hh2]; exact z_keepN n_q2 g1_pr
  have f2_sc : h2 sc = some ((6, 0), .inr (7, [.ref b, .int (nI i), .int (nI 0), .int (-1), .int 0, .int 0])) := by rw [← hh2]; exact z_keepN n_q2 hscC
  have f2_q2 : h2 q2 = some ((r + 3, 0), .inr (3, [.null, .null, .int 0, .int 0, .int 0])) := by rw [← hh2]; exact z_put_eq
  have kk2 : z_K (fun y => y = 1 ∨ y = 2 ∨ y = 6 ∨ y = 7 ∨ y = r + 3 ∨ y = r + 4) h h2 := kk1.tr (by rw [← hh2]; exact z_K.new n_q2)
  refine lv_dup hx hb d_X_schema_19 rfl ?_
  refine z_callIN (n := 0) (As := []) (rest := [.ref q2]) ⟨hx, hb, hml, hown, hts⟩ (c_Schema_init (r := r + 3) l g h2 f2_q2) (z_in k_60 rfl) (z_in k_4 rfl) hE.nest (z_inN k_58 rfl) (z_in k_59 rfl) rfl (by decide +kernel) ⟨by first | exact Nat.le_of_ble_eq_true rfl | (dsimp only; omega) | omega, by first | exact Nat.le_of_ble_eq_true rfl | (dsimp only; omega) | omega⟩ hK hE hw hA rfl hl.1 (Nat.le_of_ble_eq_true rfl) d_X_schema_20 ⟨by first | exact Nat.le_of_ble_eq_true rfl | (dsimp only; omega) | omega, by first | exact Nat.le_of_ble_eq_true rfl | (dsimp only; omega) | omega⟩ rfl (fun r9 h9 H locs hp hw => ?_)
  obtain ⟨fa2, ca2, r8, hq2, hfa2, hca2, k8⟩ := hp
  subst r8
  obtain ⟨h3, e7⟩ : ∃ x9, x9 = h9 := ⟨_, rfl⟩
  subst e7
  have g3_xo : h3 xo = some ((1, 0), .inr (0, [.ref tp, .ref ow, .ref kn, .ref pr, .ref sp])) := k8 _ _ _ f2_xo (by simp; try omega)
  have g3_tp : h3 tp = some ((2, 0), .inr (1, [.ref b, .int (nI 0)])) := k8 _ _ _ f2_tp (by simp; try omega)
  have g3_b : h3 b = some ((3, 0), .inl (g.2.1 0, 4000, .inl f)) := k8 _ _ _ f2_b (by simp; try omega)
  have g3_kn : h3 kn = some ((r, 0), .inr (3, [.ref fa9, .ref ca, .int (nI S.1), .int (nI (cc S)), .int (nI (rq S (-1)))])) := k8 _ _ _ f2_kn (by simp; try omega)
  have g3_pr : h3 pr = some ((mr, 0), .inr (5, [.ref ra, .int (nI R.1), .int (nI (tbC R.2 R.1))])) := k8 _ _ _ f2_pr (by simp; try omega)
  have g3_sc : h3 sc = some ((6, 0), .inr (7, [.ref b, .int (nI i), .int (nI 0), .int (-1), .int 0, .int 0])) := k8 _ _ _ f2_sc (by simp; try omega)
  have kk3 : z_K (fun y => y = 1 ∨ y = 2 ∨ y = 6 ∨ y = 7 ∨ y = r + 3 ∨ y = r + 4) h h3 := kk2.tr (k8.mono (fun y z => by simp [z]))
  have sA0 : SchAt g h3 (r + 3) q2 sch0 := ⟨_, _, _, _, _, _, _, SchP.zero hq2 hfa2 hca2⟩
  refine W.eq (g2 := F0 m 23 ls [.ref q2]) rfl ?_
  refine lv_astore_n (lv' := [(3, .ref q2), (2, .ref sc), (0, .ref xo), (1, .int (nI i))]) hx hb d_X_schema_23 rfl hl (by decide) rfl (fun ls hl => ?_)
  refine z_new (ci := 8) (fs := [.null, .null]) hx hb hts (z_lay i_SchemaReader) t_SchemaReader t_SchemaReader_ok hown (z_in k_214 rfl) (z_in k_215 rfl) (z_in k_9 rfl) hK hw hA rfl (fun j hj => by rcases (show j = 0 ∨ j = 1 by omega) with rfl | rfl <;> rfl) (by first | exact Nat.le_of_ble_eq_true rfl | (dsimp only; omega) | omega) (by first | exact Nat.le_of_ble_eq_true rfl | (dsimp only; omega) | omega) d_X_schema_24 (7, 0) (fun rd H n_rd hw => ?_)
  obtain ⟨h4, hh4⟩ : ∃ x9, z_put h3 rd (7, 0) (.inr (8, [.null, .null])) = x9 := ⟨_, rfl⟩
  have hw : z_S g A s.heap h4 H locs := by rw [← hh4]; exact hw
  have ne_xo_rd : z_NE xo rd := (show xo ≠ rd from fun z => by have z2 := g3_xo; rw [z, n_rd] at z2; cases z2)
  have ne_tp_rd : z_NE tp rd := (show tp ≠ rd from fun z => by have z2 := g3_tp; rw [z, n_rd] at z2; cases z2)
  have ne_b_rd : z_NE b rd := (show b ≠ rd from fun z => by have z2 := g3_b; rw [z, n_rd] at z2; cases z2)
  have ne_kn_rd : z_NE kn rd := (show kn ≠ rd from fun z => by have z2 := g3_kn; rw [z, n_rd] at z2; cases z2)
  have ne_pr_rd : z_NE pr rd := (show pr ≠ rd from fun z => by have z2 := g3_pr; rw [z, n_rd] at z2; cases z2)
  have ne_sc_rd : z_NE sc rd := (show sc ≠ rd from fun z => by have z2 := g3_sc; rw [z, n_rd] at z2; cases z2)
  have ne_q2_rd : z_NE q2 rd := (show q2 ≠ rd from fun z => by have z2 := hq2; rw [z, n_rd] at z2; cases z2)
  have f4_xo : h4 xo = some ((1, 0), .inr (0, [.ref tp, .ref ow, .ref kn, .ref pr, .ref sp])) := by rw [← hh4]; exact z_keepN n_rd g3_xo
  have f4_tp : h4 tp = some ((2, 0), .inr (1, [.ref b, .int (nI 0)])) := by rw [← hh4]; exact z_keepN n_rd g3_tp
  have f4_b : h4 b = some ((3, 0), .inl (g.2.1 0, 4000, .inl f)) := by rw [← hh4]; exact z_keepN n_rd g3_b
  have f4_kn : h4 kn = some ((r, 0), .inr (3, [.ref fa9, .ref ca, .int (nI S.1), .int (nI (cc S)), .int (nI (rq S (-1)))])) := by rw [← hh4]; exact z_keepN n_rd g3_kn
  have f4_pr : h4 pr = some ((mr, 0), .inr (5, [.ref ra, .int (nI R.1), .int (nI (tbC R.2 R.1))])) := by rw [← hh4]; exact z_keepN n_rd g3_pr
  have f4_sc : h4 sc = some ((6, 0), .inr (7, [.ref b, .int (nI i), .int (nI 0), .int (-1), .int 0, .int 0])) := by rw [← hh4]; exact z_keepN n_rd g3_sc
  have f4_q2 : h4 q2 = some ((r + 3, 0), .inr (3, [.ref fa2, .ref ca2, .int 0, .int 0, .int 0])) := by rw [← hh4]; exact z_keepN n_rd hq2
  have f4_rd : h4 rd = some ((7, 0), .inr (8, [.null, .null])) := by rw [← hh4]; exact z_put_eq
  have kk4 : z_K (fun y => y = 1 ∨ y = 2 ∨ y = 6 ∨ y = 7 ∨ y = r + 3 ∨ y = r + 4) h h4 := kk3.tr (by rw [← hh4]; exact z_K.new n_rd)
  refine lv_dup hx hb d_X_schema_27 rfl ?_
  refine lv_aload_n hx hb d_X_schema_28 rfl (lv_at hl 1 rfl) ?_
  refine lv_aload_n hx hb d_X_schema_29 rfl (lv_at hl 0 rfl) ?_
  refine z_callI (n := 2) (As := [.ref sc, .ref q2]) (rest := [.ref rd]) ⟨hx, hb, hml, hown, hts⟩ (c_SchemaReader_init l g h4 f4_rd) (z_in k_218 rfl) (z_in k_9 rfl) (z_in k_216 rfl) (z_in k_217 rfl) rfl (by decide +kernel) ⟨by first | exact Nat.le_of_ble_eq_true rfl | (dsimp only; omega) | omega, by first | exact Nat.le_of_ble_eq_true rfl | (dsimp only; omega) | omega⟩ hK hE hw hA rfl hl.1 (Nat.le_of_ble_eq_true rfl) d_X_schema_30 ⟨by first | exact Nat.le_of_ble_eq_true rfl | (dsimp only; omega) | omega, by first | exact Nat.le_of_ble_eq_true rfl | (dsimp only; omega) | omega⟩ rfl (fun r9 h9 H locs hp hw => ?_)
  obtain ⟨r8, hh5⟩ := hp
  subst r8
  obtain ⟨h5, e8⟩ : ∃ x9, x9 = h9 := ⟨_, rfl⟩
  subst e8
  have f5_xo : h5 xo = some ((1, 0), .inr (0, [.ref tp, .ref ow, .ref kn, .ref pr, .ref sp])) := by rw [← hh5]; exact (z_put_ne ne_xo_rd).trans f4_xo
  have f5_tp : h5 tp = some ((2, 0), .inr (1, [.ref b, .int (nI 0)])) := by rw [← hh5]; exact (z_put_ne ne_tp_rd).trans f4_tp
  have f5_b : h5 b = some ((3, 0), .inl (g.2.1 0, 4000, .inl f)) := by rw [← hh5]; exact (z_put_ne ne_b_rd).trans f4_b
  have f5_kn : h5 kn = some ((r, 0), .inr (3, [.ref fa9, .ref ca, .int (nI S.1), .int (nI (cc S)), .int (nI (rq S (-1)))])) := by rw [← hh5]; exact (z_put_ne ne_kn_rd).trans f4_kn
  have f5_pr : h5 pr = some ((mr, 0), .inr (5, [.ref ra, .int (nI R.1), .int (nI (tbC R.2 R.1))])) := by rw [← hh5]; exact (z_put_ne ne_pr_rd).trans f4_pr
  have f5_sc : h5 sc = some ((6, 0), .inr (7, [.ref b, .int (nI i), .int (nI 0), .int (-1), .int 0, .int 0])) := by rw [← hh5]; exact (z_put_ne ne_sc_rd).trans f4_sc
  have f5_q2 : h5 q2 = some ((r + 3, 0), .inr (3, [.ref fa2, .ref ca2, .int 0, .int 0, .int 0])) := by rw [← hh5]; exact (z_put_ne ne_q2_rd).trans f4_q2
  have f5_rd : h5 rd = some ((7, 0), .inr (8, [.ref sc, .ref q2])) := by rw [← hh5]; exact z_put_eq
  have kk5 : z_K (fun y => y = 1 ∨ y = 2 ∨ y = 6 ∨ y = 7 ∨ y = r + 3 ∨ y = r + 4) h h5 := kk4.tr (by rw [← hh5]; exact z_K.put f4_rd (by first | decide | simp | omega))
  refine W.eq (g2 := F0 m 33 ls [.ref rd]) rfl ?_
  have k7a : z_K (fun y => y = 7) h3 h4 := by rw [← hh4]; exact z_K.new n_rd
  have k7b : z_K (fun y => y = 7) h4 h5 := by rw [← hh5]; exact z_K.put f4_rd rfl
  have sA1 : SchAt g h5 (r + 3) q2 sch0 := sA0.k (k7a.tr k7b) (by omega) (by omega) (by omega)
  refine z_callV (n := 0) (As := []) (rest := []) ⟨hx, hb, hml, hown, hts⟩ (c_readSchema0 (t := tT T) (r := r + 3) (X := X9) l g h5 eX9 f5_rd f5_sc f5_b (by omega) (by omega) (fun k hk => hT k (by omega)) (by omega) (by omega) hfb (by omega) sA1) (z_in k_230 rfl) (z_in k_9 rfl) (z_in k_227 rfl) (z_in k_228 rfl) (z_in k_229 rfl) (by decide +kernel) ⟨by first | exact Nat.le_of_ble_eq_true rfl | (dsimp only; omega) | omega, by first | exact Nat.le_of_ble_eq_true rfl | (dsimp only; omega) | omega⟩ hK hE hw hA rfl f5_rd rfl hl.1 (Nat.le_of_ble_eq_true rfl) d_X_schema_33 ⟨by first | exact Nat.le_of_ble_eq_true rfl | (dsimp only; omega) | omega, by first | exact Nat.le_of_ble_eq_true rfl | (dsimp only; omega) | omega⟩ rfl (fun r9 h9 H locs hp hw => ?_)
  obtain ⟨kk8, hp⟩ := hp
  rcases X9 with ⟨F8, m8⟩ | ⟨p8, S8⟩
  · -- read False
    obtain ⟨r8, pf8, f8, w8, d8, e8, g8⟩ := hp
    subst r8
    obtain ⟨h6, e7⟩ : ∃ x9, x9 = h9 := ⟨_, rfl⟩
    subst e7
    have g6_xo : h6 xo = some ((1, 0), .inr (0, [.ref tp, .ref ow, .ref kn, .ref pr, .ref sp])) := kk8 _ _ _ f5_xo (by simp; try omega)
    have g6_tp : h6 tp = some ((2, 0), .inr (1, [.ref b, .int (nI 0)])) := kk8 _ _ _ f5_tp (by simp; try omega)
    have g6_b : h6 b = some ((3, 0), .inl (g.2.1 0, 4000, .inl f)) := kk8 _ _ _ f5_b (by simp; try omega)
    have g6_kn : h6 kn = some ((r, 0), .inr (3, [.ref fa9, .ref ca, .int (nI S.1), .int (nI (cc S)), .int (nI (rq S (-1)))])) := kk8 _ _ _ f5_kn (by simp; try omega)
    have g6_pr : h6 pr = some ((mr, 0), .inr (5, [.ref ra, .int (nI R.1), .int (nI (tbC R.2 R.1))])) := kk8 _ _ _ f5_pr (by simp; try omega)
    have g6_rd : h6 rd = some ((7, 0), .inr (8, [.ref sc, .ref q2])) := kk8 _ _ _ f5_rd (by simp; try omega)
    have kk6 : z_K (fun y => y = 1 ∨ y = 2 ∨ y = 6 ∨ y = 7 ∨ y = r + 3 ∨ y = r + 4) h h6 := kk5.tr (kk8.mono (fun y z => by rcases z with z | z | z <;> simp [z]))
    refine W.eq (g2 := F0 m 36 ls [.int 0]) rfl ?_
    refine lv_if_ne (tgt := 44) hx hb d_X_schema_36 (by decide) (fun c_36 => ?_) (fun c_36 => ?_)
    · -- 36: True
      exact absurd (by decide) c_36
    · -- 36: False
      have eW : oSchema T S R (nI i) = (nI F8, [], S, R) := by unfold oSchema; rw [if_neg (not_few hi hT4), nI_clamp (by omega), ← eX9]
      refine lv_aload_n hx hb d_X_schema_39 rfl (lv_at hl 1 rfl) ?_
      refine z_getN hx hb hts (z_lay i_Scanner) hown hK hw e8 rfl 3 (by decide) hE.nest (z_inN k_194 rfl) (fun _ h9 => h9) rfl d_X_schema_40 ?_
      exact z_iret hx hb hr hlocks hw (by refine ⟨by rw [eW, g8], ?_, kk6.mono (fun y z => by unfold KXr; omega)⟩; rw [eW]; exact ⟨tp, b, ow, kn, pr, sp, r, mr, mr2, ra2, f, rf2, a2, c2, g6_xo, g6_tp, g6_b, ⟨hfb, Nat.zero_le _, fun k hk => absurd hk (Nat.not_lt_zero _)⟩, ⟨hO.k kk6 (by omega) (by omega), hj⟩, ⟨⟨_, _, _, _, _, _, _, hS.k kk6 (by omega) (by omega) (by omega)⟩, hr0, hgr⟩, ⟨⟨_, _, _, _, _, hN.k kk6 (by omega) (by omega) (by omega)⟩, hpa⟩, ⟨kk6 _ _ _ hsp (by dsimp only; omega), kk6 _ _ _ hra2 (by dsimp only; omega)⟩, hmr⟩) (by first | exact Nat.le_of_ble_eq_true rfl | (dsimp only; omega) | omega) (by first | exact Nat.le_of_ble_eq_true rfl | (dsimp only; omega) | omega) d_X_schema_43
  · -- read True
    obtain ⟨r8, ⟨f8, w8, d8, e8⟩, le8, sA8, gO8⟩ := hp
    subst r8
    obtain ⟨h7, e7⟩ : ∃ x9, x9 = h9 := ⟨_, rfl⟩
    subst e7
    have g7_xo : h7 xo = some ((1, 0), .inr (0, [.ref tp, .ref ow, .ref kn, .ref pr, .ref sp])) := kk8 _ _ _ f5_xo (by simp; try omega)
    have g7_tp : h7 tp = some ((2, 0), .inr (1, [.ref b, .int (nI 0)])) := kk8 _ _ _ f5_tp (by simp; try omega)
    have g7_b : h7 b = some ((3, 0), .inl (g.2.1 0, 4000, .inl f)) := kk8 _ _ _ f5_b (by simp; try omega)
    have g7_kn : h7 kn = some ((r, 0), .inr (3, [.ref fa9, .ref ca, .int (nI S.1), .int (nI (cc S)), .int (nI (rq S (-1)))])) := kk8 _ _ _ f5_kn (by simp; try omega)
    have g7_pr : h7 pr = some ((mr, 0), .inr (5, [.ref ra, .int (nI R.1), .int (nI (tbC R.2 R.1))])) := kk8 _ _ _ f5_pr (by simp; try omega)
    have g7_rd : h7 rd = some ((7, 0), .inr (8, [.ref sc, .ref q2])) := kk8 _ _ _ f5_rd (by simp; try omega)
    have kk7 : z_K (fun y => y = 1 ∨ y = 2 ∨ y = 6 ∨ y = 7 ∨ y = r + 3 ∨ y = r + 4) h h7 := kk5.tr (kk8.mono (fun y z => by rcases z with z | z | z <;> simp [z]))
    refine W.eq (g2 := F0 m 36 ls [.int 1]) rfl ?_
    refine lv_if_ne (tgt := 44) hx hb d_X_schema_36 (by decide) (fun c_36 => ?_) (fun c_36 => ?_)
    · -- 36: True
      refine lv_aload_n hx hb d_X_schema_44 rfl (lv_at hl 2 rfl) ?_
      refine lv_aload_n hx hb d_X_schema_45 rfl (lv_at hl 0 rfl) ?_
      refine z_putf (ty := .object "SchemaRecords$Schema") hx hb hts (z_lay i_X) t_X t_X_ok n_X hown hK hw g7_xo rfl 2 (by decide) (z_in k_148 rfl) (fun _ h9 => h9) rfl (by decide +kernel) rfl rfl (Nat.le_of_ble_eq_true rfl) d_X_schema_46 (fun H locs hw => ?_)
      obtain ⟨h8, hh8⟩ : ∃ x9, z_put h7 xo (1, 0) (.inr (0, [.ref tp, .ref ow, .ref q2, .ref pr, .ref sp])) = x9 := ⟨_, rfl⟩
      have hw : z_S g A s.heap h8 H locs := by rw [← hh8]; exact hw
      have f8_xo : h8 xo = some ((1, 0), .inr (0, [.ref tp, .ref ow, .ref q2, .ref pr, .ref sp])) := by rw [← hh8]; exact z_put_eq
      have f8_tp : h8 tp = some ((2, 0), .inr (1, [.ref b, .int (nI 0)])) := by rw [← hh8]; exact z_keep g7_xo g7_tp (z_t1 (by decide))
      have f8_b : h8 b = some ((3, 0), .inl (g.2.1 0, 4000, .inl f)) := by rw [← hh8]; exact z_keep g7_xo g7_b (z_t1 (by decide))
      have f8_kn : h8 kn = some ((r, 0), .inr (3, [.ref fa9, .ref ca, .int (nI S.1), .int (nI (cc S)), .int (nI (rq S (-1)))])) := by rw [← hh8]; exact z_keep g7_xo g7_kn (by first | decide | (refine z_t1 ?_; omega) | (refine z_t2 ?_; omega))
      have f8_pr : h8 pr = some ((mr, 0), .inr (5, [.ref ra, .int (nI R.1), .int (nI (tbC R.2 R.1))])) := by rw [← hh8]; exact z_keep g7_xo g7_pr (by first | decide | (refine z_t1 ?_; omega) | (refine z_t2 ?_; omega))
      have f8_sc : h8 sc = some ((6, 0), .inr (7, [.ref b, .int (nI i), .int (nI p8), .int f8, .int w8, .int d8])) := by rw [← hh8]; exact z_keep g7_xo e8 (z_t1 (by decide))
      have f8_rd : h8 rd = some ((7, 0), .inr (8, [.ref sc, .ref q2])) := by rw [← hh8]; exact (z_put_ne (Ne.symm ne_xo_rd)).trans g7_rd
      have kk8 : z_K (fun y => y = 1 ∨ y = 2 ∨ y = 6 ∨ y = 7 ∨ y = r + 3 ∨ y = r + 4) h h8 := kk7.tr (by rw [← hh8]; exact z_K.put g7_xo (by first | decide | simp | omega))
      have kP : z_K (fun y => y = 1) h7 h8 := by rw [← hh8]; exact z_K.put g7_xo rfl
      have eW : oSchema T S R (nI i) = (-1, [], S8, rec0) := by unfold oSchema; rw [if_neg (not_few hi hT4), nI_clamp (by omega), ← eX9]
      refine lv_aload_n hx hb d_X_schema_49 rfl (lv_at hl 2 rfl) ?_
      refine z_get hx hb hts (z_lay i_X) hown hK hw f8_xo rfl 3 (by decide) (z_in k_149 rfl) (fun _ h9 => h9) rfl d_X_schema_50 ?_
      refine z_callV (n := 0) (As := []) (rest := []) ⟨hx, hb, hml, hown, hts⟩ (c_NodeRow_clear l g h8 f8_pr (kk8 _ _ _ hN.2.1 (by simp; omega))) (z_in k_94 rfl) (z_in k_5 rfl) (z_in k_458 rfl) (z_in k_92 rfl) (z_in k_93 rfl) (by decide +kernel) ⟨by first | exact Nat.le_of_ble_eq_true rfl | (dsimp only; omega) | omega, by first | exact Nat.le_of_ble_eq_true rfl | (dsimp only; omega) | omega⟩ hK hE hw hA rfl f8_pr rfl hl.1 (Nat.le_of_ble_eq_true rfl) d_X_schema_53 ⟨by first | exact Nat.le_of_ble_eq_true rfl | (dsimp only; omega) | omega, by first | exact Nat.le_of_ble_eq_true rfl | (dsimp only; omega) | omega⟩ rfl (fun r9 h9 H locs hp hw => ?_)
      obtain ⟨adC, txC, rfC, tfC, r8, nC, kC⟩ := hp
      subst r8
      obtain ⟨h9, e7⟩ : ∃ x9, x9 = h9 := ⟨_, rfl⟩
      subst e7
      have g9_xo : h9 xo = some ((1, 0), .inr (0, [.ref tp, .ref ow, .ref q2, .ref pr, .ref sp])) := kC _ _ _ f8_xo (by simp; try omega)
      have g9_tp : h9 tp = some ((2, 0), .inr (1, [.ref b, .int (nI 0)])) := kC _ _ _ f8_tp (by simp; try omega)
      have g9_b : h9 b = some ((3, 0), .inl (g.2.1 0, 4000, .inl f)) := kC _ _ _ f8_b (by simp; try omega)
      have g9_kn : h9 kn = some ((r, 0), .inr (3, [.ref fa9, .ref ca, .int (nI S.1), .int (nI (cc S)), .int (nI (rq S (-1)))])) := kC _ _ _ f8_kn (by simp; try omega)
      have g9_sc : h9 sc = some ((6, 0), .inr (7, [.ref b, .int (nI i), .int (nI p8), .int f8, .int w8, .int d8])) := kC _ _ _ f8_sc (by simp; try omega)
      have g9_rd : h9 rd = some ((7, 0), .inr (8, [.ref sc, .ref q2])) := kC _ _ _ f8_rd (by simp; try omega)
      have kC2 := kC.K (R := fun y => y = mr ∨ y = mr + 1) (fun t z => by rcases z with z | z | z <;> simp [z])
      have kk9 : z_K (fun y => y = 1 ∨ y = 2 ∨ y = 6 ∨ y = 7 ∨ y = r + 3 ∨ y = r + 4 ∨ y = mr ∨ y = mr + 1) h h9 := (kk8.mono (fun y z => by omega)).tr (kC2.mono (fun y z => by omega))
      refine W.eq (g2 := F0 m 56 ls []) rfl ?_
      refine lv_iconst (v := (-1)) hx hb d_X_schema_56 (by decide) ?_
      exact z_iret hx hb hr hlocks hw (by refine ⟨by rw [eW], ?_, kk9.mono (fun y z => by unfold KXr; omega)⟩; rw [eW]; exact ⟨tp, b, ow, q2, pr, sp, r + 3, mr, mr2, ra2, f, rf2, a2, c2, g9_xo, g9_tp, g9_b, ⟨hfb, Nat.zero_le _, fun k hk => absurd hk (Nat.not_lt_zero _)⟩, ⟨hO.k kk9 (by omega) (by omega), hj⟩, ⟨(sA8.k (R := fun y => y = 1) kP (by omega) (by omega) (by omega)).k kC2 (by omega) (by omega) (by omega), by omega, gO8⟩, ⟨⟨_, _, _, _, _, nC _⟩, rec0_ok⟩, ⟨kk9 _ _ _ hsp (by dsimp only; omega), kk9 _ _ _ hra2 (by dsimp only; omega)⟩, hmr⟩) (by first | exact Nat.le_of_ble_eq_true rfl | (dsimp only; omega) | omega) (by first | exact Nat.le_of_ble_eq_true rfl | (dsimp only; omega) | omega) d_X_schema_57
    · -- 36: False
      exact absurd c_36 (by decide)

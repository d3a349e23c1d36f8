set_option maxHeartbeats 4000000 in
set_option maxRecDepth 100000 in
theorem c_RecordReader_init (l : Launch) (g : z_G) (h : z_H) {rd sc q w : Nat} (hrd : h rd = some ((8, 0), .inr (9, [.null, .null, .null, .null, .long 0])))  : z_C l y_RecordReader_init prog_6_method_1_code 4 (Option.none : Option Jvm.ClassFile.FieldType) 1 14 1 255 g [.ref rd, .ref sc, .ref q, .ref w] h (fun x h1 => ∃ tr, x = none ∧ h1 rd = some ((8, 0), .inr (9, [.ref sc, .ref q, .ref w, .ref tr, .long 0])) ∧ h1 tr = some ((10, 0), .inl (g.2.1 0, 255, .inl (fun _ => 0))) ∧ z_K (fun y => y = 8) h h1) := by
  refine z_C.of (by decide) (Nat.le_of_ble_eq_true rfl) (fun pg en s m below meth cd A ls hx hb hml hr hts hown hlocks hnm hK hE hA hw hl => ?_)
  have hl : lv_has ls 4 [(0, .ref rd), (1, .ref sc), (2, .ref q), (3, .ref w)] := hl
  have kk0 : z_K (fun y => y = 8) h h := z_K.rf
  refine lv_aload_n hx hb d_RecordReader_init_0 rfl (lv_at hl 0 rfl) ?_
  refine W.objInit hx hb hown (hts _ (z_in k_501 rfl)) (hts _ (z_in k_26 rfl)) (hts _ (z_in k_27 rfl)) rfl (by rw [hml]; exact hl.1) rfl d_RecordReader_init_1 (Nat.le_of_ble_eq_true rfl) (Nat.le_of_ble_eq_true rfl) ?_
  refine W.eq (g2 := F0 m 4 ls []) rfl ?_
  refine lv_aload_n hx hb d_RecordReader_init_4 rfl (lv_at hl 0 rfl) ?_
  refine lv_sipush (v := 255) hx hb d_RecordReader_init_5 (by decide) ?_
  refine z_newa (atype := .byte) (N' := 255) (a0 := (255, .inl (fun _ => 0))) hx hb hts (z_in k_41 rfl) hK hw hA 0 rfl rfl (fun C z => by cases z) (fun cA => rfl) (by decide) (by rfl) (by show _ ≤ _; simp [componentBytes]; try omega) (by first | exact Nat.le_of_ble_eq_true rfl | (dsimp only; omega) | omega) (by first | exact Nat.le_of_ble_eq_true rfl | (dsimp only; omega) | omega) d_RecordReader_init_8 (10, 0) (fun tr H n_tr hw => ?_)
  obtain ⟨h1, hh1⟩ : ∃ x9, z_put h tr (10, 0) (.inl (g.2.1 0, 255, .inl (fun _ => 0))) = x9 := ⟨_, rfl⟩
  have hw : z_S g A s.heap h1 H [] := by rw [← hh1]; exact hw
  have ne_rd_tr : rd ≠ tr := fun z => by have z2 := hrd; rw [z, n_tr] at z2; cases z2
  have f1_rd : h1 rd = some ((8, 0), .inr (9, [.null, .null, .null, .null, .long 0])) := by rw [← hh1]; exact z_keepN n_tr hrd
  have f1_tr : h1 tr = some ((10, 0), .inl (g.2.1 0, 255, .inl (fun _ => 0))) := by rw [← hh1]; exact z_put_eq
  have kk1 : z_K (fun y => y = 8) h h1 := kk0.tr (by rw [← hh1]; exact z_K.new n_tr)
  refine z_putF (ty := .array .byte) hx hb hts (z_lay i_RecordReader) t_RecordReader t_RecordReader_ok n_RecordReader hown hK hw f1_rd rfl 3 (by decide) (z_in k_505 rfl) (fun _ h9 => h9) rfl hnm rfl (by decide +kernel) rfl rfl (Nat.le_of_ble_eq_true rfl) d_RecordReader_init_10 (fun H locs hw => ?_)
  obtain ⟨h2, hh2⟩ : ∃ x9, z_put h1 rd (8, 0) (.inr (9, [.null, .null, .null, .ref tr, .long 0])) = x9 := ⟨_, rfl⟩
  have hw : z_S g A s.heap h2 H locs := by rw [← hh2]; exact hw
  have f2_rd : h2 rd = some ((8, 0), .inr (9, [.null, .null, .null, .ref tr, .long 0])) := by rw [← hh2]; exact z_put_eq
  have f2_tr : h2 tr = some ((10, 0), .inl (g.2.1 0, 255, .inl (fun _ => 0))) := by rw [← hh2]; exact (z_put_ne (Ne.symm ne_rd_tr)).trans f1_tr
  have kk2 : z_K (fun y => y = 8) h h2 := kk1.tr (by rw [← hh2]; exact z_K.put f1_rd (by first | decide | simp | omega))
  refine lv_aload_n hx hb d_RecordReader_init_13 rfl (lv_at hl 0 rfl) ?_
  refine lv_aload_n hx hb d_RecordReader_init_14 rfl (lv_at hl 1 rfl) ?_
  refine z_putF (ty := .object "SchemaRecords$Scanner") hx hb hts (z_lay i_RecordReader) t_RecordReader t_RecordReader_ok n_RecordReader hown hK hw f2_rd rfl 0 (by decide) (z_in k_502 rfl) (fun _ h9 => h9) rfl hnm rfl (by decide +kernel) rfl rfl (Nat.le_of_ble_eq_true rfl) d_RecordReader_init_15 (fun H locs hw => ?_)
  obtain ⟨h3, hh3⟩ : ∃ x9, z_put h2 rd (8, 0) (.inr (9, [.ref sc, .null, .null, .ref tr, .long 0])) = x9 := ⟨_, rfl⟩
  have hw : z_S g A s.heap h3 H locs := by rw [← hh3]; exact hw
  have f3_rd : h3 rd = some ((8, 0), .inr (9, [.ref sc, .null, .null, .ref tr, .long 0])) := by rw [← hh3]; exact z_put_eq
  have f3_tr : h3 tr = some ((10, 0), .inl (g.2.1 0, 255, .inl (fun _ => 0))) := by rw [← hh3]; exact (z_put_ne (Ne.symm ne_rd_tr)).trans f2_tr
  have kk3 : z_K (fun y => y = 8) h h3 := kk2.tr (by rw [← hh3]; exact z_K.put f2_rd (by first | decide | simp | omega))
  refine lv_aload_n hx hb d_RecordReader_init_18 rfl (lv_at hl 0 rfl) ?_
  refine lv_aload_n hx hb d_RecordReader_init_19 rfl (lv_at hl 2 rfl) ?_
  refine z_putF (ty := .object "SchemaRecords$Schema") hx hb hts (z_lay i_RecordReader) t_RecordReader t_RecordReader_ok n_RecordReader hown hK hw f3_rd rfl 1 (by decide) (z_in k_503 rfl) (fun _ h9 => h9) rfl hnm rfl (by decide +kernel) rfl rfl (Nat.le_of_ble_eq_true rfl) d_RecordReader_init_20 (fun H locs hw => ?_)
  obtain ⟨h4, hh4⟩ : ∃ x9, z_put h3 rd (8, 0) (.inr (9, [.ref sc, .ref q, .null, .ref tr, .long 0])) = x9 := ⟨_, rfl⟩
  have hw : z_S g A s.heap h4 H locs := by rw [← hh4]; exact hw
  have f4_rd : h4 rd = some ((8, 0), .inr (9, [.ref sc, .ref q, .null, .ref tr, .long 0])) := by rw [← hh4]; exact z_put_eq
  have f4_tr : h4 tr = some ((10, 0), .inl (g.2.1 0, 255, .inl (fun _ => 0))) := by rw [← hh4]; exact (z_put_ne (Ne.symm ne_rd_tr)).trans f3_tr
  have kk4 : z_K (fun y => y = 8) h h4 := kk3.tr (by rw [← hh4]; exact z_K.put f3_rd (by first | decide | simp | omega))
  refine lv_aload_n hx hb d_RecordReader_init_23 rfl (lv_at hl 0 rfl) ?_
  refine lv_aload_n hx hb d_RecordReader_init_24 rfl (lv_at hl 3 rfl) ?_
  refine z_putF (ty := .object "SchemaRecords$NodeRow") hx hb hts (z_lay i_RecordReader) t_RecordReader t_RecordReader_ok n_RecordReader hown hK hw f4_rd rfl 2 (by decide) (z_in k_504 rfl) (fun _ h9 => h9) rfl hnm rfl (by decide +kernel) rfl rfl (Nat.le_of_ble_eq_true rfl) d_RecordReader_init_25 (fun H locs hw => ?_)
  obtain ⟨h5, hh5⟩ : ∃ x9, z_put h4 rd (8, 0) (.inr (9, [.ref sc, .ref q, .ref w, .ref tr, .long 0])) = x9 := ⟨_, rfl⟩
  have hw : z_S g A s.heap h5 H locs := by rw [← hh5]; exact hw
  have f5_rd : h5 rd = some ((8, 0), .inr (9, [.ref sc, .ref q, .ref w, .ref tr, .long 0])) := by rw [← hh5]; exact z_put_eq
  have f5_tr : h5 tr = some ((10, 0), .inl (g.2.1 0, 255, .inl (fun _ => 0))) := by rw [← hh5]; exact (z_put_ne (Ne.symm ne_rd_tr)).trans f4_tr
  have kk5 : z_K (fun y => y = 8) h h5 := kk4.tr (by rw [← hh5]; exact z_K.put f4_rd (by first | decide | simp | omega))
  exact z_vret hx hb hr hlocks hw ⟨tr, rfl, f5_rd, f5_tr, kk5⟩ (by decide) (by decide) d_RecordReader_init_28

set_option maxHeartbeats 4000000 in
set_option maxRecDepth 100000 in
theorem c_keep0 (l : Launch) (g : z_G) (h : z_H) {mr w rd sc q tr : Nat} {nu9 : Int64} {S : Sch} {R : Rec} {ra : Nat} {ad tx : Nat → Nat} {rf : Nat → Option Nat} {tf : Nat → Nat → Int32} {pi fi fd na r : Nat} {st : Int32} {ki ty gr co re de rq9 : Int32} (hrd : h rd = some ((8, 0), .inr (9, [.ref sc, .ref q, .ref w, .ref tr, .long nu9]))) (hfd : h fd = some ((r + 1, fi), .inr (4, [.int (nI fi), .int ki, .int ty, .int gr, .ref na, .int co, .int re, .int de, .int rq9]))) (hN : NdP g h mr w S R ra ad tx rf tf) (hpa : paOK R) (hpi : pi < R.1) (hsz : R.1 < 2000) (hfi : fi < 1000) (hm : mr < 60) (hr0 : 100 ≤ r) (hki : ki = fKi (S.2 fi)) (htb9 : tbC R.2 R.1 + 0 ≤ 16000) : z_C l y_RecordReader_keep prog_6_method_6_code 5 (Option.some Jvm.ClassFile.FieldType.boolean) 3 80 1 7 g [.ref rd, .ref fd, .int (nI pi), .ref (g.2.2 0), .int st] h (fun x h1 => ∃ nn, x = some (.int 1) ∧ NdP g h1 mr w S (addN R (nI fi, nI pi, nu9, [])) ra (va_up ad R.1 nn) (va_up tx R.1 (g.2.2 0)) (va_up rf R.1 (some nn)) (va_up tf R.1 (fun _ => 0)) ∧ paOK (addN R (nI fi, nI pi, nu9, [])) ∧ z_KT (fun t => t = (mr, 0) ∨ t = (mr, 1) ∨ t = (mr + 1, pi) ∨ t = (mr + 1, R.1)) h h1) := by
  refine z_C.of (by decide) (Nat.le_of_ble_eq_true rfl) (fun pg en s m below meth cd A ls hx hb hml hr hts hown hlocks hnm hK hE hA hw hl => ?_)
  have hl : lv_has ls 5 [(0, .ref rd), (1, .ref fd), (2, .int (nI pi)), (3, .ref (g.2.2 0)), (4, .int st)] := hl
  have hww := hN.1
  have hs2 : R.1 ≤ 2000 := hN.2.2.2.2.2.1
  refine lv_aload_n hx hb d_RecordReader_keep_0 rfl (lv_at hl 0 rfl) ?_
  refine z_get hx hb hts (z_lay i_RecordReader) hown hK hw hrd rfl 2 (by decide) (z_in k_504 rfl) (fun _ h9 => h9) rfl d_RecordReader_keep_1 ?_
  refine lv_iload_n hx hb d_RecordReader_keep_4 rfl (lv_at hl 2 rfl) ?_
  refine lv_aload_n hx hb d_RecordReader_keep_5 rfl (lv_at hl 1 rfl) ?_
  refine lv_aload_n hx hb d_RecordReader_keep_6 rfl (lv_at hl 0 rfl) ?_
  refine z_get hx hb hts (z_lay i_RecordReader) hown hK hw hrd rfl 4 (by decide) (z_in k_506 rfl) (fun _ h9 => h9) rfl d_RecordReader_keep_7 ?_
  refine lv_aload_n hx hb d_RecordReader_keep_10 rfl (lv_at hl 3 rfl) ?_
  refine z_callV (n := 4) (As := [.int (nI pi), .ref fd, .long nu9, .ref (g.2.2 0)]) (rest := []) ⟨hx, hb, hml, hown, hts⟩ (c_append0 (S := S) l g h hfd hN hpa hpi hsz hfi hm hr0 hki htb9) (z_in k_559 rfl) (z_in k_5 rfl) (z_in k_556 rfl) (z_in k_557 rfl) (z_in k_558 rfl) (by decide +kernel) ⟨by first | exact Nat.le_of_ble_eq_true rfl | (dsimp only; omega) | omega, by first | exact Nat.le_of_ble_eq_true rfl | (dsimp only; omega) | omega⟩ hK hE hw hA rfl hww rfl hl.1 (Nat.le_of_ble_eq_true rfl) d_RecordReader_keep_11 ⟨by first | exact Nat.le_of_ble_eq_true rfl | (dsimp only; omega) | omega, by first | exact Nat.le_of_ble_eq_true rfl | (dsimp only; omega) | omega⟩ rfl (fun r9 h9 H locs hp hw => ?_)
  obtain ⟨nn, r8, n8, p8, k8⟩ := hp
  subst r8
  refine W.eq (g2 := F0 m 14 ls [.int (nI R.1)]) rfl ?_
  refine lv_iconst (v := (-1)) hx hb d_RecordReader_keep_14 (by decide) ?_
  refine lv_icmp_ne (tgt := 30) hx hb d_RecordReader_keep_15 (by decide) (fun c_15 => ?_) (fun c_15 => ?_)
  · -- 15: True
    refine lv_iconst (v := 1) hx hb d_RecordReader_keep_30 (by decide) ?_
    refine lv_goto (tgt := 35) hx hb d_RecordReader_keep_31 (by decide) ?_
    exact z_zret hx hb hr rfl hlocks hw ⟨nn, rfl, n8, p8, k8⟩ (by decide) (by decide) d_RecordReader_keep_35
  · -- 15: False
    exact absurd c_15 (nI_ne1 (by omega))

set_option maxHeartbeats 4000000 in
set_option maxRecDepth 100000 in
theorem c_keepT (l : Launch) (g : z_G) (h : z_H) {mr w rd sc q tr : Nat} {nu9 : Int64} {S : Sch} {R : Rec} {ra : Nat} {ad tx : Nat → Nat} {rf : Nat → Option Nat} {tf : Nat → Nat → Int32} {pi fi fd na r : Nat} {st : Int32} {ki ty gr co re de rq9 : Int32} {tq : Nat} {lq : List Nat} {fq : Nat → Int32} (hrd : h rd = some ((8, 0), .inr (9, [.ref sc, .ref q, .ref w, .ref tr, .long nu9]))) (hfd : h fd = some ((r + 1, fi), .inr (4, [.int (nI fi), .int ki, .int ty, .int gr, .ref na, .int co, .int re, .int de, .int rq9]))) (htq : h tq = some ((mr + 2, R.1), .inl (g.2.1 0, lq.length, .inl fq))) (hN : NdP g h mr w S R ra ad tx rf tf) (hpa : paOK R) (hpi : pi < R.1) (hsz : R.1 < 2000) (hfi : fi < 1000) (hm : mr < 60) (hr0 : 100 ≤ r) (hki : ki = fKi (S.2 fi)) (htb9 : tbC R.2 R.1 + lq.length ≤ 16000) (hlq : lq.length ≤ 255 ∧ ∀ k, k < lq.length → lq.getD k 0 < 256 ∧ fq k = sb_b (lq.getD k 0)) : z_C l y_RecordReader_keep prog_6_method_6_code 5 (Option.some Jvm.ClassFile.FieldType.boolean) 3 80 1 7 g [.ref rd, .ref fd, .int (nI pi), .ref tq, .int st] h (fun x h1 => ∃ nn, x = some (.int 1) ∧ NdP g h1 mr w S (addN R (nI fi, nI pi, nu9, lq)) ra (va_up ad R.1 nn) (va_up tx R.1 tq) (va_up rf R.1 (some nn)) (va_up tf R.1 fq) ∧ paOK (addN R (nI fi, nI pi, nu9, lq)) ∧ z_KT (fun t => t = (mr, 0) ∨ t = (mr, 1) ∨ t = (mr + 1, pi) ∨ t = (mr + 1, R.1)) h h1) := by
  refine z_C.of (by decide) (Nat.le_of_ble_eq_true rfl) (fun pg en s m below meth cd A ls hx hb hml hr hts hown hlocks hnm hK hE hA hw hl => ?_)
  have hl : lv_has ls 5 [(0, .ref rd), (1, .ref fd), (2, .int (nI pi)), (3, .ref tq), (4, .int st)] := hl
  have hww := hN.1
  have hs2 : R.1 ≤ 2000 := hN.2.2.2.2.2.1
  refine lv_aload_n hx hb d_RecordReader_keep_0 rfl (lv_at hl 0 rfl) ?_
  refine z_get hx hb hts (z_lay i_RecordReader) hown hK hw hrd rfl 2 (by decide) (z_in k_504 rfl) (fun _ h9 => h9) rfl d_RecordReader_keep_1 ?_
  refine lv_iload_n hx hb d_RecordReader_keep_4 rfl (lv_at hl 2 rfl) ?_
  refine lv_aload_n hx hb d_RecordReader_keep_5 rfl (lv_at hl 1 rfl) ?_
  refine lv_aload_n hx hb d_RecordReader_keep_6 rfl (lv_at hl 0 rfl) ?_
  refine z_get hx hb hts (z_lay i_RecordReader) hown hK hw hrd rfl 4 (by decide) (z_in k_506 rfl) (fun _ h9 => h9) rfl d_RecordReader_keep_7 ?_
  refine lv_aload_n hx hb d_RecordReader_keep_10 rfl (lv_at hl 3 rfl) ?_
  refine z_callV (n := 4) (As := [.int (nI pi), .ref fd, .long nu9, .ref tq]) (rest := []) ⟨hx, hb, hml, hown, hts⟩ (c_appendT (S := S) l g h hfd htq hN hpa hpi hsz hfi hm hr0 hki htb9 hlq) (z_in k_559 rfl) (z_in k_5 rfl) (z_in k_556 rfl) (z_in k_557 rfl) (z_in k_558 rfl) (by decide +kernel) ⟨by first | exact Nat.le_of_ble_eq_true rfl | (dsimp only; omega) | omega, by first | exact Nat.le_of_ble_eq_true rfl | (dsimp only; omega) | omega⟩ hK hE hw hA rfl hww rfl hl.1 (Nat.le_of_ble_eq_true rfl) d_RecordReader_keep_11 ⟨by first | exact Nat.le_of_ble_eq_true rfl | (dsimp only; omega) | omega, by first | exact Nat.le_of_ble_eq_true rfl | (dsimp only; omega) | omega⟩ rfl (fun r9 h9 H locs hp hw => ?_)
  obtain ⟨nn, r8, n8, p8, k8⟩ := hp
  subst r8
  refine W.eq (g2 := F0 m 14 ls [.int (nI R.1)]) rfl ?_
  refine lv_iconst (v := (-1)) hx hb d_RecordReader_keep_14 (by decide) ?_
  refine lv_icmp_ne (tgt := 30) hx hb d_RecordReader_keep_15 (by decide) (fun c_15 => ?_) (fun c_15 => ?_)
  · -- 15: True
    refine lv_iconst (v := 1) hx hb d_RecordReader_keep_30 (by decide) ?_
    refine lv_goto (tgt := 35) hx hb d_RecordReader_keep_31 (by decide) ?_
    exact z_zret hx hb hr rfl hlocks hw ⟨nn, rfl, n8, p8, k8⟩ (by decide) (by decide) d_RecordReader_keep_35
  · -- 15: False
    exact absurd c_15 (nI_ne1 (by omega))

theorem mnt_ok {S : Sch} {gr : Int32} {t : Nat → Nat} {i j : Nat} : ∀ r f, mntR S gr t i j r f = -1 ∨ ∃ k, f ≤ k ∧ k < f + r ∧ mntR S gr t i j r f = nI k ∧ fGr (S.2 k) = gr := by
  intro r
  induction r with
  | zero => intro f; exact Or.inl rfl
  | succ r ih =>
    intro f
    simp only [mntR]
    split
    · rename_i hg
      split
      · exact Or.inr ⟨f, Nat.le_refl _, by omega, rfl, hg⟩
      · split
        · exact Or.inl rfl
        · rcases ih (f + 1) with e | ⟨k, h1, h2, h3⟩
          · exact Or.inl e
          · exact Or.inr ⟨k, by omega, by omega, h3⟩
    · rcases ih (f + 1) with e | ⟨k, h1, h2, h3⟩
      · exact Or.inl e
      · exact Or.inr ⟨k, by omega, by omega, h3⟩
/-- a name: the field that it means and the place behind it -/
def namR (S : Sch) (t : Nat → Nat) (n : Nat) (gr : Int32) (st p : Nat) : Sum Nat (Nat × Nat) := if isLet (bt t n (sk t n p)) = true then (if mnt S gr t (sk t n p) (we t n (sk t n p)) st = -1 then .inl (sk t n p) else .inr ((mnt S gr t (sk t n p) (we t n (sk t n p)) st).toNatClampNeg, we t n (sk t n p))) else .inl (sk t n p)
def naP (R : Sum Nat (Nat × Nat)) (ad : Nat → Nat) (h : z_H) (sc b n : Nat) (x : Option Value) (h1 : z_H) : Prop := match R with
  | .inl F => x = some .null ∧ ScNo h h1 sc b n F
  | .inr P => x = some (.ref (ad P.1)) ∧ ScOk h h1 sc b n P.2

set_option maxHeartbeats 4000000 in
set_option maxRecDepth 100000 in
theorem c_readName (l : Launch) (g : z_G) (h : z_H) {r q : Nat} {S : Sch} {fa9 ca : Nat} {ad na : Nat → Nat} {ff : Nat → Option Nat} {cf : Nat → Int32} {nf : Nat → Nat → Int32} {rd sc w tr b len n p : Nat} {f : Nat → Int32} {fa ws wd : Int32} {nu9 : Int64} {t : Nat → Nat} {k : Int32} {st : Nat} (hrd : h rd = some ((8, 0), .inr (9, [.ref sc, .ref q, .ref w, .ref tr, .long nu9]))) (hsc : h sc = some ((6, 0), .inr (7, [.ref b, .int (nI n), .int (nI p), .int fa, .int ws, .int wd]))) (hb0 : h b = some ((3, 0), .inl (g.2.1 0, len, .inl f))) (hS : SchP g h r q S fa9 ca ad na ff cf nf) (hn : n ≤ len) (hlen : len < 2 ^ 31) (hf : ∀ k, k < n → t k < 256 ∧ f k = sb_b (t k)) (hp : p ≤ n) (hr0 : 100 ≤ r) (hst : st < 2 ^ 30) : z_C l y_RecordReader_readName prog_6_method_3_code 4 (Option.some (Jvm.ClassFile.FieldType.object "SchemaRecords$Field")) 4 110 0 0 g [.ref rd, .int k, .int (nI st)] h (naP (namR S t n k st p) ad h sc b n) := by
  refine z_C.of (by decide) (Nat.le_of_ble_eq_true rfl) (fun pg en s m below meth cd A ls hx hb hml hr hts hown hlocks hnm hK hE hA hw hl => ?_)
  have hl : lv_has ls 4 [(0, .ref rd), (1, .int k), (2, .int (nI st))] := hl
  have sk1 := sk_le (t := t) hp
  have sk2 := sk_ge t n p
  have we1 := we_le (t := t) (sk_le (t := t) hp)
  have we2 := we_ge t n (sk t n p)
  have k6z : z_K (fun y => y = 6) h h := z_K.rf
  have hs8 : S.1 ≤ 128 := hS.2.2.2.2.2.2.2.1
  refine lv_aload_n hx hb d_RecordReader_readName_0 rfl (lv_at hl 0 rfl) ?_
  refine z_get hx hb hts (z_lay i_RecordReader) hown hK hw hrd rfl 0 (by decide) (z_in k_502 rfl) (fun _ h9 => h9) rfl d_RecordReader_readName_1 ?_
  refine z_callV (n := 0) (As := []) (rest := []) ⟨hx, hb, hml, hown, hts⟩ (c_Scanner_takeWord (t := t) l g h hsc hb0 hn hlen hf (by omega)) (z_in k_250 rfl) (z_in k_8 rfl) (z_in k_529 rfl) (z_in k_248 rfl) (z_in k_249 rfl) (by decide +kernel) ⟨by first | exact Nat.le_of_ble_eq_true rfl | (dsimp only; omega) | omega, by first | exact Nat.le_of_ble_eq_true rfl | (dsimp only; omega) | omega⟩ hK hE hw hA rfl hsc rfl hl.1 (Nat.le_of_ble_eq_true rfl) d_RecordReader_readName_4 ⟨by first | exact Nat.le_of_ble_eq_true rfl | (dsimp only; omega) | omega, by first | exact Nat.le_of_ble_eq_true rfl | (dsimp only; omega) | omega⟩ rfl (fun r9 h9 H locs hp hw => ?_)
  unfold tWd at hp
  by_cases cw : isLet (bt t n (sk t n p)) = true
  · -- cw True
    rw [if_pos cw] at hp
    obtain ⟨r8, hh1⟩ := hp
    subst r8
    obtain ⟨h1, e8⟩ : ∃ x9, x9 = h9 := ⟨_, rfl⟩
    subst e8
    have f1_rd : h1 rd = some ((8, 0), .inr (9, [.ref sc, .ref q, .ref w, .ref tr, .long nu9])) := by rw [← hh1]; exact z_keep hsc hrd (z_t1 (by decide))
    have f1_sc : h1 sc = some ((6, 0), .inr (7, [.ref b, .int (nI n), .int (nI (we t n (sk t n p))), .int fa, .int (nI (sk t n p)), .int (nI (we t n (sk t n p)))])) := by rw [← hh1]; exact z_put_eq
    have f1_b : h1 b = some ((3, 0), .inl (g.2.1 0, len, .inl f)) := by rw [← hh1]; exact z_keep hsc hb0 (z_t1 (by decide))
    have k61 : z_K (fun y => y = 6) h h1 := k6z.tr (by rw [← hh1]; exact z_K.put hsc rfl)
    refine W.eq (g2 := F0 m 7 ls [.int 1]) rfl ?_
    refine lv_if_ne (tgt := 12) hx hb d_RecordReader_readName_7 (by decide) (fun c_7 => ?_) (fun c_7 => ?_)
    · -- 7: True
      have hqn := (hS.k (h1 := h1) k61 (by omega) (by omega) (by omega)).1
      refine lv_aload_n hx hb d_RecordReader_readName_12 rfl (lv_at hl 0 rfl) ?_
      refine z_get hx hb hts (z_lay i_RecordReader) hown hK hw f1_rd rfl 1 (by decide) (z_in k_503 rfl) (fun _ h9 => h9) rfl d_RecordReader_readName_13 ?_
      refine lv_aload_n hx hb d_RecordReader_readName_16 rfl (lv_at hl 0 rfl) ?_
      refine z_get hx hb hts (z_lay i_RecordReader) hown hK hw f1_rd rfl 1 (by decide) (z_in k_503 rfl) (fun _ h9 => h9) rfl d_RecordReader_readName_17 ?_
      refine lv_iload_n hx hb d_RecordReader_readName_20 rfl (lv_at hl 2 rfl) ?_
      refine lv_iload_n hx hb d_RecordReader_readName_21 rfl (lv_at hl 1 rfl) ?_
      refine lv_aload_n hx hb d_RecordReader_readName_22 rfl (lv_at hl 0 rfl) ?_
      refine z_get hx hb hts (z_lay i_RecordReader) hown hK hw f1_rd rfl 0 (by decide) (z_in k_502 rfl) (fun _ h9 => h9) rfl d_RecordReader_readName_23 ?_
      refine z_callV (n := 3) (As := [.int (nI st), .int k, .ref sc]) (rest := [.ref q]) ⟨hx, hb, hml, hown, hts⟩ (c_Schema_meantFrom (t := t) l g h1 f1_sc f1_b (hS.k k61 (by omega) (by omega) (by omega)) hn hlen hf (by omega) (by omega) (by omega)) (z_in k_533 rfl) (z_in k_4 rfl) (z_in k_530 rfl) (z_in k_531 rfl) (z_in k_532 rfl) (by decide +kernel) ⟨by first | exact Nat.le_of_ble_eq_true rfl | (dsimp only; omega) | omega, by first | exact Nat.le_of_ble_eq_true rfl | (dsimp only; omega) | omega⟩ hK hE hw hA rfl hqn rfl hl.1 (Nat.le_of_ble_eq_true rfl) d_RecordReader_readName_26 ⟨by first | exact Nat.le_of_ble_eq_true rfl | (dsimp only; omega) | omega, by first | exact Nat.le_of_ble_eq_true rfl | (dsimp only; omega) | omega⟩ rfl (fun r9 h9 H locs hp hw => ?_)
      obtain ⟨r8, h8⟩ := hp
      subst r8
      subst h8
      have hz9 : mntR S k t (sk t n p) (we t n (sk t n p)) (S.1 - st) st = -1 ∨ _ := mnt_ok (S.1 - st) st
      rcases hz9 with hm9 | ⟨f1, hf1, hf2, hm9, hg9⟩
      · -- meant False
        have hm8 : mnt S k t (sk t n p) (we t n (sk t n p)) st = -1 := hm9
        rw [hm8]
        refine W.eq (g2 := F0 m 29 ls [.int (-1), .ref q]) rfl ?_
        refine z_callV (n := 1) (As := [.int (-1)]) (rest := []) ⟨hx, hb, hml, hown, hts⟩ (c_Schema_fieldAt_no l g h1 (hS.k k61 (by omega) (by omega) (by omega)) (Or.inl (by decide))) (z_in k_356 rfl) (z_in k_4 rfl) (z_in k_534 rfl) (z_in k_354 rfl) (z_in k_355 rfl) (by decide +kernel) ⟨by first | exact Nat.le_of_ble_eq_true rfl | (dsimp only; omega) | omega, by first | exact Nat.le_of_ble_eq_true rfl | (dsimp only; omega) | omega⟩ hK hE hw hA rfl hqn rfl hl.1 (Nat.le_of_ble_eq_true rfl) d_RecordReader_readName_29 ⟨by first | exact Nat.le_of_ble_eq_true rfl | (dsimp only; omega) | omega, by first | exact Nat.le_of_ble_eq_true rfl | (dsimp only; omega) | omega⟩ rfl (fun r9 h9 H locs hp hw => ?_)
        obtain ⟨r8, h8⟩ := hp
        subst r8
        subst h8
        refine W.eq (g2 := F0 m 32 ls [.null]) rfl ?_
        refine lv_astore_nN (lv' := [(3, .null), (0, .ref rd), (1, .int k), (2, .int (nI st))]) hx hb d_RecordReader_readName_32 rfl hl (by decide) rfl (fun ls hl => ?_)
        refine lv_aload_nN hx hb d_RecordReader_readName_33 rfl (lv_at hl 0 rfl) ?_
        refine lv_ifnonnullN hx hb d_RecordReader_readName_34 ?_
        refine lv_aload_n hx hb d_RecordReader_readName_37 rfl (lv_at hl 1 rfl) ?_
        refine z_get hx hb hts (z_lay i_RecordReader) hown hK hw f1_rd rfl 0 (by decide) (z_in k_502 rfl) (fun _ h9 => h9) rfl d_RecordReader_readName_38 ?_
        refine z_callV (n := 0) (As := []) (rest := []) ⟨hx, hb, hml, hown, hts⟩ (c_Scanner_failAtWord l g h1 f1_sc) (z_in k_331 rfl) (z_in k_8 rfl) (z_in k_535 rfl) (z_in k_329 rfl) (z_in k_330 rfl) (by decide +kernel) ⟨by first | exact Nat.le_of_ble_eq_true rfl | (dsimp only; omega) | omega, by first | exact Nat.le_of_ble_eq_true rfl | (dsimp only; omega) | omega⟩ hK hE hw hA rfl f1_sc rfl hl.1 (Nat.le_of_ble_eq_true rfl) d_RecordReader_readName_41 ⟨by first | exact Nat.le_of_ble_eq_true rfl | (dsimp only; omega) | omega, by first | exact Nat.le_of_ble_eq_true rfl | (dsimp only; omega) | omega⟩ rfl (fun r9 h9 H locs hp hw => ?_)
        obtain ⟨r8, hh2⟩ := hp
        subst r8
        obtain ⟨h2, e8⟩ : ∃ x9, x9 = h9 := ⟨_, rfl⟩
        subst e8
        have f2_rd : h2 rd = some ((8, 0), .inr (9, [.ref sc, .ref q, .ref w, .ref tr, .long nu9])) := by rw [← hh2]; exact z_keep f1_sc f1_rd (z_t1 (by decide))
        have f2_sc : h2 sc = some ((6, 0), .inr (7, [.ref b, .int (nI n), .int (nI (we t n (sk t n p))), .int (nI (sk t n p)), .int (nI (sk t n p)), .int (nI (we t n (sk t n p)))])) := by rw [← hh2]; exact z_put_eq
        have f2_b : h2 b = some ((3, 0), .inl (g.2.1 0, len, .inl f)) := by rw [← hh2]; exact z_keep f1_sc f1_b (z_t1 (by decide))
        have f2_q : h2 q = some ((r, 0), .inr (3, [.ref fa9, .ref ca, .int (nI S.1), .int (nI (cc S)), .int (nI (rq S (-1)))])) := by rw [← hh2]; exact z_keep f1_sc hqn (by first | decide | (refine z_t1 ?_; omega) | (refine z_t2 ?_; omega))
        have k62 : z_K (fun y => y = 6) h h2 := k61.tr (by rw [← hh2]; exact z_K.put f1_sc rfl)
        refine W.eq (g2 := F0 m 44 ls [.int 0]) rfl ?_
        refine lv_pop hx hb d_RecordReader_readName_44 rfl ?_
        refine lv_aload_nN hx hb d_RecordReader_readName_45 rfl (lv_at hl 0 rfl) ?_
        exact z_aret hx hb hr (Or.inl ⟨_, rfl⟩) (Or.inl rfl) hlocks hw (by unfold namR; rw [if_pos cw, if_pos hm8]; exact ⟨rfl, _, _, _, by rw [← hh2, ← hh1, z_put_put]⟩) (by decide) (by decide) d_RecordReader_readName_46
      · -- meant True
        have hm8 : mnt S k t (sk t n p) (we t n (sk t n p)) st = nI f1 := hm9
        rw [hm8]
        refine W.eq (g2 := F0 m 29 ls [.int (nI f1), .ref q]) rfl ?_
        refine z_callV (n := 1) (As := [.int (nI f1)]) (rest := []) ⟨hx, hb, hml, hown, hts⟩ (c_Schema_fieldAt (i := f1) l g h1 (hS.k k61 (by omega) (by omega) (by omega)) (by omega)) (z_in k_356 rfl) (z_in k_4 rfl) (z_in k_534 rfl) (z_in k_354 rfl) (z_in k_355 rfl) (by decide +kernel) ⟨by first | exact Nat.le_of_ble_eq_true rfl | (dsimp only; omega) | omega, by first | exact Nat.le_of_ble_eq_true rfl | (dsimp only; omega) | omega⟩ hK hE hw hA rfl hqn rfl hl.1 (Nat.le_of_ble_eq_true rfl) d_RecordReader_readName_29 ⟨by first | exact Nat.le_of_ble_eq_true rfl | (dsimp only; omega) | omega, by first | exact Nat.le_of_ble_eq_true rfl | (dsimp only; omega) | omega⟩ rfl (fun r9 h9 H locs hp hw => ?_)
        obtain ⟨r8, h8⟩ := hp
        subst r8
        subst h8
        refine W.eq (g2 := F0 m 32 ls [.ref (ad f1)]) rfl ?_
        refine lv_astore_n (lv' := [(3, .ref (ad f1)), (0, .ref rd), (1, .int k), (2, .int (nI st))]) hx hb d_RecordReader_readName_32 rfl hl (by decide) rfl (fun ls hl => ?_)
        refine lv_aload_n hx hb d_RecordReader_readName_33 rfl (lv_at hl 0 rfl) ?_
        refine lv_ifnonnull (tgt := 45) hx hb d_RecordReader_readName_34 (by decide) ?_
        refine lv_aload_n hx hb d_RecordReader_readName_45 rfl (lv_at hl 0 rfl) ?_
        exact z_aret hx hb hr (Or.inl ⟨_, rfl⟩) (Or.inr ⟨_, rfl⟩) hlocks hw (by unfold namR; rw [if_pos cw, hm8, if_neg (nI_ne1 (by omega)), nI_clamp (by omega)]; exact ⟨rfl, _, _, _, hh1⟩) (by decide) (by decide) d_RecordReader_readName_46
    · -- 7: False
      exact absurd c_7 (by decide)
  · -- cw False
    rw [if_neg cw] at hp
    obtain ⟨r8, hh3⟩ := hp
    subst r8
    obtain ⟨h3, e8⟩ : ∃ x9, x9 = h9 := ⟨_, rfl⟩
    subst e8
    have f3_rd : h3 rd = some ((8, 0), .inr (9, [.ref sc, .ref q, .ref w, .ref tr, .long nu9])) := by rw [← hh3]; exact z_keep hsc hrd (z_t1 (by decide))
    have f3_sc : h3 sc = some ((6, 0), .inr (7, [.ref b, .int (nI n), .int (nI (sk t n p)), .int (nI (sk t n p)), .int ws, .int wd])) := by rw [← hh3]; exact z_put_eq
    have f3_b : h3 b = some ((3, 0), .inl (g.2.1 0, len, .inl f)) := by rw [← hh3]; exact z_keep hsc hb0 (z_t1 (by decide))
    have k63 : z_K (fun y => y = 6) h h3 := k6z.tr (by rw [← hh3]; exact z_K.put hsc rfl)
    refine W.eq (g2 := F0 m 7 ls [.int 0]) rfl ?_
    refine lv_if_ne (tgt := 12) hx hb d_RecordReader_readName_7 (by decide) (fun c_7 => ?_) (fun c_7 => ?_)
    · -- 7: True
      exact absurd (by decide) c_7
    · -- 7: False
      refine lv_null hx hb d_RecordReader_readName_10 ?_
      exact z_aret hx hb hr (Or.inl ⟨_, rfl⟩) (Or.inl rfl) hlocks hw (by unfold namR; rw [if_neg cw]; exact ⟨rfl, _, _, _, hh3⟩) (by decide) (by decide) d_RecordReader_readName_11

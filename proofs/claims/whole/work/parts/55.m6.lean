theorem fld_k0 {G : Nat → Sch → Nat → Res} {t : Nat → Nat} {n p d : Nat} {S : Sch} {gr : Int32}  (h : iW t n (sk t n p) 0 = true) : fieldR G t n p S gr d = fR2 G t n S gr d 0 (we t n (sk t n p)) := by
  rw [fieldR_eq]
  simp only [pickW]
  rw [if_pos h]
  rfl
theorem fld_k1 {G : Nat → Sch → Nat → Res} {t : Nat → Nat} {n p d : Nat} {S : Sch} {gr : Int32} (n0 : ¬ iW t n (sk t n p) 0 = true) (h : iW t n (sk t n p) 1 = true) : fieldR G t n p S gr d = fR2 G t n S gr d 1 (we t n (sk t n p)) := by
  rw [fieldR_eq]
  simp only [pickW]
  rw [if_neg n0, if_pos h]
  rfl
theorem fld_k2 {G : Nat → Sch → Nat → Res} {t : Nat → Nat} {n p d : Nat} {S : Sch} {gr : Int32} (n0 : ¬ iW t n (sk t n p) 0 = true) (n1 : ¬ iW t n (sk t n p) 1 = true) (h : iW t n (sk t n p) 2 = true) : fieldR G t n p S gr d = fR2 G t n S gr d 2 (we t n (sk t n p)) := by
  rw [fieldR_eq]
  simp only [pickW]
  rw [if_neg n0, if_neg n1, if_pos h]
  rfl
theorem fld_kn {G : Nat → Sch → Nat → Res} {t : Nat → Nat} {n p d : Nat} {S : Sch} {gr : Int32} (n0 : ¬ iW t n (sk t n p) 0 = true) (n1 : ¬ iW t n (sk t n p) 1 = true) (n2 : ¬ iW t n (sk t n p) 2 = true) : fieldR G t n p S gr d = .inl (sk t n p, S.1) := by
  rw [fieldR_eq]
  simp only [pickW]
  rw [if_neg n0, if_neg n1, if_neg n2]
  

theorem fR2_t0 {G : Nat → Sch → Nat → Res} {t : Nat → Nat} {n p d : Nat} {S : Sch} {gr ki : Int32}  (h : iW t n (sk t n p) 3 = true) : fR2 G t n S gr d ki p = fR3 G t n S gr d ki 0 (sk t n (we t n (sk t n p))) := by
  unfold fR2
  simp only [pickW]
  rw [if_pos h]
  rfl
theorem fR2_t1 {G : Nat → Sch → Nat → Res} {t : Nat → Nat} {n p d : Nat} {S : Sch} {gr ki : Int32} (n0 : ¬ iW t n (sk t n p) 3 = true) (h : iW t n (sk t n p) 4 = true) : fR2 G t n S gr d ki p = fR3 G t n S gr d ki 1 (sk t n (we t n (sk t n p))) := by
  unfold fR2
  simp only [pickW]
  rw [if_neg n0, if_pos h]
  rfl
theorem fR2_t2 {G : Nat → Sch → Nat → Res} {t : Nat → Nat} {n p d : Nat} {S : Sch} {gr ki : Int32} (n0 : ¬ iW t n (sk t n p) 3 = true) (n1 : ¬ iW t n (sk t n p) 4 = true) (h : iW t n (sk t n p) 5 = true) : fR2 G t n S gr d ki p = fR3 G t n S gr d ki 2 (sk t n (we t n (sk t n p))) := by
  unfold fR2
  simp only [pickW]
  rw [if_neg n0, if_neg n1, if_pos h]
  rfl
theorem fR2_t3 {G : Nat → Sch → Nat → Res} {t : Nat → Nat} {n p d : Nat} {S : Sch} {gr ki : Int32} (n0 : ¬ iW t n (sk t n p) 3 = true) (n1 : ¬ iW t n (sk t n p) 4 = true) (n2 : ¬ iW t n (sk t n p) 5 = true) (h : iW t n (sk t n p) 6 = true) : fR2 G t n S gr d ki p = fR3 G t n S gr d ki 3 (sk t n (we t n (sk t n p))) := by
  unfold fR2
  simp only [pickW]
  rw [if_neg n0, if_neg n1, if_neg n2, if_pos h]
  rfl
theorem fR2_t4 {G : Nat → Sch → Nat → Res} {t : Nat → Nat} {n p d : Nat} {S : Sch} {gr ki : Int32} (n0 : ¬ iW t n (sk t n p) 3 = true) (n1 : ¬ iW t n (sk t n p) 4 = true) (n2 : ¬ iW t n (sk t n p) 5 = true) (n3 : ¬ iW t n (sk t n p) 6 = true) (h : iW t n (sk t n p) 7 = true) : fR2 G t n S gr d ki p = fR3 G t n S gr d ki 4 (sk t n (we t n (sk t n p))) := by
  unfold fR2
  simp only [pickW]
  rw [if_neg n0, if_neg n1, if_neg n2, if_neg n3, if_pos h]
  rfl
theorem fR2_tn {G : Nat → Sch → Nat → Res} {t : Nat → Nat} {n p d : Nat} {S : Sch} {gr ki : Int32} (n0 : ¬ iW t n (sk t n p) 3 = true) (n1 : ¬ iW t n (sk t n p) 4 = true) (n2 : ¬ iW t n (sk t n p) 5 = true) (n3 : ¬ iW t n (sk t n p) 6 = true) (n4 : ¬ iW t n (sk t n p) 7 = true) : fR2 G t n S gr d ki p = .inl (sk t n p, S.1) := by
  unfold fR2
  simp only [pickW]
  rw [if_neg n0, if_neg n1, if_neg n2, if_neg n3, if_neg n4]
  

def rfA (rf : Nat → Nat → Int32) (i : Nat) (ki ty gr co ln : Int32) : Nat → Nat → Int32
  | 0 => upd (rf 0) i ki
  | 1 => upd (rf 1) i ty
  | 2 => upd (rf 2) i gr
  | 3 => upd (rf 3) i co
  | 4 => upd (rf 4) i ln
  | k => rf k
theorem MSp.six {g : z_G} {h h1 : z_H} {ra le tr lr : Nat} {S S1 : Sch} {rw9 : Nat → Nat} {rf rf1 : Nat → Nat → Int32} {lf lf1 : Nat → Int32} (a : h1 ra = some ((tr, 0), .inl (g.2.1 5, 6, .inr (.inr (.inr (.inr (fun k => some (rw9 k)))))))) (c0 : h1 (rw9 0) = some ((tr + 1, 0), .inl (g.2.1 1, 128, .inl (rf1 0)))) (c1 : h1 (rw9 1) = some ((tr + 1, 1), .inl (g.2.1 1, 128, .inl (rf1 1)))) (c2 : h1 (rw9 2) = some ((tr + 1, 2), .inl (g.2.1 1, 128, .inl (rf1 2)))) (c3 : h1 (rw9 3) = some ((tr + 1, 3), .inl (g.2.1 1, 128, .inl (rf1 3)))) (c4 : h1 (rw9 4) = some ((tr + 1, 4), .inl (g.2.1 1, 128, .inl (rf1 4)))) (c5 : h1 (rw9 5) = some ((tr + 1, 5), .inl (g.2.1 1, 128, .inl (rf1 5)))) (b : h1 le = some ((lr, 0), .inl (g.2.1 1, 2048, .inl lf1))) (hp : ∀ i, i < S1.1 → rf1 0 i = fKi (S1.2 i) ∧ rf1 1 i = fTy (S1.2 i) ∧ rf1 2 i = fGr (S1.2 i) ∧ rf1 3 i = fCo (S1.2 i) ∧ rf1 4 i = nI (fNm (S1.2 i)).length ∧ ∀ k, k < (fNm (S1.2 i)).length → lf1 (16 * i + k) = nI ((fNm (S1.2 i)).getD k 0)) : MSp g h1 ra le tr lr S1 rw9 rf1 lf1 :=
  ⟨a, fun k hk => match k, hk with
    | 0, _ => c0
    | 1, _ => c1
    | 2, _ => c2
    | 3, _ => c3
    | 4, _ => c4
    | 5, _ => c5
    | k + 6, hk => absurd hk (by omega), b, hp⟩
theorem MSp.addp {g : z_G} {h : z_H} {ra le tr lr : Nat} {S : Sch} {rw9 : Nat → Nat} {rf : Nat → Nat → Int32} {lf lf2 : Nat → Int32} (x : MSp g h ra le tr lr S rw9 rf lf) (hB : scB S) {ki ty gr co : Int32} {nm : List Nat} {ln : Int32} (hln : ln = nI nm.length) (hco : co = if ty = 4 then -1 else nI (cc S)) (hl : ∀ j, j < nm.length → lf2 (16 * S.1 + j) = nI (nm.getD j 0)) (ho : ∀ j, j < 16 * S.1 → lf2 j = lf j) : ∀ i, i < (addF S ki ty gr nm).1 → rfA rf S.1 ki ty gr co ln 0 i = fKi ((addF S ki ty gr nm).2 i) ∧ rfA rf S.1 ki ty gr co ln 1 i = fTy ((addF S ki ty gr nm).2 i) ∧ rfA rf S.1 ki ty gr co ln 2 i = fGr ((addF S ki ty gr nm).2 i) ∧ rfA rf S.1 ki ty gr co ln 3 i = fCo ((addF S ki ty gr nm).2 i) ∧ rfA rf S.1 ki ty gr co ln 4 i = nI (fNm ((addF S ki ty gr nm).2 i)).length ∧ ∀ k, k < (fNm ((addF S ki ty gr nm).2 i)).length → lf2 (16 * i + k) = nI ((fNm ((addF S ki ty gr nm).2 i)).getD k 0) := by
  intro i hi
  have hi2 : i < S.1 + 1 := hi
  by_cases e : i = S.1
  · subst e
    rw [addF_new]
    subst hln
    refine ⟨pk_us, pk_us, pk_us, ?_, pk_us, hl⟩
    show upd (rf 3) S.1 co S.1 = _
    rw [pk_us, hco]
    rfl
  · have h1 := x.2.2.2 i (by omega)
    have h2 := (hB.2.2 i (by omega)).1
    rw [addF_old (by omega)]
    refine ⟨(pk_un (by omega)).trans h1.1, (pk_un (by omega)).trans h1.2.1, (pk_un (by omega)).trans h1.2.2.1, (pk_un (by omega)).trans h1.2.2.2.1, (pk_un (by omega)).trans h1.2.2.2.2.1, fun k hk => ?_⟩
    rw [ho _ (by omega)]
    exact h1.2.2.2.2.2 k hk
theorem scB.add {S : Sch} (hB : scB S) {ki ty gr : Int32} {nm : List Nat} (h1 : S.1 < 128) (h2 : ¬ ty = 4 → cc S < 64) (h3 : nm.length ≤ 16) (h4 : ∀ k, k < nm.length → nm.getD k 0 < 256) : scB (addF S ki ty gr nm) := by
  refine ⟨by show S.1 + 1 ≤ 128; omega, ?_, fun i hi => ?_⟩
  · rw [addF_cc]
    have := hB.2.1
    split
    · omega
    · rename_i z; have := h2 z; omega
  · have hi2 : i < S.1 + 1 := hi
    by_cases e : i = S.1
    · subst e; rw [addF_new]; exact ⟨h3, h4⟩
    · rw [addF_old (by omega)]; exact hB.2.2 i (by omega)
theorem mtc_of {S : Sch} {gr : Int32} {t : Nat → Nat} {q m i k : Nat} {sm : Bool} (h : sm = ((decide (fGr (S.2 i) = gr) && decide ((fNm (S.2 i)).length = m)) && nmE t q (fun k => (fNm (S.2 i)).getD k 0) k)) (hk : k ≤ m) (h2 : sm = false ∨ k = m) : mtc S gr t q m i = sm := by
  unfold mtc
  rcases h2 with h2 | h2
  · rw [h2]
    rw [h2] at h
    cases ha : (decide (fGr (S.2 i) = gr) && decide ((fNm (S.2 i)).length = m)) with
    | false => rfl
    | true => rw [ha, Bool.true_and] at h; rw [Bool.true_and, nmE_pre m hk h.symm]
  · rw [h, h2]
theorem sgn_ws {t : Nat → Nat} {n p : Nat} {c : Int32} {S : Sch} (h : sk t n p < 2 ^ 31) : resI (-1) (sgn t n c p S) = wsI (-1) t n (sk t n p) c ∧ (wsI (-1) t n (sk t n p) c = -1 → sgn t n c p S = .inr (wsP (-1) t n (sk t n p) c, S)) := by
  unfold sgn wsI wsP
  by_cases e : bt t n (sk t n p) = c
  · simp only [if_pos e, if_pos rfl]
    exact ⟨resI_ok, fun _ => by rw [if_pos ⟨trivial, e⟩]⟩
  · simp only [if_neg e, if_pos rfl]
    exact ⟨resI_no, fun z => absurd z (nI_ne1 h)⟩

set_option maxHeartbeats 4000000 in
set_option maxRecDepth 100000 in
theorem m_readField_of (l : Launch) (g : z_G) (h : z_H) {mo : Nat} {ma : Nat → Nat} {cod tpd fls cls9 nds sai ous il : Int32} {n p : Nat} {f : Nat → Int32} {t : Nat → Nat} {S : Sch} {fw : Nat → Nat} {rf : Nat → Nat → Int32} {lf : Nat → Int32} {gr : Int32} {d fM lM : Nat} {X : Res} {FLD : Nat → Nat → Sch → Res} (hmo : h mo = some ((20, 0), .inr (11, mF ma cod tpd (nI n) fls cls9 (nI S.1) (nI (cc S)) nds sai ous (nI p) il))) (htx : h (ma 1) = some ((22, 0), .inl (g.2.1 1, 4000, .inl f))) (hn : n ≤ 4000) (hf : ∀ k, k < n → t k < 256 ∧ f k = nI (t k)) (hp : p ≤ n) (hSf : MSp g h (ma 3) (ma 5) 25 28 S fw rf lf) (hB : scB S) (hd : d ≤ 16) (eX : X = fieldR (fun e S1 gi => grpR (FLD gi) t n e S1) t n p S gr d) (hM : d < 16 → ∀ (h : z_H) (p : Nat) (S : Sch) (il : Int32) (gi : Nat), h mo = some ((20, 0), .inr (11, mF ma cod tpd (nI n) fls cls9 (nI S.1) (nI (cc S)) nds sai ous (nI p) il)) → h (ma 1) = some ((22, 0), .inl (g.2.1 1, 4000, .inl f)) → MSc g h (ma 3) (ma 5) 25 28 S → scB S → p ≤ n → z_C l y_M_readField prog_13_method_15_code 10 (Option.none : Option Jvm.ClassFile.FieldType) fM lM 0 0 g [.ref mo, .int (nI gi), .int (nI (d + 1))] h (fun x h1 => x = none ∧ rfP g h h1 mo ma cod tpd fls cls9 nds sai ous il n S (FLD gi p S))) : z_C l y_M_readField prog_13_method_15_code 10 (Option.none : Option Jvm.ClassFile.FieldType) (fM + 10) (lM + 300) 0 0 g [.ref mo, .int gr, .int (nI d)] h (fun x h1 => x = none ∧ rfP g h h1 mo ma cod tpd fls cls9 nds sai ous il n S X) := by
  refine z_C.of (by decide) (Nat.le_of_ble_eq_true rfl) (fun pg en s m below meth cd A ls hx hb hml hr hts hown hlocks hnm hK hE hA hw hl => ?_)
  have hl : lv_has ls 10 [(0, .ref mo), (1, .int gr), (2, .int (nI d))] := hl
  have hfw_0 : h (fw 0) = some ((26, 0), .inl (g.2.1 1, 128, .inl (rf 0))) := hSf.2.1 0 (by omega)
  have hfw_1 : h (fw 1) = some ((26, 1), .inl (g.2.1 1, 128, .inl (rf 1))) := hSf.2.1 1 (by omega)
  have hfw_2 : h (fw 2) = some ((26, 2), .inl (g.2.1 1, 128, .inl (rf 2))) := hSf.2.1 2 (by omega)
  have hfw_3 : h (fw 3) = some ((26, 3), .inl (g.2.1 1, 128, .inl (rf 3))) := hSf.2.1 3 (by omega)
  have hfw_4 : h (fw 4) = some ((26, 4), .inl (g.2.1 1, 128, .inl (rf 4))) := hSf.2.1 4 (by omega)
  have hfw_5 : h (fw 5) = some ((26, 5), .inl (g.2.1 1, 128, .inl (rf 5))) := hSf.2.1 5 (by omega)
  have hs8 := hB.1
  have hcc8 := hB.2.1
  have kk0 : z_K (fun y => y = 20 ∨ y = 26 ∨ y = 28) h h := z_K.rf
  have loop_152 : ∀ (fuel : Nat) (ki : Int32) (ty : Int32) (p2 : Nat) (i1 : Int32) (hC : z_H) (H : Heap) (locs : List Loc) (ls : Array Slot) (L152_mo : hC mo = some ((20, 0), .inr (11, mF ma cod tpd (nI n) fls cls9 (nI S.1) (nI (cc S)) nds sai ous (nI p2) i1))) (L152_ma_1 : hC (ma 1) = some ((22, 0), .inl (g.2.1 1, 4000, .inl f))) (L152_ma_3 : hC (ma 3) = some ((25, 0), .inl (g.2.1 5, 6, .inr (.inr (.inr (.inr (fun k => some (fw k)))))))) (L152_fw_0 : hC (fw 0) = some ((26, 0), .inl (g.2.1 1, 128, .inl (rf 0)))) (L152_fw_1 : hC (fw 1) = some ((26, 1), .inl (g.2.1 1, 128, .inl (rf 1)))) (L152_fw_2 : hC (fw 2) = some ((26, 2), .inl (g.2.1 1, 128, .inl (rf 2)))) (L152_fw_3 : hC (fw 3) = some ((26, 3), .inl (g.2.1 1, 128, .inl (rf 3)))) (L152_fw_4 : hC (fw 4) = some ((26, 4), .inl (g.2.1 1, 128, .inl (rf 4)))) (L152_fw_5 : hC (fw 5) = some ((26, 5), .inl (g.2.1 1, 128, .inl (rf 5)))) (L152_ma_5 : hC (ma 5) = some ((28, 0), .inl (g.2.1 1, 2048, .inl lf))) (hle : p2 ≤ n) (kkL : z_K (fun y => y = 20 ∨ y = 26 ∨ y = 28) h hC) (hZ : (¬ i1 = -1 ∧ resI il X = i1) ∨ (i1 = -1 ∧ il = -1 ∧ X = fR3 (fun e S1 gi => grpR (FLD gi) t n e S1) t n S gr d ki ty (sk t n p2))), 0 < fuel → z_S g A s.heap hC H locs → lv_has ls 10 [(0, .ref mo), (1, .int gr), (2, .int (nI d)), (3, .int ki), (4, .int ty)] → W pg l en { frames := fM + 10, cells := 0, slots := 0, locals := lM + 300 } s m [.ref mo, .int gr, .int (nI d)].toArray below meth cd H locs 0 0 (MQ below (z_Q g A (fun x h1 => x = none ∧ rfP g h h1 mo ma cod tpd fls cls9 nds sai ous il n S X)) [.ref mo, .int gr, .int (nI d)].toArray s 0 0 A) (F0 m 152 ls []) := by
    intro fuel
    induction fuel with
    | zero => intro ki ty p2 i1 hC H locs ls L152_mo L152_ma_1 L152_ma_3 L152_fw_0 L152_fw_1 L152_fw_2 L152_fw_3 L152_fw_4 L152_fw_5 L152_ma_5 hle kkL hZ hm; exact absurd hm (Nat.not_lt_zero _)
    | succ fuel ih_152 =>
      intro ki ty p2 i1 hC H locs ls L152_mo L152_ma_1 L152_ma_3 L152_fw_0 L152_fw_1 L152_fw_2 L152_fw_3 L152_fw_4 L152_fw_5 L152_ma_5 hle kkL hZ hm hw hl
      refine lv_aload_n hx hb d_M_readField_152 rfl (lv_at hl 0 rfl) ?_
      refine z_callV (n := 0) (As := []) (rest := []) ⟨hx, hb, hml, hown, hts⟩ (m_blanks (t := t) l g hC L152_mo L152_ma_1 hn hf (by omega)) (z_in k_885 rfl) (z_in k_7 rfl) (z_in k_882 rfl) (z_in k_884 rfl) (z_in ks_27 rfl) (by decide +kernel) ⟨by first | exact Nat.le_of_ble_eq_true rfl | (dsimp only; omega) | omega, by first | exact Nat.le_of_ble_eq_true rfl | (dsimp only; omega) | omega⟩ hK hE hw hA rfl L152_mo rfl hl.1 (Nat.le_of_ble_eq_true rfl) d_M_readField_153 ⟨by first | exact Nat.le_of_ble_eq_true rfl | (dsimp only; omega) | omega, by first | exact Nat.le_of_ble_eq_true rfl | (dsimp only; omega) | omega⟩ rfl (fun r9 h9 H locs hp hw => ?_)
      have sq1 := sk_le (t := t) (n := n) (p := p2) (by omega)
      have sr1 := sk_ge t n p2
      obtain ⟨r8, hh2⟩ := hp
      subst r8
      obtain ⟨h2, e8⟩ : ∃ x9, x9 = h9 := ⟨_, rfl⟩
      subst e8
      have f2_mo : h2 mo = some ((20, 0), .inr (11, mF ma cod tpd (nI n) fls cls9 (nI S.1) (nI (cc S)) nds sai ous (nI (sk t n p2)) i1)) := by rw [← hh2]; exact z_put_eq
      have f2_ma_1 : h2 (ma 1) = some ((22, 0), .inl (g.2.1 1, 4000, .inl f)) := by rw [← hh2]; exact z_keep L152_mo L152_ma_1 (z_t1 (by decide))
      have f2_ma_3 : h2 (ma 3) = some ((25, 0), .inl (g.2.1 5, 6, .inr (.inr (.inr (.inr (fun k => some (fw k))))))) := by rw [← hh2]; exact z_keep L152_mo L152_ma_3 (z_t1 (by decide))
      have f2_fw_0 : h2 (fw 0) = some ((26, 0), .inl (g.2.1 1, 128, .inl (rf 0))) := by rw [← hh2]; exact z_keep L152_mo L152_fw_0 (z_t1 (by decide))
      have f2_fw_1 : h2 (fw 1) = some ((26, 1), .inl (g.2.1 1, 128, .inl (rf 1))) := by rw [← hh2]; exact z_keep L152_mo L152_fw_1 (z_t1 (by decide))
      have f2_fw_2 : h2 (fw 2) = some ((26, 2), .inl (g.2.1 1, 128, .inl (rf 2))) := by rw [← hh2]; exact z_keep L152_mo L152_fw_2 (z_t1 (by decide))
      have f2_fw_3 : h2 (fw 3) = some ((26, 3), .inl (g.2.1 1, 128, .inl (rf 3))) := by rw [← hh2]; exact z_keep L152_mo L152_fw_3 (z_t1 (by decide))
      have f2_fw_4 : h2 (fw 4) = some ((26, 4), .inl (g.2.1 1, 128, .inl (rf 4))) := by rw [← hh2]; exact z_keep L152_mo L152_fw_4 (z_t1 (by decide))
      have f2_fw_5 : h2 (fw 5) = some ((26, 5), .inl (g.2.1 1, 128, .inl (rf 5))) := by rw [← hh2]; exact z_keep L152_mo L152_fw_5 (z_t1 (by decide))
      have f2_ma_5 : h2 (ma 5) = some ((28, 0), .inl (g.2.1 1, 2048, .inl lf)) := by rw [← hh2]; exact z_keep L152_mo L152_ma_5 (z_t1 (by decide))
      have kk2 : z_K (fun y => y = 20 ∨ y = 26 ∨ y = 28) h h2 := kkL.tr (by rw [← hh2]; exact z_K.put L152_mo (by first | decide | simp | omega))
      refine W.eq (g2 := F0 m 156 ls []) rfl ?_
      refine lv_aload_n hx hb d_M_readField_156 rfl (lv_at hl 0 rfl) ?_
      refine z_callV (n := 0) (As := []) (rest := []) ⟨hx, hb, hml, hown, hts⟩ (m_word (t := t) l g h2 f2_mo f2_ma_1 hn hf (by omega)) (z_in k_902 rfl) (z_in k_7 rfl) (z_in k_899 rfl) (z_in k_901 rfl) (z_in ks_31 rfl) (by decide +kernel) ⟨by first | exact Nat.le_of_ble_eq_true rfl | (dsimp only; omega) | omega, by first | exact Nat.le_of_ble_eq_true rfl | (dsimp only; omega) | omega⟩ hK hE hw hA rfl f2_mo rfl hl.1 (Nat.le_of_ble_eq_true rfl) d_M_readField_157 ⟨by first | exact Nat.le_of_ble_eq_true rfl | (dsimp only; omega) | omega, by first | exact Nat.le_of_ble_eq_true rfl | (dsimp only; omega) | omega⟩ rfl (fun r9 h9 H locs hp hw => ?_)
      obtain ⟨r8, h8⟩ := hp
      subst r8
      subst h8
      refine W.eq (g2 := F0 m 160 ls [.int (nI (wl t n (sk t n p2)))]) rfl ?_
      refine lv_istore (lv' := [(5, .int (nI (wl t n (sk t n p2)))), (0, .ref mo), (1, .int gr), (2, .int (nI d)), (3, .int ki), (4, .int ty)]) hx hb d_M_readField_160 hl (by decide) rfl (fun ls hl => ?_)
      have wl9 := wl_le (t := t) (n := n) (p := sk t n p2) (by omega)
      have loop_218 : ∀ (fuel : Nat) (i : Nat) (gd : Bool) (H : Heap) (locs : List Loc) (ls : Array Slot)  (hie : i ≤ S.1) (hgd : gd = (G0 S ty d (wl t n (sk t n p2)) && nmN S gr t (sk t n p2) (wl t n (sk t n p2)) i)), (S.1 - i) < fuel → z_S g A s.heap h2 H locs → lv_has ls 10 [(0, .ref mo), (1, .int gr), (2, .int (nI d)), (3, .int ki), (4, .int ty), (5, .int (nI (wl t n (sk t n p2)))), (6, .int (zb gd)), (7, .int (nI i))] → W pg l en { frames := fM + 10, cells := 0, slots := 0, locals := lM + 300 } s m [.ref mo, .int gr, .int (nI d)].toArray below meth cd H locs 0 0 (MQ below (z_Q g A (fun x h1 => x = none ∧ rfP g h h1 mo ma cod tpd fls cls9 nds sai ous il n S X)) [.ref mo, .int gr, .int (nI d)].toArray s 0 0 A) (F0 m 218 ls []) := by
        intro fuel
        induction fuel with
        | zero => intro i gd H locs ls hie hgd hm; exact absurd hm (Nat.not_lt_zero _)
        | succ fuel ih_218 =>
          intro i gd H locs ls hie hgd hm hw hl
          refine lv_iload hx hb d_M_readField_218 (lv_at hl 7 rfl) ?_
          refine lv_aload_n hx hb d_M_readField_220 rfl (lv_at hl 0 rfl) ?_
          refine z_get hx hb hts (z_lay i_M) hown hK hw f2_mo rfl 11 (by decide) (z_in k_782 rfl) (fun _ h9 => h9) rfl d_M_readField_221 ?_
          refine lv_icmp_ge (tgt := 340) hx hb d_M_readField_224 (by decide) (fun c_224 => ?_) (fun c_224 => ?_)
          · -- 224: True
            have c_224 : S.1 ≤ i := (nI_leI (a := S.1) (b := i) (by omega) (by omega)).mp c_224
            refine lv_iload hx hb d_M_readField_340 (lv_at hl 6 rfl) ?_
            refine lv_if_ne (tgt := 353) hx hb d_M_readField_342 (by decide) (fun c_342 => ?_) (fun c_342 => ?_)
            · -- 342: True
              have c_342 : gd = true := zb_t c_342
              refine lv_aload_n hx hb d_M_readField_353 rfl (lv_at hl 0 rfl) ?_
              refine z_get hx hb hts (z_lay i_M) hown hK hw f2_mo rfl 30 (by decide) (z_in k_801 rfl) (fun _ h9 => h9) rfl d_M_readField_354 ?_
              refine lv_iconst (v := (-1)) hx hb d_M_readField_357 (by decide) ?_
              refine lv_icmp_eq (tgt := 362) hx hb d_M_readField_358 (by decide) (fun c_358 => ?_) (fun c_358 => ?_)
              · -- 358: True
                have eI : i1 = -1 := c_358
                obtain ⟨-, eil, eX3⟩ := hZ.resolve_left (fun z => z.1 eI)
                have eiS : i = S.1 := by omega
                rw [eiS] at hgd
                have hC9 := gd_eq (S := S) (gr := gr) (ty := ty) (t := t) (n := n) (q := sk t n p2) (d := d) (fun k hk => (hf k hk).1) hB.1
                rw [← hgd, c_342] at hC9
                have hlt9 : isLet (bt t n (sk t n p2)) = true := (Bool.and_eq_true_iff.mp hC9.symm).1
                obtain ⟨lw1, lw2, -⟩ := let_we (fun k hk => (hf k hk).1) hlt9
                have hwl : wl t n (sk t n p2) = we t n (sk t n p2) - (sk t n p2) := by unfold wl; rw [if_pos hlt9]
                have hG9 : G0 S ty d (wl t n (sk t n p2)) = true := (Bool.and_eq_true_iff.mp (hgd.symm.trans c_342)).1
                unfold G0 at hG9
                obtain ⟨hG8, hG7⟩ := Bool.and_eq_true_iff.mp hG9
                obtain ⟨hG6, hG5⟩ := Bool.and_eq_true_iff.mp hG8
                have hG4 := of_decide_eq_true (Bool.and_eq_true_iff.mp hG6).2
                have hG5 := of_decide_eq_true hG5
                obtain ⟨nm9, enm⟩ : ∃ x, x = nmL t (sk t n p2) (we t n (sk t n p2)) := ⟨_, rfl⟩
                have hnl : nm9.length = wl t n (sk t n p2) := by rw [enm, nmL_len, hwl]
                have hng : ∀ k, k < nm9.length → nm9.getD k 0 = t (sk t n p2 + k) := fun k hk => by rw [enm]; exact nmL_get t (by omega)
                have eX4 : X = (if ty = 4 then (fun e S1 gi => grpR (FLD gi) t n e S1) (we t n (sk t n p2)) (addF S ki ty gr nm9) S.1 else sgn t n 59 (we t n (sk t n p2)) (addF S ki ty gr nm9)) := by rw [eX3, enm]; unfold fR3; rw [if_pos hC9.symm]
                have hBA : scB (addF S ki ty gr nm9) := hB.add (by omega) (fun z => by rw [if_neg z] at hG7; exact of_decide_eq_true hG7) (by omega) (fun k hk => by rw [hng k hk]; exact (hf _ (by omega)).1)
                have fi3 : h2 mo = some ((20, 0), .inr (11, mF ma cod tpd (nI n) fls cls9 (nI S.1) (nI (cc S)) nds sai ous (nI (sk t n p2)) (-1))) := by have z9 := f2_mo; rw [eI] at z9; exact z9
                refine lv_aload_n hx hb d_M_readField_362 rfl (lv_at hl 0 rfl) ?_
                refine z_get hx hb hts (z_lay i_M) hown hK hw fi3 rfl 11 (by decide) (z_in k_782 rfl) (fun _ h9 => h9) rfl d_M_readField_363 ?_
                refine lv_istore (lv' := [(7, .int (nI S.1)), (0, .ref mo), (1, .int gr), (2, .int (nI d)), (3, .int ki), (4, .int ty), (5, .int (nI (wl t n (sk t n p2)))), (6, .int (zb gd))]) hx hb d_M_readField_366 hl (by decide) rfl (fun ls hl => ?_)
                refine lv_iconst (v := 0) hx hb d_M_readField_368 (by decide) ?_
                refine lv_istore (lv' := [(8, .int 0), (7, .int (nI S.1)), (0, .ref mo), (1, .int gr), (2, .int (nI d)), (3, .int ki), (4, .int ty), (5, .int (nI (wl t n (sk t n p2)))), (6, .int (zb gd))]) hx hb d_M_readField_369 hl (by decide) rfl (fun ls hl => ?_)
                have loop_371 : ∀ (fuel : Nat) (k : Nat) (lf2 : Nat → Int32) (hL : z_H) (H : Heap) (locs : List Loc) (ls : Array Slot) (L371_mo : hL mo = some ((20, 0), .inr (11, mF ma cod tpd (nI n) fls cls9 (nI S.1) (nI (cc S)) nds sai ous (nI (sk t n p2)) (-1)))) (L371_ma_1 : hL (ma 1) = some ((22, 0), .inl (g.2.1 1, 4000, .inl f))) (L371_ma_3 : hL (ma 3) = some ((25, 0), .inl (g.2.1 5, 6, .inr (.inr (.inr (.inr (fun k => some (fw k)))))))) (L371_fw_0 : hL (fw 0) = some ((26, 0), .inl (g.2.1 1, 128, .inl (rf 0)))) (L371_fw_1 : hL (fw 1) = some ((26, 1), .inl (g.2.1 1, 128, .inl (rf 1)))) (L371_fw_2 : hL (fw 2) = some ((26, 2), .inl (g.2.1 1, 128, .inl (rf 2)))) (L371_fw_3 : hL (fw 3) = some ((26, 3), .inl (g.2.1 1, 128, .inl (rf 3)))) (L371_fw_4 : hL (fw 4) = some ((26, 4), .inl (g.2.1 1, 128, .inl (rf 4)))) (L371_fw_5 : hL (fw 5) = some ((26, 5), .inl (g.2.1 1, 128, .inl (rf 5)))) (L371_ma_5 : hL (ma 5) = some ((28, 0), .inl (g.2.1 1, 2048, .inl lf2))) (hk9 : k ≤ wl t n (sk t n p2)) (hcp : ∀ j, j < k → lf2 (16 * S.1 + j) = nI (t (sk t n p2 + j))) (hol : ∀ j, j < 16 * S.1 → lf2 j = lf j) (kkM : z_K (fun y => y = 20 ∨ y = 26 ∨ y = 28) h hL), (wl t n (sk t n p2) - k) < fuel → z_S g A s.heap hL H locs → lv_has ls 10 [(0, .ref mo), (1, .int gr), (2, .int (nI d)), (3, .int ki), (4, .int ty), (5, .int (nI (wl t n (sk t n p2)))), (7, .int (nI S.1)), (8, .int (nI k))] → W pg l en { frames := fM + 10, cells := 0, slots := 0, locals := lM + 300 } s m [.ref mo, .int gr, .int (nI d)].toArray below meth cd H locs 0 0 (MQ below (z_Q g A (fun x h1 => x = none ∧ rfP g h h1 mo ma cod tpd fls cls9 nds sai ous il n S X)) [.ref mo, .int gr, .int (nI d)].toArray s 0 0 A) (F0 m 371 ls []) := by
                  intro fuel
                  induction fuel with
                  | zero => intro k lf2 hL H locs ls L371_mo L371_ma_1 L371_ma_3 L371_fw_0 L371_fw_1 L371_fw_2 L371_fw_3 L371_fw_4 L371_fw_5 L371_ma_5 hk9 hcp hol kkM hm; exact absurd hm (Nat.not_lt_zero _)
                  | succ fuel ih_371 =>
                    intro k lf2 hL H locs ls L371_mo L371_ma_1 L371_ma_3 L371_fw_0 L371_fw_1 L371_fw_2 L371_fw_3 L371_fw_4 L371_fw_5 L371_ma_5 hk9 hcp hol kkM hm hw hl
                    refine lv_iload hx hb d_M_readField_371 (lv_at hl 7 rfl) ?_
                    refine lv_iload hx hb d_M_readField_373 (lv_at hl 5 rfl) ?_
                    refine lv_icmp_ge (tgt := 409) hx hb d_M_readField_375 (by decide) (fun c_375 => ?_) (fun c_375 => ?_)
                    · -- 375: True
                      have c_375 : (wl t n (sk t n p2)) ≤ k := (nI_leI (a := wl t n (sk t n p2)) (b := k) (by omega) (by omega)).mp c_375
                      have hkw : k = wl t n (sk t n p2) := by omega
                      have hl9 : ∀ j, j < nm9.length → lf2 (16 * S.1 + j) = nI (nm9.getD j 0) := fun j hj => by rw [hng j hj]; exact hcp j (by omega)
                      refine lv_aload_n hx hb d_M_readField_409 rfl (lv_at hl 0 rfl) ?_
                      refine lv_dup hx hb d_M_readField_410 rfl ?_
                      refine z_get hx hb hts (z_lay i_M) hown hK hw L371_mo rfl 29 (by decide) (z_in k_800 rfl) (fun _ h9 => h9) rfl d_M_readField_411 ?_
                      refine lv_iload hx hb d_M_readField_414 (lv_at hl 5 rfl) ?_
                      refine lv_iadd hx hb d_M_readField_416 ?_
                      refine z_topi (y := nI ((sk t n p2) + (wl t n (sk t n p2)))) (nI_add (sk t n p2) (wl t n (sk t n p2))) ?_
                      refine z_putf (ty := .int) hx hb hts (z_lay i_M) t_M t_M_ok n_M hown hK hw L371_mo rfl 29 (by decide) (z_in k_800 rfl) (fun _ h9 => h9) rfl (by decide +kernel) rfl rfl (Nat.le_of_ble_eq_true rfl) d_M_readField_417 (fun H locs hw => ?_)
                      obtain ⟨h4, hh4⟩ : ∃ x9, z_put hL mo (20, 0) (.inr (11, mF ma cod tpd (nI n) fls cls9 (nI S.1) (nI (cc S)) nds sai ous (nI ((sk t n p2) + (wl t n (sk t n p2)))) (-1))) = x9 := ⟨_, rfl⟩
                      have hw : z_S g A s.heap h4 H locs := by rw [← hh4]; exact hw
                      have f4_mo : h4 mo = some ((20, 0), .inr (11, mF ma cod tpd (nI n) fls cls9 (nI S.1) (nI (cc S)) nds sai ous (nI ((sk t n p2) + (wl t n (sk t n p2)))) (-1))) := by rw [← hh4]; exact z_put_eq
                      have f4_ma_1 : h4 (ma 1) = some ((22, 0), .inl (g.2.1 1, 4000, .inl f)) := by rw [← hh4]; exact z_keep L371_mo L371_ma_1 (z_t1 (by decide))
                      have f4_ma_3 : h4 (ma 3) = some ((25, 0), .inl (g.2.1 5, 6, .inr (.inr (.inr (.inr (fun k => some (fw k))))))) := by rw [← hh4]; exact z_keep L371_mo L371_ma_3 (z_t1 (by decide))
                      have f4_fw_0 : h4 (fw 0) = some ((26, 0), .inl (g.2.1 1, 128, .inl (rf 0))) := by rw [← hh4]; exact z_keep L371_mo L371_fw_0 (z_t1 (by decide))
                      have f4_fw_1 : h4 (fw 1) = some ((26, 1), .inl (g.2.1 1, 128, .inl (rf 1))) := by rw [← hh4]; exact z_keep L371_mo L371_fw_1 (z_t1 (by decide))
                      have f4_fw_2 : h4 (fw 2) = some ((26, 2), .inl (g.2.1 1, 128, .inl (rf 2))) := by rw [← hh4]; exact z_keep L371_mo L371_fw_2 (z_t1 (by decide))
                      have f4_fw_3 : h4 (fw 3) = some ((26, 3), .inl (g.2.1 1, 128, .inl (rf 3))) := by rw [← hh4]; exact z_keep L371_mo L371_fw_3 (z_t1 (by decide))
                      have f4_fw_4 : h4 (fw 4) = some ((26, 4), .inl (g.2.1 1, 128, .inl (rf 4))) := by rw [← hh4]; exact z_keep L371_mo L371_fw_4 (z_t1 (by decide))
                      have f4_fw_5 : h4 (fw 5) = some ((26, 5), .inl (g.2.1 1, 128, .inl (rf 5))) := by rw [← hh4]; exact z_keep L371_mo L371_fw_5 (z_t1 (by decide))
                      have f4_ma_5 : h4 (ma 5) = some ((28, 0), .inl (g.2.1 1, 2048, .inl lf2)) := by rw [← hh4]; exact z_keep L371_mo L371_ma_5 (z_t1 (by decide))
                      have kk4 : z_K (fun y => y = 20 ∨ y = 26 ∨ y = 28) h h4 := kkM.tr (by rw [← hh4]; exact z_K.put L371_mo (by first | decide | simp | omega))
                      refine lv_aload_n hx hb d_M_readField_420 rfl (lv_at hl 0 rfl) ?_
                      refine z_get hx hb hts (z_lay i_M) hown hK hw f4_mo rfl 6 (by decide) (z_in k_777 rfl) (fun _ h9 => h9) rfl d_M_readField_421 ?_
                      refine lv_iconst (v := 0) hx hb d_M_readField_424 (by decide) ?_
                      refine z_aldr hx hb hK hw f4_ma_3 5 rfl (by unfold vp_in; decide) d_M_readField_425 ?_
                      refine z_top (y := va_rf ((fun k => some (fw k)) 0)) (by rfl) ?_
                      refine z_top (y := .ref (fw 0)) (rfl) ?_
                      refine lv_iload hx hb d_M_readField_426 (lv_at hl 6 rfl) ?_
                      refine lv_iload_n hx hb d_M_readField_428 rfl (lv_at hl 3 rfl) ?_
                      refine z_iast hx hb hK hw f4_fw_0 1 rfl (vp_in_nI (by omega) (by omega)) d_M_readField_429 (fun H locs hw => ?_)
                      rw [nI_clamp (by omega)] at hw
                      obtain ⟨h5, hh5⟩ : ∃ x9, z_put h4 (fw 0) (26, 0) (.inl (g.2.1 1, 128, .inl (upd (rf 0) S.1 ki))) = x9 := ⟨_, rfl⟩
                      have hw : z_S g A s.heap h5 H locs := by rw [← hh5]; exact hw
                      have f5_mo : h5 mo = some ((20, 0), .inr (11, mF ma cod tpd (nI n) fls cls9 (nI S.1) (nI (cc S)) nds sai ous (nI ((sk t n p2) + (wl t n (sk t n p2)))) (-1))) := by rw [← hh5]; exact z_keep f4_fw_0 f4_mo (z_t1 (by decide))
                      have f5_ma_1 : h5 (ma 1) = some ((22, 0), .inl (g.2.1 1, 4000, .inl f)) := by rw [← hh5]; exact z_keep f4_fw_0 f4_ma_1 (z_t1 (by decide))
                      have f5_ma_3 : h5 (ma 3) = some ((25, 0), .inl (g.2.1 5, 6, .inr (.inr (.inr (.inr (fun k => some (fw k))))))) := by rw [← hh5]; exact z_keep f4_fw_0 f4_ma_3 (z_t1 (by decide))
                      have f5_fw_0 : h5 (fw 0) = some ((26, 0), .inl (g.2.1 1, 128, .inl (upd (rf 0) S.1 ki))) := by rw [← hh5]; exact z_put_eq
                      have f5_fw_1 : h5 (fw 1) = some ((26, 1), .inl (g.2.1 1, 128, .inl (rf 1))) := by rw [← hh5]; exact z_keep f4_fw_0 f4_fw_1 (by decide)
                      have f5_fw_2 : h5 (fw 2) = some ((26, 2), .inl (g.2.1 1, 128, .inl (rf 2))) := by rw [← hh5]; exact z_keep f4_fw_0 f4_fw_2 (by decide)
                      have f5_fw_3 : h5 (fw 3) = some ((26, 3), .inl (g.2.1 1, 128, .inl (rf 3))) := by rw [← hh5]; exact z_keep f4_fw_0 f4_fw_3 (by decide)
                      have f5_fw_4 : h5 (fw 4) = some ((26, 4), .inl (g.2.1 1, 128, .inl (rf 4))) := by rw [← hh5]; exact z_keep f4_fw_0 f4_fw_4 (by decide)
                      have f5_fw_5 : h5 (fw 5) = some ((26, 5), .inl (g.2.1 1, 128, .inl (rf 5))) := by rw [← hh5]; exact z_keep f4_fw_0 f4_fw_5 (by decide)
                      have f5_ma_5 : h5 (ma 5) = some ((28, 0), .inl (g.2.1 1, 2048, .inl lf2)) := by rw [← hh5]; exact z_keep f4_fw_0 f4_ma_5 (z_t1 (by decide))
                      have kk5 : z_K (fun y => y = 20 ∨ y = 26 ∨ y = 28) h h5 := kk4.tr (by rw [← hh5]; exact z_K.put f4_fw_0 (by first | decide | simp | omega))
                      refine lv_aload_n hx hb d_M_readField_430 rfl (lv_at hl 0 rfl) ?_
                      refine z_get hx hb hts (z_lay i_M) hown hK hw f5_mo rfl 6 (by decide) (z_in k_777 rfl) (fun _ h9 => h9) rfl d_M_readField_431 ?_
                      refine lv_iconst (v := 1) hx hb d_M_readField_434 (by decide) ?_
                      refine z_aldr hx hb hK hw f5_ma_3 5 rfl (by unfold vp_in; decide) d_M_readField_435 ?_
                      refine z_top (y := va_rf ((fun k => some (fw k)) 1)) (by rfl) ?_
                      refine z_top (y := .ref (fw 1)) (rfl) ?_
                      refine lv_iload hx hb d_M_readField_436 (lv_at hl 6 rfl) ?_
                      refine lv_iload hx hb d_M_readField_438 (lv_at hl 4 rfl) ?_
                      refine z_iast hx hb hK hw f5_fw_1 1 rfl (vp_in_nI (by omega) (by omega)) d_M_readField_440 (fun H locs hw => ?_)
                      rw [nI_clamp (by omega)] at hw
                      obtain ⟨h6, hh6⟩ : ∃ x9, z_put h5 (fw 1) (26, 1) (.inl (g.2.1 1, 128, .inl (upd (rf 1) S.1 ty))) = x9 := ⟨_, rfl⟩
                      have hw : z_S g A s.heap h6 H locs := by rw [← hh6]; exact hw
                      have f6_mo : h6 mo = some ((20, 0), .inr (11, mF ma cod tpd (nI n) fls cls9 (nI S.1) (nI (cc S)) nds sai ous (nI ((sk t n p2) + (wl t n (sk t n p2)))) (-1))) := by rw [← hh6]; exact z_keep f5_fw_1 f5_mo (z_t1 (by decide))
                      have f6_ma_1 : h6 (ma 1) = some ((22, 0), .inl (g.2.1 1, 4000, .inl f)) := by rw [← hh6]; exact z_keep f5_fw_1 f5_ma_1 (z_t1 (by decide))
                      have f6_ma_3 : h6 (ma 3) = some ((25, 0), .inl (g.2.1 5, 6, .inr (.inr (.inr (.inr (fun k => some (fw k))))))) := by rw [← hh6]; exact z_keep f5_fw_1 f5_ma_3 (z_t1 (by decide))
                      have f6_fw_0 : h6 (fw 0) = some ((26, 0), .inl (g.2.1 1, 128, .inl (upd (rf 0) S.1 ki))) := by rw [← hh6]; exact z_keep f5_fw_1 f5_fw_0 (by decide)
                      have f6_fw_1 : h6 (fw 1) = some ((26, 1), .inl (g.2.1 1, 128, .inl (upd (rf 1) S.1 ty))) := by rw [← hh6]; exact z_put_eq
                      have f6_fw_2 : h6 (fw 2) = some ((26, 2), .inl (g.2.1 1, 128, .inl (rf 2))) := by rw [← hh6]; exact z_keep f5_fw_1 f5_fw_2 (by decide)
                      have f6_fw_3 : h6 (fw 3) = some ((26, 3), .inl (g.2.1 1, 128, .inl (rf 3))) := by rw [← hh6]; exact z_keep f5_fw_1 f5_fw_3 (by decide)
                      have f6_fw_4 : h6 (fw 4) = some ((26, 4), .inl (g.2.1 1, 128, .inl (rf 4))) := by rw [← hh6]; exact z_keep f5_fw_1 f5_fw_4 (by decide)
                      have f6_fw_5 : h6 (fw 5) = some ((26, 5), .inl (g.2.1 1, 128, .inl (rf 5))) := by rw [← hh6]; exact z_keep f5_fw_1 f5_fw_5 (by decide)
                      have f6_ma_5 : h6 (ma 5) = some ((28, 0), .inl (g.2.1 1, 2048, .inl lf2)) := by rw [← hh6]; exact z_keep f5_fw_1 f5_ma_5 (z_t1 (by decide))
                      have kk6 : z_K (fun y => y = 20 ∨ y = 26 ∨ y = 28) h h6 := kk5.tr (by rw [← hh6]; exact z_K.put f5_fw_1 (by first | decide | simp | omega))
                      refine lv_aload_n hx hb d_M_readField_441 rfl (lv_at hl 0 rfl) ?_
                      refine z_get hx hb hts (z_lay i_M) hown hK hw f6_mo rfl 6 (by decide) (z_in k_777 rfl) (fun _ h9 => h9) rfl d_M_readField_442 ?_
                      refine lv_iconst (v := 2) hx hb d_M_readField_445 (by decide) ?_
                      refine z_aldr hx hb hK hw f6_ma_3 5 rfl (by unfold vp_in; decide) d_M_readField_446 ?_
                      refine z_top (y := va_rf ((fun k => some (fw k)) 2)) (by rfl) ?_
                      refine z_top (y := .ref (fw 2)) (rfl) ?_
                      refine lv_iload hx hb d_M_readField_447 (lv_at hl 6 rfl) ?_
                      refine lv_iload_n hx hb d_M_readField_449 rfl (lv_at hl 1 rfl) ?_
                      refine z_iast hx hb hK hw f6_fw_2 1 rfl (vp_in_nI (by omega) (by omega)) d_M_readField_450 (fun H locs hw => ?_)
                      rw [nI_clamp (by omega)] at hw
                      obtain ⟨h7, hh7⟩ : ∃ x9, z_put h6 (fw 2) (26, 2) (.inl (g.2.1 1, 128, .inl (upd (rf 2) S.1 gr))) = x9 := ⟨_, rfl⟩
                      have hw : z_S g A s.heap h7 H locs := by rw [← hh7]; exact hw
                      have f7_mo : h7 mo = some ((20, 0), .inr (11, mF ma cod tpd (nI n) fls cls9 (nI S.1) (nI (cc S)) nds sai ous (nI ((sk t n p2) + (wl t n (sk t n p2)))) (-1))) := by rw [← hh7]; exact z_keep f6_fw_2 f6_mo (z_t1 (by decide))
                      have f7_ma_1 : h7 (ma 1) = some ((22, 0), .inl (g.2.1 1, 4000, .inl f)) := by rw [← hh7]; exact z_keep f6_fw_2 f6_ma_1 (z_t1 (by decide))
                      have f7_ma_3 : h7 (ma 3) = some ((25, 0), .inl (g.2.1 5, 6, .inr (.inr (.inr (.inr (fun k => some (fw k))))))) := by rw [← hh7]; exact z_keep f6_fw_2 f6_ma_3 (z_t1 (by decide))
                      have f7_fw_0 : h7 (fw 0) = some ((26, 0), .inl (g.2.1 1, 128, .inl (upd (rf 0) S.1 ki))) := by rw [← hh7]; exact z_keep f6_fw_2 f6_fw_0 (by decide)
                      have f7_fw_1 : h7 (fw 1) = some ((26, 1), .inl (g.2.1 1, 128, .inl (upd (rf 1) S.1 ty))) := by rw [← hh7]; exact z_keep f6_fw_2 f6_fw_1 (by decide)
                      have f7_fw_2 : h7 (fw 2) = some ((26, 2), .inl (g.2.1 1, 128, .inl (upd (rf 2) S.1 gr))) := by rw [← hh7]; exact z_put_eq
                      have f7_fw_3 : h7 (fw 3) = some ((26, 3), .inl (g.2.1 1, 128, .inl (rf 3))) := by rw [← hh7]; exact z_keep f6_fw_2 f6_fw_3 (by decide)
                      have f7_fw_4 : h7 (fw 4) = some ((26, 4), .inl (g.2.1 1, 128, .inl (rf 4))) := by rw [← hh7]; exact z_keep f6_fw_2 f6_fw_4 (by decide)
                      have f7_fw_5 : h7 (fw 5) = some ((26, 5), .inl (g.2.1 1, 128, .inl (rf 5))) := by rw [← hh7]; exact z_keep f6_fw_2 f6_fw_5 (by decide)
                      have f7_ma_5 : h7 (ma 5) = some ((28, 0), .inl (g.2.1 1, 2048, .inl lf2)) := by rw [← hh7]; exact z_keep f6_fw_2 f6_ma_5 (z_t1 (by decide))
                      have kk7 : z_K (fun y => y = 20 ∨ y = 26 ∨ y = 28) h h7 := kk6.tr (by rw [← hh7]; exact z_K.put f6_fw_2 (by first | decide | simp | omega))
                      refine lv_aload_n hx hb d_M_readField_451 rfl (lv_at hl 0 rfl) ?_
                      refine z_get hx hb hts (z_lay i_M) hown hK hw f7_mo rfl 6 (by decide) (z_in k_777 rfl) (fun _ h9 => h9) rfl d_M_readField_452 ?_
                      refine lv_iconst (v := 4) hx hb d_M_readField_455 (by decide) ?_
                      refine z_aldr hx hb hK hw f7_ma_3 5 rfl (by unfold vp_in; decide) d_M_readField_456 ?_
                      refine z_top (y := va_rf ((fun k => some (fw k)) 4)) (by rfl) ?_
                      refine z_top (y := .ref (fw 4)) (rfl) ?_
                      refine lv_iload hx hb d_M_readField_457 (lv_at hl 6 rfl) ?_
                      refine lv_iload hx hb d_M_readField_459 (lv_at hl 5 rfl) ?_
                      refine z_iast hx hb hK hw f7_fw_4 1 rfl (vp_in_nI (by omega) (by omega)) d_M_readField_461 (fun H locs hw => ?_)
                      rw [nI_clamp (by omega)] at hw
                      obtain ⟨h8, hh8⟩ : ∃ x9, z_put h7 (fw 4) (26, 4) (.inl (g.2.1 1, 128, .inl (upd (rf 4) S.1 (nI (wl t n (sk t n p2)))))) = x9 := ⟨_, rfl⟩
                      have hw : z_S g A s.heap h8 H locs := by rw [← hh8]; exact hw
                      have f8_mo : h8 mo = some ((20, 0), .inr (11, mF ma cod tpd (nI n) fls cls9 (nI S.1) (nI (cc S)) nds sai ous (nI ((sk t n p2) + (wl t n (sk t n p2)))) (-1))) := by rw [← hh8]; exact z_keep f7_fw_4 f7_mo (z_t1 (by decide))
                      have f8_ma_1 : h8 (ma 1) = some ((22, 0), .inl (g.2.1 1, 4000, .inl f)) := by rw [← hh8]; exact z_keep f7_fw_4 f7_ma_1 (z_t1 (by decide))
                      have f8_ma_3 : h8 (ma 3) = some ((25, 0), .inl (g.2.1 5, 6, .inr (.inr (.inr (.inr (fun k => some (fw k))))))) := by rw [← hh8]; exact z_keep f7_fw_4 f7_ma_3 (z_t1 (by decide))
                      have f8_fw_0 : h8 (fw 0) = some ((26, 0), .inl (g.2.1 1, 128, .inl (upd (rf 0) S.1 ki))) := by rw [← hh8]; exact z_keep f7_fw_4 f7_fw_0 (by decide)
                      have f8_fw_1 : h8 (fw 1) = some ((26, 1), .inl (g.2.1 1, 128, .inl (upd (rf 1) S.1 ty))) := by rw [← hh8]; exact z_keep f7_fw_4 f7_fw_1 (by decide)
                      have f8_fw_2 : h8 (fw 2) = some ((26, 2), .inl (g.2.1 1, 128, .inl (upd (rf 2) S.1 gr))) := by rw [← hh8]; exact z_keep f7_fw_4 f7_fw_2 (by decide)
                      have f8_fw_3 : h8 (fw 3) = some ((26, 3), .inl (g.2.1 1, 128, .inl (rf 3))) := by rw [← hh8]; exact z_keep f7_fw_4 f7_fw_3 (by decide)
                      have f8_fw_4 : h8 (fw 4) = some ((26, 4), .inl (g.2.1 1, 128, .inl (upd (rf 4) S.1 (nI (wl t n (sk t n p2)))))) := by rw [← hh8]; exact z_put_eq
                      have f8_fw_5 : h8 (fw 5) = some ((26, 5), .inl (g.2.1 1, 128, .inl (rf 5))) := by rw [← hh8]; exact z_keep f7_fw_4 f7_fw_5 (by decide)
                      have f8_ma_5 : h8 (ma 5) = some ((28, 0), .inl (g.2.1 1, 2048, .inl lf2)) := by rw [← hh8]; exact z_keep f7_fw_4 f7_ma_5 (z_t1 (by decide))
                      have kk8 : z_K (fun y => y = 20 ∨ y = 26 ∨ y = 28) h h8 := kk7.tr (by rw [← hh8]; exact z_K.put f7_fw_4 (by first | decide | simp | omega))
                      refine lv_aload_n hx hb d_M_readField_462 rfl (lv_at hl 0 rfl) ?_
                      refine z_get hx hb hts (z_lay i_M) hown hK hw f8_mo rfl 6 (by decide) (z_in k_777 rfl) (fun _ h9 => h9) rfl d_M_readField_463 ?_
                      refine lv_iconst (v := 3) hx hb d_M_readField_466 (by decide) ?_
                      refine z_aldr hx hb hK hw f8_ma_3 5 rfl (by unfold vp_in; decide) d_M_readField_467 ?_
                      refine z_top (y := va_rf ((fun k => some (fw k)) 3)) (by rfl) ?_
                      refine z_top (y := .ref (fw 3)) (rfl) ?_
                      refine lv_iload hx hb d_M_readField_468 (lv_at hl 6 rfl) ?_
                      refine lv_iload hx hb d_M_readField_470 (lv_at hl 4 rfl) ?_
                      refine lv_iconst (v := 4) hx hb d_M_readField_472 (by decide) ?_
                      refine lv_icmp_ne (tgt := 480) hx hb d_M_readField_473 (by decide) (fun c_473 => ?_) (fun c_473 => ?_)
                      · -- 473: True
                        refine lv_aload_n hx hb d_M_readField_480 rfl (lv_at hl 0 rfl) ?_
                        refine z_get hx hb hts (z_lay i_M) hown hK hw f8_mo rfl 12 (by decide) (z_in k_783 rfl) (fun _ h9 => h9) rfl d_M_readField_481 ?_
                        refine z_iast hx hb hK hw f8_fw_3 1 rfl (vp_in_nI (by omega) (by omega)) d_M_readField_484 (fun H locs hw => ?_)
                        rw [nI_clamp (by omega)] at hw
                        obtain ⟨h9, hh9⟩ : ∃ x9, z_put h8 (fw 3) (26, 3) (.inl (g.2.1 1, 128, .inl (upd (rf 3) S.1 (nI (cc S))))) = x9 := ⟨_, rfl⟩
                        have hw : z_S g A s.heap h9 H locs := by rw [← hh9]; exact hw
                        have f9_mo : h9 mo = some ((20, 0), .inr (11, mF ma cod tpd (nI n) fls cls9 (nI S.1) (nI (cc S)) nds sai ous (nI ((sk t n p2) + (wl t n (sk t n p2)))) (-1))) := by rw [← hh9]; exact z_keep f8_fw_3 f8_mo (z_t1 (by decide))
                        have f9_ma_1 : h9 (ma 1) = some ((22, 0), .inl (g.2.1 1, 4000, .inl f)) := by rw [← hh9]; exact z_keep f8_fw_3 f8_ma_1 (z_t1 (by decide))
                        have f9_ma_3 : h9 (ma 3) = some ((25, 0), .inl (g.2.1 5, 6, .inr (.inr (.inr (.inr (fun k => some (fw k))))))) := by rw [← hh9]; exact z_keep f8_fw_3 f8_ma_3 (z_t1 (by decide))
                        have f9_fw_0 : h9 (fw 0) = some ((26, 0), .inl (g.2.1 1, 128, .inl (upd (rf 0) S.1 ki))) := by rw [← hh9]; exact z_keep f8_fw_3 f8_fw_0 (by decide)
                        have f9_fw_1 : h9 (fw 1) = some ((26, 1), .inl (g.2.1 1, 128, .inl (upd (rf 1) S.1 ty))) := by rw [← hh9]; exact z_keep f8_fw_3 f8_fw_1 (by decide)
                        have f9_fw_2 : h9 (fw 2) = some ((26, 2), .inl (g.2.1 1, 128, .inl (upd (rf 2) S.1 gr))) := by rw [← hh9]; exact z_keep f8_fw_3 f8_fw_2 (by decide)
                        have f9_fw_3 : h9 (fw 3) = some ((26, 3), .inl (g.2.1 1, 128, .inl (upd (rf 3) S.1 (nI (cc S))))) := by rw [← hh9]; exact z_put_eq
                        have f9_fw_4 : h9 (fw 4) = some ((26, 4), .inl (g.2.1 1, 128, .inl (upd (rf 4) S.1 (nI (wl t n (sk t n p2)))))) := by rw [← hh9]; exact z_keep f8_fw_3 f8_fw_4 (by decide)
                        have f9_fw_5 : h9 (fw 5) = some ((26, 5), .inl (g.2.1 1, 128, .inl (rf 5))) := by rw [← hh9]; exact z_keep f8_fw_3 f8_fw_5 (by decide)
                        have f9_ma_5 : h9 (ma 5) = some ((28, 0), .inl (g.2.1 1, 2048, .inl lf2)) := by rw [← hh9]; exact z_keep f8_fw_3 f8_ma_5 (z_t1 (by decide))
                        have kk9 : z_K (fun y => y = 20 ∨ y = 26 ∨ y = 28) h h9 := kk8.tr (by rw [← hh9]; exact z_K.put f8_fw_3 (by first | decide | simp | omega))
                        refine lv_aload_n hx hb d_M_readField_485 rfl (lv_at hl 0 rfl) ?_
                        refine lv_dup hx hb d_M_readField_486 rfl ?_
                        refine z_get hx hb hts (z_lay i_M) hown hK hw f9_mo rfl 11 (by decide) (z_in k_782 rfl) (fun _ h9 => h9) rfl d_M_readField_487 ?_
                        refine lv_iconst (v := 1) hx hb d_M_readField_490 (by decide) ?_
                        refine lv_iadd hx hb d_M_readField_491 ?_
                        refine z_topi (y := nI (S.1 + 1)) (nI_add S.1 1) ?_
                        refine z_putf (ty := .int) hx hb hts (z_lay i_M) t_M t_M_ok n_M hown hK hw f9_mo rfl 11 (by decide) (z_in k_782 rfl) (fun _ h9 => h9) rfl (by decide +kernel) rfl rfl (Nat.le_of_ble_eq_true rfl) d_M_readField_492 (fun H locs hw => ?_)
                        obtain ⟨h10, hh10⟩ : ∃ x9, z_put h9 mo (20, 0) (.inr (11, mF ma cod tpd (nI n) fls cls9 (nI (S.1 + 1)) (nI (cc S)) nds sai ous (nI ((sk t n p2) + (wl t n (sk t n p2)))) (-1))) = x9 := ⟨_, rfl⟩
                        have hw : z_S g A s.heap h10 H locs := by rw [← hh10]; exact hw
                        have f10_mo : h10 mo = some ((20, 0), .inr (11, mF ma cod tpd (nI n) fls cls9 (nI (S.1 + 1)) (nI (cc S)) nds sai ous (nI ((sk t n p2) + (wl t n (sk t n p2)))) (-1))) := by rw [← hh10]; exact z_put_eq
                        have f10_ma_1 : h10 (ma 1) = some ((22, 0), .inl (g.2.1 1, 4000, .inl f)) := by rw [← hh10]; exact z_keep f9_mo f9_ma_1 (z_t1 (by decide))
                        have f10_ma_3 : h10 (ma 3) = some ((25, 0), .inl (g.2.1 5, 6, .inr (.inr (.inr (.inr (fun k => some (fw k))))))) := by rw [← hh10]; exact z_keep f9_mo f9_ma_3 (z_t1 (by decide))
                        have f10_fw_0 : h10 (fw 0) = some ((26, 0), .inl (g.2.1 1, 128, .inl (upd (rf 0) S.1 ki))) := by rw [← hh10]; exact z_keep f9_mo f9_fw_0 (z_t1 (by decide))
                        have f10_fw_1 : h10 (fw 1) = some ((26, 1), .inl (g.2.1 1, 128, .inl (upd (rf 1) S.1 ty))) := by rw [← hh10]; exact z_keep f9_mo f9_fw_1 (z_t1 (by decide))
                        have f10_fw_2 : h10 (fw 2) = some ((26, 2), .inl (g.2.1 1, 128, .inl (upd (rf 2) S.1 gr))) := by rw [← hh10]; exact z_keep f9_mo f9_fw_2 (z_t1 (by decide))
                        have f10_fw_3 : h10 (fw 3) = some ((26, 3), .inl (g.2.1 1, 128, .inl (upd (rf 3) S.1 (nI (cc S))))) := by rw [← hh10]; exact z_keep f9_mo f9_fw_3 (z_t1 (by decide))
                        have f10_fw_4 : h10 (fw 4) = some ((26, 4), .inl (g.2.1 1, 128, .inl (upd (rf 4) S.1 (nI (wl t n (sk t n p2)))))) := by rw [← hh10]; exact z_keep f9_mo f9_fw_4 (z_t1 (by decide))
                        have f10_fw_5 : h10 (fw 5) = some ((26, 5), .inl (g.2.1 1, 128, .inl (rf 5))) := by rw [← hh10]; exact z_keep f9_mo f9_fw_5 (z_t1 (by decide))
                        have f10_ma_5 : h10 (ma 5) = some ((28, 0), .inl (g.2.1 1, 2048, .inl lf2)) := by rw [← hh10]; exact z_keep f9_mo f9_ma_5 (z_t1 (by decide))
                        have kk10 : z_K (fun y => y = 20 ∨ y = 26 ∨ y = 28) h h10 := kk9.tr (by rw [← hh10]; exact z_K.put f9_mo (by first | decide | simp | omega))
                        refine lv_iload hx hb d_M_readField_495 (lv_at hl 4 rfl) ?_
                        refine lv_iconst (v := 4) hx hb d_M_readField_497 (by decide) ?_
                        refine lv_icmp_eq (tgt := 518) hx hb d_M_readField_498 (by decide) (fun c_498 => ?_) (fun c_498 => ?_)
                        · -- 498: True
                          exact absurd c_498 c_473
                        · -- 498: False
                          refine lv_aload_n hx hb d_M_readField_501 rfl (lv_at hl 0 rfl) ?_
                          refine lv_dup hx hb d_M_readField_502 rfl ?_
                          refine z_get hx hb hts (z_lay i_M) hown hK hw f10_mo rfl 12 (by decide) (z_in k_783 rfl) (fun _ h9 => h9) rfl d_M_readField_503 ?_
                          refine lv_iconst (v := 1) hx hb d_M_readField_506 (by decide) ?_
                          refine lv_iadd hx hb d_M_readField_507 ?_
                          refine z_topi (y := nI ((cc S) + 1)) (nI_add (cc S) 1) ?_
                          refine z_putf (ty := .int) hx hb hts (z_lay i_M) t_M t_M_ok n_M hown hK hw f10_mo rfl 12 (by decide) (z_in k_783 rfl) (fun _ h9 => h9) rfl (by decide +kernel) rfl rfl (Nat.le_of_ble_eq_true rfl) d_M_readField_508 (fun H locs hw => ?_)
                          obtain ⟨h11, hh11⟩ : ∃ x9, z_put h10 mo (20, 0) (.inr (11, mF ma cod tpd (nI n) fls cls9 (nI (S.1 + 1)) (nI ((cc S) + 1)) nds sai ous (nI ((sk t n p2) + (wl t n (sk t n p2)))) (-1))) = x9 := ⟨_, rfl⟩
                          have hw : z_S g A s.heap h11 H locs := by rw [← hh11]; exact hw
                          have f11_mo : h11 mo = some ((20, 0), .inr (11, mF ma cod tpd (nI n) fls cls9 (nI (S.1 + 1)) (nI ((cc S) + 1)) nds sai ous (nI ((sk t n p2) + (wl t n (sk t n p2)))) (-1))) := by rw [← hh11]; exact z_put_eq
                          have f11_ma_1 : h11 (ma 1) = some ((22, 0), .inl (g.2.1 1, 4000, .inl f)) := by rw [← hh11]; exact z_keep f10_mo f10_ma_1 (z_t1 (by decide))
                          have f11_ma_3 : h11 (ma 3) = some ((25, 0), .inl (g.2.1 5, 6, .inr (.inr (.inr (.inr (fun k => some (fw k))))))) := by rw [← hh11]; exact z_keep f10_mo f10_ma_3 (z_t1 (by decide))
                          have f11_fw_0 : h11 (fw 0) = some ((26, 0), .inl (g.2.1 1, 128, .inl (upd (rf 0) S.1 ki))) := by rw [← hh11]; exact z_keep f10_mo f10_fw_0 (z_t1 (by decide))
                          have f11_fw_1 : h11 (fw 1) = some ((26, 1), .inl (g.2.1 1, 128, .inl (upd (rf 1) S.1 ty))) := by rw [← hh11]; exact z_keep f10_mo f10_fw_1 (z_t1 (by decide))
                          have f11_fw_2 : h11 (fw 2) = some ((26, 2), .inl (g.2.1 1, 128, .inl (upd (rf 2) S.1 gr))) := by rw [← hh11]; exact z_keep f10_mo f10_fw_2 (z_t1 (by decide))
                          have f11_fw_3 : h11 (fw 3) = some ((26, 3), .inl (g.2.1 1, 128, .inl (upd (rf 3) S.1 (nI (cc S))))) := by rw [← hh11]; exact z_keep f10_mo f10_fw_3 (z_t1 (by decide))
                          have f11_fw_4 : h11 (fw 4) = some ((26, 4), .inl (g.2.1 1, 128, .inl (upd (rf 4) S.1 (nI (wl t n (sk t n p2)))))) := by rw [← hh11]; exact z_keep f10_mo f10_fw_4 (z_t1 (by decide))
                          have f11_fw_5 : h11 (fw 5) = some ((26, 5), .inl (g.2.1 1, 128, .inl (rf 5))) := by rw [← hh11]; exact z_keep f10_mo f10_fw_5 (z_t1 (by decide))
                          have f11_ma_5 : h11 (ma 5) = some ((28, 0), .inl (g.2.1 1, 2048, .inl lf2)) := by rw [← hh11]; exact z_keep f10_mo f10_ma_5 (z_t1 (by decide))
                          have kk11 : z_K (fun y => y = 20 ∨ y = 26 ∨ y = 28) h h11 := kk10.tr (by rw [← hh11]; exact z_K.put f10_mo (by first | decide | simp | omega))
                          have cA : cc (addF S ki ty gr nm9) = cc S + 1 := by rw [addF_cc, if_neg (show ¬ ty = 4 from c_498)]
                          have fe12 : h11 mo = some ((20, 0), .inr (11, mF ma cod tpd (nI n) fls cls9 (nI ((addF S ki ty gr nm9).1)) (nI (cc (addF S ki ty gr nm9))) nds sai ous (nI ((sk t n p2) + (wl t n (sk t n p2)))) (-1))) := by rw [cA]; exact f11_mo
                          have hE9 : sk t n p2 + wl t n (sk t n p2) = we t n (sk t n p2) := by omega
                          have fe13 : h11 mo = some ((20, 0), .inr (11, mF ma cod tpd (nI n) fls cls9 (nI ((addF S ki ty gr nm9).1)) (nI (cc (addF S ki ty gr nm9))) nds sai ous (nI (we t n (sk t n p2))) (-1))) := by rw [← hE9]; exact fe12
                          refine lv_aload_n hx hb d_M_readField_511 rfl (lv_at hl 0 rfl) ?_
                          refine lv_bipush (v := 59) hx hb d_M_readField_512 (by decide) ?_
                          refine z_callV (n := 1) (As := [.int 59]) (rest := []) ⟨hx, hb, hml, hown, hts⟩ (m_wantSign (t := t) l g h11 fe13 f11_ma_1 hn hf (by omega)) (z_in k_923 rfl) (z_in k_7 rfl) (z_in k_920 rfl) (z_in k_922 rfl) (z_in ks_33 rfl) (by decide +kernel) ⟨by first | exact Nat.le_of_ble_eq_true rfl | (dsimp only; omega) | omega, by first | exact Nat.le_of_ble_eq_true rfl | (dsimp only; omega) | omega⟩ hK hE hw hA rfl fe13 rfl hl.1 (Nat.le_of_ble_eq_true rfl) d_M_readField_514 ⟨by first | exact Nat.le_of_ble_eq_true rfl | (dsimp only; omega) | omega, by first | exact Nat.le_of_ble_eq_true rfl | (dsimp only; omega) | omega⟩ rfl (fun r9 h9 H locs hp hw => ?_)
                          have wb9 := ws_le (il := (-1)) (t := t) (n := n) (p := we t n (sk t n p2)) (k := 59) (by omega) (by decide)
                          have sb9 := sk_le (t := t) (n := n) (p := we t n (sk t n p2)) (by omega)
                          obtain ⟨r8, hh14⟩ := hp
                          subst r8
                          obtain ⟨h14, e8⟩ : ∃ x9, x9 = h9 := ⟨_, rfl⟩
                          subst e8
                          have f14_mo : h14 mo = some ((20, 0), .inr (11, mF ma cod tpd (nI n) fls cls9 (nI ((addF S ki ty gr nm9).1)) (nI (cc (addF S ki ty gr nm9))) nds sai ous (nI (wsP (-1) t n (sk t n (we t n (sk t n p2))) 59)) (wsI (-1) t n (sk t n (we t n (sk t n p2))) 59))) := by rw [← hh14]; exact z_put_eq
                          have f14_ma_1 : h14 (ma 1) = some ((22, 0), .inl (g.2.1 1, 4000, .inl f)) := by rw [← hh14]; exact z_keep fe13 f11_ma_1 (z_t1 (by decide))
                          have f14_ma_3 : h14 (ma 3) = some ((25, 0), .inl (g.2.1 5, 6, .inr (.inr (.inr (.inr (fun k => some (fw k))))))) := by rw [← hh14]; exact z_keep fe13 f11_ma_3 (z_t1 (by decide))
                          have f14_fw_0 : h14 (fw 0) = some ((26, 0), .inl (g.2.1 1, 128, .inl (upd (rf 0) S.1 ki))) := by rw [← hh14]; exact z_keep fe13 f11_fw_0 (z_t1 (by decide))
                          have f14_fw_1 : h14 (fw 1) = some ((26, 1), .inl (g.2.1 1, 128, .inl (upd (rf 1) S.1 ty))) := by rw [← hh14]; exact z_keep fe13 f11_fw_1 (z_t1 (by decide))
                          have f14_fw_2 : h14 (fw 2) = some ((26, 2), .inl (g.2.1 1, 128, .inl (upd (rf 2) S.1 gr))) := by rw [← hh14]; exact z_keep fe13 f11_fw_2 (z_t1 (by decide))
                          have f14_fw_3 : h14 (fw 3) = some ((26, 3), .inl (g.2.1 1, 128, .inl (upd (rf 3) S.1 (nI (cc S))))) := by rw [← hh14]; exact z_keep fe13 f11_fw_3 (z_t1 (by decide))
                          have f14_fw_4 : h14 (fw 4) = some ((26, 4), .inl (g.2.1 1, 128, .inl (upd (rf 4) S.1 (nI (wl t n (sk t n p2)))))) := by rw [← hh14]; exact z_keep fe13 f11_fw_4 (z_t1 (by decide))
                          have f14_fw_5 : h14 (fw 5) = some ((26, 5), .inl (g.2.1 1, 128, .inl (rf 5))) := by rw [← hh14]; exact z_keep fe13 f11_fw_5 (z_t1 (by decide))
                          have f14_ma_5 : h14 (ma 5) = some ((28, 0), .inl (g.2.1 1, 2048, .inl lf2)) := by rw [← hh14]; exact z_keep fe13 f11_ma_5 (z_t1 (by decide))
                          have kk14 : z_K (fun y => y = 20 ∨ y = 26 ∨ y = 28) h h14 := kk11.tr (by rw [← hh14]; exact z_K.put fe13 (by first | decide | simp | omega))
                          refine W.eq (g2 := F0 m 517 ls []) rfl ?_
                          exact z_vret hx hb hr hlocks hw (by have eR : resI il X = wsI (-1) t n (sk t n (we t n (sk t n p2))) 59 := (by rw [eil, eX4, if_neg (show ¬ ty = 4 from c_498)]; exact (sgn_ws (by omega)).1); exact ⟨rfl, kk14, wsP (-1) t n (sk t n (we t n (sk t n p2))) 59, (addF S ki ty gr nm9), by rw [eR]; exact f14_mo, by omega, (by have z9 := (MSp.six (h := h) (S := S) (rf := rf) (lf := lf) (S1 := (addF S ki ty gr nm9)) (rf1 := (rfA rf S.1 ki ty gr (nI (cc S)) (nI (wl t n (sk t n p2))))) (lf1 := lf2) f14_ma_3 f14_fw_0 f14_fw_1 f14_fw_2 f14_fw_3 f14_fw_4 f14_fw_5 f14_ma_5 (MSp.addp hSf hB (by rw [hnl]) (by rw [if_neg (show ¬ ty = 4 from c_498)]) hl9 hol)); exact ⟨_, _, _, z9⟩), hBA, fun z => ⟨by rw [eX4, if_neg (show ¬ ty = 4 from c_498)]; exact (sgn_ws (by omega)).2 (eR.symm.trans z), Nat.lt_succ_self _⟩⟩) (by decide) (by decide) d_M_readField_517
                      · -- 473: False
                        refine lv_iconst (v := (-1)) hx hb d_M_readField_476 (by decide) ?_
                        refine lv_goto (tgt := 484) hx hb d_M_readField_477 (by decide) ?_
                        refine z_iast hx hb hK hw f8_fw_3 1 rfl (vp_in_nI (by omega) (by omega)) d_M_readField_484 (fun H locs hw => ?_)
                        rw [nI_clamp (by omega)] at hw
                        obtain ⟨h15, hh15⟩ : ∃ x9, z_put h8 (fw 3) (26, 3) (.inl (g.2.1 1, 128, .inl (upd (rf 3) S.1 (-1)))) = x9 := ⟨_, rfl⟩
                        have hw : z_S g A s.heap h15 H locs := by rw [← hh15]; exact hw
                        have f15_mo : h15 mo = some ((20, 0), .inr (11, mF ma cod tpd (nI n) fls cls9 (nI S.1) (nI (cc S)) nds sai ous (nI ((sk t n p2) + (wl t n (sk t n p2)))) (-1))) := by rw [← hh15]; exact z_keep f8_fw_3 f8_mo (z_t1 (by decide))
                        have f15_ma_1 : h15 (ma 1) = some ((22, 0), .inl (g.2.1 1, 4000, .inl f)) := by rw [← hh15]; exact z_keep f8_fw_3 f8_ma_1 (z_t1 (by decide))
                        have f15_ma_3 : h15 (ma 3) = some ((25, 0), .inl (g.2.1 5, 6, .inr (.inr (.inr (.inr (fun k => some (fw k))))))) := by rw [← hh15]; exact z_keep f8_fw_3 f8_ma_3 (z_t1 (by decide))
                        have f15_fw_0 : h15 (fw 0) = some ((26, 0), .inl (g.2.1 1, 128, .inl (upd (rf 0) S.1 ki))) := by rw [← hh15]; exact z_keep f8_fw_3 f8_fw_0 (by decide)
                        have f15_fw_1 : h15 (fw 1) = some ((26, 1), .inl (g.2.1 1, 128, .inl (upd (rf 1) S.1 ty))) := by rw [← hh15]; exact z_keep f8_fw_3 f8_fw_1 (by decide)
                        have f15_fw_2 : h15 (fw 2) = some ((26, 2), .inl (g.2.1 1, 128, .inl (upd (rf 2) S.1 gr))) := by rw [← hh15]; exact z_keep f8_fw_3 f8_fw_2 (by decide)
                        have f15_fw_3 : h15 (fw 3) = some ((26, 3), .inl (g.2.1 1, 128, .inl (upd (rf 3) S.1 (-1)))) := by rw [← hh15]; exact z_put_eq
                        have f15_fw_4 : h15 (fw 4) = some ((26, 4), .inl (g.2.1 1, 128, .inl (upd (rf 4) S.1 (nI (wl t n (sk t n p2)))))) := by rw [← hh15]; exact z_keep f8_fw_3 f8_fw_4 (by decide)
                        have f15_fw_5 : h15 (fw 5) = some ((26, 5), .inl (g.2.1 1, 128, .inl (rf 5))) := by rw [← hh15]; exact z_keep f8_fw_3 f8_fw_5 (by decide)
                        have f15_ma_5 : h15 (ma 5) = some ((28, 0), .inl (g.2.1 1, 2048, .inl lf2)) := by rw [← hh15]; exact z_keep f8_fw_3 f8_ma_5 (z_t1 (by decide))
                        have kk15 : z_K (fun y => y = 20 ∨ y = 26 ∨ y = 28) h h15 := kk8.tr (by rw [← hh15]; exact z_K.put f8_fw_3 (by first | decide | simp | omega))
                        refine lv_aload_n hx hb d_M_readField_485 rfl (lv_at hl 0 rfl) ?_
                        refine lv_dup hx hb d_M_readField_486 rfl ?_
                        refine z_get hx hb hts (z_lay i_M) hown hK hw f15_mo rfl 11 (by decide) (z_in k_782 rfl) (fun _ h9 => h9) rfl d_M_readField_487 ?_
                        refine lv_iconst (v := 1) hx hb d_M_readField_490 (by decide) ?_
                        refine lv_iadd hx hb d_M_readField_491 ?_
                        refine z_topi (y := nI (S.1 + 1)) (nI_add S.1 1) ?_
                        refine z_putf (ty := .int) hx hb hts (z_lay i_M) t_M t_M_ok n_M hown hK hw f15_mo rfl 11 (by decide) (z_in k_782 rfl) (fun _ h9 => h9) rfl (by decide +kernel) rfl rfl (Nat.le_of_ble_eq_true rfl) d_M_readField_492 (fun H locs hw => ?_)
                        obtain ⟨h16, hh16⟩ : ∃ x9, z_put h15 mo (20, 0) (.inr (11, mF ma cod tpd (nI n) fls cls9 (nI (S.1 + 1)) (nI (cc S)) nds sai ous (nI ((sk t n p2) + (wl t n (sk t n p2)))) (-1))) = x9 := ⟨_, rfl⟩
                        have hw : z_S g A s.heap h16 H locs := by rw [← hh16]; exact hw
                        have f16_mo : h16 mo = some ((20, 0), .inr (11, mF ma cod tpd (nI n) fls cls9 (nI (S.1 + 1)) (nI (cc S)) nds sai ous (nI ((sk t n p2) + (wl t n (sk t n p2)))) (-1))) := by rw [← hh16]; exact z_put_eq
                        have f16_ma_1 : h16 (ma 1) = some ((22, 0), .inl (g.2.1 1, 4000, .inl f)) := by rw [← hh16]; exact z_keep f15_mo f15_ma_1 (z_t1 (by decide))
                        have f16_ma_3 : h16 (ma 3) = some ((25, 0), .inl (g.2.1 5, 6, .inr (.inr (.inr (.inr (fun k => some (fw k))))))) := by rw [← hh16]; exact z_keep f15_mo f15_ma_3 (z_t1 (by decide))
                        have f16_fw_0 : h16 (fw 0) = some ((26, 0), .inl (g.2.1 1, 128, .inl (upd (rf 0) S.1 ki))) := by rw [← hh16]; exact z_keep f15_mo f15_fw_0 (z_t1 (by decide))
                        have f16_fw_1 : h16 (fw 1) = some ((26, 1), .inl (g.2.1 1, 128, .inl (upd (rf 1) S.1 ty))) := by rw [← hh16]; exact z_keep f15_mo f15_fw_1 (z_t1 (by decide))
                        have f16_fw_2 : h16 (fw 2) = some ((26, 2), .inl (g.2.1 1, 128, .inl (upd (rf 2) S.1 gr))) := by rw [← hh16]; exact z_keep f15_mo f15_fw_2 (z_t1 (by decide))
                        have f16_fw_3 : h16 (fw 3) = some ((26, 3), .inl (g.2.1 1, 128, .inl (upd (rf 3) S.1 (-1)))) := by rw [← hh16]; exact z_keep f15_mo f15_fw_3 (z_t1 (by decide))
                        have f16_fw_4 : h16 (fw 4) = some ((26, 4), .inl (g.2.1 1, 128, .inl (upd (rf 4) S.1 (nI (wl t n (sk t n p2)))))) := by rw [← hh16]; exact z_keep f15_mo f15_fw_4 (z_t1 (by decide))
                        have f16_fw_5 : h16 (fw 5) = some ((26, 5), .inl (g.2.1 1, 128, .inl (rf 5))) := by rw [← hh16]; exact z_keep f15_mo f15_fw_5 (z_t1 (by decide))
                        have f16_ma_5 : h16 (ma 5) = some ((28, 0), .inl (g.2.1 1, 2048, .inl lf2)) := by rw [← hh16]; exact z_keep f15_mo f15_ma_5 (z_t1 (by decide))
                        have kk16 : z_K (fun y => y = 20 ∨ y = 26 ∨ y = 28) h h16 := kk15.tr (by rw [← hh16]; exact z_K.put f15_mo (by first | decide | simp | omega))
                        refine lv_iload hx hb d_M_readField_495 (lv_at hl 4 rfl) ?_
                        refine lv_iconst (v := 4) hx hb d_M_readField_497 (by decide) ?_
                        refine lv_icmp_eq (tgt := 518) hx hb d_M_readField_498 (by decide) (fun c_498 => ?_) (fun c_498 => ?_)
                        · -- 498: True
                          have cA : cc (addF S ki ty gr nm9) = cc S := by rw [addF_cc, if_pos (show ty = 4 by simpa using c_498)]; rfl
                          have fe17 : h16 mo = some ((20, 0), .inr (11, mF ma cod tpd (nI n) fls cls9 (nI ((addF S ki ty gr nm9).1)) (nI (cc (addF S ki ty gr nm9))) nds sai ous (nI ((sk t n p2) + (wl t n (sk t n p2)))) (-1))) := by rw [cA]; exact f16_mo
                          have hE9 : sk t n p2 + wl t n (sk t n p2) = we t n (sk t n p2) := by omega
                          have fe18 : h16 mo = some ((20, 0), .inr (11, mF ma cod tpd (nI n) fls cls9 (nI ((addF S ki ty gr nm9).1)) (nI (cc (addF S ki ty gr nm9))) nds sai ous (nI (we t n (sk t n p2))) (-1))) := by rw [← hE9]; exact fe17
                          have hty : ty = 4 := by simpa using c_498
                          have hd16 : d < 16 := by rw [if_pos hty] at hG7; exact of_decide_eq_true hG7
                          refine lv_aload_n hx hb d_M_readField_518 rfl (lv_at hl 0 rfl) ?_
                          refine lv_bipush (v := 123) hx hb d_M_readField_519 (by decide) ?_
                          refine z_callV (n := 1) (As := [.int 123]) (rest := []) ⟨hx, hb, hml, hown, hts⟩ (m_wantSign (t := t) l g h16 fe18 f16_ma_1 hn hf (by omega)) (z_in k_923 rfl) (z_in k_7 rfl) (z_in k_920 rfl) (z_in k_922 rfl) (z_in ks_33 rfl) (by decide +kernel) ⟨by first | exact Nat.le_of_ble_eq_true rfl | (dsimp only; omega) | omega, by first | exact Nat.le_of_ble_eq_true rfl | (dsimp only; omega) | omega⟩ hK hE hw hA rfl fe18 rfl hl.1 (Nat.le_of_ble_eq_true rfl) d_M_readField_521 ⟨by first | exact Nat.le_of_ble_eq_true rfl | (dsimp only; omega) | omega, by first | exact Nat.le_of_ble_eq_true rfl | (dsimp only; omega) | omega⟩ rfl (fun r9 h9 H locs hp hw => ?_)
                          have wb9 := ws_le (il := (-1)) (t := t) (n := n) (p := we t n (sk t n p2)) (k := 123) (by omega) (by decide)
                          have sb9 := sk_le (t := t) (n := n) (p := we t n (sk t n p2)) (by omega)
                          obtain ⟨r8, hh19⟩ := hp
                          subst r8
                          obtain ⟨h19, e8⟩ : ∃ x9, x9 = h9 := ⟨_, rfl⟩
                          subst e8
                          have f19_mo : h19 mo = some ((20, 0), .inr (11, mF ma cod tpd (nI n) fls cls9 (nI ((addF S ki ty gr nm9).1)) (nI (cc (addF S ki ty gr nm9))) nds sai ous (nI (wsP (-1) t n (sk t n (we t n (sk t n p2))) 123)) (wsI (-1) t n (sk t n (we t n (sk t n p2))) 123))) := by rw [← hh19]; exact z_put_eq
                          have f19_ma_1 : h19 (ma 1) = some ((22, 0), .inl (g.2.1 1, 4000, .inl f)) := by rw [← hh19]; exact z_keep fe18 f16_ma_1 (z_t1 (by decide))
                          have f19_ma_3 : h19 (ma 3) = some ((25, 0), .inl (g.2.1 5, 6, .inr (.inr (.inr (.inr (fun k => some (fw k))))))) := by rw [← hh19]; exact z_keep fe18 f16_ma_3 (z_t1 (by decide))
                          have f19_fw_0 : h19 (fw 0) = some ((26, 0), .inl (g.2.1 1, 128, .inl (upd (rf 0) S.1 ki))) := by rw [← hh19]; exact z_keep fe18 f16_fw_0 (z_t1 (by decide))
                          have f19_fw_1 : h19 (fw 1) = some ((26, 1), .inl (g.2.1 1, 128, .inl (upd (rf 1) S.1 ty))) := by rw [← hh19]; exact z_keep fe18 f16_fw_1 (z_t1 (by decide))
                          have f19_fw_2 : h19 (fw 2) = some ((26, 2), .inl (g.2.1 1, 128, .inl (upd (rf 2) S.1 gr))) := by rw [← hh19]; exact z_keep fe18 f16_fw_2 (z_t1 (by decide))
                          have f19_fw_3 : h19 (fw 3) = some ((26, 3), .inl (g.2.1 1, 128, .inl (upd (rf 3) S.1 (-1)))) := by rw [← hh19]; exact z_keep fe18 f16_fw_3 (z_t1 (by decide))
                          have f19_fw_4 : h19 (fw 4) = some ((26, 4), .inl (g.2.1 1, 128, .inl (upd (rf 4) S.1 (nI (wl t n (sk t n p2)))))) := by rw [← hh19]; exact z_keep fe18 f16_fw_4 (z_t1 (by decide))
                          have f19_fw_5 : h19 (fw 5) = some ((26, 5), .inl (g.2.1 1, 128, .inl (rf 5))) := by rw [← hh19]; exact z_keep fe18 f16_fw_5 (z_t1 (by decide))
                          have f19_ma_5 : h19 (ma 5) = some ((28, 0), .inl (g.2.1 1, 2048, .inl lf2)) := by rw [← hh19]; exact z_keep fe18 f16_ma_5 (z_t1 (by decide))
                          have kk19 : z_K (fun y => y = 20 ∨ y = 26 ∨ y = 28) h h19 := kk16.tr (by rw [← hh19]; exact z_K.put fe18 (by first | decide | simp | omega))
                          refine W.eq (g2 := F0 m 524 ls []) rfl ?_
                          have loop_524 : ∀ (fuel : Nat) (c : Nat) (p3 : Nat) (i3 : Int32) (S3 : Sch) (hL : z_H) (H : Heap) (locs : List Loc) (ls : Array Slot) (L524_mo : hL mo = some ((20, 0), .inr (11, mF ma cod tpd (nI n) fls cls9 (nI S3.1) (nI (cc S3)) nds sai ous (nI p3) i3))) (L524_ma_1 : hL (ma 1) = some ((22, 0), .inl (g.2.1 1, 4000, .inl f))) (hle3 : p3 ≤ n) (kk3 : z_K (fun y => y = 20 ∨ y = 26 ∨ y = 28) h hL) (hSc3 : MSc g hL (ma 3) (ma 5) 25 28 S3) (hB3 : scB S3) (hc3 : 129 ≤ c + S3.1 ∧ S.1 < S3.1) (hZ3 : (¬ i3 = -1 ∧ resI il X = i3) ∨ (i3 = -1 ∧ X = grpC (FLD S.1) t n c p3 S3)), c < fuel → z_S g A s.heap hL H locs → lv_has ls 10 [(0, .ref mo), (1, .int gr), (2, .int (nI d)), (7, .int (nI S.1))] → W pg l en { frames := fM + 10, cells := 0, slots := 0, locals := lM + 300 } s m [.ref mo, .int gr, .int (nI d)].toArray below meth cd H locs 0 0 (MQ below (z_Q g A (fun x h1 => x = none ∧ rfP g h h1 mo ma cod tpd fls cls9 nds sai ous il n S X)) [.ref mo, .int gr, .int (nI d)].toArray s 0 0 A) (F0 m 524 ls []) := by
                            intro fuel
                            induction fuel with
                            | zero => intro c p3 i3 S3 hL H locs ls L524_mo L524_ma_1 hle3 kk3 hSc3 hB3 hc3 hZ3 hm; exact absurd hm (Nat.not_lt_zero _)
                            | succ fuel ih_524 =>
                              intro c p3 i3 S3 hL H locs ls L524_mo L524_ma_1 hle3 kk3 hSc3 hB3 hc3 hZ3 hm hw hl
                              refine lv_aload_n hx hb d_M_readField_524 rfl (lv_at hl 0 rfl) ?_
                              refine lv_iload hx hb d_M_readField_525 (lv_at hl 3 rfl) ?_
                              refine lv_iload_n hx hb d_M_readField_527 rfl (lv_at hl 2 rfl) ?_
                              refine lv_iconst (v := 1) hx hb d_M_readField_528 (by decide) ?_
                              refine lv_iadd hx hb d_M_readField_529 ?_
                              refine z_topi (y := nI (d + 1)) (nI_add d 1) ?_
                              refine z_callV (n := 2) (As := [.int (nI S.1), .int (nI (d + 1))]) (rest := []) ⟨hx, hb, hml, hown, hts⟩ (hM hd16 hL p3 S3 i3 S.1 L524_mo L524_ma_1 hSc3 hB3 hle3) (z_in k_881 rfl) (z_in k_7 rfl) (z_in k_878 rfl) (z_in k_880 rfl) (z_in ks_26 rfl) (by decide +kernel) ⟨by first | exact Nat.le_of_ble_eq_true rfl | (dsimp only; omega) | omega, by first | exact Nat.le_of_ble_eq_true rfl | (dsimp only; omega) | omega⟩ hK hE hw hA rfl L524_mo rfl hl.1 (Nat.le_of_ble_eq_true rfl) d_M_readField_530 ⟨by first | exact Nat.le_of_ble_eq_true rfl | (dsimp only; omega) | omega, by first | exact Nat.le_of_ble_eq_true rfl | (dsimp only; omega) | omega⟩ rfl (fun r9 h9 H locs hp hw => ?_)
                              obtain ⟨r8, kk8, p4, S4, m4, le4, sc4, b4, im4⟩ := hp
                              subst r8
                              obtain ⟨h20, e7⟩ : ∃ x9, x9 = h9 := ⟨_, rfl⟩
                              subst e7
                              have g20_ma_1 : h20 (ma 1) = some ((22, 0), .inl (g.2.1 1, 4000, .inl f)) := kk8 _ _ _ L524_ma_1 (by simp)
                              have kk20 : z_K (fun y => y = 20 ∨ y = 26 ∨ y = 28) h h20 := kk3.tr kk8
                              refine W.eq (g2 := F0 m 533 ls []) rfl ?_
                              refine lv_aload_n hx hb d_M_readField_533 rfl (lv_at hl 0 rfl) ?_
                              refine z_get hx hb hts (z_lay i_M) hown hK hw m4 rfl 30 (by decide) (z_in k_801 rfl) (fun _ h9 => h9) rfl d_M_readField_534 ?_
                              refine lv_iconst (v := (-1)) hx hb d_M_readField_537 (by decide) ?_
                              refine lv_icmp_ne (tgt := 550) hx hb d_M_readField_538 (by decide) (fun c_538 => ?_) (fun c_538 => ?_)
                              · -- 538: True
                                exact z_vret hx hb hr hlocks hw (by have eR : resI il X = resI i3 (FLD S.1 p3 S3) := ((hZ3.elim (fun z => z.2.trans (resI_ill z.1).symm) (fun z => by obtain ⟨z1, z2⟩ := z; rw [z1] at c_538 ⊢; obtain ⟨F9, eF⟩ := resI_inl c_538; rw [eil, z2, eF]; unfold grpC; rw [eF]))); exact ⟨rfl, kk20, p4, S4, by rw [eR]; exact m4, by omega, sc4, b4, fun z => absurd (eR.symm.trans z) c_538⟩) (by decide) (by decide) d_M_readField_550
                              · -- 538: False
                                have e4 : resI i3 (FLD S.1 p3 S3) = -1 := by simpa using c_538
                                have e5 : i3 = -1 := by apply Classical.byContradiction; intro z; rw [resI_ill z] at e4; exact z e4
                                have eX5 := (hZ3.resolve_left (fun z => z.1 e5)).2
                                obtain ⟨eF4, lt4⟩ := im4 e4
                                obtain ⟨c5, ec5⟩ : ∃ c5, c = c5 + 1 := ⟨c - 1, by have := hB3.1; omega⟩
                                have eX8 : X = if bt t n (sk t n p4) = 125 then .inr (sk t n p4 + 1, S4) else grpC (FLD S.1) t n c5 (sk t n p4) S4 := by rw [eX5]; unfold grpC; rw [eF4, ec5]; exact grpL_step _ _ _ _ _ _
                                have sb4 := sk_le (t := t) le4
                                have fi21 : h20 mo = some ((20, 0), .inr (11, mF ma cod tpd (nI n) fls cls9 (nI S4.1) (nI (cc S4)) nds sai ous (nI p4) (-1))) := by have z9 := m4; rw [e4] at z9; exact z9
                                refine lv_aload_n hx hb d_M_readField_541 rfl (lv_at hl 0 rfl) ?_
                                refine lv_bipush (v := 125) hx hb d_M_readField_542 (by decide) ?_
                                refine z_callV (n := 1) (As := [.int 125]) (rest := []) ⟨hx, hb, hml, hown, hts⟩ (m_takesSign (t := t) l g h20 fi21 g20_ma_1 hn hf (by omega)) (z_in k_927 rfl) (z_in k_7 rfl) (z_in k_924 rfl) (z_in k_926 rfl) (z_in ks_34 rfl) (by decide +kernel) ⟨by first | exact Nat.le_of_ble_eq_true rfl | (dsimp only; omega) | omega, by first | exact Nat.le_of_ble_eq_true rfl | (dsimp only; omega) | omega⟩ hK hE hw hA rfl fi21 rfl hl.1 (Nat.le_of_ble_eq_true rfl) d_M_readField_544 ⟨by first | exact Nat.le_of_ble_eq_true rfl | (dsimp only; omega) | omega, by first | exact Nat.le_of_ble_eq_true rfl | (dsimp only; omega) | omega⟩ rfl (fun r9 h9 H locs hp hw => ?_)
                                by_cases ts547 : ((-1) : Int32) = -1 ∧ bt t n (sk t n p4) = 125
                                · -- sign True
                                  rw [if_pos ts547] at hp
                                  obtain ⟨r8, hh22⟩ := hp
                                  subst r8
                                  obtain ⟨h22, e8⟩ : ∃ x9, x9 = h9 := ⟨_, rfl⟩
                                  subst e8
                                  have f22_mo : h22 mo = some ((20, 0), .inr (11, mF ma cod tpd (nI n) fls cls9 (nI S4.1) (nI (cc S4)) nds sai ous (nI (sk t n p4 + 1)) (-1))) := by rw [← hh22]; exact z_put_eq
                                  have f22_ma_1 : h22 (ma 1) = some ((22, 0), .inl (g.2.1 1, 4000, .inl f)) := by rw [← hh22]; exact z_keep fi21 g20_ma_1 (z_t1 (by decide))
                                  have kk22 : z_K (fun y => y = 20 ∨ y = 26 ∨ y = 28) h h22 := kk20.tr (by rw [← hh22]; exact z_K.put fi21 (by first | decide | simp | omega))
                                  refine W.eq (g2 := F0 m 547 ls [.int 1]) rfl ?_
                                  have kS23 : z_K (fun y => y = 20) h20 h22 := by rw [← hh22]; exact z_K.put m4 rfl
                                  have sl4 := bt_lt (c := 125) ts547.2
                                  refine lv_if_eq (tgt := 524) hx hb d_M_readField_547 (by decide) (fun c_547 => ?_) (fun c_547 => ?_)
                                  · -- 547: True
                                    exact absurd c_547 (by decide)
                                  · -- 547: False
                                    exact z_vret hx hb hr hlocks hw (by have eR : resI il X = (-1) := (by rw [eX8, if_pos ts547.2, eil]; exact resI_ok); exact ⟨rfl, kk22, sk t n p4 + 1, S4, by rw [eR]; exact f22_mo, by omega, sc4.k kS23 (by omega) (by omega) (by omega), b4, fun _ => ⟨by rw [eX8, if_pos ts547.2], by omega⟩⟩) (by decide) (by decide) d_M_readField_550
                                · -- sign False
                                  rw [if_neg ts547] at hp
                                  obtain ⟨r8, hh24⟩ := hp
                                  subst r8
                                  obtain ⟨h24, e8⟩ : ∃ x9, x9 = h9 := ⟨_, rfl⟩
                                  subst e8
                                  have f24_mo : h24 mo = some ((20, 0), .inr (11, mF ma cod tpd (nI n) fls cls9 (nI S4.1) (nI (cc S4)) nds sai ous (nI (sk t n p4)) (-1))) := by rw [← hh24]; exact z_put_eq
                                  have f24_ma_1 : h24 (ma 1) = some ((22, 0), .inl (g.2.1 1, 4000, .inl f)) := by rw [← hh24]; exact z_keep fi21 g20_ma_1 (z_t1 (by decide))
                                  have kk24 : z_K (fun y => y = 20 ∨ y = 26 ∨ y = 28) h h24 := kk20.tr (by rw [← hh24]; exact z_K.put fi21 (by first | decide | simp | omega))
                                  refine W.eq (g2 := F0 m 547 ls [.int 0]) rfl ?_
                                  have kS25 : z_K (fun y => y = 20) h20 h24 := by rw [← hh24]; exact z_K.put m4 rfl
                                  refine lv_if_eq (tgt := 524) hx hb d_M_readField_547 (by decide) (fun c_547 => ?_) (fun c_547 => ?_)
                                  · -- 547: True
                                    refine ih_524 c5 (sk t n p4) (-1) S4 h24 _ _ _ f24_mo f24_ma_1 (by omega) kk24 (sc4.k kS25 (by omega) (by omega) (by omega)) b4 (⟨by omega, by omega⟩) (Or.inr ⟨rfl, by rw [eX8, if_neg (fun z => ts547 ⟨rfl, z⟩)]⟩) ?_ hw (lv_sub hl [0, 1, 2, 3] rfl)
                                    omega
                                  · -- 547: False
                                    exact absurd (by decide) c_547
                          exact loop_524 (128 + 1) 128 (wsP (-1) t n (sk t n (we t n (sk t n p2))) 123) (wsI (-1) t n (sk t n (we t n (sk t n p2))) 123) (addF S ki ty gr nm9) h19 _ _ _ f19_mo f19_ma_1 (by omega) kk19 (by have z9 := (MSp.six (h := h) (S := S) (rf := rf) (lf := lf) (S1 := (addF S ki ty gr nm9)) (rf1 := (rfA rf S.1 ki ty gr (-1) (nI (wl t n (sk t n p2))))) (lf1 := lf2) f19_ma_3 f19_fw_0 f19_fw_1 f19_fw_2 f19_fw_3 f19_fw_4 f19_fw_5 f19_ma_5 (MSp.addp hSf hB (by rw [hnl]) (by rw [if_pos hty]) hl9 hol)); exact ⟨_, _, _, z9⟩) hBA (⟨by show 129 ≤ 128 + (S.1 + 1); omega, Nat.lt_succ_self _⟩) (by rw [eil, eX4, if_pos hty]; show (¬ wsI (-1) t n (sk t n (we t n (sk t n p2))) 123 = -1 ∧ resI (-1) (grpR (FLD S.1) t n (we t n (sk t n p2)) (addF S ki ty gr nm9)) = _) ∨ (_ ∧ grpR (FLD S.1) t n (we t n (sk t n p2)) (addF S ki ty gr nm9) = _); rw [grpR_eq]; unfold wsI wsP; by_cases z : bt t n (sk t n (we t n (sk t n p2))) = 123; (· refine Or.inr ⟨?_, ?_⟩; (· rw [if_pos rfl, if_pos z]); (· rw [if_pos z, if_pos ⟨rfl, z⟩])); (· refine Or.inl ⟨?_, ?_⟩; (· rw [if_pos rfl, if_neg z]; exact nI_ne1 (by omega)); (· rw [if_neg z, if_pos rfl, if_neg z]; exact resI_no))) (by omega) hw (lv_sub hl [0, 1, 2, 6] rfl)
                        · -- 498: False
                          exact absurd (show ty = 4 by simpa using c_473) c_498
                    · -- 375: False
                      have c_375 : ¬ ((wl t n (sk t n p2)) ≤ k) := fun z => c_375 ((nI_leI (a := wl t n (sk t n p2)) (b := k) (by omega) (by omega)).mpr z)
                      refine lv_aload_n hx hb d_M_readField_378 rfl (lv_at hl 0 rfl) ?_
                      refine z_get hx hb hts (z_lay i_M) hown hK hw L371_mo rfl 8 (by decide) (z_in k_779 rfl) (fun _ h9 => h9) rfl d_M_readField_379 ?_
                      refine lv_bipush (v := 16) hx hb d_M_readField_382 (by decide) ?_
                      refine lv_iload hx hb d_M_readField_384 (lv_at hl 6 rfl) ?_
                      refine lv_imul hx hb d_M_readField_386 ?_
                      refine z_topi (y := nI (16 * S.1)) (pk_mul 16 S.1) ?_
                      refine lv_iload hx hb d_M_readField_387 (lv_at hl 7 rfl) ?_
                      refine lv_iadd hx hb d_M_readField_389 ?_
                      refine z_topi (y := nI ((16 * S.1) + k)) (nI_add (16 * S.1) k) ?_
                      refine lv_aload_n hx hb d_M_readField_390 rfl (lv_at hl 0 rfl) ?_
                      refine z_get hx hb hts (z_lay i_M) hown hK hw L371_mo rfl 2 (by decide) (z_in k_773 rfl) (fun _ h9 => h9) rfl d_M_readField_391 ?_
                      refine lv_aload_n hx hb d_M_readField_394 rfl (lv_at hl 0 rfl) ?_
                      refine z_get hx hb hts (z_lay i_M) hown hK hw L371_mo rfl 29 (by decide) (z_in k_800 rfl) (fun _ h9 => h9) rfl d_M_readField_395 ?_
                      refine lv_iload hx hb d_M_readField_398 (lv_at hl 7 rfl) ?_
                      refine lv_iadd hx hb d_M_readField_400 ?_
                      refine z_topi (y := nI ((sk t n p2) + k)) (nI_add (sk t n p2) k) ?_
                      refine z_iald hx hb hK hw L371_ma_1 1 rfl (vp_in_nI (by omega) (by omega)) d_M_readField_401 ?_
                      refine z_topi (y := f ((sk t n p2) + k)) (by rw [nI_clamp (by omega)]) ?_
                      refine z_top (y := .int (nI (t (sk t n p2 + k)))) (by rw [(hf _ (by omega)).2]) ?_
                      refine z_iast hx hb hK hw L371_ma_5 1 rfl (vp_in_nI (by omega) (by omega)) d_M_readField_402 (fun H locs hw => ?_)
                      rw [nI_clamp (by omega)] at hw
                      obtain ⟨h26, hh26⟩ : ∃ x9, z_put hL (ma 5) (28, 0) (.inl (g.2.1 1, 2048, .inl (upd lf2 ((16 * S.1) + k) (nI (t (sk t n p2 + k)))))) = x9 := ⟨_, rfl⟩
                      have hw : z_S g A s.heap h26 H locs := by rw [← hh26]; exact hw
                      have f26_mo : h26 mo = some ((20, 0), .inr (11, mF ma cod tpd (nI n) fls cls9 (nI S.1) (nI (cc S)) nds sai ous (nI (sk t n p2)) (-1))) := by rw [← hh26]; exact z_keep L371_ma_5 L371_mo (z_t1 (by decide))
                      have f26_ma_1 : h26 (ma 1) = some ((22, 0), .inl (g.2.1 1, 4000, .inl f)) := by rw [← hh26]; exact z_keep L371_ma_5 L371_ma_1 (z_t1 (by decide))
                      have f26_ma_3 : h26 (ma 3) = some ((25, 0), .inl (g.2.1 5, 6, .inr (.inr (.inr (.inr (fun k => some (fw k))))))) := by rw [← hh26]; exact z_keep L371_ma_5 L371_ma_3 (z_t1 (by decide))
                      have f26_fw_0 : h26 (fw 0) = some ((26, 0), .inl (g.2.1 1, 128, .inl (rf 0))) := by rw [← hh26]; exact z_keep L371_ma_5 L371_fw_0 (z_t1 (by decide))
                      have f26_fw_1 : h26 (fw 1) = some ((26, 1), .inl (g.2.1 1, 128, .inl (rf 1))) := by rw [← hh26]; exact z_keep L371_ma_5 L371_fw_1 (z_t1 (by decide))
                      have f26_fw_2 : h26 (fw 2) = some ((26, 2), .inl (g.2.1 1, 128, .inl (rf 2))) := by rw [← hh26]; exact z_keep L371_ma_5 L371_fw_2 (z_t1 (by decide))
                      have f26_fw_3 : h26 (fw 3) = some ((26, 3), .inl (g.2.1 1, 128, .inl (rf 3))) := by rw [← hh26]; exact z_keep L371_ma_5 L371_fw_3 (z_t1 (by decide))
                      have f26_fw_4 : h26 (fw 4) = some ((26, 4), .inl (g.2.1 1, 128, .inl (rf 4))) := by rw [← hh26]; exact z_keep L371_ma_5 L371_fw_4 (z_t1 (by decide))
                      have f26_fw_5 : h26 (fw 5) = some ((26, 5), .inl (g.2.1 1, 128, .inl (rf 5))) := by rw [← hh26]; exact z_keep L371_ma_5 L371_fw_5 (z_t1 (by decide))
                      have f26_ma_5 : h26 (ma 5) = some ((28, 0), .inl (g.2.1 1, 2048, .inl (upd lf2 ((16 * S.1) + k) (nI (t (sk t n p2 + k)))))) := by rw [← hh26]; exact z_put_eq
                      have kk26 : z_K (fun y => y = 20 ∨ y = 26 ∨ y = 28) h h26 := kkM.tr (by rw [← hh26]; exact z_K.put L371_ma_5 (by first | decide | simp | omega))
                      refine lv_iinc (v := nI (k + 1)) (lv' := [(8, .int (nI (k + 1))), (0, .ref mo), (1, .int gr), (2, .int (nI d)), (3, .int ki), (4, .int ty), (5, .int (nI (wl t n (sk t n p2)))), (7, .int (nI S.1))]) hx hb d_M_readField_403 hl (k := 7) rfl (nI_1 k) (by decide) rfl (fun ls hl => ?_)
                      refine lv_goto (tgt := 371) hx hb d_M_readField_406 (by decide) ?_
                      refine ih_371 (k + 1) (upd lf2 ((16 * S.1) + k) (nI (t (sk t n p2 + k)))) h26 _ _ _ f26_mo f26_ma_1 f26_ma_3 f26_fw_0 f26_fw_1 f26_fw_2 f26_fw_3 f26_fw_4 f26_fw_5 f26_ma_5 (by omega) (fun j hj => (Nat.lt_succ_iff_lt_or_eq.mp hj).elim (fun z => by rw [pk_un (by omega)]; exact hcp j z) (fun z => by rw [z, pk_us])) (fun j hj => by rw [pk_un (by omega)]; exact hol j hj) kk26 ?_ hw (lv_sub hl [1, 2, 3, 4, 5, 6, 7, 0] rfl)
                      omega
                exact loop_371 (wl t n (sk t n p2) - 0 + 1) 0 lf h2 _ _ _ fi3 f2_ma_1 f2_ma_3 f2_fw_0 f2_fw_1 f2_fw_2 f2_fw_3 f2_fw_4 f2_fw_5 f2_ma_5 (Nat.zero_le _) (fun j hj => absurd hj (Nat.not_lt_zero _)) (fun j hj => rfl) kk2 (by omega) hw (lv_sub hl [2, 3, 4, 5, 6, 7, 1, 0] rfl)
              · -- 358: False
                exact z_vret hx hb hr hlocks hw (by have eR : resI il X = i1 := ((hZ.resolve_right (fun z => c_358 z.1)).2); exact ⟨rfl, kk2, sk t n p2, S, by rw [eR]; exact f2_mo, by omega, ⟨_, _, _, (MSp.six (h := h) (S := S) (rf := rf) (lf := lf) (S1 := S) (rf1 := rf) (lf1 := lf) f2_ma_3 f2_fw_0 f2_fw_1 f2_fw_2 f2_fw_3 f2_fw_4 f2_fw_5 f2_ma_5 hSf.2.2.2)⟩, hB, fun z => absurd (eR.symm.trans z) c_358⟩) (by decide) (by decide) d_M_readField_361
            · -- 342: False
              have c_342 : gd = false := zb_f c_342
              by_cases z345 : (i1 : Int32) = -1
              · -- no fault yet True
                have fi27 : h2 mo = some ((20, 0), .inr (11, mF ma cod tpd (nI n) fls cls9 (nI S.1) (nI (cc S)) nds sai ous (nI (sk t n p2)) (-1))) := by have z9 := f2_mo; rw [z345] at z9; exact z9
                refine lv_aload_n hx hb d_M_readField_345 rfl (lv_at hl 0 rfl) ?_
                refine lv_aload_n hx hb d_M_readField_346 rfl (lv_at hl 0 rfl) ?_
                refine z_get hx hb hts (z_lay i_M) hown hK hw fi27 rfl 29 (by decide) (z_in k_800 rfl) (fun _ h9 => h9) rfl d_M_readField_347 ?_
                refine z_callV (n := 1) (As := [.int (nI (sk t n p2))]) (rest := []) ⟨hx, hb, hml, hown, hts⟩ (m_fail l g h2 fi27) (z_in k_914 rfl) (z_in k_7 rfl) (z_in k_911 rfl) (z_in k_913 rfl) (z_in ks_32 rfl) (by decide +kernel) ⟨by first | exact Nat.le_of_ble_eq_true rfl | (dsimp only; omega) | omega, by first | exact Nat.le_of_ble_eq_true rfl | (dsimp only; omega) | omega⟩ hK hE hw hA rfl fi27 rfl hl.1 (Nat.le_of_ble_eq_true rfl) d_M_readField_350 ⟨by first | exact Nat.le_of_ble_eq_true rfl | (dsimp only; omega) | omega, by first | exact Nat.le_of_ble_eq_true rfl | (dsimp only; omega) | omega⟩ rfl (fun r9 h9 H locs hp hw => ?_)
                obtain ⟨r8, hh28⟩ := hp
                subst r8
                obtain ⟨h28, e8⟩ : ∃ x9, x9 = h9 := ⟨_, rfl⟩
                subst e8
                have f28_mo : h28 mo = some ((20, 0), .inr (11, mF ma cod tpd (nI n) fls cls9 (nI S.1) (nI (cc S)) nds sai ous (nI (sk t n p2)) (nI (sk t n p2)))) := by rw [← hh28]; exact z_put_eq
                have f28_ma_1 : h28 (ma 1) = some ((22, 0), .inl (g.2.1 1, 4000, .inl f)) := by rw [← hh28]; exact z_keep fi27 f2_ma_1 (z_t1 (by decide))
                have f28_ma_3 : h28 (ma 3) = some ((25, 0), .inl (g.2.1 5, 6, .inr (.inr (.inr (.inr (fun k => some (fw k))))))) := by rw [← hh28]; exact z_keep fi27 f2_ma_3 (z_t1 (by decide))
                have f28_fw_0 : h28 (fw 0) = some ((26, 0), .inl (g.2.1 1, 128, .inl (rf 0))) := by rw [← hh28]; exact z_keep fi27 f2_fw_0 (z_t1 (by decide))
                have f28_fw_1 : h28 (fw 1) = some ((26, 1), .inl (g.2.1 1, 128, .inl (rf 1))) := by rw [← hh28]; exact z_keep fi27 f2_fw_1 (z_t1 (by decide))
                have f28_fw_2 : h28 (fw 2) = some ((26, 2), .inl (g.2.1 1, 128, .inl (rf 2))) := by rw [← hh28]; exact z_keep fi27 f2_fw_2 (z_t1 (by decide))
                have f28_fw_3 : h28 (fw 3) = some ((26, 3), .inl (g.2.1 1, 128, .inl (rf 3))) := by rw [← hh28]; exact z_keep fi27 f2_fw_3 (z_t1 (by decide))
                have f28_fw_4 : h28 (fw 4) = some ((26, 4), .inl (g.2.1 1, 128, .inl (rf 4))) := by rw [← hh28]; exact z_keep fi27 f2_fw_4 (z_t1 (by decide))
                have f28_fw_5 : h28 (fw 5) = some ((26, 5), .inl (g.2.1 1, 128, .inl (rf 5))) := by rw [← hh28]; exact z_keep fi27 f2_fw_5 (z_t1 (by decide))
                have f28_ma_5 : h28 (ma 5) = some ((28, 0), .inl (g.2.1 1, 2048, .inl lf)) := by rw [← hh28]; exact z_keep fi27 f2_ma_5 (z_t1 (by decide))
                have kk28 : z_K (fun y => y = 20 ∨ y = 26 ∨ y = 28) h h28 := kk2.tr (by rw [← hh28]; exact z_K.put fi27 (by first | decide | simp | omega))
                refine W.eq (g2 := F0 m 353 ls []) rfl ?_
                refine lv_aload_n hx hb d_M_readField_353 rfl (lv_at hl 0 rfl) ?_
                refine z_get hx hb hts (z_lay i_M) hown hK hw f28_mo rfl 30 (by decide) (z_in k_801 rfl) (fun _ h9 => h9) rfl d_M_readField_354 ?_
                refine lv_iconst (v := (-1)) hx hb d_M_readField_357 (by decide) ?_
                refine lv_icmp_eq (tgt := 362) hx hb d_M_readField_358 (by decide) (fun c_358 => ?_) (fun c_358 => ?_)
                · -- 358: True
                  exact absurd c_358 (nI_ne1 (by omega))
                · -- 358: False
                  exact z_vret hx hb hr hlocks hw (by have eR : resI il X = nI (sk t n p2) := (by obtain ⟨-, eil, eX3⟩ := hZ.resolve_left (fun z => z.1 z345); have eiS : i = S.1 := (by omega); rw [eiS] at hgd; rw [eil, eX3]; unfold fR3; rw [if_neg (by rw [← gd_eq (fun k hk => (hf k hk).1) hB.1, ← hgd, c_342]; decide)]; exact resI_no); exact ⟨rfl, kk28, sk t n p2, S, by rw [eR]; exact f28_mo, by omega, ⟨_, _, _, (MSp.six (h := h) (S := S) (rf := rf) (lf := lf) (S1 := S) (rf1 := rf) (lf1 := lf) f28_ma_3 f28_fw_0 f28_fw_1 f28_fw_2 f28_fw_3 f28_fw_4 f28_fw_5 f28_ma_5 hSf.2.2.2)⟩, hB, fun z => absurd (eR.symm.trans z) (nI_ne1 (by omega))⟩) (by decide) (by decide) d_M_readField_361
              · -- no fault yet False
                refine lv_aload_n hx hb d_M_readField_345 rfl (lv_at hl 0 rfl) ?_
                refine lv_aload_n hx hb d_M_readField_346 rfl (lv_at hl 0 rfl) ?_
                refine z_get hx hb hts (z_lay i_M) hown hK hw f2_mo rfl 29 (by decide) (z_in k_800 rfl) (fun _ h9 => h9) rfl d_M_readField_347 ?_
                refine z_callV (n := 1) (As := [.int (nI (sk t n p2))]) (rest := []) ⟨hx, hb, hml, hown, hts⟩ (m_fail_no l g h2 f2_mo z345) (z_in k_914 rfl) (z_in k_7 rfl) (z_in k_911 rfl) (z_in k_913 rfl) (z_in ks_32 rfl) (by decide +kernel) ⟨by first | exact Nat.le_of_ble_eq_true rfl | (dsimp only; omega) | omega, by first | exact Nat.le_of_ble_eq_true rfl | (dsimp only; omega) | omega⟩ hK hE hw hA rfl f2_mo rfl hl.1 (Nat.le_of_ble_eq_true rfl) d_M_readField_350 ⟨by first | exact Nat.le_of_ble_eq_true rfl | (dsimp only; omega) | omega, by first | exact Nat.le_of_ble_eq_true rfl | (dsimp only; omega) | omega⟩ rfl (fun r9 h9 H locs hp hw => ?_)
                obtain ⟨r8, h8⟩ := hp
                subst r8
                subst h8
                refine W.eq (g2 := F0 m 353 ls []) rfl ?_
                refine lv_aload_n hx hb d_M_readField_353 rfl (lv_at hl 0 rfl) ?_
                refine z_get hx hb hts (z_lay i_M) hown hK hw f2_mo rfl 30 (by decide) (z_in k_801 rfl) (fun _ h9 => h9) rfl d_M_readField_354 ?_
                refine lv_iconst (v := (-1)) hx hb d_M_readField_357 (by decide) ?_
                refine lv_icmp_eq (tgt := 362) hx hb d_M_readField_358 (by decide) (fun c_358 => ?_) (fun c_358 => ?_)
                · -- 358: True
                  exact absurd c_358 z345
                · -- 358: False
                  exact z_vret hx hb hr hlocks hw (by have eR : resI il X = i1 := ((hZ.resolve_right (fun z => z345 z.1)).2); exact ⟨rfl, kk2, sk t n p2, S, by rw [eR]; exact f2_mo, by omega, ⟨_, _, _, (MSp.six (h := h) (S := S) (rf := rf) (lf := lf) (S1 := S) (rf1 := rf) (lf1 := lf) f2_ma_3 f2_fw_0 f2_fw_1 f2_fw_2 f2_fw_3 f2_fw_4 f2_fw_5 f2_ma_5 hSf.2.2.2)⟩, hB, fun z => absurd (eR.symm.trans z) z345⟩) (by decide) (by decide) d_M_readField_361
          · -- 224: False
            have c_224 : ¬ (S.1 ≤ i) := fun z => c_224 ((nI_leI (a := S.1) (b := i) (by omega) (by omega)).mpr z)
            have hri := hSf.2.2.2 i (by omega)
            have hBi := hB.2.2 i (by omega)
            have loop_264 : ∀ (fuel : Nat) (k : Nat) (sm : Bool) (H : Heap) (locs : List Loc) (ls : Array Slot)  (hk9 : k ≤ wl t n (sk t n p2)) (hsm : sm = ((decide (fGr (S.2 i) = gr) && decide ((fNm (S.2 i)).length = wl t n (sk t n p2))) && nmE t (sk t n p2) (fun k => (fNm (S.2 i)).getD k 0) k)), (wl t n (sk t n p2) - k) < fuel → z_S g A s.heap h2 H locs → lv_has ls 10 [(0, .ref mo), (1, .int gr), (2, .int (nI d)), (3, .int ki), (4, .int ty), (5, .int (nI (wl t n (sk t n p2)))), (6, .int (zb gd)), (7, .int (nI i)), (8, .int (zb sm)), (9, .int (nI k))] → W pg l en { frames := fM + 10, cells := 0, slots := 0, locals := lM + 300 } s m [.ref mo, .int gr, .int (nI d)].toArray below meth cd H locs 0 0 (MQ below (z_Q g A (fun x h1 => x = none ∧ rfP g h h1 mo ma cod tpd fls cls9 nds sai ous il n S X)) [.ref mo, .int gr, .int (nI d)].toArray s 0 0 A) (F0 m 264 ls []) := by
              intro fuel
              induction fuel with
              | zero => intro k sm H locs ls hk9 hsm hm; exact absurd hm (Nat.not_lt_zero _)
              | succ fuel ih_264 =>
                intro k sm H locs ls hk9 hsm hm hw hl
                refine lv_iload hx hb d_M_readField_264 (lv_at hl 8 rfl) ?_
                refine lv_if_eq (tgt := 317) hx hb d_M_readField_266 (by decide) (fun c_266 => ?_) (fun c_266 => ?_)
                · -- 266: True
                  have c_266 : sm = false := zb_f c_266
                  have hmt := mtc_of hsm hk9 (Or.inl c_266)
                  refine lv_iload hx hb d_M_readField_317 (lv_at hl 6 rfl) ?_
                  refine lv_if_eq (tgt := 331) hx hb d_M_readField_319 (by decide) (fun c_319 => ?_) (fun c_319 => ?_)
                  · -- 319: True
                    have c_319 : gd = false := zb_f c_319
                    refine lv_iconst (v := 0) hx hb d_M_readField_331 (by decide) ?_
                    refine lv_istore (lv' := [(6, .int 0), (0, .ref mo), (1, .int gr), (2, .int (nI d)), (3, .int ki), (4, .int ty), (5, .int (nI (wl t n (sk t n p2)))), (7, .int (nI i)), (8, .int (zb sm)), (9, .int (nI k))]) hx hb d_M_readField_332 hl (by decide) rfl (fun ls hl => ?_)
                    refine lv_iinc (v := nI (i + 1)) (lv' := [(7, .int (nI (i + 1))), (6, .int 0), (0, .ref mo), (1, .int gr), (2, .int (nI d)), (3, .int ki), (4, .int ty), (5, .int (nI (wl t n (sk t n p2)))), (8, .int (zb sm)), (9, .int (nI k))]) hx hb d_M_readField_334 hl (k := 7) rfl (nI_1 i) (by decide) rfl (fun ls hl => ?_)
                    refine lv_goto (tgt := 218) hx hb d_M_readField_337 (by decide) ?_
                    refine ih_218 (i + 1) false _ _ _ (by omega) (by simp only [nmN]; rw [← Bool.and_assoc, ← hgd, hmt, c_319]; rfl) ?_ hw (lv_sub hl [2, 3, 4, 5, 6, 7, 1, 0] rfl)
                    omega
                  · -- 319: False
                    have c_319 : gd = true := zb_t c_319
                    refine lv_iload hx hb d_M_readField_322 (lv_at hl 8 rfl) ?_
                    refine lv_if_ne (tgt := 331) hx hb d_M_readField_324 (by decide) (fun c_324 => ?_) (fun c_324 => ?_)
                    · -- 324: True
                      have c_324 : sm = true := zb_t c_324
                      refine lv_iconst (v := 0) hx hb d_M_readField_331 (by decide) ?_
                      refine lv_istore (lv' := [(6, .int 0), (0, .ref mo), (1, .int gr), (2, .int (nI d)), (3, .int ki), (4, .int ty), (5, .int (nI (wl t n (sk t n p2)))), (7, .int (nI i)), (8, .int (zb sm)), (9, .int (nI k))]) hx hb d_M_readField_332 hl (by decide) rfl (fun ls hl => ?_)
                      refine lv_iinc (v := nI (i + 1)) (lv' := [(7, .int (nI (i + 1))), (6, .int 0), (0, .ref mo), (1, .int gr), (2, .int (nI d)), (3, .int ki), (4, .int ty), (5, .int (nI (wl t n (sk t n p2)))), (8, .int (zb sm)), (9, .int (nI k))]) hx hb d_M_readField_334 hl (k := 7) rfl (nI_1 i) (by decide) rfl (fun ls hl => ?_)
                      refine lv_goto (tgt := 218) hx hb d_M_readField_337 (by decide) ?_
                      refine ih_218 (i + 1) false _ _ _ (by omega) (by simp only [nmN]; rw [← Bool.and_assoc, ← hgd, hmt, c_319, c_324]; rfl) ?_ hw (lv_sub hl [2, 3, 4, 5, 6, 7, 1, 0] rfl)
                      omega
                    · -- 324: False
                      have c_324 : sm = false := zb_f c_324
                      refine lv_iconst (v := 1) hx hb d_M_readField_327 (by decide) ?_
                      refine lv_goto (tgt := 332) hx hb d_M_readField_328 (by decide) ?_
                      refine lv_istore (lv' := [(6, .int 1), (0, .ref mo), (1, .int gr), (2, .int (nI d)), (3, .int ki), (4, .int ty), (5, .int (nI (wl t n (sk t n p2)))), (7, .int (nI i)), (8, .int (zb sm)), (9, .int (nI k))]) hx hb d_M_readField_332 hl (by decide) rfl (fun ls hl => ?_)
                      refine lv_iinc (v := nI (i + 1)) (lv' := [(7, .int (nI (i + 1))), (6, .int 1), (0, .ref mo), (1, .int gr), (2, .int (nI d)), (3, .int ki), (4, .int ty), (5, .int (nI (wl t n (sk t n p2)))), (8, .int (zb sm)), (9, .int (nI k))]) hx hb d_M_readField_334 hl (k := 7) rfl (nI_1 i) (by decide) rfl (fun ls hl => ?_)
                      refine lv_goto (tgt := 218) hx hb d_M_readField_337 (by decide) ?_
                      refine ih_218 (i + 1) true _ _ _ (by omega) (by simp only [nmN]; rw [← Bool.and_assoc, ← hgd, hmt, c_319, c_324]; rfl) ?_ hw (lv_sub hl [2, 3, 4, 5, 6, 7, 1, 0] rfl)
                      omega
                · -- 266: False
                  have c_266 : sm = true := zb_t c_266
                  refine lv_iload hx hb d_M_readField_269 (lv_at hl 9 rfl) ?_
                  refine lv_iload hx hb d_M_readField_271 (lv_at hl 5 rfl) ?_
                  refine lv_icmp_ge (tgt := 317) hx hb d_M_readField_273 (by decide) (fun c_273 => ?_) (fun c_273 => ?_)
                  · -- 273: True
                    have c_273 : (wl t n (sk t n p2)) ≤ k := (nI_leI (a := wl t n (sk t n p2)) (b := k) (by omega) (by omega)).mp c_273
                    have hmt := mtc_of hsm hk9 (Or.inr (by omega))
                    refine lv_iload hx hb d_M_readField_317 (lv_at hl 6 rfl) ?_
                    refine lv_if_eq (tgt := 331) hx hb d_M_readField_319 (by decide) (fun c_319 => ?_) (fun c_319 => ?_)
                    · -- 319: True
                      have c_319 : gd = false := zb_f c_319
                      refine lv_iconst (v := 0) hx hb d_M_readField_331 (by decide) ?_
                      refine lv_istore (lv' := [(6, .int 0), (0, .ref mo), (1, .int gr), (2, .int (nI d)), (3, .int ki), (4, .int ty), (5, .int (nI (wl t n (sk t n p2)))), (7, .int (nI i)), (8, .int (zb sm)), (9, .int (nI k))]) hx hb d_M_readField_332 hl (by decide) rfl (fun ls hl => ?_)
                      refine lv_iinc (v := nI (i + 1)) (lv' := [(7, .int (nI (i + 1))), (6, .int 0), (0, .ref mo), (1, .int gr), (2, .int (nI d)), (3, .int ki), (4, .int ty), (5, .int (nI (wl t n (sk t n p2)))), (8, .int (zb sm)), (9, .int (nI k))]) hx hb d_M_readField_334 hl (k := 7) rfl (nI_1 i) (by decide) rfl (fun ls hl => ?_)
                      refine lv_goto (tgt := 218) hx hb d_M_readField_337 (by decide) ?_
                      refine ih_218 (i + 1) false _ _ _ (by omega) (by simp only [nmN]; rw [← Bool.and_assoc, ← hgd, hmt, c_319]; rfl) ?_ hw (lv_sub hl [2, 3, 4, 5, 6, 7, 1, 0] rfl)
                      omega
                    · -- 319: False
                      have c_319 : gd = true := zb_t c_319
                      refine lv_iload hx hb d_M_readField_322 (lv_at hl 8 rfl) ?_
                      refine lv_if_ne (tgt := 331) hx hb d_M_readField_324 (by decide) (fun c_324 => ?_) (fun c_324 => ?_)
                      · -- 324: True
                        have c_324 : sm = true := zb_t c_324
                        refine lv_iconst (v := 0) hx hb d_M_readField_331 (by decide) ?_
                        refine lv_istore (lv' := [(6, .int 0), (0, .ref mo), (1, .int gr), (2, .int (nI d)), (3, .int ki), (4, .int ty), (5, .int (nI (wl t n (sk t n p2)))), (7, .int (nI i)), (8, .int (zb sm)), (9, .int (nI k))]) hx hb d_M_readField_332 hl (by decide) rfl (fun ls hl => ?_)
                        refine lv_iinc (v := nI (i + 1)) (lv' := [(7, .int (nI (i + 1))), (6, .int 0), (0, .ref mo), (1, .int gr), (2, .int (nI d)), (3, .int ki), (4, .int ty), (5, .int (nI (wl t n (sk t n p2)))), (8, .int (zb sm)), (9, .int (nI k))]) hx hb d_M_readField_334 hl (k := 7) rfl (nI_1 i) (by decide) rfl (fun ls hl => ?_)
                        refine lv_goto (tgt := 218) hx hb d_M_readField_337 (by decide) ?_
                        refine ih_218 (i + 1) false _ _ _ (by omega) (by simp only [nmN]; rw [← Bool.and_assoc, ← hgd, hmt, c_319, c_324]; rfl) ?_ hw (lv_sub hl [2, 3, 4, 5, 6, 7, 1, 0] rfl)
                        omega
                      · -- 324: False
                        have c_324 : sm = false := zb_f c_324
                        refine lv_iconst (v := 1) hx hb d_M_readField_327 (by decide) ?_
                        refine lv_goto (tgt := 332) hx hb d_M_readField_328 (by decide) ?_
                        refine lv_istore (lv' := [(6, .int 1), (0, .ref mo), (1, .int gr), (2, .int (nI d)), (3, .int ki), (4, .int ty), (5, .int (nI (wl t n (sk t n p2)))), (7, .int (nI i)), (8, .int (zb sm)), (9, .int (nI k))]) hx hb d_M_readField_332 hl (by decide) rfl (fun ls hl => ?_)
                        refine lv_iinc (v := nI (i + 1)) (lv' := [(7, .int (nI (i + 1))), (6, .int 1), (0, .ref mo), (1, .int gr), (2, .int (nI d)), (3, .int ki), (4, .int ty), (5, .int (nI (wl t n (sk t n p2)))), (8, .int (zb sm)), (9, .int (nI k))]) hx hb d_M_readField_334 hl (k := 7) rfl (nI_1 i) (by decide) rfl (fun ls hl => ?_)
                        refine lv_goto (tgt := 218) hx hb d_M_readField_337 (by decide) ?_
                        refine ih_218 (i + 1) true _ _ _ (by omega) (by simp only [nmN]; rw [← Bool.and_assoc, ← hgd, hmt, c_319, c_324]; rfl) ?_ hw (lv_sub hl [2, 3, 4, 5, 6, 7, 1, 0] rfl)
                        omega
                  · -- 273: False
                    have c_273 : ¬ ((wl t n (sk t n p2)) ≤ k) := fun z => c_273 ((nI_leI (a := wl t n (sk t n p2)) (b := k) (by omega) (by omega)).mpr z)
                    have hm9 : (fNm (S.2 i)).length = wl t n (sk t n p2) := by rw [c_266] at hsm; have z := hsm.symm; simp at z; exact z.1.2
                    have hb1 := hBi.2 k (by omega)
                    have hb2 := (hf (sk t n p2 + k) (by omega)).1
                    refine lv_aload_n hx hb d_M_readField_276 rfl (lv_at hl 0 rfl) ?_
                    refine z_get hx hb hts (z_lay i_M) hown hK hw f2_mo rfl 8 (by decide) (z_in k_779 rfl) (fun _ h9 => h9) rfl d_M_readField_277 ?_
                    refine lv_bipush (v := 16) hx hb d_M_readField_280 (by decide) ?_
                    refine lv_iload hx hb d_M_readField_282 (lv_at hl 7 rfl) ?_
                    refine lv_imul hx hb d_M_readField_284 ?_
                    refine z_topi (y := nI (16 * i)) (pk_mul 16 i) ?_
                    refine lv_iload hx hb d_M_readField_285 (lv_at hl 9 rfl) ?_
                    refine lv_iadd hx hb d_M_readField_287 ?_
                    refine z_topi (y := nI ((16 * i) + k)) (nI_add (16 * i) k) ?_
                    refine z_iald hx hb hK hw f2_ma_5 1 rfl (vp_in_nI (by omega) (by omega)) d_M_readField_288 ?_
                    refine z_topi (y := lf ((16 * i) + k)) (by rw [nI_clamp (by omega)]) ?_
                    refine z_top (y := .int (nI ((fNm (S.2 i)).getD k 0))) (by rw [hri.2.2.2.2.2 k (by omega)]) ?_
                    refine lv_aload_n hx hb d_M_readField_289 rfl (lv_at hl 0 rfl) ?_
                    refine z_get hx hb hts (z_lay i_M) hown hK hw f2_mo rfl 2 (by decide) (z_in k_773 rfl) (fun _ h9 => h9) rfl d_M_readField_290 ?_
                    refine lv_aload_n hx hb d_M_readField_293 rfl (lv_at hl 0 rfl) ?_
                    refine z_get hx hb hts (z_lay i_M) hown hK hw f2_mo rfl 29 (by decide) (z_in k_800 rfl) (fun _ h9 => h9) rfl d_M_readField_294 ?_
                    refine lv_iload hx hb d_M_readField_297 (lv_at hl 9 rfl) ?_
                    refine lv_iadd hx hb d_M_readField_299 ?_
                    refine z_topi (y := nI ((sk t n p2) + k)) (nI_add (sk t n p2) k) ?_
                    refine z_iald hx hb hK hw f2_ma_1 1 rfl (vp_in_nI (by omega) (by omega)) d_M_readField_300 ?_
                    refine z_topi (y := f ((sk t n p2) + k)) (by rw [nI_clamp (by omega)]) ?_
                    refine z_top (y := .int (nI (t (sk t n p2 + k)))) (by rw [(hf _ (by omega)).2]) ?_
                    refine lv_icmp_ne (tgt := 308) hx hb d_M_readField_301 (by decide) (fun c_301 => ?_) (fun c_301 => ?_)
                    · -- 301: True
                      have c_301 : ¬ (((fNm (S.2 i)).getD k 0) = (t (sk t n p2 + k))) := fun z => c_301 ((nI_eq (a := (fNm (S.2 i)).getD k 0) (b := t (sk t n p2 + k)) (by omega) (by omega)).mpr z)
                      refine lv_iconst (v := 0) hx hb d_M_readField_308 (by decide) ?_
                      refine lv_istore (lv' := [(8, .int 0), (0, .ref mo), (1, .int gr), (2, .int (nI d)), (3, .int ki), (4, .int ty), (5, .int (nI (wl t n (sk t n p2)))), (6, .int (zb gd)), (7, .int (nI i)), (9, .int (nI k))]) hx hb d_M_readField_309 hl (by decide) rfl (fun ls hl => ?_)
                      refine lv_iinc (v := nI (k + 1)) (lv' := [(9, .int (nI (k + 1))), (8, .int 0), (0, .ref mo), (1, .int gr), (2, .int (nI d)), (3, .int ki), (4, .int ty), (5, .int (nI (wl t n (sk t n p2)))), (6, .int (zb gd)), (7, .int (nI i))]) hx hb d_M_readField_311 hl (k := 9) rfl (nI_1 k) (by decide) rfl (fun ls hl => ?_)
                      refine lv_goto (tgt := 264) hx hb d_M_readField_314 (by decide) ?_
                      refine ih_264 (k + 1) false _ _ _ (by omega) (by simp only [nmE]; rw [← Bool.and_assoc, ← hsm, c_266, beq_false_of_ne (show ¬ t (sk t n p2 + k) = (fNm (S.2 i)).getD k 0 by omega)]; rfl) ?_ hw (lv_sub hl [2, 3, 4, 5, 6, 7, 8, 9, 1, 0] rfl)
                      omega
                    · -- 301: False
                      have c_301 : ((fNm (S.2 i)).getD k 0) = (t (sk t n p2 + k)) := (nI_eq (a := (fNm (S.2 i)).getD k 0) (b := t (sk t n p2 + k)) (by omega) (by omega)).mp c_301
                      refine lv_iconst (v := 1) hx hb d_M_readField_304 (by decide) ?_
                      refine lv_goto (tgt := 309) hx hb d_M_readField_305 (by decide) ?_
                      refine lv_istore (lv' := [(8, .int 1), (0, .ref mo), (1, .int gr), (2, .int (nI d)), (3, .int ki), (4, .int ty), (5, .int (nI (wl t n (sk t n p2)))), (6, .int (zb gd)), (7, .int (nI i)), (9, .int (nI k))]) hx hb d_M_readField_309 hl (by decide) rfl (fun ls hl => ?_)
                      refine lv_iinc (v := nI (k + 1)) (lv' := [(9, .int (nI (k + 1))), (8, .int 1), (0, .ref mo), (1, .int gr), (2, .int (nI d)), (3, .int ki), (4, .int ty), (5, .int (nI (wl t n (sk t n p2)))), (6, .int (zb gd)), (7, .int (nI i))]) hx hb d_M_readField_311 hl (k := 9) rfl (nI_1 k) (by decide) rfl (fun ls hl => ?_)
                      refine lv_goto (tgt := 264) hx hb d_M_readField_314 (by decide) ?_
                      refine ih_264 (k + 1) true _ _ _ (by omega) (by simp only [nmE]; rw [← Bool.and_assoc, ← hsm, c_266, beq_iff_eq.mpr (show t (sk t n p2 + k) = (fNm (S.2 i)).getD k 0 by omega)]; rfl) ?_ hw (lv_sub hl [2, 3, 4, 5, 6, 7, 8, 9, 1, 0] rfl)
                      omega
            refine lv_aload_n hx hb d_M_readField_227 rfl (lv_at hl 0 rfl) ?_
            refine z_get hx hb hts (z_lay i_M) hown hK hw f2_mo rfl 6 (by decide) (z_in k_777 rfl) (fun _ h9 => h9) rfl d_M_readField_228 ?_
            refine lv_iconst (v := 2) hx hb d_M_readField_231 (by decide) ?_
            refine z_aldr hx hb hK hw f2_ma_3 5 rfl (by unfold vp_in; decide) d_M_readField_232 ?_
            refine z_top (y := va_rf ((fun k => some (fw k)) 2)) (by rfl) ?_
            refine z_top (y := .ref (fw 2)) (rfl) ?_
            refine lv_iload hx hb d_M_readField_233 (lv_at hl 7 rfl) ?_
            refine z_iald hx hb hK hw f2_fw_2 1 rfl (vp_in_nI (by omega) (by omega)) d_M_readField_235 ?_
            refine z_topi (y := (rf 2) i) (by rw [nI_clamp (by omega)]) ?_
            refine z_top (y := .int (fGr (S.2 i))) (by rw [hri.2.2.1]) ?_
            refine lv_iload_n hx hb d_M_readField_236 rfl (lv_at hl 1 rfl) ?_
            refine lv_icmp_ne (tgt := 258) hx hb d_M_readField_237 (by decide) (fun c_237 => ?_) (fun c_237 => ?_)
            · -- 237: True
              refine lv_iconst (v := 0) hx hb d_M_readField_258 (by decide) ?_
              refine lv_istore (lv' := [(8, .int 0), (0, .ref mo), (1, .int gr), (2, .int (nI d)), (3, .int ki), (4, .int ty), (5, .int (nI (wl t n (sk t n p2)))), (6, .int (zb gd)), (7, .int (nI i))]) hx hb d_M_readField_259 hl (by decide) rfl (fun ls hl => ?_)
              refine lv_iconst (v := 0) hx hb d_M_readField_261 (by decide) ?_
              refine lv_istore (lv' := [(9, .int 0), (8, .int 0), (0, .ref mo), (1, .int gr), (2, .int (nI d)), (3, .int ki), (4, .int ty), (5, .int (nI (wl t n (sk t n p2)))), (6, .int (zb gd)), (7, .int (nI i))]) hx hb d_M_readField_262 hl (by decide) rfl (fun ls hl => ?_)
              exact loop_264 (wl t n (sk t n p2) - 0 + 1) 0 false  _ _ _  (Nat.zero_le _) (by rw [decide_eq_false (show ¬ fGr (S.2 i) = gr from c_237)]; rfl) (by omega) hw (lv_sub hl [2, 3, 4, 5, 6, 7, 8, 9, 1, 0] rfl)
            · -- 237: False
              refine lv_aload_n hx hb d_M_readField_240 rfl (lv_at hl 0 rfl) ?_
              refine z_get hx hb hts (z_lay i_M) hown hK hw f2_mo rfl 6 (by decide) (z_in k_777 rfl) (fun _ h9 => h9) rfl d_M_readField_241 ?_
              refine lv_iconst (v := 4) hx hb d_M_readField_244 (by decide) ?_
              refine z_aldr hx hb hK hw f2_ma_3 5 rfl (by unfold vp_in; decide) d_M_readField_245 ?_
              refine z_top (y := va_rf ((fun k => some (fw k)) 4)) (by rfl) ?_
              refine z_top (y := .ref (fw 4)) (rfl) ?_
              refine lv_iload hx hb d_M_readField_246 (lv_at hl 7 rfl) ?_
              refine z_iald hx hb hK hw f2_fw_4 1 rfl (vp_in_nI (by omega) (by omega)) d_M_readField_248 ?_
              refine z_topi (y := (rf 4) i) (by rw [nI_clamp (by omega)]) ?_
              refine z_top (y := .int (nI ((fNm (S.2 i)).length))) (by rw [hri.2.2.2.2.1]) ?_
              refine lv_iload hx hb d_M_readField_249 (lv_at hl 5 rfl) ?_
              refine lv_icmp_ne (tgt := 258) hx hb d_M_readField_251 (by decide) (fun c_251 => ?_) (fun c_251 => ?_)
              · -- 251: True
                have c_251 : ¬ (((fNm (S.2 i)).length) = (wl t n (sk t n p2))) := fun z => c_251 ((nI_eq (a := (fNm (S.2 i)).length) (b := wl t n (sk t n p2)) (by omega) (by omega)).mpr z)
                refine lv_iconst (v := 0) hx hb d_M_readField_258 (by decide) ?_
                refine lv_istore (lv' := [(8, .int 0), (0, .ref mo), (1, .int gr), (2, .int (nI d)), (3, .int ki), (4, .int ty), (5, .int (nI (wl t n (sk t n p2)))), (6, .int (zb gd)), (7, .int (nI i))]) hx hb d_M_readField_259 hl (by decide) rfl (fun ls hl => ?_)
                refine lv_iconst (v := 0) hx hb d_M_readField_261 (by decide) ?_
                refine lv_istore (lv' := [(9, .int 0), (8, .int 0), (0, .ref mo), (1, .int gr), (2, .int (nI d)), (3, .int ki), (4, .int ty), (5, .int (nI (wl t n (sk t n p2)))), (6, .int (zb gd)), (7, .int (nI i))]) hx hb d_M_readField_262 hl (by decide) rfl (fun ls hl => ?_)
                exact loop_264 (wl t n (sk t n p2) - 0 + 1) 0 false  _ _ _  (Nat.zero_le _) (by rw [decide_eq_false (show ¬ (fNm (S.2 i)).length = wl t n (sk t n p2) by omega)]; simp) (by omega) hw (lv_sub hl [2, 3, 4, 5, 6, 7, 8, 9, 1, 0] rfl)
              · -- 251: False
                have c_251 : ((fNm (S.2 i)).length) = (wl t n (sk t n p2)) := (nI_eq (a := (fNm (S.2 i)).length) (b := wl t n (sk t n p2)) (by omega) (by omega)).mp c_251
                refine lv_iconst (v := 1) hx hb d_M_readField_254 (by decide) ?_
                refine lv_goto (tgt := 259) hx hb d_M_readField_255 (by decide) ?_
                refine lv_istore (lv' := [(8, .int 1), (0, .ref mo), (1, .int gr), (2, .int (nI d)), (3, .int ki), (4, .int ty), (5, .int (nI (wl t n (sk t n p2)))), (6, .int (zb gd)), (7, .int (nI i))]) hx hb d_M_readField_259 hl (by decide) rfl (fun ls hl => ?_)
                refine lv_iconst (v := 0) hx hb d_M_readField_261 (by decide) ?_
                refine lv_istore (lv' := [(9, .int 0), (8, .int 1), (0, .ref mo), (1, .int gr), (2, .int (nI d)), (3, .int ki), (4, .int ty), (5, .int (nI (wl t n (sk t n p2)))), (6, .int (zb gd)), (7, .int (nI i))]) hx hb d_M_readField_262 hl (by decide) rfl (fun ls hl => ?_)
                exact loop_264 (wl t n (sk t n p2) - 0 + 1) 0 true  _ _ _  (Nat.zero_le _) (by rw [decide_eq_true (show fGr (S.2 i) = gr by simpa using c_237), decide_eq_true (show (fNm (S.2 i)).length = wl t n (sk t n p2) by omega)]; rfl) (by omega) hw (lv_sub hl [2, 3, 4, 5, 6, 7, 8, 9, 1, 0] rfl)
      refine lv_iload hx hb d_M_readField_162 (lv_at hl 0 rfl) ?_
      refine lv_if_le (tgt := 212) hx hb d_M_readField_164 (by decide) (fun c_164 => ?_) (fun c_164 => ?_)
      · -- 164: True
        have c_164 : (wl t n (sk t n p2)) ≤ 0 := (nI_leI (a := wl t n (sk t n p2)) (b := 0) (by omega) (by omega)).mp c_164
        refine lv_iconst (v := 0) hx hb d_M_readField_212 (by decide) ?_
        refine lv_istore (lv' := [(6, .int 0), (5, .int (nI (wl t n (sk t n p2)))), (0, .ref mo), (1, .int gr), (2, .int (nI d)), (3, .int ki), (4, .int ty)]) hx hb d_M_readField_213 hl (by decide) rfl (fun ls hl => ?_)
        refine lv_iconst (v := 0) hx hb d_M_readField_215 (by decide) ?_
        refine lv_istore (lv' := [(7, .int 0), (6, .int 0), (5, .int (nI (wl t n (sk t n p2)))), (0, .ref mo), (1, .int gr), (2, .int (nI d)), (3, .int ki), (4, .int ty)]) hx hb d_M_readField_216 hl (by decide) rfl (fun ls hl => ?_)
        exact loop_218 (S.1 - 0 + 1) 0 false  _ _ _  (Nat.zero_le _) (by unfold G0; rw [decide_eq_false (show ¬ 0 < wl t n (sk t n p2) by omega)]; simp) (by omega) hw (lv_sub hl [3, 4, 5, 6, 7, 2, 1, 0] rfl)
      · -- 164: False
        have c_164 : ¬ ((wl t n (sk t n p2)) ≤ 0) := fun z => c_164 ((nI_leI (a := wl t n (sk t n p2)) (b := 0) (by omega) (by omega)).mpr z)
        refine lv_iload hx hb d_M_readField_167 (lv_at hl 0 rfl) ?_
        refine lv_bipush (v := 16) hx hb d_M_readField_169 (by decide) ?_
        refine lv_icmp_gt (tgt := 212) hx hb d_M_readField_171 (by decide) (fun c_171 => ?_) (fun c_171 => ?_)
        · -- 171: True
          have c_171 : 16 < (wl t n (sk t n p2)) := (nI_ltI (a := 16) (b := wl t n (sk t n p2)) (by omega) (by omega)).mp c_171
          refine lv_iconst (v := 0) hx hb d_M_readField_212 (by decide) ?_
          refine lv_istore (lv' := [(6, .int 0), (5, .int (nI (wl t n (sk t n p2)))), (0, .ref mo), (1, .int gr), (2, .int (nI d)), (3, .int ki), (4, .int ty)]) hx hb d_M_readField_213 hl (by decide) rfl (fun ls hl => ?_)
          refine lv_iconst (v := 0) hx hb d_M_readField_215 (by decide) ?_
          refine lv_istore (lv' := [(7, .int 0), (6, .int 0), (5, .int (nI (wl t n (sk t n p2)))), (0, .ref mo), (1, .int gr), (2, .int (nI d)), (3, .int ki), (4, .int ty)]) hx hb d_M_readField_216 hl (by decide) rfl (fun ls hl => ?_)
          exact loop_218 (S.1 - 0 + 1) 0 false  _ _ _  (Nat.zero_le _) (by unfold G0; rw [decide_eq_true (show 0 < wl t n (sk t n p2) by omega), decide_eq_false (show ¬ wl t n (sk t n p2) ≤ 16 by omega)]; simp) (by omega) hw (lv_sub hl [3, 4, 5, 6, 7, 2, 1, 0] rfl)
        · -- 171: False
          have c_171 : ¬ (16 < (wl t n (sk t n p2))) := fun z => c_171 ((nI_ltI (a := 16) (b := wl t n (sk t n p2)) (by omega) (by omega)).mpr z)
          refine lv_aload_n hx hb d_M_readField_174 rfl (lv_at hl 1 rfl) ?_
          refine z_get hx hb hts (z_lay i_M) hown hK hw f2_mo rfl 11 (by decide) (z_in k_782 rfl) (fun _ h9 => h9) rfl d_M_readField_175 ?_
          refine lv_sipush (v := 128) hx hb d_M_readField_178 (by decide) ?_
          refine lv_icmp_ge (tgt := 212) hx hb d_M_readField_181 (by decide) (fun c_181 => ?_) (fun c_181 => ?_)
          · -- 181: True
            have c_181 : 128 ≤ S.1 := (nI_leI (a := 128) (b := S.1) (by omega) (by omega)).mp c_181
            refine lv_iconst (v := 0) hx hb d_M_readField_212 (by decide) ?_
            refine lv_istore (lv' := [(6, .int 0), (5, .int (nI (wl t n (sk t n p2)))), (0, .ref mo), (1, .int gr), (2, .int (nI d)), (3, .int ki), (4, .int ty)]) hx hb d_M_readField_213 hl (by decide) rfl (fun ls hl => ?_)
            refine lv_iconst (v := 0) hx hb d_M_readField_215 (by decide) ?_
            refine lv_istore (lv' := [(7, .int 0), (6, .int 0), (5, .int (nI (wl t n (sk t n p2)))), (0, .ref mo), (1, .int gr), (2, .int (nI d)), (3, .int ki), (4, .int ty)]) hx hb d_M_readField_216 hl (by decide) rfl (fun ls hl => ?_)
            exact loop_218 (S.1 - 0 + 1) 0 false  _ _ _  (Nat.zero_le _) (by unfold G0; rw [decide_eq_true (show 0 < wl t n (sk t n p2) by omega), decide_eq_true (show wl t n (sk t n p2) ≤ 16 by omega), decide_eq_false (show ¬ S.1 < 128 by omega)]; simp) (by omega) hw (lv_sub hl [3, 4, 5, 6, 7, 2, 1, 0] rfl)
          · -- 181: False
            have c_181 : ¬ (128 ≤ S.1) := fun z => c_181 ((nI_leI (a := 128) (b := S.1) (by omega) (by omega)).mpr z)
            refine lv_iload hx hb d_M_readField_184 (lv_at hl 5 rfl) ?_
            refine lv_iconst (v := 4) hx hb d_M_readField_186 (by decide) ?_
            refine lv_icmp_ne (tgt := 199) hx hb d_M_readField_187 (by decide) (fun c_187 => ?_) (fun c_187 => ?_)
            · -- 187: True
              refine lv_aload_n hx hb d_M_readField_199 rfl (lv_at hl 1 rfl) ?_
              refine z_get hx hb hts (z_lay i_M) hown hK hw f2_mo rfl 12 (by decide) (z_in k_783 rfl) (fun _ h9 => h9) rfl d_M_readField_200 ?_
              refine lv_bipush (v := 64) hx hb d_M_readField_203 (by decide) ?_
              refine lv_icmp_ge (tgt := 212) hx hb d_M_readField_205 (by decide) (fun c_205 => ?_) (fun c_205 => ?_)
              · -- 205: True
                have c_205 : 64 ≤ (cc S) := (nI_leI (a := 64) (b := cc S) (by omega) (by omega)).mp c_205
                refine lv_iconst (v := 0) hx hb d_M_readField_212 (by decide) ?_
                refine lv_istore (lv' := [(6, .int 0), (5, .int (nI (wl t n (sk t n p2)))), (0, .ref mo), (1, .int gr), (2, .int (nI d)), (3, .int ki), (4, .int ty)]) hx hb d_M_readField_213 hl (by decide) rfl (fun ls hl => ?_)
                refine lv_iconst (v := 0) hx hb d_M_readField_215 (by decide) ?_
                refine lv_istore (lv' := [(7, .int 0), (6, .int 0), (5, .int (nI (wl t n (sk t n p2)))), (0, .ref mo), (1, .int gr), (2, .int (nI d)), (3, .int ki), (4, .int ty)]) hx hb d_M_readField_216 hl (by decide) rfl (fun ls hl => ?_)
                exact loop_218 (S.1 - 0 + 1) 0 false  _ _ _  (Nat.zero_le _) (by unfold G0; rw [decide_eq_true (show 0 < wl t n (sk t n p2) by omega), decide_eq_true (show wl t n (sk t n p2) ≤ 16 by omega), decide_eq_true (show S.1 < 128 by omega), if_neg (show ¬ ty = 4 from c_187), decide_eq_false (show ¬ cc S < 64 by omega)]; simp [nmN]) (by omega) hw (lv_sub hl [3, 4, 5, 6, 7, 2, 1, 0] rfl)
              · -- 205: False
                have c_205 : ¬ (64 ≤ (cc S)) := fun z => c_205 ((nI_leI (a := 64) (b := cc S) (by omega) (by omega)).mpr z)
                refine lv_iconst (v := 1) hx hb d_M_readField_208 (by decide) ?_
                refine lv_goto (tgt := 213) hx hb d_M_readField_209 (by decide) ?_
                refine lv_istore (lv' := [(6, .int 1), (5, .int (nI (wl t n (sk t n p2)))), (0, .ref mo), (1, .int gr), (2, .int (nI d)), (3, .int ki), (4, .int ty)]) hx hb d_M_readField_213 hl (by decide) rfl (fun ls hl => ?_)
                refine lv_iconst (v := 0) hx hb d_M_readField_215 (by decide) ?_
                refine lv_istore (lv' := [(7, .int 0), (6, .int 1), (5, .int (nI (wl t n (sk t n p2)))), (0, .ref mo), (1, .int gr), (2, .int (nI d)), (3, .int ki), (4, .int ty)]) hx hb d_M_readField_216 hl (by decide) rfl (fun ls hl => ?_)
                exact loop_218 (S.1 - 0 + 1) 0 true  _ _ _  (Nat.zero_le _) (by unfold G0; rw [decide_eq_true (show 0 < wl t n (sk t n p2) by omega), decide_eq_true (show wl t n (sk t n p2) ≤ 16 by omega), decide_eq_true (show S.1 < 128 by omega), if_neg (show ¬ ty = 4 from c_187), decide_eq_true (show cc S < 64 by omega)]; simp [nmN]) (by omega) hw (lv_sub hl [3, 4, 5, 6, 7, 2, 1, 0] rfl)
            · -- 187: False
              refine lv_iload_n hx hb d_M_readField_190 rfl (lv_at hl 3 rfl) ?_
              refine lv_bipush (v := 16) hx hb d_M_readField_191 (by decide) ?_
              refine lv_icmp_ge (tgt := 212) hx hb d_M_readField_193 (by decide) (fun c_193 => ?_) (fun c_193 => ?_)
              · -- 193: True
                have c_193 : 16 ≤ d := (nI_leI (a := 16) (b := d) (by omega) (by omega)).mp c_193
                refine lv_iconst (v := 0) hx hb d_M_readField_212 (by decide) ?_
                refine lv_istore (lv' := [(6, .int 0), (5, .int (nI (wl t n (sk t n p2)))), (0, .ref mo), (1, .int gr), (2, .int (nI d)), (3, .int ki), (4, .int ty)]) hx hb d_M_readField_213 hl (by decide) rfl (fun ls hl => ?_)
                refine lv_iconst (v := 0) hx hb d_M_readField_215 (by decide) ?_
                refine lv_istore (lv' := [(7, .int 0), (6, .int 0), (5, .int (nI (wl t n (sk t n p2)))), (0, .ref mo), (1, .int gr), (2, .int (nI d)), (3, .int ki), (4, .int ty)]) hx hb d_M_readField_216 hl (by decide) rfl (fun ls hl => ?_)
                exact loop_218 (S.1 - 0 + 1) 0 false  _ _ _  (Nat.zero_le _) (by unfold G0; rw [decide_eq_true (show 0 < wl t n (sk t n p2) by omega), decide_eq_true (show wl t n (sk t n p2) ≤ 16 by omega), decide_eq_true (show S.1 < 128 by omega), if_pos (show ty = 4 by simpa using c_187), decide_eq_false (show ¬ d < 16 by omega)]; simp [nmN]) (by omega) hw (lv_sub hl [3, 4, 5, 6, 7, 2, 1, 0] rfl)
              · -- 193: False
                have c_193 : ¬ (16 ≤ d) := fun z => c_193 ((nI_leI (a := 16) (b := d) (by omega) (by omega)).mpr z)
                refine lv_goto (tgt := 208) hx hb d_M_readField_196 (by decide) ?_
                refine lv_iconst (v := 1) hx hb d_M_readField_208 (by decide) ?_
                refine lv_goto (tgt := 213) hx hb d_M_readField_209 (by decide) ?_
                refine lv_istore (lv' := [(6, .int 1), (5, .int (nI (wl t n (sk t n p2)))), (0, .ref mo), (1, .int gr), (2, .int (nI d)), (3, .int ki), (4, .int ty)]) hx hb d_M_readField_213 hl (by decide) rfl (fun ls hl => ?_)
                refine lv_iconst (v := 0) hx hb d_M_readField_215 (by decide) ?_
                refine lv_istore (lv' := [(7, .int 0), (6, .int 1), (5, .int (nI (wl t n (sk t n p2)))), (0, .ref mo), (1, .int gr), (2, .int (nI d)), (3, .int ki), (4, .int ty)]) hx hb d_M_readField_216 hl (by decide) rfl (fun ls hl => ?_)
                exact loop_218 (S.1 - 0 + 1) 0 true  _ _ _  (Nat.zero_le _) (by unfold G0; rw [decide_eq_true (show 0 < wl t n (sk t n p2) by omega), decide_eq_true (show wl t n (sk t n p2) ≤ 16 by omega), decide_eq_true (show S.1 < 128 by omega), if_pos (show ty = 4 by simpa using c_187), decide_eq_true (show d < 16 by omega)]; simp [nmN]) (by omega) hw (lv_sub hl [3, 4, 5, 6, 7, 2, 1, 0] rfl)
  have loop_61 : ∀ (fuel : Nat) (ki : Int32) (p1 : Nat) (i1 : Int32) (hC : z_H) (H : Heap) (locs : List Loc) (ls : Array Slot) (L61_mo : hC mo = some ((20, 0), .inr (11, mF ma cod tpd (nI n) fls cls9 (nI S.1) (nI (cc S)) nds sai ous (nI p1) i1))) (L61_ma_1 : hC (ma 1) = some ((22, 0), .inl (g.2.1 1, 4000, .inl f))) (L61_ma_3 : hC (ma 3) = some ((25, 0), .inl (g.2.1 5, 6, .inr (.inr (.inr (.inr (fun k => some (fw k)))))))) (L61_fw_0 : hC (fw 0) = some ((26, 0), .inl (g.2.1 1, 128, .inl (rf 0)))) (L61_fw_1 : hC (fw 1) = some ((26, 1), .inl (g.2.1 1, 128, .inl (rf 1)))) (L61_fw_2 : hC (fw 2) = some ((26, 2), .inl (g.2.1 1, 128, .inl (rf 2)))) (L61_fw_3 : hC (fw 3) = some ((26, 3), .inl (g.2.1 1, 128, .inl (rf 3)))) (L61_fw_4 : hC (fw 4) = some ((26, 4), .inl (g.2.1 1, 128, .inl (rf 4)))) (L61_fw_5 : hC (fw 5) = some ((26, 5), .inl (g.2.1 1, 128, .inl (rf 5)))) (L61_ma_5 : hC (ma 5) = some ((28, 0), .inl (g.2.1 1, 2048, .inl lf))) (hle : p1 ≤ n) (kkL : z_K (fun y => y = 20 ∨ y = 26 ∨ y = 28) h hC) (hZ : (¬ i1 = -1 ∧ resI il X = i1) ∨ (i1 = -1 ∧ il = -1 ∧ X = fR2 (fun e S1 gi => grpR (FLD gi) t n e S1) t n S gr d ki p1)), 0 < fuel → z_S g A s.heap hC H locs → lv_has ls 10 [(0, .ref mo), (1, .int gr), (2, .int (nI d)), (3, .int ki)] → W pg l en { frames := fM + 10, cells := 0, slots := 0, locals := lM + 300 } s m [.ref mo, .int gr, .int (nI d)].toArray below meth cd H locs 0 0 (MQ below (z_Q g A (fun x h1 => x = none ∧ rfP g h h1 mo ma cod tpd fls cls9 nds sai ous il n S X)) [.ref mo, .int gr, .int (nI d)].toArray s 0 0 A) (F0 m 61 ls []) := by
    intro fuel
    induction fuel with
    | zero => intro ki p1 i1 hC H locs ls L61_mo L61_ma_1 L61_ma_3 L61_fw_0 L61_fw_1 L61_fw_2 L61_fw_3 L61_fw_4 L61_fw_5 L61_ma_5 hle kkL hZ hm; exact absurd hm (Nat.not_lt_zero _)
    | succ fuel ih_61 =>
      intro ki p1 i1 hC H locs ls L61_mo L61_ma_1 L61_ma_3 L61_fw_0 L61_fw_1 L61_fw_2 L61_fw_3 L61_fw_4 L61_fw_5 L61_ma_5 hle kkL hZ hm hw hl
      refine lv_aload_n hx hb d_M_readField_61 rfl (lv_at hl 0 rfl) ?_
      refine z_callV (n := 0) (As := []) (rest := []) ⟨hx, hb, hml, hown, hts⟩ (m_blanks (t := t) l g hC L61_mo L61_ma_1 hn hf (by omega)) (z_in k_885 rfl) (z_in k_7 rfl) (z_in k_882 rfl) (z_in k_884 rfl) (z_in ks_27 rfl) (by decide +kernel) ⟨by first | exact Nat.le_of_ble_eq_true rfl | (dsimp only; omega) | omega, by first | exact Nat.le_of_ble_eq_true rfl | (dsimp only; omega) | omega⟩ hK hE hw hA rfl L61_mo rfl hl.1 (Nat.le_of_ble_eq_true rfl) d_M_readField_62 ⟨by first | exact Nat.le_of_ble_eq_true rfl | (dsimp only; omega) | omega, by first | exact Nat.le_of_ble_eq_true rfl | (dsimp only; omega) | omega⟩ rfl (fun r9 h9 H locs hp hw => ?_)
      have sq29 := sk_le (t := t) (n := n) (p := p1) (by omega)
      have sr29 := sk_ge t n p1
      obtain ⟨r8, hh30⟩ := hp
      subst r8
      obtain ⟨h30, e8⟩ : ∃ x9, x9 = h9 := ⟨_, rfl⟩
      subst e8
      have f30_mo : h30 mo = some ((20, 0), .inr (11, mF ma cod tpd (nI n) fls cls9 (nI S.1) (nI (cc S)) nds sai ous (nI (sk t n p1)) i1)) := by rw [← hh30]; exact z_put_eq
      have f30_ma_1 : h30 (ma 1) = some ((22, 0), .inl (g.2.1 1, 4000, .inl f)) := by rw [← hh30]; exact z_keep L61_mo L61_ma_1 (z_t1 (by decide))
      have f30_ma_3 : h30 (ma 3) = some ((25, 0), .inl (g.2.1 5, 6, .inr (.inr (.inr (.inr (fun k => some (fw k))))))) := by rw [← hh30]; exact z_keep L61_mo L61_ma_3 (z_t1 (by decide))
      have f30_fw_0 : h30 (fw 0) = some ((26, 0), .inl (g.2.1 1, 128, .inl (rf 0))) := by rw [← hh30]; exact z_keep L61_mo L61_fw_0 (z_t1 (by decide))
      have f30_fw_1 : h30 (fw 1) = some ((26, 1), .inl (g.2.1 1, 128, .inl (rf 1))) := by rw [← hh30]; exact z_keep L61_mo L61_fw_1 (z_t1 (by decide))
      have f30_fw_2 : h30 (fw 2) = some ((26, 2), .inl (g.2.1 1, 128, .inl (rf 2))) := by rw [← hh30]; exact z_keep L61_mo L61_fw_2 (z_t1 (by decide))
      have f30_fw_3 : h30 (fw 3) = some ((26, 3), .inl (g.2.1 1, 128, .inl (rf 3))) := by rw [← hh30]; exact z_keep L61_mo L61_fw_3 (z_t1 (by decide))
      have f30_fw_4 : h30 (fw 4) = some ((26, 4), .inl (g.2.1 1, 128, .inl (rf 4))) := by rw [← hh30]; exact z_keep L61_mo L61_fw_4 (z_t1 (by decide))
      have f30_fw_5 : h30 (fw 5) = some ((26, 5), .inl (g.2.1 1, 128, .inl (rf 5))) := by rw [← hh30]; exact z_keep L61_mo L61_fw_5 (z_t1 (by decide))
      have f30_ma_5 : h30 (ma 5) = some ((28, 0), .inl (g.2.1 1, 2048, .inl lf)) := by rw [← hh30]; exact z_keep L61_mo L61_ma_5 (z_t1 (by decide))
      have kk30 : z_K (fun y => y = 20 ∨ y = 26 ∨ y = 28) h h30 := kkL.tr (by rw [← hh30]; exact z_K.put L61_mo (by first | decide | simp | omega))
      refine W.eq (g2 := F0 m 65 ls []) rfl ?_
      refine lv_aload_n hx hb d_M_readField_65 rfl (lv_at hl 0 rfl) ?_
      refine lv_ldc2 hx hb hown (hts _ (z_in k_915 rfl)) d_M_readField_66 ?_
      refine z_callV (n := 1) (As := [.long 1651470188]) (rest := []) ⟨hx, hb, hml, hown, hts⟩ (m_takesWord (t := t) (i9 := 3) l g h30 f30_mo f30_ma_1 hn hf (by omega) (by decide)) (z_in k_894 rfl) (z_in k_7 rfl) (z_in k_891 rfl) (z_in k_893 rfl) (z_in ks_29 rfl) (by decide +kernel) ⟨by first | exact Nat.le_of_ble_eq_true rfl | (dsimp only; omega) | omega, by first | exact Nat.le_of_ble_eq_true rfl | (dsimp only; omega) | omega⟩ hK hE hw hA rfl f30_mo rfl hl.1 (Nat.le_of_ble_eq_true rfl) d_M_readField_69 ⟨by first | exact Nat.le_of_ble_eq_true rfl | (dsimp only; omega) | omega, by first | exact Nat.le_of_ble_eq_true rfl | (dsimp only; omega) | omega⟩ rfl (fun r9 h9 H locs hp hw => ?_)
      by_cases tw69 : (i1 : Int32) = -1 ∧ iW t n (sk t n p1) 3 = true
      · -- word True
        rw [if_pos tw69] at hp
        have wq69 := we_le (t := t) (n := n) (p := sk t n p1) (by omega)
        obtain ⟨r8, hh31⟩ := hp
        subst r8
        obtain ⟨h31, e8⟩ : ∃ x9, x9 = h9 := ⟨_, rfl⟩
        subst e8
        have f31_mo : h31 mo = some ((20, 0), .inr (11, mF ma cod tpd (nI n) fls cls9 (nI S.1) (nI (cc S)) nds sai ous (nI (we t n (sk t n p1))) i1)) := by rw [← hh31]; exact z_put_eq
        have f31_ma_1 : h31 (ma 1) = some ((22, 0), .inl (g.2.1 1, 4000, .inl f)) := by rw [← hh31]; exact z_keep f30_mo f30_ma_1 (z_t1 (by decide))
        have f31_ma_3 : h31 (ma 3) = some ((25, 0), .inl (g.2.1 5, 6, .inr (.inr (.inr (.inr (fun k => some (fw k))))))) := by rw [← hh31]; exact z_keep f30_mo f30_ma_3 (z_t1 (by decide))
        have f31_fw_0 : h31 (fw 0) = some ((26, 0), .inl (g.2.1 1, 128, .inl (rf 0))) := by rw [← hh31]; exact z_keep f30_mo f30_fw_0 (z_t1 (by decide))
        have f31_fw_1 : h31 (fw 1) = some ((26, 1), .inl (g.2.1 1, 128, .inl (rf 1))) := by rw [← hh31]; exact z_keep f30_mo f30_fw_1 (z_t1 (by decide))
        have f31_fw_2 : h31 (fw 2) = some ((26, 2), .inl (g.2.1 1, 128, .inl (rf 2))) := by rw [← hh31]; exact z_keep f30_mo f30_fw_2 (z_t1 (by decide))
        have f31_fw_3 : h31 (fw 3) = some ((26, 3), .inl (g.2.1 1, 128, .inl (rf 3))) := by rw [← hh31]; exact z_keep f30_mo f30_fw_3 (z_t1 (by decide))
        have f31_fw_4 : h31 (fw 4) = some ((26, 4), .inl (g.2.1 1, 128, .inl (rf 4))) := by rw [← hh31]; exact z_keep f30_mo f30_fw_4 (z_t1 (by decide))
        have f31_fw_5 : h31 (fw 5) = some ((26, 5), .inl (g.2.1 1, 128, .inl (rf 5))) := by rw [← hh31]; exact z_keep f30_mo f30_fw_5 (z_t1 (by decide))
        have f31_ma_5 : h31 (ma 5) = some ((28, 0), .inl (g.2.1 1, 2048, .inl lf)) := by rw [← hh31]; exact z_keep f30_mo f30_ma_5 (z_t1 (by decide))
        have kk31 : z_K (fun y => y = 20 ∨ y = 26 ∨ y = 28) h h31 := kk30.tr (by rw [← hh31]; exact z_K.put f30_mo (by first | decide | simp | omega))
        refine W.eq (g2 := F0 m 72 ls [.int 1]) rfl ?_
        refine lv_if_eq (tgt := 79) hx hb d_M_readField_72 (by decide) (fun c_72 => ?_) (fun c_72 => ?_)
        · -- 72: True
          exact absurd c_72 (by decide)
        · -- 72: False
          refine lv_iconst (v := 0) hx hb d_M_readField_75 (by decide) ?_
          refine lv_goto (tgt := 136) hx hb d_M_readField_76 (by decide) ?_
          refine lv_istore (lv' := [(4, .int 0), (0, .ref mo), (1, .int gr), (2, .int (nI d)), (3, .int ki)]) hx hb d_M_readField_136 hl (by decide) rfl (fun ls hl => ?_)
          refine lv_iload hx hb d_M_readField_138 (lv_at hl 0 rfl) ?_
          refine lv_iconst (v := (-1)) hx hb d_M_readField_140 (by decide) ?_
          refine lv_icmp_ne (tgt := 152) hx hb d_M_readField_141 (by decide) (fun c_141 => ?_) (fun c_141 => ?_)
          · -- 141: True
            exact loop_152 (0 + 1) ki 0 (we t n (sk t n p1)) i1 h31 _ _ _ f31_mo f31_ma_1 f31_ma_3 f31_fw_0 f31_fw_1 f31_fw_2 f31_fw_3 f31_fw_4 f31_fw_5 f31_ma_5 (by omega) kk31 (Or.inr ⟨tw69.1, (hZ.resolve_left (fun z => z.1 tw69.1)).2.1, by rw [(hZ.resolve_left (fun z => z.1 tw69.1)).2.2]; exact fR2_t0  tw69.2⟩) (by omega) hw (lv_sub hl [1, 2, 3, 4, 0] rfl)
          · -- 141: False
            exact absurd c_141 (by decide)
      · -- word False
        rw [if_neg tw69] at hp
        obtain ⟨r8, h8⟩ := hp
        subst r8
        subst h8
        refine W.eq (g2 := F0 m 72 ls [.int 0]) rfl ?_
        refine lv_if_eq (tgt := 79) hx hb d_M_readField_72 (by decide) (fun c_72 => ?_) (fun c_72 => ?_)
        · -- 72: True
          refine lv_aload_n hx hb d_M_readField_79 rfl (lv_at hl 0 rfl) ?_
          refine lv_ldc2 hx hb hown (hts _ (z_in k_916 rfl)) d_M_readField_80 ?_
          refine z_callV (n := 1) (As := [.long 6909556]) (rest := []) ⟨hx, hb, hml, hown, hts⟩ (m_takesWord (t := t) (i9 := 4) l g h30 f30_mo f30_ma_1 hn hf (by omega) (by decide)) (z_in k_894 rfl) (z_in k_7 rfl) (z_in k_891 rfl) (z_in k_893 rfl) (z_in ks_29 rfl) (by decide +kernel) ⟨by first | exact Nat.le_of_ble_eq_true rfl | (dsimp only; omega) | omega, by first | exact Nat.le_of_ble_eq_true rfl | (dsimp only; omega) | omega⟩ hK hE hw hA rfl f30_mo rfl hl.1 (Nat.le_of_ble_eq_true rfl) d_M_readField_83 ⟨by first | exact Nat.le_of_ble_eq_true rfl | (dsimp only; omega) | omega, by first | exact Nat.le_of_ble_eq_true rfl | (dsimp only; omega) | omega⟩ rfl (fun r9 h9 H locs hp hw => ?_)
          by_cases tw83 : (i1 : Int32) = -1 ∧ iW t n (sk t n p1) 4 = true
          · -- word True
            rw [if_pos tw83] at hp
            have wq83 := we_le (t := t) (n := n) (p := sk t n p1) (by omega)
            obtain ⟨r8, hh32⟩ := hp
            subst r8
            obtain ⟨h32, e8⟩ : ∃ x9, x9 = h9 := ⟨_, rfl⟩
            subst e8
            have f32_mo : h32 mo = some ((20, 0), .inr (11, mF ma cod tpd (nI n) fls cls9 (nI S.1) (nI (cc S)) nds sai ous (nI (we t n (sk t n p1))) i1)) := by rw [← hh32]; exact z_put_eq
            have f32_ma_1 : h32 (ma 1) = some ((22, 0), .inl (g.2.1 1, 4000, .inl f)) := by rw [← hh32]; exact z_keep f30_mo f30_ma_1 (z_t1 (by decide))
            have f32_ma_3 : h32 (ma 3) = some ((25, 0), .inl (g.2.1 5, 6, .inr (.inr (.inr (.inr (fun k => some (fw k))))))) := by rw [← hh32]; exact z_keep f30_mo f30_ma_3 (z_t1 (by decide))
            have f32_fw_0 : h32 (fw 0) = some ((26, 0), .inl (g.2.1 1, 128, .inl (rf 0))) := by rw [← hh32]; exact z_keep f30_mo f30_fw_0 (z_t1 (by decide))
            have f32_fw_1 : h32 (fw 1) = some ((26, 1), .inl (g.2.1 1, 128, .inl (rf 1))) := by rw [← hh32]; exact z_keep f30_mo f30_fw_1 (z_t1 (by decide))
            have f32_fw_2 : h32 (fw 2) = some ((26, 2), .inl (g.2.1 1, 128, .inl (rf 2))) := by rw [← hh32]; exact z_keep f30_mo f30_fw_2 (z_t1 (by decide))
            have f32_fw_3 : h32 (fw 3) = some ((26, 3), .inl (g.2.1 1, 128, .inl (rf 3))) := by rw [← hh32]; exact z_keep f30_mo f30_fw_3 (z_t1 (by decide))
            have f32_fw_4 : h32 (fw 4) = some ((26, 4), .inl (g.2.1 1, 128, .inl (rf 4))) := by rw [← hh32]; exact z_keep f30_mo f30_fw_4 (z_t1 (by decide))
            have f32_fw_5 : h32 (fw 5) = some ((26, 5), .inl (g.2.1 1, 128, .inl (rf 5))) := by rw [← hh32]; exact z_keep f30_mo f30_fw_5 (z_t1 (by decide))
            have f32_ma_5 : h32 (ma 5) = some ((28, 0), .inl (g.2.1 1, 2048, .inl lf)) := by rw [← hh32]; exact z_keep f30_mo f30_ma_5 (z_t1 (by decide))
            have kk32 : z_K (fun y => y = 20 ∨ y = 26 ∨ y = 28) h h32 := kk30.tr (by rw [← hh32]; exact z_K.put f30_mo (by first | decide | simp | omega))
            refine W.eq (g2 := F0 m 86 ls [.int 1]) rfl ?_
            refine lv_if_eq (tgt := 93) hx hb d_M_readField_86 (by decide) (fun c_86 => ?_) (fun c_86 => ?_)
            · -- 86: True
              exact absurd c_86 (by decide)
            · -- 86: False
              refine lv_iconst (v := 1) hx hb d_M_readField_89 (by decide) ?_
              refine lv_goto (tgt := 136) hx hb d_M_readField_90 (by decide) ?_
              refine lv_istore (lv' := [(4, .int 1), (0, .ref mo), (1, .int gr), (2, .int (nI d)), (3, .int ki)]) hx hb d_M_readField_136 hl (by decide) rfl (fun ls hl => ?_)
              refine lv_iload hx hb d_M_readField_138 (lv_at hl 0 rfl) ?_
              refine lv_iconst (v := (-1)) hx hb d_M_readField_140 (by decide) ?_
              refine lv_icmp_ne (tgt := 152) hx hb d_M_readField_141 (by decide) (fun c_141 => ?_) (fun c_141 => ?_)
              · -- 141: True
                exact loop_152 (0 + 1) ki 1 (we t n (sk t n p1)) i1 h32 _ _ _ f32_mo f32_ma_1 f32_ma_3 f32_fw_0 f32_fw_1 f32_fw_2 f32_fw_3 f32_fw_4 f32_fw_5 f32_ma_5 (by omega) kk32 (Or.inr ⟨tw83.1, (hZ.resolve_left (fun z => z.1 tw83.1)).2.1, by rw [(hZ.resolve_left (fun z => z.1 tw83.1)).2.2]; exact fR2_t1 (fun z => tw69 ⟨tw83.1, z⟩) tw83.2⟩) (by omega) hw (lv_sub hl [1, 2, 3, 4, 0] rfl)
              · -- 141: False
                exact absurd c_141 (by decide)
          · -- word False
            rw [if_neg tw83] at hp
            obtain ⟨r8, h8⟩ := hp
            subst r8
            subst h8
            refine W.eq (g2 := F0 m 86 ls [.int 0]) rfl ?_
            refine lv_if_eq (tgt := 93) hx hb d_M_readField_86 (by decide) (fun c_86 => ?_) (fun c_86 => ?_)
            · -- 86: True
              refine lv_aload_n hx hb d_M_readField_93 rfl (lv_at hl 0 rfl) ?_
              refine lv_ldc2 hx hb hown (hts _ (z_in k_917 rfl)) d_M_readField_94 ?_
              refine z_callV (n := 1) (As := [.long 1819242087]) (rest := []) ⟨hx, hb, hml, hown, hts⟩ (m_takesWord (t := t) (i9 := 5) l g h30 f30_mo f30_ma_1 hn hf (by omega) (by decide)) (z_in k_894 rfl) (z_in k_7 rfl) (z_in k_891 rfl) (z_in k_893 rfl) (z_in ks_29 rfl) (by decide +kernel) ⟨by first | exact Nat.le_of_ble_eq_true rfl | (dsimp only; omega) | omega, by first | exact Nat.le_of_ble_eq_true rfl | (dsimp only; omega) | omega⟩ hK hE hw hA rfl f30_mo rfl hl.1 (Nat.le_of_ble_eq_true rfl) d_M_readField_97 ⟨by first | exact Nat.le_of_ble_eq_true rfl | (dsimp only; omega) | omega, by first | exact Nat.le_of_ble_eq_true rfl | (dsimp only; omega) | omega⟩ rfl (fun r9 h9 H locs hp hw => ?_)
              by_cases tw97 : (i1 : Int32) = -1 ∧ iW t n (sk t n p1) 5 = true
              · -- word True
                rw [if_pos tw97] at hp
                have wq97 := we_le (t := t) (n := n) (p := sk t n p1) (by omega)
                obtain ⟨r8, hh33⟩ := hp
                subst r8
                obtain ⟨h33, e8⟩ : ∃ x9, x9 = h9 := ⟨_, rfl⟩
                subst e8
                have f33_mo : h33 mo = some ((20, 0), .inr (11, mF ma cod tpd (nI n) fls cls9 (nI S.1) (nI (cc S)) nds sai ous (nI (we t n (sk t n p1))) i1)) := by rw [← hh33]; exact z_put_eq
                have f33_ma_1 : h33 (ma 1) = some ((22, 0), .inl (g.2.1 1, 4000, .inl f)) := by rw [← hh33]; exact z_keep f30_mo f30_ma_1 (z_t1 (by decide))
                have f33_ma_3 : h33 (ma 3) = some ((25, 0), .inl (g.2.1 5, 6, .inr (.inr (.inr (.inr (fun k => some (fw k))))))) := by rw [← hh33]; exact z_keep f30_mo f30_ma_3 (z_t1 (by decide))
                have f33_fw_0 : h33 (fw 0) = some ((26, 0), .inl (g.2.1 1, 128, .inl (rf 0))) := by rw [← hh33]; exact z_keep f30_mo f30_fw_0 (z_t1 (by decide))
                have f33_fw_1 : h33 (fw 1) = some ((26, 1), .inl (g.2.1 1, 128, .inl (rf 1))) := by rw [← hh33]; exact z_keep f30_mo f30_fw_1 (z_t1 (by decide))
                have f33_fw_2 : h33 (fw 2) = some ((26, 2), .inl (g.2.1 1, 128, .inl (rf 2))) := by rw [← hh33]; exact z_keep f30_mo f30_fw_2 (z_t1 (by decide))
                have f33_fw_3 : h33 (fw 3) = some ((26, 3), .inl (g.2.1 1, 128, .inl (rf 3))) := by rw [← hh33]; exact z_keep f30_mo f30_fw_3 (z_t1 (by decide))
                have f33_fw_4 : h33 (fw 4) = some ((26, 4), .inl (g.2.1 1, 128, .inl (rf 4))) := by rw [← hh33]; exact z_keep f30_mo f30_fw_4 (z_t1 (by decide))
                have f33_fw_5 : h33 (fw 5) = some ((26, 5), .inl (g.2.1 1, 128, .inl (rf 5))) := by rw [← hh33]; exact z_keep f30_mo f30_fw_5 (z_t1 (by decide))
                have f33_ma_5 : h33 (ma 5) = some ((28, 0), .inl (g.2.1 1, 2048, .inl lf)) := by rw [← hh33]; exact z_keep f30_mo f30_ma_5 (z_t1 (by decide))
                have kk33 : z_K (fun y => y = 20 ∨ y = 26 ∨ y = 28) h h33 := kk30.tr (by rw [← hh33]; exact z_K.put f30_mo (by first | decide | simp | omega))
                refine W.eq (g2 := F0 m 100 ls [.int 1]) rfl ?_
                refine lv_if_eq (tgt := 107) hx hb d_M_readField_100 (by decide) (fun c_100 => ?_) (fun c_100 => ?_)
                · -- 100: True
                  exact absurd c_100 (by decide)
                · -- 100: False
                  refine lv_iconst (v := 2) hx hb d_M_readField_103 (by decide) ?_
                  refine lv_goto (tgt := 136) hx hb d_M_readField_104 (by decide) ?_
                  refine lv_istore (lv' := [(4, .int 2), (0, .ref mo), (1, .int gr), (2, .int (nI d)), (3, .int ki)]) hx hb d_M_readField_136 hl (by decide) rfl (fun ls hl => ?_)
                  refine lv_iload hx hb d_M_readField_138 (lv_at hl 0 rfl) ?_
                  refine lv_iconst (v := (-1)) hx hb d_M_readField_140 (by decide) ?_
                  refine lv_icmp_ne (tgt := 152) hx hb d_M_readField_141 (by decide) (fun c_141 => ?_) (fun c_141 => ?_)
                  · -- 141: True
                    exact loop_152 (0 + 1) ki 2 (we t n (sk t n p1)) i1 h33 _ _ _ f33_mo f33_ma_1 f33_ma_3 f33_fw_0 f33_fw_1 f33_fw_2 f33_fw_3 f33_fw_4 f33_fw_5 f33_ma_5 (by omega) kk33 (Or.inr ⟨tw97.1, (hZ.resolve_left (fun z => z.1 tw97.1)).2.1, by rw [(hZ.resolve_left (fun z => z.1 tw97.1)).2.2]; exact fR2_t2 (fun z => tw69 ⟨tw97.1, z⟩) (fun z => tw83 ⟨tw97.1, z⟩) tw97.2⟩) (by omega) hw (lv_sub hl [1, 2, 3, 4, 0] rfl)
                  · -- 141: False
                    exact absurd c_141 (by decide)
              · -- word False
                rw [if_neg tw97] at hp
                obtain ⟨r8, h8⟩ := hp
                subst r8
                subst h8
                refine W.eq (g2 := F0 m 100 ls [.int 0]) rfl ?_
                refine lv_if_eq (tgt := 107) hx hb d_M_readField_100 (by decide) (fun c_100 => ?_) (fun c_100 => ?_)
                · -- 100: True
                  refine lv_aload_n hx hb d_M_readField_107 rfl (lv_at hl 0 rfl) ?_
                  refine lv_ldc2 hx hb hown (hts _ (z_in k_918 rfl)) d_M_readField_108 ?_
                  refine z_callV (n := 1) (As := [.long 1952807028]) (rest := []) ⟨hx, hb, hml, hown, hts⟩ (m_takesWord (t := t) (i9 := 6) l g h30 f30_mo f30_ma_1 hn hf (by omega) (by decide)) (z_in k_894 rfl) (z_in k_7 rfl) (z_in k_891 rfl) (z_in k_893 rfl) (z_in ks_29 rfl) (by decide +kernel) ⟨by first | exact Nat.le_of_ble_eq_true rfl | (dsimp only; omega) | omega, by first | exact Nat.le_of_ble_eq_true rfl | (dsimp only; omega) | omega⟩ hK hE hw hA rfl f30_mo rfl hl.1 (Nat.le_of_ble_eq_true rfl) d_M_readField_111 ⟨by first | exact Nat.le_of_ble_eq_true rfl | (dsimp only; omega) | omega, by first | exact Nat.le_of_ble_eq_true rfl | (dsimp only; omega) | omega⟩ rfl (fun r9 h9 H locs hp hw => ?_)
                  by_cases tw111 : (i1 : Int32) = -1 ∧ iW t n (sk t n p1) 6 = true
                  · -- word True
                    rw [if_pos tw111] at hp
                    have wq111 := we_le (t := t) (n := n) (p := sk t n p1) (by omega)
                    obtain ⟨r8, hh34⟩ := hp
                    subst r8
                    obtain ⟨h34, e8⟩ : ∃ x9, x9 = h9 := ⟨_, rfl⟩
                    subst e8
                    have f34_mo : h34 mo = some ((20, 0), .inr (11, mF ma cod tpd (nI n) fls cls9 (nI S.1) (nI (cc S)) nds sai ous (nI (we t n (sk t n p1))) i1)) := by rw [← hh34]; exact z_put_eq
                    have f34_ma_1 : h34 (ma 1) = some ((22, 0), .inl (g.2.1 1, 4000, .inl f)) := by rw [← hh34]; exact z_keep f30_mo f30_ma_1 (z_t1 (by decide))
                    have f34_ma_3 : h34 (ma 3) = some ((25, 0), .inl (g.2.1 5, 6, .inr (.inr (.inr (.inr (fun k => some (fw k))))))) := by rw [← hh34]; exact z_keep f30_mo f30_ma_3 (z_t1 (by decide))
                    have f34_fw_0 : h34 (fw 0) = some ((26, 0), .inl (g.2.1 1, 128, .inl (rf 0))) := by rw [← hh34]; exact z_keep f30_mo f30_fw_0 (z_t1 (by decide))
                    have f34_fw_1 : h34 (fw 1) = some ((26, 1), .inl (g.2.1 1, 128, .inl (rf 1))) := by rw [← hh34]; exact z_keep f30_mo f30_fw_1 (z_t1 (by decide))
                    have f34_fw_2 : h34 (fw 2) = some ((26, 2), .inl (g.2.1 1, 128, .inl (rf 2))) := by rw [← hh34]; exact z_keep f30_mo f30_fw_2 (z_t1 (by decide))
                    have f34_fw_3 : h34 (fw 3) = some ((26, 3), .inl (g.2.1 1, 128, .inl (rf 3))) := by rw [← hh34]; exact z_keep f30_mo f30_fw_3 (z_t1 (by decide))
                    have f34_fw_4 : h34 (fw 4) = some ((26, 4), .inl (g.2.1 1, 128, .inl (rf 4))) := by rw [← hh34]; exact z_keep f30_mo f30_fw_4 (z_t1 (by decide))
                    have f34_fw_5 : h34 (fw 5) = some ((26, 5), .inl (g.2.1 1, 128, .inl (rf 5))) := by rw [← hh34]; exact z_keep f30_mo f30_fw_5 (z_t1 (by decide))
                    have f34_ma_5 : h34 (ma 5) = some ((28, 0), .inl (g.2.1 1, 2048, .inl lf)) := by rw [← hh34]; exact z_keep f30_mo f30_ma_5 (z_t1 (by decide))
                    have kk34 : z_K (fun y => y = 20 ∨ y = 26 ∨ y = 28) h h34 := kk30.tr (by rw [← hh34]; exact z_K.put f30_mo (by first | decide | simp | omega))
                    refine W.eq (g2 := F0 m 114 ls [.int 1]) rfl ?_
                    refine lv_if_eq (tgt := 121) hx hb d_M_readField_114 (by decide) (fun c_114 => ?_) (fun c_114 => ?_)
                    · -- 114: True
                      exact absurd c_114 (by decide)
                    · -- 114: False
                      refine lv_iconst (v := 3) hx hb d_M_readField_117 (by decide) ?_
                      refine lv_goto (tgt := 136) hx hb d_M_readField_118 (by decide) ?_
                      refine lv_istore (lv' := [(4, .int 3), (0, .ref mo), (1, .int gr), (2, .int (nI d)), (3, .int ki)]) hx hb d_M_readField_136 hl (by decide) rfl (fun ls hl => ?_)
                      refine lv_iload hx hb d_M_readField_138 (lv_at hl 0 rfl) ?_
                      refine lv_iconst (v := (-1)) hx hb d_M_readField_140 (by decide) ?_
                      refine lv_icmp_ne (tgt := 152) hx hb d_M_readField_141 (by decide) (fun c_141 => ?_) (fun c_141 => ?_)
                      · -- 141: True
                        exact loop_152 (0 + 1) ki 3 (we t n (sk t n p1)) i1 h34 _ _ _ f34_mo f34_ma_1 f34_ma_3 f34_fw_0 f34_fw_1 f34_fw_2 f34_fw_3 f34_fw_4 f34_fw_5 f34_ma_5 (by omega) kk34 (Or.inr ⟨tw111.1, (hZ.resolve_left (fun z => z.1 tw111.1)).2.1, by rw [(hZ.resolve_left (fun z => z.1 tw111.1)).2.2]; exact fR2_t3 (fun z => tw69 ⟨tw111.1, z⟩) (fun z => tw83 ⟨tw111.1, z⟩) (fun z => tw97 ⟨tw111.1, z⟩) tw111.2⟩) (by omega) hw (lv_sub hl [1, 2, 3, 4, 0] rfl)
                      · -- 141: False
                        exact absurd c_141 (by decide)
                  · -- word False
                    rw [if_neg tw111] at hp
                    obtain ⟨r8, h8⟩ := hp
                    subst r8
                    subst h8
                    refine W.eq (g2 := F0 m 114 ls [.int 0]) rfl ?_
                    refine lv_if_eq (tgt := 121) hx hb d_M_readField_114 (by decide) (fun c_114 => ?_) (fun c_114 => ?_)
                    · -- 114: True
                      refine lv_aload_n hx hb d_M_readField_121 rfl (lv_at hl 0 rfl) ?_
                      refine lv_ldc2 hx hb hown (hts _ (z_in k_919 rfl)) d_M_readField_122 ?_
                      refine z_callV (n := 1) (As := [.long 444301538672]) (rest := []) ⟨hx, hb, hml, hown, hts⟩ (m_takesWord (t := t) (i9 := 7) l g h30 f30_mo f30_ma_1 hn hf (by omega) (by decide)) (z_in k_894 rfl) (z_in k_7 rfl) (z_in k_891 rfl) (z_in k_893 rfl) (z_in ks_29 rfl) (by decide +kernel) ⟨by first | exact Nat.le_of_ble_eq_true rfl | (dsimp only; omega) | omega, by first | exact Nat.le_of_ble_eq_true rfl | (dsimp only; omega) | omega⟩ hK hE hw hA rfl f30_mo rfl hl.1 (Nat.le_of_ble_eq_true rfl) d_M_readField_125 ⟨by first | exact Nat.le_of_ble_eq_true rfl | (dsimp only; omega) | omega, by first | exact Nat.le_of_ble_eq_true rfl | (dsimp only; omega) | omega⟩ rfl (fun r9 h9 H locs hp hw => ?_)
                      by_cases tw125 : (i1 : Int32) = -1 ∧ iW t n (sk t n p1) 7 = true
                      · -- word True
                        rw [if_pos tw125] at hp
                        have wq125 := we_le (t := t) (n := n) (p := sk t n p1) (by omega)
                        obtain ⟨r8, hh35⟩ := hp
                        subst r8
                        obtain ⟨h35, e8⟩ : ∃ x9, x9 = h9 := ⟨_, rfl⟩
                        subst e8
                        have f35_mo : h35 mo = some ((20, 0), .inr (11, mF ma cod tpd (nI n) fls cls9 (nI S.1) (nI (cc S)) nds sai ous (nI (we t n (sk t n p1))) i1)) := by rw [← hh35]; exact z_put_eq
                        have f35_ma_1 : h35 (ma 1) = some ((22, 0), .inl (g.2.1 1, 4000, .inl f)) := by rw [← hh35]; exact z_keep f30_mo f30_ma_1 (z_t1 (by decide))
                        have f35_ma_3 : h35 (ma 3) = some ((25, 0), .inl (g.2.1 5, 6, .inr (.inr (.inr (.inr (fun k => some (fw k))))))) := by rw [← hh35]; exact z_keep f30_mo f30_ma_3 (z_t1 (by decide))
                        have f35_fw_0 : h35 (fw 0) = some ((26, 0), .inl (g.2.1 1, 128, .inl (rf 0))) := by rw [← hh35]; exact z_keep f30_mo f30_fw_0 (z_t1 (by decide))
                        have f35_fw_1 : h35 (fw 1) = some ((26, 1), .inl (g.2.1 1, 128, .inl (rf 1))) := by rw [← hh35]; exact z_keep f30_mo f30_fw_1 (z_t1 (by decide))
                        have f35_fw_2 : h35 (fw 2) = some ((26, 2), .inl (g.2.1 1, 128, .inl (rf 2))) := by rw [← hh35]; exact z_keep f30_mo f30_fw_2 (z_t1 (by decide))
                        have f35_fw_3 : h35 (fw 3) = some ((26, 3), .inl (g.2.1 1, 128, .inl (rf 3))) := by rw [← hh35]; exact z_keep f30_mo f30_fw_3 (z_t1 (by decide))
                        have f35_fw_4 : h35 (fw 4) = some ((26, 4), .inl (g.2.1 1, 128, .inl (rf 4))) := by rw [← hh35]; exact z_keep f30_mo f30_fw_4 (z_t1 (by decide))
                        have f35_fw_5 : h35 (fw 5) = some ((26, 5), .inl (g.2.1 1, 128, .inl (rf 5))) := by rw [← hh35]; exact z_keep f30_mo f30_fw_5 (z_t1 (by decide))
                        have f35_ma_5 : h35 (ma 5) = some ((28, 0), .inl (g.2.1 1, 2048, .inl lf)) := by rw [← hh35]; exact z_keep f30_mo f30_ma_5 (z_t1 (by decide))
                        have kk35 : z_K (fun y => y = 20 ∨ y = 26 ∨ y = 28) h h35 := kk30.tr (by rw [← hh35]; exact z_K.put f30_mo (by first | decide | simp | omega))
                        refine W.eq (g2 := F0 m 128 ls [.int 1]) rfl ?_
                        refine lv_if_eq (tgt := 135) hx hb d_M_readField_128 (by decide) (fun c_128 => ?_) (fun c_128 => ?_)
                        · -- 128: True
                          exact absurd c_128 (by decide)
                        · -- 128: False
                          refine lv_iconst (v := 4) hx hb d_M_readField_131 (by decide) ?_
                          refine lv_goto (tgt := 136) hx hb d_M_readField_132 (by decide) ?_
                          refine lv_istore (lv' := [(4, .int 4), (0, .ref mo), (1, .int gr), (2, .int (nI d)), (3, .int ki)]) hx hb d_M_readField_136 hl (by decide) rfl (fun ls hl => ?_)
                          refine lv_iload hx hb d_M_readField_138 (lv_at hl 0 rfl) ?_
                          refine lv_iconst (v := (-1)) hx hb d_M_readField_140 (by decide) ?_
                          refine lv_icmp_ne (tgt := 152) hx hb d_M_readField_141 (by decide) (fun c_141 => ?_) (fun c_141 => ?_)
                          · -- 141: True
                            exact loop_152 (0 + 1) ki 4 (we t n (sk t n p1)) i1 h35 _ _ _ f35_mo f35_ma_1 f35_ma_3 f35_fw_0 f35_fw_1 f35_fw_2 f35_fw_3 f35_fw_4 f35_fw_5 f35_ma_5 (by omega) kk35 (Or.inr ⟨tw125.1, (hZ.resolve_left (fun z => z.1 tw125.1)).2.1, by rw [(hZ.resolve_left (fun z => z.1 tw125.1)).2.2]; exact fR2_t4 (fun z => tw69 ⟨tw125.1, z⟩) (fun z => tw83 ⟨tw125.1, z⟩) (fun z => tw97 ⟨tw125.1, z⟩) (fun z => tw111 ⟨tw125.1, z⟩) tw125.2⟩) (by omega) hw (lv_sub hl [1, 2, 3, 4, 0] rfl)
                          · -- 141: False
                            exact absurd c_141 (by decide)
                      · -- word False
                        rw [if_neg tw125] at hp
                        obtain ⟨r8, h8⟩ := hp
                        subst r8
                        subst h8
                        refine W.eq (g2 := F0 m 128 ls [.int 0]) rfl ?_
                        refine lv_if_eq (tgt := 135) hx hb d_M_readField_128 (by decide) (fun c_128 => ?_) (fun c_128 => ?_)
                        · -- 128: True
                          refine lv_iconst (v := (-1)) hx hb d_M_readField_135 (by decide) ?_
                          refine lv_istore (lv' := [(4, .int (-1)), (0, .ref mo), (1, .int gr), (2, .int (nI d)), (3, .int ki)]) hx hb d_M_readField_136 hl (by decide) rfl (fun ls hl => ?_)
                          refine lv_iload hx hb d_M_readField_138 (lv_at hl 0 rfl) ?_
                          refine lv_iconst (v := (-1)) hx hb d_M_readField_140 (by decide) ?_
                          refine lv_icmp_ne (tgt := 152) hx hb d_M_readField_141 (by decide) (fun c_141 => ?_) (fun c_141 => ?_)
                          · -- 141: True
                            exact absurd (by decide) c_141
                          · -- 141: False
                            by_cases z144 : (i1 : Int32) = -1
                            · -- no fault yet True
                              have fi36 : h30 mo = some ((20, 0), .inr (11, mF ma cod tpd (nI n) fls cls9 (nI S.1) (nI (cc S)) nds sai ous (nI (sk t n p1)) (-1))) := by have z9 := f30_mo; rw [z144] at z9; exact z9
                              refine lv_aload_n hx hb d_M_readField_144 rfl (lv_at hl 1 rfl) ?_
                              refine lv_aload_n hx hb d_M_readField_145 rfl (lv_at hl 1 rfl) ?_
                              refine z_get hx hb hts (z_lay i_M) hown hK hw fi36 rfl 29 (by decide) (z_in k_800 rfl) (fun _ h9 => h9) rfl d_M_readField_146 ?_
                              refine z_callV (n := 1) (As := [.int (nI (sk t n p1))]) (rest := []) ⟨hx, hb, hml, hown, hts⟩ (m_fail l g h30 fi36) (z_in k_914 rfl) (z_in k_7 rfl) (z_in k_911 rfl) (z_in k_913 rfl) (z_in ks_32 rfl) (by decide +kernel) ⟨by first | exact Nat.le_of_ble_eq_true rfl | (dsimp only; omega) | omega, by first | exact Nat.le_of_ble_eq_true rfl | (dsimp only; omega) | omega⟩ hK hE hw hA rfl fi36 rfl hl.1 (Nat.le_of_ble_eq_true rfl) d_M_readField_149 ⟨by first | exact Nat.le_of_ble_eq_true rfl | (dsimp only; omega) | omega, by first | exact Nat.le_of_ble_eq_true rfl | (dsimp only; omega) | omega⟩ rfl (fun r9 h9 H locs hp hw => ?_)
                              obtain ⟨r8, hh37⟩ := hp
                              subst r8
                              obtain ⟨h37, e8⟩ : ∃ x9, x9 = h9 := ⟨_, rfl⟩
                              subst e8
                              have f37_mo : h37 mo = some ((20, 0), .inr (11, mF ma cod tpd (nI n) fls cls9 (nI S.1) (nI (cc S)) nds sai ous (nI (sk t n p1)) (nI (sk t n p1)))) := by rw [← hh37]; exact z_put_eq
                              have f37_ma_1 : h37 (ma 1) = some ((22, 0), .inl (g.2.1 1, 4000, .inl f)) := by rw [← hh37]; exact z_keep fi36 f30_ma_1 (z_t1 (by decide))
                              have f37_ma_3 : h37 (ma 3) = some ((25, 0), .inl (g.2.1 5, 6, .inr (.inr (.inr (.inr (fun k => some (fw k))))))) := by rw [← hh37]; exact z_keep fi36 f30_ma_3 (z_t1 (by decide))
                              have f37_fw_0 : h37 (fw 0) = some ((26, 0), .inl (g.2.1 1, 128, .inl (rf 0))) := by rw [← hh37]; exact z_keep fi36 f30_fw_0 (z_t1 (by decide))
                              have f37_fw_1 : h37 (fw 1) = some ((26, 1), .inl (g.2.1 1, 128, .inl (rf 1))) := by rw [← hh37]; exact z_keep fi36 f30_fw_1 (z_t1 (by decide))
                              have f37_fw_2 : h37 (fw 2) = some ((26, 2), .inl (g.2.1 1, 128, .inl (rf 2))) := by rw [← hh37]; exact z_keep fi36 f30_fw_2 (z_t1 (by decide))
                              have f37_fw_3 : h37 (fw 3) = some ((26, 3), .inl (g.2.1 1, 128, .inl (rf 3))) := by rw [← hh37]; exact z_keep fi36 f30_fw_3 (z_t1 (by decide))
                              have f37_fw_4 : h37 (fw 4) = some ((26, 4), .inl (g.2.1 1, 128, .inl (rf 4))) := by rw [← hh37]; exact z_keep fi36 f30_fw_4 (z_t1 (by decide))
                              have f37_fw_5 : h37 (fw 5) = some ((26, 5), .inl (g.2.1 1, 128, .inl (rf 5))) := by rw [← hh37]; exact z_keep fi36 f30_fw_5 (z_t1 (by decide))
                              have f37_ma_5 : h37 (ma 5) = some ((28, 0), .inl (g.2.1 1, 2048, .inl lf)) := by rw [← hh37]; exact z_keep fi36 f30_ma_5 (z_t1 (by decide))
                              have kk37 : z_K (fun y => y = 20 ∨ y = 26 ∨ y = 28) h h37 := kk30.tr (by rw [← hh37]; exact z_K.put fi36 (by first | decide | simp | omega))
                              refine W.eq (g2 := F0 m 152 ls []) rfl ?_
                              exact loop_152 (0 + 1) ki (-1) (sk t n p1) (nI (sk t n p1)) h37 _ _ _ f37_mo f37_ma_1 f37_ma_3 f37_fw_0 f37_fw_1 f37_fw_2 f37_fw_3 f37_fw_4 f37_fw_5 f37_ma_5 (by omega) kk37 (Or.inl ⟨nI_ne1 (by omega), by rw [(hZ.resolve_left (fun z => z.1 z144)).2.1, (hZ.resolve_left (fun z => z.1 z144)).2.2, fR2_tn (fun z => tw69 ⟨z144, z⟩) (fun z => tw83 ⟨z144, z⟩) (fun z => tw97 ⟨z144, z⟩) (fun z => tw111 ⟨z144, z⟩) (fun z => tw125 ⟨z144, z⟩)]; exact resI_no⟩) (by omega) hw (lv_sub hl [1, 2, 3, 4, 0] rfl)
                            · -- no fault yet False
                              refine lv_aload_n hx hb d_M_readField_144 rfl (lv_at hl 1 rfl) ?_
                              refine lv_aload_n hx hb d_M_readField_145 rfl (lv_at hl 1 rfl) ?_
                              refine z_get hx hb hts (z_lay i_M) hown hK hw f30_mo rfl 29 (by decide) (z_in k_800 rfl) (fun _ h9 => h9) rfl d_M_readField_146 ?_
                              refine z_callV (n := 1) (As := [.int (nI (sk t n p1))]) (rest := []) ⟨hx, hb, hml, hown, hts⟩ (m_fail_no l g h30 f30_mo z144) (z_in k_914 rfl) (z_in k_7 rfl) (z_in k_911 rfl) (z_in k_913 rfl) (z_in ks_32 rfl) (by decide +kernel) ⟨by first | exact Nat.le_of_ble_eq_true rfl | (dsimp only; omega) | omega, by first | exact Nat.le_of_ble_eq_true rfl | (dsimp only; omega) | omega⟩ hK hE hw hA rfl f30_mo rfl hl.1 (Nat.le_of_ble_eq_true rfl) d_M_readField_149 ⟨by first | exact Nat.le_of_ble_eq_true rfl | (dsimp only; omega) | omega, by first | exact Nat.le_of_ble_eq_true rfl | (dsimp only; omega) | omega⟩ rfl (fun r9 h9 H locs hp hw => ?_)
                              obtain ⟨r8, h8⟩ := hp
                              subst r8
                              subst h8
                              refine W.eq (g2 := F0 m 152 ls []) rfl ?_
                              exact loop_152 (0 + 1) ki (-1) (sk t n p1) i1 h30 _ _ _ f30_mo f30_ma_1 f30_ma_3 f30_fw_0 f30_fw_1 f30_fw_2 f30_fw_3 f30_fw_4 f30_fw_5 f30_ma_5 (by omega) kk30 (Or.inl ⟨z144, (hZ.resolve_right (fun z => z144 z.1)).2⟩) (by omega) hw (lv_sub hl [1, 2, 3, 4, 0] rfl)
                        · -- 128: False
                          exact absurd (by decide) c_128
                    · -- 114: False
                      exact absurd (by decide) c_114
                · -- 100: False
                  exact absurd (by decide) c_100
            · -- 86: False
              exact absurd (by decide) c_86
        · -- 72: False
          exact absurd (by decide) c_72
  refine lv_aload_n hx hb d_M_readField_0 rfl (lv_at hl 0 rfl) ?_
  refine z_callV (n := 0) (As := []) (rest := []) ⟨hx, hb, hml, hown, hts⟩ (m_blanks (t := t) l g h hmo htx hn hf (by omega)) (z_in k_885 rfl) (z_in k_7 rfl) (z_in k_882 rfl) (z_in k_884 rfl) (z_in ks_27 rfl) (by decide +kernel) ⟨by first | exact Nat.le_of_ble_eq_true rfl | (dsimp only; omega) | omega, by first | exact Nat.le_of_ble_eq_true rfl | (dsimp only; omega) | omega⟩ hK hE hw hA rfl hmo rfl hl.1 (Nat.le_of_ble_eq_true rfl) d_M_readField_1 ⟨by first | exact Nat.le_of_ble_eq_true rfl | (dsimp only; omega) | omega, by first | exact Nat.le_of_ble_eq_true rfl | (dsimp only; omega) | omega⟩ rfl (fun r9 h9 H locs hp hw => ?_)
  have sq38 := sk_le (t := t) (n := n) (p := p) (by omega)
  have sr38 := sk_ge t n p
  obtain ⟨r8, hh39⟩ := hp
  subst r8
  obtain ⟨h39, e8⟩ : ∃ x9, x9 = h9 := ⟨_, rfl⟩
  subst e8
  have f39_mo : h39 mo = some ((20, 0), .inr (11, mF ma cod tpd (nI n) fls cls9 (nI S.1) (nI (cc S)) nds sai ous (nI (sk t n p)) il)) := by rw [← hh39]; exact z_put_eq
  have f39_ma_1 : h39 (ma 1) = some ((22, 0), .inl (g.2.1 1, 4000, .inl f)) := by rw [← hh39]; exact z_keep hmo htx (z_t1 (by decide))
  have f39_ma_3 : h39 (ma 3) = some ((25, 0), .inl (g.2.1 5, 6, .inr (.inr (.inr (.inr (fun k => some (fw k))))))) := by rw [← hh39]; exact z_keep hmo hSf.1 (z_t1 (by decide))
  have f39_fw_0 : h39 (fw 0) = some ((26, 0), .inl (g.2.1 1, 128, .inl (rf 0))) := by rw [← hh39]; exact z_keep hmo hfw_0 (z_t1 (by decide))
  have f39_fw_1 : h39 (fw 1) = some ((26, 1), .inl (g.2.1 1, 128, .inl (rf 1))) := by rw [← hh39]; exact z_keep hmo hfw_1 (z_t1 (by decide))
  have f39_fw_2 : h39 (fw 2) = some ((26, 2), .inl (g.2.1 1, 128, .inl (rf 2))) := by rw [← hh39]; exact z_keep hmo hfw_2 (z_t1 (by decide))
  have f39_fw_3 : h39 (fw 3) = some ((26, 3), .inl (g.2.1 1, 128, .inl (rf 3))) := by rw [← hh39]; exact z_keep hmo hfw_3 (z_t1 (by decide))
  have f39_fw_4 : h39 (fw 4) = some ((26, 4), .inl (g.2.1 1, 128, .inl (rf 4))) := by rw [← hh39]; exact z_keep hmo hfw_4 (z_t1 (by decide))
  have f39_fw_5 : h39 (fw 5) = some ((26, 5), .inl (g.2.1 1, 128, .inl (rf 5))) := by rw [← hh39]; exact z_keep hmo hfw_5 (z_t1 (by decide))
  have f39_ma_5 : h39 (ma 5) = some ((28, 0), .inl (g.2.1 1, 2048, .inl lf)) := by rw [← hh39]; exact z_keep hmo hSf.2.2.1 (z_t1 (by decide))
  have kk39 : z_K (fun y => y = 20 ∨ y = 26 ∨ y = 28) h h39 := kk0.tr (by rw [← hh39]; exact z_K.put hmo (by first | decide | simp | omega))
  refine W.eq (g2 := F0 m 4 ls []) rfl ?_
  refine lv_aload_n hx hb d_M_readField_4 rfl (lv_at hl 0 rfl) ?_
  refine lv_ldc2 hx hb hown (hts _ (z_in k_890 rfl)) d_M_readField_5 ?_
  refine z_callV (n := 1) (As := [.long 8243119442065778020]) (rest := []) ⟨hx, hb, hml, hown, hts⟩ (m_takesWord (t := t) (i9 := 0) l g h39 f39_mo f39_ma_1 hn hf (by omega) (by decide)) (z_in k_894 rfl) (z_in k_7 rfl) (z_in k_891 rfl) (z_in k_893 rfl) (z_in ks_29 rfl) (by decide +kernel) ⟨by first | exact Nat.le_of_ble_eq_true rfl | (dsimp only; omega) | omega, by first | exact Nat.le_of_ble_eq_true rfl | (dsimp only; omega) | omega⟩ hK hE hw hA rfl f39_mo rfl hl.1 (Nat.le_of_ble_eq_true rfl) d_M_readField_8 ⟨by first | exact Nat.le_of_ble_eq_true rfl | (dsimp only; omega) | omega, by first | exact Nat.le_of_ble_eq_true rfl | (dsimp only; omega) | omega⟩ rfl (fun r9 h9 H locs hp hw => ?_)
  by_cases tw8 : (il : Int32) = -1 ∧ iW t n (sk t n p) 0 = true
  · -- word True
    rw [if_pos tw8] at hp
    have wq8 := we_le (t := t) (n := n) (p := sk t n p) (by omega)
    obtain ⟨r8, hh40⟩ := hp
    subst r8
    obtain ⟨h40, e8⟩ : ∃ x9, x9 = h9 := ⟨_, rfl⟩
    subst e8
    have f40_mo : h40 mo = some ((20, 0), .inr (11, mF ma cod tpd (nI n) fls cls9 (nI S.1) (nI (cc S)) nds sai ous (nI (we t n (sk t n p))) il)) := by rw [← hh40]; exact z_put_eq
    have f40_ma_1 : h40 (ma 1) = some ((22, 0), .inl (g.2.1 1, 4000, .inl f)) := by rw [← hh40]; exact z_keep f39_mo f39_ma_1 (z_t1 (by decide))
    have f40_ma_3 : h40 (ma 3) = some ((25, 0), .inl (g.2.1 5, 6, .inr (.inr (.inr (.inr (fun k => some (fw k))))))) := by rw [← hh40]; exact z_keep f39_mo f39_ma_3 (z_t1 (by decide))
    have f40_fw_0 : h40 (fw 0) = some ((26, 0), .inl (g.2.1 1, 128, .inl (rf 0))) := by rw [← hh40]; exact z_keep f39_mo f39_fw_0 (z_t1 (by decide))
    have f40_fw_1 : h40 (fw 1) = some ((26, 1), .inl (g.2.1 1, 128, .inl (rf 1))) := by rw [← hh40]; exact z_keep f39_mo f39_fw_1 (z_t1 (by decide))
    have f40_fw_2 : h40 (fw 2) = some ((26, 2), .inl (g.2.1 1, 128, .inl (rf 2))) := by rw [← hh40]; exact z_keep f39_mo f39_fw_2 (z_t1 (by decide))
    have f40_fw_3 : h40 (fw 3) = some ((26, 3), .inl (g.2.1 1, 128, .inl (rf 3))) := by rw [← hh40]; exact z_keep f39_mo f39_fw_3 (z_t1 (by decide))
    have f40_fw_4 : h40 (fw 4) = some ((26, 4), .inl (g.2.1 1, 128, .inl (rf 4))) := by rw [← hh40]; exact z_keep f39_mo f39_fw_4 (z_t1 (by decide))
    have f40_fw_5 : h40 (fw 5) = some ((26, 5), .inl (g.2.1 1, 128, .inl (rf 5))) := by rw [← hh40]; exact z_keep f39_mo f39_fw_5 (z_t1 (by decide))
    have f40_ma_5 : h40 (ma 5) = some ((28, 0), .inl (g.2.1 1, 2048, .inl lf)) := by rw [← hh40]; exact z_keep f39_mo f39_ma_5 (z_t1 (by decide))
    have kk40 : z_K (fun y => y = 20 ∨ y = 26 ∨ y = 28) h h40 := kk39.tr (by rw [← hh40]; exact z_K.put f39_mo (by first | decide | simp | omega))
    refine W.eq (g2 := F0 m 11 ls [.int 1]) rfl ?_
    refine lv_if_eq (tgt := 18) hx hb d_M_readField_11 (by decide) (fun c_11 => ?_) (fun c_11 => ?_)
    · -- 11: True
      exact absurd c_11 (by decide)
    · -- 11: False
      refine lv_iconst (v := 0) hx hb d_M_readField_14 (by decide) ?_
      refine lv_goto (tgt := 47) hx hb d_M_readField_15 (by decide) ?_
      refine lv_istore_n (lv' := [(3, .int 0), (0, .ref mo), (1, .int gr), (2, .int (nI d))]) hx hb d_M_readField_47 rfl hl (by decide) rfl (fun ls hl => ?_)
      refine lv_iload_n hx hb d_M_readField_48 rfl (lv_at hl 0 rfl) ?_
      refine lv_iconst (v := (-1)) hx hb d_M_readField_49 (by decide) ?_
      refine lv_icmp_ne (tgt := 61) hx hb d_M_readField_50 (by decide) (fun c_50 => ?_) (fun c_50 => ?_)
      · -- 50: True
        exact loop_61 (0 + 1) 0 (we t n (sk t n p)) il h40 _ _ _ f40_mo f40_ma_1 f40_ma_3 f40_fw_0 f40_fw_1 f40_fw_2 f40_fw_3 f40_fw_4 f40_fw_5 f40_ma_5 (by omega) kk40 (Or.inr ⟨tw8.1, tw8.1, by rw [eX]; exact fld_k0  tw8.2⟩) (by omega) hw (lv_sub hl [1, 2, 3, 0] rfl)
      · -- 50: False
        exact absurd c_50 (by decide)
  · -- word False
    rw [if_neg tw8] at hp
    obtain ⟨r8, h8⟩ := hp
    subst r8
    subst h8
    refine W.eq (g2 := F0 m 11 ls [.int 0]) rfl ?_
    refine lv_if_eq (tgt := 18) hx hb d_M_readField_11 (by decide) (fun c_11 => ?_) (fun c_11 => ?_)
    · -- 11: True
      refine lv_aload_n hx hb d_M_readField_18 rfl (lv_at hl 0 rfl) ?_
      refine lv_ldc2 hx hb hown (hts _ (z_in k_909 rfl)) d_M_readField_19 ?_
      refine z_callV (n := 1) (As := [.long 8030046131791487340]) (rest := []) ⟨hx, hb, hml, hown, hts⟩ (m_takesWord (t := t) (i9 := 1) l g h39 f39_mo f39_ma_1 hn hf (by omega) (by decide)) (z_in k_894 rfl) (z_in k_7 rfl) (z_in k_891 rfl) (z_in k_893 rfl) (z_in ks_29 rfl) (by decide +kernel) ⟨by first | exact Nat.le_of_ble_eq_true rfl | (dsimp only; omega) | omega, by first | exact Nat.le_of_ble_eq_true rfl | (dsimp only; omega) | omega⟩ hK hE hw hA rfl f39_mo rfl hl.1 (Nat.le_of_ble_eq_true rfl) d_M_readField_22 ⟨by first | exact Nat.le_of_ble_eq_true rfl | (dsimp only; omega) | omega, by first | exact Nat.le_of_ble_eq_true rfl | (dsimp only; omega) | omega⟩ rfl (fun r9 h9 H locs hp hw => ?_)
      by_cases tw22 : (il : Int32) = -1 ∧ iW t n (sk t n p) 1 = true
      · -- word True
        rw [if_pos tw22] at hp
        have wq22 := we_le (t := t) (n := n) (p := sk t n p) (by omega)
        obtain ⟨r8, hh41⟩ := hp
        subst r8
        obtain ⟨h41, e8⟩ : ∃ x9, x9 = h9 := ⟨_, rfl⟩
        subst e8
        have f41_mo : h41 mo = some ((20, 0), .inr (11, mF ma cod tpd (nI n) fls cls9 (nI S.1) (nI (cc S)) nds sai ous (nI (we t n (sk t n p))) il)) := by rw [← hh41]; exact z_put_eq
        have f41_ma_1 : h41 (ma 1) = some ((22, 0), .inl (g.2.1 1, 4000, .inl f)) := by rw [← hh41]; exact z_keep f39_mo f39_ma_1 (z_t1 (by decide))
        have f41_ma_3 : h41 (ma 3) = some ((25, 0), .inl (g.2.1 5, 6, .inr (.inr (.inr (.inr (fun k => some (fw k))))))) := by rw [← hh41]; exact z_keep f39_mo f39_ma_3 (z_t1 (by decide))
        have f41_fw_0 : h41 (fw 0) = some ((26, 0), .inl (g.2.1 1, 128, .inl (rf 0))) := by rw [← hh41]; exact z_keep f39_mo f39_fw_0 (z_t1 (by decide))
        have f41_fw_1 : h41 (fw 1) = some ((26, 1), .inl (g.2.1 1, 128, .inl (rf 1))) := by rw [← hh41]; exact z_keep f39_mo f39_fw_1 (z_t1 (by decide))
        have f41_fw_2 : h41 (fw 2) = some ((26, 2), .inl (g.2.1 1, 128, .inl (rf 2))) := by rw [← hh41]; exact z_keep f39_mo f39_fw_2 (z_t1 (by decide))
        have f41_fw_3 : h41 (fw 3) = some ((26, 3), .inl (g.2.1 1, 128, .inl (rf 3))) := by rw [← hh41]; exact z_keep f39_mo f39_fw_3 (z_t1 (by decide))
        have f41_fw_4 : h41 (fw 4) = some ((26, 4), .inl (g.2.1 1, 128, .inl (rf 4))) := by rw [← hh41]; exact z_keep f39_mo f39_fw_4 (z_t1 (by decide))
        have f41_fw_5 : h41 (fw 5) = some ((26, 5), .inl (g.2.1 1, 128, .inl (rf 5))) := by rw [← hh41]; exact z_keep f39_mo f39_fw_5 (z_t1 (by decide))
        have f41_ma_5 : h41 (ma 5) = some ((28, 0), .inl (g.2.1 1, 2048, .inl lf)) := by rw [← hh41]; exact z_keep f39_mo f39_ma_5 (z_t1 (by decide))
        have kk41 : z_K (fun y => y = 20 ∨ y = 26 ∨ y = 28) h h41 := kk39.tr (by rw [← hh41]; exact z_K.put f39_mo (by first | decide | simp | omega))
        refine W.eq (g2 := F0 m 25 ls [.int 1]) rfl ?_
        refine lv_if_eq (tgt := 32) hx hb d_M_readField_25 (by decide) (fun c_25 => ?_) (fun c_25 => ?_)
        · -- 25: True
          exact absurd c_25 (by decide)
        · -- 25: False
          refine lv_iconst (v := 1) hx hb d_M_readField_28 (by decide) ?_
          refine lv_goto (tgt := 47) hx hb d_M_readField_29 (by decide) ?_
          refine lv_istore_n (lv' := [(3, .int 1), (0, .ref mo), (1, .int gr), (2, .int (nI d))]) hx hb d_M_readField_47 rfl hl (by decide) rfl (fun ls hl => ?_)
          refine lv_iload_n hx hb d_M_readField_48 rfl (lv_at hl 0 rfl) ?_
          refine lv_iconst (v := (-1)) hx hb d_M_readField_49 (by decide) ?_
          refine lv_icmp_ne (tgt := 61) hx hb d_M_readField_50 (by decide) (fun c_50 => ?_) (fun c_50 => ?_)
          · -- 50: True
            exact loop_61 (0 + 1) 1 (we t n (sk t n p)) il h41 _ _ _ f41_mo f41_ma_1 f41_ma_3 f41_fw_0 f41_fw_1 f41_fw_2 f41_fw_3 f41_fw_4 f41_fw_5 f41_ma_5 (by omega) kk41 (Or.inr ⟨tw22.1, tw22.1, by rw [eX]; exact fld_k1 (fun z => tw8 ⟨tw22.1, z⟩) tw22.2⟩) (by omega) hw (lv_sub hl [1, 2, 3, 0] rfl)
          · -- 50: False
            exact absurd c_50 (by decide)
      · -- word False
        rw [if_neg tw22] at hp
        obtain ⟨r8, h8⟩ := hp
        subst r8
        subst h8
        refine W.eq (g2 := F0 m 25 ls [.int 0]) rfl ?_
        refine lv_if_eq (tgt := 32) hx hb d_M_readField_25 (by decide) (fun c_25 => ?_) (fun c_25 => ?_)
        · -- 25: True
          refine lv_aload_n hx hb d_M_readField_32 rfl (lv_at hl 0 rfl) ?_
          refine lv_ldc2 hx hb hown (hts _ (z_in k_910 rfl)) d_M_readField_33 ?_
          refine z_callV (n := 1) (As := [.long 8243118273700586852]) (rest := []) ⟨hx, hb, hml, hown, hts⟩ (m_takesWord (t := t) (i9 := 2) l g h39 f39_mo f39_ma_1 hn hf (by omega) (by decide)) (z_in k_894 rfl) (z_in k_7 rfl) (z_in k_891 rfl) (z_in k_893 rfl) (z_in ks_29 rfl) (by decide +kernel) ⟨by first | exact Nat.le_of_ble_eq_true rfl | (dsimp only; omega) | omega, by first | exact Nat.le_of_ble_eq_true rfl | (dsimp only; omega) | omega⟩ hK hE hw hA rfl f39_mo rfl hl.1 (Nat.le_of_ble_eq_true rfl) d_M_readField_36 ⟨by first | exact Nat.le_of_ble_eq_true rfl | (dsimp only; omega) | omega, by first | exact Nat.le_of_ble_eq_true rfl | (dsimp only; omega) | omega⟩ rfl (fun r9 h9 H locs hp hw => ?_)
          by_cases tw36 : (il : Int32) = -1 ∧ iW t n (sk t n p) 2 = true
          · -- word True
            rw [if_pos tw36] at hp
            have wq36 := we_le (t := t) (n := n) (p := sk t n p) (by omega)
            obtain ⟨r8, hh42⟩ := hp
            subst r8
            obtain ⟨h42, e8⟩ : ∃ x9, x9 = h9 := ⟨_, rfl⟩
            subst e8
            have f42_mo : h42 mo = some ((20, 0), .inr (11, mF ma cod tpd (nI n) fls cls9 (nI S.1) (nI (cc S)) nds sai ous (nI (we t n (sk t n p))) il)) := by rw [← hh42]; exact z_put_eq
            have f42_ma_1 : h42 (ma 1) = some ((22, 0), .inl (g.2.1 1, 4000, .inl f)) := by rw [← hh42]; exact z_keep f39_mo f39_ma_1 (z_t1 (by decide))
            have f42_ma_3 : h42 (ma 3) = some ((25, 0), .inl (g.2.1 5, 6, .inr (.inr (.inr (.inr (fun k => some (fw k))))))) := by rw [← hh42]; exact z_keep f39_mo f39_ma_3 (z_t1 (by decide))
            have f42_fw_0 : h42 (fw 0) = some ((26, 0), .inl (g.2.1 1, 128, .inl (rf 0))) := by rw [← hh42]; exact z_keep f39_mo f39_fw_0 (z_t1 (by decide))
            have f42_fw_1 : h42 (fw 1) = some ((26, 1), .inl (g.2.1 1, 128, .inl (rf 1))) := by rw [← hh42]; exact z_keep f39_mo f39_fw_1 (z_t1 (by decide))
            have f42_fw_2 : h42 (fw 2) = some ((26, 2), .inl (g.2.1 1, 128, .inl (rf 2))) := by rw [← hh42]; exact z_keep f39_mo f39_fw_2 (z_t1 (by decide))
            have f42_fw_3 : h42 (fw 3) = some ((26, 3), .inl (g.2.1 1, 128, .inl (rf 3))) := by rw [← hh42]; exact z_keep f39_mo f39_fw_3 (z_t1 (by decide))
            have f42_fw_4 : h42 (fw 4) = some ((26, 4), .inl (g.2.1 1, 128, .inl (rf 4))) := by rw [← hh42]; exact z_keep f39_mo f39_fw_4 (z_t1 (by decide))
            have f42_fw_5 : h42 (fw 5) = some ((26, 5), .inl (g.2.1 1, 128, .inl (rf 5))) := by rw [← hh42]; exact z_keep f39_mo f39_fw_5 (z_t1 (by decide))
            have f42_ma_5 : h42 (ma 5) = some ((28, 0), .inl (g.2.1 1, 2048, .inl lf)) := by rw [← hh42]; exact z_keep f39_mo f39_ma_5 (z_t1 (by decide))
            have kk42 : z_K (fun y => y = 20 ∨ y = 26 ∨ y = 28) h h42 := kk39.tr (by rw [← hh42]; exact z_K.put f39_mo (by first | decide | simp | omega))
            refine W.eq (g2 := F0 m 39 ls [.int 1]) rfl ?_
            refine lv_if_eq (tgt := 46) hx hb d_M_readField_39 (by decide) (fun c_39 => ?_) (fun c_39 => ?_)
            · -- 39: True
              exact absurd c_39 (by decide)
            · -- 39: False
              refine lv_iconst (v := 2) hx hb d_M_readField_42 (by decide) ?_
              refine lv_goto (tgt := 47) hx hb d_M_readField_43 (by decide) ?_
              refine lv_istore_n (lv' := [(3, .int 2), (0, .ref mo), (1, .int gr), (2, .int (nI d))]) hx hb d_M_readField_47 rfl hl (by decide) rfl (fun ls hl => ?_)
              refine lv_iload_n hx hb d_M_readField_48 rfl (lv_at hl 0 rfl) ?_
              refine lv_iconst (v := (-1)) hx hb d_M_readField_49 (by decide) ?_
              refine lv_icmp_ne (tgt := 61) hx hb d_M_readField_50 (by decide) (fun c_50 => ?_) (fun c_50 => ?_)
              · -- 50: True
                exact loop_61 (0 + 1) 2 (we t n (sk t n p)) il h42 _ _ _ f42_mo f42_ma_1 f42_ma_3 f42_fw_0 f42_fw_1 f42_fw_2 f42_fw_3 f42_fw_4 f42_fw_5 f42_ma_5 (by omega) kk42 (Or.inr ⟨tw36.1, tw36.1, by rw [eX]; exact fld_k2 (fun z => tw8 ⟨tw36.1, z⟩) (fun z => tw22 ⟨tw36.1, z⟩) tw36.2⟩) (by omega) hw (lv_sub hl [1, 2, 3, 0] rfl)
              · -- 50: False
                exact absurd c_50 (by decide)
          · -- word False
            rw [if_neg tw36] at hp
            obtain ⟨r8, h8⟩ := hp
            subst r8
            subst h8
            refine W.eq (g2 := F0 m 39 ls [.int 0]) rfl ?_
            refine lv_if_eq (tgt := 46) hx hb d_M_readField_39 (by decide) (fun c_39 => ?_) (fun c_39 => ?_)
            · -- 39: True
              refine lv_iconst (v := (-1)) hx hb d_M_readField_46 (by decide) ?_
              refine lv_istore_n (lv' := [(3, .int (-1)), (0, .ref mo), (1, .int gr), (2, .int (nI d))]) hx hb d_M_readField_47 rfl hl (by decide) rfl (fun ls hl => ?_)
              refine lv_iload_n hx hb d_M_readField_48 rfl (lv_at hl 0 rfl) ?_
              refine lv_iconst (v := (-1)) hx hb d_M_readField_49 (by decide) ?_
              refine lv_icmp_ne (tgt := 61) hx hb d_M_readField_50 (by decide) (fun c_50 => ?_) (fun c_50 => ?_)
              · -- 50: True
                exact absurd (by decide) c_50
              · -- 50: False
                by_cases z53 : (il : Int32) = -1
                · -- no fault yet True
                  have fi43 : h39 mo = some ((20, 0), .inr (11, mF ma cod tpd (nI n) fls cls9 (nI S.1) (nI (cc S)) nds sai ous (nI (sk t n p)) (-1))) := by have z9 := f39_mo; rw [z53] at z9; exact z9
                  refine lv_aload_n hx hb d_M_readField_53 rfl (lv_at hl 1 rfl) ?_
                  refine lv_aload_n hx hb d_M_readField_54 rfl (lv_at hl 1 rfl) ?_
                  refine z_get hx hb hts (z_lay i_M) hown hK hw fi43 rfl 29 (by decide) (z_in k_800 rfl) (fun _ h9 => h9) rfl d_M_readField_55 ?_
                  refine z_callV (n := 1) (As := [.int (nI (sk t n p))]) (rest := []) ⟨hx, hb, hml, hown, hts⟩ (m_fail l g h39 fi43) (z_in k_914 rfl) (z_in k_7 rfl) (z_in k_911 rfl) (z_in k_913 rfl) (z_in ks_32 rfl) (by decide +kernel) ⟨by first | exact Nat.le_of_ble_eq_true rfl | (dsimp only; omega) | omega, by first | exact Nat.le_of_ble_eq_true rfl | (dsimp only; omega) | omega⟩ hK hE hw hA rfl fi43 rfl hl.1 (Nat.le_of_ble_eq_true rfl) d_M_readField_58 ⟨by first | exact Nat.le_of_ble_eq_true rfl | (dsimp only; omega) | omega, by first | exact Nat.le_of_ble_eq_true rfl | (dsimp only; omega) | omega⟩ rfl (fun r9 h9 H locs hp hw => ?_)
                  obtain ⟨r8, hh44⟩ := hp
                  subst r8
                  obtain ⟨h44, e8⟩ : ∃ x9, x9 = h9 := ⟨_, rfl⟩
                  subst e8
                  have f44_mo : h44 mo = some ((20, 0), .inr (11, mF ma cod tpd (nI n) fls cls9 (nI S.1) (nI (cc S)) nds sai ous (nI (sk t n p)) (nI (sk t n p)))) := by rw [← hh44]; exact z_put_eq
                  have f44_ma_1 : h44 (ma 1) = some ((22, 0), .inl (g.2.1 1, 4000, .inl f)) := by rw [← hh44]; exact z_keep fi43 f39_ma_1 (z_t1 (by decide))
                  have f44_ma_3 : h44 (ma 3) = some ((25, 0), .inl (g.2.1 5, 6, .inr (.inr (.inr (.inr (fun k => some (fw k))))))) := by rw [← hh44]; exact z_keep fi43 f39_ma_3 (z_t1 (by decide))
                  have f44_fw_0 : h44 (fw 0) = some ((26, 0), .inl (g.2.1 1, 128, .inl (rf 0))) := by rw [← hh44]; exact z_keep fi43 f39_fw_0 (z_t1 (by decide))
                  have f44_fw_1 : h44 (fw 1) = some ((26, 1), .inl (g.2.1 1, 128, .inl (rf 1))) := by rw [← hh44]; exact z_keep fi43 f39_fw_1 (z_t1 (by decide))
                  have f44_fw_2 : h44 (fw 2) = some ((26, 2), .inl (g.2.1 1, 128, .inl (rf 2))) := by rw [← hh44]; exact z_keep fi43 f39_fw_2 (z_t1 (by decide))
                  have f44_fw_3 : h44 (fw 3) = some ((26, 3), .inl (g.2.1 1, 128, .inl (rf 3))) := by rw [← hh44]; exact z_keep fi43 f39_fw_3 (z_t1 (by decide))
                  have f44_fw_4 : h44 (fw 4) = some ((26, 4), .inl (g.2.1 1, 128, .inl (rf 4))) := by rw [← hh44]; exact z_keep fi43 f39_fw_4 (z_t1 (by decide))
                  have f44_fw_5 : h44 (fw 5) = some ((26, 5), .inl (g.2.1 1, 128, .inl (rf 5))) := by rw [← hh44]; exact z_keep fi43 f39_fw_5 (z_t1 (by decide))
                  have f44_ma_5 : h44 (ma 5) = some ((28, 0), .inl (g.2.1 1, 2048, .inl lf)) := by rw [← hh44]; exact z_keep fi43 f39_ma_5 (z_t1 (by decide))
                  have kk44 : z_K (fun y => y = 20 ∨ y = 26 ∨ y = 28) h h44 := kk39.tr (by rw [← hh44]; exact z_K.put fi43 (by first | decide | simp | omega))
                  refine W.eq (g2 := F0 m 61 ls []) rfl ?_
                  exact loop_61 (0 + 1) (-1) (sk t n p) (nI (sk t n p)) h44 _ _ _ f44_mo f44_ma_1 f44_ma_3 f44_fw_0 f44_fw_1 f44_fw_2 f44_fw_3 f44_fw_4 f44_fw_5 f44_ma_5 (by omega) kk44 (Or.inl ⟨nI_ne1 (by omega), by rw [z53, eX, fld_kn (fun z => tw8 ⟨z53, z⟩) (fun z => tw22 ⟨z53, z⟩) (fun z => tw36 ⟨z53, z⟩)]; exact resI_no⟩) (by omega) hw (lv_sub hl [1, 2, 3, 0] rfl)
                · -- no fault yet False
                  refine lv_aload_n hx hb d_M_readField_53 rfl (lv_at hl 1 rfl) ?_
                  refine lv_aload_n hx hb d_M_readField_54 rfl (lv_at hl 1 rfl) ?_
                  refine z_get hx hb hts (z_lay i_M) hown hK hw f39_mo rfl 29 (by decide) (z_in k_800 rfl) (fun _ h9 => h9) rfl d_M_readField_55 ?_
                  refine z_callV (n := 1) (As := [.int (nI (sk t n p))]) (rest := []) ⟨hx, hb, hml, hown, hts⟩ (m_fail_no l g h39 f39_mo z53) (z_in k_914 rfl) (z_in k_7 rfl) (z_in k_911 rfl) (z_in k_913 rfl) (z_in ks_32 rfl) (by decide +kernel) ⟨by first | exact Nat.le_of_ble_eq_true rfl | (dsimp only; omega) | omega, by first | exact Nat.le_of_ble_eq_true rfl | (dsimp only; omega) | omega⟩ hK hE hw hA rfl f39_mo rfl hl.1 (Nat.le_of_ble_eq_true rfl) d_M_readField_58 ⟨by first | exact Nat.le_of_ble_eq_true rfl | (dsimp only; omega) | omega, by first | exact Nat.le_of_ble_eq_true rfl | (dsimp only; omega) | omega⟩ rfl (fun r9 h9 H locs hp hw => ?_)
                  obtain ⟨r8, h8⟩ := hp
                  subst r8
                  subst h8
                  refine W.eq (g2 := F0 m 61 ls []) rfl ?_
                  exact loop_61 (0 + 1) (-1) (sk t n p) il h39 _ _ _ f39_mo f39_ma_1 f39_ma_3 f39_fw_0 f39_fw_1 f39_fw_2 f39_fw_3 f39_fw_4 f39_fw_5 f39_ma_5 (by omega) kk39 (Or.inl ⟨z53, resI_ill z53⟩) (by omega) hw (lv_sub hl [1, 2, 3, 0] rfl)
            · -- 39: False
              exact absurd (by decide) c_39
        · -- 25: False
          exact absurd (by decide) c_25
    · -- 11: False
      exact absurd (by decide) c_11

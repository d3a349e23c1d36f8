def sgnR (t : Nat → Nat) (n : Nat) (c : Int32) (p : Nat) (R : Rec) : RRes := if bt t n (sk t n p) = c then .inr (sk t n p + 1, R) else .inl (sk t n p, R)
/-- values between commas, up to ] -/
def rowL (V : Nat → Rec → RRes) (t : Nat → Nat) (n : Nat) : Nat → Nat → Rec → RRes
  | 0, p, R => sgnR t n 93 p R
  | c + 1, p, R => match V p R with
    | .inl x => .inl x
    | .inr y => if bt t n (sk t n y.1) = 44 then rowL V t n c (sk t n y.1 + 1) y.2 else sgnR t n 93 (sk t n y.1) y.2
/-- what a field's name is followed by -/
def fldR (V : Nat → Rec → RRes) (S : Sch) (t : Nat → Nat) (n fi p : Nat) (R : Rec) : RRes :=
  if fKi (S.2 fi) = 2 then
    if bt t n (sk t n p) = 91 then
      if bt t n (sk t n (sk t n p + 1)) = 93 then sgnR t n 93 (sk t n (sk t n p + 1)) R else rowL V t n 4001 (sk t n (sk t n p + 1)) R
    else .inl (sk t n p, R)
  else V p R
theorem rmono.rf {R : Rec} {X : RRes} (h : rrR X = R) : rmono R X := by unfold rmono; rw [h]; exact ⟨Nat.le_refl _, Nat.le_refl _⟩
theorem sgnR_mono (t : Nat → Nat) (n : Nat) (c : Int32) (p : Nat) (R : Rec) : rmono R (sgnR t n c p R) := by
  unfold sgnR
  split
  · exact rmono.rf rfl
  · exact rmono.rf rfl
theorem rmono.tr {R : Rec} {X Y : RRes} (h : rmono R X) (h2 : rmono (rrR X) Y) : rmono R Y := ⟨Nat.le_trans h.1 h2.1, Nat.le_trans h.2 h2.2⟩
theorem rowL_mono {V : Nat → Rec → RRes} {t : Nat → Nat} {n : Nat} (hV : ∀ p R, rmono R (V p R)) : ∀ c p R, rmono R (rowL V t n c p R) := by
  intro c
  induction c with
  | zero => intro p R; exact sgnR_mono _ _ _ _ _
  | succ c ih =>
    intro p R
    simp only [rowL]
    have h := hV p R
    generalize V p R = X at h
    cases X with
    | inl x => exact h
    | inr y =>
      dsimp only
      split
      · exact rmono.tr h (ih _ _)
      · exact rmono.tr h (sgnR_mono _ _ _ _ _)
theorem rowL_mid {V : Nat → Rec → RRes} {t : Nat → Nat} {n : Nat} (hV : ∀ p R, rmono R (V p R)) (c p : Nat) (R : Rec) : rmono (rrR (V p R)) (rowL V t n (c + 1) p R) := by
  simp only [rowL]
  generalize V p R = X
  cases X with
  | inl x => exact rmono.rf rfl
  | inr y =>
    dsimp only
    split
    · exact rowL_mono hV _ _ _
    · exact sgnR_mono _ _ _ _ _
theorem fldR_mono {V : Nat → Rec → RRes} {S : Sch} {t : Nat → Nat} {n fi p : Nat} {R : Rec} (hV : ∀ p R, rmono R (V p R)) : rmono R (fldR V S t n fi p R) := by
  unfold fldR
  split
  · split
    · split
      · exact sgnR_mono _ _ _ _ _
      · exact rowL_mono hV _ _ _
    · exact rmono.rf rfl
  · exact hV _ _

set_option maxHeartbeats 4000000 in
set_option maxRecDepth 100000 in
theorem c_rreadField_of (l : Launch) (g : z_G) (h : z_H) {r q : Nat} {S : Sch} {fa9 ca : Nat} {adS na : Nat → Nat} {ff : Nat → Option Nat} {cf : Nat → Int32} {nf : Nat → Nat → Int32} {rd sc mr w tr b len n p pi fi d fM lM : Nat} {f : Nat → Int32} {fa ws wd : Int32} {nu9 : Int64} {t : Nat → Nat} {R : Rec} {VR : Nat → Rec → RRes} (hrd : h rd = some ((8, 0), .inr (9, [.ref sc, .ref q, .ref w, .ref tr, .long nu9]))) (hsc : h sc = some ((6, 0), .inr (7, [.ref b, .int (nI n), .int (nI p), .int fa, .int ws, .int wd]))) (hb0 : h b = some ((3, 0), .inl (g.2.1 0, len, .inl f))) (hS : SchP g h r q S fa9 ca adS na ff cf nf) (hn : n ≤ len) (hlen : len < 2 ^ 31) (hf : ∀ k, k < n → t k < 256 ∧ f k = sb_b (t k)) (hp : p ≤ n) (hl29 : len < 2 ^ 29) (hn4 : n ≤ 4000) (hm : mr < 60) (hm2 : 12 ≤ mr) (hr0 : 100 ≤ r) (hTR : trAt g h tr []) (hNA : NdAt g h mr w S R) (hpa : paOK R) (hpi9 : pi < R.1) (hfi9 : fi < S.1) (hc2 : 2 * R.1 + 1 ≤ p) (htb0 : tbR R ≤ p) (hd9 : d < 1000) (hV : ∀ (h : z_H) (p : Nat) (R : Rec) (fa ws wd : Int32) (nu9 : Int64), SchP g h r q S fa9 ca adS na ff cf nf → h rd = some ((8, 0), .inr (9, [.ref sc, .ref q, .ref w, .ref tr, .long nu9])) → h sc = some ((6, 0), scE b n p fa ws wd) → h b = some ((3, 0), .inl (g.2.1 0, len, .inl f)) → trAt g h tr [] → NdAt g h mr w S R → paOK R → p ≤ n → pi < R.1 → 2 * R.1 + 1 ≤ p → tbR R ≤ p → z_C l y_RecordReader_readValue prog_6_method_5_code 6 (Option.some Jvm.ClassFile.FieldType.boolean) fM lM (2 * ((rrR (VR p R)).1 - R.1)) (7 * ((rrR (VR p R)).1 - R.1) + (tbR (rrR (VR p R)) - tbR R)) g [.ref rd, .ref (adS fi), .int (nI pi), .int (nI d)] h (vlP g (VR p R) h mr w S rd sc q tr b n)) (hVo : ∀ p R, rmono R (VR p R)) : z_C l y_RecordReader_readField prog_6_method_4_code 6 (Option.some Jvm.ClassFile.FieldType.boolean) (fM + 4) (lM + 100) (2 * ((rrR (fldR VR S t n fi p R)).1 - R.1)) (7 * ((rrR (fldR VR S t n fi p R)).1 - R.1) + (tbR (rrR (fldR VR S t n fi p R)) - tbR R)) g [.ref rd, .ref (adS fi), .int (nI pi), .int (nI d)] h (vlP g (fldR VR S t n fi p R) h mr w S rd sc q tr b n) := by
  refine z_C.of (by decide) (Nat.le_of_ble_eq_true rfl) (fun pg en s m below meth cd A ls hx hb hml hr hts hown hlocks hnm hK hE hA hw hl => ?_)
  have hl : lv_has ls 6 [(0, .ref rd), (1, .ref (adS fi)), (2, .int (nI pi)), (3, .int (nI d))] := hl
  have sk1 := sk_le (t := t) hp
  have sk2 := sk_ge t n p
  have hfdc := (hS.2.2.2.1 fi hfi9).2
  have hs8 : S.1 ≤ 128 := hS.2.2.2.2.2.2.2.1
  have k6z : z_K (fun y => y = 6) h h := z_K.rf
  have rOK : rmono R (fldR VR S t n fi p R) := fldR_mono hVo
  have rOK1 : R.1 ≤ (rrR (fldR VR S t n fi p R)).1 := rOK.1
  have rOK2 : tbR R ≤ tbR (rrR (fldR VR S t n fi p R)) := rOK.2
  have kk0 : z_K (fun y => y = 6 ∨ y = 8 ∨ y = 10 ∨ y = mr ∨ y = mr + 1) h h := z_K.rf
  refine lv_aload_n hx hb d_RecordReader_readField_0 rfl (lv_at hl 1 rfl) ?_
  refine z_getN hx hb hts (z_lay i_Field) hown hK hw hfdc rfl 1 (by decide) hE.nest (z_inN k_406 rfl) (fun _ h9 => h9) rfl d_RecordReader_readField_1 ?_
  refine lv_iconst (v := 2) hx hb d_RecordReader_readField_4 (by decide) ?_
  refine lv_icmp_eq (tgt := 16) hx hb d_RecordReader_readField_5 (by decide) (fun c_5 => ?_) (fun c_5 => ?_)
  · -- 5: True
    refine lv_aload_n hx hb d_RecordReader_readField_16 rfl (lv_at hl 0 rfl) ?_
    refine z_get hx hb hts (z_lay i_RecordReader) hown hK hw hrd rfl 0 (by decide) (z_in k_502 rfl) (fun _ h9 => h9) rfl d_RecordReader_readField_17 ?_
    refine lv_bipush (v := 91) hx hb d_RecordReader_readField_20 (by decide) ?_
    refine z_callV (n := 1) (As := [.int 91]) (rest := []) ⟨hx, hb, hml, hown, hts⟩ (c_Scanner_takeSign (t := t) l g h hsc hb0 hn hlen hf (by omega)) (z_in k_456 rfl) (z_in k_8 rfl) (z_in k_523 rfl) (z_in k_454 rfl) (z_in k_455 rfl) (by decide +kernel) ⟨by first | exact Nat.le_of_ble_eq_true rfl | (dsimp only; omega) | omega, by first | exact Nat.le_of_ble_eq_true rfl | (dsimp only; omega) | omega⟩ hK hE hw hA rfl hsc rfl hl.1 (Nat.le_of_ble_eq_true rfl) d_RecordReader_readField_22 ⟨by first | exact Nat.le_of_ble_eq_true rfl | (dsimp only; omega) | omega, by first | exact Nat.le_of_ble_eq_true rfl | (dsimp only; omega) | omega⟩ rfl (fun r9 h9 H locs hp hw => ?_)
    unfold tSg at hp
    by_cases ts1 : bt t n (sk t n p) = 91
    · -- ts1 True
      rw [if_pos ts1] at hp
      obtain ⟨r8, hh1⟩ := hp
      subst r8
      obtain ⟨h1, e8⟩ : ∃ x9, x9 = h9 := ⟨_, rfl⟩
      subst e8
      have f1_rd : h1 rd = some ((8, 0), .inr (9, [.ref sc, .ref q, .ref w, .ref tr, .long nu9])) := by rw [← hh1]; exact z_keep hsc hrd (z_t1 (by decide))
      have f1_sc : h1 sc = some ((6, 0), .inr (7, [.ref b, .int (nI n), .int (nI (sk t n p + 1)), .int fa, .int ws, .int wd])) := by rw [← hh1]; exact z_put_eq
      have f1_b : h1 b = some ((3, 0), .inl (g.2.1 0, len, .inl f)) := by rw [← hh1]; exact z_keep hsc hb0 (z_t1 (by decide))
      have f1_adS_fi : h1 (adS fi) = some ((r + 1, fi), .inr (4, [.int (nI fi), .int (fKi (S.2 fi)), .int (fTy (S.2 fi)), .int (fGr (S.2 fi)), .ref (na fi), .int (fCo (S.2 fi)), .int (fRe (S.2 fi)), .int (fDe (S.2 fi)), .int (nI (rq S (nI fi)))])) := by rw [← hh1]; exact z_keep hsc hfdc (by first | decide | (refine z_t1 ?_; omega) | (refine z_t2 ?_; omega))
      have k61 : z_K (fun y => y = 6) h h1 := k6z.tr (by rw [← hh1]; exact z_K.put hsc rfl)
      have kk1 : z_K (fun y => y = 6 ∨ y = 8 ∨ y = 10 ∨ y = mr ∨ y = mr + 1) h h1 := kk0.tr (by rw [← hh1]; exact z_K.put hsc (by first | decide | simp | omega))
      refine W.eq (g2 := F0 m 25 ls [.int 1]) rfl ?_
      refine lv_if_ne (tgt := 30) hx hb d_RecordReader_readField_25 (by decide) (fun c_25 => ?_) (fun c_25 => ?_)
      · -- 25: True
        have lt91 := bt_lt ts1
        have skq := sk_le (t := t) (show sk t n p + 1 ≤ n by omega)
        have skq2 := sk_ge t n (sk t n p + 1)
        refine lv_aload_n hx hb d_RecordReader_readField_30 rfl (lv_at hl 0 rfl) ?_
        refine z_get hx hb hts (z_lay i_RecordReader) hown hK hw f1_rd rfl 0 (by decide) (z_in k_502 rfl) (fun _ h9 => h9) rfl d_RecordReader_readField_31 ?_
        refine z_callV (n := 0) (As := []) (rest := []) ⟨hx, hb, hml, hown, hts⟩ (c_Scanner_next l g h1 f1_sc f1_b hn hlen hf (by omega)) (z_in k_234 rfl) (z_in k_8 rfl) (z_in k_524 rfl) (z_in k_232 rfl) (z_in k_233 rfl) (by decide +kernel) ⟨by first | exact Nat.le_of_ble_eq_true rfl | (dsimp only; omega) | omega, by first | exact Nat.le_of_ble_eq_true rfl | (dsimp only; omega) | omega⟩ hK hE hw hA rfl f1_sc rfl hl.1 (Nat.le_of_ble_eq_true rfl) d_RecordReader_readField_34 ⟨by first | exact Nat.le_of_ble_eq_true rfl | (dsimp only; omega) | omega, by first | exact Nat.le_of_ble_eq_true rfl | (dsimp only; omega) | omega⟩ rfl (fun r9 h9 H locs hp hw => ?_)
        obtain ⟨r8, hh2⟩ := hp
        subst r8
        obtain ⟨h2, e8⟩ : ∃ x9, x9 = h9 := ⟨_, rfl⟩
        subst e8
        have f2_rd : h2 rd = some ((8, 0), .inr (9, [.ref sc, .ref q, .ref w, .ref tr, .long nu9])) := by rw [← hh2]; exact z_keep f1_sc f1_rd (z_t1 (by decide))
        have f2_sc : h2 sc = some ((6, 0), .inr (7, [.ref b, .int (nI n), .int (nI (sk t n (sk t n p + 1))), .int fa, .int ws, .int wd])) := by rw [← hh2]; exact z_put_eq
        have f2_b : h2 b = some ((3, 0), .inl (g.2.1 0, len, .inl f)) := by rw [← hh2]; exact z_keep f1_sc f1_b (z_t1 (by decide))
        have f2_adS_fi : h2 (adS fi) = some ((r + 1, fi), .inr (4, [.int (nI fi), .int (fKi (S.2 fi)), .int (fTy (S.2 fi)), .int (fGr (S.2 fi)), .ref (na fi), .int (fCo (S.2 fi)), .int (fRe (S.2 fi)), .int (fDe (S.2 fi)), .int (nI (rq S (nI fi)))])) := by rw [← hh2]; exact z_keep f1_sc f1_adS_fi (by first | decide | (refine z_t1 ?_; omega) | (refine z_t2 ?_; omega))
        have k62 : z_K (fun y => y = 6) h h2 := k61.tr (by rw [← hh2]; exact z_K.put f1_sc rfl)
        have kk2 : z_K (fun y => y = 6 ∨ y = 8 ∨ y = 10 ∨ y = mr ∨ y = mr + 1) h h2 := kk1.tr (by rw [← hh2]; exact z_K.put f1_sc (by first | decide | simp | omega))
        refine W.eq (g2 := F0 m 37 ls [.int (bt t n (sk t n (sk t n p + 1)))]) rfl ?_
        refine lv_bipush (v := 93) hx hb d_RecordReader_readField_37 (by decide) ?_
        refine lv_icmp_eq (tgt := 46) hx hb d_RecordReader_readField_39 (by decide) (fun c_39 => ?_) (fun c_39 => ?_)
        · -- 39: True
          refine lv_iconst (v := 0) hx hb d_RecordReader_readField_46 (by decide) ?_
          refine lv_istore (lv' := [(4, .int 0), (0, .ref rd), (1, .ref (adS fi)), (2, .int (nI pi)), (3, .int (nI d))]) hx hb d_RecordReader_readField_47 hl (by decide) rfl (fun ls hl => ?_)
          refine lv_iconst (v := 0) hx hb d_RecordReader_readField_49 (by decide) ?_
          refine lv_istore (lv' := [(5, .int 0), (4, .int 0), (0, .ref rd), (1, .ref (adS fi)), (2, .int (nI pi)), (3, .int (nI d))]) hx hb d_RecordReader_readField_50 hl (by decide) rfl (fun ls hl => ?_)
          have loop_52 : ∀ (fuel : Nat) (k1 : Nat) (m1 : Bool) (p1 : Nat) (R1 : Rec) (nu1 : Int64) (fa1 : Int32) (ws1 : Int32) (wd1 : Int32) (hL : z_H) (H : Heap) (locs : List Loc) (ls : Array Slot) (L52_rd : hL rd = some ((8, 0), .inr (9, [.ref sc, .ref q, .ref w, .ref tr, .long nu1]))) (L52_sc : hL sc = some ((6, 0), .inr (7, [.ref b, .int (nI n), .int (nI p1), .int fa1, .int ws1, .int wd1]))) (L52_b : hL b = some ((3, 0), .inl (g.2.1 0, len, .inl f))) (kkL : z_K (fun y => y = 6 ∨ y = 8 ∨ y = 10 ∨ y = mr ∨ y = mr + 1) h hL) (nA1 : NdAt g hL mr w S R1) (tA1 : trAt g hL tr []) (pA1 : paOK R1) (le1 : p1 ≤ n ∧ R.1 ≤ R1.1 ∧ tbR R ≤ tbR R1 ∧ k1 ≤ 4001 ∧ R1.1 ≤ (rrR (fldR VR S t n fi p R)).1 ∧ tbR R1 ≤ tbR (rrR (fldR VR S t n fi p R)) ∧ 2 * R1.1 ≤ p1 ∧ tbR R1 ≤ p1 ∧ (m1 = true → 2 * R1.1 + 1 ≤ p1)) (hR1 : (if m1 = true then rowL VR t n (4001 - k1) p1 R1 else sgnR t n 93 p1 R1) = fldR VR S t n fi p R), (4002 - k1) < fuel → z_S g A s.heap hL H locs → lv_has ls 6 [(0, .ref rd), (1, .ref (adS fi)), (2, .int (nI pi)), (3, .int (nI d)), (4, .int (zb m1)), (5, .int (nI k1))] → W pg l en { frames := fM + 4, cells := 2 * ((rrR (fldR VR S t n fi p R)).1 - R.1), slots := 7 * ((rrR (fldR VR S t n fi p R)).1 - R.1) + (tbR (rrR (fldR VR S t n fi p R)) - tbR R), locals := lM + 100 } s m [.ref rd, .ref (adS fi), .int (nI pi), .int (nI d)].toArray below meth cd H locs (2 * (R1.1 - R.1)) (7 * (R1.1 - R.1) + (tbR R1 - tbR R)) (MQ below (z_Q g A (vlP g (fldR VR S t n fi p R) h mr w S rd sc q tr b n)) [.ref rd, .ref (adS fi), .int (nI pi), .int (nI d)].toArray s (2 * ((rrR (fldR VR S t n fi p R)).1 - R.1)) (7 * ((rrR (fldR VR S t n fi p R)).1 - R.1) + (tbR (rrR (fldR VR S t n fi p R)) - tbR R)) A) (F0 m 52 ls []) := by
            intro fuel
            induction fuel with
            | zero => intro k1 m1 p1 R1 nu1 fa1 ws1 wd1 hL H locs ls L52_rd L52_sc L52_b kkL nA1 tA1 pA1 le1 hR1 hm; exact absurd hm (Nat.not_lt_zero _)
            | succ fuel ih_52 =>
              intro k1 m1 p1 R1 nu1 fa1 ws1 wd1 hL H locs ls L52_rd L52_sc L52_b kkL nA1 tA1 pA1 le1 hR1 hm hw hl
              have k6L : z_K (fun y => y = 6) hL hL := z_K.rf
              have skp1 := sk_le (t := t) le1.1
              have skp2 := sk_ge t n p1
              refine lv_iload hx hb d_RecordReader_readField_52 (lv_at hl 5 rfl) ?_
              refine lv_sipush (v := 4000) hx hb d_RecordReader_readField_54 (by decide) ?_
              refine lv_icmp_gt (tgt := 114) hx hb d_RecordReader_readField_57 (by decide) (fun c_57 => ?_) (fun c_57 => ?_)
              · -- 57: True
                have c_57 : 4000 < k1 := (nI_ltI (a := 4000) (b := k1) (by omega) (by omega)).mp c_57
                refine lv_aload_n hx hb d_RecordReader_readField_114 rfl (lv_at hl 0 rfl) ?_
                refine z_get hx hb hts (z_lay i_RecordReader) hown hK hw L52_rd rfl 0 (by decide) (z_in k_502 rfl) (fun _ h9 => h9) rfl d_RecordReader_readField_115 ?_
                refine lv_bipush (v := 93) hx hb d_RecordReader_readField_118 (by decide) ?_
                refine z_callV (n := 1) (As := [.int 93]) (rest := []) ⟨hx, hb, hml, hown, hts⟩ (c_Scanner_takeSign (t := t) l g hL L52_sc L52_b hn hlen hf (by omega)) (z_in k_456 rfl) (z_in k_8 rfl) (z_in k_523 rfl) (z_in k_454 rfl) (z_in k_455 rfl) (by decide +kernel) ⟨by first | exact Nat.le_of_ble_eq_true rfl | (dsimp only; omega) | omega, by first | exact Nat.le_of_ble_eq_true rfl | (dsimp only; omega) | omega⟩ hK hE hw hA rfl L52_sc rfl hl.1 (Nat.le_of_ble_eq_true rfl) d_RecordReader_readField_120 ⟨by first | exact Nat.le_of_ble_eq_true rfl | (dsimp only; omega) | omega, by first | exact Nat.le_of_ble_eq_true rfl | (dsimp only; omega) | omega⟩ rfl (fun r9 h9 H locs hp hw => ?_)
                unfold tSg at hp
                by_cases ts2 : bt t n (sk t n p1) = 93
                · -- ts2 True
                  rw [if_pos ts2] at hp
                  obtain ⟨r8, hh3⟩ := hp
                  subst r8
                  obtain ⟨h3, e8⟩ : ∃ x9, x9 = h9 := ⟨_, rfl⟩
                  subst e8
                  have f3_rd : h3 rd = some ((8, 0), .inr (9, [.ref sc, .ref q, .ref w, .ref tr, .long nu1])) := by rw [← hh3]; exact z_keep L52_sc L52_rd (z_t1 (by decide))
                  have f3_sc : h3 sc = some ((6, 0), .inr (7, [.ref b, .int (nI n), .int (nI (sk t n p1 + 1)), .int fa1, .int ws1, .int wd1])) := by rw [← hh3]; exact z_put_eq
                  have f3_b : h3 b = some ((3, 0), .inl (g.2.1 0, len, .inl f)) := by rw [← hh3]; exact z_keep L52_sc L52_b (z_t1 (by decide))
                  have k63 : z_K (fun y => y = 6) hL h3 := k6L.tr (by rw [← hh3]; exact z_K.put L52_sc rfl)
                  have kk3 : z_K (fun y => y = 6 ∨ y = 8 ∨ y = 10 ∨ y = mr ∨ y = mr + 1) h h3 := kkL.tr (by rw [← hh3]; exact z_K.put L52_sc (by first | decide | simp | omega))
                  refine W.eq (g2 := F0 m 123 ls [.int 1]) rfl ?_
                  have eW : fldR VR S t n fi p R = .inr (sk t n p1 + 1, R1) := by rw [← hR1, show 4001 - k1 = 0 by omega]; simp only [rowL, ite_self]; unfold sgnR; rw [if_pos ts2]
                  have eZ1 : (rrR (fldR VR S t n fi p R)).1 = R1.1 := by rw [eW]; rfl
                  have eZ2 : tbR (rrR (fldR VR S t n fi p R)) = tbR R1 := by rw [eW]; rfl
                  have lt93 := bt_lt ts2
                  exact z_zret hx hb hr rfl hlocks hw (by rw [eW]; exact ⟨kk3, ⟨_, f3_rd⟩, (tA1.k k63 (by omega)), (nA1.k k63 (by omega) (by omega) (by omega)), pA1, rfl, ⟨_, _, _, f3_sc⟩, by dsimp only; omega, by dsimp only; omega, by dsimp only; omega⟩) (by first | exact Nat.le_of_ble_eq_true rfl | (dsimp only; omega) | omega) (by first | exact Nat.le_of_ble_eq_true rfl | (dsimp only; omega) | omega) d_RecordReader_readField_123
                · -- ts2 False
                  rw [if_neg ts2] at hp
                  obtain ⟨r8, hh4⟩ := hp
                  subst r8
                  obtain ⟨h4, e8⟩ : ∃ x9, x9 = h9 := ⟨_, rfl⟩
                  subst e8
                  have f4_rd : h4 rd = some ((8, 0), .inr (9, [.ref sc, .ref q, .ref w, .ref tr, .long nu1])) := by rw [← hh4]; exact z_keep L52_sc L52_rd (z_t1 (by decide))
                  have f4_sc : h4 sc = some ((6, 0), .inr (7, [.ref b, .int (nI n), .int (nI (sk t n p1)), .int (nI (sk t n p1)), .int ws1, .int wd1])) := by rw [← hh4]; exact z_put_eq
                  have f4_b : h4 b = some ((3, 0), .inl (g.2.1 0, len, .inl f)) := by rw [← hh4]; exact z_keep L52_sc L52_b (z_t1 (by decide))
                  have k64 : z_K (fun y => y = 6) hL h4 := k6L.tr (by rw [← hh4]; exact z_K.put L52_sc rfl)
                  have kk4 : z_K (fun y => y = 6 ∨ y = 8 ∨ y = 10 ∨ y = mr ∨ y = mr + 1) h h4 := kkL.tr (by rw [← hh4]; exact z_K.put L52_sc (by first | decide | simp | omega))
                  refine W.eq (g2 := F0 m 123 ls [.int 0]) rfl ?_
                  have eW : fldR VR S t n fi p R = .inl (sk t n p1, R1) := by rw [← hR1, show 4001 - k1 = 0 by omega]; simp only [rowL, ite_self]; unfold sgnR; rw [if_neg ts2]
                  have eZ1 : (rrR (fldR VR S t n fi p R)).1 = R1.1 := by rw [eW]; rfl
                  have eZ2 : tbR (rrR (fldR VR S t n fi p R)) = tbR R1 := by rw [eW]; rfl
                  exact z_zret hx hb hr rfl hlocks hw (by rw [eW]; exact ⟨kk4, ⟨_, f4_rd⟩, (tA1.k k64 (by omega)), (nA1.k k64 (by omega) (by omega) (by omega)), pA1, rfl, ⟨_, _, _, _, f4_sc, rfl⟩⟩) (by first | exact Nat.le_of_ble_eq_true rfl | (dsimp only; omega) | omega) (by first | exact Nat.le_of_ble_eq_true rfl | (dsimp only; omega) | omega) d_RecordReader_readField_123
              · -- 57: False
                have c_57 : ¬ (4000 < k1) := fun z => c_57 ((nI_ltI (a := 4000) (b := k1) (by omega) (by omega)).mpr z)
                refine lv_iload hx hb d_RecordReader_readField_60 (lv_at hl 4 rfl) ?_
                refine lv_if_eq (tgt := 114) hx hb d_RecordReader_readField_62 (by decide) (fun c_62 => ?_) (fun c_62 => ?_)
                · -- 62: True
                  have c_62 : m1 = false := zb_f c_62
                  refine lv_aload_n hx hb d_RecordReader_readField_114 rfl (lv_at hl 0 rfl) ?_
                  refine z_get hx hb hts (z_lay i_RecordReader) hown hK hw L52_rd rfl 0 (by decide) (z_in k_502 rfl) (fun _ h9 => h9) rfl d_RecordReader_readField_115 ?_
                  refine lv_bipush (v := 93) hx hb d_RecordReader_readField_118 (by decide) ?_
                  refine z_callV (n := 1) (As := [.int 93]) (rest := []) ⟨hx, hb, hml, hown, hts⟩ (c_Scanner_takeSign (t := t) l g hL L52_sc L52_b hn hlen hf (by omega)) (z_in k_456 rfl) (z_in k_8 rfl) (z_in k_523 rfl) (z_in k_454 rfl) (z_in k_455 rfl) (by decide +kernel) ⟨by first | exact Nat.le_of_ble_eq_true rfl | (dsimp only; omega) | omega, by first | exact Nat.le_of_ble_eq_true rfl | (dsimp only; omega) | omega⟩ hK hE hw hA rfl L52_sc rfl hl.1 (Nat.le_of_ble_eq_true rfl) d_RecordReader_readField_120 ⟨by first | exact Nat.le_of_ble_eq_true rfl | (dsimp only; omega) | omega, by first | exact Nat.le_of_ble_eq_true rfl | (dsimp only; omega) | omega⟩ rfl (fun r9 h9 H locs hp hw => ?_)
                  unfold tSg at hp
                  by_cases ts2 : bt t n (sk t n p1) = 93
                  · -- ts2 True
                    rw [if_pos ts2] at hp
                    obtain ⟨r8, hh5⟩ := hp
                    subst r8
                    obtain ⟨h5, e8⟩ : ∃ x9, x9 = h9 := ⟨_, rfl⟩
                    subst e8
                    have f5_rd : h5 rd = some ((8, 0), .inr (9, [.ref sc, .ref q, .ref w, .ref tr, .long nu1])) := by rw [← hh5]; exact z_keep L52_sc L52_rd (z_t1 (by decide))
                    have f5_sc : h5 sc = some ((6, 0), .inr (7, [.ref b, .int (nI n), .int (nI (sk t n p1 + 1)), .int fa1, .int ws1, .int wd1])) := by rw [← hh5]; exact z_put_eq
                    have f5_b : h5 b = some ((3, 0), .inl (g.2.1 0, len, .inl f)) := by rw [← hh5]; exact z_keep L52_sc L52_b (z_t1 (by decide))
                    have k65 : z_K (fun y => y = 6) hL h5 := k6L.tr (by rw [← hh5]; exact z_K.put L52_sc rfl)
                    have kk5 : z_K (fun y => y = 6 ∨ y = 8 ∨ y = 10 ∨ y = mr ∨ y = mr + 1) h h5 := kkL.tr (by rw [← hh5]; exact z_K.put L52_sc (by first | decide | simp | omega))
                    refine W.eq (g2 := F0 m 123 ls [.int 1]) rfl ?_
                    have eW : fldR VR S t n fi p R = .inr (sk t n p1 + 1, R1) := by rw [← hR1, if_neg (by rw [c_62]; decide)]; unfold sgnR; rw [if_pos ts2]
                    have eZ1 : (rrR (fldR VR S t n fi p R)).1 = R1.1 := by rw [eW]; rfl
                    have eZ2 : tbR (rrR (fldR VR S t n fi p R)) = tbR R1 := by rw [eW]; rfl
                    have lt93 := bt_lt ts2
                    exact z_zret hx hb hr rfl hlocks hw (by rw [eW]; exact ⟨kk5, ⟨_, f5_rd⟩, (tA1.k k65 (by omega)), (nA1.k k65 (by omega) (by omega) (by omega)), pA1, rfl, ⟨_, _, _, f5_sc⟩, by dsimp only; omega, by dsimp only; omega, by dsimp only; omega⟩) (by first | exact Nat.le_of_ble_eq_true rfl | (dsimp only; omega) | omega) (by first | exact Nat.le_of_ble_eq_true rfl | (dsimp only; omega) | omega) d_RecordReader_readField_123
                  · -- ts2 False
                    rw [if_neg ts2] at hp
                    obtain ⟨r8, hh6⟩ := hp
                    subst r8
                    obtain ⟨h6, e8⟩ : ∃ x9, x9 = h9 := ⟨_, rfl⟩
                    subst e8
                    have f6_rd : h6 rd = some ((8, 0), .inr (9, [.ref sc, .ref q, .ref w, .ref tr, .long nu1])) := by rw [← hh6]; exact z_keep L52_sc L52_rd (z_t1 (by decide))
                    have f6_sc : h6 sc = some ((6, 0), .inr (7, [.ref b, .int (nI n), .int (nI (sk t n p1)), .int (nI (sk t n p1)), .int ws1, .int wd1])) := by rw [← hh6]; exact z_put_eq
                    have f6_b : h6 b = some ((3, 0), .inl (g.2.1 0, len, .inl f)) := by rw [← hh6]; exact z_keep L52_sc L52_b (z_t1 (by decide))
                    have k66 : z_K (fun y => y = 6) hL h6 := k6L.tr (by rw [← hh6]; exact z_K.put L52_sc rfl)
                    have kk6 : z_K (fun y => y = 6 ∨ y = 8 ∨ y = 10 ∨ y = mr ∨ y = mr + 1) h h6 := kkL.tr (by rw [← hh6]; exact z_K.put L52_sc (by first | decide | simp | omega))
                    refine W.eq (g2 := F0 m 123 ls [.int 0]) rfl ?_
                    have eW : fldR VR S t n fi p R = .inl (sk t n p1, R1) := by rw [← hR1, if_neg (by rw [c_62]; decide)]; unfold sgnR; rw [if_neg ts2]
                    have eZ1 : (rrR (fldR VR S t n fi p R)).1 = R1.1 := by rw [eW]; rfl
                    have eZ2 : tbR (rrR (fldR VR S t n fi p R)) = tbR R1 := by rw [eW]; rfl
                    exact z_zret hx hb hr rfl hlocks hw (by rw [eW]; exact ⟨kk6, ⟨_, f6_rd⟩, (tA1.k k66 (by omega)), (nA1.k k66 (by omega) (by omega) (by omega)), pA1, rfl, ⟨_, _, _, _, f6_sc, rfl⟩⟩) (by first | exact Nat.le_of_ble_eq_true rfl | (dsimp only; omega) | omega) (by first | exact Nat.le_of_ble_eq_true rfl | (dsimp only; omega) | omega) d_RecordReader_readField_123
                · -- 62: False
                  have c_62 : m1 = true := zb_t c_62
                  have m65 := le1.2.2.2.2.2.2.2.2 c_62
                  have hM0 : rmono (rrR (VR p1 R1)) (fldR VR S t n fi p R) := by rw [← hR1, if_pos c_62, show 4001 - k1 = (4001 - (k1 + 1)) + 1 by omega]; exact rowL_mid hVo _ _ _
                  have hM1 : (rrR (VR p1 R1)).1 ≤ (rrR (fldR VR S t n fi p R)).1 := hM0.1
                  have hM2 : tbR (rrR (VR p1 R1)) ≤ tbR (rrR (fldR VR S t n fi p R)) := hM0.2
                  have hM3 : R1.1 ≤ (rrR (VR p1 R1)).1 := (hVo p1 R1).1
                  have hM4 : tbR R1 ≤ tbR (rrR (VR p1 R1)) := (hVo p1 R1).2
                  refine lv_aload_n hx hb d_RecordReader_readField_65 rfl (lv_at hl 0 rfl) ?_
                  refine lv_aload_n hx hb d_RecordReader_readField_66 rfl (lv_at hl 1 rfl) ?_
                  refine lv_iload_n hx hb d_RecordReader_readField_67 rfl (lv_at hl 2 rfl) ?_
                  refine lv_iload_n hx hb d_RecordReader_readField_68 rfl (lv_at hl 3 rfl) ?_
                  refine z_callV (n := 3) (As := [.ref (adS fi), .int (nI pi), .int (nI d)]) (rest := []) ⟨hx, hb, hml, hown, hts⟩ (hV hL p1 R1 _ _ _ _ (hS.k kkL (by omega) (by omega) (by omega)) L52_rd L52_sc L52_b tA1 nA1 pA1 (by omega) (by omega) (by omega) (by omega)) (z_in k_543 rfl) (z_in k_18 rfl) (z_in k_540 rfl) (z_in k_542 rfl) (z_in ks_8 rfl) (by decide +kernel) ⟨by first | exact Nat.le_of_ble_eq_true rfl | (dsimp only; omega) | omega, by first | exact Nat.le_of_ble_eq_true rfl | (dsimp only; omega) | omega⟩ hK hE hw hA rfl L52_rd rfl hl.1 (Nat.le_of_ble_eq_true rfl) d_RecordReader_readField_69 ⟨by first | exact Nat.le_of_ble_eq_true rfl | (dsimp only; omega) | omega, by first | exact Nat.le_of_ble_eq_true rfl | (dsimp only; omega) | omega⟩ rfl (fun r9 h9 H locs hp hw => ?_)
                  obtain ⟨kk8, ⟨nu8, q8⟩, tr8, nA8, pA8, hp⟩ := hp
                  rcases hR8 : VR p1 R1 with ⟨F8, R8⟩ | ⟨p8, R8⟩
                  · -- rv False
                    rw [hR8] at hp nA8 pA8
                    obtain ⟨r8, pf8, f8, w8, d8, e8, g8⟩ := hp
                    have nA8 : NdAt g h9 mr w S R8 := nA8
                    have pA8 : paOK R8 := pA8
                    subst r8
                    obtain ⟨h7, e7⟩ : ∃ x9, x9 = h9 := ⟨_, rfl⟩
                    subst e7
                    have z8a : (rrR (VR p1 R1)).1 = R8.1 := by rw [hR8]; rfl
                    have z8b : (rrR (.inl (F8, R8) : RRes)).1 = R8.1 := rfl
                    have z8c : tbR (rrR (VR p1 R1)) = tbR R8 := by rw [hR8]; rfl
                    have z8d : tbR (rrR (.inl (F8, R8) : RRes)) = tbR R8 := rfl
                    have q8 : h7 rd = some ((8, 0), .inr (9, [.ref sc, .ref q, .ref w, .ref tr, .long nu8])) := q8
                    have g7_b : h7 b = some ((3, 0), .inl (g.2.1 0, len, .inl f)) := kk8 _ _ _ L52_b (by simp; try omega)
                    have kk7 : z_K (fun y => y = 6 ∨ y = 8 ∨ y = 10 ∨ y = mr ∨ y = mr + 1) h h7 := kkL.tr kk8
                    have k6n : z_K (fun y => y = 6) h7 h7 := z_K.rf
                    refine W.eq (g2 := F0 m 72 ls [.int 0]) rfl ?_
                    refine lv_if_ne (tgt := 77) hx hb d_RecordReader_readField_72 (by decide) (fun c_72 => ?_) (fun c_72 => ?_)
                    · -- 72: True
                      exact absurd (by decide) c_72
                    · -- 72: False
                      refine lv_iconst (v := 0) hx hb d_RecordReader_readField_75 (by decide) ?_
                      have eW : fldR VR S t n fi p R = .inl (F8, R8) := by rw [← hR1, if_pos c_62, show 4001 - k1 = (4001 - (k1 + 1)) + 1 by omega]; simp only [rowL]; rw [hR8]
                      have eZ1 : (rrR (fldR VR S t n fi p R)).1 = R8.1 := by rw [eW]; rfl
                      have eZ2 : tbR (rrR (fldR VR S t n fi p R)) = tbR R8 := by rw [eW]; rfl
                      exact z_zret hx hb hr rfl hlocks hw (by rw [eW]; exact ⟨kk7, ⟨_, q8⟩, tr8, nA8, pA8, rfl, ⟨_, _, _, _, e8, g8⟩⟩) (by first | exact Nat.le_of_ble_eq_true rfl | (dsimp only; omega) | omega) (by first | exact Nat.le_of_ble_eq_true rfl | (dsimp only; omega) | omega) d_RecordReader_readField_76
                  · -- rv True
                    rw [hR8] at hp nA8 pA8
                    obtain ⟨r8, ⟨f8, w8, d8, e8⟩, le8, le9, le10⟩ := hp
                    dsimp only at le8 le9 le10
                    have nA8 : NdAt g h9 mr w S R8 := nA8
                    have pA8 : paOK R8 := pA8
                    subst r8
                    obtain ⟨h8, e7⟩ : ∃ x9, x9 = h9 := ⟨_, rfl⟩
                    subst e7
                    have z8a : (rrR (VR p1 R1)).1 = R8.1 := by rw [hR8]; rfl
                    have z8b : (rrR (.inr (p8, R8) : RRes)).1 = R8.1 := rfl
                    have z8c : tbR (rrR (VR p1 R1)) = tbR R8 := by rw [hR8]; rfl
                    have z8d : tbR (rrR (.inr (p8, R8) : RRes)) = tbR R8 := rfl
                    have q8 : h8 rd = some ((8, 0), .inr (9, [.ref sc, .ref q, .ref w, .ref tr, .long nu8])) := q8
                    have g8_b : h8 b = some ((3, 0), .inl (g.2.1 0, len, .inl f)) := kk8 _ _ _ L52_b (by simp; try omega)
                    have kk8 : z_K (fun y => y = 6 ∨ y = 8 ∨ y = 10 ∨ y = mr ∨ y = mr + 1) h h8 := kkL.tr kk8
                    have k6n : z_K (fun y => y = 6) h8 h8 := z_K.rf
                    have sk8 := sk_le (t := t) le8
                    have sk9 := sk_ge t n p8
                    refine W.eq (g2 := F0 m 72 ls [.int 1]) rfl ?_
                    refine lv_if_ne (tgt := 77) hx hb d_RecordReader_readField_72 (by decide) (fun c_72 => ?_) (fun c_72 => ?_)
                    · -- 72: True
                      refine lv_aload_n hx hb d_RecordReader_readField_77 rfl (lv_at hl 0 rfl) ?_
                      refine z_get hx hb hts (z_lay i_RecordReader) hown hK hw q8 rfl 0 (by decide) (z_in k_502 rfl) (fun _ h9 => h9) rfl d_RecordReader_readField_78 ?_
                      refine z_callV (n := 0) (As := []) (rest := []) ⟨hx, hb, hml, hown, hts⟩ (c_Scanner_next l g h8 e8 g8_b hn hlen hf (by omega)) (z_in k_234 rfl) (z_in k_8 rfl) (z_in k_524 rfl) (z_in k_232 rfl) (z_in k_233 rfl) (by decide +kernel) ⟨by first | exact Nat.le_of_ble_eq_true rfl | (dsimp only; omega) | omega, by first | exact Nat.le_of_ble_eq_true rfl | (dsimp only; omega) | omega⟩ hK hE hw hA rfl e8 rfl hl.1 (Nat.le_of_ble_eq_true rfl) d_RecordReader_readField_81 ⟨by first | exact Nat.le_of_ble_eq_true rfl | (dsimp only; omega) | omega, by first | exact Nat.le_of_ble_eq_true rfl | (dsimp only; omega) | omega⟩ rfl (fun r9 h9 H locs hp hw => ?_)
                      obtain ⟨r8, hh9⟩ := hp
                      subst r8
                      obtain ⟨h9, e8⟩ : ∃ x9, x9 = h9 := ⟨_, rfl⟩
                      subst e8
                      have f9_rd : h9 rd = some ((8, 0), .inr (9, [.ref sc, .ref q, .ref w, .ref tr, .long nu8])) := by rw [← hh9]; exact z_keep e8 q8 (z_t1 (by decide))
                      have f9_sc : h9 sc = some ((6, 0), .inr (7, [.ref b, .int (nI n), .int (nI (sk t n p8)), .int f8, .int w8, .int d8])) := by rw [← hh9]; exact z_put_eq
                      have f9_b : h9 b = some ((3, 0), .inl (g.2.1 0, len, .inl f)) := by rw [← hh9]; exact z_keep e8 g8_b (z_t1 (by decide))
                      have k69 : z_K (fun y => y = 6) h8 h9 := k6n.tr (by rw [← hh9]; exact z_K.put e8 rfl)
                      have kk9 : z_K (fun y => y = 6 ∨ y = 8 ∨ y = 10 ∨ y = mr ∨ y = mr + 1) h h9 := kk8.tr (by rw [← hh9]; exact z_K.put e8 (by first | decide | simp | omega))
                      refine W.eq (g2 := F0 m 84 ls [.int (bt t n (sk t n p8))]) rfl ?_
                      refine lv_bipush (v := 44) hx hb d_RecordReader_readField_84 (by decide) ?_
                      refine lv_icmp_ne (tgt := 105) hx hb d_RecordReader_readField_86 (by decide) (fun c_86 => ?_) (fun c_86 => ?_)
                      · -- 86: True
                        refine lv_iconst (v := 0) hx hb d_RecordReader_readField_105 (by decide) ?_
                        refine lv_istore (lv' := [(4, .int 0), (0, .ref rd), (1, .ref (adS fi)), (2, .int (nI pi)), (3, .int (nI d)), (5, .int (nI k1))]) hx hb d_RecordReader_readField_106 hl (by decide) rfl (fun ls hl => ?_)
                        refine lv_iinc (v := nI (k1 + 1)) (lv' := [(5, .int (nI (k1 + 1))), (4, .int 0), (0, .ref rd), (1, .ref (adS fi)), (2, .int (nI pi)), (3, .int (nI d))]) hx hb d_RecordReader_readField_108 hl (k := 5) rfl (nI_1 k1) (by decide) rfl (fun ls hl => ?_)
                        refine lv_goto (tgt := 52) hx hb d_RecordReader_readField_111 (by decide) ?_
                        refine W.widen (k := 2 * (R8.1 - R.1)) (n := 7 * (R8.1 - R.1) + (tbR R8 - tbR R)) (by first | exact Nat.le_of_ble_eq_true rfl | (dsimp only; omega) | omega) (by first | exact Nat.le_of_ble_eq_true rfl | (dsimp only; omega) | omega) ?_
                        refine ih_52 (k1 + 1) false (sk t n p8) R8 nu8 f8 w8 d8 h9 _ _ _ f9_rd f9_sc f9_b kk9 (nA8.k k69 (by omega) (by omega) (by omega)) (tr8.k k69 (by omega)) pA8 (⟨by omega, by omega, by omega, by omega, by omega, by omega, by omega, by omega, fun z => by cases z⟩) (by rw [← hR1, if_pos c_62, show 4001 - k1 = (4001 - (k1 + 1)) + 1 by omega]; simp only [rowL]; rw [hR8]; dsimp only; rw [if_neg c_86]; exact if_neg (by decide)) ?_ hw (lv_sub hl [2, 3, 4, 5, 1, 0] rfl)
                        omega
                      · -- 86: False
                        refine lv_aload_n hx hb d_RecordReader_readField_89 rfl (lv_at hl 0 rfl) ?_
                        refine z_get hx hb hts (z_lay i_RecordReader) hown hK hw f9_rd rfl 0 (by decide) (z_in k_502 rfl) (fun _ h9 => h9) rfl d_RecordReader_readField_90 ?_
                        refine lv_bipush (v := 44) hx hb d_RecordReader_readField_93 (by decide) ?_
                        refine z_callV (n := 1) (As := [.int 44]) (rest := []) ⟨hx, hb, hml, hown, hts⟩ (c_Scanner_takeSign (t := t) l g h9 f9_sc f9_b hn hlen hf (by omega)) (z_in k_456 rfl) (z_in k_8 rfl) (z_in k_523 rfl) (z_in k_454 rfl) (z_in k_455 rfl) (by decide +kernel) ⟨by first | exact Nat.le_of_ble_eq_true rfl | (dsimp only; omega) | omega, by first | exact Nat.le_of_ble_eq_true rfl | (dsimp only; omega) | omega⟩ hK hE hw hA rfl f9_sc rfl hl.1 (Nat.le_of_ble_eq_true rfl) d_RecordReader_readField_95 ⟨by first | exact Nat.le_of_ble_eq_true rfl | (dsimp only; omega) | omega, by first | exact Nat.le_of_ble_eq_true rfl | (dsimp only; omega) | omega⟩ rfl (fun r9 h9 H locs hp hw => ?_)
                        unfold tSg at hp
                        rw [sk_sk, if_pos c_86] at hp
                        obtain ⟨r8, hh10⟩ := hp
                        subst r8
                        obtain ⟨h10, e6⟩ : ∃ x9, x9 = h9 := ⟨_, rfl⟩
                        subst e6
                        have f10_rd : h10 rd = some ((8, 0), .inr (9, [.ref sc, .ref q, .ref w, .ref tr, .long nu8])) := by rw [← hh10]; exact z_keep f9_sc f9_rd (z_t1 (by decide))
                        have f10_sc : h10 sc = some ((6, 0), .inr (7, [.ref b, .int (nI n), .int (nI (sk t n p8 + 1)), .int f8, .int w8, .int d8])) := by rw [← hh10]; exact z_put_eq
                        have f10_b : h10 b = some ((3, 0), .inl (g.2.1 0, len, .inl f)) := by rw [← hh10]; exact z_keep f9_sc f9_b (z_t1 (by decide))
                        have k610 : z_K (fun y => y = 6) h8 h10 := k69.tr (by rw [← hh10]; exact z_K.put f9_sc rfl)
                        have kk10 : z_K (fun y => y = 6 ∨ y = 8 ∨ y = 10 ∨ y = mr ∨ y = mr + 1) h h10 := kk9.tr (by rw [← hh10]; exact z_K.put f9_sc (by first | decide | simp | omega))
                        have lt44 := bt_lt c_86
                        refine W.eq (g2 := F0 m 98 ls [.int 1]) rfl ?_
                        refine lv_if_eq (tgt := 105) hx hb d_RecordReader_readField_98 (by decide) (fun c_98 => ?_) (fun c_98 => ?_)
                        · -- 98: True
                          exact absurd c_98 (by decide)
                        · -- 98: False
                          refine lv_iconst (v := 1) hx hb d_RecordReader_readField_101 (by decide) ?_
                          refine lv_goto (tgt := 106) hx hb d_RecordReader_readField_102 (by decide) ?_
                          refine lv_istore (lv' := [(4, .int 1), (0, .ref rd), (1, .ref (adS fi)), (2, .int (nI pi)), (3, .int (nI d)), (5, .int (nI k1))]) hx hb d_RecordReader_readField_106 hl (by decide) rfl (fun ls hl => ?_)
                          refine lv_iinc (v := nI (k1 + 1)) (lv' := [(5, .int (nI (k1 + 1))), (4, .int 1), (0, .ref rd), (1, .ref (adS fi)), (2, .int (nI pi)), (3, .int (nI d))]) hx hb d_RecordReader_readField_108 hl (k := 5) rfl (nI_1 k1) (by decide) rfl (fun ls hl => ?_)
                          refine lv_goto (tgt := 52) hx hb d_RecordReader_readField_111 (by decide) ?_
                          refine W.widen (k := 2 * (R8.1 - R.1)) (n := 7 * (R8.1 - R.1) + (tbR R8 - tbR R)) (by first | exact Nat.le_of_ble_eq_true rfl | (dsimp only; omega) | omega) (by first | exact Nat.le_of_ble_eq_true rfl | (dsimp only; omega) | omega) ?_
                          refine ih_52 (k1 + 1) true (sk t n p8 + 1) R8 nu8 f8 w8 d8 h10 _ _ _ f10_rd f10_sc f10_b kk10 (nA8.k k610 (by omega) (by omega) (by omega)) (tr8.k k610 (by omega)) pA8 (⟨by omega, by omega, by omega, by omega, by omega, by omega, by omega, by omega, fun _ => by omega⟩) (by rw [← hR1, if_pos c_62, show 4001 - k1 = (4001 - (k1 + 1)) + 1 by omega]; simp only [rowL]; rw [hR8]; dsimp only; rw [if_pos c_86]; exact if_pos trivial) ?_ hw (lv_sub hl [2, 3, 4, 5, 1, 0] rfl)
                          omega
                    · -- 72: False
                      exact absurd c_72 (by decide)
          refine W.widen (k := 2 * (R.1 - R.1)) (n := 7 * (R.1 - R.1) + (tbR R - tbR R)) (by first | exact Nat.le_of_ble_eq_true rfl | (dsimp only; omega) | omega) (by first | exact Nat.le_of_ble_eq_true rfl | (dsimp only; omega) | omega) ?_
          exact loop_52 (4002 - 0 + 1) 0 false (sk t n (sk t n p + 1)) R nu9 fa ws wd h2 _ _ _ f2_rd f2_sc f2_b kk2 (hNA.k k62 (by omega) (by omega) (by omega)) (hTR.k k62 (by omega)) hpa (⟨by omega, by omega, by omega, by omega, rOK.1, rOK.2, by omega, by omega, fun _ => by omega⟩) (by unfold fldR; rw [if_pos c_5, if_pos ts1]; rw [if_pos c_39]; rfl) (by omega) hw (lv_sub hl [2, 3, 4, 5, 1, 0] rfl)
        · -- 39: False
          refine lv_iconst (v := 1) hx hb d_RecordReader_readField_42 (by decide) ?_
          refine lv_goto (tgt := 47) hx hb d_RecordReader_readField_43 (by decide) ?_
          refine lv_istore (lv' := [(4, .int 1), (0, .ref rd), (1, .ref (adS fi)), (2, .int (nI pi)), (3, .int (nI d))]) hx hb d_RecordReader_readField_47 hl (by decide) rfl (fun ls hl => ?_)
          refine lv_iconst (v := 0) hx hb d_RecordReader_readField_49 (by decide) ?_
          refine lv_istore (lv' := [(5, .int 0), (4, .int 1), (0, .ref rd), (1, .ref (adS fi)), (2, .int (nI pi)), (3, .int (nI d))]) hx hb d_RecordReader_readField_50 hl (by decide) rfl (fun ls hl => ?_)
          have loop_52 : ∀ (fuel : Nat) (k1 : Nat) (m1 : Bool) (p1 : Nat) (R1 : Rec) (nu1 : Int64) (fa1 : Int32) (ws1 : Int32) (wd1 : Int32) (hL : z_H) (H : Heap) (locs : List Loc) (ls : Array Slot) (L52_rd : hL rd = some ((8, 0), .inr (9, [.ref sc, .ref q, .ref w, .ref tr, .long nu1]))) (L52_sc : hL sc = some ((6, 0), .inr (7, [.ref b, .int (nI n), .int (nI p1), .int fa1, .int ws1, .int wd1]))) (L52_b : hL b = some ((3, 0), .inl (g.2.1 0, len, .inl f))) (kkL : z_K (fun y => y = 6 ∨ y = 8 ∨ y = 10 ∨ y = mr ∨ y = mr + 1) h hL) (nA1 : NdAt g hL mr w S R1) (tA1 : trAt g hL tr []) (pA1 : paOK R1) (le1 : p1 ≤ n ∧ R.1 ≤ R1.1 ∧ tbR R ≤ tbR R1 ∧ k1 ≤ 4001 ∧ R1.1 ≤ (rrR (fldR VR S t n fi p R)).1 ∧ tbR R1 ≤ tbR (rrR (fldR VR S t n fi p R)) ∧ 2 * R1.1 ≤ p1 ∧ tbR R1 ≤ p1 ∧ (m1 = true → 2 * R1.1 + 1 ≤ p1)) (hR1 : (if m1 = true then rowL VR t n (4001 - k1) p1 R1 else sgnR t n 93 p1 R1) = fldR VR S t n fi p R), (4002 - k1) < fuel → z_S g A s.heap hL H locs → lv_has ls 6 [(0, .ref rd), (1, .ref (adS fi)), (2, .int (nI pi)), (3, .int (nI d)), (4, .int (zb m1)), (5, .int (nI k1))] → W pg l en { frames := fM + 4, cells := 2 * ((rrR (fldR VR S t n fi p R)).1 - R.1), slots := 7 * ((rrR (fldR VR S t n fi p R)).1 - R.1) + (tbR (rrR (fldR VR S t n fi p R)) - tbR R), locals := lM + 100 } s m [.ref rd, .ref (adS fi), .int (nI pi), .int (nI d)].toArray below meth cd H locs (2 * (R1.1 - R.1)) (7 * (R1.1 - R.1) + (tbR R1 - tbR R)) (MQ below (z_Q g A (vlP g (fldR VR S t n fi p R) h mr w S rd sc q tr b n)) [.ref rd, .ref (adS fi), .int (nI pi), .int (nI d)].toArray s (2 * ((rrR (fldR VR S t n fi p R)).1 - R.1)) (7 * ((rrR (fldR VR S t n fi p R)).1 - R.1) + (tbR (rrR (fldR VR S t n fi p R)) - tbR R)) A) (F0 m 52 ls []) := by
            intro fuel
            induction fuel with
            | zero => intro k1 m1 p1 R1 nu1 fa1 ws1 wd1 hL H locs ls L52_rd L52_sc L52_b kkL nA1 tA1 pA1 le1 hR1 hm; exact absurd hm (Nat.not_lt_zero _)
            | succ fuel ih_52 =>
              intro k1 m1 p1 R1 nu1 fa1 ws1 wd1 hL H locs ls L52_rd L52_sc L52_b kkL nA1 tA1 pA1 le1 hR1 hm hw hl
              have k6L : z_K (fun y => y = 6) hL hL := z_K.rf
              have skp1 := sk_le (t := t) le1.1
              have skp2 := sk_ge t n p1
              refine lv_iload hx hb d_RecordReader_readField_52 (lv_at hl 5 rfl) ?_
              refine lv_sipush (v := 4000) hx hb d_RecordReader_readField_54 (by decide) ?_
              refine lv_icmp_gt (tgt := 114) hx hb d_RecordReader_readField_57 (by decide) (fun c_57 => ?_) (fun c_57 => ?_)
              · -- 57: True
                have c_57 : 4000 < k1 := (nI_ltI (a := 4000) (b := k1) (by omega) (by omega)).mp c_57
                refine lv_aload_n hx hb d_RecordReader_readField_114 rfl (lv_at hl 0 rfl) ?_
                refine z_get hx hb hts (z_lay i_RecordReader) hown hK hw L52_rd rfl 0 (by decide) (z_in k_502 rfl) (fun _ h9 => h9) rfl d_RecordReader_readField_115 ?_
                refine lv_bipush (v := 93) hx hb d_RecordReader_readField_118 (by decide) ?_
                refine z_callV (n := 1) (As := [.int 93]) (rest := []) ⟨hx, hb, hml, hown, hts⟩ (c_Scanner_takeSign (t := t) l g hL L52_sc L52_b hn hlen hf (by omega)) (z_in k_456 rfl) (z_in k_8 rfl) (z_in k_523 rfl) (z_in k_454 rfl) (z_in k_455 rfl) (by decide +kernel) ⟨by first | exact Nat.le_of_ble_eq_true rfl | (dsimp only; omega) | omega, by first | exact Nat.le_of_ble_eq_true rfl | (dsimp only; omega) | omega⟩ hK hE hw hA rfl L52_sc rfl hl.1 (Nat.le_of_ble_eq_true rfl) d_RecordReader_readField_120 ⟨by first | exact Nat.le_of_ble_eq_true rfl | (dsimp only; omega) | omega, by first | exact Nat.le_of_ble_eq_true rfl | (dsimp only; omega) | omega⟩ rfl (fun r9 h9 H locs hp hw => ?_)
                unfold tSg at hp
                by_cases ts2 : bt t n (sk t n p1) = 93
                · -- ts2 True
                  rw [if_pos ts2] at hp
                  obtain ⟨r8, hh11⟩ := hp
                  subst r8
                  obtain ⟨h11, e8⟩ : ∃ x9, x9 = h9 := ⟨_, rfl⟩
                  subst e8
                  have f11_rd : h11 rd = some ((8, 0), .inr (9, [.ref sc, .ref q, .ref w, .ref tr, .long nu1])) := by rw [← hh11]; exact z_keep L52_sc L52_rd (z_t1 (by decide))
                  have f11_sc : h11 sc = some ((6, 0), .inr (7, [.ref b, .int (nI n), .int (nI (sk t n p1 + 1)), .int fa1, .int ws1, .int wd1])) := by rw [← hh11]; exact z_put_eq
                  have f11_b : h11 b = some ((3, 0), .inl (g.2.1 0, len, .inl f)) := by rw [← hh11]; exact z_keep L52_sc L52_b (z_t1 (by decide))
                  have k611 : z_K (fun y => y = 6) hL h11 := k6L.tr (by rw [← hh11]; exact z_K.put L52_sc rfl)
                  have kk11 : z_K (fun y => y = 6 ∨ y = 8 ∨ y = 10 ∨ y = mr ∨ y = mr + 1) h h11 := kkL.tr (by rw [← hh11]; exact z_K.put L52_sc (by first | decide | simp | omega))
                  refine W.eq (g2 := F0 m 123 ls [.int 1]) rfl ?_
                  have eW : fldR VR S t n fi p R = .inr (sk t n p1 + 1, R1) := by rw [← hR1, show 4001 - k1 = 0 by omega]; simp only [rowL, ite_self]; unfold sgnR; rw [if_pos ts2]
                  have eZ1 : (rrR (fldR VR S t n fi p R)).1 = R1.1 := by rw [eW]; rfl
                  have eZ2 : tbR (rrR (fldR VR S t n fi p R)) = tbR R1 := by rw [eW]; rfl
                  have lt93 := bt_lt ts2
                  exact z_zret hx hb hr rfl hlocks hw (by rw [eW]; exact ⟨kk11, ⟨_, f11_rd⟩, (tA1.k k611 (by omega)), (nA1.k k611 (by omega) (by omega) (by omega)), pA1, rfl, ⟨_, _, _, f11_sc⟩, by dsimp only; omega, by dsimp only; omega, by dsimp only; omega⟩) (by first | exact Nat.le_of_ble_eq_true rfl | (dsimp only; omega) | omega) (by first | exact Nat.le_of_ble_eq_true rfl | (dsimp only; omega) | omega) d_RecordReader_readField_123
                · -- ts2 False
                  rw [if_neg ts2] at hp
                  obtain ⟨r8, hh12⟩ := hp
                  subst r8
                  obtain ⟨h12, e8⟩ : ∃ x9, x9 = h9 := ⟨_, rfl⟩
                  subst e8
                  have f12_rd : h12 rd = some ((8, 0), .inr (9, [.ref sc, .ref q, .ref w, .ref tr, .long nu1])) := by rw [← hh12]; exact z_keep L52_sc L52_rd (z_t1 (by decide))
                  have f12_sc : h12 sc = some ((6, 0), .inr (7, [.ref b, .int (nI n), .int (nI (sk t n p1)), .int (nI (sk t n p1)), .int ws1, .int wd1])) := by rw [← hh12]; exact z_put_eq
                  have f12_b : h12 b = some ((3, 0), .inl (g.2.1 0, len, .inl f)) := by rw [← hh12]; exact z_keep L52_sc L52_b (z_t1 (by decide))
                  have k612 : z_K (fun y => y = 6) hL h12 := k6L.tr (by rw [← hh12]; exact z_K.put L52_sc rfl)
                  have kk12 : z_K (fun y => y = 6 ∨ y = 8 ∨ y = 10 ∨ y = mr ∨ y = mr + 1) h h12 := kkL.tr (by rw [← hh12]; exact z_K.put L52_sc (by first | decide | simp | omega))
                  refine W.eq (g2 := F0 m 123 ls [.int 0]) rfl ?_
                  have eW : fldR VR S t n fi p R = .inl (sk t n p1, R1) := by rw [← hR1, show 4001 - k1 = 0 by omega]; simp only [rowL, ite_self]; unfold sgnR; rw [if_neg ts2]
                  have eZ1 : (rrR (fldR VR S t n fi p R)).1 = R1.1 := by rw [eW]; rfl
                  have eZ2 : tbR (rrR (fldR VR S t n fi p R)) = tbR R1 := by rw [eW]; rfl
                  exact z_zret hx hb hr rfl hlocks hw (by rw [eW]; exact ⟨kk12, ⟨_, f12_rd⟩, (tA1.k k612 (by omega)), (nA1.k k612 (by omega) (by omega) (by omega)), pA1, rfl, ⟨_, _, _, _, f12_sc, rfl⟩⟩) (by first | exact Nat.le_of_ble_eq_true rfl | (dsimp only; omega) | omega) (by first | exact Nat.le_of_ble_eq_true rfl | (dsimp only; omega) | omega) d_RecordReader_readField_123
              · -- 57: False
                have c_57 : ¬ (4000 < k1) := fun z => c_57 ((nI_ltI (a := 4000) (b := k1) (by omega) (by omega)).mpr z)
                refine lv_iload hx hb d_RecordReader_readField_60 (lv_at hl 4 rfl) ?_
                refine lv_if_eq (tgt := 114) hx hb d_RecordReader_readField_62 (by decide) (fun c_62 => ?_) (fun c_62 => ?_)
                · -- 62: True
                  have c_62 : m1 = false := zb_f c_62
                  refine lv_aload_n hx hb d_RecordReader_readField_114 rfl (lv_at hl 0 rfl) ?_
                  refine z_get hx hb hts (z_lay i_RecordReader) hown hK hw L52_rd rfl 0 (by decide) (z_in k_502 rfl) (fun _ h9 => h9) rfl d_RecordReader_readField_115 ?_
                  refine lv_bipush (v := 93) hx hb d_RecordReader_readField_118 (by decide) ?_
                  refine z_callV (n := 1) (As := [.int 93]) (rest := []) ⟨hx, hb, hml, hown, hts⟩ (c_Scanner_takeSign (t := t) l g hL L52_sc L52_b hn hlen hf (by omega)) (z_in k_456 rfl) (z_in k_8 rfl) (z_in k_523 rfl) (z_in k_454 rfl) (z_in k_455 rfl) (by decide +kernel) ⟨by first | exact Nat.le_of_ble_eq_true rfl | (dsimp only; omega) | omega, by first | exact Nat.le_of_ble_eq_true rfl | (dsimp only; omega) | omega⟩ hK hE hw hA rfl L52_sc rfl hl.1 (Nat.le_of_ble_eq_true rfl) d_RecordReader_readField_120 ⟨by first | exact Nat.le_of_ble_eq_true rfl | (dsimp only; omega) | omega, by first | exact Nat.le_of_ble_eq_true rfl | (dsimp only; omega) | omega⟩ rfl (fun r9 h9 H locs hp hw => ?_)
                  unfold tSg at hp
                  by_cases ts2 : bt t n (sk t n p1) = 93
                  · -- ts2 True
                    rw [if_pos ts2] at hp
                    obtain ⟨r8, hh13⟩ := hp
                    subst r8
                    obtain ⟨h13, e8⟩ : ∃ x9, x9 = h9 := ⟨_, rfl⟩
                    subst e8
                    have f13_rd : h13 rd = some ((8, 0), .inr (9, [.ref sc, .ref q, .ref w, .ref tr, .long nu1])) := by rw [← hh13]; exact z_keep L52_sc L52_rd (z_t1 (by decide))
                    have f13_sc : h13 sc = some ((6, 0), .inr (7, [.ref b, .int (nI n), .int (nI (sk t n p1 + 1)), .int fa1, .int ws1, .int wd1])) := by rw [← hh13]; exact z_put_eq
                    have f13_b : h13 b = some ((3, 0), .inl (g.2.1 0, len, .inl f)) := by rw [← hh13]; exact z_keep L52_sc L52_b (z_t1 (by decide))
                    have k613 : z_K (fun y => y = 6) hL h13 := k6L.tr (by rw [← hh13]; exact z_K.put L52_sc rfl)
                    have kk13 : z_K (fun y => y = 6 ∨ y = 8 ∨ y = 10 ∨ y = mr ∨ y = mr + 1) h h13 := kkL.tr (by rw [← hh13]; exact z_K.put L52_sc (by first | decide | simp | omega))
                    refine W.eq (g2 := F0 m 123 ls [.int 1]) rfl ?_
                    have eW : fldR VR S t n fi p R = .inr (sk t n p1 + 1, R1) := by rw [← hR1, if_neg (by rw [c_62]; decide)]; unfold sgnR; rw [if_pos ts2]
                    have eZ1 : (rrR (fldR VR S t n fi p R)).1 = R1.1 := by rw [eW]; rfl
                    have eZ2 : tbR (rrR (fldR VR S t n fi p R)) = tbR R1 := by rw [eW]; rfl
                    have lt93 := bt_lt ts2
                    exact z_zret hx hb hr rfl hlocks hw (by rw [eW]; exact ⟨kk13, ⟨_, f13_rd⟩, (tA1.k k613 (by omega)), (nA1.k k613 (by omega) (by omega) (by omega)), pA1, rfl, ⟨_, _, _, f13_sc⟩, by dsimp only; omega, by dsimp only; omega, by dsimp only; omega⟩) (by first | exact Nat.le_of_ble_eq_true rfl | (dsimp only; omega) | omega) (by first | exact Nat.le_of_ble_eq_true rfl | (dsimp only; omega) | omega) d_RecordReader_readField_123
                  · -- ts2 False
                    rw [if_neg ts2] at hp
                    obtain ⟨r8, hh14⟩ := hp
                    subst r8
                    obtain ⟨h14, e8⟩ : ∃ x9, x9 = h9 := ⟨_, rfl⟩
                    subst e8
                    have f14_rd : h14 rd = some ((8, 0), .inr (9, [.ref sc, .ref q, .ref w, .ref tr, .long nu1])) := by rw [← hh14]; exact z_keep L52_sc L52_rd (z_t1 (by decide))
                    have f14_sc : h14 sc = some ((6, 0), .inr (7, [.ref b, .int (nI n), .int (nI (sk t n p1)), .int (nI (sk t n p1)), .int ws1, .int wd1])) := by rw [← hh14]; exact z_put_eq
                    have f14_b : h14 b = some ((3, 0), .inl (g.2.1 0, len, .inl f)) := by rw [← hh14]; exact z_keep L52_sc L52_b (z_t1 (by decide))
                    have k614 : z_K (fun y => y = 6) hL h14 := k6L.tr (by rw [← hh14]; exact z_K.put L52_sc rfl)
                    have kk14 : z_K (fun y => y = 6 ∨ y = 8 ∨ y = 10 ∨ y = mr ∨ y = mr + 1) h h14 := kkL.tr (by rw [← hh14]; exact z_K.put L52_sc (by first | decide | simp | omega))
                    refine W.eq (g2 := F0 m 123 ls [.int 0]) rfl ?_
                    have eW : fldR VR S t n fi p R = .inl (sk t n p1, R1) := by rw [← hR1, if_neg (by rw [c_62]; decide)]; unfold sgnR; rw [if_neg ts2]
                    have eZ1 : (rrR (fldR VR S t n fi p R)).1 = R1.1 := by rw [eW]; rfl
                    have eZ2 : tbR (rrR (fldR VR S t n fi p R)) = tbR R1 := by rw [eW]; rfl
                    exact z_zret hx hb hr rfl hlocks hw (by rw [eW]; exact ⟨kk14, ⟨_, f14_rd⟩, (tA1.k k614 (by omega)), (nA1.k k614 (by omega) (by omega) (by omega)), pA1, rfl, ⟨_, _, _, _, f14_sc, rfl⟩⟩) (by first | exact Nat.le_of_ble_eq_true rfl | (dsimp only; omega) | omega) (by first | exact Nat.le_of_ble_eq_true rfl | (dsimp only; omega) | omega) d_RecordReader_readField_123
                · -- 62: False
                  have c_62 : m1 = true := zb_t c_62
                  have m65 := le1.2.2.2.2.2.2.2.2 c_62
                  have hM0 : rmono (rrR (VR p1 R1)) (fldR VR S t n fi p R) := by rw [← hR1, if_pos c_62, show 4001 - k1 = (4001 - (k1 + 1)) + 1 by omega]; exact rowL_mid hVo _ _ _
                  have hM1 : (rrR (VR p1 R1)).1 ≤ (rrR (fldR VR S t n fi p R)).1 := hM0.1
                  have hM2 : tbR (rrR (VR p1 R1)) ≤ tbR (rrR (fldR VR S t n fi p R)) := hM0.2
                  have hM3 : R1.1 ≤ (rrR (VR p1 R1)).1 := (hVo p1 R1).1
                  have hM4 : tbR R1 ≤ tbR (rrR (VR p1 R1)) := (hVo p1 R1).2
                  refine lv_aload_n hx hb d_RecordReader_readField_65 rfl (lv_at hl 0 rfl) ?_
                  refine lv_aload_n hx hb d_RecordReader_readField_66 rfl (lv_at hl 1 rfl) ?_
                  refine lv_iload_n hx hb d_RecordReader_readField_67 rfl (lv_at hl 2 rfl) ?_
                  refine lv_iload_n hx hb d_RecordReader_readField_68 rfl (lv_at hl 3 rfl) ?_
                  refine z_callV (n := 3) (As := [.ref (adS fi), .int (nI pi), .int (nI d)]) (rest := []) ⟨hx, hb, hml, hown, hts⟩ (hV hL p1 R1 _ _ _ _ (hS.k kkL (by omega) (by omega) (by omega)) L52_rd L52_sc L52_b tA1 nA1 pA1 (by omega) (by omega) (by omega) (by omega)) (z_in k_543 rfl) (z_in k_18 rfl) (z_in k_540 rfl) (z_in k_542 rfl) (z_in ks_8 rfl) (by decide +kernel) ⟨by first | exact Nat.le_of_ble_eq_true rfl | (dsimp only; omega) | omega, by first | exact Nat.le_of_ble_eq_true rfl | (dsimp only; omega) | omega⟩ hK hE hw hA rfl L52_rd rfl hl.1 (Nat.le_of_ble_eq_true rfl) d_RecordReader_readField_69 ⟨by first | exact Nat.le_of_ble_eq_true rfl | (dsimp only; omega) | omega, by first | exact Nat.le_of_ble_eq_true rfl | (dsimp only; omega) | omega⟩ rfl (fun r9 h9 H locs hp hw => ?_)
                  obtain ⟨kk8, ⟨nu8, q8⟩, tr8, nA8, pA8, hp⟩ := hp
                  rcases hR8 : VR p1 R1 with ⟨F8, R8⟩ | ⟨p8, R8⟩
                  · -- rv False
                    rw [hR8] at hp nA8 pA8
                    obtain ⟨r8, pf8, f8, w8, d8, e8, g8⟩ := hp
                    have nA8 : NdAt g h9 mr w S R8 := nA8
                    have pA8 : paOK R8 := pA8
                    subst r8
                    obtain ⟨h15, e7⟩ : ∃ x9, x9 = h9 := ⟨_, rfl⟩
                    subst e7
                    have z8a : (rrR (VR p1 R1)).1 = R8.1 := by rw [hR8]; rfl
                    have z8b : (rrR (.inl (F8, R8) : RRes)).1 = R8.1 := rfl
                    have z8c : tbR (rrR (VR p1 R1)) = tbR R8 := by rw [hR8]; rfl
                    have z8d : tbR (rrR (.inl (F8, R8) : RRes)) = tbR R8 := rfl
                    have q8 : h15 rd = some ((8, 0), .inr (9, [.ref sc, .ref q, .ref w, .ref tr, .long nu8])) := q8
                    have g15_b : h15 b = some ((3, 0), .inl (g.2.1 0, len, .inl f)) := kk8 _ _ _ L52_b (by simp; try omega)
                    have kk15 : z_K (fun y => y = 6 ∨ y = 8 ∨ y = 10 ∨ y = mr ∨ y = mr + 1) h h15 := kkL.tr kk8
                    have k6n : z_K (fun y => y = 6) h15 h15 := z_K.rf
                    refine W.eq (g2 := F0 m 72 ls [.int 0]) rfl ?_
                    refine lv_if_ne (tgt := 77) hx hb d_RecordReader_readField_72 (by decide) (fun c_72 => ?_) (fun c_72 => ?_)
                    · -- 72: True
                      exact absurd (by decide) c_72
                    · -- 72: False
                      refine lv_iconst (v := 0) hx hb d_RecordReader_readField_75 (by decide) ?_
                      have eW : fldR VR S t n fi p R = .inl (F8, R8) := by rw [← hR1, if_pos c_62, show 4001 - k1 = (4001 - (k1 + 1)) + 1 by omega]; simp only [rowL]; rw [hR8]
                      have eZ1 : (rrR (fldR VR S t n fi p R)).1 = R8.1 := by rw [eW]; rfl
                      have eZ2 : tbR (rrR (fldR VR S t n fi p R)) = tbR R8 := by rw [eW]; rfl
                      exact z_zret hx hb hr rfl hlocks hw (by rw [eW]; exact ⟨kk15, ⟨_, q8⟩, tr8, nA8, pA8, rfl, ⟨_, _, _, _, e8, g8⟩⟩) (by first | exact Nat.le_of_ble_eq_true rfl | (dsimp only; omega) | omega) (by first | exact Nat.le_of_ble_eq_true rfl | (dsimp only; omega) | omega) d_RecordReader_readField_76
                  · -- rv True
                    rw [hR8] at hp nA8 pA8
                    obtain ⟨r8, ⟨f8, w8, d8, e8⟩, le8, le9, le10⟩ := hp
                    dsimp only at le8 le9 le10
                    have nA8 : NdAt g h9 mr w S R8 := nA8
                    have pA8 : paOK R8 := pA8
                    subst r8
                    obtain ⟨h16, e7⟩ : ∃ x9, x9 = h9 := ⟨_, rfl⟩
                    subst e7
                    have z8a : (rrR (VR p1 R1)).1 = R8.1 := by rw [hR8]; rfl
                    have z8b : (rrR (.inr (p8, R8) : RRes)).1 = R8.1 := rfl
                    have z8c : tbR (rrR (VR p1 R1)) = tbR R8 := by rw [hR8]; rfl
                    have z8d : tbR (rrR (.inr (p8, R8) : RRes)) = tbR R8 := rfl
                    have q8 : h16 rd = some ((8, 0), .inr (9, [.ref sc, .ref q, .ref w, .ref tr, .long nu8])) := q8
                    have g16_b : h16 b = some ((3, 0), .inl (g.2.1 0, len, .inl f)) := kk8 _ _ _ L52_b (by simp; try omega)
                    have kk16 : z_K (fun y => y = 6 ∨ y = 8 ∨ y = 10 ∨ y = mr ∨ y = mr + 1) h h16 := kkL.tr kk8
                    have k6n : z_K (fun y => y = 6) h16 h16 := z_K.rf
                    have sk8 := sk_le (t := t) le8
                    have sk9 := sk_ge t n p8
                    refine W.eq (g2 := F0 m 72 ls [.int 1]) rfl ?_
                    refine lv_if_ne (tgt := 77) hx hb d_RecordReader_readField_72 (by decide) (fun c_72 => ?_) (fun c_72 => ?_)
                    · -- 72: True
                      refine lv_aload_n hx hb d_RecordReader_readField_77 rfl (lv_at hl 0 rfl) ?_
                      refine z_get hx hb hts (z_lay i_RecordReader) hown hK hw q8 rfl 0 (by decide) (z_in k_502 rfl) (fun _ h9 => h9) rfl d_RecordReader_readField_78 ?_
                      refine z_callV (n := 0) (As := []) (rest := []) ⟨hx, hb, hml, hown, hts⟩ (c_Scanner_next l g h16 e8 g16_b hn hlen hf (by omega)) (z_in k_234 rfl) (z_in k_8 rfl) (z_in k_524 rfl) (z_in k_232 rfl) (z_in k_233 rfl) (by decide +kernel) ⟨by first | exact Nat.le_of_ble_eq_true rfl | (dsimp only; omega) | omega, by first | exact Nat.le_of_ble_eq_true rfl | (dsimp only; omega) | omega⟩ hK hE hw hA rfl e8 rfl hl.1 (Nat.le_of_ble_eq_true rfl) d_RecordReader_readField_81 ⟨by first | exact Nat.le_of_ble_eq_true rfl | (dsimp only; omega) | omega, by first | exact Nat.le_of_ble_eq_true rfl | (dsimp only; omega) | omega⟩ rfl (fun r9 h9 H locs hp hw => ?_)
                      obtain ⟨r8, hh17⟩ := hp
                      subst r8
                      obtain ⟨h17, e8⟩ : ∃ x9, x9 = h9 := ⟨_, rfl⟩
                      subst e8
                      have f17_rd : h17 rd = some ((8, 0), .inr (9, [.ref sc, .ref q, .ref w, .ref tr, .long nu8])) := by rw [← hh17]; exact z_keep e8 q8 (z_t1 (by decide))
                      have f17_sc : h17 sc = some ((6, 0), .inr (7, [.ref b, .int (nI n), .int (nI (sk t n p8)), .int f8, .int w8, .int d8])) := by rw [← hh17]; exact z_put_eq
                      have f17_b : h17 b = some ((3, 0), .inl (g.2.1 0, len, .inl f)) := by rw [← hh17]; exact z_keep e8 g16_b (z_t1 (by decide))
                      have k617 : z_K (fun y => y = 6) h16 h17 := k6n.tr (by rw [← hh17]; exact z_K.put e8 rfl)
                      have kk17 : z_K (fun y => y = 6 ∨ y = 8 ∨ y = 10 ∨ y = mr ∨ y = mr + 1) h h17 := kk16.tr (by rw [← hh17]; exact z_K.put e8 (by first | decide | simp | omega))
                      refine W.eq (g2 := F0 m 84 ls [.int (bt t n (sk t n p8))]) rfl ?_
                      refine lv_bipush (v := 44) hx hb d_RecordReader_readField_84 (by decide) ?_
                      refine lv_icmp_ne (tgt := 105) hx hb d_RecordReader_readField_86 (by decide) (fun c_86 => ?_) (fun c_86 => ?_)
                      · -- 86: True
                        refine lv_iconst (v := 0) hx hb d_RecordReader_readField_105 (by decide) ?_
                        refine lv_istore (lv' := [(4, .int 0), (0, .ref rd), (1, .ref (adS fi)), (2, .int (nI pi)), (3, .int (nI d)), (5, .int (nI k1))]) hx hb d_RecordReader_readField_106 hl (by decide) rfl (fun ls hl => ?_)
                        refine lv_iinc (v := nI (k1 + 1)) (lv' := [(5, .int (nI (k1 + 1))), (4, .int 0), (0, .ref rd), (1, .ref (adS fi)), (2, .int (nI pi)), (3, .int (nI d))]) hx hb d_RecordReader_readField_108 hl (k := 5) rfl (nI_1 k1) (by decide) rfl (fun ls hl => ?_)
                        refine lv_goto (tgt := 52) hx hb d_RecordReader_readField_111 (by decide) ?_
                        refine W.widen (k := 2 * (R8.1 - R.1)) (n := 7 * (R8.1 - R.1) + (tbR R8 - tbR R)) (by first | exact Nat.le_of_ble_eq_true rfl | (dsimp only; omega) | omega) (by first | exact Nat.le_of_ble_eq_true rfl | (dsimp only; omega) | omega) ?_
                        refine ih_52 (k1 + 1) false (sk t n p8) R8 nu8 f8 w8 d8 h17 _ _ _ f17_rd f17_sc f17_b kk17 (nA8.k k617 (by omega) (by omega) (by omega)) (tr8.k k617 (by omega)) pA8 (⟨by omega, by omega, by omega, by omega, by omega, by omega, by omega, by omega, fun z => by cases z⟩) (by rw [← hR1, if_pos c_62, show 4001 - k1 = (4001 - (k1 + 1)) + 1 by omega]; simp only [rowL]; rw [hR8]; dsimp only; rw [if_neg c_86]; exact if_neg (by decide)) ?_ hw (lv_sub hl [2, 3, 4, 5, 1, 0] rfl)
                        omega
                      · -- 86: False
                        refine lv_aload_n hx hb d_RecordReader_readField_89 rfl (lv_at hl 0 rfl) ?_
                        refine z_get hx hb hts (z_lay i_RecordReader) hown hK hw f17_rd rfl 0 (by decide) (z_in k_502 rfl) (fun _ h9 => h9) rfl d_RecordReader_readField_90 ?_
                        refine lv_bipush (v := 44) hx hb d_RecordReader_readField_93 (by decide) ?_
                        refine z_callV (n := 1) (As := [.int 44]) (rest := []) ⟨hx, hb, hml, hown, hts⟩ (c_Scanner_takeSign (t := t) l g h17 f17_sc f17_b hn hlen hf (by omega)) (z_in k_456 rfl) (z_in k_8 rfl) (z_in k_523 rfl) (z_in k_454 rfl) (z_in k_455 rfl) (by decide +kernel) ⟨by first | exact Nat.le_of_ble_eq_true rfl | (dsimp only; omega) | omega, by first | exact Nat.le_of_ble_eq_true rfl | (dsimp only; omega) | omega⟩ hK hE hw hA rfl f17_sc rfl hl.1 (Nat.le_of_ble_eq_true rfl) d_RecordReader_readField_95 ⟨by first | exact Nat.le_of_ble_eq_true rfl | (dsimp only; omega) | omega, by first | exact Nat.le_of_ble_eq_true rfl | (dsimp only; omega) | omega⟩ rfl (fun r9 h9 H locs hp hw => ?_)
                        unfold tSg at hp
                        rw [sk_sk, if_pos c_86] at hp
                        obtain ⟨r8, hh18⟩ := hp
                        subst r8
                        obtain ⟨h18, e6⟩ : ∃ x9, x9 = h9 := ⟨_, rfl⟩
                        subst e6
                        have f18_rd : h18 rd = some ((8, 0), .inr (9, [.ref sc, .ref q, .ref w, .ref tr, .long nu8])) := by rw [← hh18]; exact z_keep f17_sc f17_rd (z_t1 (by decide))
                        have f18_sc : h18 sc = some ((6, 0), .inr (7, [.ref b, .int (nI n), .int (nI (sk t n p8 + 1)), .int f8, .int w8, .int d8])) := by rw [← hh18]; exact z_put_eq
                        have f18_b : h18 b = some ((3, 0), .inl (g.2.1 0, len, .inl f)) := by rw [← hh18]; exact z_keep f17_sc f17_b (z_t1 (by decide))
                        have k618 : z_K (fun y => y = 6) h16 h18 := k617.tr (by rw [← hh18]; exact z_K.put f17_sc rfl)
                        have kk18 : z_K (fun y => y = 6 ∨ y = 8 ∨ y = 10 ∨ y = mr ∨ y = mr + 1) h h18 := kk17.tr (by rw [← hh18]; exact z_K.put f17_sc (by first | decide | simp | omega))
                        have lt44 := bt_lt c_86
                        refine W.eq (g2 := F0 m 98 ls [.int 1]) rfl ?_
                        refine lv_if_eq (tgt := 105) hx hb d_RecordReader_readField_98 (by decide) (fun c_98 => ?_) (fun c_98 => ?_)
                        · -- 98: True
                          exact absurd c_98 (by decide)
                        · -- 98: False
                          refine lv_iconst (v := 1) hx hb d_RecordReader_readField_101 (by decide) ?_
                          refine lv_goto (tgt := 106) hx hb d_RecordReader_readField_102 (by decide) ?_
                          refine lv_istore (lv' := [(4, .int 1), (0, .ref rd), (1, .ref (adS fi)), (2, .int (nI pi)), (3, .int (nI d)), (5, .int (nI k1))]) hx hb d_RecordReader_readField_106 hl (by decide) rfl (fun ls hl => ?_)
                          refine lv_iinc (v := nI (k1 + 1)) (lv' := [(5, .int (nI (k1 + 1))), (4, .int 1), (0, .ref rd), (1, .ref (adS fi)), (2, .int (nI pi)), (3, .int (nI d))]) hx hb d_RecordReader_readField_108 hl (k := 5) rfl (nI_1 k1) (by decide) rfl (fun ls hl => ?_)
                          refine lv_goto (tgt := 52) hx hb d_RecordReader_readField_111 (by decide) ?_
                          refine W.widen (k := 2 * (R8.1 - R.1)) (n := 7 * (R8.1 - R.1) + (tbR R8 - tbR R)) (by first | exact Nat.le_of_ble_eq_true rfl | (dsimp only; omega) | omega) (by first | exact Nat.le_of_ble_eq_true rfl | (dsimp only; omega) | omega) ?_
                          refine ih_52 (k1 + 1) true (sk t n p8 + 1) R8 nu8 f8 w8 d8 h18 _ _ _ f18_rd f18_sc f18_b kk18 (nA8.k k618 (by omega) (by omega) (by omega)) (tr8.k k618 (by omega)) pA8 (⟨by omega, by omega, by omega, by omega, by omega, by omega, by omega, by omega, fun _ => by omega⟩) (by rw [← hR1, if_pos c_62, show 4001 - k1 = (4001 - (k1 + 1)) + 1 by omega]; simp only [rowL]; rw [hR8]; dsimp only; rw [if_pos c_86]; exact if_pos trivial) ?_ hw (lv_sub hl [2, 3, 4, 5, 1, 0] rfl)
                          omega
                    · -- 72: False
                      exact absurd c_72 (by decide)
          refine W.widen (k := 2 * (R.1 - R.1)) (n := 7 * (R.1 - R.1) + (tbR R - tbR R)) (by first | exact Nat.le_of_ble_eq_true rfl | (dsimp only; omega) | omega) (by first | exact Nat.le_of_ble_eq_true rfl | (dsimp only; omega) | omega) ?_
          exact loop_52 (4002 - 0 + 1) 0 true (sk t n (sk t n p + 1)) R nu9 fa ws wd h2 _ _ _ f2_rd f2_sc f2_b kk2 (hNA.k k62 (by omega) (by omega) (by omega)) (hTR.k k62 (by omega)) hpa (⟨by omega, by omega, by omega, by omega, rOK.1, rOK.2, by omega, by omega, fun _ => by omega⟩) (by unfold fldR; rw [if_pos c_5, if_pos ts1]; rw [if_neg c_39]; rfl) (by omega) hw (lv_sub hl [2, 3, 4, 5, 1, 0] rfl)
      · -- 25: False
        exact absurd c_25 (by decide)
    · -- ts1 False
      rw [if_neg ts1] at hp
      obtain ⟨r8, hh19⟩ := hp
      subst r8
      obtain ⟨h19, e8⟩ : ∃ x9, x9 = h9 := ⟨_, rfl⟩
      subst e8
      have f19_rd : h19 rd = some ((8, 0), .inr (9, [.ref sc, .ref q, .ref w, .ref tr, .long nu9])) := by rw [← hh19]; exact z_keep hsc hrd (z_t1 (by decide))
      have f19_sc : h19 sc = some ((6, 0), .inr (7, [.ref b, .int (nI n), .int (nI (sk t n p)), .int (nI (sk t n p)), .int ws, .int wd])) := by rw [← hh19]; exact z_put_eq
      have f19_b : h19 b = some ((3, 0), .inl (g.2.1 0, len, .inl f)) := by rw [← hh19]; exact z_keep hsc hb0 (z_t1 (by decide))
      have f19_adS_fi : h19 (adS fi) = some ((r + 1, fi), .inr (4, [.int (nI fi), .int (fKi (S.2 fi)), .int (fTy (S.2 fi)), .int (fGr (S.2 fi)), .ref (na fi), .int (fCo (S.2 fi)), .int (fRe (S.2 fi)), .int (fDe (S.2 fi)), .int (nI (rq S (nI fi)))])) := by rw [← hh19]; exact z_keep hsc hfdc (by first | decide | (refine z_t1 ?_; omega) | (refine z_t2 ?_; omega))
      have k619 : z_K (fun y => y = 6) h h19 := k6z.tr (by rw [← hh19]; exact z_K.put hsc rfl)
      have kk19 : z_K (fun y => y = 6 ∨ y = 8 ∨ y = 10 ∨ y = mr ∨ y = mr + 1) h h19 := kk0.tr (by rw [← hh19]; exact z_K.put hsc (by first | decide | simp | omega))
      refine W.eq (g2 := F0 m 25 ls [.int 0]) rfl ?_
      refine lv_if_ne (tgt := 30) hx hb d_RecordReader_readField_25 (by decide) (fun c_25 => ?_) (fun c_25 => ?_)
      · -- 25: True
        exact absurd (by decide) c_25
      · -- 25: False
        refine lv_iconst (v := 0) hx hb d_RecordReader_readField_28 (by decide) ?_
        have eW : fldR VR S t n fi p R = .inl (sk t n p, R) := by unfold fldR; rw [if_pos c_5, if_neg ts1]
        have eZ1 : (rrR (fldR VR S t n fi p R)).1 = R.1 := by rw [eW]; rfl
        have eZ2 : tbR (rrR (fldR VR S t n fi p R)) = tbR R := by rw [eW]; rfl
        exact z_zret hx hb hr rfl hlocks hw (by rw [eW]; exact ⟨kk19, ⟨_, f19_rd⟩, (hTR.k k619 (by omega)), (hNA.k k619 (by omega) (by omega) (by omega)), hpa, rfl, ⟨_, _, _, _, f19_sc, rfl⟩⟩) (by first | exact Nat.le_of_ble_eq_true rfl | (dsimp only; omega) | omega) (by first | exact Nat.le_of_ble_eq_true rfl | (dsimp only; omega) | omega) d_RecordReader_readField_29
  · -- 5: False
    have eV : fldR VR S t n fi p R = VR p R := if_neg c_5
    have eV1 : (rrR (fldR VR S t n fi p R)).1 = (rrR (VR p R)).1 := by rw [eV]
    have eV2 : tbR (rrR (fldR VR S t n fi p R)) = tbR (rrR (VR p R)) := by rw [eV]
    refine lv_aload_n hx hb d_RecordReader_readField_8 rfl (lv_at hl 0 rfl) ?_
    refine lv_aload_n hx hb d_RecordReader_readField_9 rfl (lv_at hl 1 rfl) ?_
    refine lv_iload_n hx hb d_RecordReader_readField_10 rfl (lv_at hl 2 rfl) ?_
    refine lv_iload_n hx hb d_RecordReader_readField_11 rfl (lv_at hl 3 rfl) ?_
    refine z_callV (n := 3) (As := [.ref (adS fi), .int (nI pi), .int (nI d)]) (rest := []) ⟨hx, hb, hml, hown, hts⟩ (hV h p R _ _ _ _ hS hrd hsc hb0 hTR hNA hpa (by omega) (by omega) (by omega) (by omega)) (z_in k_543 rfl) (z_in k_18 rfl) (z_in k_540 rfl) (z_in k_542 rfl) (z_in ks_8 rfl) (by decide +kernel) ⟨by first | exact Nat.le_of_ble_eq_true rfl | (dsimp only; omega) | omega, by first | exact Nat.le_of_ble_eq_true rfl | (dsimp only; omega) | omega⟩ hK hE hw hA rfl hrd rfl hl.1 (Nat.le_of_ble_eq_true rfl) d_RecordReader_readField_12 ⟨by first | exact Nat.le_of_ble_eq_true rfl | (dsimp only; omega) | omega, by first | exact Nat.le_of_ble_eq_true rfl | (dsimp only; omega) | omega⟩ rfl (fun r9 h9 H locs hp hw => ?_)
    obtain ⟨kk8, ⟨nu8, q8⟩, tr8, nA8, pA8, hp⟩ := hp
    rcases hR8 : VR p R with ⟨F8, R8⟩ | ⟨p8, R8⟩
    · -- rv False
      rw [hR8] at hp nA8 pA8
      obtain ⟨r8, pf8, f8, w8, d8, e8, g8⟩ := hp
      have nA8 : NdAt g h9 mr w S R8 := nA8
      have pA8 : paOK R8 := pA8
      subst r8
      obtain ⟨h20, e7⟩ : ∃ x9, x9 = h9 := ⟨_, rfl⟩
      subst e7
      have z8a : (rrR (VR p R)).1 = R8.1 := by rw [hR8]; rfl
      have z8b : (rrR (.inl (F8, R8) : RRes)).1 = R8.1 := rfl
      have z8c : tbR (rrR (VR p R)) = tbR R8 := by rw [hR8]; rfl
      have z8d : tbR (rrR (.inl (F8, R8) : RRes)) = tbR R8 := rfl
      have q8 : h20 rd = some ((8, 0), .inr (9, [.ref sc, .ref q, .ref w, .ref tr, .long nu8])) := q8
      have g20_b : h20 b = some ((3, 0), .inl (g.2.1 0, len, .inl f)) := kk8 _ _ _ hb0 (by simp; try omega)
      have g20_adS_fi : h20 (adS fi) = some ((r + 1, fi), .inr (4, [.int (nI fi), .int (fKi (S.2 fi)), .int (fTy (S.2 fi)), .int (fGr (S.2 fi)), .ref (na fi), .int (fCo (S.2 fi)), .int (fRe (S.2 fi)), .int (fDe (S.2 fi)), .int (nI (rq S (nI fi)))])) := kk8 _ _ _ hfdc (by simp; try omega)
      have kk20 : z_K (fun y => y = 6 ∨ y = 8 ∨ y = 10 ∨ y = mr ∨ y = mr + 1) h h20 := kk0.tr kk8
      have k6n : z_K (fun y => y = 6) h20 h20 := z_K.rf
      refine W.eq (g2 := F0 m 15 ls [.int 0]) rfl ?_
      have eW : fldR VR S t n fi p R = .inl (F8, R8) := by rw [eV, hR8]
      have eZ1 : (rrR (fldR VR S t n fi p R)).1 = R8.1 := by rw [eW]; rfl
      have eZ2 : tbR (rrR (fldR VR S t n fi p R)) = tbR R8 := by rw [eW]; rfl
      exact z_zret hx hb hr rfl hlocks hw (by rw [eW]; exact ⟨kk20, ⟨_, q8⟩, tr8, nA8, pA8, rfl, ⟨_, _, _, _, e8, g8⟩⟩) (by first | exact Nat.le_of_ble_eq_true rfl | (dsimp only; omega) | omega) (by first | exact Nat.le_of_ble_eq_true rfl | (dsimp only; omega) | omega) d_RecordReader_readField_15
    · -- rv True
      rw [hR8] at hp nA8 pA8
      obtain ⟨r8, ⟨f8, w8, d8, e8⟩, le8, le9, le10⟩ := hp
      dsimp only at le8 le9 le10
      have nA8 : NdAt g h9 mr w S R8 := nA8
      have pA8 : paOK R8 := pA8
      subst r8
      obtain ⟨h21, e7⟩ : ∃ x9, x9 = h9 := ⟨_, rfl⟩
      subst e7
      have z8a : (rrR (VR p R)).1 = R8.1 := by rw [hR8]; rfl
      have z8b : (rrR (.inr (p8, R8) : RRes)).1 = R8.1 := rfl
      have z8c : tbR (rrR (VR p R)) = tbR R8 := by rw [hR8]; rfl
      have z8d : tbR (rrR (.inr (p8, R8) : RRes)) = tbR R8 := rfl
      have q8 : h21 rd = some ((8, 0), .inr (9, [.ref sc, .ref q, .ref w, .ref tr, .long nu8])) := q8
      have g21_b : h21 b = some ((3, 0), .inl (g.2.1 0, len, .inl f)) := kk8 _ _ _ hb0 (by simp; try omega)
      have g21_adS_fi : h21 (adS fi) = some ((r + 1, fi), .inr (4, [.int (nI fi), .int (fKi (S.2 fi)), .int (fTy (S.2 fi)), .int (fGr (S.2 fi)), .ref (na fi), .int (fCo (S.2 fi)), .int (fRe (S.2 fi)), .int (fDe (S.2 fi)), .int (nI (rq S (nI fi)))])) := kk8 _ _ _ hfdc (by simp; try omega)
      have kk21 : z_K (fun y => y = 6 ∨ y = 8 ∨ y = 10 ∨ y = mr ∨ y = mr + 1) h h21 := kk0.tr kk8
      have k6n : z_K (fun y => y = 6) h21 h21 := z_K.rf
      have sk8 := sk_le (t := t) le8
      have sk9 := sk_ge t n p8
      refine W.eq (g2 := F0 m 15 ls [.int 1]) rfl ?_
      have eW : fldR VR S t n fi p R = .inr (p8, R8) := by rw [eV, hR8]
      have eZ1 : (rrR (fldR VR S t n fi p R)).1 = R8.1 := by rw [eW]; rfl
      have eZ2 : tbR (rrR (fldR VR S t n fi p R)) = tbR R8 := by rw [eW]; rfl
      exact z_zret hx hb hr rfl hlocks hw (by rw [eW]; exact ⟨kk21, ⟨_, q8⟩, tr8, nA8, pA8, rfl, ⟨_, _, _, e8⟩, by dsimp only; omega, by dsimp only; omega, by dsimp only; omega⟩) (by first | exact Nat.le_of_ble_eq_true rfl | (dsimp only; omega) | omega) (by first | exact Nat.le_of_ble_eq_true rfl | (dsimp only; omega) | omega) d_RecordReader_readField_15

def memE (S : Sch) (t : Nat → Nat) (n : Nat) (gr : Int32) (st p : Nat) (R : Rec) : RRes := if bt t n (sk t n p) = 125 ∧ hrq S gr st = true then .inl (sk t n p, R) else sgnR t n 125 p R
def memL (F : Nat → Nat → Rec → RRes) (S : Sch) (t : Nat → Nat) (n : Nat) (gr : Int32) : Nat → Nat → Nat → Rec → RRes
  | 0, st, p, R => memE S t n gr st p R
  | c + 1, st, p, R => match namR S t n gr st p with
    | .inl x => .inl (x, R)
    | .inr y => if bt t n (sk t n y.2) = 58 then (match F y.1 (sk t n y.2 + 1) R with
      | .inl x => .inl x
      | .inr z => if bt t n (sk t n z.1) = 44 then memL F S t n gr c (y.1 + 1) (sk t n z.1 + 1) z.2 else memE S t n gr (y.1 + 1) (sk t n z.1) z.2) else .inl (sk t n y.2, R)
def memR (F : Nat → Nat → Rec → RRes) (S : Sch) (t : Nat → Nat) (n : Nat) (gr : Int32) (st p : Nat) (R : Rec) : RRes :=
  if bt t n (sk t n p) = 123 then (if bt t n (sk t n (sk t n p + 1)) = 125 then memE S t n gr st (sk t n (sk t n p + 1)) R else memL F S t n gr 129 st (sk t n (sk t n p + 1)) R) else .inl (sk t n p, R)
def memD (S : Sch) (t : Nat → Nat) (n : Nat) : Nat → Nat → Rec → Nat → Nat → RRes
  | 0, p, R, _, _ => .inl (p, R)
  | D + 1, p, R, pi, gi => memR (fun fi p R => fldR (fun p R => valR (memD S t n D) S t n fi pi p R) S t n fi p R) S t n (nI gi) (gi + 1) p R
/-- a record from { to } -/
def memT (S : Sch) (t : Nat → Nat) (n p : Nat) (R : Rec) : RRes := memR (fun fi p R => fldR (fun p R => valR (memD S t n 16) S t n fi 0 p R) S t n fi p R) S t n (-1) 0 p R
theorem memE_mono (S : Sch) (t : Nat → Nat) (n : Nat) (gr : Int32) (st p : Nat) (R : Rec) : rmono R (memE S t n gr st p R) := by
  unfold memE
  split
  · exact rmono.rf rfl
  · exact sgnR_mono _ _ _ _ _
theorem memL_mono {F : Nat → Nat → Rec → RRes} {S : Sch} {t : Nat → Nat} {n : Nat} {gr : Int32} (hF : ∀ fi p R, rmono R (F fi p R)) : ∀ c st p R, rmono R (memL F S t n gr c st p R) := by
  intro c
  induction c with
  | zero => intro st p R; exact memE_mono _ _ _ _ _ _ _
  | succ c ih =>
    intro st p R
    simp only [memL]
    cases namR S t n gr st p with
    | inl x => exact rmono.rf rfl
    | inr y =>
      dsimp only
      split
      · have h := hF y.1 (sk t n y.2 + 1) R
        generalize F y.1 (sk t n y.2 + 1) R = X at h
        cases X with
        | inl x => exact h
        | inr z =>
          dsimp only
          split
          · exact rmono.tr h (ih _ _ _)
          · exact rmono.tr h (memE_mono _ _ _ _ _ _ _)
      · exact rmono.rf rfl
theorem memL_mid {F : Nat → Nat → Rec → RRes} {S : Sch} {t : Nat → Nat} {n : Nat} {gr : Int32} (hF : ∀ fi p R, rmono R (F fi p R)) (c st p : Nat) (R : Rec) {fi p1 : Nat} (hN : namR S t n gr st p = .inr (fi, p1)) (h58 : bt t n (sk t n p1) = 58) : rmono (rrR (F fi (sk t n p1 + 1) R)) (memL F S t n gr (c + 1) st p R) := by
  simp only [memL]
  rw [hN]
  dsimp only
  rw [if_pos h58]
  generalize F fi (sk t n p1 + 1) R = X
  cases X with
  | inl x => exact rmono.rf rfl
  | inr z =>
    dsimp only
    split
    · exact memL_mono hF _ _ _ _
    · exact memE_mono _ _ _ _ _ _ _
theorem memR_mono {F : Nat → Nat → Rec → RRes} {S : Sch} {t : Nat → Nat} {n : Nat} {gr : Int32} (hF : ∀ fi p R, rmono R (F fi p R)) (st p : Nat) (R : Rec) : rmono R (memR F S t n gr st p R) := by
  unfold memR
  split
  · split
    · exact memE_mono _ _ _ _ _ _ _
    · exact memL_mono hF _ _ _ _
  · exact rmono.rf rfl
theorem memD_mono {S : Sch} {t : Nat → Nat} {n : Nat} : ∀ D p R pi gi, rmono R (memD S t n D p R pi gi) := by
  intro D
  induction D with
  | zero => intro p R pi gi; exact rmono.rf rfl
  | succ D ih => intro p R pi gi; exact memR_mono (fun fi p R => fldR_mono (fun p R => valR_mono ih)) _ _ _
theorem namR_ok {S : Sch} {t : Nat → Nat} {n : Nat} {gr : Int32} {st p : Nat} {x : Nat × Nat} (ht : ∀ k, k < n → t k < 256) (hp : p ≤ n) (hs : S.1 ≤ 128) (h : namR S t n gr st p = .inr x) : x.1 < S.1 ∧ st ≤ x.1 ∧ fGr (S.2 x.1) = gr ∧ x.2 ≤ n ∧ p + 1 ≤ x.2 := by
  unfold namR at h
  split at h
  · rename_i hl
    have h1 := we_gt ht hl
    have h2 := we_le (t := t) (sk_le (t := t) hp)
    have h3 := sk_ge t n p
    split at h
    · cases h
    · rename_i hne
      cases h
      rcases mnt_ok (S := S) (gr := gr) (t := t) (i := sk t n p) (j := we t n (sk t n p)) (S.1 - st) st with e | ⟨k, e1, e2, e3, e4⟩
      · exact absurd e hne
      · have e5 : (mnt S gr t (sk t n p) (we t n (sk t n p)) st).toNatClampNeg = k := by
          show (mntR S gr t (sk t n p) (we t n (sk t n p)) (S.1 - st) st).toNatClampNeg = k
          rw [e3, nI_clamp (by omega)]
        refine ⟨?_, ?_, ?_, by dsimp only; omega, by dsimp only; omega⟩
        · dsimp only; omega
        · dsimp only; omega
        · dsimp only; rw [e5]; exact e4
  · cases h

set_option maxHeartbeats 4000000 in
set_option maxRecDepth 100000 in
theorem c_readMembers_of_top (l : Launch) (g : z_G) (h : z_H) {r q : Nat} {S : Sch} {fa9 ca : Nat} {adS na : Nat → Nat} {ff : Nat → Option Nat} {cf : Nat → Int32} {nf : Nat → Nat → Int32} {rd sc mr w tr b len n p pi gi d fM lM : Nat} {f : Nat → Int32} {fa ws wd : Int32} {nu9 : Int64} {t : Nat → Nat} {R : Rec} {FR : Nat → Nat → Rec → RRes} (hrd : h rd = some ((8, 0), .inr (9, [.ref sc, .ref q, .ref w, .ref tr, .long nu9]))) (hsc : h sc = some ((6, 0), .inr (7, [.ref b, .int (nI n), .int (nI p), .int fa, .int ws, .int wd]))) (hb0 : h b = some ((3, 0), .inl (g.2.1 0, len, .inl f))) (hS : SchP g h r q S fa9 ca adS na ff cf nf) (hn : n ≤ len) (hlen : len < 2 ^ 31) (hf : ∀ k, k < n → t k < 256 ∧ f k = sb_b (t k)) (hp : p ≤ n) (hl29 : len < 2 ^ 29) (hn4 : n ≤ 4000) (hm : mr < 60) (hm2 : 12 ≤ mr) (hr0 : 100 ≤ r) (hTR : trAt g h tr []) (hNA : NdAt g h mr w S R) (hpa : paOK R) (hpi9 : pi < R.1) (hc2 : 2 * R.1 ≤ p + 2) (htb0 : tbR R ≤ p) (hd9 : d ≤ 16) (hF : ∀ (fi : Nat), fi < S.1 → ∀ (h : z_H) (p : Nat) (R : Rec) (fa ws wd : Int32) (nu9 : Int64), SchP g h r q S fa9 ca adS na ff cf nf → h rd = some ((8, 0), .inr (9, [.ref sc, .ref q, .ref w, .ref tr, .long nu9])) → h sc = some ((6, 0), scE b n p fa ws wd) → h b = some ((3, 0), .inl (g.2.1 0, len, .inl f)) → trAt g h tr [] → NdAt g h mr w S R → paOK R → p ≤ n → pi < R.1 → 2 * R.1 + 1 ≤ p → tbR R ≤ p → z_C l y_RecordReader_readField prog_6_method_4_code 6 (Option.some Jvm.ClassFile.FieldType.boolean) fM lM (2 * ((rrR (FR fi p R)).1 - R.1)) (7 * ((rrR (FR fi p R)).1 - R.1) + (tbR (rrR (FR fi p R)) - tbR R)) g [.ref rd, .ref (adS fi), .int (nI pi), .int (nI d)] h (vlP g (FR fi p R) h mr w S rd sc q tr b n)) (hFo : ∀ fi p R, rmono R (FR fi p R)) : z_C l y_RecordReader_readMembers prog_6_method_2_code 8 (Option.some Jvm.ClassFile.FieldType.boolean) (fM + 5) (lM + 150) (2 * ((rrR (memR FR S t n (-1) 0 p R)).1 - R.1)) (7 * ((rrR (memR FR S t n (-1) 0 p R)).1 - R.1) + (tbR (rrR (memR FR S t n (-1) 0 p R)) - tbR R)) g [.ref rd, .int (-1), .int (nI pi), .int (nI d)] h (vlP g (memR FR S t n (-1) 0 p R) h mr w S rd sc q tr b n) := by
  refine z_C.of (by decide) (Nat.le_of_ble_eq_true rfl) (fun pg en s m below meth cd A ls hx hb hml hr hts hown hlocks hnm hK hE hA hw hl => ?_)
  have hl : lv_has ls 8 [(0, .ref rd), (1, .int (-1)), (2, .int (nI pi)), (3, .int (nI d))] := hl
  have sk1 := sk_le (t := t) hp
  have sk2 := sk_ge t n p
  have hs8 : S.1 ≤ 128 := hS.2.2.2.2.2.2.2.1
  have k6z : z_K (fun y => y = 6) h h := z_K.rf
  have rOK : rmono R (memR FR S t n (-1) 0 p R) := memR_mono hFo _ _ _
  have rOK1 : R.1 ≤ (rrR (memR FR S t n (-1) 0 p R)).1 := rOK.1
  have rOK2 : tbR R ≤ tbR (rrR (memR FR S t n (-1) 0 p R)) := rOK.2
  have kk0 : z_K (fun y => y = 6 ∨ y = 8 ∨ y = 10 ∨ y = mr ∨ y = mr + 1) h h := z_K.rf
  refine lv_iload_n hx hb d_RecordReader_readMembers_0 rfl (lv_at hl 3 rfl) ?_
  refine lv_bipush (v := 16) hx hb d_RecordReader_readMembers_1 (by decide) ?_
  refine lv_icmp_le (tgt := 14) hx hb d_RecordReader_readMembers_3 (by decide) (fun c_3 => ?_) (fun c_3 => ?_)
  · -- 3: True
    have c_3 : d ≤ 16 := (nI_leI (a := d) (b := 16) (by omega) (by omega)).mp c_3
    refine lv_aload_n hx hb d_RecordReader_readMembers_14 rfl (lv_at hl 0 rfl) ?_
    refine z_get hx hb hts (z_lay i_RecordReader) hown hK hw hrd rfl 0 (by decide) (z_in k_502 rfl) (fun _ h9 => h9) rfl d_RecordReader_readMembers_15 ?_
    refine lv_bipush (v := 123) hx hb d_RecordReader_readMembers_18 (by decide) ?_
    refine z_callV (n := 1) (As := [.int 123]) (rest := []) ⟨hx, hb, hml, hown, hts⟩ (c_Scanner_takeSign (t := t) l g h hsc hb0 hn hlen hf (by omega)) (z_in k_456 rfl) (z_in k_8 rfl) (z_in k_523 rfl) (z_in k_454 rfl) (z_in k_455 rfl) (by decide +kernel) ⟨by first | exact Nat.le_of_ble_eq_true rfl | (dsimp only; omega) | omega, by first | exact Nat.le_of_ble_eq_true rfl | (dsimp only; omega) | omega⟩ hK hE hw hA rfl hsc rfl hl.1 (Nat.le_of_ble_eq_true rfl) d_RecordReader_readMembers_20 ⟨by first | exact Nat.le_of_ble_eq_true rfl | (dsimp only; omega) | omega, by first | exact Nat.le_of_ble_eq_true rfl | (dsimp only; omega) | omega⟩ rfl (fun r9 h9 H locs hp hw => ?_)
    unfold tSg at hp
    by_cases ts1 : bt t n (sk t n p) = 123
    · -- ts1 True
      rw [if_pos ts1] at hp
      obtain ⟨r8, hh1⟩ := hp
      subst r8
      obtain ⟨h1, e8⟩ : ∃ x9, x9 = h9 := ⟨_, rfl⟩
      subst e8
      have f1_rd : h1 rd = some ((8, 0), .inr (9, [.ref sc, .ref q, .ref w, .ref tr, .long nu9])) := by rw [← hh1]; exact z_keep hsc hrd (z_t1 (by decide))
      have f1_sc : h1 sc = some ((6, 0), .inr (7, [.ref b, .int (nI n), .int (nI (sk t n p + 1)), .int fa, .int ws, .int wd])) := by rw [← hh1]; exact z_put_eq
      have f1_b : h1 b = some ((3, 0), .inl (g.2.1 0, len, .inl f)) := by rw [← hh1]; exact z_keep hsc hb0 (z_t1 (by decide))
      have k61 : z_K (fun y => y = 6) h h1 := k6z.tr (by rw [← hh1]; exact z_K.put hsc rfl)
      have kk1 : z_K (fun y => y = 6 ∨ y = 8 ∨ y = 10 ∨ y = mr ∨ y = mr + 1) h h1 := kk0.tr (by rw [← hh1]; exact z_K.put hsc (by first | decide | simp | omega))
      refine W.eq (g2 := F0 m 23 ls [.int 1]) rfl ?_
      refine lv_if_ne (tgt := 28) hx hb d_RecordReader_readMembers_23 (by decide) (fun c_23 => ?_) (fun c_23 => ?_)
      · -- 23: True
        have lt123 := bt_lt ts1
        have skq := sk_le (t := t) (show sk t n p + 1 ≤ n by omega)
        have skq2 := sk_ge t n (sk t n p + 1)
        refine lv_iload_n hx hb d_RecordReader_readMembers_28 rfl (lv_at hl 1 rfl) ?_
        refine lv_iconst (v := 1) hx hb d_RecordReader_readMembers_29 (by decide) ?_
        refine lv_iadd hx hb d_RecordReader_readMembers_30 ?_
        refine z_topi (y := 0) (by decide) ?_
        refine lv_istore (lv' := [(4, .int 0), (0, .ref rd), (1, .int (-1)), (2, .int (nI pi)), (3, .int (nI d))]) hx hb d_RecordReader_readMembers_31 hl (by decide) rfl (fun ls hl => ?_)
        refine lv_aload_n hx hb d_RecordReader_readMembers_33 rfl (lv_at hl 1 rfl) ?_
        refine z_get hx hb hts (z_lay i_RecordReader) hown hK hw f1_rd rfl 0 (by decide) (z_in k_502 rfl) (fun _ h9 => h9) rfl d_RecordReader_readMembers_34 ?_
        refine z_callV (n := 0) (As := []) (rest := []) ⟨hx, hb, hml, hown, hts⟩ (c_Scanner_next l g h1 f1_sc f1_b hn hlen hf (by omega)) (z_in k_234 rfl) (z_in k_8 rfl) (z_in k_524 rfl) (z_in k_232 rfl) (z_in k_233 rfl) (by decide +kernel) ⟨by first | exact Nat.le_of_ble_eq_true rfl | (dsimp only; omega) | omega, by first | exact Nat.le_of_ble_eq_true rfl | (dsimp only; omega) | omega⟩ hK hE hw hA rfl f1_sc rfl hl.1 (Nat.le_of_ble_eq_true rfl) d_RecordReader_readMembers_37 ⟨by first | exact Nat.le_of_ble_eq_true rfl | (dsimp only; omega) | omega, by first | exact Nat.le_of_ble_eq_true rfl | (dsimp only; omega) | omega⟩ rfl (fun r9 h9 H locs hp hw => ?_)
        obtain ⟨r8, hh2⟩ := hp
        subst r8
        obtain ⟨h2, e8⟩ : ∃ x9, x9 = h9 := ⟨_, rfl⟩
        subst e8
        have f2_rd : h2 rd = some ((8, 0), .inr (9, [.ref sc, .ref q, .ref w, .ref tr, .long nu9])) := by rw [← hh2]; exact z_keep f1_sc f1_rd (z_t1 (by decide))
        have f2_sc : h2 sc = some ((6, 0), .inr (7, [.ref b, .int (nI n), .int (nI (sk t n (sk t n p + 1))), .int fa, .int ws, .int wd])) := by rw [← hh2]; exact z_put_eq
        have f2_b : h2 b = some ((3, 0), .inl (g.2.1 0, len, .inl f)) := by rw [← hh2]; exact z_keep f1_sc f1_b (z_t1 (by decide))
        have k62 : z_K (fun y => y = 6) h h2 := k61.tr (by rw [← hh2]; exact z_K.put f1_sc rfl)
        have kk2 : z_K (fun y => y = 6 ∨ y = 8 ∨ y = 10 ∨ y = mr ∨ y = mr + 1) h h2 := kk1.tr (by rw [← hh2]; exact z_K.put f1_sc (by first | decide | simp | omega))
        refine W.eq (g2 := F0 m 40 ls [.int (bt t n (sk t n (sk t n p + 1)))]) rfl ?_
        refine lv_bipush (v := 125) hx hb d_RecordReader_readMembers_40 (by decide) ?_
        refine lv_icmp_eq (tgt := 49) hx hb d_RecordReader_readMembers_42 (by decide) (fun c_42 => ?_) (fun c_42 => ?_)
        · -- 42: True
          refine lv_iconst (v := 0) hx hb d_RecordReader_readMembers_49 (by decide) ?_
          refine lv_istore (lv' := [(5, .int 0), (4, .int 0), (0, .ref rd), (1, .int (-1)), (2, .int (nI pi)), (3, .int (nI d))]) hx hb d_RecordReader_readMembers_50 hl (by decide) rfl (fun ls hl => ?_)
          refine lv_iconst (v := 0) hx hb d_RecordReader_readMembers_52 (by decide) ?_
          refine lv_istore (lv' := [(6, .int 0), (5, .int 0), (4, .int 0), (0, .ref rd), (1, .int (-1)), (2, .int (nI pi)), (3, .int (nI d))]) hx hb d_RecordReader_readMembers_53 hl (by decide) rfl (fun ls hl => ?_)
          have loop_55 : ∀ (fuel : Nat) (k1 : Nat) (st1 : Nat) (m1 : Bool) (p1 : Nat) (R1 : Rec) (nu1 : Int64) (fa1 : Int32) (ws1 : Int32) (wd1 : Int32) (hL : z_H) (H : Heap) (locs : List Loc) (ls : Array Slot) (L55_rd : hL rd = some ((8, 0), .inr (9, [.ref sc, .ref q, .ref w, .ref tr, .long nu1]))) (L55_sc : hL sc = some ((6, 0), .inr (7, [.ref b, .int (nI n), .int (nI p1), .int fa1, .int ws1, .int wd1]))) (L55_b : hL b = some ((3, 0), .inl (g.2.1 0, len, .inl f))) (kkL : z_K (fun y => y = 6 ∨ y = 8 ∨ y = 10 ∨ y = mr ∨ y = mr + 1) h hL) (nA1 : NdAt g hL mr w S R1) (tA1 : trAt g hL tr []) (pA1 : paOK R1) (le1 : p1 ≤ n ∧ R.1 ≤ R1.1 ∧ tbR R ≤ tbR R1 ∧ k1 ≤ 129 ∧ st1 ≤ 128 ∧ R1.1 ≤ (rrR (memR FR S t n (-1) 0 p R)).1 ∧ tbR R1 ≤ tbR (rrR (memR FR S t n (-1) 0 p R)) ∧ 2 * R1.1 ≤ p1 + 1 ∧ tbR R1 ≤ p1) (hR1 : (if m1 = true then memL FR S t n (-1) (129 - k1) st1 p1 R1 else memE S t n (-1) st1 p1 R1) = memR FR S t n (-1) 0 p R), (130 - k1) < fuel → z_S g A s.heap hL H locs → lv_has ls 8 [(0, .ref rd), (1, .int (-1)), (2, .int (nI pi)), (3, .int (nI d)), (4, .int (nI st1)), (5, .int (zb m1)), (6, .int (nI k1))] → W pg l en { frames := fM + 5, cells := 2 * ((rrR (memR FR S t n (-1) 0 p R)).1 - R.1), slots := 7 * ((rrR (memR FR S t n (-1) 0 p R)).1 - R.1) + (tbR (rrR (memR FR S t n (-1) 0 p R)) - tbR R), locals := lM + 150 } s m [.ref rd, .int (-1), .int (nI pi), .int (nI d)].toArray below meth cd H locs (2 * (R1.1 - R.1)) (7 * (R1.1 - R.1) + (tbR R1 - tbR R)) (MQ below (z_Q g A (vlP g (memR FR S t n (-1) 0 p R) h mr w S rd sc q tr b n)) [.ref rd, .int (-1), .int (nI pi), .int (nI d)].toArray s (2 * ((rrR (memR FR S t n (-1) 0 p R)).1 - R.1)) (7 * ((rrR (memR FR S t n (-1) 0 p R)).1 - R.1) + (tbR (rrR (memR FR S t n (-1) 0 p R)) - tbR R)) A) (F0 m 55 ls []) := by
            intro fuel
            induction fuel with
            | zero => intro k1 st1 m1 p1 R1 nu1 fa1 ws1 wd1 hL H locs ls L55_rd L55_sc L55_b kkL nA1 tA1 pA1 le1 hR1 hm; exact absurd hm (Nat.not_lt_zero _)
            | succ fuel ih_55 =>
              intro k1 st1 m1 p1 R1 nu1 fa1 ws1 wd1 hL H locs ls L55_rd L55_sc L55_b kkL nA1 tA1 pA1 le1 hR1 hm hw hl
              have k6L : z_K (fun y => y = 6) hL hL := z_K.rf
              have skp1 := sk_le (t := t) le1.1
              have skp2 := sk_ge t n p1
              refine lv_iload hx hb d_RecordReader_readMembers_55 (lv_at hl 6 rfl) ?_
              refine lv_sipush (v := 128) hx hb d_RecordReader_readMembers_57 (by decide) ?_
              refine lv_icmp_gt (tgt := 153) hx hb d_RecordReader_readMembers_60 (by decide) (fun c_60 => ?_) (fun c_60 => ?_)
              · -- 60: True
                have c_60 : 128 < k1 := (nI_ltI (a := 128) (b := k1) (by omega) (by omega)).mp c_60
                refine lv_aload_n hx hb d_RecordReader_readMembers_153 rfl (lv_at hl 0 rfl) ?_
                refine z_get hx hb hts (z_lay i_RecordReader) hown hK hw L55_rd rfl 0 (by decide) (z_in k_502 rfl) (fun _ h9 => h9) rfl d_RecordReader_readMembers_154 ?_
                refine z_callV (n := 0) (As := []) (rest := []) ⟨hx, hb, hml, hown, hts⟩ (c_Scanner_next l g hL L55_sc L55_b hn hlen hf (by omega)) (z_in k_234 rfl) (z_in k_8 rfl) (z_in k_524 rfl) (z_in k_232 rfl) (z_in k_233 rfl) (by decide +kernel) ⟨by first | exact Nat.le_of_ble_eq_true rfl | (dsimp only; omega) | omega, by first | exact Nat.le_of_ble_eq_true rfl | (dsimp only; omega) | omega⟩ hK hE hw hA rfl L55_sc rfl hl.1 (Nat.le_of_ble_eq_true rfl) d_RecordReader_readMembers_157 ⟨by first | exact Nat.le_of_ble_eq_true rfl | (dsimp only; omega) | omega, by first | exact Nat.le_of_ble_eq_true rfl | (dsimp only; omega) | omega⟩ rfl (fun r9 h9 H locs hp hw => ?_)
                obtain ⟨r8, hh3⟩ := hp
                subst r8
                obtain ⟨h3, e8⟩ : ∃ x9, x9 = h9 := ⟨_, rfl⟩
                subst e8
                have f3_rd : h3 rd = some ((8, 0), .inr (9, [.ref sc, .ref q, .ref w, .ref tr, .long nu1])) := by rw [← hh3]; exact z_keep L55_sc L55_rd (z_t1 (by decide))
                have f3_sc : h3 sc = some ((6, 0), .inr (7, [.ref b, .int (nI n), .int (nI (sk t n p1)), .int fa1, .int ws1, .int wd1])) := by rw [← hh3]; exact z_put_eq
                have f3_b : h3 b = some ((3, 0), .inl (g.2.1 0, len, .inl f)) := by rw [← hh3]; exact z_keep L55_sc L55_b (z_t1 (by decide))
                have k63 : z_K (fun y => y = 6) hL h3 := k6L.tr (by rw [← hh3]; exact z_K.put L55_sc rfl)
                have kk3 : z_K (fun y => y = 6 ∨ y = 8 ∨ y = 10 ∨ y = mr ∨ y = mr + 1) h h3 := kkL.tr (by rw [← hh3]; exact z_K.put L55_sc (by first | decide | simp | omega))
                refine W.eq (g2 := F0 m 160 ls [.int (bt t n (sk t n p1))]) rfl ?_
                refine lv_bipush (v := 125) hx hb d_RecordReader_readMembers_160 (by decide) ?_
                refine lv_icmp_ne (tgt := 186) hx hb d_RecordReader_readMembers_162 (by decide) (fun c_162 => ?_) (fun c_162 => ?_)
                · -- 162: True
                  refine lv_aload_n hx hb d_RecordReader_readMembers_186 rfl (lv_at hl 0 rfl) ?_
                  refine z_get hx hb hts (z_lay i_RecordReader) hown hK hw f3_rd rfl 0 (by decide) (z_in k_502 rfl) (fun _ h9 => h9) rfl d_RecordReader_readMembers_187 ?_
                  refine lv_bipush (v := 125) hx hb d_RecordReader_readMembers_190 (by decide) ?_
                  refine z_callV (n := 1) (As := [.int 125]) (rest := []) ⟨hx, hb, hml, hown, hts⟩ (c_Scanner_takeSign (t := t) l g h3 f3_sc f3_b hn hlen hf (by omega)) (z_in k_456 rfl) (z_in k_8 rfl) (z_in k_523 rfl) (z_in k_454 rfl) (z_in k_455 rfl) (by decide +kernel) ⟨by first | exact Nat.le_of_ble_eq_true rfl | (dsimp only; omega) | omega, by first | exact Nat.le_of_ble_eq_true rfl | (dsimp only; omega) | omega⟩ hK hE hw hA rfl f3_sc rfl hl.1 (Nat.le_of_ble_eq_true rfl) d_RecordReader_readMembers_192 ⟨by first | exact Nat.le_of_ble_eq_true rfl | (dsimp only; omega) | omega, by first | exact Nat.le_of_ble_eq_true rfl | (dsimp only; omega) | omega⟩ rfl (fun r9 h9 H locs hp hw => ?_)
                  unfold tSg at hp
                  rw [sk_sk, if_neg c_162] at hp
                  obtain ⟨r8, hh4⟩ := hp
                  subst r8
                  obtain ⟨h4, e6⟩ : ∃ x9, x9 = h9 := ⟨_, rfl⟩
                  subst e6
                  have f4_rd : h4 rd = some ((8, 0), .inr (9, [.ref sc, .ref q, .ref w, .ref tr, .long nu1])) := by rw [← hh4]; exact z_keep f3_sc f3_rd (z_t1 (by decide))
                  have f4_sc : h4 sc = some ((6, 0), .inr (7, [.ref b, .int (nI n), .int (nI (sk t n p1)), .int (nI (sk t n p1)), .int ws1, .int wd1])) := by rw [← hh4]; exact z_put_eq
                  have f4_b : h4 b = some ((3, 0), .inl (g.2.1 0, len, .inl f)) := by rw [← hh4]; exact z_keep f3_sc f3_b (z_t1 (by decide))
                  have k64 : z_K (fun y => y = 6) hL h4 := k63.tr (by rw [← hh4]; exact z_K.put f3_sc rfl)
                  have kk4 : z_K (fun y => y = 6 ∨ y = 8 ∨ y = 10 ∨ y = mr ∨ y = mr + 1) h h4 := kk3.tr (by rw [← hh4]; exact z_K.put f3_sc (by first | decide | simp | omega))
                  refine W.eq (g2 := F0 m 195 ls [.int 0]) rfl ?_
                  have eW : memR FR S t n (-1) 0 p R = .inl (sk t n p1, R1) := by rw [← hR1, show 129 - k1 = 0 by omega]; simp only [memL, ite_self]; unfold memE; rw [if_neg (fun z => c_162 z.1)]; unfold sgnR; rw [if_neg c_162]
                  have eZ1 : (rrR (memR FR S t n (-1) 0 p R)).1 = R1.1 := by rw [eW]; rfl
                  have eZ2 : tbR (rrR (memR FR S t n (-1) 0 p R)) = tbR R1 := by rw [eW]; rfl
                  exact z_zret hx hb hr rfl hlocks hw (by rw [eW]; exact ⟨kk4, ⟨_, f4_rd⟩, (tA1.k k64 (by omega)), (nA1.k k64 (by omega) (by omega) (by omega)), pA1, rfl, ⟨_, _, _, _, f4_sc, rfl⟩⟩) (by first | exact Nat.le_of_ble_eq_true rfl | (dsimp only; omega) | omega) (by first | exact Nat.le_of_ble_eq_true rfl | (dsimp only; omega) | omega) d_RecordReader_readMembers_195
                · -- 162: False
                  have hq7 := (hS.k kk3 (by omega) (by omega) (by omega)).1
                  refine lv_aload_n hx hb d_RecordReader_readMembers_165 rfl (lv_at hl 0 rfl) ?_
                  refine z_get hx hb hts (z_lay i_RecordReader) hown hK hw f3_rd rfl 1 (by decide) (z_in k_503 rfl) (fun _ h9 => h9) rfl d_RecordReader_readMembers_166 ?_
                  refine lv_iload hx hb d_RecordReader_readMembers_169 (lv_at hl 4 rfl) ?_
                  refine lv_iload_n hx hb d_RecordReader_readMembers_171 rfl (lv_at hl 1 rfl) ?_
                  refine z_callV (n := 2) (As := [.int (nI st1), .int (-1)]) (rest := []) ⟨hx, hb, hml, hown, hts⟩ (c_Schema_hasRequiredFrom (k := -1) (st := st1) l g h3 (hS.k kk3 (by omega) (by omega) (by omega)) (by omega)) (z_in k_605 rfl) (z_in k_4 rfl) (z_in k_602 rfl) (z_in k_603 rfl) (z_in k_604 rfl) (by decide +kernel) ⟨by first | exact Nat.le_of_ble_eq_true rfl | (dsimp only; omega) | omega, by first | exact Nat.le_of_ble_eq_true rfl | (dsimp only; omega) | omega⟩ hK hE hw hA rfl hq7 rfl hl.1 (Nat.le_of_ble_eq_true rfl) d_RecordReader_readMembers_172 ⟨by first | exact Nat.le_of_ble_eq_true rfl | (dsimp only; omega) | omega, by first | exact Nat.le_of_ble_eq_true rfl | (dsimp only; omega) | omega⟩ rfl (fun r9 h9 H locs hp hw => ?_)
                  obtain ⟨r8, h8⟩ := hp
                  subst r8
                  subst h8
                  refine W.eq (g2 := F0 m 175 ls [.int (zb (hrq S (-1) st1))]) rfl ?_
                  refine lv_if_eq (tgt := 186) hx hb d_RecordReader_readMembers_175 (by decide) (fun c_175 => ?_) (fun c_175 => ?_)
                  · -- 175: True
                    have c_175 : (hrq S (-1) st1) = false := zb_f c_175
                    refine lv_aload_n hx hb d_RecordReader_readMembers_186 rfl (lv_at hl 0 rfl) ?_
                    refine z_get hx hb hts (z_lay i_RecordReader) hown hK hw f3_rd rfl 0 (by decide) (z_in k_502 rfl) (fun _ h9 => h9) rfl d_RecordReader_readMembers_187 ?_
                    refine lv_bipush (v := 125) hx hb d_RecordReader_readMembers_190 (by decide) ?_
                    refine z_callV (n := 1) (As := [.int 125]) (rest := []) ⟨hx, hb, hml, hown, hts⟩ (c_Scanner_takeSign (t := t) l g h3 f3_sc f3_b hn hlen hf (by omega)) (z_in k_456 rfl) (z_in k_8 rfl) (z_in k_523 rfl) (z_in k_454 rfl) (z_in k_455 rfl) (by decide +kernel) ⟨by first | exact Nat.le_of_ble_eq_true rfl | (dsimp only; omega) | omega, by first | exact Nat.le_of_ble_eq_true rfl | (dsimp only; omega) | omega⟩ hK hE hw hA rfl f3_sc rfl hl.1 (Nat.le_of_ble_eq_true rfl) d_RecordReader_readMembers_192 ⟨by first | exact Nat.le_of_ble_eq_true rfl | (dsimp only; omega) | omega, by first | exact Nat.le_of_ble_eq_true rfl | (dsimp only; omega) | omega⟩ rfl (fun r9 h9 H locs hp hw => ?_)
                    unfold tSg at hp
                    rw [sk_sk, if_pos c_162] at hp
                    obtain ⟨r8, hh5⟩ := hp
                    subst r8
                    obtain ⟨h5, e6⟩ : ∃ x9, x9 = h9 := ⟨_, rfl⟩
                    subst e6
                    have f5_rd : h5 rd = some ((8, 0), .inr (9, [.ref sc, .ref q, .ref w, .ref tr, .long nu1])) := by rw [← hh5]; exact z_keep f3_sc f3_rd (z_t1 (by decide))
                    have f5_sc : h5 sc = some ((6, 0), .inr (7, [.ref b, .int (nI n), .int (nI (sk t n p1 + 1)), .int fa1, .int ws1, .int wd1])) := by rw [← hh5]; exact z_put_eq
                    have f5_b : h5 b = some ((3, 0), .inl (g.2.1 0, len, .inl f)) := by rw [← hh5]; exact z_keep f3_sc f3_b (z_t1 (by decide))
                    have k65 : z_K (fun y => y = 6) hL h5 := k63.tr (by rw [← hh5]; exact z_K.put f3_sc rfl)
                    have kk5 : z_K (fun y => y = 6 ∨ y = 8 ∨ y = 10 ∨ y = mr ∨ y = mr + 1) h h5 := kk3.tr (by rw [← hh5]; exact z_K.put f3_sc (by first | decide | simp | omega))
                    have lt125 := bt_lt c_162
                    refine W.eq (g2 := F0 m 195 ls [.int 1]) rfl ?_
                    have eW : memR FR S t n (-1) 0 p R = .inr (sk t n p1 + 1, R1) := by rw [← hR1, show 129 - k1 = 0 by omega]; simp only [memL, ite_self]; unfold memE; rw [if_neg (fun z => by rw [c_175] at z; exact absurd z.2 (by decide))]; unfold sgnR; rw [if_pos c_162]
                    have eZ1 : (rrR (memR FR S t n (-1) 0 p R)).1 = R1.1 := by rw [eW]; rfl
                    have eZ2 : tbR (rrR (memR FR S t n (-1) 0 p R)) = tbR R1 := by rw [eW]; rfl
                    exact z_zret hx hb hr rfl hlocks hw (by rw [eW]; exact ⟨kk5, ⟨_, f5_rd⟩, (tA1.k k65 (by omega)), (nA1.k k65 (by omega) (by omega) (by omega)), pA1, rfl, ⟨_, _, _, f5_sc⟩, by dsimp only; omega, by dsimp only; omega, by dsimp only; omega⟩) (by first | exact Nat.le_of_ble_eq_true rfl | (dsimp only; omega) | omega) (by first | exact Nat.le_of_ble_eq_true rfl | (dsimp only; omega) | omega) d_RecordReader_readMembers_195
                  · -- 175: False
                    have c_175 : (hrq S (-1) st1) = true := zb_t c_175
                    refine lv_aload_n hx hb d_RecordReader_readMembers_178 rfl (lv_at hl 0 rfl) ?_
                    refine z_get hx hb hts (z_lay i_RecordReader) hown hK hw f3_rd rfl 0 (by decide) (z_in k_502 rfl) (fun _ h9 => h9) rfl d_RecordReader_readMembers_179 ?_
                    refine z_callV (n := 0) (As := []) (rest := []) ⟨hx, hb, hml, hown, hts⟩ (c_Scanner_failHere l g h3 f3_sc) (z_in k_258 rfl) (z_in k_8 rfl) (z_in k_522 rfl) (z_in k_256 rfl) (z_in k_257 rfl) (by decide +kernel) ⟨by first | exact Nat.le_of_ble_eq_true rfl | (dsimp only; omega) | omega, by first | exact Nat.le_of_ble_eq_true rfl | (dsimp only; omega) | omega⟩ hK hE hw hA rfl f3_sc rfl hl.1 (Nat.le_of_ble_eq_true rfl) d_RecordReader_readMembers_182 ⟨by first | exact Nat.le_of_ble_eq_true rfl | (dsimp only; omega) | omega, by first | exact Nat.le_of_ble_eq_true rfl | (dsimp only; omega) | omega⟩ rfl (fun r9 h9 H locs hp hw => ?_)
                    obtain ⟨r8, hh6⟩ := hp
                    subst r8
                    obtain ⟨h6, e8⟩ : ∃ x9, x9 = h9 := ⟨_, rfl⟩
                    subst e8
                    have f6_rd : h6 rd = some ((8, 0), .inr (9, [.ref sc, .ref q, .ref w, .ref tr, .long nu1])) := by rw [← hh6]; exact z_keep f3_sc f3_rd (z_t1 (by decide))
                    have f6_sc : h6 sc = some ((6, 0), .inr (7, [.ref b, .int (nI n), .int (nI (sk t n p1)), .int (nI (sk t n p1)), .int ws1, .int wd1])) := by rw [← hh6]; exact z_put_eq
                    have f6_b : h6 b = some ((3, 0), .inl (g.2.1 0, len, .inl f)) := by rw [← hh6]; exact z_keep f3_sc f3_b (z_t1 (by decide))
                    have f6_q : h6 q = some ((r, 0), .inr (3, [.ref fa9, .ref ca, .int (nI S.1), .int (nI (cc S)), .int (nI (rq S (-1)))])) := by rw [← hh6]; exact z_keep f3_sc hq7 (by first | decide | (refine z_t1 ?_; omega) | (refine z_t2 ?_; omega))
                    have k66 : z_K (fun y => y = 6) hL h6 := k63.tr (by rw [← hh6]; exact z_K.put f3_sc rfl)
                    have kk6 : z_K (fun y => y = 6 ∨ y = 8 ∨ y = 10 ∨ y = mr ∨ y = mr + 1) h h6 := kk3.tr (by rw [← hh6]; exact z_K.put f3_sc (by first | decide | simp | omega))
                    refine W.eq (g2 := F0 m 185 ls [.int 0]) rfl ?_
                    have eW : memR FR S t n (-1) 0 p R = .inl (sk t n p1, R1) := by rw [← hR1, show 129 - k1 = 0 by omega]; simp only [memL, ite_self]; unfold memE; rw [if_pos ⟨c_162, c_175⟩]
                    have eZ1 : (rrR (memR FR S t n (-1) 0 p R)).1 = R1.1 := by rw [eW]; rfl
                    have eZ2 : tbR (rrR (memR FR S t n (-1) 0 p R)) = tbR R1 := by rw [eW]; rfl
                    exact z_zret hx hb hr rfl hlocks hw (by rw [eW]; exact ⟨kk6, ⟨_, f6_rd⟩, (tA1.k k66 (by omega)), (nA1.k k66 (by omega) (by omega) (by omega)), pA1, rfl, ⟨_, _, _, _, f6_sc, rfl⟩⟩) (by first | exact Nat.le_of_ble_eq_true rfl | (dsimp only; omega) | omega) (by first | exact Nat.le_of_ble_eq_true rfl | (dsimp only; omega) | omega) d_RecordReader_readMembers_185
              · -- 60: False
                have c_60 : ¬ (128 < k1) := fun z => c_60 ((nI_ltI (a := 128) (b := k1) (by omega) (by omega)).mpr z)
                refine lv_iload hx hb d_RecordReader_readMembers_63 (lv_at hl 5 rfl) ?_
                refine lv_if_eq (tgt := 153) hx hb d_RecordReader_readMembers_65 (by decide) (fun c_65 => ?_) (fun c_65 => ?_)
                · -- 65: True
                  have c_65 : m1 = false := zb_f c_65
                  refine lv_aload_n hx hb d_RecordReader_readMembers_153 rfl (lv_at hl 0 rfl) ?_
                  refine z_get hx hb hts (z_lay i_RecordReader) hown hK hw L55_rd rfl 0 (by decide) (z_in k_502 rfl) (fun _ h9 => h9) rfl d_RecordReader_readMembers_154 ?_
                  refine z_callV (n := 0) (As := []) (rest := []) ⟨hx, hb, hml, hown, hts⟩ (c_Scanner_next l g hL L55_sc L55_b hn hlen hf (by omega)) (z_in k_234 rfl) (z_in k_8 rfl) (z_in k_524 rfl) (z_in k_232 rfl) (z_in k_233 rfl) (by decide +kernel) ⟨by first | exact Nat.le_of_ble_eq_true rfl | (dsimp only; omega) | omega, by first | exact Nat.le_of_ble_eq_true rfl | (dsimp only; omega) | omega⟩ hK hE hw hA rfl L55_sc rfl hl.1 (Nat.le_of_ble_eq_true rfl) d_RecordReader_readMembers_157 ⟨by first | exact Nat.le_of_ble_eq_true rfl | (dsimp only; omega) | omega, by first | exact Nat.le_of_ble_eq_true rfl | (dsimp only; omega) | omega⟩ rfl (fun r9 h9 H locs hp hw => ?_)
                  obtain ⟨r8, hh7⟩ := hp
                  subst r8
                  obtain ⟨h7, e8⟩ : ∃ x9, x9 = h9 := ⟨_, rfl⟩
                  subst e8
                  have f7_rd : h7 rd = some ((8, 0), .inr (9, [.ref sc, .ref q, .ref w, .ref tr, .long nu1])) := by rw [← hh7]; exact z_keep L55_sc L55_rd (z_t1 (by decide))
                  have f7_sc : h7 sc = some ((6, 0), .inr (7, [.ref b, .int (nI n), .int (nI (sk t n p1)), .int fa1, .int ws1, .int wd1])) := by rw [← hh7]; exact z_put_eq
                  have f7_b : h7 b = some ((3, 0), .inl (g.2.1 0, len, .inl f)) := by rw [← hh7]; exact z_keep L55_sc L55_b (z_t1 (by decide))
                  have k67 : z_K (fun y => y = 6) hL h7 := k6L.tr (by rw [← hh7]; exact z_K.put L55_sc rfl)
                  have kk7 : z_K (fun y => y = 6 ∨ y = 8 ∨ y = 10 ∨ y = mr ∨ y = mr + 1) h h7 := kkL.tr (by rw [← hh7]; exact z_K.put L55_sc (by first | decide | simp | omega))
                  refine W.eq (g2 := F0 m 160 ls [.int (bt t n (sk t n p1))]) rfl ?_
                  refine lv_bipush (v := 125) hx hb d_RecordReader_readMembers_160 (by decide) ?_
                  refine lv_icmp_ne (tgt := 186) hx hb d_RecordReader_readMembers_162 (by decide) (fun c_162 => ?_) (fun c_162 => ?_)
                  · -- 162: True
                    refine lv_aload_n hx hb d_RecordReader_readMembers_186 rfl (lv_at hl 0 rfl) ?_
                    refine z_get hx hb hts (z_lay i_RecordReader) hown hK hw f7_rd rfl 0 (by decide) (z_in k_502 rfl) (fun _ h9 => h9) rfl d_RecordReader_readMembers_187 ?_
                    refine lv_bipush (v := 125) hx hb d_RecordReader_readMembers_190 (by decide) ?_
                    refine z_callV (n := 1) (As := [.int 125]) (rest := []) ⟨hx, hb, hml, hown, hts⟩ (c_Scanner_takeSign (t := t) l g h7 f7_sc f7_b hn hlen hf (by omega)) (z_in k_456 rfl) (z_in k_8 rfl) (z_in k_523 rfl) (z_in k_454 rfl) (z_in k_455 rfl) (by decide +kernel) ⟨by first | exact Nat.le_of_ble_eq_true rfl | (dsimp only; omega) | omega, by first | exact Nat.le_of_ble_eq_true rfl | (dsimp only; omega) | omega⟩ hK hE hw hA rfl f7_sc rfl hl.1 (Nat.le_of_ble_eq_true rfl) d_RecordReader_readMembers_192 ⟨by first | exact Nat.le_of_ble_eq_true rfl | (dsimp only; omega) | omega, by first | exact Nat.le_of_ble_eq_true rfl | (dsimp only; omega) | omega⟩ rfl (fun r9 h9 H locs hp hw => ?_)
                    unfold tSg at hp
                    rw [sk_sk, if_neg c_162] at hp
                    obtain ⟨r8, hh8⟩ := hp
                    subst r8
                    obtain ⟨h8, e6⟩ : ∃ x9, x9 = h9 := ⟨_, rfl⟩
                    subst e6
                    have f8_rd : h8 rd = some ((8, 0), .inr (9, [.ref sc, .ref q, .ref w, .ref tr, .long nu1])) := by rw [← hh8]; exact z_keep f7_sc f7_rd (z_t1 (by decide))
                    have f8_sc : h8 sc = some ((6, 0), .inr (7, [.ref b, .int (nI n), .int (nI (sk t n p1)), .int (nI (sk t n p1)), .int ws1, .int wd1])) := by rw [← hh8]; exact z_put_eq
                    have f8_b : h8 b = some ((3, 0), .inl (g.2.1 0, len, .inl f)) := by rw [← hh8]; exact z_keep f7_sc f7_b (z_t1 (by decide))
                    have k68 : z_K (fun y => y = 6) hL h8 := k67.tr (by rw [← hh8]; exact z_K.put f7_sc rfl)
                    have kk8 : z_K (fun y => y = 6 ∨ y = 8 ∨ y = 10 ∨ y = mr ∨ y = mr + 1) h h8 := kk7.tr (by rw [← hh8]; exact z_K.put f7_sc (by first | decide | simp | omega))
                    refine W.eq (g2 := F0 m 195 ls [.int 0]) rfl ?_
                    have eW : memR FR S t n (-1) 0 p R = .inl (sk t n p1, R1) := by rw [← hR1, if_neg (by rw [c_65]; decide)]; unfold memE; rw [if_neg (fun z => c_162 z.1)]; unfold sgnR; rw [if_neg c_162]
                    have eZ1 : (rrR (memR FR S t n (-1) 0 p R)).1 = R1.1 := by rw [eW]; rfl
                    have eZ2 : tbR (rrR (memR FR S t n (-1) 0 p R)) = tbR R1 := by rw [eW]; rfl
                    exact z_zret hx hb hr rfl hlocks hw (by rw [eW]; exact ⟨kk8, ⟨_, f8_rd⟩, (tA1.k k68 (by omega)), (nA1.k k68 (by omega) (by omega) (by omega)), pA1, rfl, ⟨_, _, _, _, f8_sc, rfl⟩⟩) (by first | exact Nat.le_of_ble_eq_true rfl | (dsimp only; omega) | omega) (by first | exact Nat.le_of_ble_eq_true rfl | (dsimp only; omega) | omega) d_RecordReader_readMembers_195
                  · -- 162: False
                    have hq7 := (hS.k kk7 (by omega) (by omega) (by omega)).1
                    refine lv_aload_n hx hb d_RecordReader_readMembers_165 rfl (lv_at hl 0 rfl) ?_
                    refine z_get hx hb hts (z_lay i_RecordReader) hown hK hw f7_rd rfl 1 (by decide) (z_in k_503 rfl) (fun _ h9 => h9) rfl d_RecordReader_readMembers_166 ?_
                    refine lv_iload hx hb d_RecordReader_readMembers_169 (lv_at hl 4 rfl) ?_
                    refine lv_iload_n hx hb d_RecordReader_readMembers_171 rfl (lv_at hl 1 rfl) ?_
                    refine z_callV (n := 2) (As := [.int (nI st1), .int (-1)]) (rest := []) ⟨hx, hb, hml, hown, hts⟩ (c_Schema_hasRequiredFrom (k := -1) (st := st1) l g h7 (hS.k kk7 (by omega) (by omega) (by omega)) (by omega)) (z_in k_605 rfl) (z_in k_4 rfl) (z_in k_602 rfl) (z_in k_603 rfl) (z_in k_604 rfl) (by decide +kernel) ⟨by first | exact Nat.le_of_ble_eq_true rfl | (dsimp only; omega) | omega, by first | exact Nat.le_of_ble_eq_true rfl | (dsimp only; omega) | omega⟩ hK hE hw hA rfl hq7 rfl hl.1 (Nat.le_of_ble_eq_true rfl) d_RecordReader_readMembers_172 ⟨by first | exact Nat.le_of_ble_eq_true rfl | (dsimp only; omega) | omega, by first | exact Nat.le_of_ble_eq_true rfl | (dsimp only; omega) | omega⟩ rfl (fun r9 h9 H locs hp hw => ?_)
                    obtain ⟨r8, h8⟩ := hp
                    subst r8
                    subst h8
                    refine W.eq (g2 := F0 m 175 ls [.int (zb (hrq S (-1) st1))]) rfl ?_
                    refine lv_if_eq (tgt := 186) hx hb d_RecordReader_readMembers_175 (by decide) (fun c_175 => ?_) (fun c_175 => ?_)
                    · -- 175: True
                      have c_175 : (hrq S (-1) st1) = false := zb_f c_175
                      refine lv_aload_n hx hb d_RecordReader_readMembers_186 rfl (lv_at hl 0 rfl) ?_
                      refine z_get hx hb hts (z_lay i_RecordReader) hown hK hw f7_rd rfl 0 (by decide) (z_in k_502 rfl) (fun _ h9 => h9) rfl d_RecordReader_readMembers_187 ?_
                      refine lv_bipush (v := 125) hx hb d_RecordReader_readMembers_190 (by decide) ?_
                      refine z_callV (n := 1) (As := [.int 125]) (rest := []) ⟨hx, hb, hml, hown, hts⟩ (c_Scanner_takeSign (t := t) l g h7 f7_sc f7_b hn hlen hf (by omega)) (z_in k_456 rfl) (z_in k_8 rfl) (z_in k_523 rfl) (z_in k_454 rfl) (z_in k_455 rfl) (by decide +kernel) ⟨by first | exact Nat.le_of_ble_eq_true rfl | (dsimp only; omega) | omega, by first | exact Nat.le_of_ble_eq_true rfl | (dsimp only; omega) | omega⟩ hK hE hw hA rfl f7_sc rfl hl.1 (Nat.le_of_ble_eq_true rfl) d_RecordReader_readMembers_192 ⟨by first | exact Nat.le_of_ble_eq_true rfl | (dsimp only; omega) | omega, by first | exact Nat.le_of_ble_eq_true rfl | (dsimp only; omega) | omega⟩ rfl (fun r9 h9 H locs hp hw => ?_)
                      unfold tSg at hp
                      rw [sk_sk, if_pos c_162] at hp
                      obtain ⟨r8, hh9⟩ := hp
                      subst r8
                      obtain ⟨h9, e6⟩ : ∃ x9, x9 = h9 := ⟨_, rfl⟩
                      subst e6
                      have f9_rd : h9 rd = some ((8, 0), .inr (9, [.ref sc, .ref q, .ref w, .ref tr, .long nu1])) := by rw [← hh9]; exact z_keep f7_sc f7_rd (z_t1 (by decide))
                      have f9_sc : h9 sc = some ((6, 0), .inr (7, [.ref b, .int (nI n), .int (nI (sk t n p1 + 1)), .int fa1, .int ws1, .int wd1])) := by rw [← hh9]; exact z_put_eq
                      have f9_b : h9 b = some ((3, 0), .inl (g.2.1 0, len, .inl f)) := by rw [← hh9]; exact z_keep f7_sc f7_b (z_t1 (by decide))
                      have k69 : z_K (fun y => y = 6) hL h9 := k67.tr (by rw [← hh9]; exact z_K.put f7_sc rfl)
                      have kk9 : z_K (fun y => y = 6 ∨ y = 8 ∨ y = 10 ∨ y = mr ∨ y = mr + 1) h h9 := kk7.tr (by rw [← hh9]; exact z_K.put f7_sc (by first | decide | simp | omega))
                      have lt125 := bt_lt c_162
                      refine W.eq (g2 := F0 m 195 ls [.int 1]) rfl ?_
                      have eW : memR FR S t n (-1) 0 p R = .inr (sk t n p1 + 1, R1) := by rw [← hR1, if_neg (by rw [c_65]; decide)]; unfold memE; rw [if_neg (fun z => by rw [c_175] at z; exact absurd z.2 (by decide))]; unfold sgnR; rw [if_pos c_162]
                      have eZ1 : (rrR (memR FR S t n (-1) 0 p R)).1 = R1.1 := by rw [eW]; rfl
                      have eZ2 : tbR (rrR (memR FR S t n (-1) 0 p R)) = tbR R1 := by rw [eW]; rfl
                      exact z_zret hx hb hr rfl hlocks hw (by rw [eW]; exact ⟨kk9, ⟨_, f9_rd⟩, (tA1.k k69 (by omega)), (nA1.k k69 (by omega) (by omega) (by omega)), pA1, rfl, ⟨_, _, _, f9_sc⟩, by dsimp only; omega, by dsimp only; omega, by dsimp only; omega⟩) (by first | exact Nat.le_of_ble_eq_true rfl | (dsimp only; omega) | omega) (by first | exact Nat.le_of_ble_eq_true rfl | (dsimp only; omega) | omega) d_RecordReader_readMembers_195
                    · -- 175: False
                      have c_175 : (hrq S (-1) st1) = true := zb_t c_175
                      refine lv_aload_n hx hb d_RecordReader_readMembers_178 rfl (lv_at hl 0 rfl) ?_
                      refine z_get hx hb hts (z_lay i_RecordReader) hown hK hw f7_rd rfl 0 (by decide) (z_in k_502 rfl) (fun _ h9 => h9) rfl d_RecordReader_readMembers_179 ?_
                      refine z_callV (n := 0) (As := []) (rest := []) ⟨hx, hb, hml, hown, hts⟩ (c_Scanner_failHere l g h7 f7_sc) (z_in k_258 rfl) (z_in k_8 rfl) (z_in k_522 rfl) (z_in k_256 rfl) (z_in k_257 rfl) (by decide +kernel) ⟨by first | exact Nat.le_of_ble_eq_true rfl | (dsimp only; omega) | omega, by first | exact Nat.le_of_ble_eq_true rfl | (dsimp only; omega) | omega⟩ hK hE hw hA rfl f7_sc rfl hl.1 (Nat.le_of_ble_eq_true rfl) d_RecordReader_readMembers_182 ⟨by first | exact Nat.le_of_ble_eq_true rfl | (dsimp only; omega) | omega, by first | exact Nat.le_of_ble_eq_true rfl | (dsimp only; omega) | omega⟩ rfl (fun r9 h9 H locs hp hw => ?_)
                      obtain ⟨r8, hh10⟩ := hp
                      subst r8
                      obtain ⟨h10, e8⟩ : ∃ x9, x9 = h9 := ⟨_, rfl⟩
                      subst e8
                      have f10_rd : h10 rd = some ((8, 0), .inr (9, [.ref sc, .ref q, .ref w, .ref tr, .long nu1])) := by rw [← hh10]; exact z_keep f7_sc f7_rd (z_t1 (by decide))
                      have f10_sc : h10 sc = some ((6, 0), .inr (7, [.ref b, .int (nI n), .int (nI (sk t n p1)), .int (nI (sk t n p1)), .int ws1, .int wd1])) := by rw [← hh10]; exact z_put_eq
                      have f10_b : h10 b = some ((3, 0), .inl (g.2.1 0, len, .inl f)) := by rw [← hh10]; exact z_keep f7_sc f7_b (z_t1 (by decide))
                      have f10_q : h10 q = some ((r, 0), .inr (3, [.ref fa9, .ref ca, .int (nI S.1), .int (nI (cc S)), .int (nI (rq S (-1)))])) := by rw [← hh10]; exact z_keep f7_sc hq7 (by first | decide | (refine z_t1 ?_; omega) | (refine z_t2 ?_; omega))
                      have k610 : z_K (fun y => y = 6) hL h10 := k67.tr (by rw [← hh10]; exact z_K.put f7_sc rfl)
                      have kk10 : z_K (fun y => y = 6 ∨ y = 8 ∨ y = 10 ∨ y = mr ∨ y = mr + 1) h h10 := kk7.tr (by rw [← hh10]; exact z_K.put f7_sc (by first | decide | simp | omega))
                      refine W.eq (g2 := F0 m 185 ls [.int 0]) rfl ?_
                      have eW : memR FR S t n (-1) 0 p R = .inl (sk t n p1, R1) := by rw [← hR1, if_neg (by rw [c_65]; decide)]; unfold memE; rw [if_pos ⟨c_162, c_175⟩]
                      have eZ1 : (rrR (memR FR S t n (-1) 0 p R)).1 = R1.1 := by rw [eW]; rfl
                      have eZ2 : tbR (rrR (memR FR S t n (-1) 0 p R)) = tbR R1 := by rw [eW]; rfl
                      exact z_zret hx hb hr rfl hlocks hw (by rw [eW]; exact ⟨kk10, ⟨_, f10_rd⟩, (tA1.k k610 (by omega)), (nA1.k k610 (by omega) (by omega) (by omega)), pA1, rfl, ⟨_, _, _, _, f10_sc, rfl⟩⟩) (by first | exact Nat.le_of_ble_eq_true rfl | (dsimp only; omega) | omega) (by first | exact Nat.le_of_ble_eq_true rfl | (dsimp only; omega) | omega) d_RecordReader_readMembers_185
                · -- 65: False
                  have c_65 : m1 = true := zb_t c_65
                  refine lv_aload_n hx hb d_RecordReader_readMembers_68 rfl (lv_at hl 0 rfl) ?_
                  refine lv_iload_n hx hb d_RecordReader_readMembers_69 rfl (lv_at hl 1 rfl) ?_
                  refine lv_iload hx hb d_RecordReader_readMembers_70 (lv_at hl 4 rfl) ?_
                  refine z_callV (n := 2) (As := [.int (-1), .int (nI st1)]) (rest := []) ⟨hx, hb, hml, hown, hts⟩ (c_readName (t := t) (st := st1) l g hL L55_rd L55_sc L55_b (hS.k kkL (by omega) (by omega) (by omega)) hn hlen hf (by omega) hr0 (by omega)) (z_in k_528 rfl) (z_in k_18 rfl) (z_in k_525 rfl) (z_in k_527 rfl) (z_in ks_6 rfl) (by decide +kernel) ⟨by first | exact Nat.le_of_ble_eq_true rfl | (dsimp only; omega) | omega, by first | exact Nat.le_of_ble_eq_true rfl | (dsimp only; omega) | omega⟩ hK hE hw hA rfl L55_rd rfl hl.1 (Nat.le_of_ble_eq_true rfl) d_RecordReader_readMembers_72 ⟨by first | exact Nat.le_of_ble_eq_true rfl | (dsimp only; omega) | omega, by first | exact Nat.le_of_ble_eq_true rfl | (dsimp only; omega) | omega⟩ rfl (fun r9 h9 H locs hp hw => ?_)
                  rcases hN8 : namR S t n (-1) st1 p1 with F7 | ⟨fi8, p7⟩
                  · -- name False
                    rw [hN8] at hp
                    obtain ⟨r8, x11, y11, z11, hh11⟩ := hp
                    subst r8
                    obtain ⟨h11, e6⟩ : ∃ x9, x9 = h9 := ⟨_, rfl⟩
                    subst e6
                    have f11_rd : h11 rd = some ((8, 0), .inr (9, [.ref sc, .ref q, .ref w, .ref tr, .long nu1])) := by rw [← hh11]; exact z_keep L55_sc L55_rd (z_t1 (by decide))
                    have f11_sc : h11 sc = some ((6, 0), .inr (7, [.ref b, .int (nI n), .int (nI x11), .int (nI F7), .int y11, .int z11])) := by rw [← hh11]; exact z_put_eq
                    have f11_b : h11 b = some ((3, 0), .inl (g.2.1 0, len, .inl f)) := by rw [← hh11]; exact z_keep L55_sc L55_b (z_t1 (by decide))
                    have k611 : z_K (fun y => y = 6) hL h11 := k6L.tr (by rw [← hh11]; exact z_K.put L55_sc rfl)
                    have kk11 : z_K (fun y => y = 6 ∨ y = 8 ∨ y = 10 ∨ y = mr ∨ y = mr + 1) h h11 := kkL.tr (by rw [← hh11]; exact z_K.put L55_sc (by first | decide | simp | omega))
                    refine W.eq (g2 := F0 m 75 ls [.null]) rfl ?_
                    refine lv_astoreN (lv' := [(7, .null), (0, .ref rd), (1, .int (-1)), (2, .int (nI pi)), (3, .int (nI d)), (4, .int (nI st1)), (5, .int (zb m1)), (6, .int (nI k1))]) hx hb d_RecordReader_readMembers_75 hl (by decide) rfl (fun ls hl => ?_)
                    refine lv_aloadN hx hb d_RecordReader_readMembers_77 (lv_at hl 0 rfl) ?_
                    refine lv_ifnullN (tgt := 105) hx hb d_RecordReader_readMembers_79 (by decide) ?_
                    refine lv_iconst (v := 0) hx hb d_RecordReader_readMembers_105 (by decide) ?_
                    have eW : memR FR S t n (-1) 0 p R = .inl (F7, R1) := by rw [← hR1, if_pos c_65, show 129 - k1 = (129 - (k1 + 1)) + 1 by omega]; simp only [memL]; rw [hN8]
                    have eZ1 : (rrR (memR FR S t n (-1) 0 p R)).1 = R1.1 := by rw [eW]; rfl
                    have eZ2 : tbR (rrR (memR FR S t n (-1) 0 p R)) = tbR R1 := by rw [eW]; rfl
                    exact z_zret hx hb hr rfl hlocks hw (by rw [eW]; exact ⟨kk11, ⟨_, f11_rd⟩, (tA1.k k611 (by omega)), (nA1.k k611 (by omega) (by omega) (by omega)), pA1, rfl, ⟨_, _, _, _, f11_sc, rfl⟩⟩) (by first | exact Nat.le_of_ble_eq_true rfl | (dsimp only; omega) | omega) (by first | exact Nat.le_of_ble_eq_true rfl | (dsimp only; omega) | omega) d_RecordReader_readMembers_106
                  · -- name True
                    rw [hN8] at hp
                    obtain ⟨r8, x12, y12, z12, hh12⟩ := hp
                    subst r8
                    obtain ⟨h12, e6⟩ : ∃ x9, x9 = h9 := ⟨_, rfl⟩
                    subst e6
                    have f12_rd : h12 rd = some ((8, 0), .inr (9, [.ref sc, .ref q, .ref w, .ref tr, .long nu1])) := by rw [← hh12]; exact z_keep L55_sc L55_rd (z_t1 (by decide))
                    have f12_sc : h12 sc = some ((6, 0), .inr (7, [.ref b, .int (nI n), .int (nI p7), .int x12, .int y12, .int z12])) := by rw [← hh12]; exact z_put_eq
                    have f12_b : h12 b = some ((3, 0), .inl (g.2.1 0, len, .inl f)) := by rw [← hh12]; exact z_keep L55_sc L55_b (z_t1 (by decide))
                    have k612 : z_K (fun y => y = 6) hL h12 := k6L.tr (by rw [← hh12]; exact z_K.put L55_sc rfl)
                    have kk12 : z_K (fun y => y = 6 ∨ y = 8 ∨ y = 10 ∨ y = mr ∨ y = mr + 1) h h12 := kkL.tr (by rw [← hh12]; exact z_K.put L55_sc (by first | decide | simp | omega))
                    obtain ⟨hfi8, hst8, hgr8, le7, ge7⟩ := namR_ok (fun k hk => (hf k hk).1) (by omega) hs8 hN8
                    dsimp only at hfi8 hst8 hgr8 le7 ge7
                    have skr := sk_le (t := t) le7
                    have skr2 := sk_ge t n p7
                    refine W.eq (g2 := F0 m 75 ls [.ref (adS fi8)]) rfl ?_
                    refine lv_astore (lv' := [(7, .ref (adS fi8)), (0, .ref rd), (1, .int (-1)), (2, .int (nI pi)), (3, .int (nI d)), (4, .int (nI st1)), (5, .int (zb m1)), (6, .int (nI k1))]) hx hb d_RecordReader_readMembers_75 hl (by decide) rfl (fun ls hl => ?_)
                    refine lv_aload hx hb d_RecordReader_readMembers_77 (lv_at hl 0 rfl) ?_
                    refine lv_ifnull hx hb d_RecordReader_readMembers_79 ?_
                    refine lv_aload_n hx hb d_RecordReader_readMembers_82 rfl (lv_at hl 1 rfl) ?_
                    refine z_get hx hb hts (z_lay i_RecordReader) hown hK hw f12_rd rfl 0 (by decide) (z_in k_502 rfl) (fun _ h9 => h9) rfl d_RecordReader_readMembers_83 ?_
                    refine lv_bipush (v := 58) hx hb d_RecordReader_readMembers_86 (by decide) ?_
                    refine z_callV (n := 1) (As := [.int 58]) (rest := []) ⟨hx, hb, hml, hown, hts⟩ (c_Scanner_takeSign (t := t) l g h12 f12_sc f12_b hn hlen hf (by omega)) (z_in k_456 rfl) (z_in k_8 rfl) (z_in k_523 rfl) (z_in k_454 rfl) (z_in k_455 rfl) (by decide +kernel) ⟨by first | exact Nat.le_of_ble_eq_true rfl | (dsimp only; omega) | omega, by first | exact Nat.le_of_ble_eq_true rfl | (dsimp only; omega) | omega⟩ hK hE hw hA rfl f12_sc rfl hl.1 (Nat.le_of_ble_eq_true rfl) d_RecordReader_readMembers_88 ⟨by first | exact Nat.le_of_ble_eq_true rfl | (dsimp only; omega) | omega, by first | exact Nat.le_of_ble_eq_true rfl | (dsimp only; omega) | omega⟩ rfl (fun r9 h9 H locs hp hw => ?_)
                    unfold tSg at hp
                    by_cases tsc : bt t n (sk t n p7) = 58
                    · -- tsc True
                      rw [if_pos tsc] at hp
                      obtain ⟨r8, hh13⟩ := hp
                      subst r8
                      obtain ⟨h13, e8⟩ : ∃ x9, x9 = h9 := ⟨_, rfl⟩
                      subst e8
                      have f13_rd : h13 rd = some ((8, 0), .inr (9, [.ref sc, .ref q, .ref w, .ref tr, .long nu1])) := by rw [← hh13]; exact z_keep f12_sc f12_rd (z_t1 (by decide))
                      have f13_sc : h13 sc = some ((6, 0), .inr (7, [.ref b, .int (nI n), .int (nI (sk t n p7 + 1)), .int x12, .int y12, .int z12])) := by rw [← hh13]; exact z_put_eq
                      have f13_b : h13 b = some ((3, 0), .inl (g.2.1 0, len, .inl f)) := by rw [← hh13]; exact z_keep f12_sc f12_b (z_t1 (by decide))
                      have k613 : z_K (fun y => y = 6) hL h13 := k612.tr (by rw [← hh13]; exact z_K.put f12_sc rfl)
                      have kk13 : z_K (fun y => y = 6 ∨ y = 8 ∨ y = 10 ∨ y = mr ∨ y = mr + 1) h h13 := kk12.tr (by rw [← hh13]; exact z_K.put f12_sc (by first | decide | simp | omega))
                      refine W.eq (g2 := F0 m 91 ls [.int 1]) rfl ?_
                      refine lv_if_eq (tgt := 105) hx hb d_RecordReader_readMembers_91 (by decide) (fun c_91 => ?_) (fun c_91 => ?_)
                      · -- 91: True
                        exact absurd c_91 (by decide)
                      · -- 91: False
                        have lt58 := bt_lt tsc
                        have hM0 : rmono (rrR (FR fi8 (sk t n p7 + 1) R1)) (memR FR S t n (-1) 0 p R) := by rw [← hR1, if_pos c_65, show 129 - k1 = (129 - (k1 + 1)) + 1 by omega]; exact memL_mid hFo _ _ _ _ hN8 tsc
                        have hM1 : (rrR (FR fi8 (sk t n p7 + 1) R1)).1 ≤ (rrR (memR FR S t n (-1) 0 p R)).1 := hM0.1
                        have hM2 : tbR (rrR (FR fi8 (sk t n p7 + 1) R1)) ≤ tbR (rrR (memR FR S t n (-1) 0 p R)) := hM0.2
                        have hM3 : R1.1 ≤ (rrR (FR fi8 (sk t n p7 + 1) R1)).1 := (hFo fi8 (sk t n p7 + 1) R1).1
                        have hM4 : tbR R1 ≤ tbR (rrR (FR fi8 (sk t n p7 + 1) R1)) := (hFo fi8 (sk t n p7 + 1) R1).2
                        refine lv_aload_n hx hb d_RecordReader_readMembers_94 rfl (lv_at hl 1 rfl) ?_
                        refine lv_aload hx hb d_RecordReader_readMembers_95 (lv_at hl 0 rfl) ?_
                        refine lv_iload_n hx hb d_RecordReader_readMembers_97 rfl (lv_at hl 3 rfl) ?_
                        refine lv_iload_n hx hb d_RecordReader_readMembers_98 rfl (lv_at hl 4 rfl) ?_
                        refine z_callV (n := 3) (As := [.ref (adS fi8), .int (nI pi), .int (nI d)]) (rest := []) ⟨hx, hb, hml, hown, hts⟩ (hF fi8 hfi8 h13 (sk t n p7 + 1) R1 _ _ _ _ (hS.k kk13 (by omega) (by omega) (by omega)) f13_rd f13_sc f13_b (tA1.k k613 (by omega)) (nA1.k k613 (by omega) (by omega) (by omega)) pA1 (by omega) (by omega) (by omega) (by omega)) (z_in k_539 rfl) (z_in k_18 rfl) (z_in k_536 rfl) (z_in k_538 rfl) (z_in ks_7 rfl) (by decide +kernel) ⟨by first | exact Nat.le_of_ble_eq_true rfl | (dsimp only; omega) | omega, by first | exact Nat.le_of_ble_eq_true rfl | (dsimp only; omega) | omega⟩ hK hE hw hA rfl f13_rd rfl hl.1 (Nat.le_of_ble_eq_true rfl) d_RecordReader_readMembers_99 ⟨by first | exact Nat.le_of_ble_eq_true rfl | (dsimp only; omega) | omega, by first | exact Nat.le_of_ble_eq_true rfl | (dsimp only; omega) | omega⟩ rfl (fun r9 h9 H locs hp hw => ?_)
                        obtain ⟨kk8, ⟨nu8, q8⟩, tr8, nA8, pA8, hp⟩ := hp
                        rcases hR8 : FR fi8 (sk t n p7 + 1) R1 with ⟨F8, R8⟩ | ⟨p8, R8⟩
                        · -- rf False
                          rw [hR8] at hp nA8 pA8
                          obtain ⟨r8, pf8, f8, w8, d8, e8, g8⟩ := hp
                          have nA8 : NdAt g h9 mr w S R8 := nA8
                          have pA8 : paOK R8 := pA8
                          subst r8
                          obtain ⟨h14, e7⟩ : ∃ x9, x9 = h9 := ⟨_, rfl⟩
                          subst e7
                          have z8a : (rrR (FR fi8 (sk t n p7 + 1) R1)).1 = R8.1 := by rw [hR8]; rfl
                          have z8b : (rrR (.inl (F8, R8) : RRes)).1 = R8.1 := rfl
                          have z8c : tbR (rrR (FR fi8 (sk t n p7 + 1) R1)) = tbR R8 := by rw [hR8]; rfl
                          have z8d : tbR (rrR (.inl (F8, R8) : RRes)) = tbR R8 := rfl
                          have q8 : h14 rd = some ((8, 0), .inr (9, [.ref sc, .ref q, .ref w, .ref tr, .long nu8])) := q8
                          have g14_b : h14 b = some ((3, 0), .inl (g.2.1 0, len, .inl f)) := kk8 _ _ _ f13_b (by simp; try omega)
                          have kk14 : z_K (fun y => y = 6 ∨ y = 8 ∨ y = 10 ∨ y = mr ∨ y = mr + 1) h h14 := kk13.tr kk8
                          have k6n : z_K (fun y => y = 6) h14 h14 := z_K.rf
                          refine W.eq (g2 := F0 m 102 ls [.int 0]) rfl ?_
                          refine lv_if_ne (tgt := 107) hx hb d_RecordReader_readMembers_102 (by decide) (fun c_102 => ?_) (fun c_102 => ?_)
                          · -- 102: True
                            exact absurd (by decide) c_102
                          · -- 102: False
                            refine lv_iconst (v := 0) hx hb d_RecordReader_readMembers_105 (by decide) ?_
                            have eW : memR FR S t n (-1) 0 p R = .inl (F8, R8) := by rw [← hR1, if_pos c_65, show 129 - k1 = (129 - (k1 + 1)) + 1 by omega]; simp only [memL]; rw [hN8]; dsimp only; rw [if_pos tsc, hR8]
                            have eZ1 : (rrR (memR FR S t n (-1) 0 p R)).1 = R8.1 := by rw [eW]; rfl
                            have eZ2 : tbR (rrR (memR FR S t n (-1) 0 p R)) = tbR R8 := by rw [eW]; rfl
                            exact z_zret hx hb hr rfl hlocks hw (by rw [eW]; exact ⟨kk14, ⟨_, q8⟩, tr8, nA8, pA8, rfl, ⟨_, _, _, _, e8, g8⟩⟩) (by first | exact Nat.le_of_ble_eq_true rfl | (dsimp only; omega) | omega) (by first | exact Nat.le_of_ble_eq_true rfl | (dsimp only; omega) | omega) d_RecordReader_readMembers_106
                        · -- rf True
                          rw [hR8] at hp nA8 pA8
                          obtain ⟨r8, ⟨f8, w8, d8, e8⟩, le8, le9, le10⟩ := hp
                          dsimp only at le8 le9 le10
                          have nA8 : NdAt g h9 mr w S R8 := nA8
                          have pA8 : paOK R8 := pA8
                          subst r8
                          obtain ⟨h15, e7⟩ : ∃ x9, x9 = h9 := ⟨_, rfl⟩
                          subst e7
                          have z8a : (rrR (FR fi8 (sk t n p7 + 1) R1)).1 = R8.1 := by rw [hR8]; rfl
                          have z8b : (rrR (.inr (p8, R8) : RRes)).1 = R8.1 := rfl
                          have z8c : tbR (rrR (FR fi8 (sk t n p7 + 1) R1)) = tbR R8 := by rw [hR8]; rfl
                          have z8d : tbR (rrR (.inr (p8, R8) : RRes)) = tbR R8 := rfl
                          have q8 : h15 rd = some ((8, 0), .inr (9, [.ref sc, .ref q, .ref w, .ref tr, .long nu8])) := q8
                          have g15_b : h15 b = some ((3, 0), .inl (g.2.1 0, len, .inl f)) := kk8 _ _ _ f13_b (by simp; try omega)
                          have kk15 : z_K (fun y => y = 6 ∨ y = 8 ∨ y = 10 ∨ y = mr ∨ y = mr + 1) h h15 := kk13.tr kk8
                          have k6n : z_K (fun y => y = 6) h15 h15 := z_K.rf
                          have sk8 := sk_le (t := t) le8
                          have sk9 := sk_ge t n p8
                          refine W.eq (g2 := F0 m 102 ls [.int 1]) rfl ?_
                          refine lv_if_ne (tgt := 107) hx hb d_RecordReader_readMembers_102 (by decide) (fun c_102 => ?_) (fun c_102 => ?_)
                          · -- 102: True
                            have hfd7 := ((hS.k kk15 (by omega) (by omega) (by omega)).2.2.2.1 fi8 hfi8).2
                            refine lv_aload hx hb d_RecordReader_readMembers_107 (lv_at hl 0 rfl) ?_
                            refine z_getN hx hb hts (z_lay i_Field) hown hK hw hfd7 rfl 0 (by decide) hE.nest (z_inN k_400 rfl) (fun _ h9 => h9) rfl d_RecordReader_readMembers_109 ?_
                            refine lv_iconst (v := 1) hx hb d_RecordReader_readMembers_112 (by decide) ?_
                            refine lv_iadd hx hb d_RecordReader_readMembers_113 ?_
                            refine z_topi (y := nI (fi8 + 1)) (nI_add fi8 1) ?_
                            refine lv_istore (lv' := [(4, .int (nI (fi8 + 1))), (7, .ref (adS fi8)), (0, .ref rd), (1, .int (-1)), (2, .int (nI pi)), (3, .int (nI d)), (5, .int (zb m1)), (6, .int (nI k1))]) hx hb d_RecordReader_readMembers_114 hl (by decide) rfl (fun ls hl => ?_)
                            refine lv_aload_n hx hb d_RecordReader_readMembers_116 rfl (lv_at hl 2 rfl) ?_
                            refine z_get hx hb hts (z_lay i_RecordReader) hown hK hw q8 rfl 0 (by decide) (z_in k_502 rfl) (fun _ h9 => h9) rfl d_RecordReader_readMembers_117 ?_
                            refine z_callV (n := 0) (As := []) (rest := []) ⟨hx, hb, hml, hown, hts⟩ (c_Scanner_next l g h15 e8 g15_b hn hlen hf (by omega)) (z_in k_234 rfl) (z_in k_8 rfl) (z_in k_524 rfl) (z_in k_232 rfl) (z_in k_233 rfl) (by decide +kernel) ⟨by first | exact Nat.le_of_ble_eq_true rfl | (dsimp only; omega) | omega, by first | exact Nat.le_of_ble_eq_true rfl | (dsimp only; omega) | omega⟩ hK hE hw hA rfl e8 rfl hl.1 (Nat.le_of_ble_eq_true rfl) d_RecordReader_readMembers_120 ⟨by first | exact Nat.le_of_ble_eq_true rfl | (dsimp only; omega) | omega, by first | exact Nat.le_of_ble_eq_true rfl | (dsimp only; omega) | omega⟩ rfl (fun r9 h9 H locs hp hw => ?_)
                            obtain ⟨r8, hh16⟩ := hp
                            subst r8
                            obtain ⟨h16, e8⟩ : ∃ x9, x9 = h9 := ⟨_, rfl⟩
                            subst e8
                            have f16_rd : h16 rd = some ((8, 0), .inr (9, [.ref sc, .ref q, .ref w, .ref tr, .long nu8])) := by rw [← hh16]; exact z_keep e8 q8 (z_t1 (by decide))
                            have f16_sc : h16 sc = some ((6, 0), .inr (7, [.ref b, .int (nI n), .int (nI (sk t n p8)), .int f8, .int w8, .int d8])) := by rw [← hh16]; exact z_put_eq
                            have f16_b : h16 b = some ((3, 0), .inl (g.2.1 0, len, .inl f)) := by rw [← hh16]; exact z_keep e8 g15_b (z_t1 (by decide))
                            have k616 : z_K (fun y => y = 6) h15 h16 := k6n.tr (by rw [← hh16]; exact z_K.put e8 rfl)
                            have kk16 : z_K (fun y => y = 6 ∨ y = 8 ∨ y = 10 ∨ y = mr ∨ y = mr + 1) h h16 := kk15.tr (by rw [← hh16]; exact z_K.put e8 (by first | decide | simp | omega))
                            refine W.eq (g2 := F0 m 123 ls [.int (bt t n (sk t n p8))]) rfl ?_
                            refine lv_bipush (v := 44) hx hb d_RecordReader_readMembers_123 (by decide) ?_
                            refine lv_icmp_ne (tgt := 144) hx hb d_RecordReader_readMembers_125 (by decide) (fun c_125 => ?_) (fun c_125 => ?_)
                            · -- 125: True
                              refine lv_iconst (v := 0) hx hb d_RecordReader_readMembers_144 (by decide) ?_
                              refine lv_istore (lv' := [(5, .int 0), (4, .int (nI (fi8 + 1))), (7, .ref (adS fi8)), (0, .ref rd), (1, .int (-1)), (2, .int (nI pi)), (3, .int (nI d)), (6, .int (nI k1))]) hx hb d_RecordReader_readMembers_145 hl (by decide) rfl (fun ls hl => ?_)
                              refine lv_iinc (v := nI (k1 + 1)) (lv' := [(6, .int (nI (k1 + 1))), (5, .int 0), (4, .int (nI (fi8 + 1))), (7, .ref (adS fi8)), (0, .ref rd), (1, .int (-1)), (2, .int (nI pi)), (3, .int (nI d))]) hx hb d_RecordReader_readMembers_147 hl (k := 7) rfl (nI_1 k1) (by decide) rfl (fun ls hl => ?_)
                              refine lv_goto (tgt := 55) hx hb d_RecordReader_readMembers_150 (by decide) ?_
                              refine W.widen (k := 2 * (R8.1 - R.1)) (n := 7 * (R8.1 - R.1) + (tbR R8 - tbR R)) (by first | exact Nat.le_of_ble_eq_true rfl | (dsimp only; omega) | omega) (by first | exact Nat.le_of_ble_eq_true rfl | (dsimp only; omega) | omega) ?_
                              refine ih_55 (k1 + 1) (fi8 + 1) false (sk t n p8) R8 nu8 f8 w8 d8 h16 _ _ _ f16_rd f16_sc f16_b kk16 (nA8.k k616 (by omega) (by omega) (by omega)) (tr8.k k616 (by omega)) pA8 (⟨by omega, by omega, by omega, by omega, by omega, by omega, by omega, by omega, by omega⟩) (by rw [← hR1, if_pos c_65, show 129 - k1 = (129 - (k1 + 1)) + 1 by omega]; simp only [memL]; rw [hN8]; dsimp only; rw [if_pos tsc, hR8]; dsimp only; rw [if_neg c_125]; exact if_neg (by decide)) ?_ hw (lv_sub hl [4, 5, 6, 7, 2, 1, 0] rfl)
                              omega
                            · -- 125: False
                              refine lv_aload_n hx hb d_RecordReader_readMembers_128 rfl (lv_at hl 2 rfl) ?_
                              refine z_get hx hb hts (z_lay i_RecordReader) hown hK hw f16_rd rfl 0 (by decide) (z_in k_502 rfl) (fun _ h9 => h9) rfl d_RecordReader_readMembers_129 ?_
                              refine lv_bipush (v := 44) hx hb d_RecordReader_readMembers_132 (by decide) ?_
                              refine z_callV (n := 1) (As := [.int 44]) (rest := []) ⟨hx, hb, hml, hown, hts⟩ (c_Scanner_takeSign (t := t) l g h16 f16_sc f16_b hn hlen hf (by omega)) (z_in k_456 rfl) (z_in k_8 rfl) (z_in k_523 rfl) (z_in k_454 rfl) (z_in k_455 rfl) (by decide +kernel) ⟨by first | exact Nat.le_of_ble_eq_true rfl | (dsimp only; omega) | omega, by first | exact Nat.le_of_ble_eq_true rfl | (dsimp only; omega) | omega⟩ hK hE hw hA rfl f16_sc rfl hl.1 (Nat.le_of_ble_eq_true rfl) d_RecordReader_readMembers_134 ⟨by first | exact Nat.le_of_ble_eq_true rfl | (dsimp only; omega) | omega, by first | exact Nat.le_of_ble_eq_true rfl | (dsimp only; omega) | omega⟩ rfl (fun r9 h9 H locs hp hw => ?_)
                              unfold tSg at hp
                              rw [sk_sk, if_pos c_125] at hp
                              obtain ⟨r8, hh17⟩ := hp
                              subst r8
                              obtain ⟨h17, e6⟩ : ∃ x9, x9 = h9 := ⟨_, rfl⟩
                              subst e6
                              have f17_rd : h17 rd = some ((8, 0), .inr (9, [.ref sc, .ref q, .ref w, .ref tr, .long nu8])) := by rw [← hh17]; exact z_keep f16_sc f16_rd (z_t1 (by decide))
                              have f17_sc : h17 sc = some ((6, 0), .inr (7, [.ref b, .int (nI n), .int (nI (sk t n p8 + 1)), .int f8, .int w8, .int d8])) := by rw [← hh17]; exact z_put_eq
                              have f17_b : h17 b = some ((3, 0), .inl (g.2.1 0, len, .inl f)) := by rw [← hh17]; exact z_keep f16_sc f16_b (z_t1 (by decide))
                              have k617 : z_K (fun y => y = 6) h15 h17 := k616.tr (by rw [← hh17]; exact z_K.put f16_sc rfl)
                              have kk17 : z_K (fun y => y = 6 ∨ y = 8 ∨ y = 10 ∨ y = mr ∨ y = mr + 1) h h17 := kk16.tr (by rw [← hh17]; exact z_K.put f16_sc (by first | decide | simp | omega))
                              have lt44 := bt_lt c_125
                              refine W.eq (g2 := F0 m 137 ls [.int 1]) rfl ?_
                              refine lv_if_eq (tgt := 144) hx hb d_RecordReader_readMembers_137 (by decide) (fun c_137 => ?_) (fun c_137 => ?_)
                              · -- 137: True
                                exact absurd c_137 (by decide)
                              · -- 137: False
                                refine lv_iconst (v := 1) hx hb d_RecordReader_readMembers_140 (by decide) ?_
                                refine lv_goto (tgt := 145) hx hb d_RecordReader_readMembers_141 (by decide) ?_
                                refine lv_istore (lv' := [(5, .int 1), (4, .int (nI (fi8 + 1))), (7, .ref (adS fi8)), (0, .ref rd), (1, .int (-1)), (2, .int (nI pi)), (3, .int (nI d)), (6, .int (nI k1))]) hx hb d_RecordReader_readMembers_145 hl (by decide) rfl (fun ls hl => ?_)
                                refine lv_iinc (v := nI (k1 + 1)) (lv' := [(6, .int (nI (k1 + 1))), (5, .int 1), (4, .int (nI (fi8 + 1))), (7, .ref (adS fi8)), (0, .ref rd), (1, .int (-1)), (2, .int (nI pi)), (3, .int (nI d))]) hx hb d_RecordReader_readMembers_147 hl (k := 7) rfl (nI_1 k1) (by decide) rfl (fun ls hl => ?_)
                                refine lv_goto (tgt := 55) hx hb d_RecordReader_readMembers_150 (by decide) ?_
                                refine W.widen (k := 2 * (R8.1 - R.1)) (n := 7 * (R8.1 - R.1) + (tbR R8 - tbR R)) (by first | exact Nat.le_of_ble_eq_true rfl | (dsimp only; omega) | omega) (by first | exact Nat.le_of_ble_eq_true rfl | (dsimp only; omega) | omega) ?_
                                refine ih_55 (k1 + 1) (fi8 + 1) true (sk t n p8 + 1) R8 nu8 f8 w8 d8 h17 _ _ _ f17_rd f17_sc f17_b kk17 (nA8.k k617 (by omega) (by omega) (by omega)) (tr8.k k617 (by omega)) pA8 (⟨by omega, by omega, by omega, by omega, by omega, by omega, by omega, by omega, by omega⟩) (by rw [← hR1, if_pos c_65, show 129 - k1 = (129 - (k1 + 1)) + 1 by omega]; simp only [memL]; rw [hN8]; dsimp only; rw [if_pos tsc, hR8]; dsimp only; rw [if_pos c_125]; exact if_pos trivial) ?_ hw (lv_sub hl [4, 5, 6, 7, 2, 1, 0] rfl)
                                omega
                          · -- 102: False
                            exact absurd c_102 (by decide)
                    · -- tsc False
                      rw [if_neg tsc] at hp
                      obtain ⟨r8, hh18⟩ := hp
                      subst r8
                      obtain ⟨h18, e8⟩ : ∃ x9, x9 = h9 := ⟨_, rfl⟩
                      subst e8
                      have f18_rd : h18 rd = some ((8, 0), .inr (9, [.ref sc, .ref q, .ref w, .ref tr, .long nu1])) := by rw [← hh18]; exact z_keep f12_sc f12_rd (z_t1 (by decide))
                      have f18_sc : h18 sc = some ((6, 0), .inr (7, [.ref b, .int (nI n), .int (nI (sk t n p7)), .int (nI (sk t n p7)), .int y12, .int z12])) := by rw [← hh18]; exact z_put_eq
                      have f18_b : h18 b = some ((3, 0), .inl (g.2.1 0, len, .inl f)) := by rw [← hh18]; exact z_keep f12_sc f12_b (z_t1 (by decide))
                      have k618 : z_K (fun y => y = 6) hL h18 := k612.tr (by rw [← hh18]; exact z_K.put f12_sc rfl)
                      have kk18 : z_K (fun y => y = 6 ∨ y = 8 ∨ y = 10 ∨ y = mr ∨ y = mr + 1) h h18 := kk12.tr (by rw [← hh18]; exact z_K.put f12_sc (by first | decide | simp | omega))
                      refine W.eq (g2 := F0 m 91 ls [.int 0]) rfl ?_
                      refine lv_if_eq (tgt := 105) hx hb d_RecordReader_readMembers_91 (by decide) (fun c_91 => ?_) (fun c_91 => ?_)
                      · -- 91: True
                        refine lv_iconst (v := 0) hx hb d_RecordReader_readMembers_105 (by decide) ?_
                        have eW : memR FR S t n (-1) 0 p R = .inl (sk t n p7, R1) := by rw [← hR1, if_pos c_65, show 129 - k1 = (129 - (k1 + 1)) + 1 by omega]; simp only [memL]; rw [hN8]; dsimp only; rw [if_neg tsc]
                        have eZ1 : (rrR (memR FR S t n (-1) 0 p R)).1 = R1.1 := by rw [eW]; rfl
                        have eZ2 : tbR (rrR (memR FR S t n (-1) 0 p R)) = tbR R1 := by rw [eW]; rfl
                        exact z_zret hx hb hr rfl hlocks hw (by rw [eW]; exact ⟨kk18, ⟨_, f18_rd⟩, (tA1.k k618 (by omega)), (nA1.k k618 (by omega) (by omega) (by omega)), pA1, rfl, ⟨_, _, _, _, f18_sc, rfl⟩⟩) (by first | exact Nat.le_of_ble_eq_true rfl | (dsimp only; omega) | omega) (by first | exact Nat.le_of_ble_eq_true rfl | (dsimp only; omega) | omega) d_RecordReader_readMembers_106
                      · -- 91: False
                        exact absurd (by decide) c_91
          refine W.widen (k := 2 * (R.1 - R.1)) (n := 7 * (R.1 - R.1) + (tbR R - tbR R)) (by first | exact Nat.le_of_ble_eq_true rfl | (dsimp only; omega) | omega) (by first | exact Nat.le_of_ble_eq_true rfl | (dsimp only; omega) | omega) ?_
          exact loop_55 (130 - 0 + 1) 0 0 false (sk t n (sk t n p + 1)) R nu9 fa ws wd h2 _ _ _ f2_rd f2_sc f2_b kk2 (hNA.k k62 (by omega) (by omega) (by omega)) (hTR.k k62 (by omega)) hpa (⟨by omega, by omega, by omega, by omega, by omega, rOK.1, rOK.2, by omega, by omega⟩) (by unfold memR; rw [if_pos ts1]; rw [if_pos c_42]; rfl) (by omega) hw (lv_sub hl [3, 4, 5, 6, 2, 1, 0] rfl)
        · -- 42: False
          refine lv_iconst (v := 1) hx hb d_RecordReader_readMembers_45 (by decide) ?_
          refine lv_goto (tgt := 50) hx hb d_RecordReader_readMembers_46 (by decide) ?_
          refine lv_istore (lv' := [(5, .int 1), (4, .int 0), (0, .ref rd), (1, .int (-1)), (2, .int (nI pi)), (3, .int (nI d))]) hx hb d_RecordReader_readMembers_50 hl (by decide) rfl (fun ls hl => ?_)
          refine lv_iconst (v := 0) hx hb d_RecordReader_readMembers_52 (by decide) ?_
          refine lv_istore (lv' := [(6, .int 0), (5, .int 1), (4, .int 0), (0, .ref rd), (1, .int (-1)), (2, .int (nI pi)), (3, .int (nI d))]) hx hb d_RecordReader_readMembers_53 hl (by decide) rfl (fun ls hl => ?_)
          have loop_55 : ∀ (fuel : Nat) (k1 : Nat) (st1 : Nat) (m1 : Bool) (p1 : Nat) (R1 : Rec) (nu1 : Int64) (fa1 : Int32) (ws1 : Int32) (wd1 : Int32) (hL : z_H) (H : Heap) (locs : List Loc) (ls : Array Slot) (L55_rd : hL rd = some ((8, 0), .inr (9, [.ref sc, .ref q, .ref w, .ref tr, .long nu1]))) (L55_sc : hL sc = some ((6, 0), .inr (7, [.ref b, .int (nI n), .int (nI p1), .int fa1, .int ws1, .int wd1]))) (L55_b : hL b = some ((3, 0), .inl (g.2.1 0, len, .inl f))) (kkL : z_K (fun y => y = 6 ∨ y = 8 ∨ y = 10 ∨ y = mr ∨ y = mr + 1) h hL) (nA1 : NdAt g hL mr w S R1) (tA1 : trAt g hL tr []) (pA1 : paOK R1) (le1 : p1 ≤ n ∧ R.1 ≤ R1.1 ∧ tbR R ≤ tbR R1 ∧ k1 ≤ 129 ∧ st1 ≤ 128 ∧ R1.1 ≤ (rrR (memR FR S t n (-1) 0 p R)).1 ∧ tbR R1 ≤ tbR (rrR (memR FR S t n (-1) 0 p R)) ∧ 2 * R1.1 ≤ p1 + 1 ∧ tbR R1 ≤ p1) (hR1 : (if m1 = true then memL FR S t n (-1) (129 - k1) st1 p1 R1 else memE S t n (-1) st1 p1 R1) = memR FR S t n (-1) 0 p R), (130 - k1) < fuel → z_S g A s.heap hL H locs → lv_has ls 8 [(0, .ref rd), (1, .int (-1)), (2, .int (nI pi)), (3, .int (nI d)), (4, .int (nI st1)), (5, .int (zb m1)), (6, .int (nI k1))] → W pg l en { frames := fM + 5, cells := 2 * ((rrR (memR FR S t n (-1) 0 p R)).1 - R.1), slots := 7 * ((rrR (memR FR S t n (-1) 0 p R)).1 - R.1) + (tbR (rrR (memR FR S t n (-1) 0 p R)) - tbR R), locals := lM + 150 } s m [.ref rd, .int (-1), .int (nI pi), .int (nI d)].toArray below meth cd H locs (2 * (R1.1 - R.1)) (7 * (R1.1 - R.1) + (tbR R1 - tbR R)) (MQ below (z_Q g A (vlP g (memR FR S t n (-1) 0 p R) h mr w S rd sc q tr b n)) [.ref rd, .int (-1), .int (nI pi), .int (nI d)].toArray s (2 * ((rrR (memR FR S t n (-1) 0 p R)).1 - R.1)) (7 * ((rrR (memR FR S t n (-1) 0 p R)).1 - R.1) + (tbR (rrR (memR FR S t n (-1) 0 p R)) - tbR R)) A) (F0 m 55 ls []) := by
            intro fuel
            induction fuel with
            | zero => intro k1 st1 m1 p1 R1 nu1 fa1 ws1 wd1 hL H locs ls L55_rd L55_sc L55_b kkL nA1 tA1 pA1 le1 hR1 hm; exact absurd hm (Nat.not_lt_zero _)
            | succ fuel ih_55 =>
              intro k1 st1 m1 p1 R1 nu1 fa1 ws1 wd1 hL H locs ls L55_rd L55_sc L55_b kkL nA1 tA1 pA1 le1 hR1 hm hw hl
              have k6L : z_K (fun y => y = 6) hL hL := z_K.rf
              have skp1 := sk_le (t := t) le1.1
              have skp2 := sk_ge t n p1
              refine lv_iload hx hb d_RecordReader_readMembers_55 (lv_at hl 6 rfl) ?_
              refine lv_sipush (v := 128) hx hb d_RecordReader_readMembers_57 (by decide) ?_
              refine lv_icmp_gt (tgt := 153) hx hb d_RecordReader_readMembers_60 (by decide) (fun c_60 => ?_) (fun c_60 => ?_)
              · -- 60: True
                have c_60 : 128 < k1 := (nI_ltI (a := 128) (b := k1) (by omega) (by omega)).mp c_60
                refine lv_aload_n hx hb d_RecordReader_readMembers_153 rfl (lv_at hl 0 rfl) ?_
                refine z_get hx hb hts (z_lay i_RecordReader) hown hK hw L55_rd rfl 0 (by decide) (z_in k_502 rfl) (fun _ h9 => h9) rfl d_RecordReader_readMembers_154 ?_
                refine z_callV (n := 0) (As := []) (rest := []) ⟨hx, hb, hml, hown, hts⟩ (c_Scanner_next l g hL L55_sc L55_b hn hlen hf (by omega)) (z_in k_234 rfl) (z_in k_8 rfl) (z_in k_524 rfl) (z_in k_232 rfl) (z_in k_233 rfl) (by decide +kernel) ⟨by first | exact Nat.le_of_ble_eq_true rfl | (dsimp only; omega) | omega, by first | exact Nat.le_of_ble_eq_true rfl | (dsimp only; omega) | omega⟩ hK hE hw hA rfl L55_sc rfl hl.1 (Nat.le_of_ble_eq_true rfl) d_RecordReader_readMembers_157 ⟨by first | exact Nat.le_of_ble_eq_true rfl | (dsimp only; omega) | omega, by first | exact Nat.le_of_ble_eq_true rfl | (dsimp only; omega) | omega⟩ rfl (fun r9 h9 H locs hp hw => ?_)
                obtain ⟨r8, hh19⟩ := hp
                subst r8
                obtain ⟨h19, e8⟩ : ∃ x9, x9 = h9 := ⟨_, rfl⟩
                subst e8
                have f19_rd : h19 rd = some ((8, 0), .inr (9, [.ref sc, .ref q, .ref w, .ref tr, .long nu1])) := by rw [← hh19]; exact z_keep L55_sc L55_rd (z_t1 (by decide))
                have f19_sc : h19 sc = some ((6, 0), .inr (7, [.ref b, .int (nI n), .int (nI (sk t n p1)), .int fa1, .int ws1, .int wd1])) := by rw [← hh19]; exact z_put_eq
                have f19_b : h19 b = some ((3, 0), .inl (g.2.1 0, len, .inl f)) := by rw [← hh19]; exact z_keep L55_sc L55_b (z_t1 (by decide))
                have k619 : z_K (fun y => y = 6) hL h19 := k6L.tr (by rw [← hh19]; exact z_K.put L55_sc rfl)
                have kk19 : z_K (fun y => y = 6 ∨ y = 8 ∨ y = 10 ∨ y = mr ∨ y = mr + 1) h h19 := kkL.tr (by rw [← hh19]; exact z_K.put L55_sc (by first | decide | simp | omega))
                refine W.eq (g2 := F0 m 160 ls [.int (bt t n (sk t n p1))]) rfl ?_
                refine lv_bipush (v := 125) hx hb d_RecordReader_readMembers_160 (by decide) ?_
                refine lv_icmp_ne (tgt := 186) hx hb d_RecordReader_readMembers_162 (by decide) (fun c_162 => ?_) (fun c_162 => ?_)
                · -- 162: True
                  refine lv_aload_n hx hb d_RecordReader_readMembers_186 rfl (lv_at hl 0 rfl) ?_
                  refine z_get hx hb hts (z_lay i_RecordReader) hown hK hw f19_rd rfl 0 (by decide) (z_in k_502 rfl) (fun _ h9 => h9) rfl d_RecordReader_readMembers_187 ?_
                  refine lv_bipush (v := 125) hx hb d_RecordReader_readMembers_190 (by decide) ?_
                  refine z_callV (n := 1) (As := [.int 125]) (rest := []) ⟨hx, hb, hml, hown, hts⟩ (c_Scanner_takeSign (t := t) l g h19 f19_sc f19_b hn hlen hf (by omega)) (z_in k_456 rfl) (z_in k_8 rfl) (z_in k_523 rfl) (z_in k_454 rfl) (z_in k_455 rfl) (by decide +kernel) ⟨by first | exact Nat.le_of_ble_eq_true rfl | (dsimp only; omega) | omega, by first | exact Nat.le_of_ble_eq_true rfl | (dsimp only; omega) | omega⟩ hK hE hw hA rfl f19_sc rfl hl.1 (Nat.le_of_ble_eq_true rfl) d_RecordReader_readMembers_192 ⟨by first | exact Nat.le_of_ble_eq_true rfl | (dsimp only; omega) | omega, by first | exact Nat.le_of_ble_eq_true rfl | (dsimp only; omega) | omega⟩ rfl (fun r9 h9 H locs hp hw => ?_)
                  unfold tSg at hp
                  rw [sk_sk, if_neg c_162] at hp
                  obtain ⟨r8, hh20⟩ := hp
                  subst r8
                  obtain ⟨h20, e6⟩ : ∃ x9, x9 = h9 := ⟨_, rfl⟩
                  subst e6
                  have f20_rd : h20 rd = some ((8, 0), .inr (9, [.ref sc, .ref q, .ref w, .ref tr, .long nu1])) := by rw [← hh20]; exact z_keep f19_sc f19_rd (z_t1 (by decide))
                  have f20_sc : h20 sc = some ((6, 0), .inr (7, [.ref b, .int (nI n), .int (nI (sk t n p1)), .int (nI (sk t n p1)), .int ws1, .int wd1])) := by rw [← hh20]; exact z_put_eq
                  have f20_b : h20 b = some ((3, 0), .inl (g.2.1 0, len, .inl f)) := by rw [← hh20]; exact z_keep f19_sc f19_b (z_t1 (by decide))
                  have k620 : z_K (fun y => y = 6) hL h20 := k619.tr (by rw [← hh20]; exact z_K.put f19_sc rfl)
                  have kk20 : z_K (fun y => y = 6 ∨ y = 8 ∨ y = 10 ∨ y = mr ∨ y = mr + 1) h h20 := kk19.tr (by rw [← hh20]; exact z_K.put f19_sc (by first | decide | simp | omega))
                  refine W.eq (g2 := F0 m 195 ls [.int 0]) rfl ?_
                  have eW : memR FR S t n (-1) 0 p R = .inl (sk t n p1, R1) := by rw [← hR1, show 129 - k1 = 0 by omega]; simp only [memL, ite_self]; unfold memE; rw [if_neg (fun z => c_162 z.1)]; unfold sgnR; rw [if_neg c_162]
                  have eZ1 : (rrR (memR FR S t n (-1) 0 p R)).1 = R1.1 := by rw [eW]; rfl
                  have eZ2 : tbR (rrR (memR FR S t n (-1) 0 p R)) = tbR R1 := by rw [eW]; rfl
                  exact z_zret hx hb hr rfl hlocks hw (by rw [eW]; exact ⟨kk20, ⟨_, f20_rd⟩, (tA1.k k620 (by omega)), (nA1.k k620 (by omega) (by omega) (by omega)), pA1, rfl, ⟨_, _, _, _, f20_sc, rfl⟩⟩) (by first | exact Nat.le_of_ble_eq_true rfl | (dsimp only; omega) | omega) (by first | exact Nat.le_of_ble_eq_true rfl | (dsimp only; omega) | omega) d_RecordReader_readMembers_195
                · -- 162: False
                  have hq7 := (hS.k kk19 (by omega) (by omega) (by omega)).1
                  refine lv_aload_n hx hb d_RecordReader_readMembers_165 rfl (lv_at hl 0 rfl) ?_
                  refine z_get hx hb hts (z_lay i_RecordReader) hown hK hw f19_rd rfl 1 (by decide) (z_in k_503 rfl) (fun _ h9 => h9) rfl d_RecordReader_readMembers_166 ?_
                  refine lv_iload hx hb d_RecordReader_readMembers_169 (lv_at hl 4 rfl) ?_
                  refine lv_iload_n hx hb d_RecordReader_readMembers_171 rfl (lv_at hl 1 rfl) ?_
                  refine z_callV (n := 2) (As := [.int (nI st1), .int (-1)]) (rest := []) ⟨hx, hb, hml, hown, hts⟩ (c_Schema_hasRequiredFrom (k := -1) (st := st1) l g h19 (hS.k kk19 (by omega) (by omega) (by omega)) (by omega)) (z_in k_605 rfl) (z_in k_4 rfl) (z_in k_602 rfl) (z_in k_603 rfl) (z_in k_604 rfl) (by decide +kernel) ⟨by first | exact Nat.le_of_ble_eq_true rfl | (dsimp only; omega) | omega, by first | exact Nat.le_of_ble_eq_true rfl | (dsimp only; omega) | omega⟩ hK hE hw hA rfl hq7 rfl hl.1 (Nat.le_of_ble_eq_true rfl) d_RecordReader_readMembers_172 ⟨by first | exact Nat.le_of_ble_eq_true rfl | (dsimp only; omega) | omega, by first | exact Nat.le_of_ble_eq_true rfl | (dsimp only; omega) | omega⟩ rfl (fun r9 h9 H locs hp hw => ?_)
                  obtain ⟨r8, h8⟩ := hp
                  subst r8
                  subst h8
                  refine W.eq (g2 := F0 m 175 ls [.int (zb (hrq S (-1) st1))]) rfl ?_
                  refine lv_if_eq (tgt := 186) hx hb d_RecordReader_readMembers_175 (by decide) (fun c_175 => ?_) (fun c_175 => ?_)
                  · -- 175: True
                    have c_175 : (hrq S (-1) st1) = false := zb_f c_175
                    refine lv_aload_n hx hb d_RecordReader_readMembers_186 rfl (lv_at hl 0 rfl) ?_
                    refine z_get hx hb hts (z_lay i_RecordReader) hown hK hw f19_rd rfl 0 (by decide) (z_in k_502 rfl) (fun _ h9 => h9) rfl d_RecordReader_readMembers_187 ?_
                    refine lv_bipush (v := 125) hx hb d_RecordReader_readMembers_190 (by decide) ?_
                    refine z_callV (n := 1) (As := [.int 125]) (rest := []) ⟨hx, hb, hml, hown, hts⟩ (c_Scanner_takeSign (t := t) l g h19 f19_sc f19_b hn hlen hf (by omega)) (z_in k_456 rfl) (z_in k_8 rfl) (z_in k_523 rfl) (z_in k_454 rfl) (z_in k_455 rfl) (by decide +kernel) ⟨by first | exact Nat.le_of_ble_eq_true rfl | (dsimp only; omega) | omega, by first | exact Nat.le_of_ble_eq_true rfl | (dsimp only; omega) | omega⟩ hK hE hw hA rfl f19_sc rfl hl.1 (Nat.le_of_ble_eq_true rfl) d_RecordReader_readMembers_192 ⟨by first | exact Nat.le_of_ble_eq_true rfl | (dsimp only; omega) | omega, by first | exact Nat.le_of_ble_eq_true rfl | (dsimp only; omega) | omega⟩ rfl (fun r9 h9 H locs hp hw => ?_)
                    unfold tSg at hp
                    rw [sk_sk, if_pos c_162] at hp
                    obtain ⟨r8, hh21⟩ := hp
                    subst r8
                    obtain ⟨h21, e6⟩ : ∃ x9, x9 = h9 := ⟨_, rfl⟩
                    subst e6
                    have f21_rd : h21 rd = some ((8, 0), .inr (9, [.ref sc, .ref q, .ref w, .ref tr, .long nu1])) := by rw [← hh21]; exact z_keep f19_sc f19_rd (z_t1 (by decide))
                    have f21_sc : h21 sc = some ((6, 0), .inr (7, [.ref b, .int (nI n), .int (nI (sk t n p1 + 1)), .int fa1, .int ws1, .int wd1])) := by rw [← hh21]; exact z_put_eq
                    have f21_b : h21 b = some ((3, 0), .inl (g.2.1 0, len, .inl f)) := by rw [← hh21]; exact z_keep f19_sc f19_b (z_t1 (by decide))
                    have k621 : z_K (fun y => y = 6) hL h21 := k619.tr (by rw [← hh21]; exact z_K.put f19_sc rfl)
                    have kk21 : z_K (fun y => y = 6 ∨ y = 8 ∨ y = 10 ∨ y = mr ∨ y = mr + 1) h h21 := kk19.tr (by rw [← hh21]; exact z_K.put f19_sc (by first | decide | simp | omega))
                    have lt125 := bt_lt c_162
                    refine W.eq (g2 := F0 m 195 ls [.int 1]) rfl ?_
                    have eW : memR FR S t n (-1) 0 p R = .inr (sk t n p1 + 1, R1) := by rw [← hR1, show 129 - k1 = 0 by omega]; simp only [memL, ite_self]; unfold memE; rw [if_neg (fun z => by rw [c_175] at z; exact absurd z.2 (by decide))]; unfold sgnR; rw [if_pos c_162]
                    have eZ1 : (rrR (memR FR S t n (-1) 0 p R)).1 = R1.1 := by rw [eW]; rfl
                    have eZ2 : tbR (rrR (memR FR S t n (-1) 0 p R)) = tbR R1 := by rw [eW]; rfl
                    exact z_zret hx hb hr rfl hlocks hw (by rw [eW]; exact ⟨kk21, ⟨_, f21_rd⟩, (tA1.k k621 (by omega)), (nA1.k k621 (by omega) (by omega) (by omega)), pA1, rfl, ⟨_, _, _, f21_sc⟩, by dsimp only; omega, by dsimp only; omega, by dsimp only; omega⟩) (by first | exact Nat.le_of_ble_eq_true rfl | (dsimp only; omega) | omega) (by first | exact Nat.le_of_ble_eq_true rfl | (dsimp only; omega) | omega) d_RecordReader_readMembers_195
                  · -- 175: False
                    have c_175 : (hrq S (-1) st1) = true := zb_t c_175
                    refine lv_aload_n hx hb d_RecordReader_readMembers_178 rfl (lv_at hl 0 rfl) ?_
                    refine z_get hx hb hts (z_lay i_RecordReader) hown hK hw f19_rd rfl 0 (by decide) (z_in k_502 rfl) (fun _ h9 => h9) rfl d_RecordReader_readMembers_179 ?_
                    refine z_callV (n := 0) (As := []) (rest := []) ⟨hx, hb, hml, hown, hts⟩ (c_Scanner_failHere l g h19 f19_sc) (z_in k_258 rfl) (z_in k_8 rfl) (z_in k_522 rfl) (z_in k_256 rfl) (z_in k_257 rfl) (by decide +kernel) ⟨by first | exact Nat.le_of_ble_eq_true rfl | (dsimp only; omega) | omega, by first | exact Nat.le_of_ble_eq_true rfl | (dsimp only; omega) | omega⟩ hK hE hw hA rfl f19_sc rfl hl.1 (Nat.le_of_ble_eq_true rfl) d_RecordReader_readMembers_182 ⟨by first | exact Nat.le_of_ble_eq_true rfl | (dsimp only; omega) | omega, by first | exact Nat.le_of_ble_eq_true rfl | (dsimp only; omega) | omega⟩ rfl (fun r9 h9 H locs hp hw => ?_)
                    obtain ⟨r8, hh22⟩ := hp
                    subst r8
                    obtain ⟨h22, e8⟩ : ∃ x9, x9 = h9 := ⟨_, rfl⟩
                    subst e8
                    have f22_rd : h22 rd = some ((8, 0), .inr (9, [.ref sc, .ref q, .ref w, .ref tr, .long nu1])) := by rw [← hh22]; exact z_keep f19_sc f19_rd (z_t1 (by decide))
                    have f22_sc : h22 sc = some ((6, 0), .inr (7, [.ref b, .int (nI n), .int (nI (sk t n p1)), .int (nI (sk t n p1)), .int ws1, .int wd1])) := by rw [← hh22]; exact z_put_eq
                    have f22_b : h22 b = some ((3, 0), .inl (g.2.1 0, len, .inl f)) := by rw [← hh22]; exact z_keep f19_sc f19_b (z_t1 (by decide))
                    have f22_q : h22 q = some ((r, 0), .inr (3, [.ref fa9, .ref ca, .int (nI S.1), .int (nI (cc S)), .int (nI (rq S (-1)))])) := by rw [← hh22]; exact z_keep f19_sc hq7 (by first | decide | (refine z_t1 ?_; omega) | (refine z_t2 ?_; omega))
                    have k622 : z_K (fun y => y = 6) hL h22 := k619.tr (by rw [← hh22]; exact z_K.put f19_sc rfl)
                    have kk22 : z_K (fun y => y = 6 ∨ y = 8 ∨ y = 10 ∨ y = mr ∨ y = mr + 1) h h22 := kk19.tr (by rw [← hh22]; exact z_K.put f19_sc (by first | decide | simp | omega))
                    refine W.eq (g2 := F0 m 185 ls [.int 0]) rfl ?_
                    have eW : memR FR S t n (-1) 0 p R = .inl (sk t n p1, R1) := by rw [← hR1, show 129 - k1 = 0 by omega]; simp only [memL, ite_self]; unfold memE; rw [if_pos ⟨c_162, c_175⟩]
                    have eZ1 : (rrR (memR FR S t n (-1) 0 p R)).1 = R1.1 := by rw [eW]; rfl
                    have eZ2 : tbR (rrR (memR FR S t n (-1) 0 p R)) = tbR R1 := by rw [eW]; rfl
                    exact z_zret hx hb hr rfl hlocks hw (by rw [eW]; exact ⟨kk22, ⟨_, f22_rd⟩, (tA1.k k622 (by omega)), (nA1.k k622 (by omega) (by omega) (by omega)), pA1, rfl, ⟨_, _, _, _, f22_sc, rfl⟩⟩) (by first | exact Nat.le_of_ble_eq_true rfl | (dsimp only; omega) | omega) (by first | exact Nat.le_of_ble_eq_true rfl | (dsimp only; omega) | omega) d_RecordReader_readMembers_185
              · -- 60: False
                have c_60 : ¬ (128 < k1) := fun z => c_60 ((nI_ltI (a := 128) (b := k1) (by omega) (by omega)).mpr z)
                refine lv_iload hx hb d_RecordReader_readMembers_63 (lv_at hl 5 rfl) ?_
                refine lv_if_eq (tgt := 153) hx hb d_RecordReader_readMembers_65 (by decide) (fun c_65 => ?_) (fun c_65 => ?_)
                · -- 65: True
                  have c_65 : m1 = false := zb_f c_65
                  refine lv_aload_n hx hb d_RecordReader_readMembers_153 rfl (lv_at hl 0 rfl) ?_
                  refine z_get hx hb hts (z_lay i_RecordReader) hown hK hw L55_rd rfl 0 (by decide) (z_in k_502 rfl) (fun _ h9 => h9) rfl d_RecordReader_readMembers_154 ?_
                  refine z_callV (n := 0) (As := []) (rest := []) ⟨hx, hb, hml, hown, hts⟩ (c_Scanner_next l g hL L55_sc L55_b hn hlen hf (by omega)) (z_in k_234 rfl) (z_in k_8 rfl) (z_in k_524 rfl) (z_in k_232 rfl) (z_in k_233 rfl) (by decide +kernel) ⟨by first | exact Nat.le_of_ble_eq_true rfl | (dsimp only; omega) | omega, by first | exact Nat.le_of_ble_eq_true rfl | (dsimp only; omega) | omega⟩ hK hE hw hA rfl L55_sc rfl hl.1 (Nat.le_of_ble_eq_true rfl) d_RecordReader_readMembers_157 ⟨by first | exact Nat.le_of_ble_eq_true rfl | (dsimp only; omega) | omega, by first | exact Nat.le_of_ble_eq_true rfl | (dsimp only; omega) | omega⟩ rfl (fun r9 h9 H locs hp hw => ?_)
                  obtain ⟨r8, hh23⟩ := hp
                  subst r8
                  obtain ⟨h23, e8⟩ : ∃ x9, x9 = h9 := ⟨_, rfl⟩
                  subst e8
                  have f23_rd : h23 rd = some ((8, 0), .inr (9, [.ref sc, .ref q, .ref w, .ref tr, .long nu1])) := by rw [← hh23]; exact z_keep L55_sc L55_rd (z_t1 (by decide))
                  have f23_sc : h23 sc = some ((6, 0), .inr (7, [.ref b, .int (nI n), .int (nI (sk t n p1)), .int fa1, .int ws1, .int wd1])) := by rw [← hh23]; exact z_put_eq
                  have f23_b : h23 b = some ((3, 0), .inl (g.2.1 0, len, .inl f)) := by rw [← hh23]; exact z_keep L55_sc L55_b (z_t1 (by decide))
                  have k623 : z_K (fun y => y = 6) hL h23 := k6L.tr (by rw [← hh23]; exact z_K.put L55_sc rfl)
                  have kk23 : z_K (fun y => y = 6 ∨ y = 8 ∨ y = 10 ∨ y = mr ∨ y = mr + 1) h h23 := kkL.tr (by rw [← hh23]; exact z_K.put L55_sc (by first | decide | simp | omega))
                  refine W.eq (g2 := F0 m 160 ls [.int (bt t n (sk t n p1))]) rfl ?_
                  refine lv_bipush (v := 125) hx hb d_RecordReader_readMembers_160 (by decide) ?_
                  refine lv_icmp_ne (tgt := 186) hx hb d_RecordReader_readMembers_162 (by decide) (fun c_162 => ?_) (fun c_162 => ?_)
                  · -- 162: True
                    refine lv_aload_n hx hb d_RecordReader_readMembers_186 rfl (lv_at hl 0 rfl) ?_
                    refine z_get hx hb hts (z_lay i_RecordReader) hown hK hw f23_rd rfl 0 (by decide) (z_in k_502 rfl) (fun _ h9 => h9) rfl d_RecordReader_readMembers_187 ?_
                    refine lv_bipush (v := 125) hx hb d_RecordReader_readMembers_190 (by decide) ?_
                    refine z_callV (n := 1) (As := [.int 125]) (rest := []) ⟨hx, hb, hml, hown, hts⟩ (c_Scanner_takeSign (t := t) l g h23 f23_sc f23_b hn hlen hf (by omega)) (z_in k_456 rfl) (z_in k_8 rfl) (z_in k_523 rfl) (z_in k_454 rfl) (z_in k_455 rfl) (by decide +kernel) ⟨by first | exact Nat.le_of_ble_eq_true rfl | (dsimp only; omega) | omega, by first | exact Nat.le_of_ble_eq_true rfl | (dsimp only; omega) | omega⟩ hK hE hw hA rfl f23_sc rfl hl.1 (Nat.le_of_ble_eq_true rfl) d_RecordReader_readMembers_192 ⟨by first | exact Nat.le_of_ble_eq_true rfl | (dsimp only; omega) | omega, by first | exact Nat.le_of_ble_eq_true rfl | (dsimp only; omega) | omega⟩ rfl (fun r9 h9 H locs hp hw => ?_)
                    unfold tSg at hp
                    rw [sk_sk, if_neg c_162] at hp
                    obtain ⟨r8, hh24⟩ := hp
                    subst r8
                    obtain ⟨h24, e6⟩ : ∃ x9, x9 = h9 := ⟨_, rfl⟩
                    subst e6
                    have f24_rd : h24 rd = some ((8, 0), .inr (9, [.ref sc, .ref q, .ref w, .ref tr, .long nu1])) := by rw [← hh24]; exact z_keep f23_sc f23_rd (z_t1 (by decide))
                    have f24_sc : h24 sc = some ((6, 0), .inr (7, [.ref b, .int (nI n), .int (nI (sk t n p1)), .int (nI (sk t n p1)), .int ws1, .int wd1])) := by rw [← hh24]; exact z_put_eq
                    have f24_b : h24 b = some ((3, 0), .inl (g.2.1 0, len, .inl f)) := by rw [← hh24]; exact z_keep f23_sc f23_b (z_t1 (by decide))
                    have k624 : z_K (fun y => y = 6) hL h24 := k623.tr (by rw [← hh24]; exact z_K.put f23_sc rfl)
                    have kk24 : z_K (fun y => y = 6 ∨ y = 8 ∨ y = 10 ∨ y = mr ∨ y = mr + 1) h h24 := kk23.tr (by rw [← hh24]; exact z_K.put f23_sc (by first | decide | simp | omega))
                    refine W.eq (g2 := F0 m 195 ls [.int 0]) rfl ?_
                    have eW : memR FR S t n (-1) 0 p R = .inl (sk t n p1, R1) := by rw [← hR1, if_neg (by rw [c_65]; decide)]; unfold memE; rw [if_neg (fun z => c_162 z.1)]; unfold sgnR; rw [if_neg c_162]
                    have eZ1 : (rrR (memR FR S t n (-1) 0 p R)).1 = R1.1 := by rw [eW]; rfl
                    have eZ2 : tbR (rrR (memR FR S t n (-1) 0 p R)) = tbR R1 := by rw [eW]; rfl
                    exact z_zret hx hb hr rfl hlocks hw (by rw [eW]; exact ⟨kk24, ⟨_, f24_rd⟩, (tA1.k k624 (by omega)), (nA1.k k624 (by omega) (by omega) (by omega)), pA1, rfl, ⟨_, _, _, _, f24_sc, rfl⟩⟩) (by first | exact Nat.le_of_ble_eq_true rfl | (dsimp only; omega) | omega) (by first | exact Nat.le_of_ble_eq_true rfl | (dsimp only; omega) | omega) d_RecordReader_readMembers_195
                  · -- 162: False
                    have hq7 := (hS.k kk23 (by omega) (by omega) (by omega)).1
                    refine lv_aload_n hx hb d_RecordReader_readMembers_165 rfl (lv_at hl 0 rfl) ?_
                    refine z_get hx hb hts (z_lay i_RecordReader) hown hK hw f23_rd rfl 1 (by decide) (z_in k_503 rfl) (fun _ h9 => h9) rfl d_RecordReader_readMembers_166 ?_
                    refine lv_iload hx hb d_RecordReader_readMembers_169 (lv_at hl 4 rfl) ?_
                    refine lv_iload_n hx hb d_RecordReader_readMembers_171 rfl (lv_at hl 1 rfl) ?_
                    refine z_callV (n := 2) (As := [.int (nI st1), .int (-1)]) (rest := []) ⟨hx, hb, hml, hown, hts⟩ (c_Schema_hasRequiredFrom (k := -1) (st := st1) l g h23 (hS.k kk23 (by omega) (by omega) (by omega)) (by omega)) (z_in k_605 rfl) (z_in k_4 rfl) (z_in k_602 rfl) (z_in k_603 rfl) (z_in k_604 rfl) (by decide +kernel) ⟨by first | exact Nat.le_of_ble_eq_true rfl | (dsimp only; omega) | omega, by first | exact Nat.le_of_ble_eq_true rfl | (dsimp only; omega) | omega⟩ hK hE hw hA rfl hq7 rfl hl.1 (Nat.le_of_ble_eq_true rfl) d_RecordReader_readMembers_172 ⟨by first | exact Nat.le_of_ble_eq_true rfl | (dsimp only; omega) | omega, by first | exact Nat.le_of_ble_eq_true rfl | (dsimp only; omega) | omega⟩ rfl (fun r9 h9 H locs hp hw => ?_)
                    obtain ⟨r8, h8⟩ := hp
                    subst r8
                    subst h8
                    refine W.eq (g2 := F0 m 175 ls [.int (zb (hrq S (-1) st1))]) rfl ?_
                    refine lv_if_eq (tgt := 186) hx hb d_RecordReader_readMembers_175 (by decide) (fun c_175 => ?_) (fun c_175 => ?_)
                    · -- 175: True
                      have c_175 : (hrq S (-1) st1) = false := zb_f c_175
                      refine lv_aload_n hx hb d_RecordReader_readMembers_186 rfl (lv_at hl 0 rfl) ?_
                      refine z_get hx hb hts (z_lay i_RecordReader) hown hK hw f23_rd rfl 0 (by decide) (z_in k_502 rfl) (fun _ h9 => h9) rfl d_RecordReader_readMembers_187 ?_
                      refine lv_bipush (v := 125) hx hb d_RecordReader_readMembers_190 (by decide) ?_
                      refine z_callV (n := 1) (As := [.int 125]) (rest := []) ⟨hx, hb, hml, hown, hts⟩ (c_Scanner_takeSign (t := t) l g h23 f23_sc f23_b hn hlen hf (by omega)) (z_in k_456 rfl) (z_in k_8 rfl) (z_in k_523 rfl) (z_in k_454 rfl) (z_in k_455 rfl) (by decide +kernel) ⟨by first | exact Nat.le_of_ble_eq_true rfl | (dsimp only; omega) | omega, by first | exact Nat.le_of_ble_eq_true rfl | (dsimp only; omega) | omega⟩ hK hE hw hA rfl f23_sc rfl hl.1 (Nat.le_of_ble_eq_true rfl) d_RecordReader_readMembers_192 ⟨by first | exact Nat.le_of_ble_eq_true rfl | (dsimp only; omega) | omega, by first | exact Nat.le_of_ble_eq_true rfl | (dsimp only; omega) | omega⟩ rfl (fun r9 h9 H locs hp hw => ?_)
                      unfold tSg at hp
                      rw [sk_sk, if_pos c_162] at hp
                      obtain ⟨r8, hh25⟩ := hp
                      subst r8
                      obtain ⟨h25, e6⟩ : ∃ x9, x9 = h9 := ⟨_, rfl⟩
                      subst e6
                      have f25_rd : h25 rd = some ((8, 0), .inr (9, [.ref sc, .ref q, .ref w, .ref tr, .long nu1])) := by rw [← hh25]; exact z_keep f23_sc f23_rd (z_t1 (by decide))
                      have f25_sc : h25 sc = some ((6, 0), .inr (7, [.ref b, .int (nI n), .int (nI (sk t n p1 + 1)), .int fa1, .int ws1, .int wd1])) := by rw [← hh25]; exact z_put_eq
                      have f25_b : h25 b = some ((3, 0), .inl (g.2.1 0, len, .inl f)) := by rw [← hh25]; exact z_keep f23_sc f23_b (z_t1 (by decide))
                      have k625 : z_K (fun y => y = 6) hL h25 := k623.tr (by rw [← hh25]; exact z_K.put f23_sc rfl)
                      have kk25 : z_K (fun y => y = 6 ∨ y = 8 ∨ y = 10 ∨ y = mr ∨ y = mr + 1) h h25 := kk23.tr (by rw [← hh25]; exact z_K.put f23_sc (by first | decide | simp | omega))
                      have lt125 := bt_lt c_162
                      refine W.eq (g2 := F0 m 195 ls [.int 1]) rfl ?_
                      have eW : memR FR S t n (-1) 0 p R = .inr (sk t n p1 + 1, R1) := by rw [← hR1, if_neg (by rw [c_65]; decide)]; unfold memE; rw [if_neg (fun z => by rw [c_175] at z; exact absurd z.2 (by decide))]; unfold sgnR; rw [if_pos c_162]
                      have eZ1 : (rrR (memR FR S t n (-1) 0 p R)).1 = R1.1 := by rw [eW]; rfl
                      have eZ2 : tbR (rrR (memR FR S t n (-1) 0 p R)) = tbR R1 := by rw [eW]; rfl
                      exact z_zret hx hb hr rfl hlocks hw (by rw [eW]; exact ⟨kk25, ⟨_, f25_rd⟩, (tA1.k k625 (by omega)), (nA1.k k625 (by omega) (by omega) (by omega)), pA1, rfl, ⟨_, _, _, f25_sc⟩, by dsimp only; omega, by dsimp only; omega, by dsimp only; omega⟩) (by first | exact Nat.le_of_ble_eq_true rfl | (dsimp only; omega) | omega) (by first | exact Nat.le_of_ble_eq_true rfl | (dsimp only; omega) | omega) d_RecordReader_readMembers_195
                    · -- 175: False
                      have c_175 : (hrq S (-1) st1) = true := zb_t c_175
                      refine lv_aload_n hx hb d_RecordReader_readMembers_178 rfl (lv_at hl 0 rfl) ?_
                      refine z_get hx hb hts (z_lay i_RecordReader) hown hK hw f23_rd rfl 0 (by decide) (z_in k_502 rfl) (fun _ h9 => h9) rfl d_RecordReader_readMembers_179 ?_
                      refine z_callV (n := 0) (As := []) (rest := []) ⟨hx, hb, hml, hown, hts⟩ (c_Scanner_failHere l g h23 f23_sc) (z_in k_258 rfl) (z_in k_8 rfl) (z_in k_522 rfl) (z_in k_256 rfl) (z_in k_257 rfl) (by decide +kernel) ⟨by first | exact Nat.le_of_ble_eq_true rfl | (dsimp only; omega) | omega, by first | exact Nat.le_of_ble_eq_true rfl | (dsimp only; omega) | omega⟩ hK hE hw hA rfl f23_sc rfl hl.1 (Nat.le_of_ble_eq_true rfl) d_RecordReader_readMembers_182 ⟨by first | exact Nat.le_of_ble_eq_true rfl | (dsimp only; omega) | omega, by first | exact Nat.le_of_ble_eq_true rfl | (dsimp only; omega) | omega⟩ rfl (fun r9 h9 H locs hp hw => ?_)
                      obtain ⟨r8, hh26⟩ := hp
                      subst r8
                      obtain ⟨h26, e8⟩ : ∃ x9, x9 = h9 := ⟨_, rfl⟩
                      subst e8
                      have f26_rd : h26 rd = some ((8, 0), .inr (9, [.ref sc, .ref q, .ref w, .ref tr, .long nu1])) := by rw [← hh26]; exact z_keep f23_sc f23_rd (z_t1 (by decide))
                      have f26_sc : h26 sc = some ((6, 0), .inr (7, [.ref b, .int (nI n), .int (nI (sk t n p1)), .int (nI (sk t n p1)), .int ws1, .int wd1])) := by rw [← hh26]; exact z_put_eq
                      have f26_b : h26 b = some ((3, 0), .inl (g.2.1 0, len, .inl f)) := by rw [← hh26]; exact z_keep f23_sc f23_b (z_t1 (by decide))
                      have f26_q : h26 q = some ((r, 0), .inr (3, [.ref fa9, .ref ca, .int (nI S.1), .int (nI (cc S)), .int (nI (rq S (-1)))])) := by rw [← hh26]; exact z_keep f23_sc hq7 (by first | decide | (refine z_t1 ?_; omega) | (refine z_t2 ?_; omega))
                      have k626 : z_K (fun y => y = 6) hL h26 := k623.tr (by rw [← hh26]; exact z_K.put f23_sc rfl)
                      have kk26 : z_K (fun y => y = 6 ∨ y = 8 ∨ y = 10 ∨ y = mr ∨ y = mr + 1) h h26 := kk23.tr (by rw [← hh26]; exact z_K.put f23_sc (by first | decide | simp | omega))
                      refine W.eq (g2 := F0 m 185 ls [.int 0]) rfl ?_
                      have eW : memR FR S t n (-1) 0 p R = .inl (sk t n p1, R1) := by rw [← hR1, if_neg (by rw [c_65]; decide)]; unfold memE; rw [if_pos ⟨c_162, c_175⟩]
                      have eZ1 : (rrR (memR FR S t n (-1) 0 p R)).1 = R1.1 := by rw [eW]; rfl
                      have eZ2 : tbR (rrR (memR FR S t n (-1) 0 p R)) = tbR R1 := by rw [eW]; rfl
                      exact z_zret hx hb hr rfl hlocks hw (by rw [eW]; exact ⟨kk26, ⟨_, f26_rd⟩, (tA1.k k626 (by omega)), (nA1.k k626 (by omega) (by omega) (by omega)), pA1, rfl, ⟨_, _, _, _, f26_sc, rfl⟩⟩) (by first | exact Nat.le_of_ble_eq_true rfl | (dsimp only; omega) | omega) (by first | exact Nat.le_of_ble_eq_true rfl | (dsimp only; omega) | omega) d_RecordReader_readMembers_185
                · -- 65: False
                  have c_65 : m1 = true := zb_t c_65
                  refine lv_aload_n hx hb d_RecordReader_readMembers_68 rfl (lv_at hl 0 rfl) ?_
                  refine lv_iload_n hx hb d_RecordReader_readMembers_69 rfl (lv_at hl 1 rfl) ?_
                  refine lv_iload hx hb d_RecordReader_readMembers_70 (lv_at hl 4 rfl) ?_
                  refine z_callV (n := 2) (As := [.int (-1), .int (nI st1)]) (rest := []) ⟨hx, hb, hml, hown, hts⟩ (c_readName (t := t) (st := st1) l g hL L55_rd L55_sc L55_b (hS.k kkL (by omega) (by omega) (by omega)) hn hlen hf (by omega) hr0 (by omega)) (z_in k_528 rfl) (z_in k_18 rfl) (z_in k_525 rfl) (z_in k_527 rfl) (z_in ks_6 rfl) (by decide +kernel) ⟨by first | exact Nat.le_of_ble_eq_true rfl | (dsimp only; omega) | omega, by first | exact Nat.le_of_ble_eq_true rfl | (dsimp only; omega) | omega⟩ hK hE hw hA rfl L55_rd rfl hl.1 (Nat.le_of_ble_eq_true rfl) d_RecordReader_readMembers_72 ⟨by first | exact Nat.le_of_ble_eq_true rfl | (dsimp only; omega) | omega, by first | exact Nat.le_of_ble_eq_true rfl | (dsimp only; omega) | omega⟩ rfl (fun r9 h9 H locs hp hw => ?_)
                  rcases hN8 : namR S t n (-1) st1 p1 with F7 | ⟨fi8, p7⟩
                  · -- name False
                    rw [hN8] at hp
                    obtain ⟨r8, x27, y27, z27, hh27⟩ := hp
                    subst r8
                    obtain ⟨h27, e6⟩ : ∃ x9, x9 = h9 := ⟨_, rfl⟩
                    subst e6
                    have f27_rd : h27 rd = some ((8, 0), .inr (9, [.ref sc, .ref q, .ref w, .ref tr, .long nu1])) := by rw [← hh27]; exact z_keep L55_sc L55_rd (z_t1 (by decide))
                    have f27_sc : h27 sc = some ((6, 0), .inr (7, [.ref b, .int (nI n), .int (nI x27), .int (nI F7), .int y27, .int z27])) := by rw [← hh27]; exact z_put_eq
                    have f27_b : h27 b = some ((3, 0), .inl (g.2.1 0, len, .inl f)) := by rw [← hh27]; exact z_keep L55_sc L55_b (z_t1 (by decide))
                    have k627 : z_K (fun y => y = 6) hL h27 := k6L.tr (by rw [← hh27]; exact z_K.put L55_sc rfl)
                    have kk27 : z_K (fun y => y = 6 ∨ y = 8 ∨ y = 10 ∨ y = mr ∨ y = mr + 1) h h27 := kkL.tr (by rw [← hh27]; exact z_K.put L55_sc (by first | decide | simp | omega))
                    refine W.eq (g2 := F0 m 75 ls [.null]) rfl ?_
                    refine lv_astoreN (lv' := [(7, .null), (0, .ref rd), (1, .int (-1)), (2, .int (nI pi)), (3, .int (nI d)), (4, .int (nI st1)), (5, .int (zb m1)), (6, .int (nI k1))]) hx hb d_RecordReader_readMembers_75 hl (by decide) rfl (fun ls hl => ?_)
                    refine lv_aloadN hx hb d_RecordReader_readMembers_77 (lv_at hl 0 rfl) ?_
                    refine lv_ifnullN (tgt := 105) hx hb d_RecordReader_readMembers_79 (by decide) ?_
                    refine lv_iconst (v := 0) hx hb d_RecordReader_readMembers_105 (by decide) ?_
                    have eW : memR FR S t n (-1) 0 p R = .inl (F7, R1) := by rw [← hR1, if_pos c_65, show 129 - k1 = (129 - (k1 + 1)) + 1 by omega]; simp only [memL]; rw [hN8]
                    have eZ1 : (rrR (memR FR S t n (-1) 0 p R)).1 = R1.1 := by rw [eW]; rfl
                    have eZ2 : tbR (rrR (memR FR S t n (-1) 0 p R)) = tbR R1 := by rw [eW]; rfl
                    exact z_zret hx hb hr rfl hlocks hw (by rw [eW]; exact ⟨kk27, ⟨_, f27_rd⟩, (tA1.k k627 (by omega)), (nA1.k k627 (by omega) (by omega) (by omega)), pA1, rfl, ⟨_, _, _, _, f27_sc, rfl⟩⟩) (by first | exact Nat.le_of_ble_eq_true rfl | (dsimp only; omega) | omega) (by first | exact Nat.le_of_ble_eq_true rfl | (dsimp only; omega) | omega) d_RecordReader_readMembers_106
                  · -- name True
                    rw [hN8] at hp
                    obtain ⟨r8, x28, y28, z28, hh28⟩ := hp
                    subst r8
                    obtain ⟨h28, e6⟩ : ∃ x9, x9 = h9 := ⟨_, rfl⟩
                    subst e6
                    have f28_rd : h28 rd = some ((8, 0), .inr (9, [.ref sc, .ref q, .ref w, .ref tr, .long nu1])) := by rw [← hh28]; exact z_keep L55_sc L55_rd (z_t1 (by decide))
                    have f28_sc : h28 sc = some ((6, 0), .inr (7, [.ref b, .int (nI n), .int (nI p7), .int x28, .int y28, .int z28])) := by rw [← hh28]; exact z_put_eq
                    have f28_b : h28 b = some ((3, 0), .inl (g.2.1 0, len, .inl f)) := by rw [← hh28]; exact z_keep L55_sc L55_b (z_t1 (by decide))
                    have k628 : z_K (fun y => y = 6) hL h28 := k6L.tr (by rw [← hh28]; exact z_K.put L55_sc rfl)
                    have kk28 : z_K (fun y => y = 6 ∨ y = 8 ∨ y = 10 ∨ y = mr ∨ y = mr + 1) h h28 := kkL.tr (by rw [← hh28]; exact z_K.put L55_sc (by first | decide | simp | omega))
                    obtain ⟨hfi8, hst8, hgr8, le7, ge7⟩ := namR_ok (fun k hk => (hf k hk).1) (by omega) hs8 hN8
                    dsimp only at hfi8 hst8 hgr8 le7 ge7
                    have skr := sk_le (t := t) le7
                    have skr2 := sk_ge t n p7
                    refine W.eq (g2 := F0 m 75 ls [.ref (adS fi8)]) rfl ?_
                    refine lv_astore (lv' := [(7, .ref (adS fi8)), (0, .ref rd), (1, .int (-1)), (2, .int (nI pi)), (3, .int (nI d)), (4, .int (nI st1)), (5, .int (zb m1)), (6, .int (nI k1))]) hx hb d_RecordReader_readMembers_75 hl (by decide) rfl (fun ls hl => ?_)
                    refine lv_aload hx hb d_RecordReader_readMembers_77 (lv_at hl 0 rfl) ?_
                    refine lv_ifnull hx hb d_RecordReader_readMembers_79 ?_
                    refine lv_aload_n hx hb d_RecordReader_readMembers_82 rfl (lv_at hl 1 rfl) ?_
                    refine z_get hx hb hts (z_lay i_RecordReader) hown hK hw f28_rd rfl 0 (by decide) (z_in k_502 rfl) (fun _ h9 => h9) rfl d_RecordReader_readMembers_83 ?_
                    refine lv_bipush (v := 58) hx hb d_RecordReader_readMembers_86 (by decide) ?_
                    refine z_callV (n := 1) (As := [.int 58]) (rest := []) ⟨hx, hb, hml, hown, hts⟩ (c_Scanner_takeSign (t := t) l g h28 f28_sc f28_b hn hlen hf (by omega)) (z_in k_456 rfl) (z_in k_8 rfl) (z_in k_523 rfl) (z_in k_454 rfl) (z_in k_455 rfl) (by decide +kernel) ⟨by first | exact Nat.le_of_ble_eq_true rfl | (dsimp only; omega) | omega, by first | exact Nat.le_of_ble_eq_true rfl | (dsimp only; omega) | omega⟩ hK hE hw hA rfl f28_sc rfl hl.1 (Nat.le_of_ble_eq_true rfl) d_RecordReader_readMembers_88 ⟨by first | exact Nat.le_of_ble_eq_true rfl | (dsimp only; omega) | omega, by first | exact Nat.le_of_ble_eq_true rfl | (dsimp only; omega) | omega⟩ rfl (fun r9 h9 H locs hp hw => ?_)
                    unfold tSg at hp
                    by_cases tsc : bt t n (sk t n p7) = 58
                    · -- tsc True
                      rw [if_pos tsc] at hp
                      obtain ⟨r8, hh29⟩ := hp
                      subst r8
                      obtain ⟨h29, e8⟩ : ∃ x9, x9 = h9 := ⟨_, rfl⟩
                      subst e8
                      have f29_rd : h29 rd = some ((8, 0), .inr (9, [.ref sc, .ref q, .ref w, .ref tr, .long nu1])) := by rw [← hh29]; exact z_keep f28_sc f28_rd (z_t1 (by decide))
                      have f29_sc : h29 sc = some ((6, 0), .inr (7, [.ref b, .int (nI n), .int (nI (sk t n p7 + 1)), .int x28, .int y28, .int z28])) := by rw [← hh29]; exact z_put_eq
                      have f29_b : h29 b = some ((3, 0), .inl (g.2.1 0, len, .inl f)) := by rw [← hh29]; exact z_keep f28_sc f28_b (z_t1 (by decide))
                      have k629 : z_K (fun y => y = 6) hL h29 := k628.tr (by rw [← hh29]; exact z_K.put f28_sc rfl)
                      have kk29 : z_K (fun y => y = 6 ∨ y = 8 ∨ y = 10 ∨ y = mr ∨ y = mr + 1) h h29 := kk28.tr (by rw [← hh29]; exact z_K.put f28_sc (by first | decide | simp | omega))
                      refine W.eq (g2 := F0 m 91 ls [.int 1]) rfl ?_
                      refine lv_if_eq (tgt := 105) hx hb d_RecordReader_readMembers_91 (by decide) (fun c_91 => ?_) (fun c_91 => ?_)
                      · -- 91: True
                        exact absurd c_91 (by decide)
                      · -- 91: False
                        have lt58 := bt_lt tsc
                        have hM0 : rmono (rrR (FR fi8 (sk t n p7 + 1) R1)) (memR FR S t n (-1) 0 p R) := by rw [← hR1, if_pos c_65, show 129 - k1 = (129 - (k1 + 1)) + 1 by omega]; exact memL_mid hFo _ _ _ _ hN8 tsc
                        have hM1 : (rrR (FR fi8 (sk t n p7 + 1) R1)).1 ≤ (rrR (memR FR S t n (-1) 0 p R)).1 := hM0.1
                        have hM2 : tbR (rrR (FR fi8 (sk t n p7 + 1) R1)) ≤ tbR (rrR (memR FR S t n (-1) 0 p R)) := hM0.2
                        have hM3 : R1.1 ≤ (rrR (FR fi8 (sk t n p7 + 1) R1)).1 := (hFo fi8 (sk t n p7 + 1) R1).1
                        have hM4 : tbR R1 ≤ tbR (rrR (FR fi8 (sk t n p7 + 1) R1)) := (hFo fi8 (sk t n p7 + 1) R1).2
                        refine lv_aload_n hx hb d_RecordReader_readMembers_94 rfl (lv_at hl 1 rfl) ?_
                        refine lv_aload hx hb d_RecordReader_readMembers_95 (lv_at hl 0 rfl) ?_
                        refine lv_iload_n hx hb d_RecordReader_readMembers_97 rfl (lv_at hl 3 rfl) ?_
                        refine lv_iload_n hx hb d_RecordReader_readMembers_98 rfl (lv_at hl 4 rfl) ?_
                        refine z_callV (n := 3) (As := [.ref (adS fi8), .int (nI pi), .int (nI d)]) (rest := []) ⟨hx, hb, hml, hown, hts⟩ (hF fi8 hfi8 h29 (sk t n p7 + 1) R1 _ _ _ _ (hS.k kk29 (by omega) (by omega) (by omega)) f29_rd f29_sc f29_b (tA1.k k629 (by omega)) (nA1.k k629 (by omega) (by omega) (by omega)) pA1 (by omega) (by omega) (by omega) (by omega)) (z_in k_539 rfl) (z_in k_18 rfl) (z_in k_536 rfl) (z_in k_538 rfl) (z_in ks_7 rfl) (by decide +kernel) ⟨by first | exact Nat.le_of_ble_eq_true rfl | (dsimp only; omega) | omega, by first | exact Nat.le_of_ble_eq_true rfl | (dsimp only; omega) | omega⟩ hK hE hw hA rfl f29_rd rfl hl.1 (Nat.le_of_ble_eq_true rfl) d_RecordReader_readMembers_99 ⟨by first | exact Nat.le_of_ble_eq_true rfl | (dsimp only; omega) | omega, by first | exact Nat.le_of_ble_eq_true rfl | (dsimp only; omega) | omega⟩ rfl (fun r9 h9 H locs hp hw => ?_)
                        obtain ⟨kk8, ⟨nu8, q8⟩, tr8, nA8, pA8, hp⟩ := hp
                        rcases hR8 : FR fi8 (sk t n p7 + 1) R1 with ⟨F8, R8⟩ | ⟨p8, R8⟩
                        · -- rf False
                          rw [hR8] at hp nA8 pA8
                          obtain ⟨r8, pf8, f8, w8, d8, e8, g8⟩ := hp
                          have nA8 : NdAt g h9 mr w S R8 := nA8
                          have pA8 : paOK R8 := pA8
                          subst r8
                          obtain ⟨h30, e7⟩ : ∃ x9, x9 = h9 := ⟨_, rfl⟩
                          subst e7
                          have z8a : (rrR (FR fi8 (sk t n p7 + 1) R1)).1 = R8.1 := by rw [hR8]; rfl
                          have z8b : (rrR (.inl (F8, R8) : RRes)).1 = R8.1 := rfl
                          have z8c : tbR (rrR (FR fi8 (sk t n p7 + 1) R1)) = tbR R8 := by rw [hR8]; rfl
                          have z8d : tbR (rrR (.inl (F8, R8) : RRes)) = tbR R8 := rfl
                          have q8 : h30 rd = some ((8, 0), .inr (9, [.ref sc, .ref q, .ref w, .ref tr, .long nu8])) := q8
                          have g30_b : h30 b = some ((3, 0), .inl (g.2.1 0, len, .inl f)) := kk8 _ _ _ f29_b (by simp; try omega)
                          have kk30 : z_K (fun y => y = 6 ∨ y = 8 ∨ y = 10 ∨ y = mr ∨ y = mr + 1) h h30 := kk29.tr kk8
                          have k6n : z_K (fun y => y = 6) h30 h30 := z_K.rf
                          refine W.eq (g2 := F0 m 102 ls [.int 0]) rfl ?_
                          refine lv_if_ne (tgt := 107) hx hb d_RecordReader_readMembers_102 (by decide) (fun c_102 => ?_) (fun c_102 => ?_)
                          · -- 102: True
                            exact absurd (by decide) c_102
                          · -- 102: False
                            refine lv_iconst (v := 0) hx hb d_RecordReader_readMembers_105 (by decide) ?_
                            have eW : memR FR S t n (-1) 0 p R = .inl (F8, R8) := by rw [← hR1, if_pos c_65, show 129 - k1 = (129 - (k1 + 1)) + 1 by omega]; simp only [memL]; rw [hN8]; dsimp only; rw [if_pos tsc, hR8]
                            have eZ1 : (rrR (memR FR S t n (-1) 0 p R)).1 = R8.1 := by rw [eW]; rfl
                            have eZ2 : tbR (rrR (memR FR S t n (-1) 0 p R)) = tbR R8 := by rw [eW]; rfl
                            exact z_zret hx hb hr rfl hlocks hw (by rw [eW]; exact ⟨kk30, ⟨_, q8⟩, tr8, nA8, pA8, rfl, ⟨_, _, _, _, e8, g8⟩⟩) (by first | exact Nat.le_of_ble_eq_true rfl | (dsimp only; omega) | omega) (by first | exact Nat.le_of_ble_eq_true rfl | (dsimp only; omega) | omega) d_RecordReader_readMembers_106
                        · -- rf True
                          rw [hR8] at hp nA8 pA8
                          obtain ⟨r8, ⟨f8, w8, d8, e8⟩, le8, le9, le10⟩ := hp
                          dsimp only at le8 le9 le10
                          have nA8 : NdAt g h9 mr w S R8 := nA8
                          have pA8 : paOK R8 := pA8
                          subst r8
                          obtain ⟨h31, e7⟩ : ∃ x9, x9 = h9 := ⟨_, rfl⟩
                          subst e7
                          have z8a : (rrR (FR fi8 (sk t n p7 + 1) R1)).1 = R8.1 := by rw [hR8]; rfl
                          have z8b : (rrR (.inr (p8, R8) : RRes)).1 = R8.1 := rfl
                          have z8c : tbR (rrR (FR fi8 (sk t n p7 + 1) R1)) = tbR R8 := by rw [hR8]; rfl
                          have z8d : tbR (rrR (.inr (p8, R8) : RRes)) = tbR R8 := rfl
                          have q8 : h31 rd = some ((8, 0), .inr (9, [.ref sc, .ref q, .ref w, .ref tr, .long nu8])) := q8
                          have g31_b : h31 b = some ((3, 0), .inl (g.2.1 0, len, .inl f)) := kk8 _ _ _ f29_b (by simp; try omega)
                          have kk31 : z_K (fun y => y = 6 ∨ y = 8 ∨ y = 10 ∨ y = mr ∨ y = mr + 1) h h31 := kk29.tr kk8
                          have k6n : z_K (fun y => y = 6) h31 h31 := z_K.rf
                          have sk8 := sk_le (t := t) le8
                          have sk9 := sk_ge t n p8
                          refine W.eq (g2 := F0 m 102 ls [.int 1]) rfl ?_
                          refine lv_if_ne (tgt := 107) hx hb d_RecordReader_readMembers_102 (by decide) (fun c_102 => ?_) (fun c_102 => ?_)
                          · -- 102: True
                            have hfd7 := ((hS.k kk31 (by omega) (by omega) (by omega)).2.2.2.1 fi8 hfi8).2
                            refine lv_aload hx hb d_RecordReader_readMembers_107 (lv_at hl 0 rfl) ?_
                            refine z_getN hx hb hts (z_lay i_Field) hown hK hw hfd7 rfl 0 (by decide) hE.nest (z_inN k_400 rfl) (fun _ h9 => h9) rfl d_RecordReader_readMembers_109 ?_
                            refine lv_iconst (v := 1) hx hb d_RecordReader_readMembers_112 (by decide) ?_
                            refine lv_iadd hx hb d_RecordReader_readMembers_113 ?_
                            refine z_topi (y := nI (fi8 + 1)) (nI_add fi8 1) ?_
                            refine lv_istore (lv' := [(4, .int (nI (fi8 + 1))), (7, .ref (adS fi8)), (0, .ref rd), (1, .int (-1)), (2, .int (nI pi)), (3, .int (nI d)), (5, .int (zb m1)), (6, .int (nI k1))]) hx hb d_RecordReader_readMembers_114 hl (by decide) rfl (fun ls hl => ?_)
                            refine lv_aload_n hx hb d_RecordReader_readMembers_116 rfl (lv_at hl 2 rfl) ?_
                            refine z_get hx hb hts (z_lay i_RecordReader) hown hK hw q8 rfl 0 (by decide) (z_in k_502 rfl) (fun _ h9 => h9) rfl d_RecordReader_readMembers_117 ?_
                            refine z_callV (n := 0) (As := []) (rest := []) ⟨hx, hb, hml, hown, hts⟩ (c_Scanner_next l g h31 e8 g31_b hn hlen hf (by omega)) (z_in k_234 rfl) (z_in k_8 rfl) (z_in k_524 rfl) (z_in k_232 rfl) (z_in k_233 rfl) (by decide +kernel) ⟨by first | exact Nat.le_of_ble_eq_true rfl | (dsimp only; omega) | omega, by first | exact Nat.le_of_ble_eq_true rfl | (dsimp only; omega) | omega⟩ hK hE hw hA rfl e8 rfl hl.1 (Nat.le_of_ble_eq_true rfl) d_RecordReader_readMembers_120 ⟨by first | exact Nat.le_of_ble_eq_true rfl | (dsimp only; omega) | omega, by first | exact Nat.le_of_ble_eq_true rfl | (dsimp only; omega) | omega⟩ rfl (fun r9 h9 H locs hp hw => ?_)
                            obtain ⟨r8, hh32⟩ := hp
                            subst r8
                            obtain ⟨h32, e8⟩ : ∃ x9, x9 = h9 := ⟨_, rfl⟩
                            subst e8
                            have f32_rd : h32 rd = some ((8, 0), .inr (9, [.ref sc, .ref q, .ref w, .ref tr, .long nu8])) := by rw [← hh32]; exact z_keep e8 q8 (z_t1 (by decide))
                            have f32_sc : h32 sc = some ((6, 0), .inr (7, [.ref b, .int (nI n), .int (nI (sk t n p8)), .int f8, .int w8, .int d8])) := by rw [← hh32]; exact z_put_eq
                            have f32_b : h32 b = some ((3, 0), .inl (g.2.1 0, len, .inl f)) := by rw [← hh32]; exact z_keep e8 g31_b (z_t1 (by decide))
                            have k632 : z_K (fun y => y = 6) h31 h32 := k6n.tr (by rw [← hh32]; exact z_K.put e8 rfl)
                            have kk32 : z_K (fun y => y = 6 ∨ y = 8 ∨ y = 10 ∨ y = mr ∨ y = mr + 1) h h32 := kk31.tr (by rw [← hh32]; exact z_K.put e8 (by first | decide | simp | omega))
                            refine W.eq (g2 := F0 m 123 ls [.int (bt t n (sk t n p8))]) rfl ?_
                            refine lv_bipush (v := 44) hx hb d_RecordReader_readMembers_123 (by decide) ?_
                            refine lv_icmp_ne (tgt := 144) hx hb d_RecordReader_readMembers_125 (by decide) (fun c_125 => ?_) (fun c_125 => ?_)
                            · -- 125: True
                              refine lv_iconst (v := 0) hx hb d_RecordReader_readMembers_144 (by decide) ?_
                              refine lv_istore (lv' := [(5, .int 0), (4, .int (nI (fi8 + 1))), (7, .ref (adS fi8)), (0, .ref rd), (1, .int (-1)), (2, .int (nI pi)), (3, .int (nI d)), (6, .int (nI k1))]) hx hb d_RecordReader_readMembers_145 hl (by decide) rfl (fun ls hl => ?_)
                              refine lv_iinc (v := nI (k1 + 1)) (lv' := [(6, .int (nI (k1 + 1))), (5, .int 0), (4, .int (nI (fi8 + 1))), (7, .ref (adS fi8)), (0, .ref rd), (1, .int (-1)), (2, .int (nI pi)), (3, .int (nI d))]) hx hb d_RecordReader_readMembers_147 hl (k := 7) rfl (nI_1 k1) (by decide) rfl (fun ls hl => ?_)
                              refine lv_goto (tgt := 55) hx hb d_RecordReader_readMembers_150 (by decide) ?_
                              refine W.widen (k := 2 * (R8.1 - R.1)) (n := 7 * (R8.1 - R.1) + (tbR R8 - tbR R)) (by first | exact Nat.le_of_ble_eq_true rfl | (dsimp only; omega) | omega) (by first | exact Nat.le_of_ble_eq_true rfl | (dsimp only; omega) | omega) ?_
                              refine ih_55 (k1 + 1) (fi8 + 1) false (sk t n p8) R8 nu8 f8 w8 d8 h32 _ _ _ f32_rd f32_sc f32_b kk32 (nA8.k k632 (by omega) (by omega) (by omega)) (tr8.k k632 (by omega)) pA8 (⟨by omega, by omega, by omega, by omega, by omega, by omega, by omega, by omega, by omega⟩) (by rw [← hR1, if_pos c_65, show 129 - k1 = (129 - (k1 + 1)) + 1 by omega]; simp only [memL]; rw [hN8]; dsimp only; rw [if_pos tsc, hR8]; dsimp only; rw [if_neg c_125]; exact if_neg (by decide)) ?_ hw (lv_sub hl [4, 5, 6, 7, 2, 1, 0] rfl)
                              omega
                            · -- 125: False
                              refine lv_aload_n hx hb d_RecordReader_readMembers_128 rfl (lv_at hl 2 rfl) ?_
                              refine z_get hx hb hts (z_lay i_RecordReader) hown hK hw f32_rd rfl 0 (by decide) (z_in k_502 rfl) (fun _ h9 => h9) rfl d_RecordReader_readMembers_129 ?_
                              refine lv_bipush (v := 44) hx hb d_RecordReader_readMembers_132 (by decide) ?_
                              refine z_callV (n := 1) (As := [.int 44]) (rest := []) ⟨hx, hb, hml, hown, hts⟩ (c_Scanner_takeSign (t := t) l g h32 f32_sc f32_b hn hlen hf (by omega)) (z_in k_456 rfl) (z_in k_8 rfl) (z_in k_523 rfl) (z_in k_454 rfl) (z_in k_455 rfl) (by decide +kernel) ⟨by first | exact Nat.le_of_ble_eq_true rfl | (dsimp only; omega) | omega, by first | exact Nat.le_of_ble_eq_true rfl | (dsimp only; omega) | omega⟩ hK hE hw hA rfl f32_sc rfl hl.1 (Nat.le_of_ble_eq_true rfl) d_RecordReader_readMembers_134 ⟨by first | exact Nat.le_of_ble_eq_true rfl | (dsimp only; omega) | omega, by first | exact Nat.le_of_ble_eq_true rfl | (dsimp only; omega) | omega⟩ rfl (fun r9 h9 H locs hp hw => ?_)
                              unfold tSg at hp
                              rw [sk_sk, if_pos c_125] at hp
                              obtain ⟨r8, hh33⟩ := hp
                              subst r8
                              obtain ⟨h33, e6⟩ : ∃ x9, x9 = h9 := ⟨_, rfl⟩
                              subst e6
                              have f33_rd : h33 rd = some ((8, 0), .inr (9, [.ref sc, .ref q, .ref w, .ref tr, .long nu8])) := by rw [← hh33]; exact z_keep f32_sc f32_rd (z_t1 (by decide))
                              have f33_sc : h33 sc = some ((6, 0), .inr (7, [.ref b, .int (nI n), .int (nI (sk t n p8 + 1)), .int f8, .int w8, .int d8])) := by rw [← hh33]; exact z_put_eq
                              have f33_b : h33 b = some ((3, 0), .inl (g.2.1 0, len, .inl f)) := by rw [← hh33]; exact z_keep f32_sc f32_b (z_t1 (by decide))
                              have k633 : z_K (fun y => y = 6) h31 h33 := k632.tr (by rw [← hh33]; exact z_K.put f32_sc rfl)
                              have kk33 : z_K (fun y => y = 6 ∨ y = 8 ∨ y = 10 ∨ y = mr ∨ y = mr + 1) h h33 := kk32.tr (by rw [← hh33]; exact z_K.put f32_sc (by first | decide | simp | omega))
                              have lt44 := bt_lt c_125
                              refine W.eq (g2 := F0 m 137 ls [.int 1]) rfl ?_
                              refine lv_if_eq (tgt := 144) hx hb d_RecordReader_readMembers_137 (by decide) (fun c_137 => ?_) (fun c_137 => ?_)
                              · -- 137: True
                                exact absurd c_137 (by decide)
                              · -- 137: False
                                refine lv_iconst (v := 1) hx hb d_RecordReader_readMembers_140 (by decide) ?_
                                refine lv_goto (tgt := 145) hx hb d_RecordReader_readMembers_141 (by decide) ?_
                                refine lv_istore (lv' := [(5, .int 1), (4, .int (nI (fi8 + 1))), (7, .ref (adS fi8)), (0, .ref rd), (1, .int (-1)), (2, .int (nI pi)), (3, .int (nI d)), (6, .int (nI k1))]) hx hb d_RecordReader_readMembers_145 hl (by decide) rfl (fun ls hl => ?_)
                                refine lv_iinc (v := nI (k1 + 1)) (lv' := [(6, .int (nI (k1 + 1))), (5, .int 1), (4, .int (nI (fi8 + 1))), (7, .ref (adS fi8)), (0, .ref rd), (1, .int (-1)), (2, .int (nI pi)), (3, .int (nI d))]) hx hb d_RecordReader_readMembers_147 hl (k := 7) rfl (nI_1 k1) (by decide) rfl (fun ls hl => ?_)
                                refine lv_goto (tgt := 55) hx hb d_RecordReader_readMembers_150 (by decide) ?_
                                refine W.widen (k := 2 * (R8.1 - R.1)) (n := 7 * (R8.1 - R.1) + (tbR R8 - tbR R)) (by first | exact Nat.le_of_ble_eq_true rfl | (dsimp only; omega) | omega) (by first | exact Nat.le_of_ble_eq_true rfl | (dsimp only; omega) | omega) ?_
                                refine ih_55 (k1 + 1) (fi8 + 1) true (sk t n p8 + 1) R8 nu8 f8 w8 d8 h33 _ _ _ f33_rd f33_sc f33_b kk33 (nA8.k k633 (by omega) (by omega) (by omega)) (tr8.k k633 (by omega)) pA8 (⟨by omega, by omega, by omega, by omega, by omega, by omega, by omega, by omega, by omega⟩) (by rw [← hR1, if_pos c_65, show 129 - k1 = (129 - (k1 + 1)) + 1 by omega]; simp only [memL]; rw [hN8]; dsimp only; rw [if_pos tsc, hR8]; dsimp only; rw [if_pos c_125]; exact if_pos trivial) ?_ hw (lv_sub hl [4, 5, 6, 7, 2, 1, 0] rfl)
                                omega
                          · -- 102: False
                            exact absurd c_102 (by decide)
                    · -- tsc False
                      rw [if_neg tsc] at hp
                      obtain ⟨r8, hh34⟩ := hp
                      subst r8
                      obtain ⟨h34, e8⟩ : ∃ x9, x9 = h9 := ⟨_, rfl⟩
                      subst e8
                      have f34_rd : h34 rd = some ((8, 0), .inr (9, [.ref sc, .ref q, .ref w, .ref tr, .long nu1])) := by rw [← hh34]; exact z_keep f28_sc f28_rd (z_t1 (by decide))
                      have f34_sc : h34 sc = some ((6, 0), .inr (7, [.ref b, .int (nI n), .int (nI (sk t n p7)), .int (nI (sk t n p7)), .int y28, .int z28])) := by rw [← hh34]; exact z_put_eq
                      have f34_b : h34 b = some ((3, 0), .inl (g.2.1 0, len, .inl f)) := by rw [← hh34]; exact z_keep f28_sc f28_b (z_t1 (by decide))
                      have k634 : z_K (fun y => y = 6) hL h34 := k628.tr (by rw [← hh34]; exact z_K.put f28_sc rfl)
                      have kk34 : z_K (fun y => y = 6 ∨ y = 8 ∨ y = 10 ∨ y = mr ∨ y = mr + 1) h h34 := kk28.tr (by rw [← hh34]; exact z_K.put f28_sc (by first | decide | simp | omega))
                      refine W.eq (g2 := F0 m 91 ls [.int 0]) rfl ?_
                      refine lv_if_eq (tgt := 105) hx hb d_RecordReader_readMembers_91 (by decide) (fun c_91 => ?_) (fun c_91 => ?_)
                      · -- 91: True
                        refine lv_iconst (v := 0) hx hb d_RecordReader_readMembers_105 (by decide) ?_
                        have eW : memR FR S t n (-1) 0 p R = .inl (sk t n p7, R1) := by rw [← hR1, if_pos c_65, show 129 - k1 = (129 - (k1 + 1)) + 1 by omega]; simp only [memL]; rw [hN8]; dsimp only; rw [if_neg tsc]
                        have eZ1 : (rrR (memR FR S t n (-1) 0 p R)).1 = R1.1 := by rw [eW]; rfl
                        have eZ2 : tbR (rrR (memR FR S t n (-1) 0 p R)) = tbR R1 := by rw [eW]; rfl
                        exact z_zret hx hb hr rfl hlocks hw (by rw [eW]; exact ⟨kk34, ⟨_, f34_rd⟩, (tA1.k k634 (by omega)), (nA1.k k634 (by omega) (by omega) (by omega)), pA1, rfl, ⟨_, _, _, _, f34_sc, rfl⟩⟩) (by first | exact Nat.le_of_ble_eq_true rfl | (dsimp only; omega) | omega) (by first | exact Nat.le_of_ble_eq_true rfl | (dsimp only; omega) | omega) d_RecordReader_readMembers_106
                      · -- 91: False
                        exact absurd (by decide) c_91
          refine W.widen (k := 2 * (R.1 - R.1)) (n := 7 * (R.1 - R.1) + (tbR R - tbR R)) (by first | exact Nat.le_of_ble_eq_true rfl | (dsimp only; omega) | omega) (by first | exact Nat.le_of_ble_eq_true rfl | (dsimp only; omega) | omega) ?_
          exact loop_55 (130 - 0 + 1) 0 0 true (sk t n (sk t n p + 1)) R nu9 fa ws wd h2 _ _ _ f2_rd f2_sc f2_b kk2 (hNA.k k62 (by omega) (by omega) (by omega)) (hTR.k k62 (by omega)) hpa (⟨by omega, by omega, by omega, by omega, by omega, rOK.1, rOK.2, by omega, by omega⟩) (by unfold memR; rw [if_pos ts1]; rw [if_neg c_42]; rfl) (by omega) hw (lv_sub hl [3, 4, 5, 6, 2, 1, 0] rfl)
      · -- 23: False
        exact absurd c_23 (by decide)
    · -- ts1 False
      rw [if_neg ts1] at hp
      obtain ⟨r8, hh35⟩ := hp
      subst r8
      obtain ⟨h35, e8⟩ : ∃ x9, x9 = h9 := ⟨_, rfl⟩
      subst e8
      have f35_rd : h35 rd = some ((8, 0), .inr (9, [.ref sc, .ref q, .ref w, .ref tr, .long nu9])) := by rw [← hh35]; exact z_keep hsc hrd (z_t1 (by decide))
      have f35_sc : h35 sc = some ((6, 0), .inr (7, [.ref b, .int (nI n), .int (nI (sk t n p)), .int (nI (sk t n p)), .int ws, .int wd])) := by rw [← hh35]; exact z_put_eq
      have f35_b : h35 b = some ((3, 0), .inl (g.2.1 0, len, .inl f)) := by rw [← hh35]; exact z_keep hsc hb0 (z_t1 (by decide))
      have k635 : z_K (fun y => y = 6) h h35 := k6z.tr (by rw [← hh35]; exact z_K.put hsc rfl)
      have kk35 : z_K (fun y => y = 6 ∨ y = 8 ∨ y = 10 ∨ y = mr ∨ y = mr + 1) h h35 := kk0.tr (by rw [← hh35]; exact z_K.put hsc (by first | decide | simp | omega))
      refine W.eq (g2 := F0 m 23 ls [.int 0]) rfl ?_
      refine lv_if_ne (tgt := 28) hx hb d_RecordReader_readMembers_23 (by decide) (fun c_23 => ?_) (fun c_23 => ?_)
      · -- 23: True
        exact absurd (by decide) c_23
      · -- 23: False
        refine lv_iconst (v := 0) hx hb d_RecordReader_readMembers_26 (by decide) ?_
        have eW : memR FR S t n (-1) 0 p R = .inl (sk t n p, R) := by unfold memR; rw [if_neg ts1]
        have eZ1 : (rrR (memR FR S t n (-1) 0 p R)).1 = R.1 := by rw [eW]; rfl
        have eZ2 : tbR (rrR (memR FR S t n (-1) 0 p R)) = tbR R := by rw [eW]; rfl
        exact z_zret hx hb hr rfl hlocks hw (by rw [eW]; exact ⟨kk35, ⟨_, f35_rd⟩, (hTR.k k635 (by omega)), (hNA.k k635 (by omega) (by omega) (by omega)), hpa, rfl, ⟨_, _, _, _, f35_sc, rfl⟩⟩) (by first | exact Nat.le_of_ble_eq_true rfl | (dsimp only; omega) | omega) (by first | exact Nat.le_of_ble_eq_true rfl | (dsimp only; omega) | omega) d_RecordReader_readMembers_27
  · -- 3: False
    have c_3 : ¬ (d ≤ 16) := fun z => c_3 ((nI_leI (a := d) (b := 16) (by omega) (by omega)).mpr z)
    exact absurd hd9 c_3

set_option maxHeartbeats 4000000 in
set_option maxRecDepth 100000 in
theorem c_readMembers_of (l : Launch) (g : z_G) (h : z_H) {r q : Nat} {S : Sch} {fa9 ca : Nat} {adS na : Nat → Nat} {ff : Nat → Option Nat} {cf : Nat → Int32} {nf : Nat → Nat → Int32} {rd sc mr w tr b len n p pi gi d fM lM : Nat} {f : Nat → Int32} {fa ws wd : Int32} {nu9 : Int64} {t : Nat → Nat} {R : Rec} {FR : Nat → Nat → Rec → RRes} (hrd : h rd = some ((8, 0), .inr (9, [.ref sc, .ref q, .ref w, .ref tr, .long nu9]))) (hsc : h sc = some ((6, 0), .inr (7, [.ref b, .int (nI n), .int (nI p), .int fa, .int ws, .int wd]))) (hb0 : h b = some ((3, 0), .inl (g.2.1 0, len, .inl f))) (hS : SchP g h r q S fa9 ca adS na ff cf nf) (hn : n ≤ len) (hlen : len < 2 ^ 31) (hf : ∀ k, k < n → t k < 256 ∧ f k = sb_b (t k)) (hp : p ≤ n) (hl29 : len < 2 ^ 29) (hn4 : n ≤ 4000) (hm : mr < 60) (hm2 : 12 ≤ mr) (hr0 : 100 ≤ r) (hTR : trAt g h tr []) (hNA : NdAt g h mr w S R) (hpa : paOK R) (hpi9 : pi < R.1) (hc2 : 2 * R.1 ≤ p + 2) (htb0 : tbR R ≤ p) (hgi9 : gi < S.1) (hd9 : d ≤ 16) (hF : ∀ (fi : Nat), fi < S.1 → ∀ (h : z_H) (p : Nat) (R : Rec) (fa ws wd : Int32) (nu9 : Int64), SchP g h r q S fa9 ca adS na ff cf nf → h rd = some ((8, 0), .inr (9, [.ref sc, .ref q, .ref w, .ref tr, .long nu9])) → h sc = some ((6, 0), scE b n p fa ws wd) → h b = some ((3, 0), .inl (g.2.1 0, len, .inl f)) → trAt g h tr [] → NdAt g h mr w S R → paOK R → p ≤ n → pi < R.1 → 2 * R.1 + 1 ≤ p → tbR R ≤ p → z_C l y_RecordReader_readField prog_6_method_4_code 6 (Option.some Jvm.ClassFile.FieldType.boolean) fM lM (2 * ((rrR (FR fi p R)).1 - R.1)) (7 * ((rrR (FR fi p R)).1 - R.1) + (tbR (rrR (FR fi p R)) - tbR R)) g [.ref rd, .ref (adS fi), .int (nI pi), .int (nI d)] h (vlP g (FR fi p R) h mr w S rd sc q tr b n)) (hFo : ∀ fi p R, rmono R (FR fi p R)) : z_C l y_RecordReader_readMembers prog_6_method_2_code 8 (Option.some Jvm.ClassFile.FieldType.boolean) (fM + 5) (lM + 150) (2 * ((rrR (memR FR S t n (nI gi) (gi + 1) p R)).1 - R.1)) (7 * ((rrR (memR FR S t n (nI gi) (gi + 1) p R)).1 - R.1) + (tbR (rrR (memR FR S t n (nI gi) (gi + 1) p R)) - tbR R)) g [.ref rd, .int (nI gi), .int (nI pi), .int (nI d)] h (vlP g (memR FR S t n (nI gi) (gi + 1) p R) h mr w S rd sc q tr b n) := by
  refine z_C.of (by decide) (Nat.le_of_ble_eq_true rfl) (fun pg en s m below meth cd A ls hx hb hml hr hts hown hlocks hnm hK hE hA hw hl => ?_)
  have hl : lv_has ls 8 [(0, .ref rd), (1, .int (nI gi)), (2, .int (nI pi)), (3, .int (nI d))] := hl
  have sk1 := sk_le (t := t) hp
  have sk2 := sk_ge t n p
  have hs8 : S.1 ≤ 128 := hS.2.2.2.2.2.2.2.1
  have k6z : z_K (fun y => y = 6) h h := z_K.rf
  have rOK : rmono R (memR FR S t n (nI gi) (gi + 1) p R) := memR_mono hFo _ _ _
  have rOK1 : R.1 ≤ (rrR (memR FR S t n (nI gi) (gi + 1) p R)).1 := rOK.1
  have rOK2 : tbR R ≤ tbR (rrR (memR FR S t n (nI gi) (gi + 1) p R)) := rOK.2
  have kk0 : z_K (fun y => y = 6 ∨ y = 8 ∨ y = 10 ∨ y = mr ∨ y = mr + 1) h h := z_K.rf
  refine lv_iload_n hx hb d_RecordReader_readMembers_0 rfl (lv_at hl 3 rfl) ?_
  refine lv_bipush (v := 16) hx hb d_RecordReader_readMembers_1 (by decide) ?_
  refine lv_icmp_le (tgt := 14) hx hb d_RecordReader_readMembers_3 (by decide) (fun c_3 => ?_) (fun c_3 => ?_)
  · -- 3: True
    have c_3 : d ≤ 16 := (nI_leI (a := d) (b := 16) (by omega) (by omega)).mp c_3
    refine lv_aload_n hx hb d_RecordReader_readMembers_14 rfl (lv_at hl 0 rfl) ?_
    refine z_get hx hb hts (z_lay i_RecordReader) hown hK hw hrd rfl 0 (by decide) (z_in k_502 rfl) (fun _ h9 => h9) rfl d_RecordReader_readMembers_15 ?_
    refine lv_bipush (v := 123) hx hb d_RecordReader_readMembers_18 (by decide) ?_
    refine z_callV (n := 1) (As := [.int 123]) (rest := []) ⟨hx, hb, hml, hown, hts⟩ (c_Scanner_takeSign (t := t) l g h hsc hb0 hn hlen hf (by omega)) (z_in k_456 rfl) (z_in k_8 rfl) (z_in k_523 rfl) (z_in k_454 rfl) (z_in k_455 rfl) (by decide +kernel) ⟨by first | exact Nat.le_of_ble_eq_true rfl | (dsimp only; omega) | omega, by first | exact Nat.le_of_ble_eq_true rfl | (dsimp only; omega) | omega⟩ hK hE hw hA rfl hsc rfl hl.1 (Nat.le_of_ble_eq_true rfl) d_RecordReader_readMembers_20 ⟨by first | exact Nat.le_of_ble_eq_true rfl | (dsimp only; omega) | omega, by first | exact Nat.le_of_ble_eq_true rfl | (dsimp only; omega) | omega⟩ rfl (fun r9 h9 H locs hp hw => ?_)
    unfold tSg at hp
    by_cases ts1 : bt t n (sk t n p) = 123
    · -- ts1 True
      rw [if_pos ts1] at hp
      obtain ⟨r8, hh1⟩ := hp
      subst r8
      obtain ⟨h1, e8⟩ : ∃ x9, x9 = h9 := ⟨_, rfl⟩
      subst e8
      have f1_rd : h1 rd = some ((8, 0), .inr (9, [.ref sc, .ref q, .ref w, .ref tr, .long nu9])) := by rw [← hh1]; exact z_keep hsc hrd (z_t1 (by decide))
      have f1_sc : h1 sc = some ((6, 0), .inr (7, [.ref b, .int (nI n), .int (nI (sk t n p + 1)), .int fa, .int ws, .int wd])) := by rw [← hh1]; exact z_put_eq
      have f1_b : h1 b = some ((3, 0), .inl (g.2.1 0, len, .inl f)) := by rw [← hh1]; exact z_keep hsc hb0 (z_t1 (by decide))
      have k61 : z_K (fun y => y = 6) h h1 := k6z.tr (by rw [← hh1]; exact z_K.put hsc rfl)
      have kk1 : z_K (fun y => y = 6 ∨ y = 8 ∨ y = 10 ∨ y = mr ∨ y = mr + 1) h h1 := kk0.tr (by rw [← hh1]; exact z_K.put hsc (by first | decide | simp | omega))
      refine W.eq (g2 := F0 m 23 ls [.int 1]) rfl ?_
      refine lv_if_ne (tgt := 28) hx hb d_RecordReader_readMembers_23 (by decide) (fun c_23 => ?_) (fun c_23 => ?_)
      · -- 23: True
        have lt123 := bt_lt ts1
        have skq := sk_le (t := t) (show sk t n p + 1 ≤ n by omega)
        have skq2 := sk_ge t n (sk t n p + 1)
        refine lv_iload_n hx hb d_RecordReader_readMembers_28 rfl (lv_at hl 1 rfl) ?_
        refine lv_iconst (v := 1) hx hb d_RecordReader_readMembers_29 (by decide) ?_
        refine lv_iadd hx hb d_RecordReader_readMembers_30 ?_
        refine z_topi (y := nI (gi + 1)) (nI_add gi 1) ?_
        refine lv_istore (lv' := [(4, .int (nI (gi + 1))), (0, .ref rd), (1, .int (nI gi)), (2, .int (nI pi)), (3, .int (nI d))]) hx hb d_RecordReader_readMembers_31 hl (by decide) rfl (fun ls hl => ?_)
        refine lv_aload_n hx hb d_RecordReader_readMembers_33 rfl (lv_at hl 1 rfl) ?_
        refine z_get hx hb hts (z_lay i_RecordReader) hown hK hw f1_rd rfl 0 (by decide) (z_in k_502 rfl) (fun _ h9 => h9) rfl d_RecordReader_readMembers_34 ?_
        refine z_callV (n := 0) (As := []) (rest := []) ⟨hx, hb, hml, hown, hts⟩ (c_Scanner_next l g h1 f1_sc f1_b hn hlen hf (by omega)) (z_in k_234 rfl) (z_in k_8 rfl) (z_in k_524 rfl) (z_in k_232 rfl) (z_in k_233 rfl) (by decide +kernel) ⟨by first | exact Nat.le_of_ble_eq_true rfl | (dsimp only; omega) | omega, by first | exact Nat.le_of_ble_eq_true rfl | (dsimp only; omega) | omega⟩ hK hE hw hA rfl f1_sc rfl hl.1 (Nat.le_of_ble_eq_true rfl) d_RecordReader_readMembers_37 ⟨by first | exact Nat.le_of_ble_eq_true rfl | (dsimp only; omega) | omega, by first | exact Nat.le_of_ble_eq_true rfl | (dsimp only; omega) | omega⟩ rfl (fun r9 h9 H locs hp hw => ?_)
        obtain ⟨r8, hh2⟩ := hp
        subst r8
        obtain ⟨h2, e8⟩ : ∃ x9, x9 = h9 := ⟨_, rfl⟩
        subst e8
        have f2_rd : h2 rd = some ((8, 0), .inr (9, [.ref sc, .ref q, .ref w, .ref tr, .long nu9])) := by rw [← hh2]; exact z_keep f1_sc f1_rd (z_t1 (by decide))
        have f2_sc : h2 sc = some ((6, 0), .inr (7, [.ref b, .int (nI n), .int (nI (sk t n (sk t n p + 1))), .int fa, .int ws, .int wd])) := by rw [← hh2]; exact z_put_eq
        have f2_b : h2 b = some ((3, 0), .inl (g.2.1 0, len, .inl f)) := by rw [← hh2]; exact z_keep f1_sc f1_b (z_t1 (by decide))
        have k62 : z_K (fun y => y = 6) h h2 := k61.tr (by rw [← hh2]; exact z_K.put f1_sc rfl)
        have kk2 : z_K (fun y => y = 6 ∨ y = 8 ∨ y = 10 ∨ y = mr ∨ y = mr + 1) h h2 := kk1.tr (by rw [← hh2]; exact z_K.put f1_sc (by first | decide | simp | omega))
        refine W.eq (g2 := F0 m 40 ls [.int (bt t n (sk t n (sk t n p + 1)))]) rfl ?_
        refine lv_bipush (v := 125) hx hb d_RecordReader_readMembers_40 (by decide) ?_
        refine lv_icmp_eq (tgt := 49) hx hb d_RecordReader_readMembers_42 (by decide) (fun c_42 => ?_) (fun c_42 => ?_)
        · -- 42: True
          refine lv_iconst (v := 0) hx hb d_RecordReader_readMembers_49 (by decide) ?_
          refine lv_istore (lv' := [(5, .int 0), (4, .int (nI (gi + 1))), (0, .ref rd), (1, .int (nI gi)), (2, .int (nI pi)), (3, .int (nI d))]) hx hb d_RecordReader_readMembers_50 hl (by decide) rfl (fun ls hl => ?_)
          refine lv_iconst (v := 0) hx hb d_RecordReader_readMembers_52 (by decide) ?_
          refine lv_istore (lv' := [(6, .int 0), (5, .int 0), (4, .int (nI (gi + 1))), (0, .ref rd), (1, .int (nI gi)), (2, .int (nI pi)), (3, .int (nI d))]) hx hb d_RecordReader_readMembers_53 hl (by decide) rfl (fun ls hl => ?_)
          have loop_55 : ∀ (fuel : Nat) (k1 : Nat) (st1 : Nat) (m1 : Bool) (p1 : Nat) (R1 : Rec) (nu1 : Int64) (fa1 : Int32) (ws1 : Int32) (wd1 : Int32) (hL : z_H) (H : Heap) (locs : List Loc) (ls : Array Slot) (L55_rd : hL rd = some ((8, 0), .inr (9, [.ref sc, .ref q, .ref w, .ref tr, .long nu1]))) (L55_sc : hL sc = some ((6, 0), .inr (7, [.ref b, .int (nI n), .int (nI p1), .int fa1, .int ws1, .int wd1]))) (L55_b : hL b = some ((3, 0), .inl (g.2.1 0, len, .inl f))) (kkL : z_K (fun y => y = 6 ∨ y = 8 ∨ y = 10 ∨ y = mr ∨ y = mr + 1) h hL) (nA1 : NdAt g hL mr w S R1) (tA1 : trAt g hL tr []) (pA1 : paOK R1) (le1 : p1 ≤ n ∧ R.1 ≤ R1.1 ∧ tbR R ≤ tbR R1 ∧ k1 ≤ 129 ∧ st1 ≤ 128 ∧ R1.1 ≤ (rrR (memR FR S t n (nI gi) (gi + 1) p R)).1 ∧ tbR R1 ≤ tbR (rrR (memR FR S t n (nI gi) (gi + 1) p R)) ∧ 2 * R1.1 ≤ p1 + 1 ∧ tbR R1 ≤ p1) (hR1 : (if m1 = true then memL FR S t n (nI gi) (129 - k1) st1 p1 R1 else memE S t n (nI gi) st1 p1 R1) = memR FR S t n (nI gi) (gi + 1) p R), (130 - k1) < fuel → z_S g A s.heap hL H locs → lv_has ls 8 [(0, .ref rd), (1, .int (nI gi)), (2, .int (nI pi)), (3, .int (nI d)), (4, .int (nI st1)), (5, .int (zb m1)), (6, .int (nI k1))] → W pg l en { frames := fM + 5, cells := 2 * ((rrR (memR FR S t n (nI gi) (gi + 1) p R)).1 - R.1), slots := 7 * ((rrR (memR FR S t n (nI gi) (gi + 1) p R)).1 - R.1) + (tbR (rrR (memR FR S t n (nI gi) (gi + 1) p R)) - tbR R), locals := lM + 150 } s m [.ref rd, .int (nI gi), .int (nI pi), .int (nI d)].toArray below meth cd H locs (2 * (R1.1 - R.1)) (7 * (R1.1 - R.1) + (tbR R1 - tbR R)) (MQ below (z_Q g A (vlP g (memR FR S t n (nI gi) (gi + 1) p R) h mr w S rd sc q tr b n)) [.ref rd, .int (nI gi), .int (nI pi), .int (nI d)].toArray s (2 * ((rrR (memR FR S t n (nI gi) (gi + 1) p R)).1 - R.1)) (7 * ((rrR (memR FR S t n (nI gi) (gi + 1) p R)).1 - R.1) + (tbR (rrR (memR FR S t n (nI gi) (gi + 1) p R)) - tbR R)) A) (F0 m 55 ls []) := by
            intro fuel
            induction fuel with
            | zero => intro k1 st1 m1 p1 R1 nu1 fa1 ws1 wd1 hL H locs ls L55_rd L55_sc L55_b kkL nA1 tA1 pA1 le1 hR1 hm; exact absurd hm (Nat.not_lt_zero _)
            | succ fuel ih_55 =>
              intro k1 st1 m1 p1 R1 nu1 fa1 ws1 wd1 hL H locs ls L55_rd L55_sc L55_b kkL nA1 tA1 pA1 le1 hR1 hm hw hl
              have k6L : z_K (fun y => y = 6) hL hL := z_K.rf
              have skp1 := sk_le (t := t) le1.1
              have skp2 := sk_ge t n p1
              refine lv_iload hx hb d_RecordReader_readMembers_55 (lv_at hl 6 rfl) ?_
              refine lv_sipush (v := 128) hx hb d_RecordReader_readMembers_57 (by decide) ?_
              refine lv_icmp_gt (tgt := 153) hx hb d_RecordReader_readMembers_60 (by decide) (fun c_60 => ?_) (fun c_60 => ?_)
              · -- 60: True
                have c_60 : 128 < k1 := (nI_ltI (a := 128) (b := k1) (by omega) (by omega)).mp c_60
                refine lv_aload_n hx hb d_RecordReader_readMembers_153 rfl (lv_at hl 0 rfl) ?_
                refine z_get hx hb hts (z_lay i_RecordReader) hown hK hw L55_rd rfl 0 (by decide) (z_in k_502 rfl) (fun _ h9 => h9) rfl d_RecordReader_readMembers_154 ?_
                refine z_callV (n := 0) (As := []) (rest := []) ⟨hx, hb, hml, hown, hts⟩ (c_Scanner_next l g hL L55_sc L55_b hn hlen hf (by omega)) (z_in k_234 rfl) (z_in k_8 rfl) (z_in k_524 rfl) (z_in k_232 rfl) (z_in k_233 rfl) (by decide +kernel) ⟨by first | exact Nat.le_of_ble_eq_true rfl | (dsimp only; omega) | omega, by first | exact Nat.le_of_ble_eq_true rfl | (dsimp only; omega) | omega⟩ hK hE hw hA rfl L55_sc rfl hl.1 (Nat.le_of_ble_eq_true rfl) d_RecordReader_readMembers_157 ⟨by first | exact Nat.le_of_ble_eq_true rfl | (dsimp only; omega) | omega, by first | exact Nat.le_of_ble_eq_true rfl | (dsimp only; omega) | omega⟩ rfl (fun r9 h9 H locs hp hw => ?_)
                obtain ⟨r8, hh3⟩ := hp
                subst r8
                obtain ⟨h3, e8⟩ : ∃ x9, x9 = h9 := ⟨_, rfl⟩
                subst e8
                have f3_rd : h3 rd = some ((8, 0), .inr (9, [.ref sc, .ref q, .ref w, .ref tr, .long nu1])) := by rw [← hh3]; exact z_keep L55_sc L55_rd (z_t1 (by decide))
                have f3_sc : h3 sc = some ((6, 0), .inr (7, [.ref b, .int (nI n), .int (nI (sk t n p1)), .int fa1, .int ws1, .int wd1])) := by rw [← hh3]; exact z_put_eq
                have f3_b : h3 b = some ((3, 0), .inl (g.2.1 0, len, .inl f)) := by rw [← hh3]; exact z_keep L55_sc L55_b (z_t1 (by decide))
                have k63 : z_K (fun y => y = 6) hL h3 := k6L.tr (by rw [← hh3]; exact z_K.put L55_sc rfl)
                have kk3 : z_K (fun y => y = 6 ∨ y = 8 ∨ y = 10 ∨ y = mr ∨ y = mr + 1) h h3 := kkL.tr (by rw [← hh3]; exact z_K.put L55_sc (by first | decide | simp | omega))
                refine W.eq (g2 := F0 m 160 ls [.int (bt t n (sk t n p1))]) rfl ?_
                refine lv_bipush (v := 125) hx hb d_RecordReader_readMembers_160 (by decide) ?_
                refine lv_icmp_ne (tgt := 186) hx hb d_RecordReader_readMembers_162 (by decide) (fun c_162 => ?_) (fun c_162 => ?_)
                · -- 162: True
                  refine lv_aload_n hx hb d_RecordReader_readMembers_186 rfl (lv_at hl 0 rfl) ?_
                  refine z_get hx hb hts (z_lay i_RecordReader) hown hK hw f3_rd rfl 0 (by decide) (z_in k_502 rfl) (fun _ h9 => h9) rfl d_RecordReader_readMembers_187 ?_
                  refine lv_bipush (v := 125) hx hb d_RecordReader_readMembers_190 (by decide) ?_
                  refine z_callV (n := 1) (As := [.int 125]) (rest := []) ⟨hx, hb, hml, hown, hts⟩ (c_Scanner_takeSign (t := t) l g h3 f3_sc f3_b hn hlen hf (by omega)) (z_in k_456 rfl) (z_in k_8 rfl) (z_in k_523 rfl) (z_in k_454 rfl) (z_in k_455 rfl) (by decide +kernel) ⟨by first | exact Nat.le_of_ble_eq_true rfl | (dsimp only; omega) | omega, by first | exact Nat.le_of_ble_eq_true rfl | (dsimp only; omega) | omega⟩ hK hE hw hA rfl f3_sc rfl hl.1 (Nat.le_of_ble_eq_true rfl) d_RecordReader_readMembers_192 ⟨by first | exact Nat.le_of_ble_eq_true rfl | (dsimp only; omega) | omega, by first | exact Nat.le_of_ble_eq_true rfl | (dsimp only; omega) | omega⟩ rfl (fun r9 h9 H locs hp hw => ?_)
                  unfold tSg at hp
                  rw [sk_sk, if_neg c_162] at hp
                  obtain ⟨r8, hh4⟩ := hp
                  subst r8
                  obtain ⟨h4, e6⟩ : ∃ x9, x9 = h9 := ⟨_, rfl⟩
                  subst e6
                  have f4_rd : h4 rd = some ((8, 0), .inr (9, [.ref sc, .ref q, .ref w, .ref tr, .long nu1])) := by rw [← hh4]; exact z_keep f3_sc f3_rd (z_t1 (by decide))
                  have f4_sc : h4 sc = some ((6, 0), .inr (7, [.ref b, .int (nI n), .int (nI (sk t n p1)), .int (nI (sk t n p1)), .int ws1, .int wd1])) := by rw [← hh4]; exact z_put_eq
                  have f4_b : h4 b = some ((3, 0), .inl (g.2.1 0, len, .inl f)) := by rw [← hh4]; exact z_keep f3_sc f3_b (z_t1 (by decide))
                  have k64 : z_K (fun y => y = 6) hL h4 := k63.tr (by rw [← hh4]; exact z_K.put f3_sc rfl)
                  have kk4 : z_K (fun y => y = 6 ∨ y = 8 ∨ y = 10 ∨ y = mr ∨ y = mr + 1) h h4 := kk3.tr (by rw [← hh4]; exact z_K.put f3_sc (by first | decide | simp | omega))
                  refine W.eq (g2 := F0 m 195 ls [.int 0]) rfl ?_
                  have eW : memR FR S t n (nI gi) (gi + 1) p R = .inl (sk t n p1, R1) := by rw [← hR1, show 129 - k1 = 0 by omega]; simp only [memL, ite_self]; unfold memE; rw [if_neg (fun z => c_162 z.1)]; unfold sgnR; rw [if_neg c_162]
                  have eZ1 : (rrR (memR FR S t n (nI gi) (gi + 1) p R)).1 = R1.1 := by rw [eW]; rfl
                  have eZ2 : tbR (rrR (memR FR S t n (nI gi) (gi + 1) p R)) = tbR R1 := by rw [eW]; rfl
                  exact z_zret hx hb hr rfl hlocks hw (by rw [eW]; exact ⟨kk4, ⟨_, f4_rd⟩, (tA1.k k64 (by omega)), (nA1.k k64 (by omega) (by omega) (by omega)), pA1, rfl, ⟨_, _, _, _, f4_sc, rfl⟩⟩) (by first | exact Nat.le_of_ble_eq_true rfl | (dsimp only; omega) | omega) (by first | exact Nat.le_of_ble_eq_true rfl | (dsimp only; omega) | omega) d_RecordReader_readMembers_195
                · -- 162: False
                  have hq7 := (hS.k kk3 (by omega) (by omega) (by omega)).1
                  refine lv_aload_n hx hb d_RecordReader_readMembers_165 rfl (lv_at hl 0 rfl) ?_
                  refine z_get hx hb hts (z_lay i_RecordReader) hown hK hw f3_rd rfl 1 (by decide) (z_in k_503 rfl) (fun _ h9 => h9) rfl d_RecordReader_readMembers_166 ?_
                  refine lv_iload hx hb d_RecordReader_readMembers_169 (lv_at hl 4 rfl) ?_
                  refine lv_iload_n hx hb d_RecordReader_readMembers_171 rfl (lv_at hl 1 rfl) ?_
                  refine z_callV (n := 2) (As := [.int (nI st1), .int (nI gi)]) (rest := []) ⟨hx, hb, hml, hown, hts⟩ (c_Schema_hasRequiredFrom (k := nI gi) (st := st1) l g h3 (hS.k kk3 (by omega) (by omega) (by omega)) (by omega)) (z_in k_605 rfl) (z_in k_4 rfl) (z_in k_602 rfl) (z_in k_603 rfl) (z_in k_604 rfl) (by decide +kernel) ⟨by first | exact Nat.le_of_ble_eq_true rfl | (dsimp only; omega) | omega, by first | exact Nat.le_of_ble_eq_true rfl | (dsimp only; omega) | omega⟩ hK hE hw hA rfl hq7 rfl hl.1 (Nat.le_of_ble_eq_true rfl) d_RecordReader_readMembers_172 ⟨by first | exact Nat.le_of_ble_eq_true rfl | (dsimp only; omega) | omega, by first | exact Nat.le_of_ble_eq_true rfl | (dsimp only; omega) | omega⟩ rfl (fun r9 h9 H locs hp hw => ?_)
                  obtain ⟨r8, h8⟩ := hp
                  subst r8
                  subst h8
                  refine W.eq (g2 := F0 m 175 ls [.int (zb (hrq S (nI gi) st1))]) rfl ?_
                  refine lv_if_eq (tgt := 186) hx hb d_RecordReader_readMembers_175 (by decide) (fun c_175 => ?_) (fun c_175 => ?_)
                  · -- 175: True
                    have c_175 : (hrq S (nI gi) st1) = false := zb_f c_175
                    refine lv_aload_n hx hb d_RecordReader_readMembers_186 rfl (lv_at hl 0 rfl) ?_
                    refine z_get hx hb hts (z_lay i_RecordReader) hown hK hw f3_rd rfl 0 (by decide) (z_in k_502 rfl) (fun _ h9 => h9) rfl d_RecordReader_readMembers_187 ?_
                    refine lv_bipush (v := 125) hx hb d_RecordReader_readMembers_190 (by decide) ?_
                    refine z_callV (n := 1) (As := [.int 125]) (rest := []) ⟨hx, hb, hml, hown, hts⟩ (c_Scanner_takeSign (t := t) l g h3 f3_sc f3_b hn hlen hf (by omega)) (z_in k_456 rfl) (z_in k_8 rfl) (z_in k_523 rfl) (z_in k_454 rfl) (z_in k_455 rfl) (by decide +kernel) ⟨by first | exact Nat.le_of_ble_eq_true rfl | (dsimp only; omega) | omega, by first | exact Nat.le_of_ble_eq_true rfl | (dsimp only; omega) | omega⟩ hK hE hw hA rfl f3_sc rfl hl.1 (Nat.le_of_ble_eq_true rfl) d_RecordReader_readMembers_192 ⟨by first | exact Nat.le_of_ble_eq_true rfl | (dsimp only; omega) | omega, by first | exact Nat.le_of_ble_eq_true rfl | (dsimp only; omega) | omega⟩ rfl (fun r9 h9 H locs hp hw => ?_)
                    unfold tSg at hp
                    rw [sk_sk, if_pos c_162] at hp
                    obtain ⟨r8, hh5⟩ := hp
                    subst r8
                    obtain ⟨h5, e6⟩ : ∃ x9, x9 = h9 := ⟨_, rfl⟩
                    subst e6
                    have f5_rd : h5 rd = some ((8, 0), .inr (9, [.ref sc, .ref q, .ref w, .ref tr, .long nu1])) := by rw [← hh5]; exact z_keep f3_sc f3_rd (z_t1 (by decide))
                    have f5_sc : h5 sc = some ((6, 0), .inr (7, [.ref b, .int (nI n), .int (nI (sk t n p1 + 1)), .int fa1, .int ws1, .int wd1])) := by rw [← hh5]; exact z_put_eq
                    have f5_b : h5 b = some ((3, 0), .inl (g.2.1 0, len, .inl f)) := by rw [← hh5]; exact z_keep f3_sc f3_b (z_t1 (by decide))
                    have k65 : z_K (fun y => y = 6) hL h5 := k63.tr (by rw [← hh5]; exact z_K.put f3_sc rfl)
                    have kk5 : z_K (fun y => y = 6 ∨ y = 8 ∨ y = 10 ∨ y = mr ∨ y = mr + 1) h h5 := kk3.tr (by rw [← hh5]; exact z_K.put f3_sc (by first | decide | simp | omega))
                    have lt125 := bt_lt c_162
                    refine W.eq (g2 := F0 m 195 ls [.int 1]) rfl ?_
                    have eW : memR FR S t n (nI gi) (gi + 1) p R = .inr (sk t n p1 + 1, R1) := by rw [← hR1, show 129 - k1 = 0 by omega]; simp only [memL, ite_self]; unfold memE; rw [if_neg (fun z => by rw [c_175] at z; exact absurd z.2 (by decide))]; unfold sgnR; rw [if_pos c_162]
                    have eZ1 : (rrR (memR FR S t n (nI gi) (gi + 1) p R)).1 = R1.1 := by rw [eW]; rfl
                    have eZ2 : tbR (rrR (memR FR S t n (nI gi) (gi + 1) p R)) = tbR R1 := by rw [eW]; rfl
                    exact z_zret hx hb hr rfl hlocks hw (by rw [eW]; exact ⟨kk5, ⟨_, f5_rd⟩, (tA1.k k65 (by omega)), (nA1.k k65 (by omega) (by omega) (by omega)), pA1, rfl, ⟨_, _, _, f5_sc⟩, by dsimp only; omega, by dsimp only; omega, by dsimp only; omega⟩) (by first | exact Nat.le_of_ble_eq_true rfl | (dsimp only; omega) | omega) (by first | exact Nat.le_of_ble_eq_true rfl | (dsimp only; omega) | omega) d_RecordReader_readMembers_195
                  · -- 175: False
                    have c_175 : (hrq S (nI gi) st1) = true := zb_t c_175
                    refine lv_aload_n hx hb d_RecordReader_readMembers_178 rfl (lv_at hl 0 rfl) ?_
                    refine z_get hx hb hts (z_lay i_RecordReader) hown hK hw f3_rd rfl 0 (by decide) (z_in k_502 rfl) (fun _ h9 => h9) rfl d_RecordReader_readMembers_179 ?_
                    refine z_callV (n := 0) (As := []) (rest := []) ⟨hx, hb, hml, hown, hts⟩ (c_Scanner_failHere l g h3 f3_sc) (z_in k_258 rfl) (z_in k_8 rfl) (z_in k_522 rfl) (z_in k_256 rfl) (z_in k_257 rfl) (by decide +kernel) ⟨by first | exact Nat.le_of_ble_eq_true rfl | (dsimp only; omega) | omega, by first | exact Nat.le_of_ble_eq_true rfl | (dsimp only; omega) | omega⟩ hK hE hw hA rfl f3_sc rfl hl.1 (Nat.le_of_ble_eq_true rfl) d_RecordReader_readMembers_182 ⟨by first | exact Nat.le_of_ble_eq_true rfl | (dsimp only; omega) | omega, by first | exact Nat.le_of_ble_eq_true rfl | (dsimp only; omega) | omega⟩ rfl (fun r9 h9 H locs hp hw => ?_)
                    obtain ⟨r8, hh6⟩ := hp
                    subst r8
                    obtain ⟨h6, e8⟩ : ∃ x9, x9 = h9 := ⟨_, rfl⟩
                    subst e8
                    have f6_rd : h6 rd = some ((8, 0), .inr (9, [.ref sc, .ref q, .ref w, .ref tr, .long nu1])) := by rw [← hh6]; exact z_keep f3_sc f3_rd (z_t1 (by decide))
                    have f6_sc : h6 sc = some ((6, 0), .inr (7, [.ref b, .int (nI n), .int (nI (sk t n p1)), .int (nI (sk t n p1)), .int ws1, .int wd1])) := by rw [← hh6]; exact z_put_eq
                    have f6_b : h6 b = some ((3, 0), .inl (g.2.1 0, len, .inl f)) := by rw [← hh6]; exact z_keep f3_sc f3_b (z_t1 (by decide))
                    have f6_q : h6 q = some ((r, 0), .inr (3, [.ref fa9, .ref ca, .int (nI S.1), .int (nI (cc S)), .int (nI (rq S (-1)))])) := by rw [← hh6]; exact z_keep f3_sc hq7 (by first | decide | (refine z_t1 ?_; omega) | (refine z_t2 ?_; omega))
                    have k66 : z_K (fun y => y = 6) hL h6 := k63.tr (by rw [← hh6]; exact z_K.put f3_sc rfl)
                    have kk6 : z_K (fun y => y = 6 ∨ y = 8 ∨ y = 10 ∨ y = mr ∨ y = mr + 1) h h6 := kk3.tr (by rw [← hh6]; exact z_K.put f3_sc (by first | decide | simp | omega))
                    refine W.eq (g2 := F0 m 185 ls [.int 0]) rfl ?_
                    have eW : memR FR S t n (nI gi) (gi + 1) p R = .inl (sk t n p1, R1) := by rw [← hR1, show 129 - k1 = 0 by omega]; simp only [memL, ite_self]; unfold memE; rw [if_pos ⟨c_162, c_175⟩]
                    have eZ1 : (rrR (memR FR S t n (nI gi) (gi + 1) p R)).1 = R1.1 := by rw [eW]; rfl
                    have eZ2 : tbR (rrR (memR FR S t n (nI gi) (gi + 1) p R)) = tbR R1 := by rw [eW]; rfl
                    exact z_zret hx hb hr rfl hlocks hw (by rw [eW]; exact ⟨kk6, ⟨_, f6_rd⟩, (tA1.k k66 (by omega)), (nA1.k k66 (by omega) (by omega) (by omega)), pA1, rfl, ⟨_, _, _, _, f6_sc, rfl⟩⟩) (by first | exact Nat.le_of_ble_eq_true rfl | (dsimp only; omega) | omega) (by first | exact Nat.le_of_ble_eq_true rfl | (dsimp only; omega) | omega) d_RecordReader_readMembers_185
              · -- 60: False
                have c_60 : ¬ (128 < k1) := fun z => c_60 ((nI_ltI (a := 128) (b := k1) (by omega) (by omega)).mpr z)
                refine lv_iload hx hb d_RecordReader_readMembers_63 (lv_at hl 5 rfl) ?_
                refine lv_if_eq (tgt := 153) hx hb d_RecordReader_readMembers_65 (by decide) (fun c_65 => ?_) (fun c_65 => ?_)
                · -- 65: True
                  have c_65 : m1 = false := zb_f c_65
                  refine lv_aload_n hx hb d_RecordReader_readMembers_153 rfl (lv_at hl 0 rfl) ?_
                  refine z_get hx hb hts (z_lay i_RecordReader) hown hK hw L55_rd rfl 0 (by decide) (z_in k_502 rfl) (fun _ h9 => h9) rfl d_RecordReader_readMembers_154 ?_
                  refine z_callV (n := 0) (As := []) (rest := []) ⟨hx, hb, hml, hown, hts⟩ (c_Scanner_next l g hL L55_sc L55_b hn hlen hf (by omega)) (z_in k_234 rfl) (z_in k_8 rfl) (z_in k_524 rfl) (z_in k_232 rfl) (z_in k_233 rfl) (by decide +kernel) ⟨by first | exact Nat.le_of_ble_eq_true rfl | (dsimp only; omega) | omega, by first | exact Nat.le_of_ble_eq_true rfl | (dsimp only; omega) | omega⟩ hK hE hw hA rfl L55_sc rfl hl.1 (Nat.le_of_ble_eq_true rfl) d_RecordReader_readMembers_157 ⟨by first | exact Nat.le_of_ble_eq_true rfl | (dsimp only; omega) | omega, by first | exact Nat.le_of_ble_eq_true rfl | (dsimp only; omega) | omega⟩ rfl (fun r9 h9 H locs hp hw => ?_)
                  obtain ⟨r8, hh7⟩ := hp
                  subst r8
                  obtain ⟨h7, e8⟩ : ∃ x9, x9 = h9 := ⟨_, rfl⟩
                  subst e8
                  have f7_rd : h7 rd = some ((8, 0), .inr (9, [.ref sc, .ref q, .ref w, .ref tr, .long nu1])) := by rw [← hh7]; exact z_keep L55_sc L55_rd (z_t1 (by decide))
                  have f7_sc : h7 sc = some ((6, 0), .inr (7, [.ref b, .int (nI n), .int (nI (sk t n p1)), .int fa1, .int ws1, .int wd1])) := by rw [← hh7]; exact z_put_eq
                  have f7_b : h7 b = some ((3, 0), .inl (g.2.1 0, len, .inl f)) := by rw [← hh7]; exact z_keep L55_sc L55_b (z_t1 (by decide))
                  have k67 : z_K (fun y => y = 6) hL h7 := k6L.tr (by rw [← hh7]; exact z_K.put L55_sc rfl)
                  have kk7 : z_K (fun y => y = 6 ∨ y = 8 ∨ y = 10 ∨ y = mr ∨ y = mr + 1) h h7 := kkL.tr (by rw [← hh7]; exact z_K.put L55_sc (by first | decide | simp | omega))
                  refine W.eq (g2 := F0 m 160 ls [.int (bt t n (sk t n p1))]) rfl ?_
                  refine lv_bipush (v := 125) hx hb d_RecordReader_readMembers_160 (by decide) ?_
                  refine lv_icmp_ne (tgt := 186) hx hb d_RecordReader_readMembers_162 (by decide) (fun c_162 => ?_) (fun c_162 => ?_)
                  · -- 162: True
                    refine lv_aload_n hx hb d_RecordReader_readMembers_186 rfl (lv_at hl 0 rfl) ?_
                    refine z_get hx hb hts (z_lay i_RecordReader) hown hK hw f7_rd rfl 0 (by decide) (z_in k_502 rfl) (fun _ h9 => h9) rfl d_RecordReader_readMembers_187 ?_
                    refine lv_bipush (v := 125) hx hb d_RecordReader_readMembers_190 (by decide) ?_
                    refine z_callV (n := 1) (As := [.int 125]) (rest := []) ⟨hx, hb, hml, hown, hts⟩ (c_Scanner_takeSign (t := t) l g h7 f7_sc f7_b hn hlen hf (by omega)) (z_in k_456 rfl) (z_in k_8 rfl) (z_in k_523 rfl) (z_in k_454 rfl) (z_in k_455 rfl) (by decide +kernel) ⟨by first | exact Nat.le_of_ble_eq_true rfl | (dsimp only; omega) | omega, by first | exact Nat.le_of_ble_eq_true rfl | (dsimp only; omega) | omega⟩ hK hE hw hA rfl f7_sc rfl hl.1 (Nat.le_of_ble_eq_true rfl) d_RecordReader_readMembers_192 ⟨by first | exact Nat.le_of_ble_eq_true rfl | (dsimp only; omega) | omega, by first | exact Nat.le_of_ble_eq_true rfl | (dsimp only; omega) | omega⟩ rfl (fun r9 h9 H locs hp hw => ?_)
                    unfold tSg at hp
                    rw [sk_sk, if_neg c_162] at hp
                    obtain ⟨r8, hh8⟩ := hp
                    subst r8
                    obtain ⟨h8, e6⟩ : ∃ x9, x9 = h9 := ⟨_, rfl⟩
                    subst e6
                    have f8_rd : h8 rd = some ((8, 0), .inr (9, [.ref sc, .ref q, .ref w, .ref tr, .long nu1])) := by rw [← hh8]; exact z_keep f7_sc f7_rd (z_t1 (by decide))
                    have f8_sc : h8 sc = some ((6, 0), .inr (7, [.ref b, .int (nI n), .int (nI (sk t n p1)), .int (nI (sk t n p1)), .int ws1, .int wd1])) := by rw [← hh8]; exact z_put_eq
                    have f8_b : h8 b = some ((3, 0), .inl (g.2.1 0, len, .inl f)) := by rw [← hh8]; exact z_keep f7_sc f7_b (z_t1 (by decide))
                    have k68 : z_K (fun y => y = 6) hL h8 := k67.tr (by rw [← hh8]; exact z_K.put f7_sc rfl)
                    have kk8 : z_K (fun y => y = 6 ∨ y = 8 ∨ y = 10 ∨ y = mr ∨ y = mr + 1) h h8 := kk7.tr (by rw [← hh8]; exact z_K.put f7_sc (by first | decide | simp | omega))
                    refine W.eq (g2 := F0 m 195 ls [.int 0]) rfl ?_
                    have eW : memR FR S t n (nI gi) (gi + 1) p R = .inl (sk t n p1, R1) := by rw [← hR1, if_neg (by rw [c_65]; decide)]; unfold memE; rw [if_neg (fun z => c_162 z.1)]; unfold sgnR; rw [if_neg c_162]
                    have eZ1 : (rrR (memR FR S t n (nI gi) (gi + 1) p R)).1 = R1.1 := by rw [eW]; rfl
                    have eZ2 : tbR (rrR (memR FR S t n (nI gi) (gi + 1) p R)) = tbR R1 := by rw [eW]; rfl
                    exact z_zret hx hb hr rfl hlocks hw (by rw [eW]; exact ⟨kk8, ⟨_, f8_rd⟩, (tA1.k k68 (by omega)), (nA1.k k68 (by omega) (by omega) (by omega)), pA1, rfl, ⟨_, _, _, _, f8_sc, rfl⟩⟩) (by first | exact Nat.le_of_ble_eq_true rfl | (dsimp only; omega) | omega) (by first | exact Nat.le_of_ble_eq_true rfl | (dsimp only; omega) | omega) d_RecordReader_readMembers_195
                  · -- 162: False
                    have hq7 := (hS.k kk7 (by omega) (by omega) (by omega)).1
                    refine lv_aload_n hx hb d_RecordReader_readMembers_165 rfl (lv_at hl 0 rfl) ?_
                    refine z_get hx hb hts (z_lay i_RecordReader) hown hK hw f7_rd rfl 1 (by decide) (z_in k_503 rfl) (fun _ h9 => h9) rfl d_RecordReader_readMembers_166 ?_
                    refine lv_iload hx hb d_RecordReader_readMembers_169 (lv_at hl 4 rfl) ?_
                    refine lv_iload_n hx hb d_RecordReader_readMembers_171 rfl (lv_at hl 1 rfl) ?_
                    refine z_callV (n := 2) (As := [.int (nI st1), .int (nI gi)]) (rest := []) ⟨hx, hb, hml, hown, hts⟩ (c_Schema_hasRequiredFrom (k := nI gi) (st := st1) l g h7 (hS.k kk7 (by omega) (by omega) (by omega)) (by omega)) (z_in k_605 rfl) (z_in k_4 rfl) (z_in k_602 rfl) (z_in k_603 rfl) (z_in k_604 rfl) (by decide +kernel) ⟨by first | exact Nat.le_of_ble_eq_true rfl | (dsimp only; omega) | omega, by first | exact Nat.le_of_ble_eq_true rfl | (dsimp only; omega) | omega⟩ hK hE hw hA rfl hq7 rfl hl.1 (Nat.le_of_ble_eq_true rfl) d_RecordReader_readMembers_172 ⟨by first | exact Nat.le_of_ble_eq_true rfl | (dsimp only; omega) | omega, by first | exact Nat.le_of_ble_eq_true rfl | (dsimp only; omega) | omega⟩ rfl (fun r9 h9 H locs hp hw => ?_)
                    obtain ⟨r8, h8⟩ := hp
                    subst r8
                    subst h8
                    refine W.eq (g2 := F0 m 175 ls [.int (zb (hrq S (nI gi) st1))]) rfl ?_
                    refine lv_if_eq (tgt := 186) hx hb d_RecordReader_readMembers_175 (by decide) (fun c_175 => ?_) (fun c_175 => ?_)
                    · -- 175: True
                      have c_175 : (hrq S (nI gi) st1) = false := zb_f c_175
                      refine lv_aload_n hx hb d_RecordReader_readMembers_186 rfl (lv_at hl 0 rfl) ?_
                      refine z_get hx hb hts (z_lay i_RecordReader) hown hK hw f7_rd rfl 0 (by decide) (z_in k_502 rfl) (fun _ h9 => h9) rfl d_RecordReader_readMembers_187 ?_
                      refine lv_bipush (v := 125) hx hb d_RecordReader_readMembers_190 (by decide) ?_
                      refine z_callV (n := 1) (As := [.int 125]) (rest := []) ⟨hx, hb, hml, hown, hts⟩ (c_Scanner_takeSign (t := t) l g h7 f7_sc f7_b hn hlen hf (by omega)) (z_in k_456 rfl) (z_in k_8 rfl) (z_in k_523 rfl) (z_in k_454 rfl) (z_in k_455 rfl) (by decide +kernel) ⟨by first | exact Nat.le_of_ble_eq_true rfl | (dsimp only; omega) | omega, by first | exact Nat.le_of_ble_eq_true rfl | (dsimp only; omega) | omega⟩ hK hE hw hA rfl f7_sc rfl hl.1 (Nat.le_of_ble_eq_true rfl) d_RecordReader_readMembers_192 ⟨by first | exact Nat.le_of_ble_eq_true rfl | (dsimp only; omega) | omega, by first | exact Nat.le_of_ble_eq_true rfl | (dsimp only; omega) | omega⟩ rfl (fun r9 h9 H locs hp hw => ?_)
                      unfold tSg at hp
                      rw [sk_sk, if_pos c_162] at hp
                      obtain ⟨r8, hh9⟩ := hp
                      subst r8
                      obtain ⟨h9, e6⟩ : ∃ x9, x9 = h9 := ⟨_, rfl⟩
                      subst e6
                      have f9_rd : h9 rd = some ((8, 0), .inr (9, [.ref sc, .ref q, .ref w, .ref tr, .long nu1])) := by rw [← hh9]; exact z_keep f7_sc f7_rd (z_t1 (by decide))
                      have f9_sc : h9 sc = some ((6, 0), .inr (7, [.ref b, .int (nI n), .int (nI (sk t n p1 + 1)), .int fa1, .int ws1, .int wd1])) := by rw [← hh9]; exact z_put_eq
                      have f9_b : h9 b = some ((3, 0), .inl (g.2.1 0, len, .inl f)) := by rw [← hh9]; exact z_keep f7_sc f7_b (z_t1 (by decide))
                      have k69 : z_K (fun y => y = 6) hL h9 := k67.tr (by rw [← hh9]; exact z_K.put f7_sc rfl)
                      have kk9 : z_K (fun y => y = 6 ∨ y = 8 ∨ y = 10 ∨ y = mr ∨ y = mr + 1) h h9 := kk7.tr (by rw [← hh9]; exact z_K.put f7_sc (by first | decide | simp | omega))
                      have lt125 := bt_lt c_162
                      refine W.eq (g2 := F0 m 195 ls [.int 1]) rfl ?_
                      have eW : memR FR S t n (nI gi) (gi + 1) p R = .inr (sk t n p1 + 1, R1) := by rw [← hR1, if_neg (by rw [c_65]; decide)]; unfold memE; rw [if_neg (fun z => by rw [c_175] at z; exact absurd z.2 (by decide))]; unfold sgnR; rw [if_pos c_162]
                      have eZ1 : (rrR (memR FR S t n (nI gi) (gi + 1) p R)).1 = R1.1 := by rw [eW]; rfl
                      have eZ2 : tbR (rrR (memR FR S t n (nI gi) (gi + 1) p R)) = tbR R1 := by rw [eW]; rfl
                      exact z_zret hx hb hr rfl hlocks hw (by rw [eW]; exact ⟨kk9, ⟨_, f9_rd⟩, (tA1.k k69 (by omega)), (nA1.k k69 (by omega) (by omega) (by omega)), pA1, rfl, ⟨_, _, _, f9_sc⟩, by dsimp only; omega, by dsimp only; omega, by dsimp only; omega⟩) (by first | exact Nat.le_of_ble_eq_true rfl | (dsimp only; omega) | omega) (by first | exact Nat.le_of_ble_eq_true rfl | (dsimp only; omega) | omega) d_RecordReader_readMembers_195
                    · -- 175: False
                      have c_175 : (hrq S (nI gi) st1) = true := zb_t c_175
                      refine lv_aload_n hx hb d_RecordReader_readMembers_178 rfl (lv_at hl 0 rfl) ?_
                      refine z_get hx hb hts (z_lay i_RecordReader) hown hK hw f7_rd rfl 0 (by decide) (z_in k_502 rfl) (fun _ h9 => h9) rfl d_RecordReader_readMembers_179 ?_
                      refine z_callV (n := 0) (As := []) (rest := []) ⟨hx, hb, hml, hown, hts⟩ (c_Scanner_failHere l g h7 f7_sc) (z_in k_258 rfl) (z_in k_8 rfl) (z_in k_522 rfl) (z_in k_256 rfl) (z_in k_257 rfl) (by decide +kernel) ⟨by first | exact Nat.le_of_ble_eq_true rfl | (dsimp only; omega) | omega, by first | exact Nat.le_of_ble_eq_true rfl | (dsimp only; omega) | omega⟩ hK hE hw hA rfl f7_sc rfl hl.1 (Nat.le_of_ble_eq_true rfl) d_RecordReader_readMembers_182 ⟨by first | exact Nat.le_of_ble_eq_true rfl | (dsimp only; omega) | omega, by first | exact Nat.le_of_ble_eq_true rfl | (dsimp only; omega) | omega⟩ rfl (fun r9 h9 H locs hp hw => ?_)
                      obtain ⟨r8, hh10⟩ := hp
                      subst r8
                      obtain ⟨h10, e8⟩ : ∃ x9, x9 = h9 := ⟨_, rfl⟩
                      subst e8
                      have f10_rd : h10 rd = some ((8, 0), .inr (9, [.ref sc, .ref q, .ref w, .ref tr, .long nu1])) := by rw [← hh10]; exact z_keep f7_sc f7_rd (z_t1 (by decide))
                      have f10_sc : h10 sc = some ((6, 0), .inr (7, [.ref b, .int (nI n), .int (nI (sk t n p1)), .int (nI (sk t n p1)), .int ws1, .int wd1])) := by rw [← hh10]; exact z_put_eq
                      have f10_b : h10 b = some ((3, 0), .inl (g.2.1 0, len, .inl f)) := by rw [← hh10]; exact z_keep f7_sc f7_b (z_t1 (by decide))
                      have f10_q : h10 q = some ((r, 0), .inr (3, [.ref fa9, .ref ca, .int (nI S.1), .int (nI (cc S)), .int (nI (rq S (-1)))])) := by rw [← hh10]; exact z_keep f7_sc hq7 (by first | decide | (refine z_t1 ?_; omega) | (refine z_t2 ?_; omega))
                      have k610 : z_K (fun y => y = 6) hL h10 := k67.tr (by rw [← hh10]; exact z_K.put f7_sc rfl)
                      have kk10 : z_K (fun y => y = 6 ∨ y = 8 ∨ y = 10 ∨ y = mr ∨ y = mr + 1) h h10 := kk7.tr (by rw [← hh10]; exact z_K.put f7_sc (by first | decide | simp | omega))
                      refine W.eq (g2 := F0 m 185 ls [.int 0]) rfl ?_
                      have eW : memR FR S t n (nI gi) (gi + 1) p R = .inl (sk t n p1, R1) := by rw [← hR1, if_neg (by rw [c_65]; decide)]; unfold memE; rw [if_pos ⟨c_162, c_175⟩]
                      have eZ1 : (rrR (memR FR S t n (nI gi) (gi + 1) p R)).1 = R1.1 := by rw [eW]; rfl
                      have eZ2 : tbR (rrR (memR FR S t n (nI gi) (gi + 1) p R)) = tbR R1 := by rw [eW]; rfl
                      exact z_zret hx hb hr rfl hlocks hw (by rw [eW]; exact ⟨kk10, ⟨_, f10_rd⟩, (tA1.k k610 (by omega)), (nA1.k k610 (by omega) (by omega) (by omega)), pA1, rfl, ⟨_, _, _, _, f10_sc, rfl⟩⟩) (by first | exact Nat.le_of_ble_eq_true rfl | (dsimp only; omega) | omega) (by first | exact Nat.le_of_ble_eq_true rfl | (dsimp only; omega) | omega) d_RecordReader_readMembers_185
                · -- 65: False
                  have c_65 : m1 = true := zb_t c_65
                  refine lv_aload_n hx hb d_RecordReader_readMembers_68 rfl (lv_at hl 0 rfl) ?_
                  refine lv_iload_n hx hb d_RecordReader_readMembers_69 rfl (lv_at hl 1 rfl) ?_
                  refine lv_iload hx hb d_RecordReader_readMembers_70 (lv_at hl 4 rfl) ?_
                  refine z_callV (n := 2) (As := [.int (nI gi), .int (nI st1)]) (rest := []) ⟨hx, hb, hml, hown, hts⟩ (c_readName (t := t) (st := st1) l g hL L55_rd L55_sc L55_b (hS.k kkL (by omega) (by omega) (by omega)) hn hlen hf (by omega) hr0 (by omega)) (z_in k_528 rfl) (z_in k_18 rfl) (z_in k_525 rfl) (z_in k_527 rfl) (z_in ks_6 rfl) (by decide +kernel) ⟨by first | exact Nat.le_of_ble_eq_true rfl | (dsimp only; omega) | omega, by first | exact Nat.le_of_ble_eq_true rfl | (dsimp only; omega) | omega⟩ hK hE hw hA rfl L55_rd rfl hl.1 (Nat.le_of_ble_eq_true rfl) d_RecordReader_readMembers_72 ⟨by first | exact Nat.le_of_ble_eq_true rfl | (dsimp only; omega) | omega, by first | exact Nat.le_of_ble_eq_true rfl | (dsimp only; omega) | omega⟩ rfl (fun r9 h9 H locs hp hw => ?_)
                  rcases hN8 : namR S t n (nI gi) st1 p1 with F7 | ⟨fi8, p7⟩
                  · -- name False
                    rw [hN8] at hp
                    obtain ⟨r8, x11, y11, z11, hh11⟩ := hp
                    subst r8
                    obtain ⟨h11, e6⟩ : ∃ x9, x9 = h9 := ⟨_, rfl⟩
                    subst e6
                    have f11_rd : h11 rd = some ((8, 0), .inr (9, [.ref sc, .ref q, .ref w, .ref tr, .long nu1])) := by rw [← hh11]; exact z_keep L55_sc L55_rd (z_t1 (by decide))
                    have f11_sc : h11 sc = some ((6, 0), .inr (7, [.ref b, .int (nI n), .int (nI x11), .int (nI F7), .int y11, .int z11])) := by rw [← hh11]; exact z_put_eq
                    have f11_b : h11 b = some ((3, 0), .inl (g.2.1 0, len, .inl f)) := by rw [← hh11]; exact z_keep L55_sc L55_b (z_t1 (by decide))
                    have k611 : z_K (fun y => y = 6) hL h11 := k6L.tr (by rw [← hh11]; exact z_K.put L55_sc rfl)
                    have kk11 : z_K (fun y => y = 6 ∨ y = 8 ∨ y = 10 ∨ y = mr ∨ y = mr + 1) h h11 := kkL.tr (by rw [← hh11]; exact z_K.put L55_sc (by first | decide | simp | omega))
                    refine W.eq (g2 := F0 m 75 ls [.null]) rfl ?_
                    refine lv_astoreN (lv' := [(7, .null), (0, .ref rd), (1, .int (nI gi)), (2, .int (nI pi)), (3, .int (nI d)), (4, .int (nI st1)), (5, .int (zb m1)), (6, .int (nI k1))]) hx hb d_RecordReader_readMembers_75 hl (by decide) rfl (fun ls hl => ?_)
                    refine lv_aloadN hx hb d_RecordReader_readMembers_77 (lv_at hl 0 rfl) ?_
                    refine lv_ifnullN (tgt := 105) hx hb d_RecordReader_readMembers_79 (by decide) ?_
                    refine lv_iconst (v := 0) hx hb d_RecordReader_readMembers_105 (by decide) ?_
                    have eW : memR FR S t n (nI gi) (gi + 1) p R = .inl (F7, R1) := by rw [← hR1, if_pos c_65, show 129 - k1 = (129 - (k1 + 1)) + 1 by omega]; simp only [memL]; rw [hN8]
                    have eZ1 : (rrR (memR FR S t n (nI gi) (gi + 1) p R)).1 = R1.1 := by rw [eW]; rfl
                    have eZ2 : tbR (rrR (memR FR S t n (nI gi) (gi + 1) p R)) = tbR R1 := by rw [eW]; rfl
                    exact z_zret hx hb hr rfl hlocks hw (by rw [eW]; exact ⟨kk11, ⟨_, f11_rd⟩, (tA1.k k611 (by omega)), (nA1.k k611 (by omega) (by omega) (by omega)), pA1, rfl, ⟨_, _, _, _, f11_sc, rfl⟩⟩) (by first | exact Nat.le_of_ble_eq_true rfl | (dsimp only; omega) | omega) (by first | exact Nat.le_of_ble_eq_true rfl | (dsimp only; omega) | omega) d_RecordReader_readMembers_106
                  · -- name True
                    rw [hN8] at hp
                    obtain ⟨r8, x12, y12, z12, hh12⟩ := hp
                    subst r8
                    obtain ⟨h12, e6⟩ : ∃ x9, x9 = h9 := ⟨_, rfl⟩
                    subst e6
                    have f12_rd : h12 rd = some ((8, 0), .inr (9, [.ref sc, .ref q, .ref w, .ref tr, .long nu1])) := by rw [← hh12]; exact z_keep L55_sc L55_rd (z_t1 (by decide))
                    have f12_sc : h12 sc = some ((6, 0), .inr (7, [.ref b, .int (nI n), .int (nI p7), .int x12, .int y12, .int z12])) := by rw [← hh12]; exact z_put_eq
                    have f12_b : h12 b = some ((3, 0), .inl (g.2.1 0, len, .inl f)) := by rw [← hh12]; exact z_keep L55_sc L55_b (z_t1 (by decide))
                    have k612 : z_K (fun y => y = 6) hL h12 := k6L.tr (by rw [← hh12]; exact z_K.put L55_sc rfl)
                    have kk12 : z_K (fun y => y = 6 ∨ y = 8 ∨ y = 10 ∨ y = mr ∨ y = mr + 1) h h12 := kkL.tr (by rw [← hh12]; exact z_K.put L55_sc (by first | decide | simp | omega))
                    obtain ⟨hfi8, hst8, hgr8, le7, ge7⟩ := namR_ok (fun k hk => (hf k hk).1) (by omega) hs8 hN8
                    dsimp only at hfi8 hst8 hgr8 le7 ge7
                    have skr := sk_le (t := t) le7
                    have skr2 := sk_ge t n p7
                    refine W.eq (g2 := F0 m 75 ls [.ref (adS fi8)]) rfl ?_
                    refine lv_astore (lv' := [(7, .ref (adS fi8)), (0, .ref rd), (1, .int (nI gi)), (2, .int (nI pi)), (3, .int (nI d)), (4, .int (nI st1)), (5, .int (zb m1)), (6, .int (nI k1))]) hx hb d_RecordReader_readMembers_75 hl (by decide) rfl (fun ls hl => ?_)
                    refine lv_aload hx hb d_RecordReader_readMembers_77 (lv_at hl 0 rfl) ?_
                    refine lv_ifnull hx hb d_RecordReader_readMembers_79 ?_
                    refine lv_aload_n hx hb d_RecordReader_readMembers_82 rfl (lv_at hl 1 rfl) ?_
                    refine z_get hx hb hts (z_lay i_RecordReader) hown hK hw f12_rd rfl 0 (by decide) (z_in k_502 rfl) (fun _ h9 => h9) rfl d_RecordReader_readMembers_83 ?_
                    refine lv_bipush (v := 58) hx hb d_RecordReader_readMembers_86 (by decide) ?_
                    refine z_callV (n := 1) (As := [.int 58]) (rest := []) ⟨hx, hb, hml, hown, hts⟩ (c_Scanner_takeSign (t := t) l g h12 f12_sc f12_b hn hlen hf (by omega)) (z_in k_456 rfl) (z_in k_8 rfl) (z_in k_523 rfl) (z_in k_454 rfl) (z_in k_455 rfl) (by decide +kernel) ⟨by first | exact Nat.le_of_ble_eq_true rfl | (dsimp only; omega) | omega, by first | exact Nat.le_of_ble_eq_true rfl | (dsimp only; omega) | omega⟩ hK hE hw hA rfl f12_sc rfl hl.1 (Nat.le_of_ble_eq_true rfl) d_RecordReader_readMembers_88 ⟨by first | exact Nat.le_of_ble_eq_true rfl | (dsimp only; omega) | omega, by first | exact Nat.le_of_ble_eq_true rfl | (dsimp only; omega) | omega⟩ rfl (fun r9 h9 H locs hp hw => ?_)
                    unfold tSg at hp
                    by_cases tsc : bt t n (sk t n p7) = 58
                    · -- tsc True
                      rw [if_pos tsc] at hp
                      obtain ⟨r8, hh13⟩ := hp
                      subst r8
                      obtain ⟨h13, e8⟩ : ∃ x9, x9 = h9 := ⟨_, rfl⟩
                      subst e8
                      have f13_rd : h13 rd = some ((8, 0), .inr (9, [.ref sc, .ref q, .ref w, .ref tr, .long nu1])) := by rw [← hh13]; exact z_keep f12_sc f12_rd (z_t1 (by decide))
                      have f13_sc : h13 sc = some ((6, 0), .inr (7, [.ref b, .int (nI n), .int (nI (sk t n p7 + 1)), .int x12, .int y12, .int z12])) := by rw [← hh13]; exact z_put_eq
                      have f13_b : h13 b = some ((3, 0), .inl (g.2.1 0, len, .inl f)) := by rw [← hh13]; exact z_keep f12_sc f12_b (z_t1 (by decide))
                      have k613 : z_K (fun y => y = 6) hL h13 := k612.tr (by rw [← hh13]; exact z_K.put f12_sc rfl)
                      have kk13 : z_K (fun y => y = 6 ∨ y = 8 ∨ y = 10 ∨ y = mr ∨ y = mr + 1) h h13 := kk12.tr (by rw [← hh13]; exact z_K.put f12_sc (by first | decide | simp | omega))
                      refine W.eq (g2 := F0 m 91 ls [.int 1]) rfl ?_
                      refine lv_if_eq (tgt := 105) hx hb d_RecordReader_readMembers_91 (by decide) (fun c_91 => ?_) (fun c_91 => ?_)
                      · -- 91: True
                        exact absurd c_91 (by decide)
                      · -- 91: False
                        have lt58 := bt_lt tsc
                        have hM0 : rmono (rrR (FR fi8 (sk t n p7 + 1) R1)) (memR FR S t n (nI gi) (gi + 1) p R) := by rw [← hR1, if_pos c_65, show 129 - k1 = (129 - (k1 + 1)) + 1 by omega]; exact memL_mid hFo _ _ _ _ hN8 tsc
                        have hM1 : (rrR (FR fi8 (sk t n p7 + 1) R1)).1 ≤ (rrR (memR FR S t n (nI gi) (gi + 1) p R)).1 := hM0.1
                        have hM2 : tbR (rrR (FR fi8 (sk t n p7 + 1) R1)) ≤ tbR (rrR (memR FR S t n (nI gi) (gi + 1) p R)) := hM0.2
                        have hM3 : R1.1 ≤ (rrR (FR fi8 (sk t n p7 + 1) R1)).1 := (hFo fi8 (sk t n p7 + 1) R1).1
                        have hM4 : tbR R1 ≤ tbR (rrR (FR fi8 (sk t n p7 + 1) R1)) := (hFo fi8 (sk t n p7 + 1) R1).2
                        refine lv_aload_n hx hb d_RecordReader_readMembers_94 rfl (lv_at hl 1 rfl) ?_
                        refine lv_aload hx hb d_RecordReader_readMembers_95 (lv_at hl 0 rfl) ?_
                        refine lv_iload_n hx hb d_RecordReader_readMembers_97 rfl (lv_at hl 3 rfl) ?_
                        refine lv_iload_n hx hb d_RecordReader_readMembers_98 rfl (lv_at hl 4 rfl) ?_
                        refine z_callV (n := 3) (As := [.ref (adS fi8), .int (nI pi), .int (nI d)]) (rest := []) ⟨hx, hb, hml, hown, hts⟩ (hF fi8 hfi8 h13 (sk t n p7 + 1) R1 _ _ _ _ (hS.k kk13 (by omega) (by omega) (by omega)) f13_rd f13_sc f13_b (tA1.k k613 (by omega)) (nA1.k k613 (by omega) (by omega) (by omega)) pA1 (by omega) (by omega) (by omega) (by omega)) (z_in k_539 rfl) (z_in k_18 rfl) (z_in k_536 rfl) (z_in k_538 rfl) (z_in ks_7 rfl) (by decide +kernel) ⟨by first | exact Nat.le_of_ble_eq_true rfl | (dsimp only; omega) | omega, by first | exact Nat.le_of_ble_eq_true rfl | (dsimp only; omega) | omega⟩ hK hE hw hA rfl f13_rd rfl hl.1 (Nat.le_of_ble_eq_true rfl) d_RecordReader_readMembers_99 ⟨by first | exact Nat.le_of_ble_eq_true rfl | (dsimp only; omega) | omega, by first | exact Nat.le_of_ble_eq_true rfl | (dsimp only; omega) | omega⟩ rfl (fun r9 h9 H locs hp hw => ?_)
                        obtain ⟨kk8, ⟨nu8, q8⟩, tr8, nA8, pA8, hp⟩ := hp
                        rcases hR8 : FR fi8 (sk t n p7 + 1) R1 with ⟨F8, R8⟩ | ⟨p8, R8⟩
                        · -- rf False
                          rw [hR8] at hp nA8 pA8
                          obtain ⟨r8, pf8, f8, w8, d8, e8, g8⟩ := hp
                          have nA8 : NdAt g h9 mr w S R8 := nA8
                          have pA8 : paOK R8 := pA8
                          subst r8
                          obtain ⟨h14, e7⟩ : ∃ x9, x9 = h9 := ⟨_, rfl⟩
                          subst e7
                          have z8a : (rrR (FR fi8 (sk t n p7 + 1) R1)).1 = R8.1 := by rw [hR8]; rfl
                          have z8b : (rrR (.inl (F8, R8) : RRes)).1 = R8.1 := rfl
                          have z8c : tbR (rrR (FR fi8 (sk t n p7 + 1) R1)) = tbR R8 := by rw [hR8]; rfl
                          have z8d : tbR (rrR (.inl (F8, R8) : RRes)) = tbR R8 := rfl
                          have q8 : h14 rd = some ((8, 0), .inr (9, [.ref sc, .ref q, .ref w, .ref tr, .long nu8])) := q8
                          have g14_b : h14 b = some ((3, 0), .inl (g.2.1 0, len, .inl f)) := kk8 _ _ _ f13_b (by simp; try omega)
                          have kk14 : z_K (fun y => y = 6 ∨ y = 8 ∨ y = 10 ∨ y = mr ∨ y = mr + 1) h h14 := kk13.tr kk8
                          have k6n : z_K (fun y => y = 6) h14 h14 := z_K.rf
                          refine W.eq (g2 := F0 m 102 ls [.int 0]) rfl ?_
                          refine lv_if_ne (tgt := 107) hx hb d_RecordReader_readMembers_102 (by decide) (fun c_102 => ?_) (fun c_102 => ?_)
                          · -- 102: True
                            exact absurd (by decide) c_102
                          · -- 102: False
                            refine lv_iconst (v := 0) hx hb d_RecordReader_readMembers_105 (by decide) ?_
                            have eW : memR FR S t n (nI gi) (gi + 1) p R = .inl (F8, R8) := by rw [← hR1, if_pos c_65, show 129 - k1 = (129 - (k1 + 1)) + 1 by omega]; simp only [memL]; rw [hN8]; dsimp only; rw [if_pos tsc, hR8]
                            have eZ1 : (rrR (memR FR S t n (nI gi) (gi + 1) p R)).1 = R8.1 := by rw [eW]; rfl
                            have eZ2 : tbR (rrR (memR FR S t n (nI gi) (gi + 1) p R)) = tbR R8 := by rw [eW]; rfl
                            exact z_zret hx hb hr rfl hlocks hw (by rw [eW]; exact ⟨kk14, ⟨_, q8⟩, tr8, nA8, pA8, rfl, ⟨_, _, _, _, e8, g8⟩⟩) (by first | exact Nat.le_of_ble_eq_true rfl | (dsimp only; omega) | omega) (by first | exact Nat.le_of_ble_eq_true rfl | (dsimp only; omega) | omega) d_RecordReader_readMembers_106
                        · -- rf True
                          rw [hR8] at hp nA8 pA8
                          obtain ⟨r8, ⟨f8, w8, d8, e8⟩, le8, le9, le10⟩ := hp
                          dsimp only at le8 le9 le10
                          have nA8 : NdAt g h9 mr w S R8 := nA8
                          have pA8 : paOK R8 := pA8
                          subst r8
                          obtain ⟨h15, e7⟩ : ∃ x9, x9 = h9 := ⟨_, rfl⟩
                          subst e7
                          have z8a : (rrR (FR fi8 (sk t n p7 + 1) R1)).1 = R8.1 := by rw [hR8]; rfl
                          have z8b : (rrR (.inr (p8, R8) : RRes)).1 = R8.1 := rfl
                          have z8c : tbR (rrR (FR fi8 (sk t n p7 + 1) R1)) = tbR R8 := by rw [hR8]; rfl
                          have z8d : tbR (rrR (.inr (p8, R8) : RRes)) = tbR R8 := rfl
                          have q8 : h15 rd = some ((8, 0), .inr (9, [.ref sc, .ref q, .ref w, .ref tr, .long nu8])) := q8
                          have g15_b : h15 b = some ((3, 0), .inl (g.2.1 0, len, .inl f)) := kk8 _ _ _ f13_b (by simp; try omega)
                          have kk15 : z_K (fun y => y = 6 ∨ y = 8 ∨ y = 10 ∨ y = mr ∨ y = mr + 1) h h15 := kk13.tr kk8
                          have k6n : z_K (fun y => y = 6) h15 h15 := z_K.rf
                          have sk8 := sk_le (t := t) le8
                          have sk9 := sk_ge t n p8
                          refine W.eq (g2 := F0 m 102 ls [.int 1]) rfl ?_
                          refine lv_if_ne (tgt := 107) hx hb d_RecordReader_readMembers_102 (by decide) (fun c_102 => ?_) (fun c_102 => ?_)
                          · -- 102: True
                            have hfd7 := ((hS.k kk15 (by omega) (by omega) (by omega)).2.2.2.1 fi8 hfi8).2
                            refine lv_aload hx hb d_RecordReader_readMembers_107 (lv_at hl 0 rfl) ?_
                            refine z_getN hx hb hts (z_lay i_Field) hown hK hw hfd7 rfl 0 (by decide) hE.nest (z_inN k_400 rfl) (fun _ h9 => h9) rfl d_RecordReader_readMembers_109 ?_
                            refine lv_iconst (v := 1) hx hb d_RecordReader_readMembers_112 (by decide) ?_
                            refine lv_iadd hx hb d_RecordReader_readMembers_113 ?_
                            refine z_topi (y := nI (fi8 + 1)) (nI_add fi8 1) ?_
                            refine lv_istore (lv' := [(4, .int (nI (fi8 + 1))), (7, .ref (adS fi8)), (0, .ref rd), (1, .int (nI gi)), (2, .int (nI pi)), (3, .int (nI d)), (5, .int (zb m1)), (6, .int (nI k1))]) hx hb d_RecordReader_readMembers_114 hl (by decide) rfl (fun ls hl => ?_)
                            refine lv_aload_n hx hb d_RecordReader_readMembers_116 rfl (lv_at hl 2 rfl) ?_
                            refine z_get hx hb hts (z_lay i_RecordReader) hown hK hw q8 rfl 0 (by decide) (z_in k_502 rfl) (fun _ h9 => h9) rfl d_RecordReader_readMembers_117 ?_
                            refine z_callV (n := 0) (As := []) (rest := []) ⟨hx, hb, hml, hown, hts⟩ (c_Scanner_next l g h15 e8 g15_b hn hlen hf (by omega)) (z_in k_234 rfl) (z_in k_8 rfl) (z_in k_524 rfl) (z_in k_232 rfl) (z_in k_233 rfl) (by decide +kernel) ⟨by first | exact Nat.le_of_ble_eq_true rfl | (dsimp only; omega) | omega, by first | exact Nat.le_of_ble_eq_true rfl | (dsimp only; omega) | omega⟩ hK hE hw hA rfl e8 rfl hl.1 (Nat.le_of_ble_eq_true rfl) d_RecordReader_readMembers_120 ⟨by first | exact Nat.le_of_ble_eq_true rfl | (dsimp only; omega) | omega, by first | exact Nat.le_of_ble_eq_true rfl | (dsimp only; omega) | omega⟩ rfl (fun r9 h9 H locs hp hw => ?_)
                            obtain ⟨r8, hh16⟩ := hp
                            subst r8
                            obtain ⟨h16, e8⟩ : ∃ x9, x9 = h9 := ⟨_, rfl⟩
                            subst e8
                            have f16_rd : h16 rd = some ((8, 0), .inr (9, [.ref sc, .ref q, .ref w, .ref tr, .long nu8])) := by rw [← hh16]; exact z_keep e8 q8 (z_t1 (by decide))
                            have f16_sc : h16 sc = some ((6, 0), .inr (7, [.ref b, .int (nI n), .int (nI (sk t n p8)), .int f8, .int w8, .int d8])) := by rw [← hh16]; exact z_put_eq
                            have f16_b : h16 b = some ((3, 0), .inl (g.2.1 0, len, .inl f)) := by rw [← hh16]; exact z_keep e8 g15_b (z_t1 (by decide))
                            have k616 : z_K (fun y => y = 6) h15 h16 := k6n.tr (by rw [← hh16]; exact z_K.put e8 rfl)
                            have kk16 : z_K (fun y => y = 6 ∨ y = 8 ∨ y = 10 ∨ y = mr ∨ y = mr + 1) h h16 := kk15.tr (by rw [← hh16]; exact z_K.put e8 (by first | decide | simp | omega))
                            refine W.eq (g2 := F0 m 123 ls [.int (bt t n (sk t n p8))]) rfl ?_
                            refine lv_bipush (v := 44) hx hb d_RecordReader_readMembers_123 (by decide) ?_
                            refine lv_icmp_ne (tgt := 144) hx hb d_RecordReader_readMembers_125 (by decide) (fun c_125 => ?_) (fun c_125 => ?_)
                            · -- 125: True
                              refine lv_iconst (v := 0) hx hb d_RecordReader_readMembers_144 (by decide) ?_
                              refine lv_istore (lv' := [(5, .int 0), (4, .int (nI (fi8 + 1))), (7, .ref (adS fi8)), (0, .ref rd), (1, .int (nI gi)), (2, .int (nI pi)), (3, .int (nI d)), (6, .int (nI k1))]) hx hb d_RecordReader_readMembers_145 hl (by decide) rfl (fun ls hl => ?_)
                              refine lv_iinc (v := nI (k1 + 1)) (lv' := [(6, .int (nI (k1 + 1))), (5, .int 0), (4, .int (nI (fi8 + 1))), (7, .ref (adS fi8)), (0, .ref rd), (1, .int (nI gi)), (2, .int (nI pi)), (3, .int (nI d))]) hx hb d_RecordReader_readMembers_147 hl (k := 7) rfl (nI_1 k1) (by decide) rfl (fun ls hl => ?_)
                              refine lv_goto (tgt := 55) hx hb d_RecordReader_readMembers_150 (by decide) ?_
                              refine W.widen (k := 2 * (R8.1 - R.1)) (n := 7 * (R8.1 - R.1) + (tbR R8 - tbR R)) (by first | exact Nat.le_of_ble_eq_true rfl | (dsimp only; omega) | omega) (by first | exact Nat.le_of_ble_eq_true rfl | (dsimp only; omega) | omega) ?_
                              refine ih_55 (k1 + 1) (fi8 + 1) false (sk t n p8) R8 nu8 f8 w8 d8 h16 _ _ _ f16_rd f16_sc f16_b kk16 (nA8.k k616 (by omega) (by omega) (by omega)) (tr8.k k616 (by omega)) pA8 (⟨by omega, by omega, by omega, by omega, by omega, by omega, by omega, by omega, by omega⟩) (by rw [← hR1, if_pos c_65, show 129 - k1 = (129 - (k1 + 1)) + 1 by omega]; simp only [memL]; rw [hN8]; dsimp only; rw [if_pos tsc, hR8]; dsimp only; rw [if_neg c_125]; exact if_neg (by decide)) ?_ hw (lv_sub hl [4, 5, 6, 7, 2, 1, 0] rfl)
                              omega
                            · -- 125: False
                              refine lv_aload_n hx hb d_RecordReader_readMembers_128 rfl (lv_at hl 2 rfl) ?_
                              refine z_get hx hb hts (z_lay i_RecordReader) hown hK hw f16_rd rfl 0 (by decide) (z_in k_502 rfl) (fun _ h9 => h9) rfl d_RecordReader_readMembers_129 ?_
                              refine lv_bipush (v := 44) hx hb d_RecordReader_readMembers_132 (by decide) ?_
                              refine z_callV (n := 1) (As := [.int 44]) (rest := []) ⟨hx, hb, hml, hown, hts⟩ (c_Scanner_takeSign (t := t) l g h16 f16_sc f16_b hn hlen hf (by omega)) (z_in k_456 rfl) (z_in k_8 rfl) (z_in k_523 rfl) (z_in k_454 rfl) (z_in k_455 rfl) (by decide +kernel) ⟨by first | exact Nat.le_of_ble_eq_true rfl | (dsimp only; omega) | omega, by first | exact Nat.le_of_ble_eq_true rfl | (dsimp only; omega) | omega⟩ hK hE hw hA rfl f16_sc rfl hl.1 (Nat.le_of_ble_eq_true rfl) d_RecordReader_readMembers_134 ⟨by first | exact Nat.le_of_ble_eq_true rfl | (dsimp only; omega) | omega, by first | exact Nat.le_of_ble_eq_true rfl | (dsimp only; omega) | omega⟩ rfl (fun r9 h9 H locs hp hw => ?_)
                              unfold tSg at hp
                              rw [sk_sk, if_pos c_125] at hp
                              obtain ⟨r8, hh17⟩ := hp
                              subst r8
                              obtain ⟨h17, e6⟩ : ∃ x9, x9 = h9 := ⟨_, rfl⟩
                              subst e6
                              have f17_rd : h17 rd = some ((8, 0), .inr (9, [.ref sc, .ref q, .ref w, .ref tr, .long nu8])) := by rw [← hh17]; exact z_keep f16_sc f16_rd (z_t1 (by decide))
                              have f17_sc : h17 sc = some ((6, 0), .inr (7, [.ref b, .int (nI n), .int (nI (sk t n p8 + 1)), .int f8, .int w8, .int d8])) := by rw [← hh17]; exact z_put_eq
                              have f17_b : h17 b = some ((3, 0), .inl (g.2.1 0, len, .inl f)) := by rw [← hh17]; exact z_keep f16_sc f16_b (z_t1 (by decide))
                              have k617 : z_K (fun y => y = 6) h15 h17 := k616.tr (by rw [← hh17]; exact z_K.put f16_sc rfl)
                              have kk17 : z_K (fun y => y = 6 ∨ y = 8 ∨ y = 10 ∨ y = mr ∨ y = mr + 1) h h17 := kk16.tr (by rw [← hh17]; exact z_K.put f16_sc (by first | decide | simp | omega))
                              have lt44 := bt_lt c_125
                              refine W.eq (g2 := F0 m 137 ls [.int 1]) rfl ?_
                              refine lv_if_eq (tgt := 144) hx hb d_RecordReader_readMembers_137 (by decide) (fun c_137 => ?_) (fun c_137 => ?_)
                              · -- 137: True
                                exact absurd c_137 (by decide)
                              · -- 137: False
                                refine lv_iconst (v := 1) hx hb d_RecordReader_readMembers_140 (by decide) ?_
                                refine lv_goto (tgt := 145) hx hb d_RecordReader_readMembers_141 (by decide) ?_
                                refine lv_istore (lv' := [(5, .int 1), (4, .int (nI (fi8 + 1))), (7, .ref (adS fi8)), (0, .ref rd), (1, .int (nI gi)), (2, .int (nI pi)), (3, .int (nI d)), (6, .int (nI k1))]) hx hb d_RecordReader_readMembers_145 hl (by decide) rfl (fun ls hl => ?_)
                                refine lv_iinc (v := nI (k1 + 1)) (lv' := [(6, .int (nI (k1 + 1))), (5, .int 1), (4, .int (nI (fi8 + 1))), (7, .ref (adS fi8)), (0, .ref rd), (1, .int (nI gi)), (2, .int (nI pi)), (3, .int (nI d))]) hx hb d_RecordReader_readMembers_147 hl (k := 7) rfl (nI_1 k1) (by decide) rfl (fun ls hl => ?_)
                                refine lv_goto (tgt := 55) hx hb d_RecordReader_readMembers_150 (by decide) ?_
                                refine W.widen (k := 2 * (R8.1 - R.1)) (n := 7 * (R8.1 - R.1) + (tbR R8 - tbR R)) (by first | exact Nat.le_of_ble_eq_true rfl | (dsimp only; omega) | omega) (by first | exact Nat.le_of_ble_eq_true rfl | (dsimp only; omega) | omega) ?_
                                refine ih_55 (k1 + 1) (fi8 + 1) true (sk t n p8 + 1) R8 nu8 f8 w8 d8 h17 _ _ _ f17_rd f17_sc f17_b kk17 (nA8.k k617 (by omega) (by omega) (by omega)) (tr8.k k617 (by omega)) pA8 (⟨by omega, by omega, by omega, by omega, by omega, by omega, by omega, by omega, by omega⟩) (by rw [← hR1, if_pos c_65, show 129 - k1 = (129 - (k1 + 1)) + 1 by omega]; simp only [memL]; rw [hN8]; dsimp only; rw [if_pos tsc, hR8]; dsimp only; rw [if_pos c_125]; exact if_pos trivial) ?_ hw (lv_sub hl [4, 5, 6, 7, 2, 1, 0] rfl)
                                omega
                          · -- 102: False
                            exact absurd c_102 (by decide)
                    · -- tsc False
                      rw [if_neg tsc] at hp
                      obtain ⟨r8, hh18⟩ := hp
                      subst r8
                      obtain ⟨h18, e8⟩ : ∃ x9, x9 = h9 := ⟨_, rfl⟩
                      subst e8
                      have f18_rd : h18 rd = some ((8, 0), .inr (9, [.ref sc, .ref q, .ref w, .ref tr, .long nu1])) := by rw [← hh18]; exact z_keep f12_sc f12_rd (z_t1 (by decide))
                      have f18_sc : h18 sc = some ((6, 0), .inr (7, [.ref b, .int (nI n), .int (nI (sk t n p7)), .int (nI (sk t n p7)), .int y12, .int z12])) := by rw [← hh18]; exact z_put_eq
                      have f18_b : h18 b = some ((3, 0), .inl (g.2.1 0, len, .inl f)) := by rw [← hh18]; exact z_keep f12_sc f12_b (z_t1 (by decide))
                      have k618 : z_K (fun y => y = 6) hL h18 := k612.tr (by rw [← hh18]; exact z_K.put f12_sc rfl)
                      have kk18 : z_K (fun y => y = 6 ∨ y = 8 ∨ y = 10 ∨ y = mr ∨ y = mr + 1) h h18 := kk12.tr (by rw [← hh18]; exact z_K.put f12_sc (by first | decide | simp | omega))
                      refine W.eq (g2 := F0 m 91 ls [.int 0]) rfl ?_
                      refine lv_if_eq (tgt := 105) hx hb d_RecordReader_readMembers_91 (by decide) (fun c_91 => ?_) (fun c_91 => ?_)
                      · -- 91: True
                        refine lv_iconst (v := 0) hx hb d_RecordReader_readMembers_105 (by decide) ?_
                        have eW : memR FR S t n (nI gi) (gi + 1) p R = .inl (sk t n p7, R1) := by rw [← hR1, if_pos c_65, show 129 - k1 = (129 - (k1 + 1)) + 1 by omega]; simp only [memL]; rw [hN8]; dsimp only; rw [if_neg tsc]
                        have eZ1 : (rrR (memR FR S t n (nI gi) (gi + 1) p R)).1 = R1.1 := by rw [eW]; rfl
                        have eZ2 : tbR (rrR (memR FR S t n (nI gi) (gi + 1) p R)) = tbR R1 := by rw [eW]; rfl
                        exact z_zret hx hb hr rfl hlocks hw (by rw [eW]; exact ⟨kk18, ⟨_, f18_rd⟩, (tA1.k k618 (by omega)), (nA1.k k618 (by omega) (by omega) (by omega)), pA1, rfl, ⟨_, _, _, _, f18_sc, rfl⟩⟩) (by first | exact Nat.le_of_ble_eq_true rfl | (dsimp only; omega) | omega) (by first | exact Nat.le_of_ble_eq_true rfl | (dsimp only; omega) | omega) d_RecordReader_readMembers_106
                      · -- 91: False
                        exact absurd (by decide) c_91
          refine W.widen (k := 2 * (R.1 - R.1)) (n := 7 * (R.1 - R.1) + (tbR R - tbR R)) (by first | exact Nat.le_of_ble_eq_true rfl | (dsimp only; omega) | omega) (by first | exact Nat.le_of_ble_eq_true rfl | (dsimp only; omega) | omega) ?_
          exact loop_55 (130 - 0 + 1) 0 (gi + 1) false (sk t n (sk t n p + 1)) R nu9 fa ws wd h2 _ _ _ f2_rd f2_sc f2_b kk2 (hNA.k k62 (by omega) (by omega) (by omega)) (hTR.k k62 (by omega)) hpa (⟨by omega, by omega, by omega, by omega, by omega, rOK.1, rOK.2, by omega, by omega⟩) (by unfold memR; rw [if_pos ts1]; rw [if_pos c_42]; rfl) (by omega) hw (lv_sub hl [3, 4, 5, 6, 2, 1, 0] rfl)
        · -- 42: False
          refine lv_iconst (v := 1) hx hb d_RecordReader_readMembers_45 (by decide) ?_
          refine lv_goto (tgt := 50) hx hb d_RecordReader_readMembers_46 (by decide) ?_
          refine lv_istore (lv' := [(5, .int 1), (4, .int (nI (gi + 1))), (0, .ref rd), (1, .int (nI gi)), (2, .int (nI pi)), (3, .int (nI d))]) hx hb d_RecordReader_readMembers_50 hl (by decide) rfl (fun ls hl => ?_)
          refine lv_iconst (v := 0) hx hb d_RecordReader_readMembers_52 (by decide) ?_
          refine lv_istore (lv' := [(6, .int 0), (5, .int 1), (4, .int (nI (gi + 1))), (0, .ref rd), (1, .int (nI gi)), (2, .int (nI pi)), (3, .int (nI d))]) hx hb d_RecordReader_readMembers_53 hl (by decide) rfl (fun ls hl => ?_)
          have loop_55 : ∀ (fuel : Nat) (k1 : Nat) (st1 : Nat) (m1 : Bool) (p1 : Nat) (R1 : Rec) (nu1 : Int64) (fa1 : Int32) (ws1 : Int32) (wd1 : Int32) (hL : z_H) (H : Heap) (locs : List Loc) (ls : Array Slot) (L55_rd : hL rd = some ((8, 0), .inr (9, [.ref sc, .ref q, .ref w, .ref tr, .long nu1]))) (L55_sc : hL sc = some ((6, 0), .inr (7, [.ref b, .int (nI n), .int (nI p1), .int fa1, .int ws1, .int wd1]))) (L55_b : hL b = some ((3, 0), .inl (g.2.1 0, len, .inl f))) (kkL : z_K (fun y => y = 6 ∨ y = 8 ∨ y = 10 ∨ y = mr ∨ y = mr + 1) h hL) (nA1 : NdAt g hL mr w S R1) (tA1 : trAt g hL tr []) (pA1 : paOK R1) (le1 : p1 ≤ n ∧ R.1 ≤ R1.1 ∧ tbR R ≤ tbR R1 ∧ k1 ≤ 129 ∧ st1 ≤ 128 ∧ R1.1 ≤ (rrR (memR FR S t n (nI gi) (gi + 1) p R)).1 ∧ tbR R1 ≤ tbR (rrR (memR FR S t n (nI gi) (gi + 1) p R)) ∧ 2 * R1.1 ≤ p1 + 1 ∧ tbR R1 ≤ p1) (hR1 : (if m1 = true then memL FR S t n (nI gi) (129 - k1) st1 p1 R1 else memE S t n (nI gi) st1 p1 R1) = memR FR S t n (nI gi) (gi + 1) p R), (130 - k1) < fuel → z_S g A s.heap hL H locs → lv_has ls 8 [(0, .ref rd), (1, .int (nI gi)), (2, .int (nI pi)), (3, .int (nI d)), (4, .int (nI st1)), (5, .int (zb m1)), (6, .int (nI k1))] → W pg l en { frames := fM + 5, cells := 2 * ((rrR (memR FR S t n (nI gi) (gi + 1) p R)).1 - R.1), slots := 7 * ((rrR (memR FR S t n (nI gi) (gi + 1) p R)).1 - R.1) + (tbR (rrR (memR FR S t n (nI gi) (gi + 1) p R)) - tbR R), locals := lM + 150 } s m [.ref rd, .int (nI gi), .int (nI pi), .int (nI d)].toArray below meth cd H locs (2 * (R1.1 - R.1)) (7 * (R1.1 - R.1) + (tbR R1 - tbR R)) (MQ below (z_Q g A (vlP g (memR FR S t n (nI gi) (gi + 1) p R) h mr w S rd sc q tr b n)) [.ref rd, .int (nI gi), .int (nI pi), .int (nI d)].toArray s (2 * ((rrR (memR FR S t n (nI gi) (gi + 1) p R)).1 - R.1)) (7 * ((rrR (memR FR S t n (nI gi) (gi + 1) p R)).1 - R.1) + (tbR (rrR (memR FR S t n (nI gi) (gi + 1) p R)) - tbR R)) A) (F0 m 55 ls []) := by
            intro fuel
            induction fuel with
            | zero => intro k1 st1 m1 p1 R1 nu1 fa1 ws1 wd1 hL H locs ls L55_rd L55_sc L55_b kkL nA1 tA1 pA1 le1 hR1 hm; exact absurd hm (Nat.not_lt_zero _)
            | succ fuel ih_55 =>
              intro k1 st1 m1 p1 R1 nu1 fa1 ws1 wd1 hL H locs ls L55_rd L55_sc L55_b kkL nA1 tA1 pA1 le1 hR1 hm hw hl
              have k6L : z_K (fun y => y = 6) hL hL := z_K.rf
              have skp1 := sk_le (t := t) le1.1
              have skp2 := sk_ge t n p1
              refine lv_iload hx hb d_RecordReader_readMembers_55 (lv_at hl 6 rfl) ?_
              refine lv_sipush (v := 128) hx hb d_RecordReader_readMembers_57 (by decide) ?_
              refine lv_icmp_gt (tgt := 153) hx hb d_RecordReader_readMembers_60 (by decide) (fun c_60 => ?_) (fun c_60 => ?_)
              · -- 60: True
                have c_60 : 128 < k1 := (nI_ltI (a := 128) (b := k1) (by omega) (by omega)).mp c_60
                refine lv_aload_n hx hb d_RecordReader_readMembers_153 rfl (lv_at hl 0 rfl) ?_
                refine z_get hx hb hts (z_lay i_RecordReader) hown hK hw L55_rd rfl 0 (by decide) (z_in k_502 rfl) (fun _ h9 => h9) rfl d_RecordReader_readMembers_154 ?_
                refine z_callV (n := 0) (As := []) (rest := []) ⟨hx, hb, hml, hown, hts⟩ (c_Scanner_next l g hL L55_sc L55_b hn hlen hf (by omega)) (z_in k_234 rfl) (z_in k_8 rfl) (z_in k_524 rfl) (z_in k_232 rfl) (z_in k_233 rfl) (by decide +kernel) ⟨by first | exact Nat.le_of_ble_eq_true rfl | (dsimp only; omega) | omega, by first | exact Nat.le_of_ble_eq_true rfl | (dsimp only; omega) | omega⟩ hK hE hw hA rfl L55_sc rfl hl.1 (Nat.le_of_ble_eq_true rfl) d_RecordReader_readMembers_157 ⟨by first | exact Nat.le_of_ble_eq_true rfl | (dsimp only; omega) | omega, by first | exact Nat.le_of_ble_eq_true rfl | (dsimp only; omega) | omega⟩ rfl (fun r9 h9 H locs hp hw => ?_)
                obtain ⟨r8, hh19⟩ := hp
                subst r8
                obtain ⟨h19, e8⟩ : ∃ x9, x9 = h9 := ⟨_, rfl⟩
                subst e8
                have f19_rd : h19 rd = some ((8, 0), .inr (9, [.ref sc, .ref q, .ref w, .ref tr, .long nu1])) := by rw [← hh19]; exact z_keep L55_sc L55_rd (z_t1 (by decide))
                have f19_sc : h19 sc = some ((6, 0), .inr (7, [.ref b, .int (nI n), .int (nI (sk t n p1)), .int fa1, .int ws1, .int wd1])) := by rw [← hh19]; exact z_put_eq
                have f19_b : h19 b = some ((3, 0), .inl (g.2.1 0, len, .inl f)) := by rw [← hh19]; exact z_keep L55_sc L55_b (z_t1 (by decide))
                have k619 : z_K (fun y => y = 6) hL h19 := k6L.tr (by rw [← hh19]; exact z_K.put L55_sc rfl)
                have kk19 : z_K (fun y => y = 6 ∨ y = 8 ∨ y = 10 ∨ y = mr ∨ y = mr + 1) h h19 := kkL.tr (by rw [← hh19]; exact z_K.put L55_sc (by first | decide | simp | omega))
                refine W.eq (g2 := F0 m 160 ls [.int (bt t n (sk t n p1))]) rfl ?_
                refine lv_bipush (v := 125) hx hb d_RecordReader_readMembers_160 (by decide) ?_
                refine lv_icmp_ne (tgt := 186) hx hb d_RecordReader_readMembers_162 (by decide) (fun c_162 => ?_) (fun c_162 => ?_)
                · -- 162: True
                  refine lv_aload_n hx hb d_RecordReader_readMembers_186 rfl (lv_at hl 0 rfl) ?_
                  refine z_get hx hb hts (z_lay i_RecordReader) hown hK hw f19_rd rfl 0 (by decide) (z_in k_502 rfl) (fun _ h9 => h9) rfl d_RecordReader_readMembers_187 ?_
                  refine lv_bipush (v := 125) hx hb d_RecordReader_readMembers_190 (by decide) ?_
                  refine z_callV (n := 1) (As := [.int 125]) (rest := []) ⟨hx, hb, hml, hown, hts⟩ (c_Scanner_takeSign (t := t) l g h19 f19_sc f19_b hn hlen hf (by omega)) (z_in k_456 rfl) (z_in k_8 rfl) (z_in k_523 rfl) (z_in k_454 rfl) (z_in k_455 rfl) (by decide +kernel) ⟨by first | exact Nat.le_of_ble_eq_true rfl | (dsimp only; omega) | omega, by first | exact Nat.le_of_ble_eq_true rfl | (dsimp only; omega) | omega⟩ hK hE hw hA rfl f19_sc rfl hl.1 (Nat.le_of_ble_eq_true rfl) d_RecordReader_readMembers_192 ⟨by first | exact Nat.le_of_ble_eq_true rfl | (dsimp only; omega) | omega, by first | exact Nat.le_of_ble_eq_true rfl | (dsimp only; omega) | omega⟩ rfl (fun r9 h9 H locs hp hw => ?_)
                  unfold tSg at hp
                  rw [sk_sk, if_neg c_162] at hp
                  obtain ⟨r8, hh20⟩ := hp
                  subst r8
                  obtain ⟨h20, e6⟩ : ∃ x9, x9 = h9 := ⟨_, rfl⟩
                  subst e6
                  have f20_rd : h20 rd = some ((8, 0), .inr (9, [.ref sc, .ref q, .ref w, .ref tr, .long nu1])) := by rw [← hh20]; exact z_keep f19_sc f19_rd (z_t1 (by decide))
                  have f20_sc : h20 sc = some ((6, 0), .inr (7, [.ref b, .int (nI n), .int (nI (sk t n p1)), .int (nI (sk t n p1)), .int ws1, .int wd1])) := by rw [← hh20]; exact z_put_eq
                  have f20_b : h20 b = some ((3, 0), .inl (g.2.1 0, len, .inl f)) := by rw [← hh20]; exact z_keep f19_sc f19_b (z_t1 (by decide))
                  have k620 : z_K (fun y => y = 6) hL h20 := k619.tr (by rw [← hh20]; exact z_K.put f19_sc rfl)
                  have kk20 : z_K (fun y => y = 6 ∨ y = 8 ∨ y = 10 ∨ y = mr ∨ y = mr + 1) h h20 := kk19.tr (by rw [← hh20]; exact z_K.put f19_sc (by first | decide | simp | omega))
                  refine W.eq (g2 := F0 m 195 ls [.int 0]) rfl ?_
                  have eW : memR FR S t n (nI gi) (gi + 1) p R = .inl (sk t n p1, R1) := by rw [← hR1, show 129 - k1 = 0 by omega]; simp only [memL, ite_self]; unfold memE; rw [if_neg (fun z => c_162 z.1)]; unfold sgnR; rw [if_neg c_162]
                  have eZ1 : (rrR (memR FR S t n (nI gi) (gi + 1) p R)).1 = R1.1 := by rw [eW]; rfl
                  have eZ2 : tbR (rrR (memR FR S t n (nI gi) (gi + 1) p R)) = tbR R1 := by rw [eW]; rfl
                  exact z_zret hx hb hr rfl hlocks hw (by rw [eW]; exact ⟨kk20, ⟨_, f20_rd⟩, (tA1.k k620 (by omega)), (nA1.k k620 (by omega) (by omega) (by omega)), pA1, rfl, ⟨_, _, _, _, f20_sc, rfl⟩⟩) (by first | exact Nat.le_of_ble_eq_true rfl | (dsimp only; omega) | omega) (by first | exact Nat.le_of_ble_eq_true rfl | (dsimp only; omega) | omega) d_RecordReader_readMembers_195
                · -- 162: False
                  have hq7 := (hS.k kk19 (by omega) (by omega) (by omega)).1
                  refine lv_aload_n hx hb d_RecordReader_readMembers_165 rfl (lv_at hl 0 rfl) ?_
                  refine z_get hx hb hts (z_lay i_RecordReader) hown hK hw f19_rd rfl 1 (by decide) (z_in k_503 rfl) (fun _ h9 => h9) rfl d_RecordReader_readMembers_166 ?_
                  refine lv_iload hx hb d_RecordReader_readMembers_169 (lv_at hl 4 rfl) ?_
                  refine lv_iload_n hx hb d_RecordReader_readMembers_171 rfl (lv_at hl 1 rfl) ?_
                  refine z_callV (n := 2) (As := [.int (nI st1), .int (nI gi)]) (rest := []) ⟨hx, hb, hml, hown, hts⟩ (c_Schema_hasRequiredFrom (k := nI gi) (st := st1) l g h19 (hS.k kk19 (by omega) (by omega) (by omega)) (by omega)) (z_in k_605 rfl) (z_in k_4 rfl) (z_in k_602 rfl) (z_in k_603 rfl) (z_in k_604 rfl) (by decide +kernel) ⟨by first | exact Nat.le_of_ble_eq_true rfl | (dsimp only; omega) | omega, by first | exact Nat.le_of_ble_eq_true rfl | (dsimp only; omega) | omega⟩ hK hE hw hA rfl hq7 rfl hl.1 (Nat.le_of_ble_eq_true rfl) d_RecordReader_readMembers_172 ⟨by first | exact Nat.le_of_ble_eq_true rfl | (dsimp only; omega) | omega, by first | exact Nat.le_of_ble_eq_true rfl | (dsimp only; omega) | omega⟩ rfl (fun r9 h9 H locs hp hw => ?_)
                  obtain ⟨r8, h8⟩ := hp
                  subst r8
                  subst h8
                  refine W.eq (g2 := F0 m 175 ls [.int (zb (hrq S (nI gi) st1))]) rfl ?_
                  refine lv_if_eq (tgt := 186) hx hb d_RecordReader_readMembers_175 (by decide) (fun c_175 => ?_) (fun c_175 => ?_)
                  · -- 175: True
                    have c_175 : (hrq S (nI gi) st1) = false := zb_f c_175
                    refine lv_aload_n hx hb d_RecordReader_readMembers_186 rfl (lv_at hl 0 rfl) ?_
                    refine z_get hx hb hts (z_lay i_RecordReader) hown hK hw f19_rd rfl 0 (by decide) (z_in k_502 rfl) (fun _ h9 => h9) rfl d_RecordReader_readMembers_187 ?_
                    refine lv_bipush (v := 125) hx hb d_RecordReader_readMembers_190 (by decide) ?_
                    refine z_callV (n := 1) (As := [.int 125]) (rest := []) ⟨hx, hb, hml, hown, hts⟩ (c_Scanner_takeSign (t := t) l g h19 f19_sc f19_b hn hlen hf (by omega)) (z_in k_456 rfl) (z_in k_8 rfl) (z_in k_523 rfl) (z_in k_454 rfl) (z_in k_455 rfl) (by decide +kernel) ⟨by first | exact Nat.le_of_ble_eq_true rfl | (dsimp only; omega) | omega, by first | exact Nat.le_of_ble_eq_true rfl | (dsimp only; omega) | omega⟩ hK hE hw hA rfl f19_sc rfl hl.1 (Nat.le_of_ble_eq_true rfl) d_RecordReader_readMembers_192 ⟨by first | exact Nat.le_of_ble_eq_true rfl | (dsimp only; omega) | omega, by first | exact Nat.le_of_ble_eq_true rfl | (dsimp only; omega) | omega⟩ rfl (fun r9 h9 H locs hp hw => ?_)
                    unfold tSg at hp
                    rw [sk_sk, if_pos c_162] at hp
                    obtain ⟨r8, hh21⟩ := hp
                    subst r8
                    obtain ⟨h21, e6⟩ : ∃ x9, x9 = h9 := ⟨_, rfl⟩
                    subst e6
                    have f21_rd : h21 rd = some ((8, 0), .inr (9, [.ref sc, .ref q, .ref w, .ref tr, .long nu1])) := by rw [← hh21]; exact z_keep f19_sc f19_rd (z_t1 (by decide))
                    have f21_sc : h21 sc = some ((6, 0), .inr (7, [.ref b, .int (nI n), .int (nI (sk t n p1 + 1)), .int fa1, .int ws1, .int wd1])) := by rw [← hh21]; exact z_put_eq
                    have f21_b : h21 b = some ((3, 0), .inl (g.2.1 0, len, .inl f)) := by rw [← hh21]; exact z_keep f19_sc f19_b (z_t1 (by decide))
                    have k621 : z_K (fun y => y = 6) hL h21 := k619.tr (by rw [← hh21]; exact z_K.put f19_sc rfl)
                    have kk21 : z_K (fun y => y = 6 ∨ y = 8 ∨ y = 10 ∨ y = mr ∨ y = mr + 1) h h21 := kk19.tr (by rw [← hh21]; exact z_K.put f19_sc (by first | decide | simp | omega))
                    have lt125 := bt_lt c_162
                    refine W.eq (g2 := F0 m 195 ls [.int 1]) rfl ?_
                    have eW : memR FR S t n (nI gi) (gi + 1) p R = .inr (sk t n p1 + 1, R1) := by rw [← hR1, show 129 - k1 = 0 by omega]; simp only [memL, ite_self]; unfold memE; rw [if_neg (fun z => by rw [c_175] at z; exact absurd z.2 (by decide))]; unfold sgnR; rw [if_pos c_162]
                    have eZ1 : (rrR (memR FR S t n (nI gi) (gi + 1) p R)).1 = R1.1 := by rw [eW]; rfl
                    have eZ2 : tbR (rrR (memR FR S t n (nI gi) (gi + 1) p R)) = tbR R1 := by rw [eW]; rfl
                    exact z_zret hx hb hr rfl hlocks hw (by rw [eW]; exact ⟨kk21, ⟨_, f21_rd⟩, (tA1.k k621 (by omega)), (nA1.k k621 (by omega) (by omega) (by omega)), pA1, rfl, ⟨_, _, _, f21_sc⟩, by dsimp only; omega, by dsimp only; omega, by dsimp only; omega⟩) (by first | exact Nat.le_of_ble_eq_true rfl | (dsimp only; omega) | omega) (by first | exact Nat.le_of_ble_eq_true rfl | (dsimp only; omega) | omega) d_RecordReader_readMembers_195
                  · -- 175: False
                    have c_175 : (hrq S (nI gi) st1) = true := zb_t c_175
                    refine lv_aload_n hx hb d_RecordReader_readMembers_178 rfl (lv_at hl 0 rfl) ?_
                    refine z_get hx hb hts (z_lay i_RecordReader) hown hK hw f19_rd rfl 0 (by decide) (z_in k_502 rfl) (fun _ h9 => h9) rfl d_RecordReader_readMembers_179 ?_
                    refine z_callV (n := 0) (As := []) (rest := []) ⟨hx, hb, hml, hown, hts⟩ (c_Scanner_failHere l g h19 f19_sc) (z_in k_258 rfl) (z_in k_8 rfl) (z_in k_522 rfl) (z_in k_256 rfl) (z_in k_257 rfl) (by decide +kernel) ⟨by first | exact Nat.le_of_ble_eq_true rfl | (dsimp only; omega) | omega, by first | exact Nat.le_of_ble_eq_true rfl | (dsimp only; omega) | omega⟩ hK hE hw hA rfl f19_sc rfl hl.1 (Nat.le_of_ble_eq_true rfl) d_RecordReader_readMembers_182 ⟨by first | exact Nat.le_of_ble_eq_true rfl | (dsimp only; omega) | omega, by first | exact Nat.le_of_ble_eq_true rfl | (dsimp only; omega) | omega⟩ rfl (fun r9 h9 H locs hp hw => ?_)
                    obtain ⟨r8, hh22⟩ := hp
                    subst r8
                    obtain ⟨h22, e8⟩ : ∃ x9, x9 = h9 := ⟨_, rfl⟩
                    subst e8
                    have f22_rd : h22 rd = some ((8, 0), .inr (9, [.ref sc, .ref q, .ref w, .ref tr, .long nu1])) := by rw [← hh22]; exact z_keep f19_sc f19_rd (z_t1 (by decide))
                    have f22_sc : h22 sc = some ((6, 0), .inr (7, [.ref b, .int (nI n), .int (nI (sk t n p1)), .int (nI (sk t n p1)), .int ws1, .int wd1])) := by rw [← hh22]; exact z_put_eq
                    have f22_b : h22 b = some ((3, 0), .inl (g.2.1 0, len, .inl f)) := by rw [← hh22]; exact z_keep f19_sc f19_b (z_t1 (by decide))
                    have f22_q : h22 q = some ((r, 0), .inr (3, [.ref fa9, .ref ca, .int (nI S.1), .int (nI (cc S)), .int (nI (rq S (-1)))])) := by rw [← hh22]; exact z_keep f19_sc hq7 (by first | decide | (refine z_t1 ?_; omega) | (refine z_t2 ?_; omega))
                    have k622 : z_K (fun y => y = 6) hL h22 := k619.tr (by rw [← hh22]; exact z_K.put f19_sc rfl)
                    have kk22 : z_K (fun y => y = 6 ∨ y = 8 ∨ y = 10 ∨ y = mr ∨ y = mr + 1) h h22 := kk19.tr (by rw [← hh22]; exact z_K.put f19_sc (by first | decide | simp | omega))
                    refine W.eq (g2 := F0 m 185 ls [.int 0]) rfl ?_
                    have eW : memR FR S t n (nI gi) (gi + 1) p R = .inl (sk t n p1, R1) := by rw [← hR1, show 129 - k1 = 0 by omega]; simp only [memL, ite_self]; unfold memE; rw [if_pos ⟨c_162, c_175⟩]
                    have eZ1 : (rrR (memR FR S t n (nI gi) (gi + 1) p R)).1 = R1.1 := by rw [eW]; rfl
                    have eZ2 : tbR (rrR (memR FR S t n (nI gi) (gi + 1) p R)) = tbR R1 := by rw [eW]; rfl
                    exact z_zret hx hb hr rfl hlocks hw (by rw [eW]; exact ⟨kk22, ⟨_, f22_rd⟩, (tA1.k k622 (by omega)), (nA1.k k622 (by omega) (by omega) (by omega)), pA1, rfl, ⟨_, _, _, _, f22_sc, rfl⟩⟩) (by first | exact Nat.le_of_ble_eq_true rfl | (dsimp only; omega) | omega) (by first | exact Nat.le_of_ble_eq_true rfl | (dsimp only; omega) | omega) d_RecordReader_readMembers_185
              · -- 60: False
                have c_60 : ¬ (128 < k1) := fun z => c_60 ((nI_ltI (a := 128) (b := k1) (by omega) (by omega)).mpr z)
                refine lv_iload hx hb d_RecordReader_readMembers_63 (lv_at hl 5 rfl) ?_
                refine lv_if_eq (tgt := 153) hx hb d_RecordReader_readMembers_65 (by decide) (fun c_65 => ?_) (fun c_65 => ?_)
                · -- 65: True
                  have c_65 : m1 = false := zb_f c_65
                  refine lv_aload_n hx hb d_RecordReader_readMembers_153 rfl (lv_at hl 0 rfl) ?_
                  refine z_get hx hb hts (z_lay i_RecordReader) hown hK hw L55_rd rfl 0 (by decide) (z_in k_502 rfl) (fun _ h9 => h9) rfl d_RecordReader_readMembers_154 ?_
                  refine z_callV (n := 0) (As := []) (rest := []) ⟨hx, hb, hml, hown, hts⟩ (c_Scanner_next l g hL L55_sc L55_b hn hlen hf (by omega)) (z_in k_234 rfl) (z_in k_8 rfl) (z_in k_524 rfl) (z_in k_232 rfl) (z_in k_233 rfl) (by decide +kernel) ⟨by first | exact Nat.le_of_ble_eq_true rfl | (dsimp only; omega) | omega, by first | exact Nat.le_of_ble_eq_true rfl | (dsimp only; omega) | omega⟩ hK hE hw hA rfl L55_sc rfl hl.1 (Nat.le_of_ble_eq_true rfl) d_RecordReader_readMembers_157 ⟨by first | exact Nat.le_of_ble_eq_true rfl | (dsimp only; omega) | omega, by first | exact Nat.le_of_ble_eq_true rfl | (dsimp only; omega) | omega⟩ rfl (fun r9 h9 H locs hp hw => ?_)
                  obtain ⟨r8, hh23⟩ := hp
                  subst r8
                  obtain ⟨h23, e8⟩ : ∃ x9, x9 = h9 := ⟨_, rfl⟩
                  subst e8
                  have f23_rd : h23 rd = some ((8, 0), .inr (9, [.ref sc, .ref q, .ref w, .ref tr, .long nu1])) := by rw [← hh23]; exact z_keep L55_sc L55_rd (z_t1 (by decide))
                  have f23_sc : h23 sc = some ((6, 0), .inr (7, [.ref b, .int (nI n), .int (nI (sk t n p1)), .int fa1, .int ws1, .int wd1])) := by rw [← hh23]; exact z_put_eq
                  have f23_b : h23 b = some ((3, 0), .inl (g.2.1 0, len, .inl f)) := by rw [← hh23]; exact z_keep L55_sc L55_b (z_t1 (by decide))
                  have k623 : z_K (fun y => y = 6) hL h23 := k6L.tr (by rw [← hh23]; exact z_K.put L55_sc rfl)
                  have kk23 : z_K (fun y => y = 6 ∨ y = 8 ∨ y = 10 ∨ y = mr ∨ y = mr + 1) h h23 := kkL.tr (by rw [← hh23]; exact z_K.put L55_sc (by first | decide | simp | omega))
                  refine W.eq (g2 := F0 m 160 ls [.int (bt t n (sk t n p1))]) rfl ?_
                  refine lv_bipush (v := 125) hx hb d_RecordReader_readMembers_160 (by decide) ?_
                  refine lv_icmp_ne (tgt := 186) hx hb d_RecordReader_readMembers_162 (by decide) (fun c_162 => ?_) (fun c_162 => ?_)
                  · -- 162: True
                    refine lv_aload_n hx hb d_RecordReader_readMembers_186 rfl (lv_at hl 0 rfl) ?_
                    refine z_get hx hb hts (z_lay i_RecordReader) hown hK hw f23_rd rfl 0 (by decide) (z_in k_502 rfl) (fun _ h9 => h9) rfl d_RecordReader_readMembers_187 ?_
                    refine lv_bipush (v := 125) hx hb d_RecordReader_readMembers_190 (by decide) ?_
                    refine z_callV (n := 1) (As := [.int 125]) (rest := []) ⟨hx, hb, hml, hown, hts⟩ (c_Scanner_takeSign (t := t) l g h23 f23_sc f23_b hn hlen hf (by omega)) (z_in k_456 rfl) (z_in k_8 rfl) (z_in k_523 rfl) (z_in k_454 rfl) (z_in k_455 rfl) (by decide +kernel) ⟨by first | exact Nat.le_of_ble_eq_true rfl | (dsimp only; omega) | omega, by first | exact Nat.le_of_ble_eq_true rfl | (dsimp only; omega) | omega⟩ hK hE hw hA rfl f23_sc rfl hl.1 (Nat.le_of_ble_eq_true rfl) d_RecordReader_readMembers_192 ⟨by first | exact Nat.le_of_ble_eq_true rfl | (dsimp only; omega) | omega, by first | exact Nat.le_of_ble_eq_true rfl | (dsimp only; omega) | omega⟩ rfl (fun r9 h9 H locs hp hw => ?_)
                    unfold tSg at hp
                    rw [sk_sk, if_neg c_162] at hp
                    obtain ⟨r8, hh24⟩ := hp
                    subst r8
                    obtain ⟨h24, e6⟩ : ∃ x9, x9 = h9 := ⟨_, rfl⟩
                    subst e6
                    have f24_rd : h24 rd = some ((8, 0), .inr (9, [.ref sc, .ref q, .ref w, .ref tr, .long nu1])) := by rw [← hh24]; exact z_keep f23_sc f23_rd (z_t1 (by decide))
                    have f24_sc : h24 sc = some ((6, 0), .inr (7, [.ref b, .int (nI n), .int (nI (sk t n p1)), .int (nI (sk t n p1)), .int ws1, .int wd1])) := by rw [← hh24]; exact z_put_eq
                    have f24_b : h24 b = some ((3, 0), .inl (g.2.1 0, len, .inl f)) := by rw [← hh24]; exact z_keep f23_sc f23_b (z_t1 (by decide))
                    have k624 : z_K (fun y => y = 6) hL h24 := k623.tr (by rw [← hh24]; exact z_K.put f23_sc rfl)
                    have kk24 : z_K (fun y => y = 6 ∨ y = 8 ∨ y = 10 ∨ y = mr ∨ y = mr + 1) h h24 := kk23.tr (by rw [← hh24]; exact z_K.put f23_sc (by first | decide | simp | omega))
                    refine W.eq (g2 := F0 m 195 ls [.int 0]) rfl ?_
                    have eW : memR FR S t n (nI gi) (gi + 1) p R = .inl (sk t n p1, R1) := by rw [← hR1, if_neg (by rw [c_65]; decide)]; unfold memE; rw [if_neg (fun z => c_162 z.1)]; unfold sgnR; rw [if_neg c_162]
                    have eZ1 : (rrR (memR FR S t n (nI gi) (gi + 1) p R)).1 = R1.1 := by rw [eW]; rfl
                    have eZ2 : tbR (rrR (memR FR S t n (nI gi) (gi + 1) p R)) = tbR R1 := by rw [eW]; rfl
                    exact z_zret hx hb hr rfl hlocks hw (by rw [eW]; exact ⟨kk24, ⟨_, f24_rd⟩, (tA1.k k624 (by omega)), (nA1.k k624 (by omega) (by omega) (by omega)), pA1, rfl, ⟨_, _, _, _, f24_sc, rfl⟩⟩) (by first | exact Nat.le_of_ble_eq_true rfl | (dsimp only; omega) | omega) (by first | exact Nat.le_of_ble_eq_true rfl | (dsimp only; omega) | omega) d_RecordReader_readMembers_195
                  · -- 162: False
                    have hq7 := (hS.k kk23 (by omega) (by omega) (by omega)).1
                    refine lv_aload_n hx hb d_RecordReader_readMembers_165 rfl (lv_at hl 0 rfl) ?_
                    refine z_get hx hb hts (z_lay i_RecordReader) hown hK hw f23_rd rfl 1 (by decide) (z_in k_503 rfl) (fun _ h9 => h9) rfl d_RecordReader_readMembers_166 ?_
                    refine lv_iload hx hb d_RecordReader_readMembers_169 (lv_at hl 4 rfl) ?_
                    refine lv_iload_n hx hb d_RecordReader_readMembers_171 rfl (lv_at hl 1 rfl) ?_
                    refine z_callV (n := 2) (As := [.int (nI st1), .int (nI gi)]) (rest := []) ⟨hx, hb, hml, hown, hts⟩ (c_Schema_hasRequiredFrom (k := nI gi) (st := st1) l g h23 (hS.k kk23 (by omega) (by omega) (by omega)) (by omega)) (z_in k_605 rfl) (z_in k_4 rfl) (z_in k_602 rfl) (z_in k_603 rfl) (z_in k_604 rfl) (by decide +kernel) ⟨by first | exact Nat.le_of_ble_eq_true rfl | (dsimp only; omega) | omega, by first | exact Nat.le_of_ble_eq_true rfl | (dsimp only; omega) | omega⟩ hK hE hw hA rfl hq7 rfl hl.1 (Nat.le_of_ble_eq_true rfl) d_RecordReader_readMembers_172 ⟨by first | exact Nat.le_of_ble_eq_true rfl | (dsimp only; omega) | omega, by first | exact Nat.le_of_ble_eq_true rfl | (dsimp only; omega) | omega⟩ rfl (fun r9 h9 H locs hp hw => ?_)
                    obtain ⟨r8, h8⟩ := hp
                    subst r8
                    subst h8
                    refine W.eq (g2 := F0 m 175 ls [.int (zb (hrq S (nI gi) st1))]) rfl ?_
                    refine lv_if_eq (tgt := 186) hx hb d_RecordReader_readMembers_175 (by decide) (fun c_175 => ?_) (fun c_175 => ?_)
                    · -- 175: True
                      have c_175 : (hrq S (nI gi) st1) = false := zb_f c_175
                      refine lv_aload_n hx hb d_RecordReader_readMembers_186 rfl (lv_at hl 0 rfl) ?_
                      refine z_get hx hb hts (z_lay i_RecordReader) hown hK hw f23_rd rfl 0 (by decide) (z_in k_502 rfl) (fun _ h9 => h9) rfl d_RecordReader_readMembers_187 ?_
                      refine lv_bipush (v := 125) hx hb d_RecordReader_readMembers_190 (by decide) ?_
                      refine z_callV (n := 1) (As := [.int 125]) (rest := []) ⟨hx, hb, hml, hown, hts⟩ (c_Scanner_takeSign (t := t) l g h23 f23_sc f23_b hn hlen hf (by omega)) (z_in k_456 rfl) (z_in k_8 rfl) (z_in k_523 rfl) (z_in k_454 rfl) (z_in k_455 rfl) (by decide +kernel) ⟨by first | exact Nat.le_of_ble_eq_true rfl | (dsimp only; omega) | omega, by first | exact Nat.le_of_ble_eq_true rfl | (dsimp only; omega) | omega⟩ hK hE hw hA rfl f23_sc rfl hl.1 (Nat.le_of_ble_eq_true rfl) d_RecordReader_readMembers_192 ⟨by first | exact Nat.le_of_ble_eq_true rfl | (dsimp only; omega) | omega, by first | exact Nat.le_of_ble_eq_true rfl | (dsimp only; omega) | omega⟩ rfl (fun r9 h9 H locs hp hw => ?_)
                      unfold tSg at hp
                      rw [sk_sk, if_pos c_162] at hp
                      obtain ⟨r8, hh25⟩ := hp
                      subst r8
                      obtain ⟨h25, e6⟩ : ∃ x9, x9 = h9 := ⟨_, rfl⟩
                      subst e6
                      have f25_rd : h25 rd = some ((8, 0), .inr (9, [.ref sc, .ref q, .ref w, .ref tr, .long nu1])) := by rw [← hh25]; exact z_keep f23_sc f23_rd (z_t1 (by decide))
                      have f25_sc : h25 sc = some ((6, 0), .inr (7, [.ref b, .int (nI n), .int (nI (sk t n p1 + 1)), .int fa1, .int ws1, .int wd1])) := by rw [← hh25]; exact z_put_eq
                      have f25_b : h25 b = some ((3, 0), .inl (g.2.1 0, len, .inl f)) := by rw [← hh25]; exact z_keep f23_sc f23_b (z_t1 (by decide))
                      have k625 : z_K (fun y => y = 6) hL h25 := k623.tr (by rw [← hh25]; exact z_K.put f23_sc rfl)
                      have kk25 : z_K (fun y => y = 6 ∨ y = 8 ∨ y = 10 ∨ y = mr ∨ y = mr + 1) h h25 := kk23.tr (by rw [← hh25]; exact z_K.put f23_sc (by first | decide | simp | omega))
                      have lt125 := bt_lt c_162
                      refine W.eq (g2 := F0 m 195 ls [.int 1]) rfl ?_
                      have eW : memR FR S t n (nI gi) (gi + 1) p R = .inr (sk t n p1 + 1, R1) := by rw [← hR1, if_neg (by rw [c_65]; decide)]; unfold memE; rw [if_neg (fun z => by rw [c_175] at z; exact absurd z.2 (by decide))]; unfold sgnR; rw [if_pos c_162]
                      have eZ1 : (rrR (memR FR S t n (nI gi) (gi + 1) p R)).1 = R1.1 := by rw [eW]; rfl
                      have eZ2 : tbR (rrR (memR FR S t n (nI gi) (gi + 1) p R)) = tbR R1 := by rw [eW]; rfl
                      exact z_zret hx hb hr rfl hlocks hw (by rw [eW]; exact ⟨kk25, ⟨_, f25_rd⟩, (tA1.k k625 (by omega)), (nA1.k k625 (by omega) (by omega) (by omega)), pA1, rfl, ⟨_, _, _, f25_sc⟩, by dsimp only; omega, by dsimp only; omega, by dsimp only; omega⟩) (by first | exact Nat.le_of_ble_eq_true rfl | (dsimp only; omega) | omega) (by first | exact Nat.le_of_ble_eq_true rfl | (dsimp only; omega) | omega) d_RecordReader_readMembers_195
                    · -- 175: False
                      have c_175 : (hrq S (nI gi) st1) = true := zb_t c_175
                      refine lv_aload_n hx hb d_RecordReader_readMembers_178 rfl (lv_at hl 0 rfl) ?_
                      refine z_get hx hb hts (z_lay i_RecordReader) hown hK hw f23_rd rfl 0 (by decide) (z_in k_502 rfl) (fun _ h9 => h9) rfl d_RecordReader_readMembers_179 ?_
                      refine z_callV (n := 0) (As := []) (rest := []) ⟨hx, hb, hml, hown, hts⟩ (c_Scanner_failHere l g h23 f23_sc) (z_in k_258 rfl) (z_in k_8 rfl) (z_in k_522 rfl) (z_in k_256 rfl) (z_in k_257 rfl) (by decide +kernel) ⟨by first | exact Nat.le_of_ble_eq_true rfl | (dsimp only; omega) | omega, by first | exact Nat.le_of_ble_eq_true rfl | (dsimp only; omega) | omega⟩ hK hE hw hA rfl f23_sc rfl hl.1 (Nat.le_of_ble_eq_true rfl) d_RecordReader_readMembers_182 ⟨by first | exact Nat.le_of_ble_eq_true rfl | (dsimp only; omega) | omega, by first | exact Nat.le_of_ble_eq_true rfl | (dsimp only; omega) | omega⟩ rfl (fun r9 h9 H locs hp hw => ?_)
                      obtain ⟨r8, hh26⟩ := hp
                      subst r8
                      obtain ⟨h26, e8⟩ : ∃ x9, x9 = h9 := ⟨_, rfl⟩
                      subst e8
                      have f26_rd : h26 rd = some ((8, 0), .inr (9, [.ref sc, .ref q, .ref w, .ref tr, .long nu1])) := by rw [← hh26]; exact z_keep f23_sc f23_rd (z_t1 (by decide))
                      have f26_sc : h26 sc = some ((6, 0), .inr (7, [.ref b, .int (nI n), .int (nI (sk t n p1)), .int (nI (sk t n p1)), .int ws1, .int wd1])) := by rw [← hh26]; exact z_put_eq
                      have f26_b : h26 b = some ((3, 0), .inl (g.2.1 0, len, .inl f)) := by rw [← hh26]; exact z_keep f23_sc f23_b (z_t1 (by decide))
                      have f26_q : h26 q = some ((r, 0), .inr (3, [.ref fa9, .ref ca, .int (nI S.1), .int (nI (cc S)), .int (nI (rq S (-1)))])) := by rw [← hh26]; exact z_keep f23_sc hq7 (by first | decide | (refine z_t1 ?_; omega) | (refine z_t2 ?_; omega))
                      have k626 : z_K (fun y => y = 6) hL h26 := k623.tr (by rw [← hh26]; exact z_K.put f23_sc rfl)
                      have kk26 : z_K (fun y => y = 6 ∨ y = 8 ∨ y = 10 ∨ y = mr ∨ y = mr + 1) h h26 := kk23.tr (by rw [← hh26]; exact z_K.put f23_sc (by first | decide | simp | omega))
                      refine W.eq (g2 := F0 m 185 ls [.int 0]) rfl ?_
                      have eW : memR FR S t n (nI gi) (gi + 1) p R = .inl (sk t n p1, R1) := by rw [← hR1, if_neg (by rw [c_65]; decide)]; unfold memE; rw [if_pos ⟨c_162, c_175⟩]
                      have eZ1 : (rrR (memR FR S t n (nI gi) (gi + 1) p R)).1 = R1.1 := by rw [eW]; rfl
                      have eZ2 : tbR (rrR (memR FR S t n (nI gi) (gi + 1) p R)) = tbR R1 := by rw [eW]; rfl
                      exact z_zret hx hb hr rfl hlocks hw (by rw [eW]; exact ⟨kk26, ⟨_, f26_rd⟩, (tA1.k k626 (by omega)), (nA1.k k626 (by omega) (by omega) (by omega)), pA1, rfl, ⟨_, _, _, _, f26_sc, rfl⟩⟩) (by first | exact Nat.le_of_ble_eq_true rfl | (dsimp only; omega) | omega) (by first | exact Nat.le_of_ble_eq_true rfl | (dsimp only; omega) | omega) d_RecordReader_readMembers_185
                · -- 65: False
                  have c_65 : m1 = true := zb_t c_65
                  refine lv_aload_n hx hb d_RecordReader_readMembers_68 rfl (lv_at hl 0 rfl) ?_
                  refine lv_iload_n hx hb d_RecordReader_readMembers_69 rfl (lv_at hl 1 rfl) ?_
                  refine lv_iload hx hb d_RecordReader_readMembers_70 (lv_at hl 4 rfl) ?_
                  refine z_callV (n := 2) (As := [.int (nI gi), .int (nI st1)]) (rest := []) ⟨hx, hb, hml, hown, hts⟩ (c_readName (t := t) (st := st1) l g hL L55_rd L55_sc L55_b (hS.k kkL (by omega) (by omega) (by omega)) hn hlen hf (by omega) hr0 (by omega)) (z_in k_528 rfl) (z_in k_18 rfl) (z_in k_525 rfl) (z_in k_527 rfl) (z_in ks_6 rfl) (by decide +kernel) ⟨by first | exact Nat.le_of_ble_eq_true rfl | (dsimp only; omega) | omega, by first | exact Nat.le_of_ble_eq_true rfl | (dsimp only; omega) | omega⟩ hK hE hw hA rfl L55_rd rfl hl.1 (Nat.le_of_ble_eq_true rfl) d_RecordReader_readMembers_72 ⟨by first | exact Nat.le_of_ble_eq_true rfl | (dsimp only; omega) | omega, by first | exact Nat.le_of_ble_eq_true rfl | (dsimp only; omega) | omega⟩ rfl (fun r9 h9 H locs hp hw => ?_)
                  rcases hN8 : namR S t n (nI gi) st1 p1 with F7 | ⟨fi8, p7⟩
                  · -- name False
                    rw [hN8] at hp
                    obtain ⟨r8, x27, y27, z27, hh27⟩ := hp
                    subst r8
                    obtain ⟨h27, e6⟩ : ∃ x9, x9 = h9 := ⟨_, rfl⟩
                    subst e6
                    have f27_rd : h27 rd = some ((8, 0), .inr (9, [.ref sc, .ref q, .ref w, .ref tr, .long nu1])) := by rw [← hh27]; exact z_keep L55_sc L55_rd (z_t1 (by decide))
                    have f27_sc : h27 sc = some ((6, 0), .inr (7, [.ref b, .int (nI n), .int (nI x27), .int (nI F7), .int y27, .int z27])) := by rw [← hh27]; exact z_put_eq
                    have f27_b : h27 b = some ((3, 0), .inl (g.2.1 0, len, .inl f)) := by rw [← hh27]; exact z_keep L55_sc L55_b (z_t1 (by decide))
                    have k627 : z_K (fun y => y = 6) hL h27 := k6L.tr (by rw [← hh27]; exact z_K.put L55_sc rfl)
                    have kk27 : z_K (fun y => y = 6 ∨ y = 8 ∨ y = 10 ∨ y = mr ∨ y = mr + 1) h h27 := kkL.tr (by rw [← hh27]; exact z_K.put L55_sc (by first | decide | simp | omega))
                    refine W.eq (g2 := F0 m 75 ls [.null]) rfl ?_
                    refine lv_astoreN (lv' := [(7, .null), (0, .ref rd), (1, .int (nI gi)), (2, .int (nI pi)), (3, .int (nI d)), (4, .int (nI st1)), (5, .int (zb m1)), (6, .int (nI k1))]) hx hb d_RecordReader_readMembers_75 hl (by decide) rfl (fun ls hl => ?_)
                    refine lv_aloadN hx hb d_RecordReader_readMembers_77 (lv_at hl 0 rfl) ?_
                    refine lv_ifnullN (tgt := 105) hx hb d_RecordReader_readMembers_79 (by decide) ?_
                    refine lv_iconst (v := 0) hx hb d_RecordReader_readMembers_105 (by decide) ?_
                    have eW : memR FR S t n (nI gi) (gi + 1) p R = .inl (F7, R1) := by rw [← hR1, if_pos c_65, show 129 - k1 = (129 - (k1 + 1)) + 1 by omega]; simp only [memL]; rw [hN8]
                    have eZ1 : (rrR (memR FR S t n (nI gi) (gi + 1) p R)).1 = R1.1 := by rw [eW]; rfl
                    have eZ2 : tbR (rrR (memR FR S t n (nI gi) (gi + 1) p R)) = tbR R1 := by rw [eW]; rfl
                    exact z_zret hx hb hr rfl hlocks hw (by rw [eW]; exact ⟨kk27, ⟨_, f27_rd⟩, (tA1.k k627 (by omega)), (nA1.k k627 (by omega) (by omega) (by omega)), pA1, rfl, ⟨_, _, _, _, f27_sc, rfl⟩⟩) (by first | exact Nat.le_of_ble_eq_true rfl | (dsimp only; omega) | omega) (by first | exact Nat.le_of_ble_eq_true rfl | (dsimp only; omega) | omega) d_RecordReader_readMembers_106
                  · -- name True
                    rw [hN8] at hp
                    obtain ⟨r8, x28, y28, z28, hh28⟩ := hp
                    subst r8
                    obtain ⟨h28, e6⟩ : ∃ x9, x9 = h9 := ⟨_, rfl⟩
                    subst e6
                    have f28_rd : h28 rd = some ((8, 0), .inr (9, [.ref sc, .ref q, .ref w, .ref tr, .long nu1])) := by rw [← hh28]; exact z_keep L55_sc L55_rd (z_t1 (by decide))
                    have f28_sc : h28 sc = some ((6, 0), .inr (7, [.ref b, .int (nI n), .int (nI p7), .int x28, .int y28, .int z28])) := by rw [← hh28]; exact z_put_eq
                    have f28_b : h28 b = some ((3, 0), .inl (g.2.1 0, len, .inl f)) := by rw [← hh28]; exact z_keep L55_sc L55_b (z_t1 (by decide))
                    have k628 : z_K (fun y => y = 6) hL h28 := k6L.tr (by rw [← hh28]; exact z_K.put L55_sc rfl)
                    have kk28 : z_K (fun y => y = 6 ∨ y = 8 ∨ y = 10 ∨ y = mr ∨ y = mr + 1) h h28 := kkL.tr (by rw [← hh28]; exact z_K.put L55_sc (by first | decide | simp | omega))
                    obtain ⟨hfi8, hst8, hgr8, le7, ge7⟩ := namR_ok (fun k hk => (hf k hk).1) (by omega) hs8 hN8
                    dsimp only at hfi8 hst8 hgr8 le7 ge7
                    have skr := sk_le (t := t) le7
                    have skr2 := sk_ge t n p7
                    refine W.eq (g2 := F0 m 75 ls [.ref (adS fi8)]) rfl ?_
                    refine lv_astore (lv' := [(7, .ref (adS fi8)), (0, .ref rd), (1, .int (nI gi)), (2, .int (nI pi)), (3, .int (nI d)), (4, .int (nI st1)), (5, .int (zb m1)), (6, .int (nI k1))]) hx hb d_RecordReader_readMembers_75 hl (by decide) rfl (fun ls hl => ?_)
                    refine lv_aload hx hb d_RecordReader_readMembers_77 (lv_at hl 0 rfl) ?_
                    refine lv_ifnull hx hb d_RecordReader_readMembers_79 ?_
                    refine lv_aload_n hx hb d_RecordReader_readMembers_82 rfl (lv_at hl 1 rfl) ?_
                    refine z_get hx hb hts (z_lay i_RecordReader) hown hK hw f28_rd rfl 0 (by decide) (z_in k_502 rfl) (fun _ h9 => h9) rfl d_RecordReader_readMembers_83 ?_
                    refine lv_bipush (v := 58) hx hb d_RecordReader_readMembers_86 (by decide) ?_
                    refine z_callV (n := 1) (As := [.int 58]) (rest := []) ⟨hx, hb, hml, hown, hts⟩ (c_Scanner_takeSign (t := t) l g h28 f28_sc f28_b hn hlen hf (by omega)) (z_in k_456 rfl) (z_in k_8 rfl) (z_in k_523 rfl) (z_in k_454 rfl) (z_in k_455 rfl) (by decide +kernel) ⟨by first | exact Nat.le_of_ble_eq_true rfl | (dsimp only; omega) | omega, by first | exact Nat.le_of_ble_eq_true rfl | (dsimp only; omega) | omega⟩ hK hE hw hA rfl f28_sc rfl hl.1 (Nat.le_of_ble_eq_true rfl) d_RecordReader_readMembers_88 ⟨by first | exact Nat.le_of_ble_eq_true rfl | (dsimp only; omega) | omega, by first | exact Nat.le_of_ble_eq_true rfl | (dsimp only; omega) | omega⟩ rfl (fun r9 h9 H locs hp hw => ?_)
                    unfold tSg at hp
                    by_cases tsc : bt t n (sk t n p7) = 58
                    · -- tsc True
                      rw [if_pos tsc] at hp
                      obtain ⟨r8, hh29⟩ := hp
                      subst r8
                      obtain ⟨h29, e8⟩ : ∃ x9, x9 = h9 := ⟨_, rfl⟩
                      subst e8
                      have f29_rd : h29 rd = some ((8, 0), .inr (9, [.ref sc, .ref q, .ref w, .ref tr, .long nu1])) := by rw [← hh29]; exact z_keep f28_sc f28_rd (z_t1 (by decide))
                      have f29_sc : h29 sc = some ((6, 0), .inr (7, [.ref b, .int (nI n), .int (nI (sk t n p7 + 1)), .int x28, .int y28, .int z28])) := by rw [← hh29]; exact z_put_eq
                      have f29_b : h29 b = some ((3, 0), .inl (g.2.1 0, len, .inl f)) := by rw [← hh29]; exact z_keep f28_sc f28_b (z_t1 (by decide))
                      have k629 : z_K (fun y => y = 6) hL h29 := k628.tr (by rw [← hh29]; exact z_K.put f28_sc rfl)
                      have kk29 : z_K (fun y => y = 6 ∨ y = 8 ∨ y = 10 ∨ y = mr ∨ y = mr + 1) h h29 := kk28.tr (by rw [← hh29]; exact z_K.put f28_sc (by first | decide | simp | omega))
                      refine W.eq (g2 := F0 m 91 ls [.int 1]) rfl ?_
                      refine lv_if_eq (tgt := 105) hx hb d_RecordReader_readMembers_91 (by decide) (fun c_91 => ?_) (fun c_91 => ?_)
                      · -- 91: True
                        exact absurd c_91 (by decide)
                      · -- 91: False
                        have lt58 := bt_lt tsc
                        have hM0 : rmono (rrR (FR fi8 (sk t n p7 + 1) R1)) (memR FR S t n (nI gi) (gi + 1) p R) := by rw [← hR1, if_pos c_65, show 129 - k1 = (129 - (k1 + 1)) + 1 by omega]; exact memL_mid hFo _ _ _ _ hN8 tsc
                        have hM1 : (rrR (FR fi8 (sk t n p7 + 1) R1)).1 ≤ (rrR (memR FR S t n (nI gi) (gi + 1) p R)).1 := hM0.1
                        have hM2 : tbR (rrR (FR fi8 (sk t n p7 + 1) R1)) ≤ tbR (rrR (memR FR S t n (nI gi) (gi + 1) p R)) := hM0.2
                        have hM3 : R1.1 ≤ (rrR (FR fi8 (sk t n p7 + 1) R1)).1 := (hFo fi8 (sk t n p7 + 1) R1).1
                        have hM4 : tbR R1 ≤ tbR (rrR (FR fi8 (sk t n p7 + 1) R1)) := (hFo fi8 (sk t n p7 + 1) R1).2
                        refine lv_aload_n hx hb d_RecordReader_readMembers_94 rfl (lv_at hl 1 rfl) ?_
                        refine lv_aload hx hb d_RecordReader_readMembers_95 (lv_at hl 0 rfl) ?_
                        refine lv_iload_n hx hb d_RecordReader_readMembers_97 rfl (lv_at hl 3 rfl) ?_
                        refine lv_iload_n hx hb d_RecordReader_readMembers_98 rfl (lv_at hl 4 rfl) ?_
                        refine z_callV (n := 3) (As := [.ref (adS fi8), .int (nI pi), .int (nI d)]) (rest := []) ⟨hx, hb, hml, hown, hts⟩ (hF fi8 hfi8 h29 (sk t n p7 + 1) R1 _ _ _ _ (hS.k kk29 (by omega) (by omega) (by omega)) f29_rd f29_sc f29_b (tA1.k k629 (by omega)) (nA1.k k629 (by omega) (by omega) (by omega)) pA1 (by omega) (by omega) (by omega) (by omega)) (z_in k_539 rfl) (z_in k_18 rfl) (z_in k_536 rfl) (z_in k_538 rfl) (z_in ks_7 rfl) (by decide +kernel) ⟨by first | exact Nat.le_of_ble_eq_true rfl | (dsimp only; omega) | omega, by first | exact Nat.le_of_ble_eq_true rfl | (dsimp only; omega) | omega⟩ hK hE hw hA rfl f29_rd rfl hl.1 (Nat.le_of_ble_eq_true rfl) d_RecordReader_readMembers_99 ⟨by first | exact Nat.le_of_ble_eq_true rfl | (dsimp only; omega) | omega, by first | exact Nat.le_of_ble_eq_true rfl | (dsimp only; omega) | omega⟩ rfl (fun r9 h9 H locs hp hw => ?_)
                        obtain ⟨kk8, ⟨nu8, q8⟩, tr8, nA8, pA8, hp⟩ := hp
                        rcases hR8 : FR fi8 (sk t n p7 + 1) R1 with ⟨F8, R8⟩ | ⟨p8, R8⟩
                        · -- rf False
                          rw [hR8] at hp nA8 pA8
                          obtain ⟨r8, pf8, f8, w8, d8, e8, g8⟩ := hp
                          have nA8 : NdAt g h9 mr w S R8 := nA8
                          have pA8 : paOK R8 := pA8
                          subst r8
                          obtain ⟨h30, e7⟩ : ∃ x9, x9 = h9 := ⟨_, rfl⟩
                          subst e7
                          have z8a : (rrR (FR fi8 (sk t n p7 + 1) R1)).1 = R8.1 := by rw [hR8]; rfl
                          have z8b : (rrR (.inl (F8, R8) : RRes)).1 = R8.1 := rfl
                          have z8c : tbR (rrR (FR fi8 (sk t n p7 + 1) R1)) = tbR R8 := by rw [hR8]; rfl
                          have z8d : tbR (rrR (.inl (F8, R8) : RRes)) = tbR R8 := rfl
                          have q8 : h30 rd = some ((8, 0), .inr (9, [.ref sc, .ref q, .ref w, .ref tr, .long nu8])) := q8
                          have g30_b : h30 b = some ((3, 0), .inl (g.2.1 0, len, .inl f)) := kk8 _ _ _ f29_b (by simp; try omega)
                          have kk30 : z_K (fun y => y = 6 ∨ y = 8 ∨ y = 10 ∨ y = mr ∨ y = mr + 1) h h30 := kk29.tr kk8
                          have k6n : z_K (fun y => y = 6) h30 h30 := z_K.rf
                          refine W.eq (g2 := F0 m 102 ls [.int 0]) rfl ?_
                          refine lv_if_ne (tgt := 107) hx hb d_RecordReader_readMembers_102 (by decide) (fun c_102 => ?_) (fun c_102 => ?_)
                          · -- 102: True
                            exact absurd (by decide) c_102
                          · -- 102: False
                            refine lv_iconst (v := 0) hx hb d_RecordReader_readMembers_105 (by decide) ?_
                            have eW : memR FR S t n (nI gi) (gi + 1) p R = .inl (F8, R8) := by rw [← hR1, if_pos c_65, show 129 - k1 = (129 - (k1 + 1)) + 1 by omega]; simp only [memL]; rw [hN8]; dsimp only; rw [if_pos tsc, hR8]
                            have eZ1 : (rrR (memR FR S t n (nI gi) (gi + 1) p R)).1 = R8.1 := by rw [eW]; rfl
                            have eZ2 : tbR (rrR (memR FR S t n (nI gi) (gi + 1) p R)) = tbR R8 := by rw [eW]; rfl
                            exact z_zret hx hb hr rfl hlocks hw (by rw [eW]; exact ⟨kk30, ⟨_, q8⟩, tr8, nA8, pA8, rfl, ⟨_, _, _, _, e8, g8⟩⟩) (by first | exact Nat.le_of_ble_eq_true rfl | (dsimp only; omega) | omega) (by first | exact Nat.le_of_ble_eq_true rfl | (dsimp only; omega) | omega) d_RecordReader_readMembers_106
                        · -- rf True
                          rw [hR8] at hp nA8 pA8
                          obtain ⟨r8, ⟨f8, w8, d8, e8⟩, le8, le9, le10⟩ := hp
                          dsimp only at le8 le9 le10
                          have nA8 : NdAt g h9 mr w S R8 := nA8
                          have pA8 : paOK R8 := pA8
                          subst r8
                          obtain ⟨h31, e7⟩ : ∃ x9, x9 = h9 := ⟨_, rfl⟩
                          subst e7
                          have z8a : (rrR (FR fi8 (sk t n p7 + 1) R1)).1 = R8.1 := by rw [hR8]; rfl
                          have z8b : (rrR (.inr (p8, R8) : RRes)).1 = R8.1 := rfl
                          have z8c : tbR (rrR (FR fi8 (sk t n p7 + 1) R1)) = tbR R8 := by rw [hR8]; rfl
                          have z8d : tbR (rrR (.inr (p8, R8) : RRes)) = tbR R8 := rfl
                          have q8 : h31 rd = some ((8, 0), .inr (9, [.ref sc, .ref q, .ref w, .ref tr, .long nu8])) := q8
                          have g31_b : h31 b = some ((3, 0), .inl (g.2.1 0, len, .inl f)) := kk8 _ _ _ f29_b (by simp; try omega)
                          have kk31 : z_K (fun y => y = 6 ∨ y = 8 ∨ y = 10 ∨ y = mr ∨ y = mr + 1) h h31 := kk29.tr kk8
                          have k6n : z_K (fun y => y = 6) h31 h31 := z_K.rf
                          have sk8 := sk_le (t := t) le8
                          have sk9 := sk_ge t n p8
                          refine W.eq (g2 := F0 m 102 ls [.int 1]) rfl ?_
                          refine lv_if_ne (tgt := 107) hx hb d_RecordReader_readMembers_102 (by decide) (fun c_102 => ?_) (fun c_102 => ?_)
                          · -- 102: True
                            have hfd7 := ((hS.k kk31 (by omega) (by omega) (by omega)).2.2.2.1 fi8 hfi8).2
                            refine lv_aload hx hb d_RecordReader_readMembers_107 (lv_at hl 0 rfl) ?_
                            refine z_getN hx hb hts (z_lay i_Field) hown hK hw hfd7 rfl 0 (by decide) hE.nest (z_inN k_400 rfl) (fun _ h9 => h9) rfl d_RecordReader_readMembers_109 ?_
                            refine lv_iconst (v := 1) hx hb d_RecordReader_readMembers_112 (by decide) ?_
                            refine lv_iadd hx hb d_RecordReader_readMembers_113 ?_
                            refine z_topi (y := nI (fi8 + 1)) (nI_add fi8 1) ?_
                            refine lv_istore (lv' := [(4, .int (nI (fi8 + 1))), (7, .ref (adS fi8)), (0, .ref rd), (1, .int (nI gi)), (2, .int (nI pi)), (3, .int (nI d)), (5, .int (zb m1)), (6, .int (nI k1))]) hx hb d_RecordReader_readMembers_114 hl (by decide) rfl (fun ls hl => ?_)
                            refine lv_aload_n hx hb d_RecordReader_readMembers_116 rfl (lv_at hl 2 rfl) ?_
                            refine z_get hx hb hts (z_lay i_RecordReader) hown hK hw q8 rfl 0 (by decide) (z_in k_502 rfl) (fun _ h9 => h9) rfl d_RecordReader_readMembers_117 ?_
                            refine z_callV (n := 0) (As := []) (rest := []) ⟨hx, hb, hml, hown, hts⟩ (c_Scanner_next l g h31 e8 g31_b hn hlen hf (by omega)) (z_in k_234 rfl) (z_in k_8 rfl) (z_in k_524 rfl) (z_in k_232 rfl) (z_in k_233 rfl) (by decide +kernel) ⟨by first | exact Nat.le_of_ble_eq_true rfl | (dsimp only; omega) | omega, by first | exact Nat.le_of_ble_eq_true rfl | (dsimp only; omega) | omega⟩ hK hE hw hA rfl e8 rfl hl.1 (Nat.le_of_ble_eq_true rfl) d_RecordReader_readMembers_120 ⟨by first | exact Nat.le_of_ble_eq_true rfl | (dsimp only; omega) | omega, by first | exact Nat.le_of_ble_eq_true rfl | (dsimp only; omega) | omega⟩ rfl (fun r9 h9 H locs hp hw => ?_)
                            obtain ⟨r8, hh32⟩ := hp
                            subst r8
                            obtain ⟨h32, e8⟩ : ∃ x9, x9 = h9 := ⟨_, rfl⟩
                            subst e8
                            have f32_rd : h32 rd = some ((8, 0), .inr (9, [.ref sc, .ref q, .ref w, .ref tr, .long nu8])) := by rw [← hh32]; exact z_keep e8 q8 (z_t1 (by decide))
                            have f32_sc : h32 sc = some ((6, 0), .inr (7, [.ref b, .int (nI n), .int (nI (sk t n p8)), .int f8, .int w8, .int d8])) := by rw [← hh32]; exact z_put_eq
                            have f32_b : h32 b = some ((3, 0), .inl (g.2.1 0, len, .inl f)) := by rw [← hh32]; exact z_keep e8 g31_b (z_t1 (by decide))
                            have k632 : z_K (fun y => y = 6) h31 h32 := k6n.tr (by rw [← hh32]; exact z_K.put e8 rfl)
                            have kk32 : z_K (fun y => y = 6 ∨ y = 8 ∨ y = 10 ∨ y = mr ∨ y = mr + 1) h h32 := kk31.tr (by rw [← hh32]; exact z_K.put e8 (by first | decide | simp | omega))
                            refine W.eq (g2 := F0 m 123 ls [.int (bt t n (sk t n p8))]) rfl ?_
                            refine lv_bipush (v := 44) hx hb d_RecordReader_readMembers_123 (by decide) ?_
                            refine lv_icmp_ne (tgt := 144) hx hb d_RecordReader_readMembers_125 (by decide) (fun c_125 => ?_) (fun c_125 => ?_)
                            · -- 125: True
                              refine lv_iconst (v := 0) hx hb d_RecordReader_readMembers_144 (by decide) ?_
                              refine lv_istore (lv' := [(5, .int 0), (4, .int (nI (fi8 + 1))), (7, .ref (adS fi8)), (0, .ref rd), (1, .int (nI gi)), (2, .int (nI pi)), (3, .int (nI d)), (6, .int (nI k1))]) hx hb d_RecordReader_readMembers_145 hl (by decide) rfl (fun ls hl => ?_)
                              refine lv_iinc (v := nI (k1 + 1)) (lv' := [(6, .int (nI (k1 + 1))), (5, .int 0), (4, .int (nI (fi8 + 1))), (7, .ref (adS fi8)), (0, .ref rd), (1, .int (nI gi)), (2, .int (nI pi)), (3, .int (nI d))]) hx hb d_RecordReader_readMembers_147 hl (k := 7) rfl (nI_1 k1) (by decide) rfl (fun ls hl => ?_)
                              refine lv_goto (tgt := 55) hx hb d_RecordReader_readMembers_150 (by decide) ?_
                              refine W.widen (k := 2 * (R8.1 - R.1)) (n := 7 * (R8.1 - R.1) + (tbR R8 - tbR R)) (by first | exact Nat.le_of_ble_eq_true rfl | (dsimp only; omega) | omega) (by first | exact Nat.le_of_ble_eq_true rfl | (dsimp only; omega) | omega) ?_
                              refine ih_55 (k1 + 1) (fi8 + 1) false (sk t n p8) R8 nu8 f8 w8 d8 h32 _ _ _ f32_rd f32_sc f32_b kk32 (nA8.k k632 (by omega) (by omega) (by omega)) (tr8.k k632 (by omega)) pA8 (⟨by omega, by omega, by omega, by omega, by omega, by omega, by omega, by omega, by omega⟩) (by rw [← hR1, if_pos c_65, show 129 - k1 = (129 - (k1 + 1)) + 1 by omega]; simp only [memL]; rw [hN8]; dsimp only; rw [if_pos tsc, hR8]; dsimp only; rw [if_neg c_125]; exact if_neg (by decide)) ?_ hw (lv_sub hl [4, 5, 6, 7, 2, 1, 0] rfl)
                              omega
                            · -- 125: False
                              refine lv_aload_n hx hb d_RecordReader_readMembers_128 rfl (lv_at hl 2 rfl) ?_
                              refine z_get hx hb hts (z_lay i_RecordReader) hown hK hw f32_rd rfl 0 (by decide) (z_in k_502 rfl) (fun _ h9 => h9) rfl d_RecordReader_readMembers_129 ?_
                              refine lv_bipush (v := 44) hx hb d_RecordReader_readMembers_132 (by decide) ?_
                              refine z_callV (n := 1) (As := [.int 44]) (rest := []) ⟨hx, hb, hml, hown, hts⟩ (c_Scanner_takeSign (t := t) l g h32 f32_sc f32_b hn hlen hf (by omega)) (z_in k_456 rfl) (z_in k_8 rfl) (z_in k_523 rfl) (z_in k_454 rfl) (z_in k_455 rfl) (by decide +kernel) ⟨by first | exact Nat.le_of_ble_eq_true rfl | (dsimp only; omega) | omega, by first | exact Nat.le_of_ble_eq_true rfl | (dsimp only; omega) | omega⟩ hK hE hw hA rfl f32_sc rfl hl.1 (Nat.le_of_ble_eq_true rfl) d_RecordReader_readMembers_134 ⟨by first | exact Nat.le_of_ble_eq_true rfl | (dsimp only; omega) | omega, by first | exact Nat.le_of_ble_eq_true rfl | (dsimp only; omega) | omega⟩ rfl (fun r9 h9 H locs hp hw => ?_)
                              unfold tSg at hp
                              rw [sk_sk, if_pos c_125] at hp
                              obtain ⟨r8, hh33⟩ := hp
                              subst r8
                              obtain ⟨h33, e6⟩ : ∃ x9, x9 = h9 := ⟨_, rfl⟩
                              subst e6
                              have f33_rd : h33 rd = some ((8, 0), .inr (9, [.ref sc, .ref q, .ref w, .ref tr, .long nu8])) := by rw [← hh33]; exact z_keep f32_sc f32_rd (z_t1 (by decide))
                              have f33_sc : h33 sc = some ((6, 0), .inr (7, [.ref b, .int (nI n), .int (nI (sk t n p8 + 1)), .int f8, .int w8, .int d8])) := by rw [← hh33]; exact z_put_eq
                              have f33_b : h33 b = some ((3, 0), .inl (g.2.1 0, len, .inl f)) := by rw [← hh33]; exact z_keep f32_sc f32_b (z_t1 (by decide))
                              have k633 : z_K (fun y => y = 6) h31 h33 := k632.tr (by rw [← hh33]; exact z_K.put f32_sc rfl)
                              have kk33 : z_K (fun y => y = 6 ∨ y = 8 ∨ y = 10 ∨ y = mr ∨ y = mr + 1) h h33 := kk32.tr (by rw [← hh33]; exact z_K.put f32_sc (by first | decide | simp | omega))
                              have lt44 := bt_lt c_125
                              refine W.eq (g2 := F0 m 137 ls [.int 1]) rfl ?_
                              refine lv_if_eq (tgt := 144) hx hb d_RecordReader_readMembers_137 (by decide) (fun c_137 => ?_) (fun c_137 => ?_)
                              · -- 137: True
                                exact absurd c_137 (by decide)
                              · -- 137: False
                                refine lv_iconst (v := 1) hx hb d_RecordReader_readMembers_140 (by decide) ?_
                                refine lv_goto (tgt := 145) hx hb d_RecordReader_readMembers_141 (by decide) ?_
                                refine lv_istore (lv' := [(5, .int 1), (4, .int (nI (fi8 + 1))), (7, .ref (adS fi8)), (0, .ref rd), (1, .int (nI gi)), (2, .int (nI pi)), (3, .int (nI d)), (6, .int (nI k1))]) hx hb d_RecordReader_readMembers_145 hl (by decide) rfl (fun ls hl => ?_)
                                refine lv_iinc (v := nI (k1 + 1)) (lv' := [(6, .int (nI (k1 + 1))), (5, .int 1), (4, .int (nI (fi8 + 1))), (7, .ref (adS fi8)), (0, .ref rd), (1, .int (nI gi)), (2, .int (nI pi)), (3, .int (nI d))]) hx hb d_RecordReader_readMembers_147 hl (k := 7) rfl (nI_1 k1) (by decide) rfl (fun ls hl => ?_)
                                refine lv_goto (tgt := 55) hx hb d_RecordReader_readMembers_150 (by decide) ?_
                                refine W.widen (k := 2 * (R8.1 - R.1)) (n := 7 * (R8.1 - R.1) + (tbR R8 - tbR R)) (by first | exact Nat.le_of_ble_eq_true rfl | (dsimp only; omega) | omega) (by first | exact Nat.le_of_ble_eq_true rfl | (dsimp only; omega) | omega) ?_
                                refine ih_55 (k1 + 1) (fi8 + 1) true (sk t n p8 + 1) R8 nu8 f8 w8 d8 h33 _ _ _ f33_rd f33_sc f33_b kk33 (nA8.k k633 (by omega) (by omega) (by omega)) (tr8.k k633 (by omega)) pA8 (⟨by omega, by omega, by omega, by omega, by omega, by omega, by omega, by omega, by omega⟩) (by rw [← hR1, if_pos c_65, show 129 - k1 = (129 - (k1 + 1)) + 1 by omega]; simp only [memL]; rw [hN8]; dsimp only; rw [if_pos tsc, hR8]; dsimp only; rw [if_pos c_125]; exact if_pos trivial) ?_ hw (lv_sub hl [4, 5, 6, 7, 2, 1, 0] rfl)
                                omega
                          · -- 102: False
                            exact absurd c_102 (by decide)
                    · -- tsc False
                      rw [if_neg tsc] at hp
                      obtain ⟨r8, hh34⟩ := hp
                      subst r8
                      obtain ⟨h34, e8⟩ : ∃ x9, x9 = h9 := ⟨_, rfl⟩
                      subst e8
                      have f34_rd : h34 rd = some ((8, 0), .inr (9, [.ref sc, .ref q, .ref w, .ref tr, .long nu1])) := by rw [← hh34]; exact z_keep f28_sc f28_rd (z_t1 (by decide))
                      have f34_sc : h34 sc = some ((6, 0), .inr (7, [.ref b, .int (nI n), .int (nI (sk t n p7)), .int (nI (sk t n p7)), .int y28, .int z28])) := by rw [← hh34]; exact z_put_eq
                      have f34_b : h34 b = some ((3, 0), .inl (g.2.1 0, len, .inl f)) := by rw [← hh34]; exact z_keep f28_sc f28_b (z_t1 (by decide))
                      have k634 : z_K (fun y => y = 6) hL h34 := k628.tr (by rw [← hh34]; exact z_K.put f28_sc rfl)
                      have kk34 : z_K (fun y => y = 6 ∨ y = 8 ∨ y = 10 ∨ y = mr ∨ y = mr + 1) h h34 := kk28.tr (by rw [← hh34]; exact z_K.put f28_sc (by first | decide | simp | omega))
                      refine W.eq (g2 := F0 m 91 ls [.int 0]) rfl ?_
                      refine lv_if_eq (tgt := 105) hx hb d_RecordReader_readMembers_91 (by decide) (fun c_91 => ?_) (fun c_91 => ?_)
                      · -- 91: True
                        refine lv_iconst (v := 0) hx hb d_RecordReader_readMembers_105 (by decide) ?_
                        have eW : memR FR S t n (nI gi) (gi + 1) p R = .inl (sk t n p7, R1) := by rw [← hR1, if_pos c_65, show 129 - k1 = (129 - (k1 + 1)) + 1 by omega]; simp only [memL]; rw [hN8]; dsimp only; rw [if_neg tsc]
                        have eZ1 : (rrR (memR FR S t n (nI gi) (gi + 1) p R)).1 = R1.1 := by rw [eW]; rfl
                        have eZ2 : tbR (rrR (memR FR S t n (nI gi) (gi + 1) p R)) = tbR R1 := by rw [eW]; rfl
                        exact z_zret hx hb hr rfl hlocks hw (by rw [eW]; exact ⟨kk34, ⟨_, f34_rd⟩, (tA1.k k634 (by omega)), (nA1.k k634 (by omega) (by omega) (by omega)), pA1, rfl, ⟨_, _, _, _, f34_sc, rfl⟩⟩) (by first | exact Nat.le_of_ble_eq_true rfl | (dsimp only; omega) | omega) (by first | exact Nat.le_of_ble_eq_true rfl | (dsimp only; omega) | omega) d_RecordReader_readMembers_106
                      · -- 91: False
                        exact absurd (by decide) c_91
          refine W.widen (k := 2 * (R.1 - R.1)) (n := 7 * (R.1 - R.1) + (tbR R - tbR R)) (by first | exact Nat.le_of_ble_eq_true rfl | (dsimp only; omega) | omega) (by first | exact Nat.le_of_ble_eq_true rfl | (dsimp only; omega) | omega) ?_
          exact loop_55 (130 - 0 + 1) 0 (gi + 1) true (sk t n (sk t n p + 1)) R nu9 fa ws wd h2 _ _ _ f2_rd f2_sc f2_b kk2 (hNA.k k62 (by omega) (by omega) (by omega)) (hTR.k k62 (by omega)) hpa (⟨by omega, by omega, by omega, by omega, by omega, rOK.1, rOK.2, by omega, by omega⟩) (by unfold memR; rw [if_pos ts1]; rw [if_neg c_42]; rfl) (by omega) hw (lv_sub hl [3, 4, 5, 6, 2, 1, 0] rfl)
      · -- 23: False
        exact absurd c_23 (by decide)
    · -- ts1 False
      rw [if_neg ts1] at hp
      obtain ⟨r8, hh35⟩ := hp
      subst r8
      obtain ⟨h35, e8⟩ : ∃ x9, x9 = h9 := ⟨_, rfl⟩
      subst e8
      have f35_rd : h35 rd = some ((8, 0), .inr (9, [.ref sc, .ref q, .ref w, .ref tr, .long nu9])) := by rw [← hh35]; exact z_keep hsc hrd (z_t1 (by decide))
      have f35_sc : h35 sc = some ((6, 0), .inr (7, [.ref b, .int (nI n), .int (nI (sk t n p)), .int (nI (sk t n p)), .int ws, .int wd])) := by rw [← hh35]; exact z_put_eq
      have f35_b : h35 b = some ((3, 0), .inl (g.2.1 0, len, .inl f)) := by rw [← hh35]; exact z_keep hsc hb0 (z_t1 (by decide))
      have k635 : z_K (fun y => y = 6) h h35 := k6z.tr (by rw [← hh35]; exact z_K.put hsc rfl)
      have kk35 : z_K (fun y => y = 6 ∨ y = 8 ∨ y = 10 ∨ y = mr ∨ y = mr + 1) h h35 := kk0.tr (by rw [← hh35]; exact z_K.put hsc (by first | decide | simp | omega))
      refine W.eq (g2 := F0 m 23 ls [.int 0]) rfl ?_
      refine lv_if_ne (tgt := 28) hx hb d_RecordReader_readMembers_23 (by decide) (fun c_23 => ?_) (fun c_23 => ?_)
      · -- 23: True
        exact absurd (by decide) c_23
      · -- 23: False
        refine lv_iconst (v := 0) hx hb d_RecordReader_readMembers_26 (by decide) ?_
        have eW : memR FR S t n (nI gi) (gi + 1) p R = .inl (sk t n p, R) := by unfold memR; rw [if_neg ts1]
        have eZ1 : (rrR (memR FR S t n (nI gi) (gi + 1) p R)).1 = R.1 := by rw [eW]; rfl
        have eZ2 : tbR (rrR (memR FR S t n (nI gi) (gi + 1) p R)) = tbR R := by rw [eW]; rfl
        exact z_zret hx hb hr rfl hlocks hw (by rw [eW]; exact ⟨kk35, ⟨_, f35_rd⟩, (hTR.k k635 (by omega)), (hNA.k k635 (by omega) (by omega) (by omega)), hpa, rfl, ⟨_, _, _, _, f35_sc, rfl⟩⟩) (by first | exact Nat.le_of_ble_eq_true rfl | (dsimp only; omega) | omega) (by first | exact Nat.le_of_ble_eq_true rfl | (dsimp only; omega) | omega) d_RecordReader_readMembers_27
  · -- 3: False
    have c_3 : ¬ (d ≤ 16) := fun z => c_3 ((nI_leI (a := d) (b := 16) (by omega) (by omega)).mpr z)
    exact absurd hd9 c_3

set_option maxHeartbeats 4000000 in
set_option maxRecDepth 100000 in
theorem c_readMembers_17 (l : Launch) (g : z_G) (h : z_H) {r q : Nat} {S : Sch} {fa9 ca : Nat} {adS na : Nat → Nat} {ff : Nat → Option Nat} {cf : Nat → Int32} {nf : Nat → Nat → Int32} {rd sc mr w tr b len n p pi gi d fM lM : Nat} {f : Nat → Int32} {fa ws wd : Int32} {nu9 : Int64} {t : Nat → Nat} {R : Rec}  (hrd : h rd = some ((8, 0), .inr (9, [.ref sc, .ref q, .ref w, .ref tr, .long nu9]))) (hsc : h sc = some ((6, 0), .inr (7, [.ref b, .int (nI n), .int (nI p), .int fa, .int ws, .int wd]))) (hb0 : h b = some ((3, 0), .inl (g.2.1 0, len, .inl f))) (hm2 : 12 ≤ mr) (hTR : trAt g h tr []) (hNA : NdAt g h mr w S R) (hpa : paOK R) (hd9 : 16 < d) (hd8 : d < 1000) : z_C l y_RecordReader_readMembers prog_6_method_2_code 8 (Option.some Jvm.ClassFile.FieldType.boolean) (fM + 5) (lM + 150) 0 0 g [.ref rd, .int (nI gi), .int (nI pi), .int (nI d)] h (vlP g (.inl (p, R)) h mr w S rd sc q tr b n) := by
  refine z_C.of (by decide) (Nat.le_of_ble_eq_true rfl) (fun pg en s m below meth cd A ls hx hb hml hr hts hown hlocks hnm hK hE hA hw hl => ?_)
  have hl : lv_has ls 8 [(0, .ref rd), (1, .int (nI gi)), (2, .int (nI pi)), (3, .int (nI d))] := hl
  have k6z : z_K (fun y => y = 6) h h := z_K.rf
  have kk0 : z_K (fun y => y = 6 ∨ y = 8 ∨ y = 10 ∨ y = mr ∨ y = mr + 1) h h := z_K.rf
  refine lv_iload_n hx hb d_RecordReader_readMembers_0 rfl (lv_at hl 3 rfl) ?_
  refine lv_bipush (v := 16) hx hb d_RecordReader_readMembers_1 (by decide) ?_
  refine lv_icmp_le (tgt := 14) hx hb d_RecordReader_readMembers_3 (by decide) (fun c_3 => ?_) (fun c_3 => ?_)
  · -- 3: True
    have c_3 : d ≤ 16 := (nI_leI (a := d) (b := 16) (by omega) (by omega)).mp c_3
    omega
  · -- 3: False
    have c_3 : ¬ (d ≤ 16) := fun z => c_3 ((nI_leI (a := d) (b := 16) (by omega) (by omega)).mpr z)
    refine lv_aload_n hx hb d_RecordReader_readMembers_6 rfl (lv_at hl 0 rfl) ?_
    refine z_get hx hb hts (z_lay i_RecordReader) hown hK hw hrd rfl 0 (by decide) (z_in k_502 rfl) (fun _ h9 => h9) rfl d_RecordReader_readMembers_7 ?_
    refine z_callV (n := 0) (As := []) (rest := []) ⟨hx, hb, hml, hown, hts⟩ (c_Scanner_failHere l g h hsc) (z_in k_258 rfl) (z_in k_8 rfl) (z_in k_522 rfl) (z_in k_256 rfl) (z_in k_257 rfl) (by decide +kernel) ⟨by first | exact Nat.le_of_ble_eq_true rfl | (dsimp only; omega) | omega, by first | exact Nat.le_of_ble_eq_true rfl | (dsimp only; omega) | omega⟩ hK hE hw hA rfl hsc rfl hl.1 (Nat.le_of_ble_eq_true rfl) d_RecordReader_readMembers_10 ⟨by first | exact Nat.le_of_ble_eq_true rfl | (dsimp only; omega) | omega, by first | exact Nat.le_of_ble_eq_true rfl | (dsimp only; omega) | omega⟩ rfl (fun r9 h9 H locs hp hw => ?_)
    obtain ⟨r8, hh1⟩ := hp
    subst r8
    obtain ⟨h1, e8⟩ : ∃ x9, x9 = h9 := ⟨_, rfl⟩
    subst e8
    have f1_rd : h1 rd = some ((8, 0), .inr (9, [.ref sc, .ref q, .ref w, .ref tr, .long nu9])) := by rw [← hh1]; exact z_keep hsc hrd (z_t1 (by decide))
    have f1_sc : h1 sc = some ((6, 0), .inr (7, [.ref b, .int (nI n), .int (nI p), .int (nI p), .int ws, .int wd])) := by rw [← hh1]; exact z_put_eq
    have f1_b : h1 b = some ((3, 0), .inl (g.2.1 0, len, .inl f)) := by rw [← hh1]; exact z_keep hsc hb0 (z_t1 (by decide))
    have k61 : z_K (fun y => y = 6) h h1 := k6z.tr (by rw [← hh1]; exact z_K.put hsc rfl)
    have kk1 : z_K (fun y => y = 6 ∨ y = 8 ∨ y = 10 ∨ y = mr ∨ y = mr + 1) h h1 := kk0.tr (by rw [← hh1]; exact z_K.put hsc (by first | decide | simp | omega))
    refine W.eq (g2 := F0 m 13 ls [.int 0]) rfl ?_
    exact z_zret hx hb hr rfl hlocks hw ⟨kk1, ⟨_, f1_rd⟩, (hTR.k k61 (by omega)), (hNA.k k61 (by omega) (by omega) (by omega)), hpa, rfl, ⟨_, _, _, _, f1_sc, rfl⟩⟩ (by decide) (by decide) d_RecordReader_readMembers_13

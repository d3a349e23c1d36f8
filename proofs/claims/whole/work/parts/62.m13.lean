def resJ (X : RRes) : Int32 := match X with
  | .inl F => nI F.1
  | .inr _ => -1
theorem resJ_inl {X : RRes} (h : ¬ resJ X = -1) : ∃ F, X = .inl F := by
  rcases X with F | P
  · exact ⟨F, rfl⟩
  · exact absurd rfl h
theorem resJ_lf (X : Sum Nat (Int64 × Nat)) (R : Rec) (fi pi : Nat) : resJ (lfR X R fi pi) = resN X := by
  rcases X with F | P <;> rfl
theorem resJ_lt (X : Sum Nat (Nat × List Nat)) (R : Rec) (fi pi : Nat) : resJ (ltR X R fi pi) = resT X := by
  rcases X with F | P <;> rfl
/-- what reading a part of a record does in the reference -/
def rvP (g : z_G) (h h1 : z_H) (mo : Nat) (ma : Nat → Nat) (cod tpd cls9 ffl fcl ous : Int32) (n p : Nat) (S : Sch) (X : RRes) : Prop := z_K (fun y => y = 20 ∨ y = 29 ∨ y = 30 ∨ y = 31) h h1 ∧ ∃ (p1 : Nat) (R1 : Rec), h1 mo = some ((20, 0), .inr (11, mF ma cod tpd (nI n) (nI S.1) cls9 ffl fcl (nI R1.1) (nI (tbC R1.2 R1.1)) ous (nI p1) (resJ X))) ∧ p1 ≤ n ∧ p ≤ p1 ∧ MNd g h1 ma R1 ∧ (resJ X = -1 → X = .inr (p1, R1) ∧ 2 * R1.1 ≤ p1 ∧ tbR R1 ≤ p1 ∧ 0 < R1.1)
theorem booR_iW (t : Nat → Nat) (n p : Nat) : booR t n p = if iW t n (sk t n p) 8 = true then .inr (1, we t n (sk t n p)) else if iW t n (sk t n p) 9 = true then .inr (0, we t n (sk t n p)) else .inl (sk t n p) := by
  unfold booR iW
  by_cases h : isLet (bt t n (sk t n p)) = true
  · rw [if_pos h, h, Bool.true_and, Bool.true_and]
  · rw [if_neg h]; simp [h]
theorem iW_we {t : Nat → Nat} {n q i : Nat} (ht : ∀ k, k < n → t k < 256) (h : iW t n q i = true) : q < we t n q ∧ we t n q ≤ n := by
  have := let_we ht (Bool.and_eq_true_iff.mp h).1
  exact ⟨this.1, this.2.1⟩

set_option maxHeartbeats 2000000 in
set_option maxRecDepth 100000 in
theorem m_readValue_of (l : Launch) (g : z_G) (h : z_H) {mo : Nat} {ma : Nat → Nat} {cod tpd cls9 ffl fcl ous : Int32} {n p : Nat} {f : Nat → Int32} {t : Nat → Nat} {S : Sch} {rw9 : Nat → Nat} {rf : Nat → Nat → Int32} {lf : Nat → Int32} {R : Rec} {pi fi fM lM : Nat} {X : RRes} {MR : Nat → Rec → Nat → Nat → RRes} (hmo : h mo = some ((20, 0), .inr (11, mF ma cod tpd (nI n) (nI S.1) cls9 ffl fcl (nI R.1) (nI (tbC R.2 R.1)) ous (nI p) (-1)))) (htx : h (ma 1) = some ((22, 0), .inl (g.2.1 1, 4000, .inl f))) (hn : n ≤ 4000) (hf : ∀ k, k < n → t k < 256 ∧ f k = nI (t k)) (hp : p ≤ n) (hSc : MSp g h (ma 2) (ma 4) 23 27 S rw9 rf lf) (hs8 : S.1 ≤ 128) (hNd : MNd g h ma R) (hR0 : 0 < R.1) (hfi : fi < S.1) (hc2 : 2 * R.1 + 1 ≤ p) (htb0 : tbR R ≤ p) (hty : fTy (S.2 fi) = nI 0 ∨ fTy (S.2 fi) = nI 1 ∨ fTy (S.2 fi) = nI 2 ∨ fTy (S.2 fi) = nI 3 ∨ fTy (S.2 fi) = nI 4) (eX : X = valR MR S t n fi pi p R) (hG : fTy (S.2 fi) = 4 → ∀ (h : z_H) (p : Nat) (R : Rec) (pi : Nat), h mo = some ((20, 0), .inr (11, mF ma cod tpd (nI n) (nI S.1) cls9 ffl fcl (nI R.1) (nI (tbC R.2 R.1)) ous (nI p) (-1))) → h (ma 1) = some ((22, 0), .inl (g.2.1 1, 4000, .inl f)) → MSp g h (ma 2) (ma 4) 23 27 S rw9 rf lf → MNd g h ma R → 0 < R.1 → p ≤ n → 2 * R.1 ≤ p + 2 → tbR R ≤ p → z_C l y_M_readGroup prog_13_method_34_code 7 (Option.none : Option Jvm.ClassFile.FieldType) fM lM 0 0 g [.ref mo, .int (nI pi), .int (nI fi)] h (fun x h1 => x = none ∧ rvP g h h1 mo ma cod tpd cls9 ffl fcl ous n p S (MR p R pi fi))) : z_C l y_M_readValue prog_13_method_31_code 5 (Option.none : Option Jvm.ClassFile.FieldType) (fM + 10) (lM + 200) 0 0 g [.ref mo, .int (nI pi), .int (nI fi)] h (fun x h1 => x = none ∧ rvP g h h1 mo ma cod tpd cls9 ffl fcl ous n p S X) := by
  refine z_C.of (by decide) (Nat.le_of_ble_eq_true rfl) (fun pg en s m below meth cd A ls hx hb hml hr hts hown hlocks hnm hK hE hA hw hl => ?_)
  have hl : lv_has ls 5 [(0, .ref mo), (1, .int (nI pi)), (2, .int (nI fi))] := hl
  have hrw_1 : h (rw9 1) = some ((24, 1), .inl (g.2.1 1, 128, .inl (rf 1))) := hSc.2.1 1 (by omega)
  have htb0 : tbC R.2 R.1 ≤ p := htb0
  have kk0 : z_K (fun y => y = 20 ∨ y = 29 ∨ y = 30 ∨ y = 31) h h := z_K.rf
  have sg_Nh : z_K (fun y => y = 20) h h := z_K.rf
  refine lv_aload_n hx hb d_M_readValue_0 rfl (lv_at hl 0 rfl) ?_
  refine z_callV (n := 0) (As := []) (rest := []) ⟨hx, hb, hml, hown, hts⟩ (m_blanks (t := t) l g h hmo htx hn hf (by omega)) (z_in k_885 rfl) (z_in k_7 rfl) (z_in k_882 rfl) (z_in k_884 rfl) (z_in ks_27 rfl) (by decide +kernel) ⟨by first | exact Nat.le_of_ble_eq_true rfl | (dsimp only; omega) | omega, by first | exact Nat.le_of_ble_eq_true rfl | (dsimp only; omega) | omega⟩ hK hE hw hA rfl hmo rfl hl.1 (Nat.le_of_ble_eq_true rfl) d_M_readValue_1 ⟨by first | exact Nat.le_of_ble_eq_true rfl | (dsimp only; omega) | omega, by first | exact Nat.le_of_ble_eq_true rfl | (dsimp only; omega) | omega⟩ rfl (fun r9 h9 H locs hp hw => ?_)
  have sq1 := sk_le (t := t) (n := n) (p := p) (by omega)
  have sr1 := sk_ge t n p
  obtain ⟨r8, hh2⟩ := hp
  subst r8
  obtain ⟨h2, e8⟩ : ∃ x9, x9 = h9 := ⟨_, rfl⟩
  subst e8
  have f2_mo : h2 mo = some ((20, 0), .inr (11, mF ma cod tpd (nI n) (nI S.1) cls9 ffl fcl (nI R.1) (nI (tbC R.2 R.1)) ous (nI (sk t n p)) (-1))) := by rw [← hh2]; exact z_put_eq
  have f2_ma_1 : h2 (ma 1) = some ((22, 0), .inl (g.2.1 1, 4000, .inl f)) := by rw [← hh2]; exact z_keep hmo htx (z_t1 (by decide))
  have f2_ma_2 : h2 (ma 2) = some ((23, 0), .inl (g.2.1 5, 6, .inr (.inr (.inr (.inr (fun k => some (rw9 k))))))) := by rw [← hh2]; exact z_keep hmo hSc.1 (z_t1 (by decide))
  have f2_rw9_1 : h2 (rw9 1) = some ((24, 1), .inl (g.2.1 1, 128, .inl (rf 1))) := by rw [← hh2]; exact z_keep hmo hrw_1 (z_t1 (by decide))
  have kk2 : z_K (fun y => y = 20 ∨ y = 29 ∨ y = 30 ∨ y = 31) h h2 := kk0.tr (by rw [← hh2]; exact z_K.put hmo (by first | decide | simp | omega))
  have sg_Nh2 : z_K (fun y => y = 20) h h2 := sg_Nh.tr (by rw [← hh2]; exact z_K.put hmo (by simp))
  refine W.eq (g2 := F0 m 4 ls []) rfl ?_
  refine lv_aload_n hx hb d_M_readValue_4 rfl (lv_at hl 0 rfl) ?_
  refine z_get hx hb hts (z_lay i_M) hown hK hw f2_mo rfl 5 (by decide) (z_in k_776 rfl) (fun _ h9 => h9) rfl d_M_readValue_5 ?_
  refine lv_iconst (v := 1) hx hb d_M_readValue_8 (by decide) ?_
  refine z_aldr hx hb hK hw f2_ma_2 5 rfl (by unfold vp_in; decide) d_M_readValue_9 ?_
  refine z_top (y := va_rf ((fun k => some (rw9 k)) 1)) (by rfl) ?_
  refine z_top (y := .ref (rw9 1)) (rfl) ?_
  refine lv_iload_n hx hb d_M_readValue_10 rfl (lv_at hl 2 rfl) ?_
  refine z_iald hx hb hK hw f2_rw9_1 1 rfl (vp_in_nI (by omega) (by omega)) d_M_readValue_11 ?_
  refine z_topi (y := (rf 1) fi) (by rw [nI_clamp (by omega)]) ?_
  refine z_top (y := .int (fTy (S.2 fi))) (by rw [(hSc.2.2.2 fi hfi).2.1]) ?_
  refine lv_istore_n (lv' := [(3, .int (fTy (S.2 fi))), (0, .ref mo), (1, .int (nI pi)), (2, .int (nI fi))]) hx hb d_M_readValue_12 rfl hl (by decide) rfl (fun ls hl => ?_)
  refine lv_iload_n hx hb d_M_readValue_13 rfl (lv_at hl 0 rfl) ?_
  refine lv_iconst (v := 4) hx hb d_M_readValue_14 (by decide) ?_
  refine lv_icmp_ne (tgt := 33) hx hb d_M_readValue_15 (by decide) (fun c_15 => ?_) (fun c_15 => ?_)
  · -- 15: True
    refine lv_iload_n hx hb d_M_readValue_33 rfl (lv_at hl 0 rfl) ?_
    refine lv_iconst (v := 3) hx hb d_M_readValue_34 (by decide) ?_
    refine lv_icmp_ne (tgt := 53) hx hb d_M_readValue_35 (by decide) (fun c_35 => ?_) (fun c_35 => ?_)
    · -- 35: True
      refine lv_iload_n hx hb d_M_readValue_53 rfl (lv_at hl 0 rfl) ?_
      refine lv_if_ne (tgt := 109) hx hb d_M_readValue_54 (by decide) (fun c_54 => ?_) (fun c_54 => ?_)
      · -- 54: True
        have h12 : fTy (S.2 fi) = nI 1 ∨ fTy (S.2 fi) = nI 2 := by rcases hty with z | z | z | z | z; (· exact absurd z c_54); (· exact Or.inl z); (· exact Or.inr z); (· exact absurd z c_35); (· exact absurd z c_15)
        obtain ⟨LO, eLO⟩ : ∃ x : Int64, x = if fTy (S.2 fi) = 1 then -2147483648 else -9223372036854775808 := ⟨_, rfl⟩
        have eXn : X = lfR (numR t n (sk t n p) LO) R fi pi := by rw [eX, eLO]; unfold valR; rw [if_neg (show ¬ fTy (S.2 fi) = nI 0 from c_54)]; rcases h12 with z | z; (· rw [if_pos z, if_pos (show fTy (S.2 fi) = 1 from z)]); (· rw [if_neg (by rw [z]; decide), if_pos z, if_neg (by rw [z]; decide)])
        refine lv_aload_n hx hb d_M_readValue_109 rfl (lv_at hl 1 rfl) ?_
        refine lv_iload_n hx hb d_M_readValue_110 rfl (lv_at hl 2 rfl) ?_
        refine lv_iload_n hx hb d_M_readValue_111 rfl (lv_at hl 3 rfl) ?_
        refine lv_aload_n hx hb d_M_readValue_112 rfl (lv_at hl 1 rfl) ?_
        refine lv_iload_n hx hb d_M_readValue_113 rfl (lv_at hl 0 rfl) ?_
        refine z_callV (n := 1) (As := [.int (fTy (S.2 fi))]) (rest := [.int (nI fi), .int (nI pi), .ref mo]) ⟨hx, hb, hml, hown, hts⟩ (m_readNumber (t := t) (lo := LO) l g h2 f2_mo f2_ma_1 hn hf (by omega) eLO rfl) (z_in k_1009 rfl) (z_in k_7 rfl) (z_in k_1006 rfl) (z_in k_1008 rfl) (z_in ks_48 rfl) (by decide +kernel) ⟨by first | exact Nat.le_of_ble_eq_true rfl | (dsimp only; omega) | omega, by first | exact Nat.le_of_ble_eq_true rfl | (dsimp only; omega) | omega⟩ hK hE hw hA rfl f2_mo rfl hl.1 (Nat.le_of_ble_eq_true rfl) d_M_readValue_114 ⟨by first | exact Nat.le_of_ble_eq_true rfl | (dsimp only; omega) | omega, by first | exact Nat.le_of_ble_eq_true rfl | (dsimp only; omega) | omega⟩ rfl (fun r9 h9 H locs hp hw => ?_)
        obtain ⟨kk8, p4, v4, r8, m4, le4, ge4, im4⟩ := hp
        subst r8
        obtain ⟨h3, e7⟩ : ∃ x9, x9 = h9 := ⟨_, rfl⟩
        subst e7
        have g3_ma_1 : h3 (ma 1) = some ((22, 0), .inl (g.2.1 1, 4000, .inl f)) := kk8 _ _ _ f2_ma_1 (by simp)
        have g3_ma_2 : h3 (ma 2) = some ((23, 0), .inl (g.2.1 5, 6, .inr (.inr (.inr (.inr (fun k => some (rw9 k))))))) := kk8 _ _ _ f2_ma_2 (by simp)
        have g3_rw9_1 : h3 (rw9 1) = some ((24, 1), .inl (g.2.1 1, 128, .inl (rf 1))) := kk8 _ _ _ f2_rw9_1 (by simp)
        have kk3 : z_K (fun y => y = 20 ∨ y = 29 ∨ y = 30 ∨ y = 31) h h3 := kk2.tr (kk8.mono (fun y z => by omega))
        have sg_Nh3 : z_K (fun y => y = 20) h h3 := sg_Nh2.tr (kk8.mono (fun y z => by omega))
        refine W.eq (g2 := F0 m 117 ls [.long v4, .int (nI fi), .int (nI pi), .ref mo]) rfl ?_
        obtain ⟨nf2, np2, nr2, ns2, nv2, tx2, hN2⟩ : MNd g h3 ma R := hNd.k sg_Nh3 (by omega) (by omega) (by omega)
        refine z_callV (n := 3) (As := [.int (nI pi), .int (nI fi), .long v4]) (rest := []) ⟨hx, hb, hml, hown, hts⟩ (m_node l g h3 m4 hN2 (by omega)) (z_in k_991 rfl) (z_in k_7 rfl) (z_in k_988 rfl) (z_in k_990 rfl) (z_in ks_44 rfl) (by decide +kernel) ⟨by first | exact Nat.le_of_ble_eq_true rfl | (dsimp only; omega) | omega, by first | exact Nat.le_of_ble_eq_true rfl | (dsimp only; omega) | omega⟩ hK hE hw hA rfl m4 rfl hl.1 (Nat.le_of_ble_eq_true rfl) d_M_readValue_117 ⟨by first | exact Nat.le_of_ble_eq_true rfl | (dsimp only; omega) | omega, by first | exact Nat.le_of_ble_eq_true rfl | (dsimp only; omega) | omega⟩ rfl (fun r9 h9 H locs hp hw => ?_)
        obtain ⟨r8, m8, n8, k8⟩ := hp
        subst r8
        obtain ⟨h4, e7⟩ : ∃ x9, x9 = h9 := ⟨_, rfl⟩
        subst e7
        have g4_ma_1 : h4 (ma 1) = some ((22, 0), .inl (g.2.1 1, 4000, .inl f)) := k8 _ _ _ g3_ma_1 (by simp)
        have g4_ma_2 : h4 (ma 2) = some ((23, 0), .inl (g.2.1 5, 6, .inr (.inr (.inr (.inr (fun k => some (rw9 k))))))) := k8 _ _ _ g3_ma_2 (by simp)
        have g4_rw9_1 : h4 (rw9 1) = some ((24, 1), .inl (g.2.1 1, 128, .inl (rf 1))) := k8 _ _ _ g3_rw9_1 (by simp)
        have kk4 : z_K (fun y => y = 20 ∨ y = 29 ∨ y = 30 ∨ y = 31) h h4 := kk3.tr (k8.mono (fun y z => by omega))
        refine W.eq (g2 := F0 m 120 ls [.int (nI R.1)]) rfl ?_
        refine lv_pop hx hb d_M_readValue_120 rfl ?_
        exact z_vret hx hb hr hlocks hw (by have addNtb : tbC (addN R (nI fi, nI pi, v4, [])).2 (addN R (nI fi, nI pi, v4, [])).1 = tbC R.2 R.1 := addN_tb; have eR : resJ X = resN (numR t n (sk t n p) LO) := (by rw [eXn, resJ_lf]); refine ⟨rfl, kk4, p4, (addN R (nI fi, nI pi, v4, [])), ?_, by omega, by omega, n8, fun z => by have z2 := im4 (eR.symm.trans z); have z3 := numR_ok z2; refine ⟨by rw [eXn, z2]; rfl, ?_, ?_, Nat.succ_pos _⟩; (· show 2 * (R.1 + 1) ≤ _; have z3 : p4 ≤ n ∧ sk t n p + 1 ≤ p4 := z3; omega); (· show tbC (addN R (nI fi, nI pi, v4, [])).2 (addN R (nI fi, nI pi, v4, [])).1 ≤ _; rw [addNtb]; have z3 : p4 ≤ n ∧ sk t n p + 1 ≤ p4 := z3; omega)⟩; rw [eR, addNtb]; exact m8) (by decide) (by decide) d_M_readValue_121
      · -- 54: False
        have ety : fTy (S.2 fi) = 0 := by simpa using c_54
        refine lv_aload_n hx hb d_M_readValue_57 rfl (lv_at hl 1 rfl) ?_
        refine lv_ldc2 hx hb hown (hts _ (z_in k_1004 rfl)) d_M_readValue_58 ?_
        refine z_callV (n := 1) (As := [.long 1953658213]) (rest := []) ⟨hx, hb, hml, hown, hts⟩ (m_takesWord (t := t) (i9 := 8) l g h2 f2_mo f2_ma_1 hn hf (by omega) (by decide)) (z_in k_894 rfl) (z_in k_7 rfl) (z_in k_891 rfl) (z_in k_893 rfl) (z_in ks_29 rfl) (by decide +kernel) ⟨by first | exact Nat.le_of_ble_eq_true rfl | (dsimp only; omega) | omega, by first | exact Nat.le_of_ble_eq_true rfl | (dsimp only; omega) | omega⟩ hK hE hw hA rfl f2_mo rfl hl.1 (Nat.le_of_ble_eq_true rfl) d_M_readValue_61 ⟨by first | exact Nat.le_of_ble_eq_true rfl | (dsimp only; omega) | omega, by first | exact Nat.le_of_ble_eq_true rfl | (dsimp only; omega) | omega⟩ rfl (fun r9 h9 H locs hp hw => ?_)
        by_cases tw61 : ((-1) : Int32) = -1 ∧ iW t n (sk t n p) 8 = true
        · -- word True
          rw [if_pos tw61] at hp
          have wq61 := we_le (t := t) (n := n) (p := sk t n p) (by omega)
          obtain ⟨r8, hh5⟩ := hp
          subst r8
          obtain ⟨h5, e8⟩ : ∃ x9, x9 = h9 := ⟨_, rfl⟩
          subst e8
          have f5_mo : h5 mo = some ((20, 0), .inr (11, mF ma cod tpd (nI n) (nI S.1) cls9 ffl fcl (nI R.1) (nI (tbC R.2 R.1)) ous (nI (we t n (sk t n p))) (-1))) := by rw [← hh5]; exact z_put_eq
          have f5_ma_1 : h5 (ma 1) = some ((22, 0), .inl (g.2.1 1, 4000, .inl f)) := by rw [← hh5]; exact z_keep f2_mo f2_ma_1 (z_t1 (by decide))
          have f5_ma_2 : h5 (ma 2) = some ((23, 0), .inl (g.2.1 5, 6, .inr (.inr (.inr (.inr (fun k => some (rw9 k))))))) := by rw [← hh5]; exact z_keep f2_mo f2_ma_2 (z_t1 (by decide))
          have f5_rw9_1 : h5 (rw9 1) = some ((24, 1), .inl (g.2.1 1, 128, .inl (rf 1))) := by rw [← hh5]; exact z_keep f2_mo f2_rw9_1 (z_t1 (by decide))
          have kk5 : z_K (fun y => y = 20 ∨ y = 29 ∨ y = 30 ∨ y = 31) h h5 := kk2.tr (by rw [← hh5]; exact z_K.put f2_mo (by first | decide | simp | omega))
          have sg_Nh5 : z_K (fun y => y = 20) h h5 := sg_Nh2.tr (by rw [← hh5]; exact z_K.put f2_mo (by simp))
          refine W.eq (g2 := F0 m 64 ls [.int 1]) rfl ?_
          refine lv_istore (lv' := [(4, .int 1), (3, .int (fTy (S.2 fi))), (0, .ref mo), (1, .int (nI pi)), (2, .int (nI fi))]) hx hb d_M_readValue_64 hl (by decide) rfl (fun ls hl => ?_)
          refine lv_iload hx hb d_M_readValue_66 (lv_at hl 0 rfl) ?_
          refine lv_if_ne (tgt := 89) hx hb d_M_readValue_68 (by decide) (fun c_68 => ?_) (fun c_68 => ?_)
          · -- 68: True
            have we89 := we_ge t n (sk t n p)
            refine lv_aload_n hx hb d_M_readValue_89 rfl (lv_at hl 2 rfl) ?_
            refine lv_iload_n hx hb d_M_readValue_90 rfl (lv_at hl 3 rfl) ?_
            refine lv_iload_n hx hb d_M_readValue_91 rfl (lv_at hl 4 rfl) ?_
            refine lv_iload hx hb d_M_readValue_92 (lv_at hl 0 rfl) ?_
            refine lv_if_eq (tgt := 101) hx hb d_M_readValue_94 (by decide) (fun c_94 => ?_) (fun c_94 => ?_)
            · -- 94: True
              exact absurd c_94 (by decide)
            · -- 94: False
              refine lv_lconst (v := 1) hx hb d_M_readValue_97 (by decide) ?_
              refine lv_goto (tgt := 102) hx hb d_M_readValue_98 (by decide) ?_
              obtain ⟨nf2, np2, nr2, ns2, nv2, tx2, hN2⟩ : MNd g h5 ma R := hNd.k sg_Nh5 (by omega) (by omega) (by omega)
              refine z_callV (n := 3) (As := [.int (nI pi), .int (nI fi), .long 1]) (rest := []) ⟨hx, hb, hml, hown, hts⟩ (m_node l g h5 f5_mo hN2 (by omega)) (z_in k_991 rfl) (z_in k_7 rfl) (z_in k_988 rfl) (z_in k_990 rfl) (z_in ks_44 rfl) (by decide +kernel) ⟨by first | exact Nat.le_of_ble_eq_true rfl | (dsimp only; omega) | omega, by first | exact Nat.le_of_ble_eq_true rfl | (dsimp only; omega) | omega⟩ hK hE hw hA rfl f5_mo rfl hl.1 (Nat.le_of_ble_eq_true rfl) d_M_readValue_102 ⟨by first | exact Nat.le_of_ble_eq_true rfl | (dsimp only; omega) | omega, by first | exact Nat.le_of_ble_eq_true rfl | (dsimp only; omega) | omega⟩ rfl (fun r9 h9 H locs hp hw => ?_)
              obtain ⟨r8, m8, n8, k8⟩ := hp
              subst r8
              obtain ⟨h6, e7⟩ : ∃ x9, x9 = h9 := ⟨_, rfl⟩
              subst e7
              have g6_ma_1 : h6 (ma 1) = some ((22, 0), .inl (g.2.1 1, 4000, .inl f)) := k8 _ _ _ f5_ma_1 (by simp)
              have g6_ma_2 : h6 (ma 2) = some ((23, 0), .inl (g.2.1 5, 6, .inr (.inr (.inr (.inr (fun k => some (rw9 k))))))) := k8 _ _ _ f5_ma_2 (by simp)
              have g6_rw9_1 : h6 (rw9 1) = some ((24, 1), .inl (g.2.1 1, 128, .inl (rf 1))) := k8 _ _ _ f5_rw9_1 (by simp)
              have kk6 : z_K (fun y => y = 20 ∨ y = 29 ∨ y = 30 ∨ y = 31) h h6 := kk5.tr (k8.mono (fun y z => by omega))
              refine W.eq (g2 := F0 m 105 ls [.int (nI R.1)]) rfl ?_
              refine lv_pop hx hb d_M_readValue_105 rfl ?_
              refine lv_goto (tgt := 121) hx hb d_M_readValue_106 (by decide) ?_
              exact z_vret hx hb hr hlocks hw (by have addNtb : tbC (addN R (nI fi, nI pi, 1, [])).2 (addN R (nI fi, nI pi, 1, [])).1 = tbC R.2 R.1 := addN_tb; have eX9 : X = .inr (we t n (sk t n p), (addN R (nI fi, nI pi, 1, []))) := (by rw [eX]; unfold valR; rw [if_pos (by rw [ety]; rfl), booR_iW, sk_sk, if_pos tw61.2]; rfl); have eR : resJ X = (-1) := (by rw [eX9]; rfl); refine ⟨rfl, kk6, we t n (sk t n p), (addN R (nI fi, nI pi, 1, [])), ?_, by omega, by omega, n8, fun _ => by refine ⟨eX9, ?_, ?_, Nat.succ_pos _⟩; (· show 2 * (R.1 + 1) ≤ _; have := iW_we (fun k hk => (hf k hk).1) tw61.2; omega); (· show tbC (addN R (nI fi, nI pi, 1, [])).2 (addN R (nI fi, nI pi, 1, [])).1 ≤ _; rw [addNtb]; have := iW_we (fun k hk => (hf k hk).1) tw61.2; omega)⟩; rw [eR, addNtb]; exact m8) (by decide) (by decide) d_M_readValue_121
          · -- 68: False
            exact absurd c_68 (by decide)
        · -- word False
          rw [if_neg tw61] at hp
          obtain ⟨r8, h8⟩ := hp
          subst r8
          subst h8
          refine W.eq (g2 := F0 m 64 ls [.int 0]) rfl ?_
          refine lv_istore (lv' := [(4, .int 0), (3, .int (fTy (S.2 fi))), (0, .ref mo), (1, .int (nI pi)), (2, .int (nI fi))]) hx hb d_M_readValue_64 hl (by decide) rfl (fun ls hl => ?_)
          refine lv_iload hx hb d_M_readValue_66 (lv_at hl 0 rfl) ?_
          refine lv_if_ne (tgt := 89) hx hb d_M_readValue_68 (by decide) (fun c_68 => ?_) (fun c_68 => ?_)
          · -- 68: True
            exact absurd (by decide) c_68
          · -- 68: False
            refine lv_aload_n hx hb d_M_readValue_71 rfl (lv_at hl 2 rfl) ?_
            refine lv_ldc2 hx hb hown (hts _ (z_in k_1005 rfl)) d_M_readValue_72 ?_
            refine z_callV (n := 1) (As := [.long 439721161573]) (rest := []) ⟨hx, hb, hml, hown, hts⟩ (m_takesWord (t := t) (i9 := 9) l g h2 f2_mo f2_ma_1 hn hf (by omega) (by decide)) (z_in k_894 rfl) (z_in k_7 rfl) (z_in k_891 rfl) (z_in k_893 rfl) (z_in ks_29 rfl) (by decide +kernel) ⟨by first | exact Nat.le_of_ble_eq_true rfl | (dsimp only; omega) | omega, by first | exact Nat.le_of_ble_eq_true rfl | (dsimp only; omega) | omega⟩ hK hE hw hA rfl f2_mo rfl hl.1 (Nat.le_of_ble_eq_true rfl) d_M_readValue_75 ⟨by first | exact Nat.le_of_ble_eq_true rfl | (dsimp only; omega) | omega, by first | exact Nat.le_of_ble_eq_true rfl | (dsimp only; omega) | omega⟩ rfl (fun r9 h9 H locs hp hw => ?_)
            by_cases tw75 : ((-1) : Int32) = -1 ∧ iW t n (sk t n p) 9 = true
            · -- word True
              rw [if_pos tw75] at hp
              have wq75 := we_le (t := t) (n := n) (p := sk t n p) (by omega)
              obtain ⟨r8, hh7⟩ := hp
              subst r8
              obtain ⟨h7, e8⟩ : ∃ x9, x9 = h9 := ⟨_, rfl⟩
              subst e8
              have f7_mo : h7 mo = some ((20, 0), .inr (11, mF ma cod tpd (nI n) (nI S.1) cls9 ffl fcl (nI R.1) (nI (tbC R.2 R.1)) ous (nI (we t n (sk t n p))) (-1))) := by rw [← hh7]; exact z_put_eq
              have f7_ma_1 : h7 (ma 1) = some ((22, 0), .inl (g.2.1 1, 4000, .inl f)) := by rw [← hh7]; exact z_keep f2_mo f2_ma_1 (z_t1 (by decide))
              have f7_ma_2 : h7 (ma 2) = some ((23, 0), .inl (g.2.1 5, 6, .inr (.inr (.inr (.inr (fun k => some (rw9 k))))))) := by rw [← hh7]; exact z_keep f2_mo f2_ma_2 (z_t1 (by decide))
              have f7_rw9_1 : h7 (rw9 1) = some ((24, 1), .inl (g.2.1 1, 128, .inl (rf 1))) := by rw [← hh7]; exact z_keep f2_mo f2_rw9_1 (z_t1 (by decide))
              have kk7 : z_K (fun y => y = 20 ∨ y = 29 ∨ y = 30 ∨ y = 31) h h7 := kk2.tr (by rw [← hh7]; exact z_K.put f2_mo (by first | decide | simp | omega))
              have sg_Nh7 : z_K (fun y => y = 20) h h7 := sg_Nh2.tr (by rw [← hh7]; exact z_K.put f2_mo (by simp))
              refine W.eq (g2 := F0 m 78 ls [.int 1]) rfl ?_
              refine lv_if_ne (tgt := 89) hx hb d_M_readValue_78 (by decide) (fun c_78 => ?_) (fun c_78 => ?_)
              · -- 78: True
                have we89 := we_ge t n (sk t n p)
                refine lv_aload_n hx hb d_M_readValue_89 rfl (lv_at hl 2 rfl) ?_
                refine lv_iload_n hx hb d_M_readValue_90 rfl (lv_at hl 3 rfl) ?_
                refine lv_iload_n hx hb d_M_readValue_91 rfl (lv_at hl 4 rfl) ?_
                refine lv_iload hx hb d_M_readValue_92 (lv_at hl 0 rfl) ?_
                refine lv_if_eq (tgt := 101) hx hb d_M_readValue_94 (by decide) (fun c_94 => ?_) (fun c_94 => ?_)
                · -- 94: True
                  refine lv_lconst (v := 0) hx hb d_M_readValue_101 (by decide) ?_
                  obtain ⟨nf2, np2, nr2, ns2, nv2, tx2, hN2⟩ : MNd g h7 ma R := hNd.k sg_Nh7 (by omega) (by omega) (by omega)
                  refine z_callV (n := 3) (As := [.int (nI pi), .int (nI fi), .long 0]) (rest := []) ⟨hx, hb, hml, hown, hts⟩ (m_node l g h7 f7_mo hN2 (by omega)) (z_in k_991 rfl) (z_in k_7 rfl) (z_in k_988 rfl) (z_in k_990 rfl) (z_in ks_44 rfl) (by decide +kernel) ⟨by first | exact Nat.le_of_ble_eq_true rfl | (dsimp only; omega) | omega, by first | exact Nat.le_of_ble_eq_true rfl | (dsimp only; omega) | omega⟩ hK hE hw hA rfl f7_mo rfl hl.1 (Nat.le_of_ble_eq_true rfl) d_M_readValue_102 ⟨by first | exact Nat.le_of_ble_eq_true rfl | (dsimp only; omega) | omega, by first | exact Nat.le_of_ble_eq_true rfl | (dsimp only; omega) | omega⟩ rfl (fun r9 h9 H locs hp hw => ?_)
                  obtain ⟨r8, m8, n8, k8⟩ := hp
                  subst r8
                  obtain ⟨h8, e7⟩ : ∃ x9, x9 = h9 := ⟨_, rfl⟩
                  subst e7
                  have g8_ma_1 : h8 (ma 1) = some ((22, 0), .inl (g.2.1 1, 4000, .inl f)) := k8 _ _ _ f7_ma_1 (by simp)
                  have g8_ma_2 : h8 (ma 2) = some ((23, 0), .inl (g.2.1 5, 6, .inr (.inr (.inr (.inr (fun k => some (rw9 k))))))) := k8 _ _ _ f7_ma_2 (by simp)
                  have g8_rw9_1 : h8 (rw9 1) = some ((24, 1), .inl (g.2.1 1, 128, .inl (rf 1))) := k8 _ _ _ f7_rw9_1 (by simp)
                  have kk8 : z_K (fun y => y = 20 ∨ y = 29 ∨ y = 30 ∨ y = 31) h h8 := kk7.tr (k8.mono (fun y z => by omega))
                  refine W.eq (g2 := F0 m 105 ls [.int (nI R.1)]) rfl ?_
                  refine lv_pop hx hb d_M_readValue_105 rfl ?_
                  refine lv_goto (tgt := 121) hx hb d_M_readValue_106 (by decide) ?_
                  exact z_vret hx hb hr hlocks hw (by have addNtb : tbC (addN R (nI fi, nI pi, 0, [])).2 (addN R (nI fi, nI pi, 0, [])).1 = tbC R.2 R.1 := addN_tb; have eX9 : X = .inr (we t n (sk t n p), (addN R (nI fi, nI pi, 0, []))) := (by rw [eX]; unfold valR; rw [if_pos (by rw [ety]; rfl), booR_iW, sk_sk, if_neg (fun z => tw61 ⟨rfl, z⟩), if_pos tw75.2]; rfl); have eR : resJ X = (-1) := (by rw [eX9]; rfl); refine ⟨rfl, kk8, we t n (sk t n p), (addN R (nI fi, nI pi, 0, [])), ?_, by omega, by omega, n8, fun _ => by refine ⟨eX9, ?_, ?_, Nat.succ_pos _⟩; (· show 2 * (R.1 + 1) ≤ _; have := iW_we (fun k hk => (hf k hk).1) tw75.2; omega); (· show tbC (addN R (nI fi, nI pi, 0, [])).2 (addN R (nI fi, nI pi, 0, [])).1 ≤ _; rw [addNtb]; have := iW_we (fun k hk => (hf k hk).1) tw75.2; omega)⟩; rw [eR, addNtb]; exact m8) (by decide) (by decide) d_M_readValue_121
                · -- 94: False
                  exact absurd (by decide) c_94
              · -- 78: False
                exact absurd c_78 (by decide)
            · -- word False
              rw [if_neg tw75] at hp
              obtain ⟨r8, h8⟩ := hp
              subst r8
              subst h8
              refine W.eq (g2 := F0 m 78 ls [.int 0]) rfl ?_
              refine lv_if_ne (tgt := 89) hx hb d_M_readValue_78 (by decide) (fun c_78 => ?_) (fun c_78 => ?_)
              · -- 78: True
                exact absurd (by decide) c_78
              · -- 78: False
                refine lv_aload_n hx hb d_M_readValue_81 rfl (lv_at hl 2 rfl) ?_
                refine lv_aload_n hx hb d_M_readValue_82 rfl (lv_at hl 2 rfl) ?_
                refine z_get hx hb hts (z_lay i_M) hown hK hw f2_mo rfl 29 (by decide) (z_in k_800 rfl) (fun _ h9 => h9) rfl d_M_readValue_83 ?_
                refine z_callV (n := 1) (As := [.int (nI (sk t n p))]) (rest := []) ⟨hx, hb, hml, hown, hts⟩ (m_fail l g h2 f2_mo) (z_in k_914 rfl) (z_in k_7 rfl) (z_in k_911 rfl) (z_in k_913 rfl) (z_in ks_32 rfl) (by decide +kernel) ⟨by first | exact Nat.le_of_ble_eq_true rfl | (dsimp only; omega) | omega, by first | exact Nat.le_of_ble_eq_true rfl | (dsimp only; omega) | omega⟩ hK hE hw hA rfl f2_mo rfl hl.1 (Nat.le_of_ble_eq_true rfl) d_M_readValue_86 ⟨by first | exact Nat.le_of_ble_eq_true rfl | (dsimp only; omega) | omega, by first | exact Nat.le_of_ble_eq_true rfl | (dsimp only; omega) | omega⟩ rfl (fun r9 h9 H locs hp hw => ?_)
                obtain ⟨r8, hh9⟩ := hp
                subst r8
                obtain ⟨h9, e8⟩ : ∃ x9, x9 = h9 := ⟨_, rfl⟩
                subst e8
                have f9_mo : h9 mo = some ((20, 0), .inr (11, mF ma cod tpd (nI n) (nI S.1) cls9 ffl fcl (nI R.1) (nI (tbC R.2 R.1)) ous (nI (sk t n p)) (nI (sk t n p)))) := by rw [← hh9]; exact z_put_eq
                have f9_ma_1 : h9 (ma 1) = some ((22, 0), .inl (g.2.1 1, 4000, .inl f)) := by rw [← hh9]; exact z_keep f2_mo f2_ma_1 (z_t1 (by decide))
                have f9_ma_2 : h9 (ma 2) = some ((23, 0), .inl (g.2.1 5, 6, .inr (.inr (.inr (.inr (fun k => some (rw9 k))))))) := by rw [← hh9]; exact z_keep f2_mo f2_ma_2 (z_t1 (by decide))
                have f9_rw9_1 : h9 (rw9 1) = some ((24, 1), .inl (g.2.1 1, 128, .inl (rf 1))) := by rw [← hh9]; exact z_keep f2_mo f2_rw9_1 (z_t1 (by decide))
                have kk9 : z_K (fun y => y = 20 ∨ y = 29 ∨ y = 30 ∨ y = 31) h h9 := kk2.tr (by rw [← hh9]; exact z_K.put f2_mo (by first | decide | simp | omega))
                have sg_Nh9 : z_K (fun y => y = 20) h h9 := sg_Nh2.tr (by rw [← hh9]; exact z_K.put f2_mo (by simp))
                refine W.eq (g2 := F0 m 89 ls []) rfl ?_
                have we89 := we_ge t n (sk t n p)
                refine lv_aload_n hx hb d_M_readValue_89 rfl (lv_at hl 2 rfl) ?_
                refine lv_iload_n hx hb d_M_readValue_90 rfl (lv_at hl 3 rfl) ?_
                refine lv_iload_n hx hb d_M_readValue_91 rfl (lv_at hl 4 rfl) ?_
                refine lv_iload hx hb d_M_readValue_92 (lv_at hl 0 rfl) ?_
                refine lv_if_eq (tgt := 101) hx hb d_M_readValue_94 (by decide) (fun c_94 => ?_) (fun c_94 => ?_)
                · -- 94: True
                  refine lv_lconst (v := 0) hx hb d_M_readValue_101 (by decide) ?_
                  obtain ⟨nf2, np2, nr2, ns2, nv2, tx2, hN2⟩ : MNd g h9 ma R := hNd.k sg_Nh9 (by omega) (by omega) (by omega)
                  refine z_callV (n := 3) (As := [.int (nI pi), .int (nI fi), .long 0]) (rest := []) ⟨hx, hb, hml, hown, hts⟩ (m_node l g h9 f9_mo hN2 (by omega)) (z_in k_991 rfl) (z_in k_7 rfl) (z_in k_988 rfl) (z_in k_990 rfl) (z_in ks_44 rfl) (by decide +kernel) ⟨by first | exact Nat.le_of_ble_eq_true rfl | (dsimp only; omega) | omega, by first | exact Nat.le_of_ble_eq_true rfl | (dsimp only; omega) | omega⟩ hK hE hw hA rfl f9_mo rfl hl.1 (Nat.le_of_ble_eq_true rfl) d_M_readValue_102 ⟨by first | exact Nat.le_of_ble_eq_true rfl | (dsimp only; omega) | omega, by first | exact Nat.le_of_ble_eq_true rfl | (dsimp only; omega) | omega⟩ rfl (fun r9 h9 H locs hp hw => ?_)
                  obtain ⟨r8, m8, n8, k8⟩ := hp
                  subst r8
                  obtain ⟨h10, e7⟩ : ∃ x9, x9 = h9 := ⟨_, rfl⟩
                  subst e7
                  have g10_ma_1 : h10 (ma 1) = some ((22, 0), .inl (g.2.1 1, 4000, .inl f)) := k8 _ _ _ f9_ma_1 (by simp)
                  have g10_ma_2 : h10 (ma 2) = some ((23, 0), .inl (g.2.1 5, 6, .inr (.inr (.inr (.inr (fun k => some (rw9 k))))))) := k8 _ _ _ f9_ma_2 (by simp)
                  have g10_rw9_1 : h10 (rw9 1) = some ((24, 1), .inl (g.2.1 1, 128, .inl (rf 1))) := k8 _ _ _ f9_rw9_1 (by simp)
                  have kk10 : z_K (fun y => y = 20 ∨ y = 29 ∨ y = 30 ∨ y = 31) h h10 := kk9.tr (k8.mono (fun y z => by omega))
                  refine W.eq (g2 := F0 m 105 ls [.int (nI R.1)]) rfl ?_
                  refine lv_pop hx hb d_M_readValue_105 rfl ?_
                  refine lv_goto (tgt := 121) hx hb d_M_readValue_106 (by decide) ?_
                  exact z_vret hx hb hr hlocks hw (by have addNtb : tbC (addN R (nI fi, nI pi, 0, [])).2 (addN R (nI fi, nI pi, 0, [])).1 = tbC R.2 R.1 := addN_tb; have eR : resJ X = nI (sk t n p) := (by rw [show X = .inl (sk t n p, R) from (by rw [eX]; unfold valR; rw [if_pos (by rw [ety]; rfl), booR_iW, sk_sk, if_neg (fun z => tw61 ⟨rfl, z⟩), if_neg (fun z => tw75 ⟨rfl, z⟩)]; rfl)]; rfl); refine ⟨rfl, kk10, sk t n p, (addN R (nI fi, nI pi, 0, [])), ?_, by omega, by omega, n8, fun z => absurd (eR.symm.trans z) (nI_ne1 (by omega))⟩; rw [eR, addNtb]; exact m8) (by decide) (by decide) d_M_readValue_121
                · -- 94: False
                  exact absurd (by decide) c_94
    · -- 35: False
      have ety : fTy (S.2 fi) = 3 := by simpa using c_35
      refine lv_aload_n hx hb d_M_readValue_38 rfl (lv_at hl 1 rfl) ?_
      refine lv_iload_n hx hb d_M_readValue_39 rfl (lv_at hl 2 rfl) ?_
      refine lv_iload_n hx hb d_M_readValue_40 rfl (lv_at hl 3 rfl) ?_
      refine lv_lconst (v := 0) hx hb d_M_readValue_41 (by decide) ?_
      obtain ⟨nf2, np2, nr2, ns2, nv2, tx2, hN2⟩ : MNd g h2 ma R := hNd.k sg_Nh2 (by omega) (by omega) (by omega)
      refine z_callV (n := 3) (As := [.int (nI pi), .int (nI fi), .long 0]) (rest := []) ⟨hx, hb, hml, hown, hts⟩ (m_node l g h2 f2_mo hN2 (by omega)) (z_in k_991 rfl) (z_in k_7 rfl) (z_in k_988 rfl) (z_in k_990 rfl) (z_in ks_44 rfl) (by decide +kernel) ⟨by first | exact Nat.le_of_ble_eq_true rfl | (dsimp only; omega) | omega, by first | exact Nat.le_of_ble_eq_true rfl | (dsimp only; omega) | omega⟩ hK hE hw hA rfl f2_mo rfl hl.1 (Nat.le_of_ble_eq_true rfl) d_M_readValue_42 ⟨by first | exact Nat.le_of_ble_eq_true rfl | (dsimp only; omega) | omega, by first | exact Nat.le_of_ble_eq_true rfl | (dsimp only; omega) | omega⟩ rfl (fun r9 h9 H locs hp hw => ?_)
      obtain ⟨r8, m8, n8, k8⟩ := hp
      subst r8
      obtain ⟨h11, e7⟩ : ∃ x9, x9 = h9 := ⟨_, rfl⟩
      subst e7
      have g11_ma_1 : h11 (ma 1) = some ((22, 0), .inl (g.2.1 1, 4000, .inl f)) := k8 _ _ _ f2_ma_1 (by simp)
      have g11_ma_2 : h11 (ma 2) = some ((23, 0), .inl (g.2.1 5, 6, .inr (.inr (.inr (.inr (fun k => some (rw9 k))))))) := k8 _ _ _ f2_ma_2 (by simp)
      have g11_rw9_1 : h11 (rw9 1) = some ((24, 1), .inl (g.2.1 1, 128, .inl (rf 1))) := k8 _ _ _ f2_rw9_1 (by simp)
      have kk11 : z_K (fun y => y = 20 ∨ y = 29 ∨ y = 30 ∨ y = 31) h h11 := kk2.tr (k8.mono (fun y z => by omega))
      refine W.eq (g2 := F0 m 45 ls [.int (nI R.1)]) rfl ?_
      refine lv_pop hx hb d_M_readValue_45 rfl ?_
      refine lv_aload_n hx hb d_M_readValue_46 rfl (lv_at hl 1 rfl) ?_
      refine z_callV (n := 0) (As := []) (rest := []) ⟨hx, hb, hml, hown, hts⟩ (m_readText (t := t) (R := R) (fi := nI fi) (pa := nI pi) l g h11 m8 g11_ma_1 hn hf (by omega) (sk_sk t n p) n8 (by omega) hR0 (by omega) rfl) (z_in k_995 rfl) (z_in k_7 rfl) (z_in k_992 rfl) (z_in k_994 rfl) (z_in ks_45 rfl) (by decide +kernel) ⟨by first | exact Nat.le_of_ble_eq_true rfl | (dsimp only; omega) | omega, by first | exact Nat.le_of_ble_eq_true rfl | (dsimp only; omega) | omega⟩ hK hE hw hA rfl m8 rfl hl.1 (Nat.le_of_ble_eq_true rfl) d_M_readValue_47 ⟨by first | exact Nat.le_of_ble_eq_true rfl | (dsimp only; omega) | omega, by first | exact Nat.le_of_ble_eq_true rfl | (dsimp only; omega) | omega⟩ rfl (fun r9 h9 H locs hp hw => ?_)
      obtain ⟨r8, kk8, p4, l4, m4, le4, ge4, n4, im4⟩ := hp
      subst r8
      obtain ⟨h12, e7⟩ : ∃ x9, x9 = h9 := ⟨_, rfl⟩
      subst e7
      have g12_ma_1 : h12 (ma 1) = some ((22, 0), .inl (g.2.1 1, 4000, .inl f)) := kk8 _ _ _ g11_ma_1 (by simp)
      have g12_ma_2 : h12 (ma 2) = some ((23, 0), .inl (g.2.1 5, 6, .inr (.inr (.inr (.inr (fun k => some (rw9 k))))))) := kk8 _ _ _ g11_ma_2 (by simp)
      have g12_rw9_1 : h12 (rw9 1) = some ((24, 1), .inl (g.2.1 1, 128, .inl (rf 1))) := kk8 _ _ _ g11_rw9_1 (by simp)
      have kk12 : z_K (fun y => y = 20 ∨ y = 29 ∨ y = 30 ∨ y = 31) h h12 := kk11.tr (kk8.mono (fun y z => by omega))
      have addNtb : tbC (addN R (nI fi, nI pi, 0, l4)).2 (addN R (nI fi, nI pi, 0, l4)).1 = tbC R.2 R.1 + l4.length := addN_tb
      refine W.eq (g2 := F0 m 50 ls []) rfl ?_
      refine lv_goto (tgt := 121) hx hb d_M_readValue_50 (by decide) ?_
      exact z_vret hx hb hr hlocks hw (by have eX9 : X = ltR (txR t n (sk t n p)) R fi pi := (by rw [eX]; unfold valR; rw [if_neg (by rw [ety]; decide), if_neg (by rw [ety]; decide), if_neg (by rw [ety]; decide), if_pos (by rw [ety]; rfl)]); have eR : resJ X = resT (txR t n (sk t n p)) := (by rw [eX9, resJ_lt]); refine ⟨rfl, kk12, p4, (addN R (nI fi, nI pi, 0, l4)), ?_, by omega, by omega, n4, fun z => by have z2 := im4 (eR.symm.trans z); have z3 := txR_len (fun k hk => (hf k hk).1) z2; refine ⟨by rw [eX9, z2]; rfl, ?_, ?_, Nat.succ_pos _⟩; (· show 2 * (R.1 + 1) ≤ _; have z3 : l4.length + sk t n p + 1 ≤ p4 := z3; omega); (· show tbC (addN R (nI fi, nI pi, 0, l4)).2 (addN R (nI fi, nI pi, 0, l4)).1 ≤ _; rw [addNtb]; have z3 : l4.length + sk t n p + 1 ≤ p4 := z3; omega)⟩; rw [eR, addNtb]; exact m4) (by decide) (by decide) d_M_readValue_121
  · -- 15: False
    have ety : fTy (S.2 fi) = 4 := by simpa using c_15
    refine lv_aload_n hx hb d_M_readValue_18 rfl (lv_at hl 1 rfl) ?_
    refine lv_aload_n hx hb d_M_readValue_19 rfl (lv_at hl 1 rfl) ?_
    refine lv_iload_n hx hb d_M_readValue_20 rfl (lv_at hl 2 rfl) ?_
    refine lv_iload_n hx hb d_M_readValue_21 rfl (lv_at hl 3 rfl) ?_
    refine lv_lconst (v := 0) hx hb d_M_readValue_22 (by decide) ?_
    obtain ⟨nf2, np2, nr2, ns2, nv2, tx2, hN2⟩ : MNd g h2 ma R := hNd.k sg_Nh2 (by omega) (by omega) (by omega)
    refine z_callV (n := 3) (As := [.int (nI pi), .int (nI fi), .long 0]) (rest := [.ref mo]) ⟨hx, hb, hml, hown, hts⟩ (m_node l g h2 f2_mo hN2 (by omega)) (z_in k_991 rfl) (z_in k_7 rfl) (z_in k_988 rfl) (z_in k_990 rfl) (z_in ks_44 rfl) (by decide +kernel) ⟨by first | exact Nat.le_of_ble_eq_true rfl | (dsimp only; omega) | omega, by first | exact Nat.le_of_ble_eq_true rfl | (dsimp only; omega) | omega⟩ hK hE hw hA rfl f2_mo rfl hl.1 (Nat.le_of_ble_eq_true rfl) d_M_readValue_23 ⟨by first | exact Nat.le_of_ble_eq_true rfl | (dsimp only; omega) | omega, by first | exact Nat.le_of_ble_eq_true rfl | (dsimp only; omega) | omega⟩ rfl (fun r9 h9 H locs hp hw => ?_)
    obtain ⟨r8, m8, n8, k8⟩ := hp
    subst r8
    obtain ⟨h13, e7⟩ : ∃ x9, x9 = h9 := ⟨_, rfl⟩
    subst e7
    have g13_ma_1 : h13 (ma 1) = some ((22, 0), .inl (g.2.1 1, 4000, .inl f)) := k8 _ _ _ f2_ma_1 (by simp)
    have g13_ma_2 : h13 (ma 2) = some ((23, 0), .inl (g.2.1 5, 6, .inr (.inr (.inr (.inr (fun k => some (rw9 k))))))) := k8 _ _ _ f2_ma_2 (by simp)
    have g13_rw9_1 : h13 (rw9 1) = some ((24, 1), .inl (g.2.1 1, 128, .inl (rf 1))) := k8 _ _ _ f2_rw9_1 (by simp)
    have kk13 : z_K (fun y => y = 20 ∨ y = 29 ∨ y = 30 ∨ y = 31) h h13 := kk2.tr (k8.mono (fun y z => by omega))
    refine W.eq (g2 := F0 m 26 ls [.int (nI R.1), .ref mo]) rfl ?_
    refine lv_iload_n hx hb d_M_readValue_26 rfl (lv_at hl 3 rfl) ?_
    have addNtb : tbC (addN R (nI fi, nI pi, 0, [])).2 (addN R (nI fi, nI pi, 0, [])).1 = tbC R.2 R.1 := addN_tb
    have fn14 : h13 mo = some ((20, 0), .inr (11, mF ma cod tpd (nI n) (nI S.1) cls9 ffl fcl (nI ((addN R (nI fi, nI pi, 0, [])).1)) (nI (tbC (addN R (nI fi, nI pi, 0, [])).2 (addN R (nI fi, nI pi, 0, [])).1)) ous (nI (sk t n p)) (-1))) := by rw [addNtb]; exact m8
    refine z_callV (n := 2) (As := [.int (nI R.1), .int (nI fi)]) (rest := []) ⟨hx, hb, hml, hown, hts⟩ (hG ety h13 (sk t n p) (addN R (nI fi, nI pi, 0, [])) R.1 fn14 g13_ma_1 (hSc.k kk13 (by omega) (by omega) (by omega)) n8 (Nat.succ_pos _) (by omega) (by show 2 * (R.1 + 1) ≤ _; omega) (by show tbC (addN R (nI fi, nI pi, 0, [])).2 (addN R (nI fi, nI pi, 0, [])).1 ≤ _; rw [addNtb]; omega)) (z_in k_971 rfl) (z_in k_7 rfl) (z_in k_968 rfl) (z_in k_970 rfl) (z_in ks_39 rfl) (by decide +kernel) ⟨by first | exact Nat.le_of_ble_eq_true rfl | (dsimp only; omega) | omega, by first | exact Nat.le_of_ble_eq_true rfl | (dsimp only; omega) | omega⟩ hK hE hw hA rfl fn14 rfl hl.1 (Nat.le_of_ble_eq_true rfl) d_M_readValue_27 ⟨by first | exact Nat.le_of_ble_eq_true rfl | (dsimp only; omega) | omega, by first | exact Nat.le_of_ble_eq_true rfl | (dsimp only; omega) | omega⟩ rfl (fun r9 h9 H locs hp hw => ?_)
    obtain ⟨r8, kk8, p4, R4, m4, le4, ge4, n4, im4⟩ := hp
    subst r8
    obtain ⟨h15, e7⟩ : ∃ x9, x9 = h9 := ⟨_, rfl⟩
    subst e7
    have g15_ma_1 : h15 (ma 1) = some ((22, 0), .inl (g.2.1 1, 4000, .inl f)) := kk8 _ _ _ g13_ma_1 (by simp)
    have g15_ma_2 : h15 (ma 2) = some ((23, 0), .inl (g.2.1 5, 6, .inr (.inr (.inr (.inr (fun k => some (rw9 k))))))) := kk8 _ _ _ g13_ma_2 (by simp)
    have g15_rw9_1 : h15 (rw9 1) = some ((24, 1), .inl (g.2.1 1, 128, .inl (rf 1))) := kk8 _ _ _ g13_rw9_1 (by simp)
    have kk15 : z_K (fun y => y = 20 ∨ y = 29 ∨ y = 30 ∨ y = 31) h h15 := kk13.tr (kk8.mono (fun y z => by omega))
    refine W.eq (g2 := F0 m 30 ls []) rfl ?_
    refine lv_goto (tgt := 121) hx hb d_M_readValue_30 (by decide) ?_
    exact z_vret hx hb hr hlocks hw (by have eX9 : X = MR (sk t n p) (addN R (nI fi, nI pi, 0, [])) R.1 fi := (by rw [eX]; unfold valR; rw [if_neg (by rw [ety]; decide), if_neg (by rw [ety]; decide), if_neg (by rw [ety]; decide), if_neg (by rw [ety]; decide)]); have eR : resJ X = resJ (MR (sk t n p) (addN R (nI fi, nI pi, 0, [])) R.1 fi) := (congrArg resJ eX9); refine ⟨rfl, kk15, p4, R4, ?_, by omega, by omega, n4, fun z => ⟨eX9.trans (im4 (eR.symm.trans z)).1, (im4 (eR.symm.trans z)).2⟩⟩; rw [eR]; exact m4) (by decide) (by decide) d_M_readValue_121

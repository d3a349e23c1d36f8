theorem m_say2 (l : Launch) (g : z_G) (h : z_H) {mo : Nat} {ma : Nat → Nat} {cod tpd fls cls9 ffl fcl ous il : Int32} {siz at9 : Int32} {R : Rec} {nf np nr ns : Nat → Int32} {nv : Nat → Int64} {tx : Nat → Int32} {pa fi : Int32} {v9 : Int64} {l9 : List Nat} {c9 m9 : Nat} (hm : l9.length = m9) (hmo : h mo = some ((20, 0), .inr (11, mF ma cod tpd siz fls cls9 ffl fcl (nI (R.1 + 1)) (nI (tbC R.2 R.1 + m9)) ous at9 il))) (hNd : MNp g h ma (addN R (fi, pa, v9, l9)) nf np nr ns nv tx) (hR2 : R.1 < 2000) (hR0 : 0 < R.1) (hsa : tbC R.2 R.1 + m9 < 16000) : z_C l y_M_say prog_13_method_27_code 2 (Option.none : Option Jvm.ClassFile.FieldType) 0 0 0 0 g [.ref mo, .int (nI c9)] h (fun x h1 => x = none ∧ h1 mo = some ((20, 0), .inr (11, mF ma cod tpd siz fls cls9 ffl fcl (nI (R.1 + 1)) (nI (tbC R.2 R.1 + m9 + 1)) ous at9 il)) ∧ MNd g h1 ma (addN R (fi, pa, v9, l9 ++ [c9])) ∧ z_K (fun y => y = 20 ∨ y = 29 ∨ y = 31) h h1) := by
  subst hm
  exact m_say l g h hmo hNd hR2 hR0 hsa
def resT (X : Sum Nat (Nat × List Nat)) : Int32 := match X with
  | .inl F => nI F
  | .inr _ => -1
theorem txL_end {t : Nat → Nat} {n k p : Nat} {l : List Nat} (h : bt t n p = 39) : txL t n (k + 1) p l = .inr (p + 1, l) := by
  simp only [txL]; rw [if_pos h]
theorem txL_no {t : Nat → Nat} {n k p : Nat} {l : List Nat} (h : ¬ bt t n p = 39) (h2 : bt t n p < 32 ∨ 126 < bt t n p ∨ 255 ≤ l.length) : txL t n (k + 1) p l = .inl p := by
  simp only [txL]
  rw [if_neg h]
  by_cases h3 : bt t n p = -1 ∨ 255 ≤ l.length
  · rw [if_pos h3]
  · rw [if_neg h3]
    have h4 : bt t n p < 32 ∨ 126 < bt t n p := by
      rcases h2 with z | z | z
      · exact Or.inl z
      · exact Or.inr z
      · exact absurd (Or.inr z) h3
    rw [if_neg (fun z => by rw [z] at h4; rcases h4 with z | z <;> exact absurd z (by decide))]
    unfold plnR
    rw [if_pos h4]
theorem txL_pl {t : Nat → Nat} {n k p : Nat} {l : List Nat} (h : ¬ bt t n p = 39) (h1 : ¬ bt t n p < 32) (h2 : ¬ 126 < bt t n p) (h3 : l.length < 255) (h4 : ¬ bt t n p = 92) (hp : p < n) (ht : t p < 256) : txL t n (k + 1) p l = txL t n k (p + 1) (l ++ [t p]) := by
  simp only [txL]
  rw [if_neg h, if_neg (fun z => z.elim (fun z => h1 (by rw [z]; decide)) (fun z => by omega)), if_neg h4]
  unfold plnR
  rw [if_neg (fun z => z.elim h1 h2)]
  dsimp only
  rw [bt_in hp, nI_clamp (by omega)]
theorem txL_en {t : Nat → Nat} {n k p : Nat} {l : List Nat} (h3 : l.length < 255) (h4 : bt t n p = 92) {F : Nat} (hX : escR t n p = .inl F) : txL t n (k + 1) p l = .inl F := by
  simp only [txL]
  rw [if_neg (by rw [h4]; decide), if_neg (fun z => z.elim (fun z => by rw [h4] at z; exact absurd z (by decide)) (fun z => by omega)), if_pos h4, hX]
theorem txL_ey {t : Nat → Nat} {n k p : Nat} {l : List Nat} (h3 : l.length < 255) (h4 : bt t n p = 92) {x : Int32 × Nat} (hX : escR t n p = .inr x) : txL t n (k + 1) p l = txL t n k x.2 (l ++ [x.1.toNatClampNeg]) := by
  simp only [txL]
  rw [if_neg (by rw [h4]; decide), if_neg (fun z => z.elim (fun z => by rw [h4] at z; exact absurd z (by decide)) (fun z => by omega)), if_pos h4, hX]
theorem escR_F {t : Nat → Nat} {n p F : Nat} (hp : p ≤ n) (h : escR t n p = .inl F) : F ≤ n := by
  unfold escR at h
  repeat' split at h
  all_goals first | (cases h; done) | (injection h with h; omega)
/-- what reading a text does in the reference -/
def txQ (g : z_G) (h h1 : z_H) (mo : Nat) (ma : Nat → Nat) (cod tpd fls cls9 ffl fcl ous : Int32) (n q : Nat) (R : Rec) (fi pa : Int32) (X : Sum Nat (Nat × List Nat)) : Prop := z_K (fun y => y = 20 ∨ y = 29 ∨ y = 31) h h1 ∧ ∃ (p1 : Nat) (l1 : List Nat), h1 mo = some ((20, 0), .inr (11, mF ma cod tpd (nI n) fls cls9 ffl fcl (nI (R.1 + 1)) (nI (tbC R.2 R.1 + l1.length)) ous (nI p1) (resT X))) ∧ p1 ≤ n ∧ q ≤ p1 ∧ MNd g h1 ma (addN R (fi, pa, 0, l1)) ∧ (resT X = -1 → X = .inr (p1, l1))

set_option maxHeartbeats 2000000 in
set_option maxRecDepth 100000 in
theorem m_readText (l : Launch) (g : z_G) (h : z_H) {mo : Nat} {ma : Nat → Nat} {cod tpd fls cls9 ffl fcl ous : Int32} {n p : Nat} {f : Nat → Int32} {t : Nat → Nat} {R : Rec} {fi pa : Int32} {X : Sum Nat (Nat × List Nat)} (hmo : h mo = some ((20, 0), .inr (11, mF ma cod tpd (nI n) fls cls9 ffl fcl (nI (R.1 + 1)) (nI (tbC R.2 R.1)) ous (nI p) (-1)))) (htx : h (ma 1) = some ((22, 0), .inl (g.2.1 1, 4000, .inl f))) (hn : n ≤ 4000) (hf : ∀ k, k < n → t k < 256 ∧ f k = nI (t k)) (hp : p ≤ n) (hsk : sk t n p = p) (hNd : MNd g h ma (addN R (fi, pa, 0, []))) (hR2 : R.1 < 2000) (hR0 : 0 < R.1) (hsa : tbC R.2 R.1 ≤ 4000) (eX : X = txR t n p) : z_C l y_M_readText prog_13_method_28_code 4 (Option.none : Option Jvm.ClassFile.FieldType) 2 90 0 0 g [.ref mo] h (fun x h1 => x = none ∧ txQ g h h1 mo ma cod tpd fls cls9 ffl fcl ous n p R fi pa X) := by
  refine z_C.of (by decide) (Nat.le_of_ble_eq_true rfl) (fun pg en s m below meth cd A ls hx hb hml hr hts hown hlocks hnm hK hE hA hw hl => ?_)
  have hl : lv_has ls 4 [(0, .ref mo)] := hl
  have kk0 : z_K (fun y => y = 20 ∨ y = 29 ∨ y = 31) h h := z_K.rf
  have sg_Nh : z_K (fun y => y = 20) h h := z_K.rf
  refine lv_aload_n hx hb d_M_readText_0 rfl (lv_at hl 0 rfl) ?_
  refine z_callV (n := 0) (As := []) (rest := []) ⟨hx, hb, hml, hown, hts⟩ (m_look (t := t) l g h hmo htx hn hf (by omega)) (z_in k_889 rfl) (z_in k_7 rfl) (z_in k_886 rfl) (z_in k_888 rfl) (z_in ks_28 rfl) (by decide +kernel) ⟨by first | exact Nat.le_of_ble_eq_true rfl | (dsimp only; omega) | omega, by first | exact Nat.le_of_ble_eq_true rfl | (dsimp only; omega) | omega⟩ hK hE hw hA rfl hmo rfl hl.1 (Nat.le_of_ble_eq_true rfl) d_M_readText_1 ⟨by first | exact Nat.le_of_ble_eq_true rfl | (dsimp only; omega) | omega, by first | exact Nat.le_of_ble_eq_true rfl | (dsimp only; omega) | omega⟩ rfl (fun r9 h9 H locs hp hw => ?_)
  obtain ⟨r8, h8⟩ := hp
  subst r8
  subst h8
  refine W.eq (g2 := F0 m 4 ls [.int (bt t n p)]) rfl ?_
  refine lv_bipush (v := 39) hx hb d_M_readText_4 (by decide) ?_
  refine lv_icmp_eq (tgt := 18) hx hb d_M_readText_6 (by decide) (fun c_6 => ?_) (fun c_6 => ?_)
  · -- 6: True
    have eX2 : X = txL t n 256 (p + 1) [] := by rw [eX]; unfold txR; rw [hsk, if_pos c_6]
    have l18 := bt_lt (c := 39) c_6
    refine lv_aload_n hx hb d_M_readText_18 rfl (lv_at hl 0 rfl) ?_
    refine lv_dup hx hb d_M_readText_19 rfl ?_
    refine z_get hx hb hts (z_lay i_M) hown hK hw hmo rfl 29 (by decide) (z_in k_800 rfl) (fun _ h9 => h9) rfl d_M_readText_20 ?_
    refine lv_iconst (v := 1) hx hb d_M_readText_23 (by decide) ?_
    refine lv_iadd hx hb d_M_readText_24 ?_
    refine z_topi (y := nI (p + 1)) (nI_add p 1) ?_
    refine z_putf (ty := .int) hx hb hts (z_lay i_M) t_M t_M_ok n_M hown hK hw hmo rfl 29 (by decide) (z_in k_800 rfl) (fun _ h9 => h9) rfl (by decide +kernel) rfl rfl (Nat.le_of_ble_eq_true rfl) d_M_readText_25 (fun H locs hw => ?_)
    obtain ⟨h1, hh1⟩ : ∃ x9, z_put h mo (20, 0) (.inr (11, mF ma cod tpd (nI n) fls cls9 ffl fcl (nI (R.1 + 1)) (nI (tbC R.2 R.1)) ous (nI (p + 1)) (-1))) = x9 := ⟨_, rfl⟩
    have hw : z_S g A s.heap h1 H locs := by rw [← hh1]; exact hw
    have f1_mo : h1 mo = some ((20, 0), .inr (11, mF ma cod tpd (nI n) fls cls9 ffl fcl (nI (R.1 + 1)) (nI (tbC R.2 R.1)) ous (nI (p + 1)) (-1))) := by rw [← hh1]; exact z_put_eq
    have f1_ma_1 : h1 (ma 1) = some ((22, 0), .inl (g.2.1 1, 4000, .inl f)) := by rw [← hh1]; exact z_keep hmo htx (z_t1 (by decide))
    have kk1 : z_K (fun y => y = 20 ∨ y = 29 ∨ y = 31) h h1 := kk0.tr (by rw [← hh1]; exact z_K.put hmo (by first | decide | simp | omega))
    have sg_Nh1 : z_K (fun y => y = 20) h h1 := sg_Nh.tr (by rw [← hh1]; exact z_K.put hmo (by simp))
    refine lv_iconst (v := 0) hx hb d_M_readText_28 (by decide) ?_
    refine lv_istore_n (lv' := [(1, .int 0), (0, .ref mo)]) hx hb d_M_readText_29 rfl hl (by decide) rfl (fun ls hl => ?_)
    have loop_30 : ∀ (fuel : Nat) (p1 : Nat) (l9 : List Nat) (m9 : Nat) (hL : z_H) (H : Heap) (locs : List Loc) (ls : Array Slot) (L30_mo : hL mo = some ((20, 0), .inr (11, mF ma cod tpd (nI n) fls cls9 ffl fcl (nI (R.1 + 1)) (nI (tbC R.2 R.1 + m9)) ous (nI p1) (-1)))) (L30_ma_1 : hL (ma 1) = some ((22, 0), .inl (g.2.1 1, 4000, .inl f))) (hm9 : l9.length = m9) (hpl : p1 ≤ n ∧ p ≤ p1 ∧ m9 ≤ 255) (kkT : z_K (fun y => y = 20 ∨ y = 29 ∨ y = 31) h hL) (hN9 : MNd g hL ma (addN R (fi, pa, 0, l9))) (hX9 : X = txL t n (256 - m9) p1 l9), (256 - m9) < fuel → z_S g A s.heap hL H locs → lv_has ls 4 [(0, .ref mo), (1, .int (nI m9))] → W pg l en { frames := 2, cells := 0, slots := 0, locals := 90 } s m [.ref mo].toArray below meth cd H locs 0 0 (MQ below (z_Q g A (fun x h1 => x = none ∧ txQ g h h1 mo ma cod tpd fls cls9 ffl fcl ous n p R fi pa X)) [.ref mo].toArray s 0 0 A) (F0 m 30 ls []) := by
      intro fuel
      induction fuel with
      | zero => intro p1 l9 m9 hL H locs ls L30_mo L30_ma_1 hm9 hpl kkT hN9 hX9 hm; exact absurd hm (Nat.not_lt_zero _)
      | succ fuel ih_30 =>
        intro p1 l9 m9 hL H locs ls L30_mo L30_ma_1 hm9 hpl kkT hN9 hX9 hm hw hl
        refine lv_aload_n hx hb d_M_readText_30 rfl (lv_at hl 0 rfl) ?_
        refine z_get hx hb hts (z_lay i_M) hown hK hw L30_mo rfl 30 (by decide) (z_in k_801 rfl) (fun _ h9 => h9) rfl d_M_readText_31 ?_
        refine lv_iconst (v := (-1)) hx hb d_M_readText_34 (by decide) ?_
        refine lv_icmp_ne (tgt := 136) hx hb d_M_readText_35 (by decide) (fun c_35 => ?_) (fun c_35 => ?_)
        · -- 35: True
          exact absurd (by decide) c_35
        · -- 35: False
          have e25 : 256 - m9 = (255 - m9) + 1 := by omega
          rw [e25] at hX9
          have sg_NhL : z_K (fun y => y = 20) hL hL := z_K.rf
          refine lv_aload_n hx hb d_M_readText_38 rfl (lv_at hl 0 rfl) ?_
          refine z_callV (n := 0) (As := []) (rest := []) ⟨hx, hb, hml, hown, hts⟩ (m_look (t := t) l g hL L30_mo L30_ma_1 hn hf (by omega)) (z_in k_889 rfl) (z_in k_7 rfl) (z_in k_886 rfl) (z_in k_888 rfl) (z_in ks_28 rfl) (by decide +kernel) ⟨by first | exact Nat.le_of_ble_eq_true rfl | (dsimp only; omega) | omega, by first | exact Nat.le_of_ble_eq_true rfl | (dsimp only; omega) | omega⟩ hK hE hw hA rfl L30_mo rfl hl.1 (Nat.le_of_ble_eq_true rfl) d_M_readText_39 ⟨by first | exact Nat.le_of_ble_eq_true rfl | (dsimp only; omega) | omega, by first | exact Nat.le_of_ble_eq_true rfl | (dsimp only; omega) | omega⟩ rfl (fun r9 h9 H locs hp hw => ?_)
          obtain ⟨r8, h8⟩ := hp
          subst r8
          subst h8
          refine W.eq (g2 := F0 m 42 ls [.int (bt t n p1)]) rfl ?_
          refine lv_bipush (v := 39) hx hb d_M_readText_42 (by decide) ?_
          refine lv_icmp_eq (tgt := 136) hx hb d_M_readText_44 (by decide) (fun c_44 => ?_) (fun c_44 => ?_)
          · -- 44: True
            have l136 := bt_lt (c := 39) c_44
            refine lv_aload_n hx hb d_M_readText_136 rfl (lv_at hl 0 rfl) ?_
            refine lv_dup hx hb d_M_readText_137 rfl ?_
            refine z_get hx hb hts (z_lay i_M) hown hK hw L30_mo rfl 29 (by decide) (z_in k_800 rfl) (fun _ h9 => h9) rfl d_M_readText_138 ?_
            refine lv_iconst (v := 1) hx hb d_M_readText_141 (by decide) ?_
            refine lv_iadd hx hb d_M_readText_142 ?_
            refine z_topi (y := nI (p1 + 1)) (nI_add p1 1) ?_
            refine z_putf (ty := .int) hx hb hts (z_lay i_M) t_M t_M_ok n_M hown hK hw L30_mo rfl 29 (by decide) (z_in k_800 rfl) (fun _ h9 => h9) rfl (by decide +kernel) rfl rfl (Nat.le_of_ble_eq_true rfl) d_M_readText_143 (fun H locs hw => ?_)
            obtain ⟨h2, hh2⟩ : ∃ x9, z_put hL mo (20, 0) (.inr (11, mF ma cod tpd (nI n) fls cls9 ffl fcl (nI (R.1 + 1)) (nI (tbC R.2 R.1 + m9)) ous (nI (p1 + 1)) (-1))) = x9 := ⟨_, rfl⟩
            have hw : z_S g A s.heap h2 H locs := by rw [← hh2]; exact hw
            have f2_mo : h2 mo = some ((20, 0), .inr (11, mF ma cod tpd (nI n) fls cls9 ffl fcl (nI (R.1 + 1)) (nI (tbC R.2 R.1 + m9)) ous (nI (p1 + 1)) (-1))) := by rw [← hh2]; exact z_put_eq
            have f2_ma_1 : h2 (ma 1) = some ((22, 0), .inl (g.2.1 1, 4000, .inl f)) := by rw [← hh2]; exact z_keep L30_mo L30_ma_1 (z_t1 (by decide))
            have kk2 : z_K (fun y => y = 20 ∨ y = 29 ∨ y = 31) h h2 := kkT.tr (by rw [← hh2]; exact z_K.put L30_mo (by first | decide | simp | omega))
            have sg_Nh2 : z_K (fun y => y = 20) hL h2 := sg_NhL.tr (by rw [← hh2]; exact z_K.put L30_mo (by simp))
            exact z_vret hx hb hr hlocks hw (by have eR : resT X = (-1) := (by rw [show X = .inr (p1 + 1, l9) by rw [hX9]; exact txL_end c_44]; rfl); refine ⟨rfl, kk2, p1 + 1, l9, ?_, by omega, by omega, ?_, fun _ => show X = .inr (p1 + 1, l9) by rw [hX9]; exact txL_end c_44⟩; (· rw [eR, hm9]; exact f2_mo); (· exact hN9.k sg_Nh2 (by omega) (by omega) (by omega))) (by decide) (by decide) d_M_readText_146
          · -- 44: False
            refine lv_aload_n hx hb d_M_readText_47 rfl (lv_at hl 0 rfl) ?_
            refine z_get hx hb hts (z_lay i_M) hown hK hw L30_mo rfl 29 (by decide) (z_in k_800 rfl) (fun _ h9 => h9) rfl d_M_readText_48 ?_
            refine lv_istore_n (lv' := [(2, .int (nI p1)), (0, .ref mo), (1, .int (nI m9))]) hx hb d_M_readText_51 rfl hl (by decide) rfl (fun ls hl => ?_)
            refine lv_aload_n hx hb d_M_readText_52 rfl (lv_at hl 1 rfl) ?_
            refine z_callV (n := 0) (As := []) (rest := []) ⟨hx, hb, hml, hown, hts⟩ (m_look (t := t) l g hL L30_mo L30_ma_1 hn hf (by omega)) (z_in k_889 rfl) (z_in k_7 rfl) (z_in k_886 rfl) (z_in k_888 rfl) (z_in ks_28 rfl) (by decide +kernel) ⟨by first | exact Nat.le_of_ble_eq_true rfl | (dsimp only; omega) | omega, by first | exact Nat.le_of_ble_eq_true rfl | (dsimp only; omega) | omega⟩ hK hE hw hA rfl L30_mo rfl hl.1 (Nat.le_of_ble_eq_true rfl) d_M_readText_53 ⟨by first | exact Nat.le_of_ble_eq_true rfl | (dsimp only; omega) | omega, by first | exact Nat.le_of_ble_eq_true rfl | (dsimp only; omega) | omega⟩ rfl (fun r9 h9 H locs hp hw => ?_)
            obtain ⟨r8, h8⟩ := hp
            subst r8
            subst h8
            refine W.eq (g2 := F0 m 56 ls [.int (bt t n p1)]) rfl ?_
            refine lv_istore_n (lv' := [(3, .int (bt t n p1)), (2, .int (nI p1)), (0, .ref mo), (1, .int (nI m9))]) hx hb d_M_readText_56 rfl hl (by decide) rfl (fun ls hl => ?_)
            refine lv_iload_n hx hb d_M_readText_57 rfl (lv_at hl 0 rfl) ?_
            refine lv_bipush (v := 32) hx hb d_M_readText_58 (by decide) ?_
            refine lv_icmp_lt (tgt := 76) hx hb d_M_readText_60 (by decide) (fun c_60 => ?_) (fun c_60 => ?_)
            · -- 60: True
              have eXn : X = .inl p1 := by rw [hX9]; exact txL_no c_44 (Or.inl c_60)
              refine lv_aload_n hx hb d_M_readText_76 rfl (lv_at hl 2 rfl) ?_
              refine lv_iload_n hx hb d_M_readText_77 rfl (lv_at hl 0 rfl) ?_
              refine lv_iconst (v := (-1)) hx hb d_M_readText_78 (by decide) ?_
              refine lv_icmp_ne (tgt := 89) hx hb d_M_readText_79 (by decide) (fun c_79 => ?_) (fun c_79 => ?_)
              · -- 79: True
                refine lv_iload_n hx hb d_M_readText_89 rfl (lv_at hl 1 rfl) ?_
                refine z_callV (n := 1) (As := [.int (nI p1)]) (rest := []) ⟨hx, hb, hml, hown, hts⟩ (m_fail l g hL L30_mo) (z_in k_914 rfl) (z_in k_7 rfl) (z_in k_911 rfl) (z_in k_913 rfl) (z_in ks_32 rfl) (by decide +kernel) ⟨by first | exact Nat.le_of_ble_eq_true rfl | (dsimp only; omega) | omega, by first | exact Nat.le_of_ble_eq_true rfl | (dsimp only; omega) | omega⟩ hK hE hw hA rfl L30_mo rfl hl.1 (Nat.le_of_ble_eq_true rfl) d_M_readText_90 ⟨by first | exact Nat.le_of_ble_eq_true rfl | (dsimp only; omega) | omega, by first | exact Nat.le_of_ble_eq_true rfl | (dsimp only; omega) | omega⟩ rfl (fun r9 h9 H locs hp hw => ?_)
                obtain ⟨r8, hh3⟩ := hp
                subst r8
                obtain ⟨h3, e8⟩ : ∃ x9, x9 = h9 := ⟨_, rfl⟩
                subst e8
                have f3_mo : h3 mo = some ((20, 0), .inr (11, mF ma cod tpd (nI n) fls cls9 ffl fcl (nI (R.1 + 1)) (nI (tbC R.2 R.1 + m9)) ous (nI p1) (nI p1))) := by rw [← hh3]; exact z_put_eq
                have f3_ma_1 : h3 (ma 1) = some ((22, 0), .inl (g.2.1 1, 4000, .inl f)) := by rw [← hh3]; exact z_keep L30_mo L30_ma_1 (z_t1 (by decide))
                have kk3 : z_K (fun y => y = 20 ∨ y = 29 ∨ y = 31) h h3 := kkT.tr (by rw [← hh3]; exact z_K.put L30_mo (by first | decide | simp | omega))
                have sg_Nh3 : z_K (fun y => y = 20) hL h3 := sg_NhL.tr (by rw [← hh3]; exact z_K.put L30_mo (by simp))
                refine W.eq (g2 := F0 m 93 ls []) rfl ?_
                exact z_vret hx hb hr hlocks hw (by have eR : resT X = nI p1 := (by rw [eXn]; rfl); refine ⟨rfl, kk3, p1, l9, ?_, by omega, by omega, ?_, fun z => absurd (eR.symm.trans z) (nI_ne1 (by omega))⟩; (· rw [eR, hm9]; exact f3_mo); (· exact hN9.k sg_Nh3 (by omega) (by omega) (by omega))) (by decide) (by decide) d_M_readText_93
              · -- 79: False
                have ep1 : p1 = n := by have := (bt_end (fun k hk => (hf k hk).1)).mp (show bt t n p1 = -1 by simpa using c_79); omega
                rw [ep1] at eXn
                refine lv_aload_n hx hb d_M_readText_82 rfl (lv_at hl 2 rfl) ?_
                refine z_get hx hb hts (z_lay i_M) hown hK hw L30_mo rfl 4 (by decide) (z_in k_775 rfl) (fun _ h9 => h9) rfl d_M_readText_83 ?_
                refine lv_goto (tgt := 90) hx hb d_M_readText_86 (by decide) ?_
                refine z_callV (n := 1) (As := [.int (nI n)]) (rest := []) ⟨hx, hb, hml, hown, hts⟩ (m_fail l g hL L30_mo) (z_in k_914 rfl) (z_in k_7 rfl) (z_in k_911 rfl) (z_in k_913 rfl) (z_in ks_32 rfl) (by decide +kernel) ⟨by first | exact Nat.le_of_ble_eq_true rfl | (dsimp only; omega) | omega, by first | exact Nat.le_of_ble_eq_true rfl | (dsimp only; omega) | omega⟩ hK hE hw hA rfl L30_mo rfl hl.1 (Nat.le_of_ble_eq_true rfl) d_M_readText_90 ⟨by first | exact Nat.le_of_ble_eq_true rfl | (dsimp only; omega) | omega, by first | exact Nat.le_of_ble_eq_true rfl | (dsimp only; omega) | omega⟩ rfl (fun r9 h9 H locs hp hw => ?_)
                obtain ⟨r8, hh4⟩ := hp
                subst r8
                obtain ⟨h4, e8⟩ : ∃ x9, x9 = h9 := ⟨_, rfl⟩
                subst e8
                have f4_mo : h4 mo = some ((20, 0), .inr (11, mF ma cod tpd (nI n) fls cls9 ffl fcl (nI (R.1 + 1)) (nI (tbC R.2 R.1 + m9)) ous (nI p1) (nI n))) := by rw [← hh4]; exact z_put_eq
                have f4_ma_1 : h4 (ma 1) = some ((22, 0), .inl (g.2.1 1, 4000, .inl f)) := by rw [← hh4]; exact z_keep L30_mo L30_ma_1 (z_t1 (by decide))
                have kk4 : z_K (fun y => y = 20 ∨ y = 29 ∨ y = 31) h h4 := kkT.tr (by rw [← hh4]; exact z_K.put L30_mo (by first | decide | simp | omega))
                have sg_Nh4 : z_K (fun y => y = 20) hL h4 := sg_NhL.tr (by rw [← hh4]; exact z_K.put L30_mo (by simp))
                refine W.eq (g2 := F0 m 93 ls []) rfl ?_
                exact z_vret hx hb hr hlocks hw (by have eR : resT X = nI n := (by rw [eXn]; rfl); refine ⟨rfl, kk4, p1, l9, ?_, by omega, by omega, ?_, fun z => absurd (eR.symm.trans z) (nI_ne1 (by omega))⟩; (· rw [eR, hm9]; exact f4_mo); (· exact hN9.k sg_Nh4 (by omega) (by omega) (by omega))) (by decide) (by decide) d_M_readText_93
            · -- 60: False
              refine lv_iload_n hx hb d_M_readText_63 rfl (lv_at hl 0 rfl) ?_
              refine lv_bipush (v := 126) hx hb d_M_readText_64 (by decide) ?_
              refine lv_icmp_gt (tgt := 76) hx hb d_M_readText_66 (by decide) (fun c_66 => ?_) (fun c_66 => ?_)
              · -- 66: True
                have eXn : X = .inl p1 := by rw [hX9]; exact txL_no c_44 (Or.inr (Or.inl c_66))
                refine lv_aload_n hx hb d_M_readText_76 rfl (lv_at hl 2 rfl) ?_
                refine lv_iload_n hx hb d_M_readText_77 rfl (lv_at hl 0 rfl) ?_
                refine lv_iconst (v := (-1)) hx hb d_M_readText_78 (by decide) ?_
                refine lv_icmp_ne (tgt := 89) hx hb d_M_readText_79 (by decide) (fun c_79 => ?_) (fun c_79 => ?_)
                · -- 79: True
                  refine lv_iload_n hx hb d_M_readText_89 rfl (lv_at hl 1 rfl) ?_
                  refine z_callV (n := 1) (As := [.int (nI p1)]) (rest := []) ⟨hx, hb, hml, hown, hts⟩ (m_fail l g hL L30_mo) (z_in k_914 rfl) (z_in k_7 rfl) (z_in k_911 rfl) (z_in k_913 rfl) (z_in ks_32 rfl) (by decide +kernel) ⟨by first | exact Nat.le_of_ble_eq_true rfl | (dsimp only; omega) | omega, by first | exact Nat.le_of_ble_eq_true rfl | (dsimp only; omega) | omega⟩ hK hE hw hA rfl L30_mo rfl hl.1 (Nat.le_of_ble_eq_true rfl) d_M_readText_90 ⟨by first | exact Nat.le_of_ble_eq_true rfl | (dsimp only; omega) | omega, by first | exact Nat.le_of_ble_eq_true rfl | (dsimp only; omega) | omega⟩ rfl (fun r9 h9 H locs hp hw => ?_)
                  obtain ⟨r8, hh5⟩ := hp
                  subst r8
                  obtain ⟨h5, e8⟩ : ∃ x9, x9 = h9 := ⟨_, rfl⟩
                  subst e8
                  have f5_mo : h5 mo = some ((20, 0), .inr (11, mF ma cod tpd (nI n) fls cls9 ffl fcl (nI (R.1 + 1)) (nI (tbC R.2 R.1 + m9)) ous (nI p1) (nI p1))) := by rw [← hh5]; exact z_put_eq
                  have f5_ma_1 : h5 (ma 1) = some ((22, 0), .inl (g.2.1 1, 4000, .inl f)) := by rw [← hh5]; exact z_keep L30_mo L30_ma_1 (z_t1 (by decide))
                  have kk5 : z_K (fun y => y = 20 ∨ y = 29 ∨ y = 31) h h5 := kkT.tr (by rw [← hh5]; exact z_K.put L30_mo (by first | decide | simp | omega))
                  have sg_Nh5 : z_K (fun y => y = 20) hL h5 := sg_NhL.tr (by rw [← hh5]; exact z_K.put L30_mo (by simp))
                  refine W.eq (g2 := F0 m 93 ls []) rfl ?_
                  exact z_vret hx hb hr hlocks hw (by have eR : resT X = nI p1 := (by rw [eXn]; rfl); refine ⟨rfl, kk5, p1, l9, ?_, by omega, by omega, ?_, fun z => absurd (eR.symm.trans z) (nI_ne1 (by omega))⟩; (· rw [eR, hm9]; exact f5_mo); (· exact hN9.k sg_Nh5 (by omega) (by omega) (by omega))) (by decide) (by decide) d_M_readText_93
                · -- 79: False
                  have ep1 : p1 = n := by have := (bt_end (fun k hk => (hf k hk).1)).mp (show bt t n p1 = -1 by simpa using c_79); omega
                  rw [ep1] at eXn
                  refine lv_aload_n hx hb d_M_readText_82 rfl (lv_at hl 2 rfl) ?_
                  refine z_get hx hb hts (z_lay i_M) hown hK hw L30_mo rfl 4 (by decide) (z_in k_775 rfl) (fun _ h9 => h9) rfl d_M_readText_83 ?_
                  refine lv_goto (tgt := 90) hx hb d_M_readText_86 (by decide) ?_
                  refine z_callV (n := 1) (As := [.int (nI n)]) (rest := []) ⟨hx, hb, hml, hown, hts⟩ (m_fail l g hL L30_mo) (z_in k_914 rfl) (z_in k_7 rfl) (z_in k_911 rfl) (z_in k_913 rfl) (z_in ks_32 rfl) (by decide +kernel) ⟨by first | exact Nat.le_of_ble_eq_true rfl | (dsimp only; omega) | omega, by first | exact Nat.le_of_ble_eq_true rfl | (dsimp only; omega) | omega⟩ hK hE hw hA rfl L30_mo rfl hl.1 (Nat.le_of_ble_eq_true rfl) d_M_readText_90 ⟨by first | exact Nat.le_of_ble_eq_true rfl | (dsimp only; omega) | omega, by first | exact Nat.le_of_ble_eq_true rfl | (dsimp only; omega) | omega⟩ rfl (fun r9 h9 H locs hp hw => ?_)
                  obtain ⟨r8, hh6⟩ := hp
                  subst r8
                  obtain ⟨h6, e8⟩ : ∃ x9, x9 = h9 := ⟨_, rfl⟩
                  subst e8
                  have f6_mo : h6 mo = some ((20, 0), .inr (11, mF ma cod tpd (nI n) fls cls9 ffl fcl (nI (R.1 + 1)) (nI (tbC R.2 R.1 + m9)) ous (nI p1) (nI n))) := by rw [← hh6]; exact z_put_eq
                  have f6_ma_1 : h6 (ma 1) = some ((22, 0), .inl (g.2.1 1, 4000, .inl f)) := by rw [← hh6]; exact z_keep L30_mo L30_ma_1 (z_t1 (by decide))
                  have kk6 : z_K (fun y => y = 20 ∨ y = 29 ∨ y = 31) h h6 := kkT.tr (by rw [← hh6]; exact z_K.put L30_mo (by first | decide | simp | omega))
                  have sg_Nh6 : z_K (fun y => y = 20) hL h6 := sg_NhL.tr (by rw [← hh6]; exact z_K.put L30_mo (by simp))
                  refine W.eq (g2 := F0 m 93 ls []) rfl ?_
                  exact z_vret hx hb hr hlocks hw (by have eR : resT X = nI n := (by rw [eXn]; rfl); refine ⟨rfl, kk6, p1, l9, ?_, by omega, by omega, ?_, fun z => absurd (eR.symm.trans z) (nI_ne1 (by omega))⟩; (· rw [eR, hm9]; exact f6_mo); (· exact hN9.k sg_Nh6 (by omega) (by omega) (by omega))) (by decide) (by decide) d_M_readText_93
              · -- 66: False
                refine lv_iload_n hx hb d_M_readText_69 rfl (lv_at hl 3 rfl) ?_
                refine lv_sipush (v := 255) hx hb d_M_readText_70 (by decide) ?_
                refine lv_icmp_ne (tgt := 94) hx hb d_M_readText_73 (by decide) (fun c_73 => ?_) (fun c_73 => ?_)
                · -- 73: True
                  have c_73 : ¬ (m9 = 255) := fun z => c_73 ((nI_eq (a := m9) (b := 255) (by omega) (by omega)).mpr z)
                  have l94 : p1 < n := bt_ne1 (fun z => c_60 (by rw [z]; decide))
                  have t94 := (hf p1 l94).1
                  have m94 : m9 < 255 := by omega
                  refine lv_aload_n hx hb d_M_readText_94 rfl (lv_at hl 2 rfl) ?_
                  refine lv_dup hx hb d_M_readText_95 rfl ?_
                  refine z_get hx hb hts (z_lay i_M) hown hK hw L30_mo rfl 29 (by decide) (z_in k_800 rfl) (fun _ h9 => h9) rfl d_M_readText_96 ?_
                  refine lv_iconst (v := 1) hx hb d_M_readText_99 (by decide) ?_
                  refine lv_iadd hx hb d_M_readText_100 ?_
                  refine z_topi (y := nI (p1 + 1)) (nI_add p1 1) ?_
                  refine z_putf (ty := .int) hx hb hts (z_lay i_M) t_M t_M_ok n_M hown hK hw L30_mo rfl 29 (by decide) (z_in k_800 rfl) (fun _ h9 => h9) rfl (by decide +kernel) rfl rfl (Nat.le_of_ble_eq_true rfl) d_M_readText_101 (fun H locs hw => ?_)
                  obtain ⟨h7, hh7⟩ : ∃ x9, z_put hL mo (20, 0) (.inr (11, mF ma cod tpd (nI n) fls cls9 ffl fcl (nI (R.1 + 1)) (nI (tbC R.2 R.1 + m9)) ous (nI (p1 + 1)) (-1))) = x9 := ⟨_, rfl⟩
                  have hw : z_S g A s.heap h7 H locs := by rw [← hh7]; exact hw
                  have f7_mo : h7 mo = some ((20, 0), .inr (11, mF ma cod tpd (nI n) fls cls9 ffl fcl (nI (R.1 + 1)) (nI (tbC R.2 R.1 + m9)) ous (nI (p1 + 1)) (-1))) := by rw [← hh7]; exact z_put_eq
                  have f7_ma_1 : h7 (ma 1) = some ((22, 0), .inl (g.2.1 1, 4000, .inl f)) := by rw [← hh7]; exact z_keep L30_mo L30_ma_1 (z_t1 (by decide))
                  have kk7 : z_K (fun y => y = 20 ∨ y = 29 ∨ y = 31) h h7 := kkT.tr (by rw [← hh7]; exact z_K.put L30_mo (by first | decide | simp | omega))
                  have sg_Nh7 : z_K (fun y => y = 20) hL h7 := sg_NhL.tr (by rw [← hh7]; exact z_K.put L30_mo (by simp))
                  refine lv_iload_n hx hb d_M_readText_104 rfl (lv_at hl 0 rfl) ?_
                  refine lv_bipush (v := 92) hx hb d_M_readText_105 (by decide) ?_
                  refine lv_icmp_ne (tgt := 116) hx hb d_M_readText_107 (by decide) (fun c_107 => ?_) (fun c_107 => ?_)
                  · -- 107: True
                    refine lv_aload_n hx hb d_M_readText_116 rfl (lv_at hl 2 rfl) ?_
                    refine z_get hx hb hts (z_lay i_M) hown hK hw f7_mo rfl 30 (by decide) (z_in k_801 rfl) (fun _ h9 => h9) rfl d_M_readText_117 ?_
                    refine lv_iconst (v := (-1)) hx hb d_M_readText_120 (by decide) ?_
                    refine lv_icmp_eq (tgt := 125) hx hb d_M_readText_121 (by decide) (fun c_121 => ?_) (fun c_121 => ?_)
                    · -- 121: True
                      have hl : lv_has ls 4 [(0, .ref mo), (1, .int (nI m9)), (2, .int (nI p1)), (3, .int (nI (t p1)))] := by rw [← bt_in l94]; exact lv_sub hl [2, 3, 1, 0] rfl
                      refine lv_aload_n hx hb d_M_readText_125 rfl (lv_at hl 0 rfl) ?_
                      refine lv_iload_n hx hb d_M_readText_126 rfl (lv_at hl 3 rfl) ?_
                      obtain ⟨nf2, np2, nr2, ns2, nv2, tx2, hN2⟩ : MNd g h7 ma (addN R (fi, pa, 0, l9)) := hN9.k sg_Nh7 (by omega) (by omega) (by omega)
                      refine z_callV (n := 1) (As := [.int (nI (t p1))]) (rest := []) ⟨hx, hb, hml, hown, hts⟩ (m_say2 (l9 := l9) (m9 := m9) l g h7 hm9 f7_mo hN2 hR2 hR0 (by omega)) (z_in k_1003 rfl) (z_in k_7 rfl) (z_in k_1000 rfl) (z_in k_1002 rfl) (z_in ks_47 rfl) (by decide +kernel) ⟨by first | exact Nat.le_of_ble_eq_true rfl | (dsimp only; omega) | omega, by first | exact Nat.le_of_ble_eq_true rfl | (dsimp only; omega) | omega⟩ hK hE hw hA rfl f7_mo rfl hl.1 (Nat.le_of_ble_eq_true rfl) d_M_readText_127 ⟨by first | exact Nat.le_of_ble_eq_true rfl | (dsimp only; omega) | omega, by first | exact Nat.le_of_ble_eq_true rfl | (dsimp only; omega) | omega⟩ rfl (fun r9 h9 H locs hp hw => ?_)
                      obtain ⟨r8, m8, n8, k8⟩ := hp
                      subst r8
                      obtain ⟨h8, e7⟩ : ∃ x9, x9 = h9 := ⟨_, rfl⟩
                      subst e7
                      have g8_ma_1 : h8 (ma 1) = some ((22, 0), .inl (g.2.1 1, 4000, .inl f)) := k8 _ _ _ f7_ma_1 (by simp)
                      have kk8 : z_K (fun y => y = 20 ∨ y = 29 ∨ y = 31) h h8 := kk7.tr k8
                      refine W.eq (g2 := F0 m 130 ls []) rfl ?_
                      refine lv_iinc (v := nI (m9 + 1)) (lv' := [(1, .int (nI (m9 + 1))), (0, .ref mo), (2, .int (nI p1)), (3, .int (nI (t p1)))]) hx hb d_M_readText_130 hl (k := 1) rfl (nI_1 m9) (by decide) rfl (fun ls hl => ?_)
                      refine lv_goto (tgt := 30) hx hb d_M_readText_133 (by decide) ?_
                      refine ih_30 (p1 + 1) (l9 ++ [t p1]) (m9 + 1) h8 _ _ _ m8 g8_ma_1 (by rw [List.length_append, hm9]; rfl) (⟨by omega, by omega, by omega⟩) kk8 n8 (by rw [hX9, txL_pl c_44 c_60 c_66 (by omega) c_107 l94 t94, show 256 - (m9 + 1) = 255 - m9 by omega]) ?_ hw (lv_sub hl [1, 0] rfl)
                      omega
                    · -- 121: False
                      exact absurd (by decide) c_121
                  · -- 107: False
                    refine lv_aload_n hx hb d_M_readText_110 rfl (lv_at hl 2 rfl) ?_
                    refine lv_iload_n hx hb d_M_readText_111 rfl (lv_at hl 1 rfl) ?_
                    refine z_callV (n := 1) (As := [.int (nI p1)]) (rest := []) ⟨hx, hb, hml, hown, hts⟩ (m_behind (t := t) (b9 := p1) l g h7 f7_mo f7_ma_1 hn hf (by omega)) (z_in k_999 rfl) (z_in k_7 rfl) (z_in k_996 rfl) (z_in k_998 rfl) (z_in ks_46 rfl) (by decide +kernel) ⟨by first | exact Nat.le_of_ble_eq_true rfl | (dsimp only; omega) | omega, by first | exact Nat.le_of_ble_eq_true rfl | (dsimp only; omega) | omega⟩ hK hE hw hA rfl f7_mo rfl hl.1 (Nat.le_of_ble_eq_true rfl) d_M_readText_112 ⟨by first | exact Nat.le_of_ble_eq_true rfl | (dsimp only; omega) | omega, by first | exact Nat.le_of_ble_eq_true rfl | (dsimp only; omega) | omega⟩ rfl (fun r9 h9 H locs hp hw => ?_)
                    unfold escP at hp
                    rcases eE : escR t n p1 with F9 | y9
                    · -- behind False
                      rw [eE] at hp
                      obtain ⟨q9, lb9, lq9, r8, hh9⟩ := hp
                      have lF9 := escR_F (by omega) eE
                      subst r8
                      obtain ⟨h9, e8⟩ : ∃ x9, x9 = h9 := ⟨_, rfl⟩
                      subst e8
                      have f9_mo : h9 mo = some ((20, 0), .inr (11, mF ma cod tpd (nI n) fls cls9 ffl fcl (nI (R.1 + 1)) (nI (tbC R.2 R.1 + m9)) ous (nI q9) (nI F9))) := by rw [← hh9]; exact z_put_eq
                      have f9_ma_1 : h9 (ma 1) = some ((22, 0), .inl (g.2.1 1, 4000, .inl f)) := by rw [← hh9]; exact z_keep f7_mo f7_ma_1 (z_t1 (by decide))
                      have kk9 : z_K (fun y => y = 20 ∨ y = 29 ∨ y = 31) h h9 := kk7.tr (by rw [← hh9]; exact z_K.put f7_mo (by first | decide | simp | omega))
                      have sg_Nh9 : z_K (fun y => y = 20) hL h9 := sg_Nh7.tr (by rw [← hh9]; exact z_K.put f7_mo (by simp))
                      refine W.eq (g2 := F0 m 115 ls [.int 0]) rfl ?_
                      refine lv_istore_n (lv' := [(3, .int 0), (2, .int (nI p1)), (0, .ref mo), (1, .int (nI m9))]) hx hb d_M_readText_115 rfl hl (by decide) rfl (fun ls hl => ?_)
                      refine lv_aload_n hx hb d_M_readText_116 rfl (lv_at hl 2 rfl) ?_
                      refine z_get hx hb hts (z_lay i_M) hown hK hw f9_mo rfl 30 (by decide) (z_in k_801 rfl) (fun _ h9 => h9) rfl d_M_readText_117 ?_
                      refine lv_iconst (v := (-1)) hx hb d_M_readText_120 (by decide) ?_
                      refine lv_icmp_eq (tgt := 125) hx hb d_M_readText_121 (by decide) (fun c_121 => ?_) (fun c_121 => ?_)
                      · -- 121: True
                        exact absurd c_121 (nI_ne1 (by omega))
                      · -- 121: False
                        have eXn : X = .inl F9 := by rw [hX9]; exact txL_en (by omega) (by simpa using c_107) eE
                        exact z_vret hx hb hr hlocks hw (by have eR : resT X = nI F9 := (by rw [eXn]; rfl); refine ⟨rfl, kk9, q9, l9, ?_, by omega, by omega, ?_, fun z => absurd (eR.symm.trans z) (nI_ne1 (by omega))⟩; (· rw [eR, hm9]; exact f9_mo); (· exact hN9.k sg_Nh9 (by omega) (by omega) (by omega))) (by decide) (by decide) d_M_readText_124
                    · -- behind True
                      rw [eE] at hp
                      obtain ⟨r8, hh10⟩ := hp
                      obtain ⟨⟨c8, hc8, ey8⟩, ly8, lz8⟩ := escR_ok (fun k hk => (hf k hk).1) eE
                      subst r8
                      obtain ⟨h10, e8⟩ : ∃ x9, x9 = h9 := ⟨_, rfl⟩
                      subst e8
                      have f10_mo : h10 mo = some ((20, 0), .inr (11, mF ma cod tpd (nI n) fls cls9 ffl fcl (nI (R.1 + 1)) (nI (tbC R.2 R.1 + m9)) ous (nI y9.2) (-1))) := by rw [← hh10]; exact z_put_eq
                      have f10_ma_1 : h10 (ma 1) = some ((22, 0), .inl (g.2.1 1, 4000, .inl f)) := by rw [← hh10]; exact z_keep f7_mo f7_ma_1 (z_t1 (by decide))
                      have kk10 : z_K (fun y => y = 20 ∨ y = 29 ∨ y = 31) h h10 := kk7.tr (by rw [← hh10]; exact z_K.put f7_mo (by first | decide | simp | omega))
                      have sg_Nh10 : z_K (fun y => y = 20) hL h10 := sg_Nh7.tr (by rw [← hh10]; exact z_K.put f7_mo (by simp))
                      refine W.eq (g2 := F0 m 115 ls [.int y9.1]) rfl ?_
                      refine lv_istore_n (lv' := [(3, .int y9.1), (2, .int (nI p1)), (0, .ref mo), (1, .int (nI m9))]) hx hb d_M_readText_115 rfl hl (by decide) rfl (fun ls hl => ?_)
                      refine lv_aload_n hx hb d_M_readText_116 rfl (lv_at hl 2 rfl) ?_
                      refine z_get hx hb hts (z_lay i_M) hown hK hw f10_mo rfl 30 (by decide) (z_in k_801 rfl) (fun _ h9 => h9) rfl d_M_readText_117 ?_
                      refine lv_iconst (v := (-1)) hx hb d_M_readText_120 (by decide) ?_
                      refine lv_icmp_eq (tgt := 125) hx hb d_M_readText_121 (by decide) (fun c_121 => ?_) (fun c_121 => ?_)
                      · -- 121: True
                        have hl : lv_has ls 4 [(0, .ref mo), (1, .int (nI m9)), (2, .int (nI p1)), (3, .int (nI c8))] := by rw [← ey8]; exact lv_sub hl [2, 3, 1, 0] rfl
                        refine lv_aload_n hx hb d_M_readText_125 rfl (lv_at hl 0 rfl) ?_
                        refine lv_iload_n hx hb d_M_readText_126 rfl (lv_at hl 3 rfl) ?_
                        obtain ⟨nf2, np2, nr2, ns2, nv2, tx2, hN2⟩ : MNd g h10 ma (addN R (fi, pa, 0, l9)) := hN9.k sg_Nh10 (by omega) (by omega) (by omega)
                        refine z_callV (n := 1) (As := [.int (nI c8)]) (rest := []) ⟨hx, hb, hml, hown, hts⟩ (m_say2 (l9 := l9) (m9 := m9) l g h10 hm9 f10_mo hN2 hR2 hR0 (by omega)) (z_in k_1003 rfl) (z_in k_7 rfl) (z_in k_1000 rfl) (z_in k_1002 rfl) (z_in ks_47 rfl) (by decide +kernel) ⟨by first | exact Nat.le_of_ble_eq_true rfl | (dsimp only; omega) | omega, by first | exact Nat.le_of_ble_eq_true rfl | (dsimp only; omega) | omega⟩ hK hE hw hA rfl f10_mo rfl hl.1 (Nat.le_of_ble_eq_true rfl) d_M_readText_127 ⟨by first | exact Nat.le_of_ble_eq_true rfl | (dsimp only; omega) | omega, by first | exact Nat.le_of_ble_eq_true rfl | (dsimp only; omega) | omega⟩ rfl (fun r9 h9 H locs hp hw => ?_)
                        obtain ⟨r8, m8, n8, k8⟩ := hp
                        subst r8
                        obtain ⟨h11, e7⟩ : ∃ x9, x9 = h9 := ⟨_, rfl⟩
                        subst e7
                        have g11_ma_1 : h11 (ma 1) = some ((22, 0), .inl (g.2.1 1, 4000, .inl f)) := k8 _ _ _ f10_ma_1 (by simp)
                        have kk11 : z_K (fun y => y = 20 ∨ y = 29 ∨ y = 31) h h11 := kk10.tr k8
                        refine W.eq (g2 := F0 m 130 ls []) rfl ?_
                        refine lv_iinc (v := nI (m9 + 1)) (lv' := [(1, .int (nI (m9 + 1))), (0, .ref mo), (2, .int (nI p1)), (3, .int (nI c8))]) hx hb d_M_readText_130 hl (k := 1) rfl (nI_1 m9) (by decide) rfl (fun ls hl => ?_)
                        refine lv_goto (tgt := 30) hx hb d_M_readText_133 (by decide) ?_
                        refine ih_30 y9.2 (l9 ++ [c8]) (m9 + 1) h11 _ _ _ m8 g11_ma_1 (by rw [List.length_append, hm9]; rfl) (⟨by omega, by omega, by omega⟩) kk11 n8 (by rw [hX9, txL_ey (by omega) (by simpa using c_107) eE, show 256 - (m9 + 1) = 255 - m9 by omega, ey8, nI_clamp (by omega)]) ?_ hw (lv_sub hl [1, 0] rfl)
                        omega
                      · -- 121: False
                        exact absurd (by decide) c_121
                · -- 73: False
                  have c_73 : m9 = 255 := (nI_eq (a := m9) (b := 255) (by omega) (by omega)).mp c_73
                  have eXn : X = .inl p1 := by rw [hX9]; exact txL_no c_44 (Or.inr (Or.inr (by omega)))
                  refine lv_aload_n hx hb d_M_readText_76 rfl (lv_at hl 2 rfl) ?_
                  refine lv_iload_n hx hb d_M_readText_77 rfl (lv_at hl 0 rfl) ?_
                  refine lv_iconst (v := (-1)) hx hb d_M_readText_78 (by decide) ?_
                  refine lv_icmp_ne (tgt := 89) hx hb d_M_readText_79 (by decide) (fun c_79 => ?_) (fun c_79 => ?_)
                  · -- 79: True
                    refine lv_iload_n hx hb d_M_readText_89 rfl (lv_at hl 1 rfl) ?_
                    refine z_callV (n := 1) (As := [.int (nI p1)]) (rest := []) ⟨hx, hb, hml, hown, hts⟩ (m_fail l g hL L30_mo) (z_in k_914 rfl) (z_in k_7 rfl) (z_in k_911 rfl) (z_in k_913 rfl) (z_in ks_32 rfl) (by decide +kernel) ⟨by first | exact Nat.le_of_ble_eq_true rfl | (dsimp only; omega) | omega, by first | exact Nat.le_of_ble_eq_true rfl | (dsimp only; omega) | omega⟩ hK hE hw hA rfl L30_mo rfl hl.1 (Nat.le_of_ble_eq_true rfl) d_M_readText_90 ⟨by first | exact Nat.le_of_ble_eq_true rfl | (dsimp only; omega) | omega, by first | exact Nat.le_of_ble_eq_true rfl | (dsimp only; omega) | omega⟩ rfl (fun r9 h9 H locs hp hw => ?_)
                    obtain ⟨r8, hh12⟩ := hp
                    subst r8
                    obtain ⟨h12, e8⟩ : ∃ x9, x9 = h9 := ⟨_, rfl⟩
                    subst e8
                    have f12_mo : h12 mo = some ((20, 0), .inr (11, mF ma cod tpd (nI n) fls cls9 ffl fcl (nI (R.1 + 1)) (nI (tbC R.2 R.1 + m9)) ous (nI p1) (nI p1))) := by rw [← hh12]; exact z_put_eq
                    have f12_ma_1 : h12 (ma 1) = some ((22, 0), .inl (g.2.1 1, 4000, .inl f)) := by rw [← hh12]; exact z_keep L30_mo L30_ma_1 (z_t1 (by decide))
                    have kk12 : z_K (fun y => y = 20 ∨ y = 29 ∨ y = 31) h h12 := kkT.tr (by rw [← hh12]; exact z_K.put L30_mo (by first | decide | simp | omega))
                    have sg_Nh12 : z_K (fun y => y = 20) hL h12 := sg_NhL.tr (by rw [← hh12]; exact z_K.put L30_mo (by simp))
                    refine W.eq (g2 := F0 m 93 ls []) rfl ?_
                    exact z_vret hx hb hr hlocks hw (by have eR : resT X = nI p1 := (by rw [eXn]; rfl); refine ⟨rfl, kk12, p1, l9, ?_, by omega, by omega, ?_, fun z => absurd (eR.symm.trans z) (nI_ne1 (by omega))⟩; (· rw [eR, hm9]; exact f12_mo); (· exact hN9.k sg_Nh12 (by omega) (by omega) (by omega))) (by decide) (by decide) d_M_readText_93
                  · -- 79: False
                    have ep1 : p1 = n := by have := (bt_end (fun k hk => (hf k hk).1)).mp (show bt t n p1 = -1 by simpa using c_79); omega
                    rw [ep1] at eXn
                    refine lv_aload_n hx hb d_M_readText_82 rfl (lv_at hl 2 rfl) ?_
                    refine z_get hx hb hts (z_lay i_M) hown hK hw L30_mo rfl 4 (by decide) (z_in k_775 rfl) (fun _ h9 => h9) rfl d_M_readText_83 ?_
                    refine lv_goto (tgt := 90) hx hb d_M_readText_86 (by decide) ?_
                    refine z_callV (n := 1) (As := [.int (nI n)]) (rest := []) ⟨hx, hb, hml, hown, hts⟩ (m_fail l g hL L30_mo) (z_in k_914 rfl) (z_in k_7 rfl) (z_in k_911 rfl) (z_in k_913 rfl) (z_in ks_32 rfl) (by decide +kernel) ⟨by first | exact Nat.le_of_ble_eq_true rfl | (dsimp only; omega) | omega, by first | exact Nat.le_of_ble_eq_true rfl | (dsimp only; omega) | omega⟩ hK hE hw hA rfl L30_mo rfl hl.1 (Nat.le_of_ble_eq_true rfl) d_M_readText_90 ⟨by first | exact Nat.le_of_ble_eq_true rfl | (dsimp only; omega) | omega, by first | exact Nat.le_of_ble_eq_true rfl | (dsimp only; omega) | omega⟩ rfl (fun r9 h9 H locs hp hw => ?_)
                    obtain ⟨r8, hh13⟩ := hp
                    subst r8
                    obtain ⟨h13, e8⟩ : ∃ x9, x9 = h9 := ⟨_, rfl⟩
                    subst e8
                    have f13_mo : h13 mo = some ((20, 0), .inr (11, mF ma cod tpd (nI n) fls cls9 ffl fcl (nI (R.1 + 1)) (nI (tbC R.2 R.1 + m9)) ous (nI p1) (nI n))) := by rw [← hh13]; exact z_put_eq
                    have f13_ma_1 : h13 (ma 1) = some ((22, 0), .inl (g.2.1 1, 4000, .inl f)) := by rw [← hh13]; exact z_keep L30_mo L30_ma_1 (z_t1 (by decide))
                    have kk13 : z_K (fun y => y = 20 ∨ y = 29 ∨ y = 31) h h13 := kkT.tr (by rw [← hh13]; exact z_K.put L30_mo (by first | decide | simp | omega))
                    have sg_Nh13 : z_K (fun y => y = 20) hL h13 := sg_NhL.tr (by rw [← hh13]; exact z_K.put L30_mo (by simp))
                    refine W.eq (g2 := F0 m 93 ls []) rfl ?_
                    exact z_vret hx hb hr hlocks hw (by have eR : resT X = nI n := (by rw [eXn]; rfl); refine ⟨rfl, kk13, p1, l9, ?_, by omega, by omega, ?_, fun z => absurd (eR.symm.trans z) (nI_ne1 (by omega))⟩; (· rw [eR, hm9]; exact f13_mo); (· exact hN9.k sg_Nh13 (by omega) (by omega) (by omega))) (by decide) (by decide) d_M_readText_93
    exact loop_30 (256 - 0 + 1) (p + 1) ([]) 0 h1 _ _ _ f1_mo f1_ma_1 rfl (⟨by omega, by omega, by omega⟩) kk1 (hNd.k sg_Nh1 (by omega) (by omega) (by omega)) eX2 (by omega) hw (lv_sub hl [1, 0] rfl)
  · -- 6: False
    refine lv_aload_n hx hb d_M_readText_9 rfl (lv_at hl 0 rfl) ?_
    refine lv_aload_n hx hb d_M_readText_10 rfl (lv_at hl 0 rfl) ?_
    refine z_get hx hb hts (z_lay i_M) hown hK hw hmo rfl 29 (by decide) (z_in k_800 rfl) (fun _ h9 => h9) rfl d_M_readText_11 ?_
    refine z_callV (n := 1) (As := [.int (nI p)]) (rest := []) ⟨hx, hb, hml, hown, hts⟩ (m_fail l g h hmo) (z_in k_914 rfl) (z_in k_7 rfl) (z_in k_911 rfl) (z_in k_913 rfl) (z_in ks_32 rfl) (by decide +kernel) ⟨by first | exact Nat.le_of_ble_eq_true rfl | (dsimp only; omega) | omega, by first | exact Nat.le_of_ble_eq_true rfl | (dsimp only; omega) | omega⟩ hK hE hw hA rfl hmo rfl hl.1 (Nat.le_of_ble_eq_true rfl) d_M_readText_14 ⟨by first | exact Nat.le_of_ble_eq_true rfl | (dsimp only; omega) | omega, by first | exact Nat.le_of_ble_eq_true rfl | (dsimp only; omega) | omega⟩ rfl (fun r9 h9 H locs hp hw => ?_)
    obtain ⟨r8, hh14⟩ := hp
    subst r8
    obtain ⟨h14, e8⟩ : ∃ x9, x9 = h9 := ⟨_, rfl⟩
    subst e8
    have f14_mo : h14 mo = some ((20, 0), .inr (11, mF ma cod tpd (nI n) fls cls9 ffl fcl (nI (R.1 + 1)) (nI (tbC R.2 R.1)) ous (nI p) (nI p))) := by rw [← hh14]; exact z_put_eq
    have f14_ma_1 : h14 (ma 1) = some ((22, 0), .inl (g.2.1 1, 4000, .inl f)) := by rw [← hh14]; exact z_keep hmo htx (z_t1 (by decide))
    have kk14 : z_K (fun y => y = 20 ∨ y = 29 ∨ y = 31) h h14 := kk0.tr (by rw [← hh14]; exact z_K.put hmo (by first | decide | simp | omega))
    have sg_Nh14 : z_K (fun y => y = 20) h h14 := sg_Nh.tr (by rw [← hh14]; exact z_K.put hmo (by simp))
    refine W.eq (g2 := F0 m 17 ls []) rfl ?_
    exact z_vret hx hb hr hlocks hw (by have eR : resT X = nI p := (by rw [show X = .inl p by rw [eX]; unfold txR; rw [hsk, if_neg c_6]]; rfl); refine ⟨rfl, kk14, p, [], ?_, by omega, by omega, ?_, fun z => absurd (eR.symm.trans z) (nI_ne1 (by omega))⟩; (· rw [eR]; exact f14_mo); (· exact hNd.k sg_Nh14 (by omega) (by omega) (by omega))) (by decide) (by decide) d_M_readText_17

set_option maxHeartbeats 300000 in
set_option maxRecDepth 100000 in
theorem m_end (l : Launch) (g : z_G) (h : z_H) {mo : Nat} {ma : Nat → Nat} {cod tpd cls9 ffl fcl nds sai ous : Int32} {n p : Nat} {S : Sch} {rw9 : Nat → Nat} {rf : Nat → Nat → Int32} {lf : Nat → Int32} {gr : Int32} {a9 : Nat} (hmo : h mo = some ((20, 0), .inr (11, mF ma cod tpd (nI n) (nI S.1) cls9 ffl fcl nds sai ous (nI p) (-1)))) (hSc : MSp g h (ma 2) (ma 4) 23 27 S rw9 rf lf) (hB : scB S) (ha9 : a9 < 2 ^ 31) : z_C l y_M_end prog_13_method_35_code 3 (Option.none : Option Jvm.ClassFile.FieldType) 1 60 0 0 g [.ref mo, .int gr, .int (nI a9)] h (fun x h1 => x = none ∧ z_put h mo (20, 0) (.inr (11, mF ma cod tpd (nI n) (nI S.1) cls9 ffl fcl nds sai ous (nI (p + 1)) (if hrq S gr a9 = true then nI p else -1))) = h1) := by
  refine z_C.of (by decide) (Nat.le_of_ble_eq_true rfl) (fun pg en s m below meth cd A ls hx hb hml hr hts hown hlocks hnm hK hE hA hw hl => ?_)
  have hl : lv_has ls 3 [(0, .ref mo), (1, .int gr), (2, .int (nI a9))] := hl
  have hs8 := hB.1
  refine lv_aload_n hx hb d_M_end_0 rfl (lv_at hl 0 rfl) ?_
  refine lv_iload_n hx hb d_M_end_1 rfl (lv_at hl 1 rfl) ?_
  refine lv_iload_n hx hb d_M_end_2 rfl (lv_at hl 2 rfl) ?_
  refine lv_aload_n hx hb d_M_end_3 rfl (lv_at hl 0 rfl) ?_
  refine z_get hx hb hts (z_lay i_M) hown hK hw hmo rfl 9 (by decide) (z_in k_780 rfl) (fun _ h9 => h9) rfl d_M_end_4 ?_
  refine z_callV (n := 3) (As := [.int gr, .int (nI a9), .int (nI S.1)]) (rest := []) ⟨hx, hb, hml, hown, hts⟩ (m_misses (b9 := S.1) l g h hmo hSc hB (Nat.le_refl _) ha9) (z_in k_979 rfl) (z_in k_7 rfl) (z_in k_976 rfl) (z_in k_978 rfl) (z_in ks_41 rfl) (by decide +kernel) ⟨by first | exact Nat.le_of_ble_eq_true rfl | (dsimp only; omega) | omega, by first | exact Nat.le_of_ble_eq_true rfl | (dsimp only; omega) | omega⟩ hK hE hw hA rfl hmo rfl hl.1 (Nat.le_of_ble_eq_true rfl) d_M_end_7 ⟨by first | exact Nat.le_of_ble_eq_true rfl | (dsimp only; omega) | omega, by first | exact Nat.le_of_ble_eq_true rfl | (dsimp only; omega) | omega⟩ rfl (fun r9 h9 H locs hp hw => ?_)
  obtain ⟨r8, h8⟩ := hp
  subst r8
  subst h8
  refine W.eq (g2 := F0 m 10 ls [.int (zb (hrqR S gr (S.1 - a9) a9))]) rfl ?_
  refine lv_if_eq (tgt := 21) hx hb d_M_end_10 (by decide) (fun c_10 => ?_) (fun c_10 => ?_)
  · -- 10: True
    have c_10 : (hrqR S gr (S.1 - a9) a9) = false := zb_f c_10
    refine lv_aload_n hx hb d_M_end_21 rfl (lv_at hl 0 rfl) ?_
    refine lv_dup hx hb d_M_end_22 rfl ?_
    refine z_get hx hb hts (z_lay i_M) hown hK hw hmo rfl 29 (by decide) (z_in k_800 rfl) (fun _ h9 => h9) rfl d_M_end_23 ?_
    refine lv_iconst (v := 1) hx hb d_M_end_26 (by decide) ?_
    refine lv_iadd hx hb d_M_end_27 ?_
    refine z_topi (y := nI (p + 1)) (nI_add p 1) ?_
    refine z_putf (ty := .int) hx hb hts (z_lay i_M) t_M t_M_ok n_M hown hK hw hmo rfl 29 (by decide) (z_in k_800 rfl) (fun _ h9 => h9) rfl (by decide +kernel) rfl rfl (Nat.le_of_ble_eq_true rfl) d_M_end_28 (fun H locs hw => ?_)
    obtain ⟨h1, hh1⟩ : ∃ x9, z_put h mo (20, 0) (.inr (11, mF ma cod tpd (nI n) (nI S.1) cls9 ffl fcl nds sai ous (nI (p + 1)) (-1))) = x9 := ⟨_, rfl⟩
    have hw : z_S g A s.heap h1 H locs := by rw [← hh1]; exact hw
    have f1_mo : h1 mo = some ((20, 0), .inr (11, mF ma cod tpd (nI n) (nI S.1) cls9 ffl fcl nds sai ous (nI (p + 1)) (-1))) := by rw [← hh1]; exact z_put_eq
    exact z_vret hx hb hr hlocks hw (by unfold hrq; rw [c_10, if_neg (by decide)]; exact ⟨rfl, by rw [← hh1]⟩) (by decide) (by decide) d_M_end_31
  · -- 10: False
    have c_10 : (hrqR S gr (S.1 - a9) a9) = true := zb_t c_10
    refine lv_aload_n hx hb d_M_end_13 rfl (lv_at hl 0 rfl) ?_
    refine lv_aload_n hx hb d_M_end_14 rfl (lv_at hl 0 rfl) ?_
    refine z_get hx hb hts (z_lay i_M) hown hK hw hmo rfl 29 (by decide) (z_in k_800 rfl) (fun _ h9 => h9) rfl d_M_end_15 ?_
    refine z_callV (n := 1) (As := [.int (nI p)]) (rest := []) ⟨hx, hb, hml, hown, hts⟩ (m_fail l g h hmo) (z_in k_914 rfl) (z_in k_7 rfl) (z_in k_911 rfl) (z_in k_913 rfl) (z_in ks_32 rfl) (by decide +kernel) ⟨by first | exact Nat.le_of_ble_eq_true rfl | (dsimp only; omega) | omega, by first | exact Nat.le_of_ble_eq_true rfl | (dsimp only; omega) | omega⟩ hK hE hw hA rfl hmo rfl hl.1 (Nat.le_of_ble_eq_true rfl) d_M_end_18 ⟨by first | exact Nat.le_of_ble_eq_true rfl | (dsimp only; omega) | omega, by first | exact Nat.le_of_ble_eq_true rfl | (dsimp only; omega) | omega⟩ rfl (fun r9 h9 H locs hp hw => ?_)
    obtain ⟨r8, hh2⟩ := hp
    subst r8
    obtain ⟨h2, e8⟩ : ∃ x9, x9 = h9 := ⟨_, rfl⟩
    subst e8
    have f2_mo : h2 mo = some ((20, 0), .inr (11, mF ma cod tpd (nI n) (nI S.1) cls9 ffl fcl nds sai ous (nI p) (nI p))) := by rw [← hh2]; exact z_put_eq
    refine W.eq (g2 := F0 m 21 ls []) rfl ?_
    refine lv_aload_n hx hb d_M_end_21 rfl (lv_at hl 0 rfl) ?_
    refine lv_dup hx hb d_M_end_22 rfl ?_
    refine z_get hx hb hts (z_lay i_M) hown hK hw f2_mo rfl 29 (by decide) (z_in k_800 rfl) (fun _ h9 => h9) rfl d_M_end_23 ?_
    refine lv_iconst (v := 1) hx hb d_M_end_26 (by decide) ?_
    refine lv_iadd hx hb d_M_end_27 ?_
    refine z_topi (y := nI (p + 1)) (nI_add p 1) ?_
    refine z_putf (ty := .int) hx hb hts (z_lay i_M) t_M t_M_ok n_M hown hK hw f2_mo rfl 29 (by decide) (z_in k_800 rfl) (fun _ h9 => h9) rfl (by decide +kernel) rfl rfl (Nat.le_of_ble_eq_true rfl) d_M_end_28 (fun H locs hw => ?_)
    obtain ⟨h3, hh3⟩ : ∃ x9, z_put h2 mo (20, 0) (.inr (11, mF ma cod tpd (nI n) (nI S.1) cls9 ffl fcl nds sai ous (nI (p + 1)) (nI p))) = x9 := ⟨_, rfl⟩
    have hw : z_S g A s.heap h3 H locs := by rw [← hh3]; exact hw
    have f3_mo : h3 mo = some ((20, 0), .inr (11, mF ma cod tpd (nI n) (nI S.1) cls9 ffl fcl nds sai ous (nI (p + 1)) (nI p))) := by rw [← hh3]; exact z_put_eq
    exact z_vret hx hb hr hlocks hw (by unfold hrq; rw [c_10, if_pos rfl]; exact ⟨rfl, by rw [← hh3, ← hh2, z_put_put]⟩) (by decide) (by decide) d_M_end_31

theorem sgnR_ok {t : Nat → Nat} {n p : Nat} {c : Int32} {R : Rec} (h : bt t n (sk t n p) = c) : sgnR t n c p R = .inr (sk t n p + 1, R) := if_pos h
theorem sgnR_no {t : Nat → Nat} {n p : Nat} {c : Int32} {R : Rec} (h : ¬ bt t n (sk t n p) = c) : sgnR t n c p R = .inl (sk t n p, R) := if_neg h
theorem rowL_ok {V : Nat → Rec → RRes} {t : Nat → Nat} {n c p : Nat} {R : Rec} {P : Nat × Rec} (h : V p R = .inr P) : rowL V t n (c + 1) p R = if bt t n (sk t n P.1) = 44 then rowL V t n c (sk t n P.1 + 1) P.2 else sgnR t n 93 (sk t n P.1) P.2 := by
  simp only [rowL]; rw [h]
theorem rowL_no {V : Nat → Rec → RRes} {t : Nat → Nat} {n c p : Nat} {R : Rec} {F : Nat × Rec} (h : V p R = .inl F) : rowL V t n (c + 1) p R = .inl F := by
  simp only [rowL]; rw [h]

set_option maxHeartbeats 2000000 in
set_option maxRecDepth 100000 in
theorem m_readRow_of (l : Launch) (g : z_G) (h : z_H) {mo : Nat} {ma : Nat → Nat} {cod tpd cls9 ffl fcl ous : Int32} {n p : Nat} {f : Nat → Int32} {t : Nat → Nat} {S : Sch} {rw9 : Nat → Nat} {rf : Nat → Nat → Int32} {lf : Nat → Int32} {R : Rec} {pi fi fM lM : Nat} {X : RRes} {VR : Nat → Rec → RRes} (hmo : h mo = some ((20, 0), .inr (11, mF ma cod tpd (nI n) (nI S.1) cls9 ffl fcl (nI R.1) (nI (tbC R.2 R.1)) ous (nI p) (-1)))) (htx : h (ma 1) = some ((22, 0), .inl (g.2.1 1, 4000, .inl f))) (hn : n ≤ 4000) (hf : ∀ k, k < n → t k < 256 ∧ f k = nI (t k)) (hp : p ≤ n) (hSc : MSp g h (ma 2) (ma 4) 23 27 S rw9 rf lf) (hNd : MNd g h ma R) (hR0 : 0 < R.1) (hc2 : 2 * R.1 + 1 ≤ p) (htb0 : tbR R ≤ p) (eX : X = if bt t n (sk t n p) = 91 then (if bt t n (sk t n (sk t n p + 1)) = 93 then sgnR t n 93 (sk t n (sk t n p + 1)) R else rowL VR t n 4001 (sk t n (sk t n p + 1)) R) else .inl (sk t n p, R)) (hV : ∀ (h : z_H) (p : Nat) (R : Rec), h mo = some ((20, 0), .inr (11, mF ma cod tpd (nI n) (nI S.1) cls9 ffl fcl (nI R.1) (nI (tbC R.2 R.1)) ous (nI p) (-1))) → h (ma 1) = some ((22, 0), .inl (g.2.1 1, 4000, .inl f)) → MSp g h (ma 2) (ma 4) 23 27 S rw9 rf lf → MNd g h ma R → 0 < R.1 → p ≤ n → 2 * R.1 + 1 ≤ p → tbR R ≤ p → z_C l y_M_readValue prog_13_method_31_code 5 (Option.none : Option Jvm.ClassFile.FieldType) fM lM 0 0 g [.ref mo, .int (nI pi), .int (nI fi)] h (fun x h1 => x = none ∧ rvP g h h1 mo ma cod tpd cls9 ffl fcl ous n p S (VR p R))) : z_C l y_M_readRow prog_13_method_32_code 3 (Option.none : Option Jvm.ClassFile.FieldType) (fM + 10) (lM + 200) 0 0 g [.ref mo, .int (nI pi), .int (nI fi)] h (fun x h1 => x = none ∧ rvP g h h1 mo ma cod tpd cls9 ffl fcl ous n p S X) := by
  refine z_C.of (by decide) (Nat.le_of_ble_eq_true rfl) (fun pg en s m below meth cd A ls hx hb hml hr hts hown hlocks hnm hK hE hA hw hl => ?_)
  have hl : lv_has ls 3 [(0, .ref mo), (1, .int (nI pi)), (2, .int (nI fi))] := hl
  have kk0 : z_K (fun y => y = 20 ∨ y = 29 ∨ y = 30 ∨ y = 31) h h := z_K.rf
  have sg_Nh : z_K (fun y => y = 20) h h := z_K.rf
  refine lv_aload_n hx hb d_M_readRow_0 rfl (lv_at hl 0 rfl) ?_
  refine lv_bipush (v := 91) hx hb d_M_readRow_1 (by decide) ?_
  refine z_callV (n := 1) (As := [.int 91]) (rest := []) ⟨hx, hb, hml, hown, hts⟩ (m_wantSign (t := t) l g h hmo htx hn hf (by omega)) (z_in k_923 rfl) (z_in k_7 rfl) (z_in k_920 rfl) (z_in k_922 rfl) (z_in ks_33 rfl) (by decide +kernel) ⟨by first | exact Nat.le_of_ble_eq_true rfl | (dsimp only; omega) | omega, by first | exact Nat.le_of_ble_eq_true rfl | (dsimp only; omega) | omega⟩ hK hE hw hA rfl hmo rfl hl.1 (Nat.le_of_ble_eq_true rfl) d_M_readRow_3 ⟨by first | exact Nat.le_of_ble_eq_true rfl | (dsimp only; omega) | omega, by first | exact Nat.le_of_ble_eq_true rfl | (dsimp only; omega) | omega⟩ rfl (fun r9 h9 H locs hp hw => ?_)
  have sa1 := sk_le (t := t) (n := n) (p := p) (by omega)
  have sb1 := sk_ge t n p
  by_cases ws3 : bt t n (sk t n p) = 91
  · -- wanted True
    have sc1 := bt_lt (c := 91) ws3
    obtain ⟨r8, hp⟩ := hp
    unfold wsP wsI at hp
    rw [if_pos ⟨rfl, ws3⟩, if_pos rfl, if_pos ws3] at hp
    have hp := And.intro r8 hp
    obtain ⟨r8, hh2⟩ := hp
    subst r8
    obtain ⟨h2, e8⟩ : ∃ x9, x9 = h9 := ⟨_, rfl⟩
    subst e8
    have f2_mo : h2 mo = some ((20, 0), .inr (11, mF ma cod tpd (nI n) (nI S.1) cls9 ffl fcl (nI R.1) (nI (tbC R.2 R.1)) ous (nI (sk t n p + 1)) (-1))) := by rw [← hh2]; exact z_put_eq
    have f2_ma_1 : h2 (ma 1) = some ((22, 0), .inl (g.2.1 1, 4000, .inl f)) := by rw [← hh2]; exact z_keep hmo htx (z_t1 (by decide))
    have kk2 : z_K (fun y => y = 20 ∨ y = 29 ∨ y = 30 ∨ y = 31) h h2 := kk0.tr (by rw [← hh2]; exact z_K.put hmo (by first | decide | simp | omega))
    have sg_Nh2 : z_K (fun y => y = 20) h h2 := sg_Nh.tr (by rw [← hh2]; exact z_K.put hmo (by simp))
    refine W.eq (g2 := F0 m 6 ls []) rfl ?_
    refine lv_aload_n hx hb d_M_readRow_6 rfl (lv_at hl 0 rfl) ?_
    refine lv_bipush (v := 93) hx hb d_M_readRow_7 (by decide) ?_
    refine z_callV (n := 1) (As := [.int 93]) (rest := []) ⟨hx, hb, hml, hown, hts⟩ (m_takesSign (t := t) l g h2 f2_mo f2_ma_1 hn hf (by omega)) (z_in k_927 rfl) (z_in k_7 rfl) (z_in k_924 rfl) (z_in k_926 rfl) (z_in ks_34 rfl) (by decide +kernel) ⟨by first | exact Nat.le_of_ble_eq_true rfl | (dsimp only; omega) | omega, by first | exact Nat.le_of_ble_eq_true rfl | (dsimp only; omega) | omega⟩ hK hE hw hA rfl f2_mo rfl hl.1 (Nat.le_of_ble_eq_true rfl) d_M_readRow_9 ⟨by first | exact Nat.le_of_ble_eq_true rfl | (dsimp only; omega) | omega, by first | exact Nat.le_of_ble_eq_true rfl | (dsimp only; omega) | omega⟩ rfl (fun r9 h9 H locs hp hw => ?_)
    have sa3 := sk_le (t := t) (n := n) (p := sk t n p + 1) (by omega)
    have sb3 := sk_ge t n (sk t n p + 1)
    by_cases ts9 : bt t n (sk t n (sk t n p + 1)) = 93
    · -- sign True
      rw [if_pos ⟨rfl, ts9⟩] at hp
      have sc3 := bt_lt (c := 93) ts9
      obtain ⟨r8, hh4⟩ := hp
      subst r8
      obtain ⟨h4, e8⟩ : ∃ x9, x9 = h9 := ⟨_, rfl⟩
      subst e8
      have f4_mo : h4 mo = some ((20, 0), .inr (11, mF ma cod tpd (nI n) (nI S.1) cls9 ffl fcl (nI R.1) (nI (tbC R.2 R.1)) ous (nI (sk t n (sk t n p + 1) + 1)) (-1))) := by rw [← hh4]; exact z_put_eq
      have f4_ma_1 : h4 (ma 1) = some ((22, 0), .inl (g.2.1 1, 4000, .inl f)) := by rw [← hh4]; exact z_keep f2_mo f2_ma_1 (z_t1 (by decide))
      have kk4 : z_K (fun y => y = 20 ∨ y = 29 ∨ y = 30 ∨ y = 31) h h4 := kk2.tr (by rw [← hh4]; exact z_K.put f2_mo (by first | decide | simp | omega))
      have sg_Nh4 : z_K (fun y => y = 20) h h4 := sg_Nh2.tr (by rw [← hh4]; exact z_K.put f2_mo (by simp))
      refine W.eq (g2 := F0 m 12 ls [.int 1]) rfl ?_
      refine lv_if_eq (tgt := 16) hx hb d_M_readRow_12 (by decide) (fun c_12 => ?_) (fun c_12 => ?_)
      · -- 12: True
        exact absurd c_12 (by decide)
      · -- 12: False
        exact z_vret hx hb hr hlocks hw (by have eX9 : X = .inr (sk t n (sk t n p + 1) + 1, R) := (by rw [eX, if_pos ws3, if_pos ts9, sgnR_ok (by rw [sk_sk]; exact ts9), sk_sk]); have eR : resJ X = (-1) := (by rw [eX9]; rfl); refine ⟨rfl, kk4, sk t n (sk t n p + 1) + 1, R, ?_, by omega, by omega, hNd.k sg_Nh4 (by omega) (by omega) (by omega), fun _ => ⟨eX9, by omega, by omega, hR0⟩⟩; rw [eR]; exact f4_mo) (by decide) (by decide) d_M_readRow_15
    · -- sign False
      rw [if_neg (fun z => ts9 z.2)] at hp
      obtain ⟨r8, hh5⟩ := hp
      subst r8
      obtain ⟨h5, e8⟩ : ∃ x9, x9 = h9 := ⟨_, rfl⟩
      subst e8
      have f5_mo : h5 mo = some ((20, 0), .inr (11, mF ma cod tpd (nI n) (nI S.1) cls9 ffl fcl (nI R.1) (nI (tbC R.2 R.1)) ous (nI (sk t n (sk t n p + 1))) (-1))) := by rw [← hh5]; exact z_put_eq
      have f5_ma_1 : h5 (ma 1) = some ((22, 0), .inl (g.2.1 1, 4000, .inl f)) := by rw [← hh5]; exact z_keep f2_mo f2_ma_1 (z_t1 (by decide))
      have kk5 : z_K (fun y => y = 20 ∨ y = 29 ∨ y = 30 ∨ y = 31) h h5 := kk2.tr (by rw [← hh5]; exact z_K.put f2_mo (by first | decide | simp | omega))
      have sg_Nh5 : z_K (fun y => y = 20) h h5 := sg_Nh2.tr (by rw [← hh5]; exact z_K.put f2_mo (by simp))
      refine W.eq (g2 := F0 m 12 ls [.int 0]) rfl ?_
      refine lv_if_eq (tgt := 16) hx hb d_M_readRow_12 (by decide) (fun c_12 => ?_) (fun c_12 => ?_)
      · -- 12: True
        have loop_16 : ∀ (fuel : Nat) (c : Nat) (p3 : Nat) (i3 : Int32) (R3 : Rec) (hL : z_H) (H : Heap) (locs : List Loc) (ls : Array Slot) (L16_mo : hL mo = some ((20, 0), .inr (11, mF ma cod tpd (nI n) (nI S.1) cls9 ffl fcl (nI R3.1) (nI (tbC R3.2 R3.1)) ous (nI p3) i3))) (L16_ma_1 : hL (ma 1) = some ((22, 0), .inl (g.2.1 1, 4000, .inl f))) (hle3 : p3 ≤ n ∧ p ≤ p3) (kk3 : z_K (fun y => y = 20 ∨ y = 29 ∨ y = 30 ∨ y = 31) h hL) (hN3 : MNd g hL ma R3) (hc3 : 4001 ≤ c + p3 ∧ 0 < R3.1 ∨ ¬ i3 = -1) (hZ3 : (¬ i3 = -1 ∧ resJ X = i3) ∨ (i3 = -1 ∧ X = rowL VR t n c p3 R3 ∧ 2 * R3.1 + 1 ≤ p3 ∧ tbR R3 ≤ p3)), c < fuel → z_S g A s.heap hL H locs → lv_has ls 3 [(0, .ref mo), (1, .int (nI pi)), (2, .int (nI fi))] → W pg l en { frames := fM + 10, cells := 0, slots := 0, locals := lM + 200 } s m [.ref mo, .int (nI pi), .int (nI fi)].toArray below meth cd H locs 0 0 (MQ below (z_Q g A (fun x h1 => x = none ∧ rvP g h h1 mo ma cod tpd cls9 ffl fcl ous n p S X)) [.ref mo, .int (nI pi), .int (nI fi)].toArray s 0 0 A) (F0 m 16 ls []) := by
          intro fuel
          induction fuel with
          | zero => intro c p3 i3 R3 hL H locs ls L16_mo L16_ma_1 hle3 kk3 hN3 hc3 hZ3 hm; exact absurd hm (Nat.not_lt_zero _)
          | succ fuel ih_16 =>
            intro c p3 i3 R3 hL H locs ls L16_mo L16_ma_1 hle3 kk3 hN3 hc3 hZ3 hm hw hl
            have sg_NhL : z_K (fun y => y = 20) hL hL := z_K.rf
            refine lv_aload_n hx hb d_M_readRow_16 rfl (lv_at hl 0 rfl) ?_
            refine z_get hx hb hts (z_lay i_M) hown hK hw L16_mo rfl 30 (by decide) (z_in k_801 rfl) (fun _ h9 => h9) rfl d_M_readRow_17 ?_
            refine lv_iconst (v := (-1)) hx hb d_M_readRow_20 (by decide) ?_
            refine lv_icmp_ne (tgt := 49) hx hb d_M_readRow_21 (by decide) (fun c_21 => ?_) (fun c_21 => ?_)
            · -- 21: True
              exact z_vret hx hb hr hlocks hw (by have eR : resJ X = i3 := ((hZ3.resolve_right (fun z => c_21 z.1)).2); refine ⟨rfl, kk3, p3, R3, ?_, by omega, by omega, hN3.k sg_NhL (by omega) (by omega) (by omega), fun z => absurd (eR.symm.trans z) c_21⟩; rw [eR]; exact L16_mo) (by decide) (by decide) d_M_readRow_49
            · -- 21: False
              have e24 : i3 = -1 := by simpa using c_21
              obtain ⟨-, eX3, b3, t3⟩ := hZ3.resolve_left (fun z => z.1 e24)
              have fi6 : hL mo = some ((20, 0), .inr (11, mF ma cod tpd (nI n) (nI S.1) cls9 ffl fcl (nI R3.1) (nI (tbC R3.2 R3.1)) ous (nI p3) (-1))) := by have z9 := L16_mo; rw [e24] at z9; exact z9
              have hc4 := hc3.resolve_right (fun z => z e24)
              obtain ⟨c5, ec5⟩ : ∃ c5, c = c5 + 1 := ⟨c - 1, by omega⟩
              refine lv_aload_n hx hb d_M_readRow_24 rfl (lv_at hl 0 rfl) ?_
              refine lv_iload_n hx hb d_M_readRow_25 rfl (lv_at hl 1 rfl) ?_
              refine lv_iload_n hx hb d_M_readRow_26 rfl (lv_at hl 2 rfl) ?_
              refine z_callV (n := 2) (As := [.int (nI pi), .int (nI fi)]) (rest := []) ⟨hx, hb, hml, hown, hts⟩ (hV hL p3 R3 fi6 L16_ma_1 (hSc.k kk3 (by omega) (by omega) (by omega)) (hN3.k sg_NhL (by omega) (by omega) (by omega)) (hc3.resolve_right (fun z => z e24)).2 (by omega) b3 t3) (z_in k_987 rfl) (z_in k_7 rfl) (z_in k_984 rfl) (z_in k_986 rfl) (z_in ks_43 rfl) (by decide +kernel) ⟨by first | exact Nat.le_of_ble_eq_true rfl | (dsimp only; omega) | omega, by first | exact Nat.le_of_ble_eq_true rfl | (dsimp only; omega) | omega⟩ hK hE hw hA rfl fi6 rfl hl.1 (Nat.le_of_ble_eq_true rfl) d_M_readRow_27 ⟨by first | exact Nat.le_of_ble_eq_true rfl | (dsimp only; omega) | omega, by first | exact Nat.le_of_ble_eq_true rfl | (dsimp only; omega) | omega⟩ rfl (fun r9 h9 H locs hp hw => ?_)
              obtain ⟨r8, kk8, p4, R4, m4, le4, ge4, n4, im4⟩ := hp
              subst r8
              obtain ⟨h7, e7⟩ : ∃ x9, x9 = h9 := ⟨_, rfl⟩
              subst e7
              have g7_ma_1 : h7 (ma 1) = some ((22, 0), .inl (g.2.1 1, 4000, .inl f)) := kk8 _ _ _ L16_ma_1 (by simp)
              have kk7 : z_K (fun y => y = 20 ∨ y = 29 ∨ y = 30 ∨ y = 31) h h7 := kk3.tr kk8
              have sg_Nh7 : z_K (fun y => y = 20) h7 h7 := z_K.rf
              refine W.eq (g2 := F0 m 30 ls []) rfl ?_
              by_cases e30 : resJ (VR p3 R3) = -1
              · -- read True
                obtain ⟨eF4, b4, t4, z4⟩ := im4 e30
                have fi8 : h7 mo = some ((20, 0), .inr (11, mF ma cod tpd (nI n) (nI S.1) cls9 ffl fcl (nI R4.1) (nI (tbC R4.2 R4.1)) ous (nI p4) (-1))) := by have z9 := m4; rw [e30] at z9; exact z9
                have eX8 : X = if bt t n (sk t n p4) = 44 then rowL VR t n c5 (sk t n p4 + 1) R4 else sgnR t n 93 (sk t n p4) R4 := by rw [eX3, ec5]; exact rowL_ok eF4
                refine lv_aload_n hx hb d_M_readRow_30 rfl (lv_at hl 0 rfl) ?_
                refine lv_bipush (v := 93) hx hb d_M_readRow_31 (by decide) ?_
                refine z_callV (n := 1) (As := [.int 93]) (rest := []) ⟨hx, hb, hml, hown, hts⟩ (m_takesSign (t := t) l g h7 fi8 g7_ma_1 hn hf (by omega)) (z_in k_927 rfl) (z_in k_7 rfl) (z_in k_924 rfl) (z_in k_926 rfl) (z_in ks_34 rfl) (by decide +kernel) ⟨by first | exact Nat.le_of_ble_eq_true rfl | (dsimp only; omega) | omega, by first | exact Nat.le_of_ble_eq_true rfl | (dsimp only; omega) | omega⟩ hK hE hw hA rfl fi8 rfl hl.1 (Nat.le_of_ble_eq_true rfl) d_M_readRow_33 ⟨by first | exact Nat.le_of_ble_eq_true rfl | (dsimp only; omega) | omega, by first | exact Nat.le_of_ble_eq_true rfl | (dsimp only; omega) | omega⟩ rfl (fun r9 h9 H locs hp hw => ?_)
                have sa9 := sk_le (t := t) (n := n) (p := p4) (by omega)
                have sb9 := sk_ge t n p4
                by_cases ts33 : bt t n (sk t n p4) = 93
                · -- sign True
                  rw [if_pos ⟨rfl, ts33⟩] at hp
                  have sc9 := bt_lt (c := 93) ts33
                  obtain ⟨r8, hh10⟩ := hp
                  subst r8
                  obtain ⟨h10, e8⟩ : ∃ x9, x9 = h9 := ⟨_, rfl⟩
                  subst e8
                  have f10_mo : h10 mo = some ((20, 0), .inr (11, mF ma cod tpd (nI n) (nI S.1) cls9 ffl fcl (nI R4.1) (nI (tbC R4.2 R4.1)) ous (nI (sk t n p4 + 1)) (-1))) := by rw [← hh10]; exact z_put_eq
                  have f10_ma_1 : h10 (ma 1) = some ((22, 0), .inl (g.2.1 1, 4000, .inl f)) := by rw [← hh10]; exact z_keep fi8 g7_ma_1 (z_t1 (by decide))
                  have kk10 : z_K (fun y => y = 20 ∨ y = 29 ∨ y = 30 ∨ y = 31) h h10 := kk7.tr (by rw [← hh10]; exact z_K.put fi8 (by first | decide | simp | omega))
                  have sg_Nh10 : z_K (fun y => y = 20) h7 h10 := sg_Nh7.tr (by rw [← hh10]; exact z_K.put fi8 (by simp))
                  refine W.eq (g2 := F0 m 36 ls [.int 1]) rfl ?_
                  refine lv_if_eq (tgt := 40) hx hb d_M_readRow_36 (by decide) (fun c_36 => ?_) (fun c_36 => ?_)
                  · -- 36: True
                    exact absurd c_36 (by decide)
                  · -- 36: False
                    exact z_vret hx hb hr hlocks hw (by have eX9 : X = .inr (sk t n p4 + 1, R4) := (by rw [eX8, if_neg (by rw [ts33]; decide), sgnR_ok (by rw [sk_sk]; exact ts33), sk_sk]); have eR : resJ X = (-1) := (by rw [eX9]; rfl); refine ⟨rfl, kk10, sk t n p4 + 1, R4, ?_, by omega, by omega, n4.k sg_Nh10 (by omega) (by omega) (by omega), fun _ => ⟨eX9, by omega, by omega, z4⟩⟩; rw [eR]; exact f10_mo) (by decide) (by decide) d_M_readRow_39
                · -- sign False
                  rw [if_neg (fun z => ts33 z.2)] at hp
                  obtain ⟨r8, hh11⟩ := hp
                  subst r8
                  obtain ⟨h11, e8⟩ : ∃ x9, x9 = h9 := ⟨_, rfl⟩
                  subst e8
                  have f11_mo : h11 mo = some ((20, 0), .inr (11, mF ma cod tpd (nI n) (nI S.1) cls9 ffl fcl (nI R4.1) (nI (tbC R4.2 R4.1)) ous (nI (sk t n p4)) (-1))) := by rw [← hh11]; exact z_put_eq
                  have f11_ma_1 : h11 (ma 1) = some ((22, 0), .inl (g.2.1 1, 4000, .inl f)) := by rw [← hh11]; exact z_keep fi8 g7_ma_1 (z_t1 (by decide))
                  have kk11 : z_K (fun y => y = 20 ∨ y = 29 ∨ y = 30 ∨ y = 31) h h11 := kk7.tr (by rw [← hh11]; exact z_K.put fi8 (by first | decide | simp | omega))
                  have sg_Nh11 : z_K (fun y => y = 20) h7 h11 := sg_Nh7.tr (by rw [← hh11]; exact z_K.put fi8 (by simp))
                  refine W.eq (g2 := F0 m 36 ls [.int 0]) rfl ?_
                  refine lv_if_eq (tgt := 40) hx hb d_M_readRow_36 (by decide) (fun c_36 => ?_) (fun c_36 => ?_)
                  · -- 36: True
                    refine lv_aload_n hx hb d_M_readRow_40 rfl (lv_at hl 0 rfl) ?_
                    refine lv_bipush (v := 44) hx hb d_M_readRow_41 (by decide) ?_
                    refine z_callV (n := 1) (As := [.int 44]) (rest := []) ⟨hx, hb, hml, hown, hts⟩ (m_wantSign (t := t) l g h11 f11_mo f11_ma_1 hn hf (by omega)) (z_in k_923 rfl) (z_in k_7 rfl) (z_in k_920 rfl) (z_in k_922 rfl) (z_in ks_33 rfl) (by decide +kernel) ⟨by first | exact Nat.le_of_ble_eq_true rfl | (dsimp only; omega) | omega, by first | exact Nat.le_of_ble_eq_true rfl | (dsimp only; omega) | omega⟩ hK hE hw hA rfl f11_mo rfl hl.1 (Nat.le_of_ble_eq_true rfl) d_M_readRow_43 ⟨by first | exact Nat.le_of_ble_eq_true rfl | (dsimp only; omega) | omega, by first | exact Nat.le_of_ble_eq_true rfl | (dsimp only; omega) | omega⟩ rfl (fun r9 h9 H locs hp hw => ?_)
                    have sa12 := sk_le (t := t) (n := n) (p := sk t n p4) (by omega)
                    have sb12 := sk_ge t n (sk t n p4)
                    by_cases ws43 : bt t n (sk t n (sk t n p4)) = 44
                    · -- wanted True
                      have sc12 := bt_lt (c := 44) ws43
                      obtain ⟨r8, hp⟩ := hp
                      unfold wsP wsI at hp
                      rw [if_pos ⟨rfl, ws43⟩, if_pos rfl, if_pos ws43] at hp
                      have hp := And.intro r8 hp
                      obtain ⟨r8, hh13⟩ := hp
                      subst r8
                      obtain ⟨h13, e8⟩ : ∃ x9, x9 = h9 := ⟨_, rfl⟩
                      subst e8
                      have f13_mo : h13 mo = some ((20, 0), .inr (11, mF ma cod tpd (nI n) (nI S.1) cls9 ffl fcl (nI R4.1) (nI (tbC R4.2 R4.1)) ous (nI (sk t n (sk t n p4) + 1)) (-1))) := by rw [← hh13]; exact z_put_eq
                      have f13_ma_1 : h13 (ma 1) = some ((22, 0), .inl (g.2.1 1, 4000, .inl f)) := by rw [← hh13]; exact z_keep f11_mo f11_ma_1 (z_t1 (by decide))
                      have kk13 : z_K (fun y => y = 20 ∨ y = 29 ∨ y = 30 ∨ y = 31) h h13 := kk11.tr (by rw [← hh13]; exact z_K.put f11_mo (by first | decide | simp | omega))
                      have sg_Nh13 : z_K (fun y => y = 20) h7 h13 := sg_Nh11.tr (by rw [← hh13]; exact z_K.put f11_mo (by simp))
                      refine W.eq (g2 := F0 m 46 ls []) rfl ?_
                      refine lv_goto (tgt := 16) hx hb d_M_readRow_46 (by decide) ?_
                      refine ih_16 c5 (sk t n (sk t n p4) + 1) (-1) R4 h13 _ _ _ f13_mo f13_ma_1 (⟨by omega, by omega⟩) kk13 (n4.k sg_Nh13 (by omega) (by omega) (by omega)) (Or.inl ⟨by have := hc3.resolve_right (fun z => z e24); rw [sk_sk] at *; omega, z4⟩) (Or.inr ⟨rfl, by rw [eX8, if_pos (by rw [← sk_sk]; exact ws43), sk_sk], by rw [sk_sk] at *; omega, by rw [sk_sk] at *; omega⟩) ?_ hw (lv_sub hl [0, 1, 2] rfl)
                      omega
                    · -- wanted False
                      have il12 : ¬ nI (sk t n (sk t n p4)) = (-1 : Int32) := nI_ne1 (by omega)
                      obtain ⟨r8, hp⟩ := hp
                      unfold wsP wsI at hp
                      rw [if_neg (fun z => ws43 z.2), if_pos rfl, if_neg ws43] at hp
                      have hp := And.intro r8 hp
                      obtain ⟨r8, hh14⟩ := hp
                      subst r8
                      obtain ⟨h14, e8⟩ : ∃ x9, x9 = h9 := ⟨_, rfl⟩
                      subst e8
                      have f14_mo : h14 mo = some ((20, 0), .inr (11, mF ma cod tpd (nI n) (nI S.1) cls9 ffl fcl (nI R4.1) (nI (tbC R4.2 R4.1)) ous (nI (sk t n (sk t n p4))) (nI (sk t n (sk t n p4))))) := by rw [← hh14]; exact z_put_eq
                      have f14_ma_1 : h14 (ma 1) = some ((22, 0), .inl (g.2.1 1, 4000, .inl f)) := by rw [← hh14]; exact z_keep f11_mo f11_ma_1 (z_t1 (by decide))
                      have kk14 : z_K (fun y => y = 20 ∨ y = 29 ∨ y = 30 ∨ y = 31) h h14 := kk11.tr (by rw [← hh14]; exact z_K.put f11_mo (by first | decide | simp | omega))
                      have sg_Nh14 : z_K (fun y => y = 20) h7 h14 := sg_Nh11.tr (by rw [← hh14]; exact z_K.put f11_mo (by simp))
                      refine W.eq (g2 := F0 m 46 ls []) rfl ?_
                      refine lv_goto (tgt := 16) hx hb d_M_readRow_46 (by decide) ?_
                      refine ih_16 c5 (sk t n (sk t n p4)) (nI (sk t n (sk t n p4))) R4 h14 _ _ _ f14_mo f14_ma_1 (⟨by omega, by omega⟩) kk14 (n4.k sg_Nh14 (by omega) (by omega) (by omega)) (Or.inr il12) (Or.inl ⟨il12, by rw [eX8, if_neg (by rw [← sk_sk]; exact ws43), sgnR_no (by rw [sk_sk]; exact ts33)]; rfl⟩) ?_ hw (lv_sub hl [0, 1, 2] rfl)
                      omega
                  · -- 36: False
                    exact absurd (by decide) c_36
              · -- read False
                have eX7 : resJ X = resJ (VR p3 R3) := by obtain ⟨F9, eF9⟩ := resJ_inl e30; rw [eX3, ec5, rowL_no eF9, eF9]
                refine lv_aload_n hx hb d_M_readRow_30 rfl (lv_at hl 0 rfl) ?_
                refine lv_bipush (v := 93) hx hb d_M_readRow_31 (by decide) ?_
                refine z_callV (n := 1) (As := [.int 93]) (rest := []) ⟨hx, hb, hml, hown, hts⟩ (m_takesSign (t := t) l g h7 m4 g7_ma_1 hn hf (by omega)) (z_in k_927 rfl) (z_in k_7 rfl) (z_in k_924 rfl) (z_in k_926 rfl) (z_in ks_34 rfl) (by decide +kernel) ⟨by first | exact Nat.le_of_ble_eq_true rfl | (dsimp only; omega) | omega, by first | exact Nat.le_of_ble_eq_true rfl | (dsimp only; omega) | omega⟩ hK hE hw hA rfl m4 rfl hl.1 (Nat.le_of_ble_eq_true rfl) d_M_readRow_33 ⟨by first | exact Nat.le_of_ble_eq_true rfl | (dsimp only; omega) | omega, by first | exact Nat.le_of_ble_eq_true rfl | (dsimp only; omega) | omega⟩ rfl (fun r9 h9 H locs hp hw => ?_)
                have sa15 := sk_le (t := t) (n := n) (p := p4) (by omega)
                have sb15 := sk_ge t n p4
                rw [if_neg (fun z => e30 z.1)] at hp
                obtain ⟨r8, hh16⟩ := hp
                subst r8
                obtain ⟨h16, e8⟩ : ∃ x9, x9 = h9 := ⟨_, rfl⟩
                subst e8
                have f16_mo : h16 mo = some ((20, 0), .inr (11, mF ma cod tpd (nI n) (nI S.1) cls9 ffl fcl (nI R4.1) (nI (tbC R4.2 R4.1)) ous (nI (sk t n p4)) (resJ (VR p3 R3)))) := by rw [← hh16]; exact z_put_eq
                have f16_ma_1 : h16 (ma 1) = some ((22, 0), .inl (g.2.1 1, 4000, .inl f)) := by rw [← hh16]; exact z_keep m4 g7_ma_1 (z_t1 (by decide))
                have kk16 : z_K (fun y => y = 20 ∨ y = 29 ∨ y = 30 ∨ y = 31) h h16 := kk7.tr (by rw [← hh16]; exact z_K.put m4 (by first | decide | simp | omega))
                have sg_Nh16 : z_K (fun y => y = 20) h7 h16 := sg_Nh7.tr (by rw [← hh16]; exact z_K.put m4 (by simp))
                refine W.eq (g2 := F0 m 36 ls [.int 0]) rfl ?_
                refine lv_if_eq (tgt := 40) hx hb d_M_readRow_36 (by decide) (fun c_36 => ?_) (fun c_36 => ?_)
                · -- 36: True
                  refine lv_aload_n hx hb d_M_readRow_40 rfl (lv_at hl 0 rfl) ?_
                  refine lv_bipush (v := 44) hx hb d_M_readRow_41 (by decide) ?_
                  refine z_callV (n := 1) (As := [.int 44]) (rest := []) ⟨hx, hb, hml, hown, hts⟩ (m_wantSign (t := t) l g h16 f16_mo f16_ma_1 hn hf (by omega)) (z_in k_923 rfl) (z_in k_7 rfl) (z_in k_920 rfl) (z_in k_922 rfl) (z_in ks_33 rfl) (by decide +kernel) ⟨by first | exact Nat.le_of_ble_eq_true rfl | (dsimp only; omega) | omega, by first | exact Nat.le_of_ble_eq_true rfl | (dsimp only; omega) | omega⟩ hK hE hw hA rfl f16_mo rfl hl.1 (Nat.le_of_ble_eq_true rfl) d_M_readRow_43 ⟨by first | exact Nat.le_of_ble_eq_true rfl | (dsimp only; omega) | omega, by first | exact Nat.le_of_ble_eq_true rfl | (dsimp only; omega) | omega⟩ rfl (fun r9 h9 H locs hp hw => ?_)
                  have sa17 := sk_le (t := t) (n := n) (p := sk t n p4) (by omega)
                  have sb17 := sk_ge t n (sk t n p4)
                  obtain ⟨r8, hp⟩ := hp
                  unfold wsP wsI at hp
                  rw [if_neg (fun z => e30 z.1), if_neg e30] at hp
                  have hp := And.intro r8 hp
                  obtain ⟨r8, hh18⟩ := hp
                  subst r8
                  obtain ⟨h18, e8⟩ : ∃ x9, x9 = h9 := ⟨_, rfl⟩
                  subst e8
                  have f18_mo : h18 mo = some ((20, 0), .inr (11, mF ma cod tpd (nI n) (nI S.1) cls9 ffl fcl (nI R4.1) (nI (tbC R4.2 R4.1)) ous (nI (sk t n (sk t n p4))) (resJ (VR p3 R3)))) := by rw [← hh18]; exact z_put_eq
                  have f18_ma_1 : h18 (ma 1) = some ((22, 0), .inl (g.2.1 1, 4000, .inl f)) := by rw [← hh18]; exact z_keep f16_mo f16_ma_1 (z_t1 (by decide))
                  have kk18 : z_K (fun y => y = 20 ∨ y = 29 ∨ y = 30 ∨ y = 31) h h18 := kk16.tr (by rw [← hh18]; exact z_K.put f16_mo (by first | decide | simp | omega))
                  have sg_Nh18 : z_K (fun y => y = 20) h7 h18 := sg_Nh16.tr (by rw [← hh18]; exact z_K.put f16_mo (by simp))
                  refine W.eq (g2 := F0 m 46 ls []) rfl ?_
                  refine lv_goto (tgt := 16) hx hb d_M_readRow_46 (by decide) ?_
                  refine ih_16 c5 (sk t n (sk t n p4)) (resJ (VR p3 R3)) R4 h18 _ _ _ f18_mo f18_ma_1 (⟨by omega, by omega⟩) kk18 (n4.k sg_Nh18 (by omega) (by omega) (by omega)) (Or.inr e30) (Or.inl ⟨e30, eX7⟩) ?_ hw (lv_sub hl [0, 1, 2] rfl)
                  omega
                · -- 36: False
                  exact absurd (by decide) c_36
        exact loop_16 (4001 + 1) 4001 (sk t n (sk t n p + 1)) (-1) R h5 _ _ _ f5_mo f5_ma_1 (⟨by omega, by omega⟩) kk5 (hNd.k sg_Nh5 (by omega) (by omega) (by omega)) (Or.inl ⟨by omega, hR0⟩) (Or.inr ⟨rfl, by rw [eX, if_pos ws3, if_neg ts9], by omega, by omega⟩) (by omega) hw (lv_sub hl [0, 1, 2] rfl)
      · -- 12: False
        exact absurd (by decide) c_12
  · -- wanted False
    have il1 : ¬ nI (sk t n p) = (-1 : Int32) := nI_ne1 (by omega)
    obtain ⟨r8, hp⟩ := hp
    unfold wsP wsI at hp
    rw [if_neg (fun z => ws3 z.2), if_pos rfl, if_neg ws3] at hp
    have hp := And.intro r8 hp
    obtain ⟨r8, hh19⟩ := hp
    subst r8
    obtain ⟨h19, e8⟩ : ∃ x9, x9 = h9 := ⟨_, rfl⟩
    subst e8
    have f19_mo : h19 mo = some ((20, 0), .inr (11, mF ma cod tpd (nI n) (nI S.1) cls9 ffl fcl (nI R.1) (nI (tbC R.2 R.1)) ous (nI (sk t n p)) (nI (sk t n p)))) := by rw [← hh19]; exact z_put_eq
    have f19_ma_1 : h19 (ma 1) = some ((22, 0), .inl (g.2.1 1, 4000, .inl f)) := by rw [← hh19]; exact z_keep hmo htx (z_t1 (by decide))
    have kk19 : z_K (fun y => y = 20 ∨ y = 29 ∨ y = 30 ∨ y = 31) h h19 := kk0.tr (by rw [← hh19]; exact z_K.put hmo (by first | decide | simp | omega))
    have sg_Nh19 : z_K (fun y => y = 20) h h19 := sg_Nh.tr (by rw [← hh19]; exact z_K.put hmo (by simp))
    refine W.eq (g2 := F0 m 6 ls []) rfl ?_
    refine lv_aload_n hx hb d_M_readRow_6 rfl (lv_at hl 0 rfl) ?_
    refine lv_bipush (v := 93) hx hb d_M_readRow_7 (by decide) ?_
    refine z_callV (n := 1) (As := [.int 93]) (rest := []) ⟨hx, hb, hml, hown, hts⟩ (m_takesSign (t := t) l g h19 f19_mo f19_ma_1 hn hf (by omega)) (z_in k_927 rfl) (z_in k_7 rfl) (z_in k_924 rfl) (z_in k_926 rfl) (z_in ks_34 rfl) (by decide +kernel) ⟨by first | exact Nat.le_of_ble_eq_true rfl | (dsimp only; omega) | omega, by first | exact Nat.le_of_ble_eq_true rfl | (dsimp only; omega) | omega⟩ hK hE hw hA rfl f19_mo rfl hl.1 (Nat.le_of_ble_eq_true rfl) d_M_readRow_9 ⟨by first | exact Nat.le_of_ble_eq_true rfl | (dsimp only; omega) | omega, by first | exact Nat.le_of_ble_eq_true rfl | (dsimp only; omega) | omega⟩ rfl (fun r9 h9 H locs hp hw => ?_)
    have sa20 := sk_le (t := t) (n := n) (p := sk t n p) (by omega)
    have sb20 := sk_ge t n (sk t n p)
    rw [if_neg (fun z => il1 z.1)] at hp
    obtain ⟨r8, hh21⟩ := hp
    subst r8
    obtain ⟨h21, e8⟩ : ∃ x9, x9 = h9 := ⟨_, rfl⟩
    subst e8
    have f21_mo : h21 mo = some ((20, 0), .inr (11, mF ma cod tpd (nI n) (nI S.1) cls9 ffl fcl (nI R.1) (nI (tbC R.2 R.1)) ous (nI (sk t n (sk t n p))) (nI (sk t n p)))) := by rw [← hh21]; exact z_put_eq
    have f21_ma_1 : h21 (ma 1) = some ((22, 0), .inl (g.2.1 1, 4000, .inl f)) := by rw [← hh21]; exact z_keep f19_mo f19_ma_1 (z_t1 (by decide))
    have kk21 : z_K (fun y => y = 20 ∨ y = 29 ∨ y = 30 ∨ y = 31) h h21 := kk19.tr (by rw [← hh21]; exact z_K.put f19_mo (by first | decide | simp | omega))
    have sg_Nh21 : z_K (fun y => y = 20) h h21 := sg_Nh19.tr (by rw [← hh21]; exact z_K.put f19_mo (by simp))
    refine W.eq (g2 := F0 m 12 ls [.int 0]) rfl ?_
    refine lv_if_eq (tgt := 16) hx hb d_M_readRow_12 (by decide) (fun c_12 => ?_) (fun c_12 => ?_)
    · -- 12: True
      have loop_16 : ∀ (fuel : Nat) (c : Nat) (p3 : Nat) (i3 : Int32) (R3 : Rec) (hL : z_H) (H : Heap) (locs : List Loc) (ls : Array Slot) (L16_mo : hL mo = some ((20, 0), .inr (11, mF ma cod tpd (nI n) (nI S.1) cls9 ffl fcl (nI R3.1) (nI (tbC R3.2 R3.1)) ous (nI p3) i3))) (L16_ma_1 : hL (ma 1) = some ((22, 0), .inl (g.2.1 1, 4000, .inl f))) (hle3 : p3 ≤ n ∧ p ≤ p3) (kk3 : z_K (fun y => y = 20 ∨ y = 29 ∨ y = 30 ∨ y = 31) h hL) (hN3 : MNd g hL ma R3) (hc3 : 4001 ≤ c + p3 ∧ 0 < R3.1 ∨ ¬ i3 = -1) (hZ3 : (¬ i3 = -1 ∧ resJ X = i3) ∨ (i3 = -1 ∧ X = rowL VR t n c p3 R3 ∧ 2 * R3.1 + 1 ≤ p3 ∧ tbR R3 ≤ p3)), c < fuel → z_S g A s.heap hL H locs → lv_has ls 3 [(0, .ref mo), (1, .int (nI pi)), (2, .int (nI fi))] → W pg l en { frames := fM + 10, cells := 0, slots := 0, locals := lM + 200 } s m [.ref mo, .int (nI pi), .int (nI fi)].toArray below meth cd H locs 0 0 (MQ below (z_Q g A (fun x h1 => x = none ∧ rvP g h h1 mo ma cod tpd cls9 ffl fcl ous n p S X)) [.ref mo, .int (nI pi), .int (nI fi)].toArray s 0 0 A) (F0 m 16 ls []) := by
        intro fuel
        induction fuel with
        | zero => intro c p3 i3 R3 hL H locs ls L16_mo L16_ma_1 hle3 kk3 hN3 hc3 hZ3 hm; exact absurd hm (Nat.not_lt_zero _)
        | succ fuel ih_16 =>
          intro c p3 i3 R3 hL H locs ls L16_mo L16_ma_1 hle3 kk3 hN3 hc3 hZ3 hm hw hl
          have sg_NhL : z_K (fun y => y = 20) hL hL := z_K.rf
          refine lv_aload_n hx hb d_M_readRow_16 rfl (lv_at hl 0 rfl) ?_
          refine z_get hx hb hts (z_lay i_M) hown hK hw L16_mo rfl 30 (by decide) (z_in k_801 rfl) (fun _ h9 => h9) rfl d_M_readRow_17 ?_
          refine lv_iconst (v := (-1)) hx hb d_M_readRow_20 (by decide) ?_
          refine lv_icmp_ne (tgt := 49) hx hb d_M_readRow_21 (by decide) (fun c_21 => ?_) (fun c_21 => ?_)
          · -- 21: True
            exact z_vret hx hb hr hlocks hw (by have eR : resJ X = i3 := ((hZ3.resolve_right (fun z => c_21 z.1)).2); refine ⟨rfl, kk3, p3, R3, ?_, by omega, by omega, hN3.k sg_NhL (by omega) (by omega) (by omega), fun z => absurd (eR.symm.trans z) c_21⟩; rw [eR]; exact L16_mo) (by decide) (by decide) d_M_readRow_49
          · -- 21: False
            have e24 : i3 = -1 := by simpa using c_21
            obtain ⟨-, eX3, b3, t3⟩ := hZ3.resolve_left (fun z => z.1 e24)
            have fi22 : hL mo = some ((20, 0), .inr (11, mF ma cod tpd (nI n) (nI S.1) cls9 ffl fcl (nI R3.1) (nI (tbC R3.2 R3.1)) ous (nI p3) (-1))) := by have z9 := L16_mo; rw [e24] at z9; exact z9
            have hc4 := hc3.resolve_right (fun z => z e24)
            obtain ⟨c5, ec5⟩ : ∃ c5, c = c5 + 1 := ⟨c - 1, by omega⟩
            refine lv_aload_n hx hb d_M_readRow_24 rfl (lv_at hl 0 rfl) ?_
            refine lv_iload_n hx hb d_M_readRow_25 rfl (lv_at hl 1 rfl) ?_
            refine lv_iload_n hx hb d_M_readRow_26 rfl (lv_at hl 2 rfl) ?_
            refine z_callV (n := 2) (As := [.int (nI pi), .int (nI fi)]) (rest := []) ⟨hx, hb, hml, hown, hts⟩ (hV hL p3 R3 fi22 L16_ma_1 (hSc.k kk3 (by omega) (by omega) (by omega)) (hN3.k sg_NhL (by omega) (by omega) (by omega)) (hc3.resolve_right (fun z => z e24)).2 (by omega) b3 t3) (z_in k_987 rfl) (z_in k_7 rfl) (z_in k_984 rfl) (z_in k_986 rfl) (z_in ks_43 rfl) (by decide +kernel) ⟨by first | exact Nat.le_of_ble_eq_true rfl | (dsimp only; omega) | omega, by first | exact Nat.le_of_ble_eq_true rfl | (dsimp only; omega) | omega⟩ hK hE hw hA rfl fi22 rfl hl.1 (Nat.le_of_ble_eq_true rfl) d_M_readRow_27 ⟨by first | exact Nat.le_of_ble_eq_true rfl | (dsimp only; omega) | omega, by first | exact Nat.le_of_ble_eq_true rfl | (dsimp only; omega) | omega⟩ rfl (fun r9 h9 H locs hp hw => ?_)
            obtain ⟨r8, kk8, p4, R4, m4, le4, ge4, n4, im4⟩ := hp
            subst r8
            obtain ⟨h23, e7⟩ : ∃ x9, x9 = h9 := ⟨_, rfl⟩
            subst e7
            have g23_ma_1 : h23 (ma 1) = some ((22, 0), .inl (g.2.1 1, 4000, .inl f)) := kk8 _ _ _ L16_ma_1 (by simp)
            have kk23 : z_K (fun y => y = 20 ∨ y = 29 ∨ y = 30 ∨ y = 31) h h23 := kk3.tr kk8
            have sg_Nh23 : z_K (fun y => y = 20) h23 h23 := z_K.rf
            refine W.eq (g2 := F0 m 30 ls []) rfl ?_
            by_cases e30 : resJ (VR p3 R3) = -1
            · -- read True
              obtain ⟨eF4, b4, t4, z4⟩ := im4 e30
              have fi24 : h23 mo = some ((20, 0), .inr (11, mF ma cod tpd (nI n) (nI S.1) cls9 ffl fcl (nI R4.1) (nI (tbC R4.2 R4.1)) ous (nI p4) (-1))) := by have z9 := m4; rw [e30] at z9; exact z9
              have eX8 : X = if bt t n (sk t n p4) = 44 then rowL VR t n c5 (sk t n p4 + 1) R4 else sgnR t n 93 (sk t n p4) R4 := by rw [eX3, ec5]; exact rowL_ok eF4
              refine lv_aload_n hx hb d_M_readRow_30 rfl (lv_at hl 0 rfl) ?_
              refine lv_bipush (v := 93) hx hb d_M_readRow_31 (by decide) ?_
              refine z_callV (n := 1) (As := [.int 93]) (rest := []) ⟨hx, hb, hml, hown, hts⟩ (m_takesSign (t := t) l g h23 fi24 g23_ma_1 hn hf (by omega)) (z_in k_927 rfl) (z_in k_7 rfl) (z_in k_924 rfl) (z_in k_926 rfl) (z_in ks_34 rfl) (by decide +kernel) ⟨by first | exact Nat.le_of_ble_eq_true rfl | (dsimp only; omega) | omega, by first | exact Nat.le_of_ble_eq_true rfl | (dsimp only; omega) | omega⟩ hK hE hw hA rfl fi24 rfl hl.1 (Nat.le_of_ble_eq_true rfl) d_M_readRow_33 ⟨by first | exact Nat.le_of_ble_eq_true rfl | (dsimp only; omega) | omega, by first | exact Nat.le_of_ble_eq_true rfl | (dsimp only; omega) | omega⟩ rfl (fun r9 h9 H locs hp hw => ?_)
              have sa25 := sk_le (t := t) (n := n) (p := p4) (by omega)
              have sb25 := sk_ge t n p4
              by_cases ts33 : bt t n (sk t n p4) = 93
              · -- sign True
                rw [if_pos ⟨rfl, ts33⟩] at hp
                have sc25 := bt_lt (c := 93) ts33
                obtain ⟨r8, hh26⟩ := hp
                subst r8
                obtain ⟨h26, e8⟩ : ∃ x9, x9 = h9 := ⟨_, rfl⟩
                subst e8
                have f26_mo : h26 mo = some ((20, 0), .inr (11, mF ma cod tpd (nI n) (nI S.1) cls9 ffl fcl (nI R4.1) (nI (tbC R4.2 R4.1)) ous (nI (sk t n p4 + 1)) (-1))) := by rw [← hh26]; exact z_put_eq
                have f26_ma_1 : h26 (ma 1) = some ((22, 0), .inl (g.2.1 1, 4000, .inl f)) := by rw [← hh26]; exact z_keep fi24 g23_ma_1 (z_t1 (by decide))
                have kk26 : z_K (fun y => y = 20 ∨ y = 29 ∨ y = 30 ∨ y = 31) h h26 := kk23.tr (by rw [← hh26]; exact z_K.put fi24 (by first | decide | simp | omega))
                have sg_Nh26 : z_K (fun y => y = 20) h23 h26 := sg_Nh23.tr (by rw [← hh26]; exact z_K.put fi24 (by simp))
                refine W.eq (g2 := F0 m 36 ls [.int 1]) rfl ?_
                refine lv_if_eq (tgt := 40) hx hb d_M_readRow_36 (by decide) (fun c_36 => ?_) (fun c_36 => ?_)
                · -- 36: True
                  exact absurd c_36 (by decide)
                · -- 36: False
                  exact z_vret hx hb hr hlocks hw (by have eX9 : X = .inr (sk t n p4 + 1, R4) := (by rw [eX8, if_neg (by rw [ts33]; decide), sgnR_ok (by rw [sk_sk]; exact ts33), sk_sk]); have eR : resJ X = (-1) := (by rw [eX9]; rfl); refine ⟨rfl, kk26, sk t n p4 + 1, R4, ?_, by omega, by omega, n4.k sg_Nh26 (by omega) (by omega) (by omega), fun _ => ⟨eX9, by omega, by omega, z4⟩⟩; rw [eR]; exact f26_mo) (by decide) (by decide) d_M_readRow_39
              · -- sign False
                rw [if_neg (fun z => ts33 z.2)] at hp
                obtain ⟨r8, hh27⟩ := hp
                subst r8
                obtain ⟨h27, e8⟩ : ∃ x9, x9 = h9 := ⟨_, rfl⟩
                subst e8
                have f27_mo : h27 mo = some ((20, 0), .inr (11, mF ma cod tpd (nI n) (nI S.1) cls9 ffl fcl (nI R4.1) (nI (tbC R4.2 R4.1)) ous (nI (sk t n p4)) (-1))) := by rw [← hh27]; exact z_put_eq
                have f27_ma_1 : h27 (ma 1) = some ((22, 0), .inl (g.2.1 1, 4000, .inl f)) := by rw [← hh27]; exact z_keep fi24 g23_ma_1 (z_t1 (by decide))
                have kk27 : z_K (fun y => y = 20 ∨ y = 29 ∨ y = 30 ∨ y = 31) h h27 := kk23.tr (by rw [← hh27]; exact z_K.put fi24 (by first | decide | simp | omega))
                have sg_Nh27 : z_K (fun y => y = 20) h23 h27 := sg_Nh23.tr (by rw [← hh27]; exact z_K.put fi24 (by simp))
                refine W.eq (g2 := F0 m 36 ls [.int 0]) rfl ?_
                refine lv_if_eq (tgt := 40) hx hb d_M_readRow_36 (by decide) (fun c_36 => ?_) (fun c_36 => ?_)
                · -- 36: True
                  refine lv_aload_n hx hb d_M_readRow_40 rfl (lv_at hl 0 rfl) ?_
                  refine lv_bipush (v := 44) hx hb d_M_readRow_41 (by decide) ?_
                  refine z_callV (n := 1) (As := [.int 44]) (rest := []) ⟨hx, hb, hml, hown, hts⟩ (m_wantSign (t := t) l g h27 f27_mo f27_ma_1 hn hf (by omega)) (z_in k_923 rfl) (z_in k_7 rfl) (z_in k_920 rfl) (z_in k_922 rfl) (z_in ks_33 rfl) (by decide +kernel) ⟨by first | exact Nat.le_of_ble_eq_true rfl | (dsimp only; omega) | omega, by first | exact Nat.le_of_ble_eq_true rfl | (dsimp only; omega) | omega⟩ hK hE hw hA rfl f27_mo rfl hl.1 (Nat.le_of_ble_eq_true rfl) d_M_readRow_43 ⟨by first | exact Nat.le_of_ble_eq_true rfl | (dsimp only; omega) | omega, by first | exact Nat.le_of_ble_eq_true rfl | (dsimp only; omega) | omega⟩ rfl (fun r9 h9 H locs hp hw => ?_)
                  have sa28 := sk_le (t := t) (n := n) (p := sk t n p4) (by omega)
                  have sb28 := sk_ge t n (sk t n p4)
                  by_cases ws43 : bt t n (sk t n (sk t n p4)) = 44
                  · -- wanted True
                    have sc28 := bt_lt (c := 44) ws43
                    obtain ⟨r8, hp⟩ := hp
                    unfold wsP wsI at hp
                    rw [if_pos ⟨rfl, ws43⟩, if_pos rfl, if_pos ws43] at hp
                    have hp := And.intro r8 hp
                    obtain ⟨r8, hh29⟩ := hp
                    subst r8
                    obtain ⟨h29, e8⟩ : ∃ x9, x9 = h9 := ⟨_, rfl⟩
                    subst e8
                    have f29_mo : h29 mo = some ((20, 0), .inr (11, mF ma cod tpd (nI n) (nI S.1) cls9 ffl fcl (nI R4.1) (nI (tbC R4.2 R4.1)) ous (nI (sk t n (sk t n p4) + 1)) (-1))) := by rw [← hh29]; exact z_put_eq
                    have f29_ma_1 : h29 (ma 1) = some ((22, 0), .inl (g.2.1 1, 4000, .inl f)) := by rw [← hh29]; exact z_keep f27_mo f27_ma_1 (z_t1 (by decide))
                    have kk29 : z_K (fun y => y = 20 ∨ y = 29 ∨ y = 30 ∨ y = 31) h h29 := kk27.tr (by rw [← hh29]; exact z_K.put f27_mo (by first | decide | simp | omega))
                    have sg_Nh29 : z_K (fun y => y = 20) h23 h29 := sg_Nh27.tr (by rw [← hh29]; exact z_K.put f27_mo (by simp))
                    refine W.eq (g2 := F0 m 46 ls []) rfl ?_
                    refine lv_goto (tgt := 16) hx hb d_M_readRow_46 (by decide) ?_
                    refine ih_16 c5 (sk t n (sk t n p4) + 1) (-1) R4 h29 _ _ _ f29_mo f29_ma_1 (⟨by omega, by omega⟩) kk29 (n4.k sg_Nh29 (by omega) (by omega) (by omega)) (Or.inl ⟨by have := hc3.resolve_right (fun z => z e24); rw [sk_sk] at *; omega, z4⟩) (Or.inr ⟨rfl, by rw [eX8, if_pos (by rw [← sk_sk]; exact ws43), sk_sk], by rw [sk_sk] at *; omega, by rw [sk_sk] at *; omega⟩) ?_ hw (lv_sub hl [0, 1, 2] rfl)
                    omega
                  · -- wanted False
                    have il28 : ¬ nI (sk t n (sk t n p4)) = (-1 : Int32) := nI_ne1 (by omega)
                    obtain ⟨r8, hp⟩ := hp
                    unfold wsP wsI at hp
                    rw [if_neg (fun z => ws43 z.2), if_pos rfl, if_neg ws43] at hp
                    have hp := And.intro r8 hp
                    obtain ⟨r8, hh30⟩ := hp
                    subst r8
                    obtain ⟨h30, e8⟩ : ∃ x9, x9 = h9 := ⟨_, rfl⟩
                    subst e8
                    have f30_mo : h30 mo = some ((20, 0), .inr (11, mF ma cod tpd (nI n) (nI S.1) cls9 ffl fcl (nI R4.1) (nI (tbC R4.2 R4.1)) ous (nI (sk t n (sk t n p4))) (nI (sk t n (sk t n p4))))) := by rw [← hh30]; exact z_put_eq
                    have f30_ma_1 : h30 (ma 1) = some ((22, 0), .inl (g.2.1 1, 4000, .inl f)) := by rw [← hh30]; exact z_keep f27_mo f27_ma_1 (z_t1 (by decide))
                    have kk30 : z_K (fun y => y = 20 ∨ y = 29 ∨ y = 30 ∨ y = 31) h h30 := kk27.tr (by rw [← hh30]; exact z_K.put f27_mo (by first | decide | simp | omega))
                    have sg_Nh30 : z_K (fun y => y = 20) h23 h30 := sg_Nh27.tr (by rw [← hh30]; exact z_K.put f27_mo (by simp))
                    refine W.eq (g2 := F0 m 46 ls []) rfl ?_
                    refine lv_goto (tgt := 16) hx hb d_M_readRow_46 (by decide) ?_
                    refine ih_16 c5 (sk t n (sk t n p4)) (nI (sk t n (sk t n p4))) R4 h30 _ _ _ f30_mo f30_ma_1 (⟨by omega, by omega⟩) kk30 (n4.k sg_Nh30 (by omega) (by omega) (by omega)) (Or.inr il28) (Or.inl ⟨il28, by rw [eX8, if_neg (by rw [← sk_sk]; exact ws43), sgnR_no (by rw [sk_sk]; exact ts33)]; rfl⟩) ?_ hw (lv_sub hl [0, 1, 2] rfl)
                    omega
                · -- 36: False
                  exact absurd (by decide) c_36
            · -- read False
              have eX7 : resJ X = resJ (VR p3 R3) := by obtain ⟨F9, eF9⟩ := resJ_inl e30; rw [eX3, ec5, rowL_no eF9, eF9]
              refine lv_aload_n hx hb d_M_readRow_30 rfl (lv_at hl 0 rfl) ?_
              refine lv_bipush (v := 93) hx hb d_M_readRow_31 (by decide) ?_
              refine z_callV (n := 1) (As := [.int 93]) (rest := []) ⟨hx, hb, hml, hown, hts⟩ (m_takesSign (t := t) l g h23 m4 g23_ma_1 hn hf (by omega)) (z_in k_927 rfl) (z_in k_7 rfl) (z_in k_924 rfl) (z_in k_926 rfl) (z_in ks_34 rfl) (by decide +kernel) ⟨by first | exact Nat.le_of_ble_eq_true rfl | (dsimp only; omega) | omega, by first | exact Nat.le_of_ble_eq_true rfl | (dsimp only; omega) | omega⟩ hK hE hw hA rfl m4 rfl hl.1 (Nat.le_of_ble_eq_true rfl) d_M_readRow_33 ⟨by first | exact Nat.le_of_ble_eq_true rfl | (dsimp only; omega) | omega, by first | exact Nat.le_of_ble_eq_true rfl | (dsimp only; omega) | omega⟩ rfl (fun r9 h9 H locs hp hw => ?_)
              have sa31 := sk_le (t := t) (n := n) (p := p4) (by omega)
              have sb31 := sk_ge t n p4
              rw [if_neg (fun z => e30 z.1)] at hp
              obtain ⟨r8, hh32⟩ := hp
              subst r8
              obtain ⟨h32, e8⟩ : ∃ x9, x9 = h9 := ⟨_, rfl⟩
              subst e8
              have f32_mo : h32 mo = some ((20, 0), .inr (11, mF ma cod tpd (nI n) (nI S.1) cls9 ffl fcl (nI R4.1) (nI (tbC R4.2 R4.1)) ous (nI (sk t n p4)) (resJ (VR p3 R3)))) := by rw [← hh32]; exact z_put_eq
              have f32_ma_1 : h32 (ma 1) = some ((22, 0), .inl (g.2.1 1, 4000, .inl f)) := by rw [← hh32]; exact z_keep m4 g23_ma_1 (z_t1 (by decide))
              have kk32 : z_K (fun y => y = 20 ∨ y = 29 ∨ y = 30 ∨ y = 31) h h32 := kk23.tr (by rw [← hh32]; exact z_K.put m4 (by first | decide | simp | omega))
              have sg_Nh32 : z_K (fun y => y = 20) h23 h32 := sg_Nh23.tr (by rw [← hh32]; exact z_K.put m4 (by simp))
              refine W.eq (g2 := F0 m 36 ls [.int 0]) rfl ?_
              refine lv_if_eq (tgt := 40) hx hb d_M_readRow_36 (by decide) (fun c_36 => ?_) (fun c_36 => ?_)
              · -- 36: True
                refine lv_aload_n hx hb d_M_readRow_40 rfl (lv_at hl 0 rfl) ?_
                refine lv_bipush (v := 44) hx hb d_M_readRow_41 (by decide) ?_
                refine z_callV (n := 1) (As := [.int 44]) (rest := []) ⟨hx, hb, hml, hown, hts⟩ (m_wantSign (t := t) l g h32 f32_mo f32_ma_1 hn hf (by omega)) (z_in k_923 rfl) (z_in k_7 rfl) (z_in k_920 rfl) (z_in k_922 rfl) (z_in ks_33 rfl) (by decide +kernel) ⟨by first | exact Nat.le_of_ble_eq_true rfl | (dsimp only; omega) | omega, by first | exact Nat.le_of_ble_eq_true rfl | (dsimp only; omega) | omega⟩ hK hE hw hA rfl f32_mo rfl hl.1 (Nat.le_of_ble_eq_true rfl) d_M_readRow_43 ⟨by first | exact Nat.le_of_ble_eq_true rfl | (dsimp only; omega) | omega, by first | exact Nat.le_of_ble_eq_true rfl | (dsimp only; omega) | omega⟩ rfl (fun r9 h9 H locs hp hw => ?_)
                have sa33 := sk_le (t := t) (n := n) (p := sk t n p4) (by omega)
                have sb33 := sk_ge t n (sk t n p4)
                obtain ⟨r8, hp⟩ := hp
                unfold wsP wsI at hp
                rw [if_neg (fun z => e30 z.1), if_neg e30] at hp
                have hp := And.intro r8 hp
                obtain ⟨r8, hh34⟩ := hp
                subst r8
                obtain ⟨h34, e8⟩ : ∃ x9, x9 = h9 := ⟨_, rfl⟩
                subst e8
                have f34_mo : h34 mo = some ((20, 0), .inr (11, mF ma cod tpd (nI n) (nI S.1) cls9 ffl fcl (nI R4.1) (nI (tbC R4.2 R4.1)) ous (nI (sk t n (sk t n p4))) (resJ (VR p3 R3)))) := by rw [← hh34]; exact z_put_eq
                have f34_ma_1 : h34 (ma 1) = some ((22, 0), .inl (g.2.1 1, 4000, .inl f)) := by rw [← hh34]; exact z_keep f32_mo f32_ma_1 (z_t1 (by decide))
                have kk34 : z_K (fun y => y = 20 ∨ y = 29 ∨ y = 30 ∨ y = 31) h h34 := kk32.tr (by rw [← hh34]; exact z_K.put f32_mo (by first | decide | simp | omega))
                have sg_Nh34 : z_K (fun y => y = 20) h23 h34 := sg_Nh32.tr (by rw [← hh34]; exact z_K.put f32_mo (by simp))
                refine W.eq (g2 := F0 m 46 ls []) rfl ?_
                refine lv_goto (tgt := 16) hx hb d_M_readRow_46 (by decide) ?_
                refine ih_16 c5 (sk t n (sk t n p4)) (resJ (VR p3 R3)) R4 h34 _ _ _ f34_mo f34_ma_1 (⟨by omega, by omega⟩) kk34 (n4.k sg_Nh34 (by omega) (by omega) (by omega)) (Or.inr e30) (Or.inl ⟨e30, eX7⟩) ?_ hw (lv_sub hl [0, 1, 2] rfl)
                omega
              · -- 36: False
                exact absurd (by decide) c_36
      exact loop_16 (4001 + 1) 4001 (sk t n (sk t n p)) (nI (sk t n p)) R h21 _ _ _ f21_mo f21_ma_1 (⟨by omega, by omega⟩) kk21 (hNd.k sg_Nh21 (by omega) (by omega) (by omega)) (Or.inr il1) (Or.inl ⟨il1, by rw [eX, if_neg ws3]; rfl⟩) (by omega) hw (lv_sub hl [0, 1, 2] rfl)
    · -- 12: False
      exact absurd (by decide) c_12

theorem isNm_mtc {S : Sch} {gr : Int32} {t : Nat → Nat} {q e i : Nat} (hg : fGr (S.2 i) = gr) : isNm t q e (S.2 i) = mtc S gr t q (e - q) i := by
  rw [← mtc_is, decide_eq_true hg, Bool.true_and]
theorem mtc_gr {S : Sch} {gr : Int32} {t : Nat → Nat} {q m i : Nat} (hg : ¬ fGr (S.2 i) = gr) : mtc S gr t q m i = false := by
  unfold mtc
  rw [decide_eq_false hg]
  rfl
theorem mntR_none {S : Sch} {gr : Int32} {t : Nat → Nat} {q e : Nat} : ∀ r f, (∀ i, f ≤ i → i < f + r → mtc S gr t q (e - q) i = false) → mntR S gr t q e r f = -1 := by
  intro r
  induction r with
  | zero => intro f _; rfl
  | succ r ih =>
    intro f h
    have h1 := ih (f + 1) (fun i a b => h i (by omega) (by omega))
    simp only [mntR]
    by_cases hg : fGr (S.2 f) = gr
    · rw [if_pos hg, isNm_mtc hg, h f (Nat.le_refl _) (by omega), if_neg (by decide), h1]
      split <;> rfl
    · rw [if_neg hg, h1]
theorem mntR_find {S : Sch} {gr : Int32} {t : Nat → Nat} {q e : Nat} : ∀ r f f9, f ≤ f9 → f9 < f + r → mtc S gr t q (e - q) f9 = true → (∀ i, f ≤ i → i < f9 → mtc S gr t q (e - q) i = false) → mntR S gr t q e r f = if hrqR S gr (f9 - f) f = true then -1 else nI f9 := by
  intro r
  induction r with
  | zero => intro f f9 h1 h2; omega
  | succ r ih =>
    intro f f9 h1 h2 h3 h4
    simp only [mntR]
    by_cases e0 : f = f9
    · subst e0
      have hg := (mtc_yes.mp h3).1
      rw [if_pos hg, isNm_mtc hg, if_pos h3, Nat.sub_self]
      rfl
    · have h5 := ih (f + 1) f9 (by omega) (by omega) h3 (fun i a b => h4 i (by omega) b)
      rw [hrqR_step (show f < f9 by omega)]
      by_cases hg : fGr (S.2 f) = gr
      · rw [if_pos hg, isNm_mtc hg, h4 f (Nat.le_refl _) (by omega), if_neg (by decide), decide_eq_true hg, Bool.true_and]
        by_cases hk : fKi (S.2 f) = 0
        · rw [if_pos hk, decide_eq_true hk, Bool.true_or, if_pos rfl]
        · rw [if_neg hk, decide_eq_false hk, Bool.false_or, h5]
      · rw [if_neg hg, decide_eq_false hg, Bool.false_and, Bool.false_or, h5]
theorem namR_let {S : Sch} {t : Nat → Nat} {n : Nat} {gr : Int32} {st p : Nat} (h : ¬ isLet (bt t n (sk t n p)) = true) : namR S t n gr st p = .inl (sk t n p) := if_neg h
theorem namR_none {S : Sch} {t : Nat → Nat} {n : Nat} {gr : Int32} {st p : Nat} (h : ∀ i, i < S.1 → st ≤ i → mtc S gr t (sk t n p) (we t n (sk t n p) - sk t n p) i = false) : namR S t n gr st p = .inl (sk t n p) := by
  unfold namR
  split
  · rw [if_pos]
    exact mntR_none _ _ (fun i a b => h i (by omega) a)
  · rfl
theorem namR_find {S : Sch} (hu : unq S) {t : Nat → Nat} {n : Nat} {gr : Int32} {st p f9 : Nat} (hs : S.1 ≤ 128) (hl : isLet (bt t n (sk t n p)) = true) (h1 : f9 < S.1) (h2 : st ≤ f9) (h3 : mtc S gr t (sk t n p) (we t n (sk t n p) - sk t n p) f9 = true) : namR S t n gr st p = if hrqR S gr (f9 - st) st = true then .inl (sk t n p) else .inr (f9, we t n (sk t n p)) := by
  unfold namR
  rw [if_pos hl]
  have h4 : mnt S gr t (sk t n p) (we t n (sk t n p)) st = if hrqR S gr (f9 - st) st = true then -1 else nI f9 := by
    refine mntR_find _ _ f9 h2 (by omega) h3 (fun i a b => ?_)
    cases hm : mtc S gr t (sk t n p) (we t n (sk t n p) - sk t n p) i with
    | false => rfl
    | true => have := mtc_unq hu (show i < S.1 by omega) h1 hm h3; omega
  rw [h4]
  by_cases hh : hrqR S gr (f9 - st) st = true
  · rw [if_pos hh, if_pos hh, if_pos rfl]
  · rw [if_neg hh, if_neg hh, if_neg (nI_ne1 (by omega)), nI_clamp (by omega)]
theorem memL_sk {F : Nat → Nat → Rec → RRes} {S : Sch} {t : Nat → Nat} {n : Nat} {gr : Int32} {c st p : Nat} {R : Rec} : memL F S t n gr (c + 1) st (sk t n p) R = memL F S t n gr (c + 1) st p R := by
  simp only [memL]
  rw [show namR S t n gr st (sk t n p) = namR S t n gr st p by unfold namR; rw [sk_sk]]
theorem memE_ok {S : Sch} {t : Nat → Nat} {n : Nat} {gr : Int32} {st p : Nat} {R : Rec} (h : bt t n (sk t n p) = 125) : memE S t n gr st p R = if hrq S gr st = true then .inl (sk t n p, R) else .inr (sk t n p + 1, R) := by
  unfold memE
  by_cases h2 : hrq S gr st = true
  · rw [if_pos ⟨h, h2⟩, if_pos h2]
  · rw [if_neg (fun z => h2 z.2), if_neg h2, sgnR_ok h]
theorem memE_no {S : Sch} {t : Nat → Nat} {n : Nat} {gr : Int32} {st p : Nat} {R : Rec} (h : ¬ bt t n (sk t n p) = 125) : memE S t n gr st p R = .inl (sk t n p, R) := by
  unfold memE
  rw [if_neg (fun z => h z.1), sgnR_no h]
theorem memL_nam {F : Nat → Nat → Rec → RRes} {S : Sch} {t : Nat → Nat} {n : Nat} {gr : Int32} {c st p x : Nat} {R : Rec} (h : namR S t n gr st p = .inl x) : memL F S t n gr (c + 1) st p R = .inl (x, R) := by
  simp only [memL]; rw [h]
theorem memL_col {F : Nat → Nat → Rec → RRes} {S : Sch} {t : Nat → Nat} {n : Nat} {gr : Int32} {c st p : Nat} {R : Rec} {y : Nat × Nat} (h : namR S t n gr st p = .inr y) (h2 : ¬ bt t n (sk t n y.2) = 58) : memL F S t n gr (c + 1) st p R = .inl (sk t n y.2, R) := by
  simp only [memL]; rw [h]; dsimp only; rw [if_neg h2]
theorem memL_no {F : Nat → Nat → Rec → RRes} {S : Sch} {t : Nat → Nat} {n : Nat} {gr : Int32} {c st p : Nat} {R : Rec} {y : Nat × Nat} (h : namR S t n gr st p = .inr y) (h2 : bt t n (sk t n y.2) = 58) {x : Nat × Rec} (h3 : F y.1 (sk t n y.2 + 1) R = .inl x) : memL F S t n gr (c + 1) st p R = .inl x := by
  simp only [memL]; rw [h]; dsimp only; rw [if_pos h2, h3]
theorem memL_ok {F : Nat → Nat → Rec → RRes} {S : Sch} {t : Nat → Nat} {n : Nat} {gr : Int32} {c st p : Nat} {R : Rec} {y : Nat × Nat} (h : namR S t n gr st p = .inr y) (h2 : bt t n (sk t n y.2) = 58) {z : Nat × Rec} (h3 : F y.1 (sk t n y.2 + 1) R = .inr z) : memL F S t n gr (c + 1) st p R = if bt t n (sk t n z.1) = 44 then memL F S t n gr c (y.1 + 1) (sk t n z.1 + 1) z.2 else memE S t n gr (y.1 + 1) (sk t n z.1) z.2 := by
  simp only [memL]; rw [h]; dsimp only; rw [if_pos h2, h3]

set_option maxHeartbeats 4000000 in
set_option maxRecDepth 100000 in
theorem m_readGroup_of (l : Launch) (g : z_G) (h : z_H) {mo : Nat} {ma : Nat → Nat} {cod tpd cls9 ffl fcl ous : Int32} {n p : Nat} {f : Nat → Int32} {t : Nat → Nat} {S : Sch} {rw9 : Nat → Nat} {rf : Nat → Nat → Int32} {lf : Nat → Int32} {R : Rec} {pi fM lM : Nat} {gr : Int32} {X : RRes} {VR : Nat → Nat → Rec → RRes} (hmo : h mo = some ((20, 0), .inr (11, mF ma cod tpd (nI n) (nI S.1) cls9 ffl fcl (nI R.1) (nI (tbC R.2 R.1)) ous (nI p) (-1)))) (htx : h (ma 1) = some ((22, 0), .inl (g.2.1 1, 4000, .inl f))) (hn : n ≤ 4000) (hf : ∀ k, k < n → t k < 256 ∧ f k = nI (t k)) (hp : p ≤ n) (hSc : MSp g h (ma 2) (ma 4) 23 27 S rw9 rf lf) (hB : scB S) (hu : unq S) (hNd : MNd g h ma R) (hR0 : 0 < R.1) (hc2 : 2 * R.1 ≤ p + 2) (htb0 : tbR R ≤ p) (eX : X = memR (fun fi p R => fldR (VR fi) S t n fi p R) S t n gr 0 p R) (hV : ∀ fi, fi < S.1 → fGr (S.2 fi) = gr → ∀ (h : z_H) (p : Nat) (R : Rec), h mo = some ((20, 0), .inr (11, mF ma cod tpd (nI n) (nI S.1) cls9 ffl fcl (nI R.1) (nI (tbC R.2 R.1)) ous (nI p) (-1))) → h (ma 1) = some ((22, 0), .inl (g.2.1 1, 4000, .inl f)) → MSp g h (ma 2) (ma 4) 23 27 S rw9 rf lf → MNd g h ma R → 0 < R.1 → p ≤ n → 2 * R.1 + 1 ≤ p → tbR R ≤ p → z_C l y_M_readValue prog_13_method_31_code 5 (Option.none : Option Jvm.ClassFile.FieldType) fM lM 0 0 g [.ref mo, .int (nI pi), .int (nI fi)] h (fun x h1 => x = none ∧ rvP g h h1 mo ma cod tpd cls9 ffl fcl ous n p S (VR fi p R))) : z_C l y_M_readGroup prog_13_method_34_code 7 (Option.none : Option Jvm.ClassFile.FieldType) (fM + 30) (lM + 600) 0 0 g [.ref mo, .int (nI pi), .int gr] h (fun x h1 => x = none ∧ rvP g h h1 mo ma cod tpd cls9 ffl fcl ous n p S X) := by
  refine z_C.of (by decide) (Nat.le_of_ble_eq_true rfl) (fun pg en s m below meth cd A ls hx hb hml hr hts hown hlocks hnm hK hE hA hw hl => ?_)
  have hl : lv_has ls 7 [(0, .ref mo), (1, .int (nI pi)), (2, .int gr)] := hl
  have hs8 := hB.1
  have kk0 : z_K (fun y => y = 20 ∨ y = 29 ∨ y = 30 ∨ y = 31) h h := z_K.rf
  have sg_Nh : z_K (fun y => y = 20) h h := z_K.rf
  refine lv_aload_n hx hb d_M_readGroup_0 rfl (lv_at hl 0 rfl) ?_
  refine lv_bipush (v := 123) hx hb d_M_readGroup_1 (by decide) ?_
  refine z_callV (n := 1) (As := [.int 123]) (rest := []) ⟨hx, hb, hml, hown, hts⟩ (m_wantSign (t := t) l g h hmo htx hn hf (by omega)) (z_in k_923 rfl) (z_in k_7 rfl) (z_in k_920 rfl) (z_in k_922 rfl) (z_in ks_33 rfl) (by decide +kernel) ⟨by first | exact Nat.le_of_ble_eq_true rfl | (dsimp only; omega) | omega, by first | exact Nat.le_of_ble_eq_true rfl | (dsimp only; omega) | omega⟩ hK hE hw hA rfl hmo rfl hl.1 (Nat.le_of_ble_eq_true rfl) d_M_readGroup_3 ⟨by first | exact Nat.le_of_ble_eq_true rfl | (dsimp only; omega) | omega, by first | exact Nat.le_of_ble_eq_true rfl | (dsimp only; omega) | omega⟩ rfl (fun r9 h9 H locs hp hw => ?_)
  have sa1 := sk_le (t := t) (n := n) (p := p) (by omega)
  have sb1 := sk_ge t n p
  by_cases ws3 : bt t n (sk t n p) = 123
  · -- wanted True
    have sc1 := bt_lt (c := 123) ws3
    obtain ⟨r8, hp⟩ := hp
    unfold wsP wsI at hp
    rw [if_pos ⟨rfl, ws3⟩, if_pos rfl, if_pos ws3] at hp
    have hp := And.intro r8 hp
    obtain ⟨r8, hh2⟩ := hp
    subst r8
    obtain ⟨h2, e8⟩ : ∃ x9, x9 = h9 := ⟨_, rfl⟩
    subst e8
    have f2_mo : h2 mo = some ((20, 0), .inr (11, mF ma cod tpd (nI n) (nI S.1) cls9 ffl fcl (nI R.1) (nI (tbC R.2 R.1)) ous (nI (sk t n p + 1)) (-1))) := by rw [← hh2]; exact z_put_eq
    have f2_ma_1 : h2 (ma 1) = some ((22, 0), .inl (g.2.1 1, 4000, .inl f)) := by rw [← hh2]; exact z_keep hmo htx (z_t1 (by decide))
    have kk2 : z_K (fun y => y = 20 ∨ y = 29 ∨ y = 30 ∨ y = 31) h h2 := kk0.tr (by rw [← hh2]; exact z_K.put hmo (by first | decide | simp | omega))
    have sg_Nh2 : z_K (fun y => y = 20) h h2 := sg_Nh.tr (by rw [← hh2]; exact z_K.put hmo (by simp))
    refine W.eq (g2 := F0 m 6 ls []) rfl ?_
    refine lv_aload_n hx hb d_M_readGroup_6 rfl (lv_at hl 0 rfl) ?_
    refine z_callV (n := 0) (As := []) (rest := []) ⟨hx, hb, hml, hown, hts⟩ (m_blanks (t := t) l g h2 f2_mo f2_ma_1 hn hf (by omega)) (z_in k_885 rfl) (z_in k_7 rfl) (z_in k_882 rfl) (z_in k_884 rfl) (z_in ks_27 rfl) (by decide +kernel) ⟨by first | exact Nat.le_of_ble_eq_true rfl | (dsimp only; omega) | omega, by first | exact Nat.le_of_ble_eq_true rfl | (dsimp only; omega) | omega⟩ hK hE hw hA rfl f2_mo rfl hl.1 (Nat.le_of_ble_eq_true rfl) d_M_readGroup_7 ⟨by first | exact Nat.le_of_ble_eq_true rfl | (dsimp only; omega) | omega, by first | exact Nat.le_of_ble_eq_true rfl | (dsimp only; omega) | omega⟩ rfl (fun r9 h9 H locs hp hw => ?_)
    have sq3 := sk_le (t := t) (n := n) (p := sk t n p + 1) (by omega)
    have sr3 := sk_ge t n (sk t n p + 1)
    obtain ⟨r8, hh4⟩ := hp
    subst r8
    obtain ⟨h4, e8⟩ : ∃ x9, x9 = h9 := ⟨_, rfl⟩
    subst e8
    have f4_mo : h4 mo = some ((20, 0), .inr (11, mF ma cod tpd (nI n) (nI S.1) cls9 ffl fcl (nI R.1) (nI (tbC R.2 R.1)) ous (nI (sk t n (sk t n p + 1))) (-1))) := by rw [← hh4]; exact z_put_eq
    have f4_ma_1 : h4 (ma 1) = some ((22, 0), .inl (g.2.1 1, 4000, .inl f)) := by rw [← hh4]; exact z_keep f2_mo f2_ma_1 (z_t1 (by decide))
    have kk4 : z_K (fun y => y = 20 ∨ y = 29 ∨ y = 30 ∨ y = 31) h h4 := kk2.tr (by rw [← hh4]; exact z_K.put f2_mo (by first | decide | simp | omega))
    have sg_Nh4 : z_K (fun y => y = 20) h h4 := sg_Nh2.tr (by rw [← hh4]; exact z_K.put f2_mo (by simp))
    refine W.eq (g2 := F0 m 10 ls []) rfl ?_
    refine lv_iconst (v := 0) hx hb d_M_readGroup_10 (by decide) ?_
    refine lv_istore_n (lv' := [(3, .int 0), (0, .ref mo), (1, .int (nI pi)), (2, .int gr)]) hx hb d_M_readGroup_11 rfl hl (by decide) rfl (fun ls hl => ?_)
    refine lv_iconst (v := 1) hx hb d_M_readGroup_12 (by decide) ?_
    refine lv_istore (lv' := [(4, .int 1), (3, .int 0), (0, .ref mo), (1, .int (nI pi)), (2, .int gr)]) hx hb d_M_readGroup_13 hl (by decide) rfl (fun ls hl => ?_)
    have loop_15 : ∀ (fuel : Nat) (c : Nat) (st : Nat) (fs : Bool) (p3 : Nat) (i3 : Int32) (R3 : Rec) (hL : z_H) (H : Heap) (locs : List Loc) (ls : Array Slot) (L15_mo : hL mo = some ((20, 0), .inr (11, mF ma cod tpd (nI n) (nI S.1) cls9 ffl fcl (nI R3.1) (nI (tbC R3.2 R3.1)) ous (nI p3) i3))) (L15_ma_1 : hL (ma 1) = some ((22, 0), .inl (g.2.1 1, 4000, .inl f))) (hle3 : p3 ≤ n ∧ p ≤ p3 ∧ st ≤ S.1) (kk3 : z_K (fun y => y = 20 ∨ y = 29 ∨ y = 30 ∨ y = 31) h hL) (hN3 : MNd g hL ma R3) (hc3 : 129 ≤ c + st ∧ 0 < R3.1 ∨ ¬ i3 = -1) (hZ3 : (¬ i3 = -1 ∧ resJ X = i3) ∨ (i3 = -1 ∧ (X = if fs = true ∧ bt t n (sk t n p3) = 125 then memE S t n gr st (sk t n p3) R3 else memL (fun fi p R => fldR (VR fi) S t n fi p R) S t n gr c st p3 R3) ∧ 2 * R3.1 ≤ p3 + 1 ∧ tbR R3 ≤ p3)), c < fuel → z_S g A s.heap hL H locs → lv_has ls 7 [(0, .ref mo), (1, .int (nI pi)), (2, .int gr), (3, .int (nI st)), (4, .int (zb fs))] → W pg l en { frames := fM + 30, cells := 0, slots := 0, locals := lM + 600 } s m [.ref mo, .int (nI pi), .int gr].toArray below meth cd H locs 0 0 (MQ below (z_Q g A (fun x h1 => x = none ∧ rvP g h h1 mo ma cod tpd cls9 ffl fcl ous n p S X)) [.ref mo, .int (nI pi), .int gr].toArray s 0 0 A) (F0 m 15 ls []) := by
      intro fuel
      induction fuel with
      | zero => intro c st fs p3 i3 R3 hL H locs ls L15_mo L15_ma_1 hle3 kk3 hN3 hc3 hZ3 hm; exact absurd hm (Nat.not_lt_zero _)
      | succ fuel ih_15 =>
        intro c st fs p3 i3 R3 hL H locs ls L15_mo L15_ma_1 hle3 kk3 hN3 hc3 hZ3 hm hw hl
        have sg_NhL : z_K (fun y => y = 20) hL hL := z_K.rf
        refine lv_aload_n hx hb d_M_readGroup_15 rfl (lv_at hl 0 rfl) ?_
        refine z_get hx hb hts (z_lay i_M) hown hK hw L15_mo rfl 30 (by decide) (z_in k_801 rfl) (fun _ h9 => h9) rfl d_M_readGroup_16 ?_
        refine lv_iconst (v := (-1)) hx hb d_M_readGroup_19 (by decide) ?_
        refine lv_icmp_ne (tgt := 203) hx hb d_M_readGroup_20 (by decide) (fun c_20 => ?_) (fun c_20 => ?_)
        · -- 20: True
          exact z_vret hx hb hr hlocks hw (by have eR : resJ X = i3 := ((hZ3.resolve_right (fun z => c_20 z.1)).2); refine ⟨rfl, kk3, p3, R3, ?_, by omega, by omega, hN3.k sg_NhL (by omega) (by omega) (by omega), fun z => absurd (eR.symm.trans z) c_20⟩; rw [eR]; exact L15_mo) (by decide) (by decide) d_M_readGroup_203
        · -- 20: False
          have e24 : i3 = -1 := by simpa using c_20
          obtain ⟨-, eX3, b3, t3⟩ := hZ3.resolve_left (fun z => z.1 e24)
          have fi5 : hL mo = some ((20, 0), .inr (11, mF ma cod tpd (nI n) (nI S.1) cls9 ffl fcl (nI R3.1) (nI (tbC R3.2 R3.1)) ous (nI p3) (-1))) := by have z9 := L15_mo; rw [e24] at z9; exact z9
          have hc4 := hc3.resolve_right (fun z => z e24)
          obtain ⟨c5, ec5⟩ : ∃ c5, c = c5 + 1 := ⟨c - 1, by omega⟩
          refine lv_aload_n hx hb d_M_readGroup_23 rfl (lv_at hl 0 rfl) ?_
          refine z_callV (n := 0) (As := []) (rest := []) ⟨hx, hb, hml, hown, hts⟩ (m_blanks (t := t) l g hL fi5 L15_ma_1 hn hf (by omega)) (z_in k_885 rfl) (z_in k_7 rfl) (z_in k_882 rfl) (z_in k_884 rfl) (z_in ks_27 rfl) (by decide +kernel) ⟨by first | exact Nat.le_of_ble_eq_true rfl | (dsimp only; omega) | omega, by first | exact Nat.le_of_ble_eq_true rfl | (dsimp only; omega) | omega⟩ hK hE hw hA rfl fi5 rfl hl.1 (Nat.le_of_ble_eq_true rfl) d_M_readGroup_24 ⟨by first | exact Nat.le_of_ble_eq_true rfl | (dsimp only; omega) | omega, by first | exact Nat.le_of_ble_eq_true rfl | (dsimp only; omega) | omega⟩ rfl (fun r9 h9 H locs hp hw => ?_)
          have sq6 := sk_le (t := t) (n := n) (p := p3) (by omega)
          have sr6 := sk_ge t n p3
          obtain ⟨r8, hh7⟩ := hp
          subst r8
          obtain ⟨h7, e8⟩ : ∃ x9, x9 = h9 := ⟨_, rfl⟩
          subst e8
          have f7_mo : h7 mo = some ((20, 0), .inr (11, mF ma cod tpd (nI n) (nI S.1) cls9 ffl fcl (nI R3.1) (nI (tbC R3.2 R3.1)) ous (nI (sk t n p3)) (-1))) := by rw [← hh7]; exact z_put_eq
          have f7_ma_1 : h7 (ma 1) = some ((22, 0), .inl (g.2.1 1, 4000, .inl f)) := by rw [← hh7]; exact z_keep fi5 L15_ma_1 (z_t1 (by decide))
          have kk7 : z_K (fun y => y = 20 ∨ y = 29 ∨ y = 30 ∨ y = 31) h h7 := kk3.tr (by rw [← hh7]; exact z_K.put fi5 (by first | decide | simp | omega))
          have sg_Nh7 : z_K (fun y => y = 20) hL h7 := sg_NhL.tr (by rw [← hh7]; exact z_K.put fi5 (by simp))
          refine W.eq (g2 := F0 m 27 ls []) rfl ?_
          refine lv_iload hx hb d_M_readGroup_27 (lv_at hl 4 rfl) ?_
          refine lv_if_eq (tgt := 48) hx hb d_M_readGroup_29 (by decide) (fun c_29 => ?_) (fun c_29 => ?_)
          · -- 29: True
            have c_29 : fs = false := zb_f c_29
            have eXL : X = memL (fun fi p R => fldR (VR fi) S t n fi p R) S t n gr (c5 + 1) st p3 R3 := by rw [eX3, if_neg (fun z => absurd (c_29.symm.trans z.1) (by decide)), ec5]
            refine lv_iconst (v := 0) hx hb d_M_readGroup_48 (by decide) ?_
            refine lv_istore (lv' := [(4, .int 0), (0, .ref mo), (1, .int (nI pi)), (2, .int gr), (3, .int (nI st))]) hx hb d_M_readGroup_49 hl (by decide) rfl (fun ls hl => ?_)
            refine lv_aload_n hx hb d_M_readGroup_51 rfl (lv_at hl 1 rfl) ?_
            have wl9 := wl_le (t := t) (n := n) (p := sk t n p3) (by omega)
            refine z_callV (n := 0) (As := []) (rest := []) ⟨hx, hb, hml, hown, hts⟩ (m_word (t := t) l g h7 f7_mo f7_ma_1 hn hf (by omega)) (z_in k_902 rfl) (z_in k_7 rfl) (z_in k_899 rfl) (z_in k_901 rfl) (z_in ks_31 rfl) (by decide +kernel) ⟨by first | exact Nat.le_of_ble_eq_true rfl | (dsimp only; omega) | omega, by first | exact Nat.le_of_ble_eq_true rfl | (dsimp only; omega) | omega⟩ hK hE hw hA rfl f7_mo rfl hl.1 (Nat.le_of_ble_eq_true rfl) d_M_readGroup_52 ⟨by first | exact Nat.le_of_ble_eq_true rfl | (dsimp only; omega) | omega, by first | exact Nat.le_of_ble_eq_true rfl | (dsimp only; omega) | omega⟩ rfl (fun r9 h9 H locs hp hw => ?_)
            obtain ⟨r8, h8⟩ := hp
            subst r8
            subst h8
            refine W.eq (g2 := F0 m 55 ls [.int (nI (wl t n (sk t n p3)))]) rfl ?_
            refine lv_istore (lv' := [(5, .int (nI (wl t n (sk t n p3)))), (4, .int 0), (0, .ref mo), (1, .int (nI pi)), (2, .int gr), (3, .int (nI st))]) hx hb d_M_readGroup_55 hl (by decide) rfl (fun ls hl => ?_)
            refine lv_iload hx hb d_M_readGroup_57 (lv_at hl 0 rfl) ?_
            refine lv_if_ne (tgt := 66) hx hb d_M_readGroup_59 (by decide) (fun c_59 => ?_) (fun c_59 => ?_)
            · -- 59: True
              have c_59 : ¬ ((wl t n (sk t n p3)) = 0) := fun z => c_59 ((nI_eq (a := wl t n (sk t n p3)) (b := 0) (by omega) (by omega)).mpr z)
              have hlt9 : isLet (bt t n (sk t n p3)) = true := by apply Classical.byContradiction; intro z; have e9 : wl t n (sk t n p3) = 0 := (by unfold wl; rw [if_neg z]); omega
              have hwl : wl t n (sk t n p3) = we t n (sk t n p3) - (sk t n p3) := by unfold wl; rw [if_pos hlt9]
              obtain ⟨lw1, lw2, -⟩ := let_we (fun k hk => (hf k hk).1) hlt9
              refine lv_aload_n hx hb d_M_readGroup_66 rfl (lv_at hl 2 rfl) ?_
              refine lv_iload_n hx hb d_M_readGroup_67 rfl (lv_at hl 4 rfl) ?_
              refine lv_aload_n hx hb d_M_readGroup_68 rfl (lv_at hl 2 rfl) ?_
              refine z_get hx hb hts (z_lay i_M) hown hK hw f7_mo rfl 29 (by decide) (z_in k_800 rfl) (fun _ h9 => h9) rfl d_M_readGroup_69 ?_
              refine lv_iload hx hb d_M_readGroup_72 (lv_at hl 0 rfl) ?_
              refine z_callV (n := 3) (As := [.int gr, .int (nI (sk t n p3)), .int (nI (wl t n (sk t n p3)))]) (rest := []) ⟨hx, hb, hml, hown, hts⟩ (m_named (t := t) (n := n) (q := sk t n p3) (m9 := wl t n (sk t n p3)) l g h7 f7_mo f7_ma_1 hn hf (hSc.k kk7 (by omega) (by omega) (by omega)) hB (by omega)) (z_in k_963 rfl) (z_in k_7 rfl) (z_in k_960 rfl) (z_in k_962 rfl) (z_in ks_38 rfl) (by decide +kernel) ⟨by first | exact Nat.le_of_ble_eq_true rfl | (dsimp only; omega) | omega, by first | exact Nat.le_of_ble_eq_true rfl | (dsimp only; omega) | omega⟩ hK hE hw hA rfl f7_mo rfl hl.1 (Nat.le_of_ble_eq_true rfl) d_M_readGroup_74 ⟨by first | exact Nat.le_of_ble_eq_true rfl | (dsimp only; omega) | omega, by first | exact Nat.le_of_ble_eq_true rfl | (dsimp only; omega) | omega⟩ rfl (fun r9 h9 H locs hp hw => ?_)
              obtain ⟨r8, h8⟩ := hp
              subst r8
              subst h8
              refine W.eq (g2 := F0 m 77 ls [.int (lst S gr t (sk t n p3) (wl t n (sk t n p3)) S.1)]) rfl ?_
              rcases lst_is (S := S) (gr := gr) (t := t) (q := sk t n p3) (m := wl t n (sk t n p3)) S.1 with ⟨le9, ln9⟩ | ⟨f9, lf9, lm9, le9⟩
              · -- named False
                refine z_topi (y := (-1)) le9 ?_
                rw [hwl] at ln9
                have eXf : X = .inl (sk t n p3, R3) := by rw [eXL]; exact memL_nam (namR_none (fun i a _ => ln9 i a))
                refine lv_istore (lv' := [(6, .int (-1)), (5, .int (nI (wl t n (sk t n p3)))), (4, .int 0), (0, .ref mo), (1, .int (nI pi)), (2, .int gr), (3, .int (nI st))]) hx hb d_M_readGroup_77 hl (by decide) rfl (fun ls hl => ?_)
                refine lv_iload hx hb d_M_readGroup_79 (lv_at hl 0 rfl) ?_
                refine lv_iload_n hx hb d_M_readGroup_81 rfl (lv_at hl 6 rfl) ?_
                refine lv_icmp_lt (tgt := 96) hx hb d_M_readGroup_82 (by decide) (fun c_82 => ?_) (fun c_82 => ?_)
                · -- 82: True
                  refine lv_aload_n hx hb d_M_readGroup_96 rfl (lv_at hl 3 rfl) ?_
                  refine lv_aload_n hx hb d_M_readGroup_97 rfl (lv_at hl 3 rfl) ?_
                  refine z_get hx hb hts (z_lay i_M) hown hK hw f7_mo rfl 29 (by decide) (z_in k_800 rfl) (fun _ h9 => h9) rfl d_M_readGroup_98 ?_
                  refine z_callV (n := 1) (As := [.int (nI (sk t n p3))]) (rest := []) ⟨hx, hb, hml, hown, hts⟩ (m_fail l g h7 f7_mo) (z_in k_914 rfl) (z_in k_7 rfl) (z_in k_911 rfl) (z_in k_913 rfl) (z_in ks_32 rfl) (by decide +kernel) ⟨by first | exact Nat.le_of_ble_eq_true rfl | (dsimp only; omega) | omega, by first | exact Nat.le_of_ble_eq_true rfl | (dsimp only; omega) | omega⟩ hK hE hw hA rfl f7_mo rfl hl.1 (Nat.le_of_ble_eq_true rfl) d_M_readGroup_101 ⟨by first | exact Nat.le_of_ble_eq_true rfl | (dsimp only; omega) | omega, by first | exact Nat.le_of_ble_eq_true rfl | (dsimp only; omega) | omega⟩ rfl (fun r9 h9 H locs hp hw => ?_)
                  obtain ⟨r8, hh8⟩ := hp
                  subst r8
                  obtain ⟨h8, e8⟩ : ∃ x9, x9 = h9 := ⟨_, rfl⟩
                  subst e8
                  have f8_mo : h8 mo = some ((20, 0), .inr (11, mF ma cod tpd (nI n) (nI S.1) cls9 ffl fcl (nI R3.1) (nI (tbC R3.2 R3.1)) ous (nI (sk t n p3)) (nI (sk t n p3)))) := by rw [← hh8]; exact z_put_eq
                  have f8_ma_1 : h8 (ma 1) = some ((22, 0), .inl (g.2.1 1, 4000, .inl f)) := by rw [← hh8]; exact z_keep f7_mo f7_ma_1 (z_t1 (by decide))
                  have kk8 : z_K (fun y => y = 20 ∨ y = 29 ∨ y = 30 ∨ y = 31) h h8 := kk7.tr (by rw [← hh8]; exact z_K.put f7_mo (by first | decide | simp | omega))
                  have sg_Nh8 : z_K (fun y => y = 20) hL h8 := sg_Nh7.tr (by rw [← hh8]; exact z_K.put f7_mo (by simp))
                  refine W.eq (g2 := F0 m 104 ls []) rfl ?_
                  exact z_vret hx hb hr hlocks hw (by have eR : resJ X = nI (sk t n p3) := (by rw [eXf]; rfl); refine ⟨rfl, kk8, sk t n p3, R3, ?_, by omega, by omega, hN3.k sg_Nh8 (by omega) (by omega) (by omega), fun z => absurd (eR.symm.trans z) (nI_ne1 (by omega))⟩; rw [eR]; exact f8_mo) (by decide) (by decide) d_M_readGroup_104
                · -- 82: False
                  exact absurd (show (-1 : Int32) < nI st from (by rw [Int32.lt_iff_toInt_lt, nI_toInt (by omega)]; have : (-1 : Int32).toInt = -1 := rfl; omega)) c_82
              · -- named True
                refine z_topi (y := nI f9) le9 ?_
                rw [hwl] at lm9
                have hgf9 : fGr (S.2 f9) = gr := (mtc_yes.mp lm9).1
                refine lv_istore (lv' := [(6, .int (nI f9)), (5, .int (nI (wl t n (sk t n p3)))), (4, .int 0), (0, .ref mo), (1, .int (nI pi)), (2, .int gr), (3, .int (nI st))]) hx hb d_M_readGroup_77 hl (by decide) rfl (fun ls hl => ?_)
                refine lv_iload hx hb d_M_readGroup_79 (lv_at hl 0 rfl) ?_
                refine lv_iload_n hx hb d_M_readGroup_81 rfl (lv_at hl 6 rfl) ?_
                refine lv_icmp_lt (tgt := 96) hx hb d_M_readGroup_82 (by decide) (fun c_82 => ?_) (fun c_82 => ?_)
                · -- 82: True
                  have c_82 : f9 < st := (nI_ltI (a := f9) (b := st) (by omega) (by omega)).mp c_82
                  have eXf : X = .inl (sk t n p3, R3) := by rw [eXL]; exact memL_nam (namR_none (fun i a b => by cases hm : mtc S gr t (sk t n p3) (we t n (sk t n p3) - (sk t n p3)) i with | false => rfl | true => (have := mtc_unq hu a lf9 hm lm9; omega)))
                  refine lv_aload_n hx hb d_M_readGroup_96 rfl (lv_at hl 3 rfl) ?_
                  refine lv_aload_n hx hb d_M_readGroup_97 rfl (lv_at hl 3 rfl) ?_
                  refine z_get hx hb hts (z_lay i_M) hown hK hw f7_mo rfl 29 (by decide) (z_in k_800 rfl) (fun _ h9 => h9) rfl d_M_readGroup_98 ?_
                  refine z_callV (n := 1) (As := [.int (nI (sk t n p3))]) (rest := []) ⟨hx, hb, hml, hown, hts⟩ (m_fail l g h7 f7_mo) (z_in k_914 rfl) (z_in k_7 rfl) (z_in k_911 rfl) (z_in k_913 rfl) (z_in ks_32 rfl) (by decide +kernel) ⟨by first | exact Nat.le_of_ble_eq_true rfl | (dsimp only; omega) | omega, by first | exact Nat.le_of_ble_eq_true rfl | (dsimp only; omega) | omega⟩ hK hE hw hA rfl f7_mo rfl hl.1 (Nat.le_of_ble_eq_true rfl) d_M_readGroup_101 ⟨by first | exact Nat.le_of_ble_eq_true rfl | (dsimp only; omega) | omega, by first | exact Nat.le_of_ble_eq_true rfl | (dsimp only; omega) | omega⟩ rfl (fun r9 h9 H locs hp hw => ?_)
                  obtain ⟨r8, hh9⟩ := hp
                  subst r8
                  obtain ⟨h9, e8⟩ : ∃ x9, x9 = h9 := ⟨_, rfl⟩
                  subst e8
                  have f9_mo : h9 mo = some ((20, 0), .inr (11, mF ma cod tpd (nI n) (nI S.1) cls9 ffl fcl (nI R3.1) (nI (tbC R3.2 R3.1)) ous (nI (sk t n p3)) (nI (sk t n p3)))) := by rw [← hh9]; exact z_put_eq
                  have f9_ma_1 : h9 (ma 1) = some ((22, 0), .inl (g.2.1 1, 4000, .inl f)) := by rw [← hh9]; exact z_keep f7_mo f7_ma_1 (z_t1 (by decide))
                  have kk9 : z_K (fun y => y = 20 ∨ y = 29 ∨ y = 30 ∨ y = 31) h h9 := kk7.tr (by rw [← hh9]; exact z_K.put f7_mo (by first | decide | simp | omega))
                  have sg_Nh9 : z_K (fun y => y = 20) hL h9 := sg_Nh7.tr (by rw [← hh9]; exact z_K.put f7_mo (by simp))
                  refine W.eq (g2 := F0 m 104 ls []) rfl ?_
                  exact z_vret hx hb hr hlocks hw (by have eR : resJ X = nI (sk t n p3) := (by rw [eXf]; rfl); refine ⟨rfl, kk9, sk t n p3, R3, ?_, by omega, by omega, hN3.k sg_Nh9 (by omega) (by omega) (by omega), fun z => absurd (eR.symm.trans z) (nI_ne1 (by omega))⟩; rw [eR]; exact f9_mo) (by decide) (by decide) d_M_readGroup_104
                · -- 82: False
                  have c_82 : ¬ (f9 < st) := fun z => c_82 ((nI_ltI (a := f9) (b := st) (by omega) (by omega)).mpr z)
                  refine lv_aload_n hx hb d_M_readGroup_85 rfl (lv_at hl 3 rfl) ?_
                  refine lv_iload_n hx hb d_M_readGroup_86 rfl (lv_at hl 5 rfl) ?_
                  refine lv_iload_n hx hb d_M_readGroup_87 rfl (lv_at hl 6 rfl) ?_
                  refine lv_iload hx hb d_M_readGroup_88 (lv_at hl 0 rfl) ?_
                  refine z_callV (n := 3) (As := [.int gr, .int (nI st), .int (nI f9)]) (rest := []) ⟨hx, hb, hml, hown, hts⟩ (m_misses (a9 := st) (b9 := f9) l g h7 f7_mo (hSc.k kk7 (by omega) (by omega) (by omega)) hB (by omega) (by omega)) (z_in k_979 rfl) (z_in k_7 rfl) (z_in k_976 rfl) (z_in k_978 rfl) (z_in ks_41 rfl) (by decide +kernel) ⟨by first | exact Nat.le_of_ble_eq_true rfl | (dsimp only; omega) | omega, by first | exact Nat.le_of_ble_eq_true rfl | (dsimp only; omega) | omega⟩ hK hE hw hA rfl f7_mo rfl hl.1 (Nat.le_of_ble_eq_true rfl) d_M_readGroup_90 ⟨by first | exact Nat.le_of_ble_eq_true rfl | (dsimp only; omega) | omega, by first | exact Nat.le_of_ble_eq_true rfl | (dsimp only; omega) | omega⟩ rfl (fun r9 h9 H locs hp hw => ?_)
                  obtain ⟨r8, h8⟩ := hp
                  subst r8
                  subst h8
                  refine W.eq (g2 := F0 m 93 ls [.int (zb (hrqR S gr (f9 - st) st))]) rfl ?_
                  refine lv_if_eq (tgt := 105) hx hb d_M_readGroup_93 (by decide) (fun c_93 => ?_) (fun c_93 => ?_)
                  · -- 93: True
                    have c_93 : (hrqR S gr (f9 - st) st) = false := zb_f c_93
                    have enm : namR S t n gr st p3 = .inr (f9, we t n (sk t n p3)) := by rw [namR_find hu hs8 hlt9 lf9 (by omega) lm9, if_neg (by rw [c_93]; decide)]
                    refine lv_aload_n hx hb d_M_readGroup_105 rfl (lv_at hl 3 rfl) ?_
                    refine lv_dup hx hb d_M_readGroup_106 rfl ?_
                    refine z_get hx hb hts (z_lay i_M) hown hK hw f7_mo rfl 29 (by decide) (z_in k_800 rfl) (fun _ h9 => h9) rfl d_M_readGroup_107 ?_
                    refine lv_iload hx hb d_M_readGroup_110 (lv_at hl 1 rfl) ?_
                    refine lv_iadd hx hb d_M_readGroup_112 ?_
                    refine z_topi (y := nI ((sk t n p3) + (wl t n (sk t n p3)))) (nI_add (sk t n p3) (wl t n (sk t n p3))) ?_
                    refine z_putf (ty := .int) hx hb hts (z_lay i_M) t_M t_M_ok n_M hown hK hw f7_mo rfl 29 (by decide) (z_in k_800 rfl) (fun _ h9 => h9) rfl (by decide +kernel) rfl rfl (Nat.le_of_ble_eq_true rfl) d_M_readGroup_113 (fun H locs hw => ?_)
                    obtain ⟨h10, hh10⟩ : ∃ x9, z_put h7 mo (20, 0) (.inr (11, mF ma cod tpd (nI n) (nI S.1) cls9 ffl fcl (nI R3.1) (nI (tbC R3.2 R3.1)) ous (nI ((sk t n p3) + (wl t n (sk t n p3)))) (-1))) = x9 := ⟨_, rfl⟩
                    have hw : z_S g A s.heap h10 H locs := by rw [← hh10]; exact hw
                    have f10_mo : h10 mo = some ((20, 0), .inr (11, mF ma cod tpd (nI n) (nI S.1) cls9 ffl fcl (nI R3.1) (nI (tbC R3.2 R3.1)) ous (nI ((sk t n p3) + (wl t n (sk t n p3)))) (-1))) := by rw [← hh10]; exact z_put_eq
                    have f10_ma_1 : h10 (ma 1) = some ((22, 0), .inl (g.2.1 1, 4000, .inl f)) := by rw [← hh10]; exact z_keep f7_mo f7_ma_1 (z_t1 (by decide))
                    have kk10 : z_K (fun y => y = 20 ∨ y = 29 ∨ y = 30 ∨ y = 31) h h10 := kk7.tr (by rw [← hh10]; exact z_K.put f7_mo (by first | decide | simp | omega))
                    have sg_Nh10 : z_K (fun y => y = 20) hL h10 := sg_Nh7.tr (by rw [← hh10]; exact z_K.put f7_mo (by simp))
                    refine lv_iload hx hb d_M_readGroup_116 (lv_at hl 0 rfl) ?_
                    refine lv_iconst (v := 1) hx hb d_M_readGroup_118 (by decide) ?_
                    refine lv_iadd hx hb d_M_readGroup_119 ?_
                    refine z_topi (y := nI (f9 + 1)) (nI_add f9 1) ?_
                    refine lv_istore_n (lv' := [(3, .int (nI (f9 + 1))), (6, .int (nI f9)), (5, .int (nI (wl t n (sk t n p3)))), (4, .int 0), (0, .ref mo), (1, .int (nI pi)), (2, .int gr)]) hx hb d_M_readGroup_120 rfl hl (by decide) rfl (fun ls hl => ?_)
                    have hE9 : sk t n p3 + wl t n (sk t n p3) = we t n (sk t n p3) := by omega
                    have fe11 : h10 mo = some ((20, 0), .inr (11, mF ma cod tpd (nI n) (nI S.1) cls9 ffl fcl (nI R3.1) (nI (tbC R3.2 R3.1)) ous (nI (we t n (sk t n p3))) (-1))) := by rw [← hE9]; exact f10_mo
                    refine lv_aload_n hx hb d_M_readGroup_121 rfl (lv_at hl 4 rfl) ?_
                    refine lv_bipush (v := 58) hx hb d_M_readGroup_122 (by decide) ?_
                    refine z_callV (n := 1) (As := [.int 58]) (rest := []) ⟨hx, hb, hml, hown, hts⟩ (m_wantSign (t := t) l g h10 fe11 f10_ma_1 hn hf (by omega)) (z_in k_923 rfl) (z_in k_7 rfl) (z_in k_920 rfl) (z_in k_922 rfl) (z_in ks_33 rfl) (by decide +kernel) ⟨by first | exact Nat.le_of_ble_eq_true rfl | (dsimp only; omega) | omega, by first | exact Nat.le_of_ble_eq_true rfl | (dsimp only; omega) | omega⟩ hK hE hw hA rfl fe11 rfl hl.1 (Nat.le_of_ble_eq_true rfl) d_M_readGroup_124 ⟨by first | exact Nat.le_of_ble_eq_true rfl | (dsimp only; omega) | omega, by first | exact Nat.le_of_ble_eq_true rfl | (dsimp only; omega) | omega⟩ rfl (fun r9 h9 H locs hp hw => ?_)
                    have sa12 := sk_le (t := t) (n := n) (p := we t n (sk t n p3)) (by omega)
                    have sb12 := sk_ge t n (we t n (sk t n p3))
                    by_cases ws124 : bt t n (sk t n (we t n (sk t n p3))) = 58
                    · -- wanted True
                      have sc12 := bt_lt (c := 58) ws124
                      obtain ⟨r8, hp⟩ := hp
                      unfold wsP wsI at hp
                      rw [if_pos ⟨rfl, ws124⟩, if_pos rfl, if_pos ws124] at hp
                      have hp := And.intro r8 hp
                      obtain ⟨r8, hh13⟩ := hp
                      subst r8
                      obtain ⟨h13, e8⟩ : ∃ x9, x9 = h9 := ⟨_, rfl⟩
                      subst e8
                      have f13_mo : h13 mo = some ((20, 0), .inr (11, mF ma cod tpd (nI n) (nI S.1) cls9 ffl fcl (nI R3.1) (nI (tbC R3.2 R3.1)) ous (nI (sk t n (we t n (sk t n p3)) + 1)) (-1))) := by rw [← hh13]; exact z_put_eq
                      have f13_ma_1 : h13 (ma 1) = some ((22, 0), .inl (g.2.1 1, 4000, .inl f)) := by rw [← hh13]; exact z_keep fe11 f10_ma_1 (z_t1 (by decide))
                      have kk13 : z_K (fun y => y = 20 ∨ y = 29 ∨ y = 30 ∨ y = 31) h h13 := kk10.tr (by rw [← hh13]; exact z_K.put fe11 (by first | decide | simp | omega))
                      have sg_Nh13 : z_K (fun y => y = 20) hL h13 := sg_Nh10.tr (by rw [← hh13]; exact z_K.put fe11 (by simp))
                      refine W.eq (g2 := F0 m 127 ls []) rfl ?_
                      refine lv_aload_n hx hb d_M_readGroup_127 rfl (lv_at hl 4 rfl) ?_
                      refine z_get hx hb hts (z_lay i_M) hown hK hw f13_mo rfl 30 (by decide) (z_in k_801 rfl) (fun _ h9 => h9) rfl d_M_readGroup_128 ?_
                      refine lv_iconst (v := (-1)) hx hb d_M_readGroup_131 (by decide) ?_
                      refine lv_icmp_eq (tgt := 136) hx hb d_M_readGroup_132 (by decide) (fun c_132 => ?_) (fun c_132 => ?_)
                      · -- 132: True
                        have hS9 := hSc.k kk13 (by omega) (by omega) (by omega)
                        have hrw_0 : h13 (rw9 0) = some ((24, 0), .inl (g.2.1 1, 128, .inl (rf 0))) := hS9.2.1 0 (by omega)
                        refine lv_aload_n hx hb d_M_readGroup_136 rfl (lv_at hl 4 rfl) ?_
                        refine z_get hx hb hts (z_lay i_M) hown hK hw f13_mo rfl 5 (by decide) (z_in k_776 rfl) (fun _ h9 => h9) rfl d_M_readGroup_137 ?_
                        refine lv_iconst (v := 0) hx hb d_M_readGroup_140 (by decide) ?_
                        refine z_aldr hx hb hK hw hS9.1 5 rfl (by unfold vp_in; decide) d_M_readGroup_141 ?_
                        refine z_top (y := va_rf ((fun k => some (rw9 k)) 0)) (by rfl) ?_
                        refine z_top (y := .ref (rw9 0)) (rfl) ?_
                        refine lv_iload hx hb d_M_readGroup_142 (lv_at hl 1 rfl) ?_
                        refine z_iald hx hb hK hw hrw_0 1 rfl (vp_in_nI (by omega) (by omega)) d_M_readGroup_144 ?_
                        refine z_topi (y := (rf 0) f9) (by rw [nI_clamp (by omega)]) ?_
                        refine z_top (y := .int (fKi (S.2 f9))) (by rw [(hSc.2.2.2 f9 lf9).1]) ?_
                        refine lv_iconst (v := 2) hx hb d_M_readGroup_145 (by decide) ?_
                        refine lv_icmp_ne (tgt := 159) hx hb d_M_readGroup_146 (by decide) (fun c_146 => ?_) (fun c_146 => ?_)
                        · -- 146: True
                          refine lv_aload_n hx hb d_M_readGroup_159 rfl (lv_at hl 4 rfl) ?_
                          refine lv_iload_n hx hb d_M_readGroup_160 rfl (lv_at hl 5 rfl) ?_
                          refine lv_iload hx hb d_M_readGroup_161 (lv_at hl 1 rfl) ?_
                          have eV9 : fldR (VR f9) S t n f9 (sk t n (we t n (sk t n p3)) + 1) R3 = VR f9 (sk t n (we t n (sk t n p3)) + 1) R3 := by unfold fldR; rw [if_neg (show ¬ fKi (S.2 f9) = 2 from c_146)]
                          have hV9 := hV f9 lf9 hgf9 h13 (sk t n (we t n (sk t n p3)) + 1) R3 f13_mo f13_ma_1 (hSc.k kk13 (by omega) (by omega) (by omega)) (hN3.k sg_Nh13 (by omega) (by omega) (by omega)) hc4.2 (by omega) (by omega) (by omega)
                          rw [← eV9] at hV9
                          refine z_callV (n := 2) (As := [.int (nI pi), .int (nI f9)]) (rest := []) ⟨hx, hb, hml, hown, hts⟩ hV9 (z_in k_987 rfl) (z_in k_7 rfl) (z_in k_984 rfl) (z_in k_986 rfl) (z_in ks_43 rfl) (by decide +kernel) ⟨by first | exact Nat.le_of_ble_eq_true rfl | (dsimp only; omega) | omega, by first | exact Nat.le_of_ble_eq_true rfl | (dsimp only; omega) | omega⟩ hK hE hw hA rfl f13_mo rfl hl.1 (Nat.le_of_ble_eq_true rfl) d_M_readGroup_163 ⟨by first | exact Nat.le_of_ble_eq_true rfl | (dsimp only; omega) | omega, by first | exact Nat.le_of_ble_eq_true rfl | (dsimp only; omega) | omega⟩ rfl (fun r9 h9 H locs hp hw => ?_)
                          obtain ⟨r8, kk8, p4, R4, m4, le4, ge4, n4, im4⟩ := hp
                          subst r8
                          obtain ⟨h14, e7⟩ : ∃ x9, x9 = h9 := ⟨_, rfl⟩
                          subst e7
                          have g14_ma_1 : h14 (ma 1) = some ((22, 0), .inl (g.2.1 1, 4000, .inl f)) := kk8 _ _ _ f13_ma_1 (by simp)
                          have kk14 : z_K (fun y => y = 20 ∨ y = 29 ∨ y = 30 ∨ y = 31) h h14 := kk13.tr kk8
                          have sg_Nh14 : z_K (fun y => y = 20) h14 h14 := z_K.rf
                          refine W.eq (g2 := F0 m 166 ls []) rfl ?_
                          refine lv_aload_n hx hb d_M_readGroup_166 rfl (lv_at hl 4 rfl) ?_
                          refine z_callV (n := 0) (As := []) (rest := []) ⟨hx, hb, hml, hown, hts⟩ (m_blanks (t := t) l g h14 m4 g14_ma_1 hn hf (by omega)) (z_in k_885 rfl) (z_in k_7 rfl) (z_in k_882 rfl) (z_in k_884 rfl) (z_in ks_27 rfl) (by decide +kernel) ⟨by first | exact Nat.le_of_ble_eq_true rfl | (dsimp only; omega) | omega, by first | exact Nat.le_of_ble_eq_true rfl | (dsimp only; omega) | omega⟩ hK hE hw hA rfl m4 rfl hl.1 (Nat.le_of_ble_eq_true rfl) d_M_readGroup_167 ⟨by first | exact Nat.le_of_ble_eq_true rfl | (dsimp only; omega) | omega, by first | exact Nat.le_of_ble_eq_true rfl | (dsimp only; omega) | omega⟩ rfl (fun r9 h9 H locs hp hw => ?_)
                          have sq15 := sk_le (t := t) (n := n) (p := p4) (by omega)
                          have sr15 := sk_ge t n p4
                          obtain ⟨r8, hh16⟩ := hp
                          subst r8
                          obtain ⟨h16, e8⟩ : ∃ x9, x9 = h9 := ⟨_, rfl⟩
                          subst e8
                          have f16_mo : h16 mo = some ((20, 0), .inr (11, mF ma cod tpd (nI n) (nI S.1) cls9 ffl fcl (nI R4.1) (nI (tbC R4.2 R4.1)) ous (nI (sk t n p4)) (resJ (fldR (VR f9) S t n f9 (sk t n (we t n (sk t n p3)) + 1) R3)))) := by rw [← hh16]; exact z_put_eq
                          have f16_ma_1 : h16 (ma 1) = some ((22, 0), .inl (g.2.1 1, 4000, .inl f)) := by rw [← hh16]; exact z_keep m4 g14_ma_1 (z_t1 (by decide))
                          have kk16 : z_K (fun y => y = 20 ∨ y = 29 ∨ y = 30 ∨ y = 31) h h16 := kk14.tr (by rw [← hh16]; exact z_K.put m4 (by first | decide | simp | omega))
                          have sg_Nh16 : z_K (fun y => y = 20) h14 h16 := sg_Nh14.tr (by rw [← hh16]; exact z_K.put m4 (by simp))
                          refine W.eq (g2 := F0 m 170 ls []) rfl ?_
                          by_cases e30 : resJ (fldR (VR f9) S t n f9 (sk t n (we t n (sk t n p3)) + 1) R3) = -1
                          · -- read True
                            obtain ⟨eF4, b4, t4, z4⟩ := im4 e30
                            have fi17 : h16 mo = some ((20, 0), .inr (11, mF ma cod tpd (nI n) (nI S.1) cls9 ffl fcl (nI R4.1) (nI (tbC R4.2 R4.1)) ous (nI (sk t n p4)) (-1))) := by have z9 := f16_mo; rw [e30] at z9; exact z9
                            have eX8 : X = if bt t n (sk t n p4) = 44 then memL (fun fi p R => fldR (VR fi) S t n fi p R) S t n gr c5 (f9 + 1) (sk t n p4 + 1) R4 else memE S t n gr (f9 + 1) (sk t n p4) R4 := by rw [eXL]; exact memL_ok (F := (fun fi p R => fldR (VR fi) S t n fi p R)) enm ws124 eF4
                            refine lv_aload_n hx hb d_M_readGroup_170 rfl (lv_at hl 4 rfl) ?_
                            refine z_get hx hb hts (z_lay i_M) hown hK hw fi17 rfl 30 (by decide) (z_in k_801 rfl) (fun _ h9 => h9) rfl d_M_readGroup_171 ?_
                            refine lv_iconst (v := (-1)) hx hb d_M_readGroup_174 (by decide) ?_
                            refine lv_icmp_ne (tgt := 194) hx hb d_M_readGroup_175 (by decide) (fun c_175 => ?_) (fun c_175 => ?_)
                            · -- 175: True
                              exact absurd rfl c_175
                            · -- 175: False
                              refine lv_aload_n hx hb d_M_readGroup_178 rfl (lv_at hl 4 rfl) ?_
                              refine z_callV (n := 0) (As := []) (rest := []) ⟨hx, hb, hml, hown, hts⟩ (m_look (t := t) l g h16 fi17 f16_ma_1 hn hf (by omega)) (z_in k_889 rfl) (z_in k_7 rfl) (z_in k_886 rfl) (z_in k_888 rfl) (z_in ks_28 rfl) (by decide +kernel) ⟨by first | exact Nat.le_of_ble_eq_true rfl | (dsimp only; omega) | omega, by first | exact Nat.le_of_ble_eq_true rfl | (dsimp only; omega) | omega⟩ hK hE hw hA rfl fi17 rfl hl.1 (Nat.le_of_ble_eq_true rfl) d_M_readGroup_179 ⟨by first | exact Nat.le_of_ble_eq_true rfl | (dsimp only; omega) | omega, by first | exact Nat.le_of_ble_eq_true rfl | (dsimp only; omega) | omega⟩ rfl (fun r9 h9 H locs hp hw => ?_)
                              obtain ⟨r8, h8⟩ := hp
                              subst r8
                              subst h8
                              refine W.eq (g2 := F0 m 182 ls [.int (bt t n (sk t n p4))]) rfl ?_
                              refine lv_bipush (v := 125) hx hb d_M_readGroup_182 (by decide) ?_
                              refine lv_icmp_ne (tgt := 194) hx hb d_M_readGroup_184 (by decide) (fun c_184 => ?_) (fun c_184 => ?_)
                              · -- 184: True
                                refine lv_aload_n hx hb d_M_readGroup_194 rfl (lv_at hl 4 rfl) ?_
                                refine lv_bipush (v := 44) hx hb d_M_readGroup_195 (by decide) ?_
                                refine z_callV (n := 1) (As := [.int 44]) (rest := []) ⟨hx, hb, hml, hown, hts⟩ (m_wantSign (t := t) l g h16 fi17 f16_ma_1 hn hf (by omega)) (z_in k_923 rfl) (z_in k_7 rfl) (z_in k_920 rfl) (z_in k_922 rfl) (z_in ks_33 rfl) (by decide +kernel) ⟨by first | exact Nat.le_of_ble_eq_true rfl | (dsimp only; omega) | omega, by first | exact Nat.le_of_ble_eq_true rfl | (dsimp only; omega) | omega⟩ hK hE hw hA rfl fi17 rfl hl.1 (Nat.le_of_ble_eq_true rfl) d_M_readGroup_197 ⟨by first | exact Nat.le_of_ble_eq_true rfl | (dsimp only; omega) | omega, by first | exact Nat.le_of_ble_eq_true rfl | (dsimp only; omega) | omega⟩ rfl (fun r9 h9 H locs hp hw => ?_)
                                have sa18 := sk_le (t := t) (n := n) (p := sk t n p4) (by omega)
                                have sb18 := sk_ge t n (sk t n p4)
                                by_cases ws197 : bt t n (sk t n (sk t n p4)) = 44
                                · -- wanted True
                                  have sc18 := bt_lt (c := 44) ws197
                                  obtain ⟨r8, hp⟩ := hp
                                  unfold wsP wsI at hp
                                  rw [if_pos ⟨rfl, ws197⟩, if_pos rfl, if_pos ws197] at hp
                                  have hp := And.intro r8 hp
                                  obtain ⟨r8, hh19⟩ := hp
                                  subst r8
                                  obtain ⟨h19, e8⟩ : ∃ x9, x9 = h9 := ⟨_, rfl⟩
                                  subst e8
                                  have f19_mo : h19 mo = some ((20, 0), .inr (11, mF ma cod tpd (nI n) (nI S.1) cls9 ffl fcl (nI R4.1) (nI (tbC R4.2 R4.1)) ous (nI (sk t n (sk t n p4) + 1)) (-1))) := by rw [← hh19]; exact z_put_eq
                                  have f19_ma_1 : h19 (ma 1) = some ((22, 0), .inl (g.2.1 1, 4000, .inl f)) := by rw [← hh19]; exact z_keep fi17 f16_ma_1 (z_t1 (by decide))
                                  have kk19 : z_K (fun y => y = 20 ∨ y = 29 ∨ y = 30 ∨ y = 31) h h19 := kk16.tr (by rw [← hh19]; exact z_K.put fi17 (by first | decide | simp | omega))
                                  have sg_Nh19 : z_K (fun y => y = 20) h14 h19 := sg_Nh16.tr (by rw [← hh19]; exact z_K.put fi17 (by simp))
                                  refine W.eq (g2 := F0 m 200 ls []) rfl ?_
                                  refine lv_goto (tgt := 15) hx hb d_M_readGroup_200 (by decide) ?_
                                  refine ih_15 c5 (f9 + 1) false (sk t n (sk t n p4) + 1) (-1) R4 h19 _ _ _ f19_mo f19_ma_1 (⟨by omega, by omega, by omega⟩) kk19 (n4.k sg_Nh19 (by omega) (by omega) (by omega)) (Or.inl ⟨by omega, z4⟩) (Or.inr ⟨rfl, by rw [eX8, if_pos (by rw [← sk_sk]; exact ws197), if_neg (fun z => by cases z.1), sk_sk], by rw [sk_sk] at *; omega, by rw [sk_sk] at *; omega⟩) ?_ hw (lv_sub hl [4, 5, 6, 0, 3] rfl)
                                  omega
                                · -- wanted False
                                  have il18 : ¬ nI (sk t n (sk t n p4)) = (-1 : Int32) := nI_ne1 (by omega)
                                  obtain ⟨r8, hp⟩ := hp
                                  unfold wsP wsI at hp
                                  rw [if_neg (fun z => ws197 z.2), if_pos rfl, if_neg ws197] at hp
                                  have hp := And.intro r8 hp
                                  obtain ⟨r8, hh20⟩ := hp
                                  subst r8
                                  obtain ⟨h20, e8⟩ : ∃ x9, x9 = h9 := ⟨_, rfl⟩
                                  subst e8
                                  have f20_mo : h20 mo = some ((20, 0), .inr (11, mF ma cod tpd (nI n) (nI S.1) cls9 ffl fcl (nI R4.1) (nI (tbC R4.2 R4.1)) ous (nI (sk t n (sk t n p4))) (nI (sk t n (sk t n p4))))) := by rw [← hh20]; exact z_put_eq
                                  have f20_ma_1 : h20 (ma 1) = some ((22, 0), .inl (g.2.1 1, 4000, .inl f)) := by rw [← hh20]; exact z_keep fi17 f16_ma_1 (z_t1 (by decide))
                                  have kk20 : z_K (fun y => y = 20 ∨ y = 29 ∨ y = 30 ∨ y = 31) h h20 := kk16.tr (by rw [← hh20]; exact z_K.put fi17 (by first | decide | simp | omega))
                                  have sg_Nh20 : z_K (fun y => y = 20) h14 h20 := sg_Nh16.tr (by rw [← hh20]; exact z_K.put fi17 (by simp))
                                  refine W.eq (g2 := F0 m 200 ls []) rfl ?_
                                  refine lv_goto (tgt := 15) hx hb d_M_readGroup_200 (by decide) ?_
                                  refine ih_15 c5 (f9 + 1) false (sk t n (sk t n p4)) (nI (sk t n (sk t n p4))) R4 h20 _ _ _ f20_mo f20_ma_1 (⟨by omega, by omega, by omega⟩) kk20 (n4.k sg_Nh20 (by omega) (by omega) (by omega)) (Or.inr il18) (Or.inl ⟨il18, by rw [eX8, if_neg (by rw [← sk_sk]; exact ws197), memE_no (by rw [sk_sk]; exact c_184)]; rfl⟩) ?_ hw (lv_sub hl [4, 5, 6, 0, 3] rfl)
                                  omega
                              · -- 184: False
                                have l187 := bt_lt (c := 125) (show bt t n (sk t n p4) = 125 by simpa using c_184)
                                refine lv_aload_n hx hb d_M_readGroup_187 rfl (lv_at hl 4 rfl) ?_
                                refine lv_iload_n hx hb d_M_readGroup_188 rfl (lv_at hl 6 rfl) ?_
                                refine lv_iload_n hx hb d_M_readGroup_189 rfl (lv_at hl 0 rfl) ?_
                                refine z_callV (n := 2) (As := [.int gr, .int (nI (f9 + 1))]) (rest := []) ⟨hx, hb, hml, hown, hts⟩ (m_end (a9 := f9 + 1) l g h16 fi17 (hSc.k kk16 (by omega) (by omega) (by omega)) hB (by omega)) (z_in k_975 rfl) (z_in k_7 rfl) (z_in k_972 rfl) (z_in k_974 rfl) (z_in ks_40 rfl) (by decide +kernel) ⟨by first | exact Nat.le_of_ble_eq_true rfl | (dsimp only; omega) | omega, by first | exact Nat.le_of_ble_eq_true rfl | (dsimp only; omega) | omega⟩ hK hE hw hA rfl fi17 rfl hl.1 (Nat.le_of_ble_eq_true rfl) d_M_readGroup_190 ⟨by first | exact Nat.le_of_ble_eq_true rfl | (dsimp only; omega) | omega, by first | exact Nat.le_of_ble_eq_true rfl | (dsimp only; omega) | omega⟩ rfl (fun r9 h9 H locs hp hw => ?_)
                                obtain ⟨r8, hh21⟩ := hp
                                subst r8
                                obtain ⟨h21, e8⟩ : ∃ x9, x9 = h9 := ⟨_, rfl⟩
                                subst e8
                                have f21_mo : h21 mo = some ((20, 0), .inr (11, mF ma cod tpd (nI n) (nI S.1) cls9 ffl fcl (nI R4.1) (nI (tbC R4.2 R4.1)) ous (nI (sk t n p4 + 1)) (if hrq S gr (f9 + 1) = true then nI (sk t n p4) else -1))) := by rw [← hh21]; exact z_put_eq
                                have f21_ma_1 : h21 (ma 1) = some ((22, 0), .inl (g.2.1 1, 4000, .inl f)) := by rw [← hh21]; exact z_keep fi17 f16_ma_1 (z_t1 (by decide))
                                have kk21 : z_K (fun y => y = 20 ∨ y = 29 ∨ y = 30 ∨ y = 31) h h21 := kk16.tr (by rw [← hh21]; exact z_K.put fi17 (by first | decide | simp | omega))
                                have sg_Nh21 : z_K (fun y => y = 20) h14 h21 := sg_Nh16.tr (by rw [← hh21]; exact z_K.put fi17 (by simp))
                                refine W.eq (g2 := F0 m 193 ls []) rfl ?_
                                exact z_vret hx hb hr hlocks hw (by have eX9 : X = if hrq S gr (f9 + 1) = true then .inl (sk t n p4, R4) else .inr (sk t n p4 + 1, R4) := (by have z9 : bt t n (sk t n p4) = 125 := (by simpa using c_184); rw [eX8, if_neg (by rw [z9]; decide), memE_ok (by rw [sk_sk]; exact z9), sk_sk]); have eR : resJ X = if hrq S gr (f9 + 1) = true then nI (sk t n p4) else -1 := (by rw [eX9]; split <;> rfl); refine ⟨rfl, kk21, sk t n p4 + 1, R4, ?_, by omega, by omega, n4.k sg_Nh21 (by omega) (by omega) (by omega), fun z => by rw [eR] at z; by_cases z2 : hrq S gr (f9 + 1) = true; (· rw [if_pos z2] at z; exact absurd z (nI_ne1 (by omega))); (· exact ⟨by rw [eX9, if_neg z2], by omega, by omega, z4⟩)⟩; rw [eR]; exact f21_mo) (by decide) (by decide) d_M_readGroup_193
                          · -- read False
                            have eX7 : resJ X = resJ (fldR (VR f9) S t n f9 (sk t n (we t n (sk t n p3)) + 1) R3) := by obtain ⟨F9, eF9⟩ := resJ_inl e30; rw [eXL, memL_no (F := (fun fi p R => fldR (VR fi) S t n fi p R)) enm ws124 eF9, eF9]
                            refine lv_aload_n hx hb d_M_readGroup_170 rfl (lv_at hl 4 rfl) ?_
                            refine z_get hx hb hts (z_lay i_M) hown hK hw f16_mo rfl 30 (by decide) (z_in k_801 rfl) (fun _ h9 => h9) rfl d_M_readGroup_171 ?_
                            refine lv_iconst (v := (-1)) hx hb d_M_readGroup_174 (by decide) ?_
                            refine lv_icmp_ne (tgt := 194) hx hb d_M_readGroup_175 (by decide) (fun c_175 => ?_) (fun c_175 => ?_)
                            · -- 175: True
                              refine lv_aload_n hx hb d_M_readGroup_194 rfl (lv_at hl 4 rfl) ?_
                              refine lv_bipush (v := 44) hx hb d_M_readGroup_195 (by decide) ?_
                              refine z_callV (n := 1) (As := [.int 44]) (rest := []) ⟨hx, hb, hml, hown, hts⟩ (m_wantSign (t := t) l g h16 f16_mo f16_ma_1 hn hf (by omega)) (z_in k_923 rfl) (z_in k_7 rfl) (z_in k_920 rfl) (z_in k_922 rfl) (z_in ks_33 rfl) (by decide +kernel) ⟨by first | exact Nat.le_of_ble_eq_true rfl | (dsimp only; omega) | omega, by first | exact Nat.le_of_ble_eq_true rfl | (dsimp only; omega) | omega⟩ hK hE hw hA rfl f16_mo rfl hl.1 (Nat.le_of_ble_eq_true rfl) d_M_readGroup_197 ⟨by first | exact Nat.le_of_ble_eq_true rfl | (dsimp only; omega) | omega, by first | exact Nat.le_of_ble_eq_true rfl | (dsimp only; omega) | omega⟩ rfl (fun r9 h9 H locs hp hw => ?_)
                              have sa22 := sk_le (t := t) (n := n) (p := sk t n p4) (by omega)
                              have sb22 := sk_ge t n (sk t n p4)
                              obtain ⟨r8, hp⟩ := hp
                              unfold wsP wsI at hp
                              rw [if_neg (fun z => e30 z.1), if_neg e30] at hp
                              have hp := And.intro r8 hp
                              obtain ⟨r8, hh23⟩ := hp
                              subst r8
                              obtain ⟨h23, e8⟩ : ∃ x9, x9 = h9 := ⟨_, rfl⟩
                              subst e8
                              have f23_mo : h23 mo = some ((20, 0), .inr (11, mF ma cod tpd (nI n) (nI S.1) cls9 ffl fcl (nI R4.1) (nI (tbC R4.2 R4.1)) ous (nI (sk t n (sk t n p4))) (resJ (fldR (VR f9) S t n f9 (sk t n (we t n (sk t n p3)) + 1) R3)))) := by rw [← hh23]; exact z_put_eq
                              have f23_ma_1 : h23 (ma 1) = some ((22, 0), .inl (g.2.1 1, 4000, .inl f)) := by rw [← hh23]; exact z_keep f16_mo f16_ma_1 (z_t1 (by decide))
                              have kk23 : z_K (fun y => y = 20 ∨ y = 29 ∨ y = 30 ∨ y = 31) h h23 := kk16.tr (by rw [← hh23]; exact z_K.put f16_mo (by first | decide | simp | omega))
                              have sg_Nh23 : z_K (fun y => y = 20) h14 h23 := sg_Nh16.tr (by rw [← hh23]; exact z_K.put f16_mo (by simp))
                              refine W.eq (g2 := F0 m 200 ls []) rfl ?_
                              refine lv_goto (tgt := 15) hx hb d_M_readGroup_200 (by decide) ?_
                              refine ih_15 c5 (f9 + 1) false (sk t n (sk t n p4)) (resJ (fldR (VR f9) S t n f9 (sk t n (we t n (sk t n p3)) + 1) R3)) R4 h23 _ _ _ f23_mo f23_ma_1 (⟨by omega, by omega, by omega⟩) kk23 (n4.k sg_Nh23 (by omega) (by omega) (by omega)) (Or.inr e30) (Or.inl ⟨e30, eX7⟩) ?_ hw (lv_sub hl [4, 5, 6, 0, 3] rfl)
                              omega
                            · -- 175: False
                              exact absurd (by simpa using c_175) e30
                        · -- 146: False
                          refine lv_aload_n hx hb d_M_readGroup_149 rfl (lv_at hl 4 rfl) ?_
                          refine lv_iload_n hx hb d_M_readGroup_150 rfl (lv_at hl 5 rfl) ?_
                          refine lv_iload hx hb d_M_readGroup_151 (lv_at hl 1 rfl) ?_
                          have eV9 : fldR (VR f9) S t n f9 (sk t n (we t n (sk t n p3)) + 1) R3 = if bt t n (sk t n (sk t n (we t n (sk t n p3)) + 1)) = 91 then (if bt t n (sk t n (sk t n (sk t n (we t n (sk t n p3)) + 1) + 1)) = 93 then sgnR t n 93 (sk t n (sk t n (sk t n (we t n (sk t n p3)) + 1) + 1)) R3 else rowL (VR f9) t n 4001 (sk t n (sk t n (sk t n (we t n (sk t n p3)) + 1) + 1)) R3) else .inl (sk t n (sk t n (we t n (sk t n p3)) + 1), R3) := by unfold fldR; rw [if_pos (show fKi (S.2 f9) = 2 by simpa using c_146)]
                          refine z_callV (n := 2) (As := [.int (nI pi), .int (nI f9)]) (rest := []) ⟨hx, hb, hml, hown, hts⟩ (m_readRow_of (t := t) (VR := VR f9) (pi := pi) (fi := f9) (R := R3) (p := sk t n (we t n (sk t n p3)) + 1) l g h13 f13_mo f13_ma_1 hn hf (by omega) (hSc.k kk13 (by omega) (by omega) (by omega)) (hN3.k sg_Nh13 (by omega) (by omega) (by omega)) hc4.2 (by omega) (by omega) eV9 (hV f9 lf9 hgf9)) (z_in k_983 rfl) (z_in k_7 rfl) (z_in k_980 rfl) (z_in k_982 rfl) (z_in ks_42 rfl) (by decide +kernel) ⟨by first | exact Nat.le_of_ble_eq_true rfl | (dsimp only; omega) | omega, by first | exact Nat.le_of_ble_eq_true rfl | (dsimp only; omega) | omega⟩ hK hE hw hA rfl f13_mo rfl hl.1 (Nat.le_of_ble_eq_true rfl) d_M_readGroup_153 ⟨by first | exact Nat.le_of_ble_eq_true rfl | (dsimp only; omega) | omega, by first | exact Nat.le_of_ble_eq_true rfl | (dsimp only; omega) | omega⟩ rfl (fun r9 h9 H locs hp hw => ?_)
                          obtain ⟨r8, kk8, p4, R4, m4, le4, ge4, n4, im4⟩ := hp
                          subst r8
                          obtain ⟨h24, e7⟩ : ∃ x9, x9 = h9 := ⟨_, rfl⟩
                          subst e7
                          have g24_ma_1 : h24 (ma 1) = some ((22, 0), .inl (g.2.1 1, 4000, .inl f)) := kk8 _ _ _ f13_ma_1 (by simp)
                          have kk24 : z_K (fun y => y = 20 ∨ y = 29 ∨ y = 30 ∨ y = 31) h h24 := kk13.tr kk8
                          have sg_Nh24 : z_K (fun y => y = 20) h24 h24 := z_K.rf
                          refine W.eq (g2 := F0 m 156 ls []) rfl ?_
                          refine lv_goto (tgt := 166) hx hb d_M_readGroup_156 (by decide) ?_
                          refine lv_aload_n hx hb d_M_readGroup_166 rfl (lv_at hl 4 rfl) ?_
                          refine z_callV (n := 0) (As := []) (rest := []) ⟨hx, hb, hml, hown, hts⟩ (m_blanks (t := t) l g h24 m4 g24_ma_1 hn hf (by omega)) (z_in k_885 rfl) (z_in k_7 rfl) (z_in k_882 rfl) (z_in k_884 rfl) (z_in ks_27 rfl) (by decide +kernel) ⟨by first | exact Nat.le_of_ble_eq_true rfl | (dsimp only; omega) | omega, by first | exact Nat.le_of_ble_eq_true rfl | (dsimp only; omega) | omega⟩ hK hE hw hA rfl m4 rfl hl.1 (Nat.le_of_ble_eq_true rfl) d_M_readGroup_167 ⟨by first | exact Nat.le_of_ble_eq_true rfl | (dsimp only; omega) | omega, by first | exact Nat.le_of_ble_eq_true rfl | (dsimp only; omega) | omega⟩ rfl (fun r9 h9 H locs hp hw => ?_)
                          have sq25 := sk_le (t := t) (n := n) (p := p4) (by omega)
                          have sr25 := sk_ge t n p4
                          obtain ⟨r8, hh26⟩ := hp
                          subst r8
                          obtain ⟨h26, e8⟩ : ∃ x9, x9 = h9 := ⟨_, rfl⟩
                          subst e8
                          have f26_mo : h26 mo = some ((20, 0), .inr (11, mF ma cod tpd (nI n) (nI S.1) cls9 ffl fcl (nI R4.1) (nI (tbC R4.2 R4.1)) ous (nI (sk t n p4)) (resJ (fldR (VR f9) S t n f9 (sk t n (we t n (sk t n p3)) + 1) R3)))) := by rw [← hh26]; exact z_put_eq
                          have f26_ma_1 : h26 (ma 1) = some ((22, 0), .inl (g.2.1 1, 4000, .inl f)) := by rw [← hh26]; exact z_keep m4 g24_ma_1 (z_t1 (by decide))
                          have kk26 : z_K (fun y => y = 20 ∨ y = 29 ∨ y = 30 ∨ y = 31) h h26 := kk24.tr (by rw [← hh26]; exact z_K.put m4 (by first | decide | simp | omega))
                          have sg_Nh26 : z_K (fun y => y = 20) h24 h26 := sg_Nh24.tr (by rw [← hh26]; exact z_K.put m4 (by simp))
                          refine W.eq (g2 := F0 m 170 ls []) rfl ?_
                          by_cases e30 : resJ (fldR (VR f9) S t n f9 (sk t n (we t n (sk t n p3)) + 1) R3) = -1
                          · -- read True
                            obtain ⟨eF4, b4, t4, z4⟩ := im4 e30
                            have fi27 : h26 mo = some ((20, 0), .inr (11, mF ma cod tpd (nI n) (nI S.1) cls9 ffl fcl (nI R4.1) (nI (tbC R4.2 R4.1)) ous (nI (sk t n p4)) (-1))) := by have z9 := f26_mo; rw [e30] at z9; exact z9
                            have eX8 : X = if bt t n (sk t n p4) = 44 then memL (fun fi p R => fldR (VR fi) S t n fi p R) S t n gr c5 (f9 + 1) (sk t n p4 + 1) R4 else memE S t n gr (f9 + 1) (sk t n p4) R4 := by rw [eXL]; exact memL_ok (F := (fun fi p R => fldR (VR fi) S t n fi p R)) enm ws124 eF4
                            refine lv_aload_n hx hb d_M_readGroup_170 rfl (lv_at hl 4 rfl) ?_
                            refine z_get hx hb hts (z_lay i_M) hown hK hw fi27 rfl 30 (by decide) (z_in k_801 rfl) (fun _ h9 => h9) rfl d_M_readGroup_171 ?_
                            refine lv_iconst (v := (-1)) hx hb d_M_readGroup_174 (by decide) ?_
                            refine lv_icmp_ne (tgt := 194) hx hb d_M_readGroup_175 (by decide) (fun c_175 => ?_) (fun c_175 => ?_)
                            · -- 175: True
                              exact absurd rfl c_175
                            · -- 175: False
                              refine lv_aload_n hx hb d_M_readGroup_178 rfl (lv_at hl 4 rfl) ?_
                              refine z_callV (n := 0) (As := []) (rest := []) ⟨hx, hb, hml, hown, hts⟩ (m_look (t := t) l g h26 fi27 f26_ma_1 hn hf (by omega)) (z_in k_889 rfl) (z_in k_7 rfl) (z_in k_886 rfl) (z_in k_888 rfl) (z_in ks_28 rfl) (by decide +kernel) ⟨by first | exact Nat.le_of_ble_eq_true rfl | (dsimp only; omega) | omega, by first | exact Nat.le_of_ble_eq_true rfl | (dsimp only; omega) | omega⟩ hK hE hw hA rfl fi27 rfl hl.1 (Nat.le_of_ble_eq_true rfl) d_M_readGroup_179 ⟨by first | exact Nat.le_of_ble_eq_true rfl | (dsimp only; omega) | omega, by first | exact Nat.le_of_ble_eq_true rfl | (dsimp only; omega) | omega⟩ rfl (fun r9 h9 H locs hp hw => ?_)
                              obtain ⟨r8, h8⟩ := hp
                              subst r8
                              subst h8
                              refine W.eq (g2 := F0 m 182 ls [.int (bt t n (sk t n p4))]) rfl ?_
                              refine lv_bipush (v := 125) hx hb d_M_readGroup_182 (by decide) ?_
                              refine lv_icmp_ne (tgt := 194) hx hb d_M_readGroup_184 (by decide) (fun c_184 => ?_) (fun c_184 => ?_)
                              · -- 184: True
                                refine lv_aload_n hx hb d_M_readGroup_194 rfl (lv_at hl 4 rfl) ?_
                                refine lv_bipush (v := 44) hx hb d_M_readGroup_195 (by decide) ?_
                                refine z_callV (n := 1) (As := [.int 44]) (rest := []) ⟨hx, hb, hml, hown, hts⟩ (m_wantSign (t := t) l g h26 fi27 f26_ma_1 hn hf (by omega)) (z_in k_923 rfl) (z_in k_7 rfl) (z_in k_920 rfl) (z_in k_922 rfl) (z_in ks_33 rfl) (by decide +kernel) ⟨by first | exact Nat.le_of_ble_eq_true rfl | (dsimp only; omega) | omega, by first | exact Nat.le_of_ble_eq_true rfl | (dsimp only; omega) | omega⟩ hK hE hw hA rfl fi27 rfl hl.1 (Nat.le_of_ble_eq_true rfl) d_M_readGroup_197 ⟨by first | exact Nat.le_of_ble_eq_true rfl | (dsimp only; omega) | omega, by first | exact Nat.le_of_ble_eq_true rfl | (dsimp only; omega) | omega⟩ rfl (fun r9 h9 H locs hp hw => ?_)
                                have sa28 := sk_le (t := t) (n := n) (p := sk t n p4) (by omega)
                                have sb28 := sk_ge t n (sk t n p4)
                                by_cases ws197 : bt t n (sk t n (sk t n p4)) = 44
                                · -- wanted True
                                  have sc28 := bt_lt (c := 44) ws197
                                  obtain ⟨r8, hp⟩ := hp
                                  unfold wsP wsI at hp
                                  rw [if_pos ⟨rfl, ws197⟩, if_pos rfl, if_pos ws197] at hp
                                  have hp := And.intro r8 hp
                                  obtain ⟨r8, hh29⟩ := hp
                                  subst r8
                                  obtain ⟨h29, e8⟩ : ∃ x9, x9 = h9 := ⟨_, rfl⟩
                                  subst e8
                                  have f29_mo : h29 mo = some ((20, 0), .inr (11, mF ma cod tpd (nI n) (nI S.1) cls9 ffl fcl (nI R4.1) (nI (tbC R4.2 R4.1)) ous (nI (sk t n (sk t n p4) + 1)) (-1))) := by rw [← hh29]; exact z_put_eq
                                  have f29_ma_1 : h29 (ma 1) = some ((22, 0), .inl (g.2.1 1, 4000, .inl f)) := by rw [← hh29]; exact z_keep fi27 f26_ma_1 (z_t1 (by decide))
                                  have kk29 : z_K (fun y => y = 20 ∨ y = 29 ∨ y = 30 ∨ y = 31) h h29 := kk26.tr (by rw [← hh29]; exact z_K.put fi27 (by first | decide | simp | omega))
                                  have sg_Nh29 : z_K (fun y => y = 20) h24 h29 := sg_Nh26.tr (by rw [← hh29]; exact z_K.put fi27 (by simp))
                                  refine W.eq (g2 := F0 m 200 ls []) rfl ?_
                                  refine lv_goto (tgt := 15) hx hb d_M_readGroup_200 (by decide) ?_
                                  refine ih_15 c5 (f9 + 1) false (sk t n (sk t n p4) + 1) (-1) R4 h29 _ _ _ f29_mo f29_ma_1 (⟨by omega, by omega, by omega⟩) kk29 (n4.k sg_Nh29 (by omega) (by omega) (by omega)) (Or.inl ⟨by omega, z4⟩) (Or.inr ⟨rfl, by rw [eX8, if_pos (by rw [← sk_sk]; exact ws197), if_neg (fun z => by cases z.1), sk_sk], by rw [sk_sk] at *; omega, by rw [sk_sk] at *; omega⟩) ?_ hw (lv_sub hl [4, 5, 6, 0, 3] rfl)
                                  omega
                                · -- wanted False
                                  have il28 : ¬ nI (sk t n (sk t n p4)) = (-1 : Int32) := nI_ne1 (by omega)
                                  obtain ⟨r8, hp⟩ := hp
                                  unfold wsP wsI at hp
                                  rw [if_neg (fun z => ws197 z.2), if_pos rfl, if_neg ws197] at hp
                                  have hp := And.intro r8 hp
                                  obtain ⟨r8, hh30⟩ := hp
                                  subst r8
                                  obtain ⟨h30, e8⟩ : ∃ x9, x9 = h9 := ⟨_, rfl⟩
                                  subst e8
                                  have f30_mo : h30 mo = some ((20, 0), .inr (11, mF ma cod tpd (nI n) (nI S.1) cls9 ffl fcl (nI R4.1) (nI (tbC R4.2 R4.1)) ous (nI (sk t n (sk t n p4))) (nI (sk t n (sk t n p4))))) := by rw [← hh30]; exact z_put_eq
                                  have f30_ma_1 : h30 (ma 1) = some ((22, 0), .inl (g.2.1 1, 4000, .inl f)) := by rw [← hh30]; exact z_keep fi27 f26_ma_1 (z_t1 (by decide))
                                  have kk30 : z_K (fun y => y = 20 ∨ y = 29 ∨ y = 30 ∨ y = 31) h h30 := kk26.tr (by rw [← hh30]; exact z_K.put fi27 (by first | decide | simp | omega))
                                  have sg_Nh30 : z_K (fun y => y = 20) h24 h30 := sg_Nh26.tr (by rw [← hh30]; exact z_K.put fi27 (by simp))
                                  refine W.eq (g2 := F0 m 200 ls []) rfl ?_
                                  refine lv_goto (tgt := 15) hx hb d_M_readGroup_200 (by decide) ?_
                                  refine ih_15 c5 (f9 + 1) false (sk t n (sk t n p4)) (nI (sk t n (sk t n p4))) R4 h30 _ _ _ f30_mo f30_ma_1 (⟨by omega, by omega, by omega⟩) kk30 (n4.k sg_Nh30 (by omega) (by omega) (by omega)) (Or.inr il28) (Or.inl ⟨il28, by rw [eX8, if_neg (by rw [← sk_sk]; exact ws197), memE_no (by rw [sk_sk]; exact c_184)]; rfl⟩) ?_ hw (lv_sub hl [4, 5, 6, 0, 3] rfl)
                                  omega
                              · -- 184: False
                                have l187 := bt_lt (c := 125) (show bt t n (sk t n p4) = 125 by simpa using c_184)
                                refine lv_aload_n hx hb d_M_readGroup_187 rfl (lv_at hl 4 rfl) ?_
                                refine lv_iload_n hx hb d_M_readGroup_188 rfl (lv_at hl 6 rfl) ?_
                                refine lv_iload_n hx hb d_M_readGroup_189 rfl (lv_at hl 0 rfl) ?_
                                refine z_callV (n := 2) (As := [.int gr, .int (nI (f9 + 1))]) (rest := []) ⟨hx, hb, hml, hown, hts⟩ (m_end (a9 := f9 + 1) l g h26 fi27 (hSc.k kk26 (by omega) (by omega) (by omega)) hB (by omega)) (z_in k_975 rfl) (z_in k_7 rfl) (z_in k_972 rfl) (z_in k_974 rfl) (z_in ks_40 rfl) (by decide +kernel) ⟨by first | exact Nat.le_of_ble_eq_true rfl | (dsimp only; omega) | omega, by first | exact Nat.le_of_ble_eq_true rfl | (dsimp only; omega) | omega⟩ hK hE hw hA rfl fi27 rfl hl.1 (Nat.le_of_ble_eq_true rfl) d_M_readGroup_190 ⟨by first | exact Nat.le_of_ble_eq_true rfl | (dsimp only; omega) | omega, by first | exact Nat.le_of_ble_eq_true rfl | (dsimp only; omega) | omega⟩ rfl (fun r9 h9 H locs hp hw => ?_)
                                obtain ⟨r8, hh31⟩ := hp
                                subst r8
                                obtain ⟨h31, e8⟩ : ∃ x9, x9 = h9 := ⟨_, rfl⟩
                                subst e8
                                have f31_mo : h31 mo = some ((20, 0), .inr (11, mF ma cod tpd (nI n) (nI S.1) cls9 ffl fcl (nI R4.1) (nI (tbC R4.2 R4.1)) ous (nI (sk t n p4 + 1)) (if hrq S gr (f9 + 1) = true then nI (sk t n p4) else -1))) := by rw [← hh31]; exact z_put_eq
                                have f31_ma_1 : h31 (ma 1) = some ((22, 0), .inl (g.2.1 1, 4000, .inl f)) := by rw [← hh31]; exact z_keep fi27 f26_ma_1 (z_t1 (by decide))
                                have kk31 : z_K (fun y => y = 20 ∨ y = 29 ∨ y = 30 ∨ y = 31) h h31 := kk26.tr (by rw [← hh31]; exact z_K.put fi27 (by first | decide | simp | omega))
                                have sg_Nh31 : z_K (fun y => y = 20) h24 h31 := sg_Nh26.tr (by rw [← hh31]; exact z_K.put fi27 (by simp))
                                refine W.eq (g2 := F0 m 193 ls []) rfl ?_
                                exact z_vret hx hb hr hlocks hw (by have eX9 : X = if hrq S gr (f9 + 1) = true then .inl (sk t n p4, R4) else .inr (sk t n p4 + 1, R4) := (by have z9 : bt t n (sk t n p4) = 125 := (by simpa using c_184); rw [eX8, if_neg (by rw [z9]; decide), memE_ok (by rw [sk_sk]; exact z9), sk_sk]); have eR : resJ X = if hrq S gr (f9 + 1) = true then nI (sk t n p4) else -1 := (by rw [eX9]; split <;> rfl); refine ⟨rfl, kk31, sk t n p4 + 1, R4, ?_, by omega, by omega, n4.k sg_Nh31 (by omega) (by omega) (by omega), fun z => by rw [eR] at z; by_cases z2 : hrq S gr (f9 + 1) = true; (· rw [if_pos z2] at z; exact absurd z (nI_ne1 (by omega))); (· exact ⟨by rw [eX9, if_neg z2], by omega, by omega, z4⟩)⟩; rw [eR]; exact f31_mo) (by decide) (by decide) d_M_readGroup_193
                          · -- read False
                            have eX7 : resJ X = resJ (fldR (VR f9) S t n f9 (sk t n (we t n (sk t n p3)) + 1) R3) := by obtain ⟨F9, eF9⟩ := resJ_inl e30; rw [eXL, memL_no (F := (fun fi p R => fldR (VR fi) S t n fi p R)) enm ws124 eF9, eF9]
                            refine lv_aload_n hx hb d_M_readGroup_170 rfl (lv_at hl 4 rfl) ?_
                            refine z_get hx hb hts (z_lay i_M) hown hK hw f26_mo rfl 30 (by decide) (z_in k_801 rfl) (fun _ h9 => h9) rfl d_M_readGroup_171 ?_
                            refine lv_iconst (v := (-1)) hx hb d_M_readGroup_174 (by decide) ?_
                            refine lv_icmp_ne (tgt := 194) hx hb d_M_readGroup_175 (by decide) (fun c_175 => ?_) (fun c_175 => ?_)
                            · -- 175: True
                              refine lv_aload_n hx hb d_M_readGroup_194 rfl (lv_at hl 4 rfl) ?_
                              refine lv_bipush (v := 44) hx hb d_M_readGroup_195 (by decide) ?_
                              refine z_callV (n := 1) (As := [.int 44]) (rest := []) ⟨hx, hb, hml, hown, hts⟩ (m_wantSign (t := t) l g h26 f26_mo f26_ma_1 hn hf (by omega)) (z_in k_923 rfl) (z_in k_7 rfl) (z_in k_920 rfl) (z_in k_922 rfl) (z_in ks_33 rfl) (by decide +kernel) ⟨by first | exact Nat.le_of_ble_eq_true rfl | (dsimp only; omega) | omega, by first | exact Nat.le_of_ble_eq_true rfl | (dsimp only; omega) | omega⟩ hK hE hw hA rfl f26_mo rfl hl.1 (Nat.le_of_ble_eq_true rfl) d_M_readGroup_197 ⟨by first | exact Nat.le_of_ble_eq_true rfl | (dsimp only; omega) | omega, by first | exact Nat.le_of_ble_eq_true rfl | (dsimp only; omega) | omega⟩ rfl (fun r9 h9 H locs hp hw => ?_)
                              have sa32 := sk_le (t := t) (n := n) (p := sk t n p4) (by omega)
                              have sb32 := sk_ge t n (sk t n p4)
                              obtain ⟨r8, hp⟩ := hp
                              unfold wsP wsI at hp
                              rw [if_neg (fun z => e30 z.1), if_neg e30] at hp
                              have hp := And.intro r8 hp
                              obtain ⟨r8, hh33⟩ := hp
                              subst r8
                              obtain ⟨h33, e8⟩ : ∃ x9, x9 = h9 := ⟨_, rfl⟩
                              subst e8
                              have f33_mo : h33 mo = some ((20, 0), .inr (11, mF ma cod tpd (nI n) (nI S.1) cls9 ffl fcl (nI R4.1) (nI (tbC R4.2 R4.1)) ous (nI (sk t n (sk t n p4))) (resJ (fldR (VR f9) S t n f9 (sk t n (we t n (sk t n p3)) + 1) R3)))) := by rw [← hh33]; exact z_put_eq
                              have f33_ma_1 : h33 (ma 1) = some ((22, 0), .inl (g.2.1 1, 4000, .inl f)) := by rw [← hh33]; exact z_keep f26_mo f26_ma_1 (z_t1 (by decide))
                              have kk33 : z_K (fun y => y = 20 ∨ y = 29 ∨ y = 30 ∨ y = 31) h h33 := kk26.tr (by rw [← hh33]; exact z_K.put f26_mo (by first | decide | simp | omega))
                              have sg_Nh33 : z_K (fun y => y = 20) h24 h33 := sg_Nh26.tr (by rw [← hh33]; exact z_K.put f26_mo (by simp))
                              refine W.eq (g2 := F0 m 200 ls []) rfl ?_
                              refine lv_goto (tgt := 15) hx hb d_M_readGroup_200 (by decide) ?_
                              refine ih_15 c5 (f9 + 1) false (sk t n (sk t n p4)) (resJ (fldR (VR f9) S t n f9 (sk t n (we t n (sk t n p3)) + 1) R3)) R4 h33 _ _ _ f33_mo f33_ma_1 (⟨by omega, by omega, by omega⟩) kk33 (n4.k sg_Nh33 (by omega) (by omega) (by omega)) (Or.inr e30) (Or.inl ⟨e30, eX7⟩) ?_ hw (lv_sub hl [4, 5, 6, 0, 3] rfl)
                              omega
                            · -- 175: False
                              exact absurd (by simpa using c_175) e30
                      · -- 132: False
                        exact absurd rfl c_132
                    · -- wanted False
                      have il12 : ¬ nI (sk t n (we t n (sk t n p3))) = (-1 : Int32) := nI_ne1 (by omega)
                      obtain ⟨r8, hp⟩ := hp
                      unfold wsP wsI at hp
                      rw [if_neg (fun z => ws124 z.2), if_pos rfl, if_neg ws124] at hp
                      have hp := And.intro r8 hp
                      obtain ⟨r8, hh34⟩ := hp
                      subst r8
                      obtain ⟨h34, e8⟩ : ∃ x9, x9 = h9 := ⟨_, rfl⟩
                      subst e8
                      have f34_mo : h34 mo = some ((20, 0), .inr (11, mF ma cod tpd (nI n) (nI S.1) cls9 ffl fcl (nI R3.1) (nI (tbC R3.2 R3.1)) ous (nI (sk t n (we t n (sk t n p3)))) (nI (sk t n (we t n (sk t n p3)))))) := by rw [← hh34]; exact z_put_eq
                      have f34_ma_1 : h34 (ma 1) = some ((22, 0), .inl (g.2.1 1, 4000, .inl f)) := by rw [← hh34]; exact z_keep fe11 f10_ma_1 (z_t1 (by decide))
                      have kk34 : z_K (fun y => y = 20 ∨ y = 29 ∨ y = 30 ∨ y = 31) h h34 := kk10.tr (by rw [← hh34]; exact z_K.put fe11 (by first | decide | simp | omega))
                      have sg_Nh34 : z_K (fun y => y = 20) hL h34 := sg_Nh10.tr (by rw [← hh34]; exact z_K.put fe11 (by simp))
                      refine W.eq (g2 := F0 m 127 ls []) rfl ?_
                      refine lv_aload_n hx hb d_M_readGroup_127 rfl (lv_at hl 4 rfl) ?_
                      refine z_get hx hb hts (z_lay i_M) hown hK hw f34_mo rfl 30 (by decide) (z_in k_801 rfl) (fun _ h9 => h9) rfl d_M_readGroup_128 ?_
                      refine lv_iconst (v := (-1)) hx hb d_M_readGroup_131 (by decide) ?_
                      refine lv_icmp_eq (tgt := 136) hx hb d_M_readGroup_132 (by decide) (fun c_132 => ?_) (fun c_132 => ?_)
                      · -- 132: True
                        exact absurd c_132 il12
                      · -- 132: False
                        exact z_vret hx hb hr hlocks hw (by have eR : resJ X = nI (sk t n (we t n (sk t n p3))) := (by rw [eXL, memL_col enm ws124]; rfl); refine ⟨rfl, kk34, sk t n (we t n (sk t n p3)), R3, ?_, by omega, by omega, hN3.k sg_Nh34 (by omega) (by omega) (by omega), fun z => absurd (eR.symm.trans z) il12⟩; rw [eR]; exact f34_mo) (by decide) (by decide) d_M_readGroup_135
                  · -- 93: False
                    have c_93 : (hrqR S gr (f9 - st) st) = true := zb_t c_93
                    have eXf : X = .inl (sk t n p3, R3) := by rw [eXL]; exact memL_nam (by rw [namR_find hu hs8 hlt9 lf9 (by omega) lm9, if_pos c_93])
                    refine lv_aload_n hx hb d_M_readGroup_96 rfl (lv_at hl 3 rfl) ?_
                    refine lv_aload_n hx hb d_M_readGroup_97 rfl (lv_at hl 3 rfl) ?_
                    refine z_get hx hb hts (z_lay i_M) hown hK hw f7_mo rfl 29 (by decide) (z_in k_800 rfl) (fun _ h9 => h9) rfl d_M_readGroup_98 ?_
                    refine z_callV (n := 1) (As := [.int (nI (sk t n p3))]) (rest := []) ⟨hx, hb, hml, hown, hts⟩ (m_fail l g h7 f7_mo) (z_in k_914 rfl) (z_in k_7 rfl) (z_in k_911 rfl) (z_in k_913 rfl) (z_in ks_32 rfl) (by decide +kernel) ⟨by first | exact Nat.le_of_ble_eq_true rfl | (dsimp only; omega) | omega, by first | exact Nat.le_of_ble_eq_true rfl | (dsimp only; omega) | omega⟩ hK hE hw hA rfl f7_mo rfl hl.1 (Nat.le_of_ble_eq_true rfl) d_M_readGroup_101 ⟨by first | exact Nat.le_of_ble_eq_true rfl | (dsimp only; omega) | omega, by first | exact Nat.le_of_ble_eq_true rfl | (dsimp only; omega) | omega⟩ rfl (fun r9 h9 H locs hp hw => ?_)
                    obtain ⟨r8, hh35⟩ := hp
                    subst r8
                    obtain ⟨h35, e8⟩ : ∃ x9, x9 = h9 := ⟨_, rfl⟩
                    subst e8
                    have f35_mo : h35 mo = some ((20, 0), .inr (11, mF ma cod tpd (nI n) (nI S.1) cls9 ffl fcl (nI R3.1) (nI (tbC R3.2 R3.1)) ous (nI (sk t n p3)) (nI (sk t n p3)))) := by rw [← hh35]; exact z_put_eq
                    have f35_ma_1 : h35 (ma 1) = some ((22, 0), .inl (g.2.1 1, 4000, .inl f)) := by rw [← hh35]; exact z_keep f7_mo f7_ma_1 (z_t1 (by decide))
                    have kk35 : z_K (fun y => y = 20 ∨ y = 29 ∨ y = 30 ∨ y = 31) h h35 := kk7.tr (by rw [← hh35]; exact z_K.put f7_mo (by first | decide | simp | omega))
                    have sg_Nh35 : z_K (fun y => y = 20) hL h35 := sg_Nh7.tr (by rw [← hh35]; exact z_K.put f7_mo (by simp))
                    refine W.eq (g2 := F0 m 104 ls []) rfl ?_
                    exact z_vret hx hb hr hlocks hw (by have eR : resJ X = nI (sk t n p3) := (by rw [eXf]; rfl); refine ⟨rfl, kk35, sk t n p3, R3, ?_, by omega, by omega, hN3.k sg_Nh35 (by omega) (by omega) (by omega), fun z => absurd (eR.symm.trans z) (nI_ne1 (by omega))⟩; rw [eR]; exact f35_mo) (by decide) (by decide) d_M_readGroup_104
            · -- 59: False
              have c_59 : (wl t n (sk t n p3)) = 0 := (nI_eq (a := wl t n (sk t n p3)) (b := 0) (by omega) (by omega)).mp c_59
              have nlt : ¬ isLet (bt t n (sk t n p3)) = true := fun z => by have := let_we (fun k hk => (hf k hk).1) z; have e9 : wl t n (sk t n p3) = 0 := (by omega); unfold wl at e9; rw [if_pos z] at e9; omega
              have eXf : X = .inl (sk t n p3, R3) := by rw [eXL]; exact memL_nam (namR_let nlt)
              refine lv_iconst (v := (-1)) hx hb d_M_readGroup_62 (by decide) ?_
              refine lv_goto (tgt := 77) hx hb d_M_readGroup_63 (by decide) ?_
              refine lv_istore (lv' := [(6, .int (-1)), (5, .int (nI (wl t n (sk t n p3)))), (4, .int 0), (0, .ref mo), (1, .int (nI pi)), (2, .int gr), (3, .int (nI st))]) hx hb d_M_readGroup_77 hl (by decide) rfl (fun ls hl => ?_)
              refine lv_iload hx hb d_M_readGroup_79 (lv_at hl 0 rfl) ?_
              refine lv_iload_n hx hb d_M_readGroup_81 rfl (lv_at hl 6 rfl) ?_
              refine lv_icmp_lt (tgt := 96) hx hb d_M_readGroup_82 (by decide) (fun c_82 => ?_) (fun c_82 => ?_)
              · -- 82: True
                refine lv_aload_n hx hb d_M_readGroup_96 rfl (lv_at hl 3 rfl) ?_
                refine lv_aload_n hx hb d_M_readGroup_97 rfl (lv_at hl 3 rfl) ?_
                refine z_get hx hb hts (z_lay i_M) hown hK hw f7_mo rfl 29 (by decide) (z_in k_800 rfl) (fun _ h9 => h9) rfl d_M_readGroup_98 ?_
                refine z_callV (n := 1) (As := [.int (nI (sk t n p3))]) (rest := []) ⟨hx, hb, hml, hown, hts⟩ (m_fail l g h7 f7_mo) (z_in k_914 rfl) (z_in k_7 rfl) (z_in k_911 rfl) (z_in k_913 rfl) (z_in ks_32 rfl) (by decide +kernel) ⟨by first | exact Nat.le_of_ble_eq_true rfl | (dsimp only; omega) | omega, by first | exact Nat.le_of_ble_eq_true rfl | (dsimp only; omega) | omega⟩ hK hE hw hA rfl f7_mo rfl hl.1 (Nat.le_of_ble_eq_true rfl) d_M_readGroup_101 ⟨by first | exact Nat.le_of_ble_eq_true rfl | (dsimp only; omega) | omega, by first | exact Nat.le_of_ble_eq_true rfl | (dsimp only; omega) | omega⟩ rfl (fun r9 h9 H locs hp hw => ?_)
                obtain ⟨r8, hh36⟩ := hp
                subst r8
                obtain ⟨h36, e8⟩ : ∃ x9, x9 = h9 := ⟨_, rfl⟩
                subst e8
                have f36_mo : h36 mo = some ((20, 0), .inr (11, mF ma cod tpd (nI n) (nI S.1) cls9 ffl fcl (nI R3.1) (nI (tbC R3.2 R3.1)) ous (nI (sk t n p3)) (nI (sk t n p3)))) := by rw [← hh36]; exact z_put_eq
                have f36_ma_1 : h36 (ma 1) = some ((22, 0), .inl (g.2.1 1, 4000, .inl f)) := by rw [← hh36]; exact z_keep f7_mo f7_ma_1 (z_t1 (by decide))
                have kk36 : z_K (fun y => y = 20 ∨ y = 29 ∨ y = 30 ∨ y = 31) h h36 := kk7.tr (by rw [← hh36]; exact z_K.put f7_mo (by first | decide | simp | omega))
                have sg_Nh36 : z_K (fun y => y = 20) hL h36 := sg_Nh7.tr (by rw [← hh36]; exact z_K.put f7_mo (by simp))
                refine W.eq (g2 := F0 m 104 ls []) rfl ?_
                exact z_vret hx hb hr hlocks hw (by have eR : resJ X = nI (sk t n p3) := (by rw [eXf]; rfl); refine ⟨rfl, kk36, sk t n p3, R3, ?_, by omega, by omega, hN3.k sg_Nh36 (by omega) (by omega) (by omega), fun z => absurd (eR.symm.trans z) (nI_ne1 (by omega))⟩; rw [eR]; exact f36_mo) (by decide) (by decide) d_M_readGroup_104
              · -- 82: False
                exact absurd (show (-1 : Int32) < nI st from (by rw [Int32.lt_iff_toInt_lt, nI_toInt (by omega)]; have : (-1 : Int32).toInt = -1 := rfl; omega)) c_82
          · -- 29: False
            have c_29 : fs = true := zb_t c_29
            refine lv_aload_n hx hb d_M_readGroup_32 rfl (lv_at hl 0 rfl) ?_
            refine z_callV (n := 0) (As := []) (rest := []) ⟨hx, hb, hml, hown, hts⟩ (m_look (t := t) l g h7 f7_mo f7_ma_1 hn hf (by omega)) (z_in k_889 rfl) (z_in k_7 rfl) (z_in k_886 rfl) (z_in k_888 rfl) (z_in ks_28 rfl) (by decide +kernel) ⟨by first | exact Nat.le_of_ble_eq_true rfl | (dsimp only; omega) | omega, by first | exact Nat.le_of_ble_eq_true rfl | (dsimp only; omega) | omega⟩ hK hE hw hA rfl f7_mo rfl hl.1 (Nat.le_of_ble_eq_true rfl) d_M_readGroup_33 ⟨by first | exact Nat.le_of_ble_eq_true rfl | (dsimp only; omega) | omega, by first | exact Nat.le_of_ble_eq_true rfl | (dsimp only; omega) | omega⟩ rfl (fun r9 h9 H locs hp hw => ?_)
            obtain ⟨r8, h8⟩ := hp
            subst r8
            subst h8
            refine W.eq (g2 := F0 m 36 ls [.int (bt t n (sk t n p3))]) rfl ?_
            refine lv_bipush (v := 125) hx hb d_M_readGroup_36 (by decide) ?_
            refine lv_icmp_ne (tgt := 48) hx hb d_M_readGroup_38 (by decide) (fun c_38 => ?_) (fun c_38 => ?_)
            · -- 38: True
              have eXL : X = memL (fun fi p R => fldR (VR fi) S t n fi p R) S t n gr (c5 + 1) st p3 R3 := by rw [eX3, if_neg (fun z => c_38 z.2), ec5]
              refine lv_iconst (v := 0) hx hb d_M_readGroup_48 (by decide) ?_
              refine lv_istore (lv' := [(4, .int 0), (0, .ref mo), (1, .int (nI pi)), (2, .int gr), (3, .int (nI st))]) hx hb d_M_readGroup_49 hl (by decide) rfl (fun ls hl => ?_)
              refine lv_aload_n hx hb d_M_readGroup_51 rfl (lv_at hl 1 rfl) ?_
              have wl9 := wl_le (t := t) (n := n) (p := sk t n p3) (by omega)
              refine z_callV (n := 0) (As := []) (rest := []) ⟨hx, hb, hml, hown, hts⟩ (m_word (t := t) l g h7 f7_mo f7_ma_1 hn hf (by omega)) (z_in k_902 rfl) (z_in k_7 rfl) (z_in k_899 rfl) (z_in k_901 rfl) (z_in ks_31 rfl) (by decide +kernel) ⟨by first | exact Nat.le_of_ble_eq_true rfl | (dsimp only; omega) | omega, by first | exact Nat.le_of_ble_eq_true rfl | (dsimp only; omega) | omega⟩ hK hE hw hA rfl f7_mo rfl hl.1 (Nat.le_of_ble_eq_true rfl) d_M_readGroup_52 ⟨by first | exact Nat.le_of_ble_eq_true rfl | (dsimp only; omega) | omega, by first | exact Nat.le_of_ble_eq_true rfl | (dsimp only; omega) | omega⟩ rfl (fun r9 h9 H locs hp hw => ?_)
              obtain ⟨r8, h8⟩ := hp
              subst r8
              subst h8
              refine W.eq (g2 := F0 m 55 ls [.int (nI (wl t n (sk t n p3)))]) rfl ?_
              refine lv_istore (lv' := [(5, .int (nI (wl t n (sk t n p3)))), (4, .int 0), (0, .ref mo), (1, .int (nI pi)), (2, .int gr), (3, .int (nI st))]) hx hb d_M_readGroup_55 hl (by decide) rfl (fun ls hl => ?_)
              refine lv_iload hx hb d_M_readGroup_57 (lv_at hl 0 rfl) ?_
              refine lv_if_ne (tgt := 66) hx hb d_M_readGroup_59 (by decide) (fun c_59 => ?_) (fun c_59 => ?_)
              · -- 59: True
                have c_59 : ¬ ((wl t n (sk t n p3)) = 0) := fun z => c_59 ((nI_eq (a := wl t n (sk t n p3)) (b := 0) (by omega) (by omega)).mpr z)
                have hlt9 : isLet (bt t n (sk t n p3)) = true := by apply Classical.byContradiction; intro z; have e9 : wl t n (sk t n p3) = 0 := (by unfold wl; rw [if_neg z]); omega
                have hwl : wl t n (sk t n p3) = we t n (sk t n p3) - (sk t n p3) := by unfold wl; rw [if_pos hlt9]
                obtain ⟨lw1, lw2, -⟩ := let_we (fun k hk => (hf k hk).1) hlt9
                refine lv_aload_n hx hb d_M_readGroup_66 rfl (lv_at hl 2 rfl) ?_
                refine lv_iload_n hx hb d_M_readGroup_67 rfl (lv_at hl 4 rfl) ?_
                refine lv_aload_n hx hb d_M_readGroup_68 rfl (lv_at hl 2 rfl) ?_
                refine z_get hx hb hts (z_lay i_M) hown hK hw f7_mo rfl 29 (by decide) (z_in k_800 rfl) (fun _ h9 => h9) rfl d_M_readGroup_69 ?_
                refine lv_iload hx hb d_M_readGroup_72 (lv_at hl 0 rfl) ?_
                refine z_callV (n := 3) (As := [.int gr, .int (nI (sk t n p3)), .int (nI (wl t n (sk t n p3)))]) (rest := []) ⟨hx, hb, hml, hown, hts⟩ (m_named (t := t) (n := n) (q := sk t n p3) (m9 := wl t n (sk t n p3)) l g h7 f7_mo f7_ma_1 hn hf (hSc.k kk7 (by omega) (by omega) (by omega)) hB (by omega)) (z_in k_963 rfl) (z_in k_7 rfl) (z_in k_960 rfl) (z_in k_962 rfl) (z_in ks_38 rfl) (by decide +kernel) ⟨by first | exact Nat.le_of_ble_eq_true rfl | (dsimp only; omega) | omega, by first | exact Nat.le_of_ble_eq_true rfl | (dsimp only; omega) | omega⟩ hK hE hw hA rfl f7_mo rfl hl.1 (Nat.le_of_ble_eq_true rfl) d_M_readGroup_74 ⟨by first | exact Nat.le_of_ble_eq_true rfl | (dsimp only; omega) | omega, by first | exact Nat.le_of_ble_eq_true rfl | (dsimp only; omega) | omega⟩ rfl (fun r9 h9 H locs hp hw => ?_)
                obtain ⟨r8, h8⟩ := hp
                subst r8
                subst h8
                refine W.eq (g2 := F0 m 77 ls [.int (lst S gr t (sk t n p3) (wl t n (sk t n p3)) S.1)]) rfl ?_
                rcases lst_is (S := S) (gr := gr) (t := t) (q := sk t n p3) (m := wl t n (sk t n p3)) S.1 with ⟨le9, ln9⟩ | ⟨f9, lf9, lm9, le9⟩
                · -- named False
                  refine z_topi (y := (-1)) le9 ?_
                  rw [hwl] at ln9
                  have eXf : X = .inl (sk t n p3, R3) := by rw [eXL]; exact memL_nam (namR_none (fun i a _ => ln9 i a))
                  refine lv_istore (lv' := [(6, .int (-1)), (5, .int (nI (wl t n (sk t n p3)))), (4, .int 0), (0, .ref mo), (1, .int (nI pi)), (2, .int gr), (3, .int (nI st))]) hx hb d_M_readGroup_77 hl (by decide) rfl (fun ls hl => ?_)
                  refine lv_iload hx hb d_M_readGroup_79 (lv_at hl 0 rfl) ?_
                  refine lv_iload_n hx hb d_M_readGroup_81 rfl (lv_at hl 6 rfl) ?_
                  refine lv_icmp_lt (tgt := 96) hx hb d_M_readGroup_82 (by decide) (fun c_82 => ?_) (fun c_82 => ?_)
                  · -- 82: True
                    refine lv_aload_n hx hb d_M_readGroup_96 rfl (lv_at hl 3 rfl) ?_
                    refine lv_aload_n hx hb d_M_readGroup_97 rfl (lv_at hl 3 rfl) ?_
                    refine z_get hx hb hts (z_lay i_M) hown hK hw f7_mo rfl 29 (by decide) (z_in k_800 rfl) (fun _ h9 => h9) rfl d_M_readGroup_98 ?_
                    refine z_callV (n := 1) (As := [.int (nI (sk t n p3))]) (rest := []) ⟨hx, hb, hml, hown, hts⟩ (m_fail l g h7 f7_mo) (z_in k_914 rfl) (z_in k_7 rfl) (z_in k_911 rfl) (z_in k_913 rfl) (z_in ks_32 rfl) (by decide +kernel) ⟨by first | exact Nat.le_of_ble_eq_true rfl | (dsimp only; omega) | omega, by first | exact Nat.le_of_ble_eq_true rfl | (dsimp only; omega) | omega⟩ hK hE hw hA rfl f7_mo rfl hl.1 (Nat.le_of_ble_eq_true rfl) d_M_readGroup_101 ⟨by first | exact Nat.le_of_ble_eq_true rfl | (dsimp only; omega) | omega, by first | exact Nat.le_of_ble_eq_true rfl | (dsimp only; omega) | omega⟩ rfl (fun r9 h9 H locs hp hw => ?_)
                    obtain ⟨r8, hh37⟩ := hp
                    subst r8
                    obtain ⟨h37, e8⟩ : ∃ x9, x9 = h9 := ⟨_, rfl⟩
                    subst e8
                    have f37_mo : h37 mo = some ((20, 0), .inr (11, mF ma cod tpd (nI n) (nI S.1) cls9 ffl fcl (nI R3.1) (nI (tbC R3.2 R3.1)) ous (nI (sk t n p3)) (nI (sk t n p3)))) := by rw [← hh37]; exact z_put_eq
                    have f37_ma_1 : h37 (ma 1) = some ((22, 0), .inl (g.2.1 1, 4000, .inl f)) := by rw [← hh37]; exact z_keep f7_mo f7_ma_1 (z_t1 (by decide))
                    have kk37 : z_K (fun y => y = 20 ∨ y = 29 ∨ y = 30 ∨ y = 31) h h37 := kk7.tr (by rw [← hh37]; exact z_K.put f7_mo (by first | decide | simp | omega))
                    have sg_Nh37 : z_K (fun y => y = 20) hL h37 := sg_Nh7.tr (by rw [← hh37]; exact z_K.put f7_mo (by simp))
                    refine W.eq (g2 := F0 m 104 ls []) rfl ?_
                    exact z_vret hx hb hr hlocks hw (by have eR : resJ X = nI (sk t n p3) := (by rw [eXf]; rfl); refine ⟨rfl, kk37, sk t n p3, R3, ?_, by omega, by omega, hN3.k sg_Nh37 (by omega) (by omega) (by omega), fun z => absurd (eR.symm.trans z) (nI_ne1 (by omega))⟩; rw [eR]; exact f37_mo) (by decide) (by decide) d_M_readGroup_104
                  · -- 82: False
                    exact absurd (show (-1 : Int32) < nI st from (by rw [Int32.lt_iff_toInt_lt, nI_toInt (by omega)]; have : (-1 : Int32).toInt = -1 := rfl; omega)) c_82
                · -- named True
                  refine z_topi (y := nI f9) le9 ?_
                  rw [hwl] at lm9
                  have hgf9 : fGr (S.2 f9) = gr := (mtc_yes.mp lm9).1
                  refine lv_istore (lv' := [(6, .int (nI f9)), (5, .int (nI (wl t n (sk t n p3)))), (4, .int 0), (0, .ref mo), (1, .int (nI pi)), (2, .int gr), (3, .int (nI st))]) hx hb d_M_readGroup_77 hl (by decide) rfl (fun ls hl => ?_)
                  refine lv_iload hx hb d_M_readGroup_79 (lv_at hl 0 rfl) ?_
                  refine lv_iload_n hx hb d_M_readGroup_81 rfl (lv_at hl 6 rfl) ?_
                  refine lv_icmp_lt (tgt := 96) hx hb d_M_readGroup_82 (by decide) (fun c_82 => ?_) (fun c_82 => ?_)
                  · -- 82: True
                    have c_82 : f9 < st := (nI_ltI (a := f9) (b := st) (by omega) (by omega)).mp c_82
                    have eXf : X = .inl (sk t n p3, R3) := by rw [eXL]; exact memL_nam (namR_none (fun i a b => by cases hm : mtc S gr t (sk t n p3) (we t n (sk t n p3) - (sk t n p3)) i with | false => rfl | true => (have := mtc_unq hu a lf9 hm lm9; omega)))
                    refine lv_aload_n hx hb d_M_readGroup_96 rfl (lv_at hl 3 rfl) ?_
                    refine lv_aload_n hx hb d_M_readGroup_97 rfl (lv_at hl 3 rfl) ?_
                    refine z_get hx hb hts (z_lay i_M) hown hK hw f7_mo rfl 29 (by decide) (z_in k_800 rfl) (fun _ h9 => h9) rfl d_M_readGroup_98 ?_
                    refine z_callV (n := 1) (As := [.int (nI (sk t n p3))]) (rest := []) ⟨hx, hb, hml, hown, hts⟩ (m_fail l g h7 f7_mo) (z_in k_914 rfl) (z_in k_7 rfl) (z_in k_911 rfl) (z_in k_913 rfl) (z_in ks_32 rfl) (by decide +kernel) ⟨by first | exact Nat.le_of_ble_eq_true rfl | (dsimp only; omega) | omega, by first | exact Nat.le_of_ble_eq_true rfl | (dsimp only; omega) | omega⟩ hK hE hw hA rfl f7_mo rfl hl.1 (Nat.le_of_ble_eq_true rfl) d_M_readGroup_101 ⟨by first | exact Nat.le_of_ble_eq_true rfl | (dsimp only; omega) | omega, by first | exact Nat.le_of_ble_eq_true rfl | (dsimp only; omega) | omega⟩ rfl (fun r9 h9 H locs hp hw => ?_)
                    obtain ⟨r8, hh38⟩ := hp
                    subst r8
                    obtain ⟨h38, e8⟩ : ∃ x9, x9 = h9 := ⟨_, rfl⟩
                    subst e8
                    have f38_mo : h38 mo = some ((20, 0), .inr (11, mF ma cod tpd (nI n) (nI S.1) cls9 ffl fcl (nI R3.1) (nI (tbC R3.2 R3.1)) ous (nI (sk t n p3)) (nI (sk t n p3)))) := by rw [← hh38]; exact z_put_eq
                    have f38_ma_1 : h38 (ma 1) = some ((22, 0), .inl (g.2.1 1, 4000, .inl f)) := by rw [← hh38]; exact z_keep f7_mo f7_ma_1 (z_t1 (by decide))
                    have kk38 : z_K (fun y => y = 20 ∨ y = 29 ∨ y = 30 ∨ y = 31) h h38 := kk7.tr (by rw [← hh38]; exact z_K.put f7_mo (by first | decide | simp | omega))
                    have sg_Nh38 : z_K (fun y => y = 20) hL h38 := sg_Nh7.tr (by rw [← hh38]; exact z_K.put f7_mo (by simp))
                    refine W.eq (g2 := F0 m 104 ls []) rfl ?_
                    exact z_vret hx hb hr hlocks hw (by have eR : resJ X = nI (sk t n p3) := (by rw [eXf]; rfl); refine ⟨rfl, kk38, sk t n p3, R3, ?_, by omega, by omega, hN3.k sg_Nh38 (by omega) (by omega) (by omega), fun z => absurd (eR.symm.trans z) (nI_ne1 (by omega))⟩; rw [eR]; exact f38_mo) (by decide) (by decide) d_M_readGroup_104
                  · -- 82: False
                    have c_82 : ¬ (f9 < st) := fun z => c_82 ((nI_ltI (a := f9) (b := st) (by omega) (by omega)).mpr z)
                    refine lv_aload_n hx hb d_M_readGroup_85 rfl (lv_at hl 3 rfl) ?_
                    refine lv_iload_n hx hb d_M_readGroup_86 rfl (lv_at hl 5 rfl) ?_
                    refine lv_iload_n hx hb d_M_readGroup_87 rfl (lv_at hl 6 rfl) ?_
                    refine lv_iload hx hb d_M_readGroup_88 (lv_at hl 0 rfl) ?_
                    refine z_callV (n := 3) (As := [.int gr, .int (nI st), .int (nI f9)]) (rest := []) ⟨hx, hb, hml, hown, hts⟩ (m_misses (a9 := st) (b9 := f9) l g h7 f7_mo (hSc.k kk7 (by omega) (by omega) (by omega)) hB (by omega) (by omega)) (z_in k_979 rfl) (z_in k_7 rfl) (z_in k_976 rfl) (z_in k_978 rfl) (z_in ks_41 rfl) (by decide +kernel) ⟨by first | exact Nat.le_of_ble_eq_true rfl | (dsimp only; omega) | omega, by first | exact Nat.le_of_ble_eq_true rfl | (dsimp only; omega) | omega⟩ hK hE hw hA rfl f7_mo rfl hl.1 (Nat.le_of_ble_eq_true rfl) d_M_readGroup_90 ⟨by first | exact Nat.le_of_ble_eq_true rfl | (dsimp only; omega) | omega, by first | exact Nat.le_of_ble_eq_true rfl | (dsimp only; omega) | omega⟩ rfl (fun r9 h9 H locs hp hw => ?_)
                    obtain ⟨r8, h8⟩ := hp
                    subst r8
                    subst h8
                    refine W.eq (g2 := F0 m 93 ls [.int (zb (hrqR S gr (f9 - st) st))]) rfl ?_
                    refine lv_if_eq (tgt := 105) hx hb d_M_readGroup_93 (by decide) (fun c_93 => ?_) (fun c_93 => ?_)
                    · -- 93: True
                      have c_93 : (hrqR S gr (f9 - st) st) = false := zb_f c_93
                      have enm : namR S t n gr st p3 = .inr (f9, we t n (sk t n p3)) := by rw [namR_find hu hs8 hlt9 lf9 (by omega) lm9, if_neg (by rw [c_93]; decide)]
                      refine lv_aload_n hx hb d_M_readGroup_105 rfl (lv_at hl 3 rfl) ?_
                      refine lv_dup hx hb d_M_readGroup_106 rfl ?_
                      refine z_get hx hb hts (z_lay i_M) hown hK hw f7_mo rfl 29 (by decide) (z_in k_800 rfl) (fun _ h9 => h9) rfl d_M_readGroup_107 ?_
                      refine lv_iload hx hb d_M_readGroup_110 (lv_at hl 1 rfl) ?_
                      refine lv_iadd hx hb d_M_readGroup_112 ?_
                      refine z_topi (y := nI ((sk t n p3) + (wl t n (sk t n p3)))) (nI_add (sk t n p3) (wl t n (sk t n p3))) ?_
                      refine z_putf (ty := .int) hx hb hts (z_lay i_M) t_M t_M_ok n_M hown hK hw f7_mo rfl 29 (by decide) (z_in k_800 rfl) (fun _ h9 => h9) rfl (by decide +kernel) rfl rfl (Nat.le_of_ble_eq_true rfl) d_M_readGroup_113 (fun H locs hw => ?_)
                      obtain ⟨h39, hh39⟩ : ∃ x9, z_put h7 mo (20, 0) (.inr (11, mF ma cod tpd (nI n) (nI S.1) cls9 ffl fcl (nI R3.1) (nI (tbC R3.2 R3.1)) ous (nI ((sk t n p3) + (wl t n (sk t n p3)))) (-1))) = x9 := ⟨_, rfl⟩
                      have hw : z_S g A s.heap h39 H locs := by rw [← hh39]; exact hw
                      have f39_mo : h39 mo = some ((20, 0), .inr (11, mF ma cod tpd (nI n) (nI S.1) cls9 ffl fcl (nI R3.1) (nI (tbC R3.2 R3.1)) ous (nI ((sk t n p3) + (wl t n (sk t n p3)))) (-1))) := by rw [← hh39]; exact z_put_eq
                      have f39_ma_1 : h39 (ma 1) = some ((22, 0), .inl (g.2.1 1, 4000, .inl f)) := by rw [← hh39]; exact z_keep f7_mo f7_ma_1 (z_t1 (by decide))
                      have kk39 : z_K (fun y => y = 20 ∨ y = 29 ∨ y = 30 ∨ y = 31) h h39 := kk7.tr (by rw [← hh39]; exact z_K.put f7_mo (by first | decide | simp | omega))
                      have sg_Nh39 : z_K (fun y => y = 20) hL h39 := sg_Nh7.tr (by rw [← hh39]; exact z_K.put f7_mo (by simp))
                      refine lv_iload hx hb d_M_readGroup_116 (lv_at hl 0 rfl) ?_
                      refine lv_iconst (v := 1) hx hb d_M_readGroup_118 (by decide) ?_
                      refine lv_iadd hx hb d_M_readGroup_119 ?_
                      refine z_topi (y := nI (f9 + 1)) (nI_add f9 1) ?_
                      refine lv_istore_n (lv' := [(3, .int (nI (f9 + 1))), (6, .int (nI f9)), (5, .int (nI (wl t n (sk t n p3)))), (4, .int 0), (0, .ref mo), (1, .int (nI pi)), (2, .int gr)]) hx hb d_M_readGroup_120 rfl hl (by decide) rfl (fun ls hl => ?_)
                      have hE9 : sk t n p3 + wl t n (sk t n p3) = we t n (sk t n p3) := by omega
                      have fe40 : h39 mo = some ((20, 0), .inr (11, mF ma cod tpd (nI n) (nI S.1) cls9 ffl fcl (nI R3.1) (nI (tbC R3.2 R3.1)) ous (nI (we t n (sk t n p3))) (-1))) := by rw [← hE9]; exact f39_mo
                      refine lv_aload_n hx hb d_M_readGroup_121 rfl (lv_at hl 4 rfl) ?_
                      refine lv_bipush (v := 58) hx hb d_M_readGroup_122 (by decide) ?_
                      refine z_callV (n := 1) (As := [.int 58]) (rest := []) ⟨hx, hb, hml, hown, hts⟩ (m_wantSign (t := t) l g h39 fe40 f39_ma_1 hn hf (by omega)) (z_in k_923 rfl) (z_in k_7 rfl) (z_in k_920 rfl) (z_in k_922 rfl) (z_in ks_33 rfl) (by decide +kernel) ⟨by first | exact Nat.le_of_ble_eq_true rfl | (dsimp only; omega) | omega, by first | exact Nat.le_of_ble_eq_true rfl | (dsimp only; omega) | omega⟩ hK hE hw hA rfl fe40 rfl hl.1 (Nat.le_of_ble_eq_true rfl) d_M_readGroup_124 ⟨by first | exact Nat.le_of_ble_eq_true rfl | (dsimp only; omega) | omega, by first | exact Nat.le_of_ble_eq_true rfl | (dsimp only; omega) | omega⟩ rfl (fun r9 h9 H locs hp hw => ?_)
                      have sa41 := sk_le (t := t) (n := n) (p := we t n (sk t n p3)) (by omega)
                      have sb41 := sk_ge t n (we t n (sk t n p3))
                      by_cases ws124 : bt t n (sk t n (we t n (sk t n p3))) = 58
                      · -- wanted True
                        have sc41 := bt_lt (c := 58) ws124
                        obtain ⟨r8, hp⟩ := hp
                        unfold wsP wsI at hp
                        rw [if_pos ⟨rfl, ws124⟩, if_pos rfl, if_pos ws124] at hp
                        have hp := And.intro r8 hp
                        obtain ⟨r8, hh42⟩ := hp
                        subst r8
                        obtain ⟨h42, e8⟩ : ∃ x9, x9 = h9 := ⟨_, rfl⟩
                        subst e8
                        have f42_mo : h42 mo = some ((20, 0), .inr (11, mF ma cod tpd (nI n) (nI S.1) cls9 ffl fcl (nI R3.1) (nI (tbC R3.2 R3.1)) ous (nI (sk t n (we t n (sk t n p3)) + 1)) (-1))) := by rw [← hh42]; exact z_put_eq
                        have f42_ma_1 : h42 (ma 1) = some ((22, 0), .inl (g.2.1 1, 4000, .inl f)) := by rw [← hh42]; exact z_keep fe40 f39_ma_1 (z_t1 (by decide))
                        have kk42 : z_K (fun y => y = 20 ∨ y = 29 ∨ y = 30 ∨ y = 31) h h42 := kk39.tr (by rw [← hh42]; exact z_K.put fe40 (by first | decide | simp | omega))
                        have sg_Nh42 : z_K (fun y => y = 20) hL h42 := sg_Nh39.tr (by rw [← hh42]; exact z_K.put fe40 (by simp))
                        refine W.eq (g2 := F0 m 127 ls []) rfl ?_
                        refine lv_aload_n hx hb d_M_readGroup_127 rfl (lv_at hl 4 rfl) ?_
                        refine z_get hx hb hts (z_lay i_M) hown hK hw f42_mo rfl 30 (by decide) (z_in k_801 rfl) (fun _ h9 => h9) rfl d_M_readGroup_128 ?_
                        refine lv_iconst (v := (-1)) hx hb d_M_readGroup_131 (by decide) ?_
                        refine lv_icmp_eq (tgt := 136) hx hb d_M_readGroup_132 (by decide) (fun c_132 => ?_) (fun c_132 => ?_)
                        · -- 132: True
                          have hS9 := hSc.k kk42 (by omega) (by omega) (by omega)
                          have hrw_0 : h42 (rw9 0) = some ((24, 0), .inl (g.2.1 1, 128, .inl (rf 0))) := hS9.2.1 0 (by omega)
                          refine lv_aload_n hx hb d_M_readGroup_136 rfl (lv_at hl 4 rfl) ?_
                          refine z_get hx hb hts (z_lay i_M) hown hK hw f42_mo rfl 5 (by decide) (z_in k_776 rfl) (fun _ h9 => h9) rfl d_M_readGroup_137 ?_
                          refine lv_iconst (v := 0) hx hb d_M_readGroup_140 (by decide) ?_
                          refine z_aldr hx hb hK hw hS9.1 5 rfl (by unfold vp_in; decide) d_M_readGroup_141 ?_
                          refine z_top (y := va_rf ((fun k => some (rw9 k)) 0)) (by rfl) ?_
                          refine z_top (y := .ref (rw9 0)) (rfl) ?_
                          refine lv_iload hx hb d_M_readGroup_142 (lv_at hl 1 rfl) ?_
                          refine z_iald hx hb hK hw hrw_0 1 rfl (vp_in_nI (by omega) (by omega)) d_M_readGroup_144 ?_
                          refine z_topi (y := (rf 0) f9) (by rw [nI_clamp (by omega)]) ?_
                          refine z_top (y := .int (fKi (S.2 f9))) (by rw [(hSc.2.2.2 f9 lf9).1]) ?_
                          refine lv_iconst (v := 2) hx hb d_M_readGroup_145 (by decide) ?_
                          refine lv_icmp_ne (tgt := 159) hx hb d_M_readGroup_146 (by decide) (fun c_146 => ?_) (fun c_146 => ?_)
                          · -- 146: True
                            refine lv_aload_n hx hb d_M_readGroup_159 rfl (lv_at hl 4 rfl) ?_
                            refine lv_iload_n hx hb d_M_readGroup_160 rfl (lv_at hl 5 rfl) ?_
                            refine lv_iload hx hb d_M_readGroup_161 (lv_at hl 1 rfl) ?_
                            have eV9 : fldR (VR f9) S t n f9 (sk t n (we t n (sk t n p3)) + 1) R3 = VR f9 (sk t n (we t n (sk t n p3)) + 1) R3 := by unfold fldR; rw [if_neg (show ¬ fKi (S.2 f9) = 2 from c_146)]
                            have hV9 := hV f9 lf9 hgf9 h42 (sk t n (we t n (sk t n p3)) + 1) R3 f42_mo f42_ma_1 (hSc.k kk42 (by omega) (by omega) (by omega)) (hN3.k sg_Nh42 (by omega) (by omega) (by omega)) hc4.2 (by omega) (by omega) (by omega)
                            rw [← eV9] at hV9
                            refine z_callV (n := 2) (As := [.int (nI pi), .int (nI f9)]) (rest := []) ⟨hx, hb, hml, hown, hts⟩ hV9 (z_in k_987 rfl) (z_in k_7 rfl) (z_in k_984 rfl) (z_in k_986 rfl) (z_in ks_43 rfl) (by decide +kernel) ⟨by first | exact Nat.le_of_ble_eq_true rfl | (dsimp only; omega) | omega, by first | exact Nat.le_of_ble_eq_true rfl | (dsimp only; omega) | omega⟩ hK hE hw hA rfl f42_mo rfl hl.1 (Nat.le_of_ble_eq_true rfl) d_M_readGroup_163 ⟨by first | exact Nat.le_of_ble_eq_true rfl | (dsimp only; omega) | omega, by first | exact Nat.le_of_ble_eq_true rfl | (dsimp only; omega) | omega⟩ rfl (fun r9 h9 H locs hp hw => ?_)
                            obtain ⟨r8, kk8, p4, R4, m4, le4, ge4, n4, im4⟩ := hp
                            subst r8
                            obtain ⟨h43, e7⟩ : ∃ x9, x9 = h9 := ⟨_, rfl⟩
                            subst e7
                            have g43_ma_1 : h43 (ma 1) = some ((22, 0), .inl (g.2.1 1, 4000, .inl f)) := kk8 _ _ _ f42_ma_1 (by simp)
                            have kk43 : z_K (fun y => y = 20 ∨ y = 29 ∨ y = 30 ∨ y = 31) h h43 := kk42.tr kk8
                            have sg_Nh43 : z_K (fun y => y = 20) h43 h43 := z_K.rf
                            refine W.eq (g2 := F0 m 166 ls []) rfl ?_
                            refine lv_aload_n hx hb d_M_readGroup_166 rfl (lv_at hl 4 rfl) ?_
                            refine z_callV (n := 0) (As := []) (rest := []) ⟨hx, hb, hml, hown, hts⟩ (m_blanks (t := t) l g h43 m4 g43_ma_1 hn hf (by omega)) (z_in k_885 rfl) (z_in k_7 rfl) (z_in k_882 rfl) (z_in k_884 rfl) (z_in ks_27 rfl) (by decide +kernel) ⟨by first | exact Nat.le_of_ble_eq_true rfl | (dsimp only; omega) | omega, by first | exact Nat.le_of_ble_eq_true rfl | (dsimp only; omega) | omega⟩ hK hE hw hA rfl m4 rfl hl.1 (Nat.le_of_ble_eq_true rfl) d_M_readGroup_167 ⟨by first | exact Nat.le_of_ble_eq_true rfl | (dsimp only; omega) | omega, by first | exact Nat.le_of_ble_eq_true rfl | (dsimp only; omega) | omega⟩ rfl (fun r9 h9 H locs hp hw => ?_)
                            have sq44 := sk_le (t := t) (n := n) (p := p4) (by omega)
                            have sr44 := sk_ge t n p4
                            obtain ⟨r8, hh45⟩ := hp
                            subst r8
                            obtain ⟨h45, e8⟩ : ∃ x9, x9 = h9 := ⟨_, rfl⟩
                            subst e8
                            have f45_mo : h45 mo = some ((20, 0), .inr (11, mF ma cod tpd (nI n) (nI S.1) cls9 ffl fcl (nI R4.1) (nI (tbC R4.2 R4.1)) ous (nI (sk t n p4)) (resJ (fldR (VR f9) S t n f9 (sk t n (we t n (sk t n p3)) + 1) R3)))) := by rw [← hh45]; exact z_put_eq
                            have f45_ma_1 : h45 (ma 1) = some ((22, 0), .inl (g.2.1 1, 4000, .inl f)) := by rw [← hh45]; exact z_keep m4 g43_ma_1 (z_t1 (by decide))
                            have kk45 : z_K (fun y => y = 20 ∨ y = 29 ∨ y = 30 ∨ y = 31) h h45 := kk43.tr (by rw [← hh45]; exact z_K.put m4 (by first | decide | simp | omega))
                            have sg_Nh45 : z_K (fun y => y = 20) h43 h45 := sg_Nh43.tr (by rw [← hh45]; exact z_K.put m4 (by simp))
                            refine W.eq (g2 := F0 m 170 ls []) rfl ?_
                            by_cases e30 : resJ (fldR (VR f9) S t n f9 (sk t n (we t n (sk t n p3)) + 1) R3) = -1
                            · -- read True
                              obtain ⟨eF4, b4, t4, z4⟩ := im4 e30
                              have fi46 : h45 mo = some ((20, 0), .inr (11, mF ma cod tpd (nI n) (nI S.1) cls9 ffl fcl (nI R4.1) (nI (tbC R4.2 R4.1)) ous (nI (sk t n p4)) (-1))) := by have z9 := f45_mo; rw [e30] at z9; exact z9
                              have eX8 : X = if bt t n (sk t n p4) = 44 then memL (fun fi p R => fldR (VR fi) S t n fi p R) S t n gr c5 (f9 + 1) (sk t n p4 + 1) R4 else memE S t n gr (f9 + 1) (sk t n p4) R4 := by rw [eXL]; exact memL_ok (F := (fun fi p R => fldR (VR fi) S t n fi p R)) enm ws124 eF4
                              refine lv_aload_n hx hb d_M_readGroup_170 rfl (lv_at hl 4 rfl) ?_
                              refine z_get hx hb hts (z_lay i_M) hown hK hw fi46 rfl 30 (by decide) (z_in k_801 rfl) (fun _ h9 => h9) rfl d_M_readGroup_171 ?_
                              refine lv_iconst (v := (-1)) hx hb d_M_readGroup_174 (by decide) ?_
                              refine lv_icmp_ne (tgt := 194) hx hb d_M_readGroup_175 (by decide) (fun c_175 => ?_) (fun c_175 => ?_)
                              · -- 175: True
                                exact absurd rfl c_175
                              · -- 175: False
                                refine lv_aload_n hx hb d_M_readGroup_178 rfl (lv_at hl 4 rfl) ?_
                                refine z_callV (n := 0) (As := []) (rest := []) ⟨hx, hb, hml, hown, hts⟩ (m_look (t := t) l g h45 fi46 f45_ma_1 hn hf (by omega)) (z_in k_889 rfl) (z_in k_7 rfl) (z_in k_886 rfl) (z_in k_888 rfl) (z_in ks_28 rfl) (by decide +kernel) ⟨by first | exact Nat.le_of_ble_eq_true rfl | (dsimp only; omega) | omega, by first | exact Nat.le_of_ble_eq_true rfl | (dsimp only; omega) | omega⟩ hK hE hw hA rfl fi46 rfl hl.1 (Nat.le_of_ble_eq_true rfl) d_M_readGroup_179 ⟨by first | exact Nat.le_of_ble_eq_true rfl | (dsimp only; omega) | omega, by first | exact Nat.le_of_ble_eq_true rfl | (dsimp only; omega) | omega⟩ rfl (fun r9 h9 H locs hp hw => ?_)
                                obtain ⟨r8, h8⟩ := hp
                                subst r8
                                subst h8
                                refine W.eq (g2 := F0 m 182 ls [.int (bt t n (sk t n p4))]) rfl ?_
                                refine lv_bipush (v := 125) hx hb d_M_readGroup_182 (by decide) ?_
                                refine lv_icmp_ne (tgt := 194) hx hb d_M_readGroup_184 (by decide) (fun c_184 => ?_) (fun c_184 => ?_)
                                · -- 184: True
                                  refine lv_aload_n hx hb d_M_readGroup_194 rfl (lv_at hl 4 rfl) ?_
                                  refine lv_bipush (v := 44) hx hb d_M_readGroup_195 (by decide) ?_
                                  refine z_callV (n := 1) (As := [.int 44]) (rest := []) ⟨hx, hb, hml, hown, hts⟩ (m_wantSign (t := t) l g h45 fi46 f45_ma_1 hn hf (by omega)) (z_in k_923 rfl) (z_in k_7 rfl) (z_in k_920 rfl) (z_in k_922 rfl) (z_in ks_33 rfl) (by decide +kernel) ⟨by first | exact Nat.le_of_ble_eq_true rfl | (dsimp only; omega) | omega, by first | exact Nat.le_of_ble_eq_true rfl | (dsimp only; omega) | omega⟩ hK hE hw hA rfl fi46 rfl hl.1 (Nat.le_of_ble_eq_true rfl) d_M_readGroup_197 ⟨by first | exact Nat.le_of_ble_eq_true rfl | (dsimp only; omega) | omega, by first | exact Nat.le_of_ble_eq_true rfl | (dsimp only; omega) | omega⟩ rfl (fun r9 h9 H locs hp hw => ?_)
                                  have sa47 := sk_le (t := t) (n := n) (p := sk t n p4) (by omega)
                                  have sb47 := sk_ge t n (sk t n p4)
                                  by_cases ws197 : bt t n (sk t n (sk t n p4)) = 44
                                  · -- wanted True
                                    have sc47 := bt_lt (c := 44) ws197
                                    obtain ⟨r8, hp⟩ := hp
                                    unfold wsP wsI at hp
                                    rw [if_pos ⟨rfl, ws197⟩, if_pos rfl, if_pos ws197] at hp
                                    have hp := And.intro r8 hp
                                    obtain ⟨r8, hh48⟩ := hp
                                    subst r8
                                    obtain ⟨h48, e8⟩ : ∃ x9, x9 = h9 := ⟨_, rfl⟩
                                    subst e8
                                    have f48_mo : h48 mo = some ((20, 0), .inr (11, mF ma cod tpd (nI n) (nI S.1) cls9 ffl fcl (nI R4.1) (nI (tbC R4.2 R4.1)) ous (nI (sk t n (sk t n p4) + 1)) (-1))) := by rw [← hh48]; exact z_put_eq
                                    have f48_ma_1 : h48 (ma 1) = some ((22, 0), .inl (g.2.1 1, 4000, .inl f)) := by rw [← hh48]; exact z_keep fi46 f45_ma_1 (z_t1 (by decide))
                                    have kk48 : z_K (fun y => y = 20 ∨ y = 29 ∨ y = 30 ∨ y = 31) h h48 := kk45.tr (by rw [← hh48]; exact z_K.put fi46 (by first | decide | simp | omega))
                                    have sg_Nh48 : z_K (fun y => y = 20) h43 h48 := sg_Nh45.tr (by rw [← hh48]; exact z_K.put fi46 (by simp))
                                    refine W.eq (g2 := F0 m 200 ls []) rfl ?_
                                    refine lv_goto (tgt := 15) hx hb d_M_readGroup_200 (by decide) ?_
                                    refine ih_15 c5 (f9 + 1) false (sk t n (sk t n p4) + 1) (-1) R4 h48 _ _ _ f48_mo f48_ma_1 (⟨by omega, by omega, by omega⟩) kk48 (n4.k sg_Nh48 (by omega) (by omega) (by omega)) (Or.inl ⟨by omega, z4⟩) (Or.inr ⟨rfl, by rw [eX8, if_pos (by rw [← sk_sk]; exact ws197), if_neg (fun z => by cases z.1), sk_sk], by rw [sk_sk] at *; omega, by rw [sk_sk] at *; omega⟩) ?_ hw (lv_sub hl [4, 5, 6, 0, 3] rfl)
                                    omega
                                  · -- wanted False
                                    have il47 : ¬ nI (sk t n (sk t n p4)) = (-1 : Int32) := nI_ne1 (by omega)
                                    obtain ⟨r8, hp⟩ := hp
                                    unfold wsP wsI at hp
                                    rw [if_neg (fun z => ws197 z.2), if_pos rfl, if_neg ws197] at hp
                                    have hp := And.intro r8 hp
                                    obtain ⟨r8, hh49⟩ := hp
                                    subst r8
                                    obtain ⟨h49, e8⟩ : ∃ x9, x9 = h9 := ⟨_, rfl⟩
                                    subst e8
                                    have f49_mo : h49 mo = some ((20, 0), .inr (11, mF ma cod tpd (nI n) (nI S.1) cls9 ffl fcl (nI R4.1) (nI (tbC R4.2 R4.1)) ous (nI (sk t n (sk t n p4))) (nI (sk t n (sk t n p4))))) := by rw [← hh49]; exact z_put_eq
                                    have f49_ma_1 : h49 (ma 1) = some ((22, 0), .inl (g.2.1 1, 4000, .inl f)) := by rw [← hh49]; exact z_keep fi46 f45_ma_1 (z_t1 (by decide))
                                    have kk49 : z_K (fun y => y = 20 ∨ y = 29 ∨ y = 30 ∨ y = 31) h h49 := kk45.tr (by rw [← hh49]; exact z_K.put fi46 (by first | decide | simp | omega))
                                    have sg_Nh49 : z_K (fun y => y = 20) h43 h49 := sg_Nh45.tr (by rw [← hh49]; exact z_K.put fi46 (by simp))
                                    refine W.eq (g2 := F0 m 200 ls []) rfl ?_
                                    refine lv_goto (tgt := 15) hx hb d_M_readGroup_200 (by decide) ?_
                                    refine ih_15 c5 (f9 + 1) false (sk t n (sk t n p4)) (nI (sk t n (sk t n p4))) R4 h49 _ _ _ f49_mo f49_ma_1 (⟨by omega, by omega, by omega⟩) kk49 (n4.k sg_Nh49 (by omega) (by omega) (by omega)) (Or.inr il47) (Or.inl ⟨il47, by rw [eX8, if_neg (by rw [← sk_sk]; exact ws197), memE_no (by rw [sk_sk]; exact c_184)]; rfl⟩) ?_ hw (lv_sub hl [4, 5, 6, 0, 3] rfl)
                                    omega
                                · -- 184: False
                                  have l187 := bt_lt (c := 125) (show bt t n (sk t n p4) = 125 by simpa using c_184)
                                  refine lv_aload_n hx hb d_M_readGroup_187 rfl (lv_at hl 4 rfl) ?_
                                  refine lv_iload_n hx hb d_M_readGroup_188 rfl (lv_at hl 6 rfl) ?_
                                  refine lv_iload_n hx hb d_M_readGroup_189 rfl (lv_at hl 0 rfl) ?_
                                  refine z_callV (n := 2) (As := [.int gr, .int (nI (f9 + 1))]) (rest := []) ⟨hx, hb, hml, hown, hts⟩ (m_end (a9 := f9 + 1) l g h45 fi46 (hSc.k kk45 (by omega) (by omega) (by omega)) hB (by omega)) (z_in k_975 rfl) (z_in k_7 rfl) (z_in k_972 rfl) (z_in k_974 rfl) (z_in ks_40 rfl) (by decide +kernel) ⟨by first | exact Nat.le_of_ble_eq_true rfl | (dsimp only; omega) | omega, by first | exact Nat.le_of_ble_eq_true rfl | (dsimp only; omega) | omega⟩ hK hE hw hA rfl fi46 rfl hl.1 (Nat.le_of_ble_eq_true rfl) d_M_readGroup_190 ⟨by first | exact Nat.le_of_ble_eq_true rfl | (dsimp only; omega) | omega, by first | exact Nat.le_of_ble_eq_true rfl | (dsimp only; omega) | omega⟩ rfl (fun r9 h9 H locs hp hw => ?_)
                                  obtain ⟨r8, hh50⟩ := hp
                                  subst r8
                                  obtain ⟨h50, e8⟩ : ∃ x9, x9 = h9 := ⟨_, rfl⟩
                                  subst e8
                                  have f50_mo : h50 mo = some ((20, 0), .inr (11, mF ma cod tpd (nI n) (nI S.1) cls9 ffl fcl (nI R4.1) (nI (tbC R4.2 R4.1)) ous (nI (sk t n p4 + 1)) (if hrq S gr (f9 + 1) = true then nI (sk t n p4) else -1))) := by rw [← hh50]; exact z_put_eq
                                  have f50_ma_1 : h50 (ma 1) = some ((22, 0), .inl (g.2.1 1, 4000, .inl f)) := by rw [← hh50]; exact z_keep fi46 f45_ma_1 (z_t1 (by decide))
                                  have kk50 : z_K (fun y => y = 20 ∨ y = 29 ∨ y = 30 ∨ y = 31) h h50 := kk45.tr (by rw [← hh50]; exact z_K.put fi46 (by first | decide | simp | omega))
                                  have sg_Nh50 : z_K (fun y => y = 20) h43 h50 := sg_Nh45.tr (by rw [← hh50]; exact z_K.put fi46 (by simp))
                                  refine W.eq (g2 := F0 m 193 ls []) rfl ?_
                                  exact z_vret hx hb hr hlocks hw (by have eX9 : X = if hrq S gr (f9 + 1) = true then .inl (sk t n p4, R4) else .inr (sk t n p4 + 1, R4) := (by have z9 : bt t n (sk t n p4) = 125 := (by simpa using c_184); rw [eX8, if_neg (by rw [z9]; decide), memE_ok (by rw [sk_sk]; exact z9), sk_sk]); have eR : resJ X = if hrq S gr (f9 + 1) = true then nI (sk t n p4) else -1 := (by rw [eX9]; split <;> rfl); refine ⟨rfl, kk50, sk t n p4 + 1, R4, ?_, by omega, by omega, n4.k sg_Nh50 (by omega) (by omega) (by omega), fun z => by rw [eR] at z; by_cases z2 : hrq S gr (f9 + 1) = true; (· rw [if_pos z2] at z; exact absurd z (nI_ne1 (by omega))); (· exact ⟨by rw [eX9, if_neg z2], by omega, by omega, z4⟩)⟩; rw [eR]; exact f50_mo) (by decide) (by decide) d_M_readGroup_193
                            · -- read False
                              have eX7 : resJ X = resJ (fldR (VR f9) S t n f9 (sk t n (we t n (sk t n p3)) + 1) R3) := by obtain ⟨F9, eF9⟩ := resJ_inl e30; rw [eXL, memL_no (F := (fun fi p R => fldR (VR fi) S t n fi p R)) enm ws124 eF9, eF9]
                              refine lv_aload_n hx hb d_M_readGroup_170 rfl (lv_at hl 4 rfl) ?_
                              refine z_get hx hb hts (z_lay i_M) hown hK hw f45_mo rfl 30 (by decide) (z_in k_801 rfl) (fun _ h9 => h9) rfl d_M_readGroup_171 ?_
                              refine lv_iconst (v := (-1)) hx hb d_M_readGroup_174 (by decide) ?_
                              refine lv_icmp_ne (tgt := 194) hx hb d_M_readGroup_175 (by decide) (fun c_175 => ?_) (fun c_175 => ?_)
                              · -- 175: True
                                refine lv_aload_n hx hb d_M_readGroup_194 rfl (lv_at hl 4 rfl) ?_
                                refine lv_bipush (v := 44) hx hb d_M_readGroup_195 (by decide) ?_
                                refine z_callV (n := 1) (As := [.int 44]) (rest := []) ⟨hx, hb, hml, hown, hts⟩ (m_wantSign (t := t) l g h45 f45_mo f45_ma_1 hn hf (by omega)) (z_in k_923 rfl) (z_in k_7 rfl) (z_in k_920 rfl) (z_in k_922 rfl) (z_in ks_33 rfl) (by decide +kernel) ⟨by first | exact Nat.le_of_ble_eq_true rfl | (dsimp only; omega) | omega, by first | exact Nat.le_of_ble_eq_true rfl | (dsimp only; omega) | omega⟩ hK hE hw hA rfl f45_mo rfl hl.1 (Nat.le_of_ble_eq_true rfl) d_M_readGroup_197 ⟨by first | exact Nat.le_of_ble_eq_true rfl | (dsimp only; omega) | omega, by first | exact Nat.le_of_ble_eq_true rfl | (dsimp only; omega) | omega⟩ rfl (fun r9 h9 H locs hp hw => ?_)
                                have sa51 := sk_le (t := t) (n := n) (p := sk t n p4) (by omega)
                                have sb51 := sk_ge t n (sk t n p4)
                                obtain ⟨r8, hp⟩ := hp
                                unfold wsP wsI at hp
                                rw [if_neg (fun z => e30 z.1), if_neg e30] at hp
                                have hp := And.intro r8 hp
                                obtain ⟨r8, hh52⟩ := hp
                                subst r8
                                obtain ⟨h52, e8⟩ : ∃ x9, x9 = h9 := ⟨_, rfl⟩
                                subst e8
                                have f52_mo : h52 mo = some ((20, 0), .inr (11, mF ma cod tpd (nI n) (nI S.1) cls9 ffl fcl (nI R4.1) (nI (tbC R4.2 R4.1)) ous (nI (sk t n (sk t n p4))) (resJ (fldR (VR f9) S t n f9 (sk t n (we t n (sk t n p3)) + 1) R3)))) := by rw [← hh52]; exact z_put_eq
                                have f52_ma_1 : h52 (ma 1) = some ((22, 0), .inl (g.2.1 1, 4000, .inl f)) := by rw [← hh52]; exact z_keep f45_mo f45_ma_1 (z_t1 (by decide))
                                have kk52 : z_K (fun y => y = 20 ∨ y = 29 ∨ y = 30 ∨ y = 31) h h52 := kk45.tr (by rw [← hh52]; exact z_K.put f45_mo (by first | decide | simp | omega))
                                have sg_Nh52 : z_K (fun y => y = 20) h43 h52 := sg_Nh45.tr (by rw [← hh52]; exact z_K.put f45_mo (by simp))
                                refine W.eq (g2 := F0 m 200 ls []) rfl ?_
                                refine lv_goto (tgt := 15) hx hb d_M_readGroup_200 (by decide) ?_
                                refine ih_15 c5 (f9 + 1) false (sk t n (sk t n p4)) (resJ (fldR (VR f9) S t n f9 (sk t n (we t n (sk t n p3)) + 1) R3)) R4 h52 _ _ _ f52_mo f52_ma_1 (⟨by omega, by omega, by omega⟩) kk52 (n4.k sg_Nh52 (by omega) (by omega) (by omega)) (Or.inr e30) (Or.inl ⟨e30, eX7⟩) ?_ hw (lv_sub hl [4, 5, 6, 0, 3] rfl)
                                omega
                              · -- 175: False
                                exact absurd (by simpa using c_175) e30
                          · -- 146: False
                            refine lv_aload_n hx hb d_M_readGroup_149 rfl (lv_at hl 4 rfl) ?_
                            refine lv_iload_n hx hb d_M_readGroup_150 rfl (lv_at hl 5 rfl) ?_
                            refine lv_iload hx hb d_M_readGroup_151 (lv_at hl 1 rfl) ?_
                            have eV9 : fldR (VR f9) S t n f9 (sk t n (we t n (sk t n p3)) + 1) R3 = if bt t n (sk t n (sk t n (we t n (sk t n p3)) + 1)) = 91 then (if bt t n (sk t n (sk t n (sk t n (we t n (sk t n p3)) + 1) + 1)) = 93 then sgnR t n 93 (sk t n (sk t n (sk t n (we t n (sk t n p3)) + 1) + 1)) R3 else rowL (VR f9) t n 4001 (sk t n (sk t n (sk t n (we t n (sk t n p3)) + 1) + 1)) R3) else .inl (sk t n (sk t n (we t n (sk t n p3)) + 1), R3) := by unfold fldR; rw [if_pos (show fKi (S.2 f9) = 2 by simpa using c_146)]
                            refine z_callV (n := 2) (As := [.int (nI pi), .int (nI f9)]) (rest := []) ⟨hx, hb, hml, hown, hts⟩ (m_readRow_of (t := t) (VR := VR f9) (pi := pi) (fi := f9) (R := R3) (p := sk t n (we t n (sk t n p3)) + 1) l g h42 f42_mo f42_ma_1 hn hf (by omega) (hSc.k kk42 (by omega) (by omega) (by omega)) (hN3.k sg_Nh42 (by omega) (by omega) (by omega)) hc4.2 (by omega) (by omega) eV9 (hV f9 lf9 hgf9)) (z_in k_983 rfl) (z_in k_7 rfl) (z_in k_980 rfl) (z_in k_982 rfl) (z_in ks_42 rfl) (by decide +kernel) ⟨by first | exact Nat.le_of_ble_eq_true rfl | (dsimp only; omega) | omega, by first | exact Nat.le_of_ble_eq_true rfl | (dsimp only; omega) | omega⟩ hK hE hw hA rfl f42_mo rfl hl.1 (Nat.le_of_ble_eq_true rfl) d_M_readGroup_153 ⟨by first | exact Nat.le_of_ble_eq_true rfl | (dsimp only; omega) | omega, by first | exact Nat.le_of_ble_eq_true rfl | (dsimp only; omega) | omega⟩ rfl (fun r9 h9 H locs hp hw => ?_)
                            obtain ⟨r8, kk8, p4, R4, m4, le4, ge4, n4, im4⟩ := hp
                            subst r8
                            obtain ⟨h53, e7⟩ : ∃ x9, x9 = h9 := ⟨_, rfl⟩
                            subst e7
                            have g53_ma_1 : h53 (ma 1) = some ((22, 0), .inl (g.2.1 1, 4000, .inl f)) := kk8 _ _ _ f42_ma_1 (by simp)
                            have kk53 : z_K (fun y => y = 20 ∨ y = 29 ∨ y = 30 ∨ y = 31) h h53 := kk42.tr kk8
                            have sg_Nh53 : z_K (fun y => y = 20) h53 h53 := z_K.rf
                            refine W.eq (g2 := F0 m 156 ls []) rfl ?_
                            refine lv_goto (tgt := 166) hx hb d_M_readGroup_156 (by decide) ?_
                            refine lv_aload_n hx hb d_M_readGroup_166 rfl (lv_at hl 4 rfl) ?_
                            refine z_callV (n := 0) (As := []) (rest := []) ⟨hx, hb, hml, hown, hts⟩ (m_blanks (t := t) l g h53 m4 g53_ma_1 hn hf (by omega)) (z_in k_885 rfl) (z_in k_7 rfl) (z_in k_882 rfl) (z_in k_884 rfl) (z_in ks_27 rfl) (by decide +kernel) ⟨by first | exact Nat.le_of_ble_eq_true rfl | (dsimp only; omega) | omega, by first | exact Nat.le_of_ble_eq_true rfl | (dsimp only; omega) | omega⟩ hK hE hw hA rfl m4 rfl hl.1 (Nat.le_of_ble_eq_true rfl) d_M_readGroup_167 ⟨by first | exact Nat.le_of_ble_eq_true rfl | (dsimp only; omega) | omega, by first | exact Nat.le_of_ble_eq_true rfl | (dsimp only; omega) | omega⟩ rfl (fun r9 h9 H locs hp hw => ?_)
                            have sq54 := sk_le (t := t) (n := n) (p := p4) (by omega)
                            have sr54 := sk_ge t n p4
                            obtain ⟨r8, hh55⟩ := hp
                            subst r8
                            obtain ⟨h55, e8⟩ : ∃ x9, x9 = h9 := ⟨_, rfl⟩
                            subst e8
                            have f55_mo : h55 mo = some ((20, 0), .inr (11, mF ma cod tpd (nI n) (nI S.1) cls9 ffl fcl (nI R4.1) (nI (tbC R4.2 R4.1)) ous (nI (sk t n p4)) (resJ (fldR (VR f9) S t n f9 (sk t n (we t n (sk t n p3)) + 1) R3)))) := by rw [← hh55]; exact z_put_eq
                            have f55_ma_1 : h55 (ma 1) = some ((22, 0), .inl (g.2.1 1, 4000, .inl f)) := by rw [← hh55]; exact z_keep m4 g53_ma_1 (z_t1 (by decide))
                            have kk55 : z_K (fun y => y = 20 ∨ y = 29 ∨ y = 30 ∨ y = 31) h h55 := kk53.tr (by rw [← hh55]; exact z_K.put m4 (by first | decide | simp | omega))
                            have sg_Nh55 : z_K (fun y => y = 20) h53 h55 := sg_Nh53.tr (by rw [← hh55]; exact z_K.put m4 (by simp))
                            refine W.eq (g2 := F0 m 170 ls []) rfl ?_
                            by_cases e30 : resJ (fldR (VR f9) S t n f9 (sk t n (we t n (sk t n p3)) + 1) R3) = -1
                            · -- read True
                              obtain ⟨eF4, b4, t4, z4⟩ := im4 e30
                              have fi56 : h55 mo = some ((20, 0), .inr (11, mF ma cod tpd (nI n) (nI S.1) cls9 ffl fcl (nI R4.1) (nI (tbC R4.2 R4.1)) ous (nI (sk t n p4)) (-1))) := by have z9 := f55_mo; rw [e30] at z9; exact z9
                              have eX8 : X = if bt t n (sk t n p4) = 44 then memL (fun fi p R => fldR (VR fi) S t n fi p R) S t n gr c5 (f9 + 1) (sk t n p4 + 1) R4 else memE S t n gr (f9 + 1) (sk t n p4) R4 := by rw [eXL]; exact memL_ok (F := (fun fi p R => fldR (VR fi) S t n fi p R)) enm ws124 eF4
                              refine lv_aload_n hx hb d_M_readGroup_170 rfl (lv_at hl 4 rfl) ?_
                              refine z_get hx hb hts (z_lay i_M) hown hK hw fi56 rfl 30 (by decide) (z_in k_801 rfl) (fun _ h9 => h9) rfl d_M_readGroup_171 ?_
                              refine lv_iconst (v := (-1)) hx hb d_M_readGroup_174 (by decide) ?_
                              refine lv_icmp_ne (tgt := 194) hx hb d_M_readGroup_175 (by decide) (fun c_175 => ?_) (fun c_175 => ?_)
                              · -- 175: True
                                exact absurd rfl c_175
                              · -- 175: False
                                refine lv_aload_n hx hb d_M_readGroup_178 rfl (lv_at hl 4 rfl) ?_
                                refine z_callV (n := 0) (As := []) (rest := []) ⟨hx, hb, hml, hown, hts⟩ (m_look (t := t) l g h55 fi56 f55_ma_1 hn hf (by omega)) (z_in k_889 rfl) (z_in k_7 rfl) (z_in k_886 rfl) (z_in k_888 rfl) (z_in ks_28 rfl) (by decide +kernel) ⟨by first | exact Nat.le_of_ble_eq_true rfl | (dsimp only; omega) | omega, by first | exact Nat.le_of_ble_eq_true rfl | (dsimp only; omega) | omega⟩ hK hE hw hA rfl fi56 rfl hl.1 (Nat.le_of_ble_eq_true rfl) d_M_readGroup_179 ⟨by first | exact Nat.le_of_ble_eq_true rfl | (dsimp only; omega) | omega, by first | exact Nat.le_of_ble_eq_true rfl | (dsimp only; omega) | omega⟩ rfl (fun r9 h9 H locs hp hw => ?_)
                                obtain ⟨r8, h8⟩ := hp
                                subst r8
                                subst h8
                                refine W.eq (g2 := F0 m 182 ls [.int (bt t n (sk t n p4))]) rfl ?_
                                refine lv_bipush (v := 125) hx hb d_M_readGroup_182 (by decide) ?_
                                refine lv_icmp_ne (tgt := 194) hx hb d_M_readGroup_184 (by decide) (fun c_184 => ?_) (fun c_184 => ?_)
                                · -- 184: True
                                  refine lv_aload_n hx hb d_M_readGroup_194 rfl (lv_at hl 4 rfl) ?_
                                  refine lv_bipush (v := 44) hx hb d_M_readGroup_195 (by decide) ?_
                                  refine z_callV (n := 1) (As := [.int 44]) (rest := []) ⟨hx, hb, hml, hown, hts⟩ (m_wantSign (t := t) l g h55 fi56 f55_ma_1 hn hf (by omega)) (z_in k_923 rfl) (z_in k_7 rfl) (z_in k_920 rfl) (z_in k_922 rfl) (z_in ks_33 rfl) (by decide +kernel) ⟨by first | exact Nat.le_of_ble_eq_true rfl | (dsimp only; omega) | omega, by first | exact Nat.le_of_ble_eq_true rfl | (dsimp only; omega) | omega⟩ hK hE hw hA rfl fi56 rfl hl.1 (Nat.le_of_ble_eq_true rfl) d_M_readGroup_197 ⟨by first | exact Nat.le_of_ble_eq_true rfl | (dsimp only; omega) | omega, by first | exact Nat.le_of_ble_eq_true rfl | (dsimp only; omega) | omega⟩ rfl (fun r9 h9 H locs hp hw => ?_)
                                  have sa57 := sk_le (t := t) (n := n) (p := sk t n p4) (by omega)
                                  have sb57 := sk_ge t n (sk t n p4)
                                  by_cases ws197 : bt t n (sk t n (sk t n p4)) = 44
                                  · -- wanted True
                                    have sc57 := bt_lt (c := 44) ws197
                                    obtain ⟨r8, hp⟩ := hp
                                    unfold wsP wsI at hp
                                    rw [if_pos ⟨rfl, ws197⟩, if_pos rfl, if_pos ws197] at hp
                                    have hp := And.intro r8 hp
                                    obtain ⟨r8, hh58⟩ := hp
                                    subst r8
                                    obtain ⟨h58, e8⟩ : ∃ x9, x9 = h9 := ⟨_, rfl⟩
                                    subst e8
                                    have f58_mo : h58 mo = some ((20, 0), .inr (11, mF ma cod tpd (nI n) (nI S.1) cls9 ffl fcl (nI R4.1) (nI (tbC R4.2 R4.1)) ous (nI (sk t n (sk t n p4) + 1)) (-1))) := by rw [← hh58]; exact z_put_eq
                                    have f58_ma_1 : h58 (ma 1) = some ((22, 0), .inl (g.2.1 1, 4000, .inl f)) := by rw [← hh58]; exact z_keep fi56 f55_ma_1 (z_t1 (by decide))
                                    have kk58 : z_K (fun y => y = 20 ∨ y = 29 ∨ y = 30 ∨ y = 31) h h58 := kk55.tr (by rw [← hh58]; exact z_K.put fi56 (by first | decide | simp | omega))
                                    have sg_Nh58 : z_K (fun y => y = 20) h53 h58 := sg_Nh55.tr (by rw [← hh58]; exact z_K.put fi56 (by simp))
                                    refine W.eq (g2 := F0 m 200 ls []) rfl ?_
                                    refine lv_goto (tgt := 15) hx hb d_M_readGroup_200 (by decide) ?_
                                    refine ih_15 c5 (f9 + 1) false (sk t n (sk t n p4) + 1) (-1) R4 h58 _ _ _ f58_mo f58_ma_1 (⟨by omega, by omega, by omega⟩) kk58 (n4.k sg_Nh58 (by omega) (by omega) (by omega)) (Or.inl ⟨by omega, z4⟩) (Or.inr ⟨rfl, by rw [eX8, if_pos (by rw [← sk_sk]; exact ws197), if_neg (fun z => by cases z.1), sk_sk], by rw [sk_sk] at *; omega, by rw [sk_sk] at *; omega⟩) ?_ hw (lv_sub hl [4, 5, 6, 0, 3] rfl)
                                    omega
                                  · -- wanted False
                                    have il57 : ¬ nI (sk t n (sk t n p4)) = (-1 : Int32) := nI_ne1 (by omega)
                                    obtain ⟨r8, hp⟩ := hp
                                    unfold wsP wsI at hp
                                    rw [if_neg (fun z => ws197 z.2), if_pos rfl, if_neg ws197] at hp
                                    have hp := And.intro r8 hp
                                    obtain ⟨r8, hh59⟩ := hp
                                    subst r8
                                    obtain ⟨h59, e8⟩ : ∃ x9, x9 = h9 := ⟨_, rfl⟩
                                    subst e8
                                    have f59_mo : h59 mo = some ((20, 0), .inr (11, mF ma cod tpd (nI n) (nI S.1) cls9 ffl fcl (nI R4.1) (nI (tbC R4.2 R4.1)) ous (nI (sk t n (sk t n p4))) (nI (sk t n (sk t n p4))))) := by rw [← hh59]; exact z_put_eq
                                    have f59_ma_1 : h59 (ma 1) = some ((22, 0), .inl (g.2.1 1, 4000, .inl f)) := by rw [← hh59]; exact z_keep fi56 f55_ma_1 (z_t1 (by decide))
                                    have kk59 : z_K (fun y => y = 20 ∨ y = 29 ∨ y = 30 ∨ y = 31) h h59 := kk55.tr (by rw [← hh59]; exact z_K.put fi56 (by first | decide | simp | omega))
                                    have sg_Nh59 : z_K (fun y => y = 20) h53 h59 := sg_Nh55.tr (by rw [← hh59]; exact z_K.put fi56 (by simp))
                                    refine W.eq (g2 := F0 m 200 ls []) rfl ?_
                                    refine lv_goto (tgt := 15) hx hb d_M_readGroup_200 (by decide) ?_
                                    refine ih_15 c5 (f9 + 1) false (sk t n (sk t n p4)) (nI (sk t n (sk t n p4))) R4 h59 _ _ _ f59_mo f59_ma_1 (⟨by omega, by omega, by omega⟩) kk59 (n4.k sg_Nh59 (by omega) (by omega) (by omega)) (Or.inr il57) (Or.inl ⟨il57, by rw [eX8, if_neg (by rw [← sk_sk]; exact ws197), memE_no (by rw [sk_sk]; exact c_184)]; rfl⟩) ?_ hw (lv_sub hl [4, 5, 6, 0, 3] rfl)
                                    omega
                                · -- 184: False
                                  have l187 := bt_lt (c := 125) (show bt t n (sk t n p4) = 125 by simpa using c_184)
                                  refine lv_aload_n hx hb d_M_readGroup_187 rfl (lv_at hl 4 rfl) ?_
                                  refine lv_iload_n hx hb d_M_readGroup_188 rfl (lv_at hl 6 rfl) ?_
                                  refine lv_iload_n hx hb d_M_readGroup_189 rfl (lv_at hl 0 rfl) ?_
                                  refine z_callV (n := 2) (As := [.int gr, .int (nI (f9 + 1))]) (rest := []) ⟨hx, hb, hml, hown, hts⟩ (m_end (a9 := f9 + 1) l g h55 fi56 (hSc.k kk55 (by omega) (by omega) (by omega)) hB (by omega)) (z_in k_975 rfl) (z_in k_7 rfl) (z_in k_972 rfl) (z_in k_974 rfl) (z_in ks_40 rfl) (by decide +kernel) ⟨by first | exact Nat.le_of_ble_eq_true rfl | (dsimp only; omega) | omega, by first | exact Nat.le_of_ble_eq_true rfl | (dsimp only; omega) | omega⟩ hK hE hw hA rfl fi56 rfl hl.1 (Nat.le_of_ble_eq_true rfl) d_M_readGroup_190 ⟨by first | exact Nat.le_of_ble_eq_true rfl | (dsimp only; omega) | omega, by first | exact Nat.le_of_ble_eq_true rfl | (dsimp only; omega) | omega⟩ rfl (fun r9 h9 H locs hp hw => ?_)
                                  obtain ⟨r8, hh60⟩ := hp
                                  subst r8
                                  obtain ⟨h60, e8⟩ : ∃ x9, x9 = h9 := ⟨_, rfl⟩
                                  subst e8
                                  have f60_mo : h60 mo = some ((20, 0), .inr (11, mF ma cod tpd (nI n) (nI S.1) cls9 ffl fcl (nI R4.1) (nI (tbC R4.2 R4.1)) ous (nI (sk t n p4 + 1)) (if hrq S gr (f9 + 1) = true then nI (sk t n p4) else -1))) := by rw [← hh60]; exact z_put_eq
                                  have f60_ma_1 : h60 (ma 1) = some ((22, 0), .inl (g.2.1 1, 4000, .inl f)) := by rw [← hh60]; exact z_keep fi56 f55_ma_1 (z_t1 (by decide))
                                  have kk60 : z_K (fun y => y = 20 ∨ y = 29 ∨ y = 30 ∨ y = 31) h h60 := kk55.tr (by rw [← hh60]; exact z_K.put fi56 (by first | decide | simp | omega))
                                  have sg_Nh60 : z_K (fun y => y = 20) h53 h60 := sg_Nh55.tr (by rw [← hh60]; exact z_K.put fi56 (by simp))
                                  refine W.eq (g2 := F0 m 193 ls []) rfl ?_
                                  exact z_vret hx hb hr hlocks hw (by have eX9 : X = if hrq S gr (f9 + 1) = true then .inl (sk t n p4, R4) else .inr (sk t n p4 + 1, R4) := (by have z9 : bt t n (sk t n p4) = 125 := (by simpa using c_184); rw [eX8, if_neg (by rw [z9]; decide), memE_ok (by rw [sk_sk]; exact z9), sk_sk]); have eR : resJ X = if hrq S gr (f9 + 1) = true then nI (sk t n p4) else -1 := (by rw [eX9]; split <;> rfl); refine ⟨rfl, kk60, sk t n p4 + 1, R4, ?_, by omega, by omega, n4.k sg_Nh60 (by omega) (by omega) (by omega), fun z => by rw [eR] at z; by_cases z2 : hrq S gr (f9 + 1) = true; (· rw [if_pos z2] at z; exact absurd z (nI_ne1 (by omega))); (· exact ⟨by rw [eX9, if_neg z2], by omega, by omega, z4⟩)⟩; rw [eR]; exact f60_mo) (by decide) (by decide) d_M_readGroup_193
                            · -- read False
                              have eX7 : resJ X = resJ (fldR (VR f9) S t n f9 (sk t n (we t n (sk t n p3)) + 1) R3) := by obtain ⟨F9, eF9⟩ := resJ_inl e30; rw [eXL, memL_no (F := (fun fi p R => fldR (VR fi) S t n fi p R)) enm ws124 eF9, eF9]
                              refine lv_aload_n hx hb d_M_readGroup_170 rfl (lv_at hl 4 rfl) ?_
                              refine z_get hx hb hts (z_lay i_M) hown hK hw f55_mo rfl 30 (by decide) (z_in k_801 rfl) (fun _ h9 => h9) rfl d_M_readGroup_171 ?_
                              refine lv_iconst (v := (-1)) hx hb d_M_readGroup_174 (by decide) ?_
                              refine lv_icmp_ne (tgt := 194) hx hb d_M_readGroup_175 (by decide) (fun c_175 => ?_) (fun c_175 => ?_)
                              · -- 175: True
                                refine lv_aload_n hx hb d_M_readGroup_194 rfl (lv_at hl 4 rfl) ?_
                                refine lv_bipush (v := 44) hx hb d_M_readGroup_195 (by decide) ?_
                                refine z_callV (n := 1) (As := [.int 44]) (rest := []) ⟨hx, hb, hml, hown, hts⟩ (m_wantSign (t := t) l g h55 f55_mo f55_ma_1 hn hf (by omega)) (z_in k_923 rfl) (z_in k_7 rfl) (z_in k_920 rfl) (z_in k_922 rfl) (z_in ks_33 rfl) (by decide +kernel) ⟨by first | exact Nat.le_of_ble_eq_true rfl | (dsimp only; omega) | omega, by first | exact Nat.le_of_ble_eq_true rfl | (dsimp only; omega) | omega⟩ hK hE hw hA rfl f55_mo rfl hl.1 (Nat.le_of_ble_eq_true rfl) d_M_readGroup_197 ⟨by first | exact Nat.le_of_ble_eq_true rfl | (dsimp only; omega) | omega, by first | exact Nat.le_of_ble_eq_true rfl | (dsimp only; omega) | omega⟩ rfl (fun r9 h9 H locs hp hw => ?_)
                                have sa61 := sk_le (t := t) (n := n) (p := sk t n p4) (by omega)
                                have sb61 := sk_ge t n (sk t n p4)
                                obtain ⟨r8, hp⟩ := hp
                                unfold wsP wsI at hp
                                rw [if_neg (fun z => e30 z.1), if_neg e30] at hp
                                have hp := And.intro r8 hp
                                obtain ⟨r8, hh62⟩ := hp
                                subst r8
                                obtain ⟨h62, e8⟩ : ∃ x9, x9 = h9 := ⟨_, rfl⟩
                                subst e8
                                have f62_mo : h62 mo = some ((20, 0), .inr (11, mF ma cod tpd (nI n) (nI S.1) cls9 ffl fcl (nI R4.1) (nI (tbC R4.2 R4.1)) ous (nI (sk t n (sk t n p4))) (resJ (fldR (VR f9) S t n f9 (sk t n (we t n (sk t n p3)) + 1) R3)))) := by rw [← hh62]; exact z_put_eq
                                have f62_ma_1 : h62 (ma 1) = some ((22, 0), .inl (g.2.1 1, 4000, .inl f)) := by rw [← hh62]; exact z_keep f55_mo f55_ma_1 (z_t1 (by decide))
                                have kk62 : z_K (fun y => y = 20 ∨ y = 29 ∨ y = 30 ∨ y = 31) h h62 := kk55.tr (by rw [← hh62]; exact z_K.put f55_mo (by first | decide | simp | omega))
                                have sg_Nh62 : z_K (fun y => y = 20) h53 h62 := sg_Nh55.tr (by rw [← hh62]; exact z_K.put f55_mo (by simp))
                                refine W.eq (g2 := F0 m 200 ls []) rfl ?_
                                refine lv_goto (tgt := 15) hx hb d_M_readGroup_200 (by decide) ?_
                                refine ih_15 c5 (f9 + 1) false (sk t n (sk t n p4)) (resJ (fldR (VR f9) S t n f9 (sk t n (we t n (sk t n p3)) + 1) R3)) R4 h62 _ _ _ f62_mo f62_ma_1 (⟨by omega, by omega, by omega⟩) kk62 (n4.k sg_Nh62 (by omega) (by omega) (by omega)) (Or.inr e30) (Or.inl ⟨e30, eX7⟩) ?_ hw (lv_sub hl [4, 5, 6, 0, 3] rfl)
                                omega
                              · -- 175: False
                                exact absurd (by simpa using c_175) e30
                        · -- 132: False
                          exact absurd rfl c_132
                      · -- wanted False
                        have il41 : ¬ nI (sk t n (we t n (sk t n p3))) = (-1 : Int32) := nI_ne1 (by omega)
                        obtain ⟨r8, hp⟩ := hp
                        unfold wsP wsI at hp
                        rw [if_neg (fun z => ws124 z.2), if_pos rfl, if_neg ws124] at hp
                        have hp := And.intro r8 hp
                        obtain ⟨r8, hh63⟩ := hp
                        subst r8
                        obtain ⟨h63, e8⟩ : ∃ x9, x9 = h9 := ⟨_, rfl⟩
                        subst e8
                        have f63_mo : h63 mo = some ((20, 0), .inr (11, mF ma cod tpd (nI n) (nI S.1) cls9 ffl fcl (nI R3.1) (nI (tbC R3.2 R3.1)) ous (nI (sk t n (we t n (sk t n p3)))) (nI (sk t n (we t n (sk t n p3)))))) := by rw [← hh63]; exact z_put_eq
                        have f63_ma_1 : h63 (ma 1) = some ((22, 0), .inl (g.2.1 1, 4000, .inl f)) := by rw [← hh63]; exact z_keep fe40 f39_ma_1 (z_t1 (by decide))
                        have kk63 : z_K (fun y => y = 20 ∨ y = 29 ∨ y = 30 ∨ y = 31) h h63 := kk39.tr (by rw [← hh63]; exact z_K.put fe40 (by first | decide | simp | omega))
                        have sg_Nh63 : z_K (fun y => y = 20) hL h63 := sg_Nh39.tr (by rw [← hh63]; exact z_K.put fe40 (by simp))
                        refine W.eq (g2 := F0 m 127 ls []) rfl ?_
                        refine lv_aload_n hx hb d_M_readGroup_127 rfl (lv_at hl 4 rfl) ?_
                        refine z_get hx hb hts (z_lay i_M) hown hK hw f63_mo rfl 30 (by decide) (z_in k_801 rfl) (fun _ h9 => h9) rfl d_M_readGroup_128 ?_
                        refine lv_iconst (v := (-1)) hx hb d_M_readGroup_131 (by decide) ?_
                        refine lv_icmp_eq (tgt := 136) hx hb d_M_readGroup_132 (by decide) (fun c_132 => ?_) (fun c_132 => ?_)
                        · -- 132: True
                          exact absurd c_132 il41
                        · -- 132: False
                          exact z_vret hx hb hr hlocks hw (by have eR : resJ X = nI (sk t n (we t n (sk t n p3))) := (by rw [eXL, memL_col enm ws124]; rfl); refine ⟨rfl, kk63, sk t n (we t n (sk t n p3)), R3, ?_, by omega, by omega, hN3.k sg_Nh63 (by omega) (by omega) (by omega), fun z => absurd (eR.symm.trans z) il41⟩; rw [eR]; exact f63_mo) (by decide) (by decide) d_M_readGroup_135
                    · -- 93: False
                      have c_93 : (hrqR S gr (f9 - st) st) = true := zb_t c_93
                      have eXf : X = .inl (sk t n p3, R3) := by rw [eXL]; exact memL_nam (by rw [namR_find hu hs8 hlt9 lf9 (by omega) lm9, if_pos c_93])
                      refine lv_aload_n hx hb d_M_readGroup_96 rfl (lv_at hl 3 rfl) ?_
                      refine lv_aload_n hx hb d_M_readGroup_97 rfl (lv_at hl 3 rfl) ?_
                      refine z_get hx hb hts (z_lay i_M) hown hK hw f7_mo rfl 29 (by decide) (z_in k_800 rfl) (fun _ h9 => h9) rfl d_M_readGroup_98 ?_
                      refine z_callV (n := 1) (As := [.int (nI (sk t n p3))]) (rest := []) ⟨hx, hb, hml, hown, hts⟩ (m_fail l g h7 f7_mo) (z_in k_914 rfl) (z_in k_7 rfl) (z_in k_911 rfl) (z_in k_913 rfl) (z_in ks_32 rfl) (by decide +kernel) ⟨by first | exact Nat.le_of_ble_eq_true rfl | (dsimp only; omega) | omega, by first | exact Nat.le_of_ble_eq_true rfl | (dsimp only; omega) | omega⟩ hK hE hw hA rfl f7_mo rfl hl.1 (Nat.le_of_ble_eq_true rfl) d_M_readGroup_101 ⟨by first | exact Nat.le_of_ble_eq_true rfl | (dsimp only; omega) | omega, by first | exact Nat.le_of_ble_eq_true rfl | (dsimp only; omega) | omega⟩ rfl (fun r9 h9 H locs hp hw => ?_)
                      obtain ⟨r8, hh64⟩ := hp
                      subst r8
                      obtain ⟨h64, e8⟩ : ∃ x9, x9 = h9 := ⟨_, rfl⟩
                      subst e8
                      have f64_mo : h64 mo = some ((20, 0), .inr (11, mF ma cod tpd (nI n) (nI S.1) cls9 ffl fcl (nI R3.1) (nI (tbC R3.2 R3.1)) ous (nI (sk t n p3)) (nI (sk t n p3)))) := by rw [← hh64]; exact z_put_eq
                      have f64_ma_1 : h64 (ma 1) = some ((22, 0), .inl (g.2.1 1, 4000, .inl f)) := by rw [← hh64]; exact z_keep f7_mo f7_ma_1 (z_t1 (by decide))
                      have kk64 : z_K (fun y => y = 20 ∨ y = 29 ∨ y = 30 ∨ y = 31) h h64 := kk7.tr (by rw [← hh64]; exact z_K.put f7_mo (by first | decide | simp | omega))
                      have sg_Nh64 : z_K (fun y => y = 20) hL h64 := sg_Nh7.tr (by rw [← hh64]; exact z_K.put f7_mo (by simp))
                      refine W.eq (g2 := F0 m 104 ls []) rfl ?_
                      exact z_vret hx hb hr hlocks hw (by have eR : resJ X = nI (sk t n p3) := (by rw [eXf]; rfl); refine ⟨rfl, kk64, sk t n p3, R3, ?_, by omega, by omega, hN3.k sg_Nh64 (by omega) (by omega) (by omega), fun z => absurd (eR.symm.trans z) (nI_ne1 (by omega))⟩; rw [eR]; exact f64_mo) (by decide) (by decide) d_M_readGroup_104
              · -- 59: False
                have c_59 : (wl t n (sk t n p3)) = 0 := (nI_eq (a := wl t n (sk t n p3)) (b := 0) (by omega) (by omega)).mp c_59
                have nlt : ¬ isLet (bt t n (sk t n p3)) = true := fun z => by have := let_we (fun k hk => (hf k hk).1) z; have e9 : wl t n (sk t n p3) = 0 := (by omega); unfold wl at e9; rw [if_pos z] at e9; omega
                have eXf : X = .inl (sk t n p3, R3) := by rw [eXL]; exact memL_nam (namR_let nlt)
                refine lv_iconst (v := (-1)) hx hb d_M_readGroup_62 (by decide) ?_
                refine lv_goto (tgt := 77) hx hb d_M_readGroup_63 (by decide) ?_
                refine lv_istore (lv' := [(6, .int (-1)), (5, .int (nI (wl t n (sk t n p3)))), (4, .int 0), (0, .ref mo), (1, .int (nI pi)), (2, .int gr), (3, .int (nI st))]) hx hb d_M_readGroup_77 hl (by decide) rfl (fun ls hl => ?_)
                refine lv_iload hx hb d_M_readGroup_79 (lv_at hl 0 rfl) ?_
                refine lv_iload_n hx hb d_M_readGroup_81 rfl (lv_at hl 6 rfl) ?_
                refine lv_icmp_lt (tgt := 96) hx hb d_M_readGroup_82 (by decide) (fun c_82 => ?_) (fun c_82 => ?_)
                · -- 82: True
                  refine lv_aload_n hx hb d_M_readGroup_96 rfl (lv_at hl 3 rfl) ?_
                  refine lv_aload_n hx hb d_M_readGroup_97 rfl (lv_at hl 3 rfl) ?_
                  refine z_get hx hb hts (z_lay i_M) hown hK hw f7_mo rfl 29 (by decide) (z_in k_800 rfl) (fun _ h9 => h9) rfl d_M_readGroup_98 ?_
                  refine z_callV (n := 1) (As := [.int (nI (sk t n p3))]) (rest := []) ⟨hx, hb, hml, hown, hts⟩ (m_fail l g h7 f7_mo) (z_in k_914 rfl) (z_in k_7 rfl) (z_in k_911 rfl) (z_in k_913 rfl) (z_in ks_32 rfl) (by decide +kernel) ⟨by first | exact Nat.le_of_ble_eq_true rfl | (dsimp only; omega) | omega, by first | exact Nat.le_of_ble_eq_true rfl | (dsimp only; omega) | omega⟩ hK hE hw hA rfl f7_mo rfl hl.1 (Nat.le_of_ble_eq_true rfl) d_M_readGroup_101 ⟨by first | exact Nat.le_of_ble_eq_true rfl | (dsimp only; omega) | omega, by first | exact Nat.le_of_ble_eq_true rfl | (dsimp only; omega) | omega⟩ rfl (fun r9 h9 H locs hp hw => ?_)
                  obtain ⟨r8, hh65⟩ := hp
                  subst r8
                  obtain ⟨h65, e8⟩ : ∃ x9, x9 = h9 := ⟨_, rfl⟩
                  subst e8
                  have f65_mo : h65 mo = some ((20, 0), .inr (11, mF ma cod tpd (nI n) (nI S.1) cls9 ffl fcl (nI R3.1) (nI (tbC R3.2 R3.1)) ous (nI (sk t n p3)) (nI (sk t n p3)))) := by rw [← hh65]; exact z_put_eq
                  have f65_ma_1 : h65 (ma 1) = some ((22, 0), .inl (g.2.1 1, 4000, .inl f)) := by rw [← hh65]; exact z_keep f7_mo f7_ma_1 (z_t1 (by decide))
                  have kk65 : z_K (fun y => y = 20 ∨ y = 29 ∨ y = 30 ∨ y = 31) h h65 := kk7.tr (by rw [← hh65]; exact z_K.put f7_mo (by first | decide | simp | omega))
                  have sg_Nh65 : z_K (fun y => y = 20) hL h65 := sg_Nh7.tr (by rw [← hh65]; exact z_K.put f7_mo (by simp))
                  refine W.eq (g2 := F0 m 104 ls []) rfl ?_
                  exact z_vret hx hb hr hlocks hw (by have eR : resJ X = nI (sk t n p3) := (by rw [eXf]; rfl); refine ⟨rfl, kk65, sk t n p3, R3, ?_, by omega, by omega, hN3.k sg_Nh65 (by omega) (by omega) (by omega), fun z => absurd (eR.symm.trans z) (nI_ne1 (by omega))⟩; rw [eR]; exact f65_mo) (by decide) (by decide) d_M_readGroup_104
                · -- 82: False
                  exact absurd (show (-1 : Int32) < nI st from (by rw [Int32.lt_iff_toInt_lt, nI_toInt (by omega)]; have : (-1 : Int32).toInt = -1 := rfl; omega)) c_82
            · -- 38: False
              have l41 := bt_lt (c := 125) (show bt t n (sk t n p3) = 125 by simpa using c_38)
              refine lv_aload_n hx hb d_M_readGroup_41 rfl (lv_at hl 0 rfl) ?_
              refine lv_iload_n hx hb d_M_readGroup_42 rfl (lv_at hl 2 rfl) ?_
              refine lv_iload_n hx hb d_M_readGroup_43 rfl (lv_at hl 3 rfl) ?_
              refine z_callV (n := 2) (As := [.int gr, .int (nI st)]) (rest := []) ⟨hx, hb, hml, hown, hts⟩ (m_end (a9 := st) l g h7 f7_mo (hSc.k kk7 (by omega) (by omega) (by omega)) hB (by omega)) (z_in k_975 rfl) (z_in k_7 rfl) (z_in k_972 rfl) (z_in k_974 rfl) (z_in ks_40 rfl) (by decide +kernel) ⟨by first | exact Nat.le_of_ble_eq_true rfl | (dsimp only; omega) | omega, by first | exact Nat.le_of_ble_eq_true rfl | (dsimp only; omega) | omega⟩ hK hE hw hA rfl f7_mo rfl hl.1 (Nat.le_of_ble_eq_true rfl) d_M_readGroup_44 ⟨by first | exact Nat.le_of_ble_eq_true rfl | (dsimp only; omega) | omega, by first | exact Nat.le_of_ble_eq_true rfl | (dsimp only; omega) | omega⟩ rfl (fun r9 h9 H locs hp hw => ?_)
              obtain ⟨r8, hh66⟩ := hp
              subst r8
              obtain ⟨h66, e8⟩ : ∃ x9, x9 = h9 := ⟨_, rfl⟩
              subst e8
              have f66_mo : h66 mo = some ((20, 0), .inr (11, mF ma cod tpd (nI n) (nI S.1) cls9 ffl fcl (nI R3.1) (nI (tbC R3.2 R3.1)) ous (nI (sk t n p3 + 1)) (if hrq S gr st = true then nI (sk t n p3) else -1))) := by rw [← hh66]; exact z_put_eq
              have f66_ma_1 : h66 (ma 1) = some ((22, 0), .inl (g.2.1 1, 4000, .inl f)) := by rw [← hh66]; exact z_keep f7_mo f7_ma_1 (z_t1 (by decide))
              have kk66 : z_K (fun y => y = 20 ∨ y = 29 ∨ y = 30 ∨ y = 31) h h66 := kk7.tr (by rw [← hh66]; exact z_K.put f7_mo (by first | decide | simp | omega))
              have sg_Nh66 : z_K (fun y => y = 20) hL h66 := sg_Nh7.tr (by rw [← hh66]; exact z_K.put f7_mo (by simp))
              refine W.eq (g2 := F0 m 47 ls []) rfl ?_
              exact z_vret hx hb hr hlocks hw (by have eX9 : X = if hrq S gr st = true then .inl (sk t n p3, R3) else .inr (sk t n p3 + 1, R3) := (by rw [eX3, if_pos ⟨c_29, by simpa using c_38⟩, memE_ok (by rw [sk_sk]; simpa using c_38), sk_sk]); have eR : resJ X = if hrq S gr st = true then nI (sk t n p3) else -1 := (by rw [eX9]; split <;> rfl); refine ⟨rfl, kk66, sk t n p3 + 1, R3, ?_, by omega, by omega, hN3.k sg_Nh66 (by omega) (by omega) (by omega), fun z => by rw [eR] at z; by_cases z2 : hrq S gr st = true; (· rw [if_pos z2] at z; exact absurd z (nI_ne1 (by omega))); (· exact ⟨by rw [eX9, if_neg z2], by omega, by omega, hc4.2⟩)⟩; rw [eR]; exact f66_mo) (by decide) (by decide) d_M_readGroup_47
    exact loop_15 (129 + 1) 129 0 true (sk t n (sk t n p + 1)) (-1) R h4 _ _ _ f4_mo f4_ma_1 (⟨by omega, by omega, by omega⟩) kk4 (hNd.k sg_Nh4 (by omega) (by omega) (by omega)) (Or.inl ⟨by omega, hR0⟩) (Or.inr ⟨rfl, by rw [eX]; unfold memR; rw [if_pos ws3]; by_cases z : bt t n (sk t n (sk t n p + 1)) = 125; (· rw [if_pos z, if_pos ⟨rfl, by rw [sk_sk]; exact z⟩, sk_sk]); (· rw [if_neg z, if_neg (fun z2 => z (by rw [← sk_sk]; exact z2.2))]), by omega, by omega⟩) (by omega) hw (lv_sub hl [2, 3, 4, 1, 0] rfl)
  · -- wanted False
    have il1 : ¬ nI (sk t n p) = (-1 : Int32) := nI_ne1 (by omega)
    obtain ⟨r8, hp⟩ := hp
    unfold wsP wsI at hp
    rw [if_neg (fun z => ws3 z.2), if_pos rfl, if_neg ws3] at hp
    have hp := And.intro r8 hp
    obtain ⟨r8, hh67⟩ := hp
    subst r8
    obtain ⟨h67, e8⟩ : ∃ x9, x9 = h9 := ⟨_, rfl⟩
    subst e8
    have f67_mo : h67 mo = some ((20, 0), .inr (11, mF ma cod tpd (nI n) (nI S.1) cls9 ffl fcl (nI R.1) (nI (tbC R.2 R.1)) ous (nI (sk t n p)) (nI (sk t n p)))) := by rw [← hh67]; exact z_put_eq
    have f67_ma_1 : h67 (ma 1) = some ((22, 0), .inl (g.2.1 1, 4000, .inl f)) := by rw [← hh67]; exact z_keep hmo htx (z_t1 (by decide))
    have kk67 : z_K (fun y => y = 20 ∨ y = 29 ∨ y = 30 ∨ y = 31) h h67 := kk0.tr (by rw [← hh67]; exact z_K.put hmo (by first | decide | simp | omega))
    have sg_Nh67 : z_K (fun y => y = 20) h h67 := sg_Nh.tr (by rw [← hh67]; exact z_K.put hmo (by simp))
    refine W.eq (g2 := F0 m 6 ls []) rfl ?_
    refine lv_aload_n hx hb d_M_readGroup_6 rfl (lv_at hl 0 rfl) ?_
    refine z_callV (n := 0) (As := []) (rest := []) ⟨hx, hb, hml, hown, hts⟩ (m_blanks (t := t) l g h67 f67_mo f67_ma_1 hn hf (by omega)) (z_in k_885 rfl) (z_in k_7 rfl) (z_in k_882 rfl) (z_in k_884 rfl) (z_in ks_27 rfl) (by decide +kernel) ⟨by first | exact Nat.le_of_ble_eq_true rfl | (dsimp only; omega) | omega, by first | exact Nat.le_of_ble_eq_true rfl | (dsimp only; omega) | omega⟩ hK hE hw hA rfl f67_mo rfl hl.1 (Nat.le_of_ble_eq_true rfl) d_M_readGroup_7 ⟨by first | exact Nat.le_of_ble_eq_true rfl | (dsimp only; omega) | omega, by first | exact Nat.le_of_ble_eq_true rfl | (dsimp only; omega) | omega⟩ rfl (fun r9 h9 H locs hp hw => ?_)
    have sq68 := sk_le (t := t) (n := n) (p := sk t n p) (by omega)
    have sr68 := sk_ge t n (sk t n p)
    obtain ⟨r8, hh69⟩ := hp
    subst r8
    obtain ⟨h69, e8⟩ : ∃ x9, x9 = h9 := ⟨_, rfl⟩
    subst e8
    have f69_mo : h69 mo = some ((20, 0), .inr (11, mF ma cod tpd (nI n) (nI S.1) cls9 ffl fcl (nI R.1) (nI (tbC R.2 R.1)) ous (nI (sk t n (sk t n p))) (nI (sk t n p)))) := by rw [← hh69]; exact z_put_eq
    have f69_ma_1 : h69 (ma 1) = some ((22, 0), .inl (g.2.1 1, 4000, .inl f)) := by rw [← hh69]; exact z_keep f67_mo f67_ma_1 (z_t1 (by decide))
    have kk69 : z_K (fun y => y = 20 ∨ y = 29 ∨ y = 30 ∨ y = 31) h h69 := kk67.tr (by rw [← hh69]; exact z_K.put f67_mo (by first | decide | simp | omega))
    have sg_Nh69 : z_K (fun y => y = 20) h h69 := sg_Nh67.tr (by rw [← hh69]; exact z_K.put f67_mo (by simp))
    refine W.eq (g2 := F0 m 10 ls []) rfl ?_
    refine lv_iconst (v := 0) hx hb d_M_readGroup_10 (by decide) ?_
    refine lv_istore_n (lv' := [(3, .int 0), (0, .ref mo), (1, .int (nI pi)), (2, .int gr)]) hx hb d_M_readGroup_11 rfl hl (by decide) rfl (fun ls hl => ?_)
    refine lv_iconst (v := 1) hx hb d_M_readGroup_12 (by decide) ?_
    refine lv_istore (lv' := [(4, .int 1), (3, .int 0), (0, .ref mo), (1, .int (nI pi)), (2, .int gr)]) hx hb d_M_readGroup_13 hl (by decide) rfl (fun ls hl => ?_)
    have loop_15 : ∀ (fuel : Nat) (c : Nat) (st : Nat) (fs : Bool) (p3 : Nat) (i3 : Int32) (R3 : Rec) (hL : z_H) (H : Heap) (locs : List Loc) (ls : Array Slot) (L15_mo : hL mo = some ((20, 0), .inr (11, mF ma cod tpd (nI n) (nI S.1) cls9 ffl fcl (nI R3.1) (nI (tbC R3.2 R3.1)) ous (nI p3) i3))) (L15_ma_1 : hL (ma 1) = some ((22, 0), .inl (g.2.1 1, 4000, .inl f))) (hle3 : p3 ≤ n ∧ p ≤ p3 ∧ st ≤ S.1) (kk3 : z_K (fun y => y = 20 ∨ y = 29 ∨ y = 30 ∨ y = 31) h hL) (hN3 : MNd g hL ma R3) (hc3 : 129 ≤ c + st ∧ 0 < R3.1 ∨ ¬ i3 = -1) (hZ3 : (¬ i3 = -1 ∧ resJ X = i3) ∨ (i3 = -1 ∧ (X = if fs = true ∧ bt t n (sk t n p3) = 125 then memE S t n gr st (sk t n p3) R3 else memL (fun fi p R => fldR (VR fi) S t n fi p R) S t n gr c st p3 R3) ∧ 2 * R3.1 ≤ p3 + 1 ∧ tbR R3 ≤ p3)), c < fuel → z_S g A s.heap hL H locs → lv_has ls 7 [(0, .ref mo), (1, .int (nI pi)), (2, .int gr), (3, .int (nI st)), (4, .int (zb fs))] → W pg l en { frames := fM + 30, cells := 0, slots := 0, locals := lM + 600 } s m [.ref mo, .int (nI pi), .int gr].toArray below meth cd H locs 0 0 (MQ below (z_Q g A (fun x h1 => x = none ∧ rvP g h h1 mo ma cod tpd cls9 ffl fcl ous n p S X)) [.ref mo, .int (nI pi), .int gr].toArray s 0 0 A) (F0 m 15 ls []) := by
      intro fuel
      induction fuel with
      | zero => intro c st fs p3 i3 R3 hL H locs ls L15_mo L15_ma_1 hle3 kk3 hN3 hc3 hZ3 hm; exact absurd hm (Nat.not_lt_zero _)
      | succ fuel ih_15 =>
        intro c st fs p3 i3 R3 hL H locs ls L15_mo L15_ma_1 hle3 kk3 hN3 hc3 hZ3 hm hw hl
        have sg_NhL : z_K (fun y => y = 20) hL hL := z_K.rf
        refine lv_aload_n hx hb d_M_readGroup_15 rfl (lv_at hl 0 rfl) ?_
        refine z_get hx hb hts (z_lay i_M) hown hK hw L15_mo rfl 30 (by decide) (z_in k_801 rfl) (fun _ h9 => h9) rfl d_M_readGroup_16 ?_
        refine lv_iconst (v := (-1)) hx hb d_M_readGroup_19 (by decide) ?_
        refine lv_icmp_ne (tgt := 203) hx hb d_M_readGroup_20 (by decide) (fun c_20 => ?_) (fun c_20 => ?_)
        · -- 20: True
          exact z_vret hx hb hr hlocks hw (by have eR : resJ X = i3 := ((hZ3.resolve_right (fun z => c_20 z.1)).2); refine ⟨rfl, kk3, p3, R3, ?_, by omega, by omega, hN3.k sg_NhL (by omega) (by omega) (by omega), fun z => absurd (eR.symm.trans z) c_20⟩; rw [eR]; exact L15_mo) (by decide) (by decide) d_M_readGroup_203
        · -- 20: False
          have e24 : i3 = -1 := by simpa using c_20
          obtain ⟨-, eX3, b3, t3⟩ := hZ3.resolve_left (fun z => z.1 e24)
          have fi70 : hL mo = some ((20, 0), .inr (11, mF ma cod tpd (nI n) (nI S.1) cls9 ffl fcl (nI R3.1) (nI (tbC R3.2 R3.1)) ous (nI p3) (-1))) := by have z9 := L15_mo; rw [e24] at z9; exact z9
          have hc4 := hc3.resolve_right (fun z => z e24)
          obtain ⟨c5, ec5⟩ : ∃ c5, c = c5 + 1 := ⟨c - 1, by omega⟩
          refine lv_aload_n hx hb d_M_readGroup_23 rfl (lv_at hl 0 rfl) ?_
          refine z_callV (n := 0) (As := []) (rest := []) ⟨hx, hb, hml, hown, hts⟩ (m_blanks (t := t) l g hL fi70 L15_ma_1 hn hf (by omega)) (z_in k_885 rfl) (z_in k_7 rfl) (z_in k_882 rfl) (z_in k_884 rfl) (z_in ks_27 rfl) (by decide +kernel) ⟨by first | exact Nat.le_of_ble_eq_true rfl | (dsimp only; omega) | omega, by first | exact Nat.le_of_ble_eq_true rfl | (dsimp only; omega) | omega⟩ hK hE hw hA rfl fi70 rfl hl.1 (Nat.le_of_ble_eq_true rfl) d_M_readGroup_24 ⟨by first | exact Nat.le_of_ble_eq_true rfl | (dsimp only; omega) | omega, by first | exact Nat.le_of_ble_eq_true rfl | (dsimp only; omega) | omega⟩ rfl (fun r9 h9 H locs hp hw => ?_)
          have sq71 := sk_le (t := t) (n := n) (p := p3) (by omega)
          have sr71 := sk_ge t n p3
          obtain ⟨r8, hh72⟩ := hp
          subst r8
          obtain ⟨h72, e8⟩ : ∃ x9, x9 = h9 := ⟨_, rfl⟩
          subst e8
          have f72_mo : h72 mo = some ((20, 0), .inr (11, mF ma cod tpd (nI n) (nI S.1) cls9 ffl fcl (nI R3.1) (nI (tbC R3.2 R3.1)) ous (nI (sk t n p3)) (-1))) := by rw [← hh72]; exact z_put_eq
          have f72_ma_1 : h72 (ma 1) = some ((22, 0), .inl (g.2.1 1, 4000, .inl f)) := by rw [← hh72]; exact z_keep fi70 L15_ma_1 (z_t1 (by decide))
          have kk72 : z_K (fun y => y = 20 ∨ y = 29 ∨ y = 30 ∨ y = 31) h h72 := kk3.tr (by rw [← hh72]; exact z_K.put fi70 (by first | decide | simp | omega))
          have sg_Nh72 : z_K (fun y => y = 20) hL h72 := sg_NhL.tr (by rw [← hh72]; exact z_K.put fi70 (by simp))
          refine W.eq (g2 := F0 m 27 ls []) rfl ?_
          refine lv_iload hx hb d_M_readGroup_27 (lv_at hl 4 rfl) ?_
          refine lv_if_eq (tgt := 48) hx hb d_M_readGroup_29 (by decide) (fun c_29 => ?_) (fun c_29 => ?_)
          · -- 29: True
            have c_29 : fs = false := zb_f c_29
            have eXL : X = memL (fun fi p R => fldR (VR fi) S t n fi p R) S t n gr (c5 + 1) st p3 R3 := by rw [eX3, if_neg (fun z => absurd (c_29.symm.trans z.1) (by decide)), ec5]
            refine lv_iconst (v := 0) hx hb d_M_readGroup_48 (by decide) ?_
            refine lv_istore (lv' := [(4, .int 0), (0, .ref mo), (1, .int (nI pi)), (2, .int gr), (3, .int (nI st))]) hx hb d_M_readGroup_49 hl (by decide) rfl (fun ls hl => ?_)
            refine lv_aload_n hx hb d_M_readGroup_51 rfl (lv_at hl 1 rfl) ?_
            have wl9 := wl_le (t := t) (n := n) (p := sk t n p3) (by omega)
            refine z_callV (n := 0) (As := []) (rest := []) ⟨hx, hb, hml, hown, hts⟩ (m_word (t := t) l g h72 f72_mo f72_ma_1 hn hf (by omega)) (z_in k_902 rfl) (z_in k_7 rfl) (z_in k_899 rfl) (z_in k_901 rfl) (z_in ks_31 rfl) (by decide +kernel) ⟨by first | exact Nat.le_of_ble_eq_true rfl | (dsimp only; omega) | omega, by first | exact Nat.le_of_ble_eq_true rfl | (dsimp only; omega) | omega⟩ hK hE hw hA rfl f72_mo rfl hl.1 (Nat.le_of_ble_eq_true rfl) d_M_readGroup_52 ⟨by first | exact Nat.le_of_ble_eq_true rfl | (dsimp only; omega) | omega, by first | exact Nat.le_of_ble_eq_true rfl | (dsimp only; omega) | omega⟩ rfl (fun r9 h9 H locs hp hw => ?_)
            obtain ⟨r8, h8⟩ := hp
            subst r8
            subst h8
            refine W.eq (g2 := F0 m 55 ls [.int (nI (wl t n (sk t n p3)))]) rfl ?_
            refine lv_istore (lv' := [(5, .int (nI (wl t n (sk t n p3)))), (4, .int 0), (0, .ref mo), (1, .int (nI pi)), (2, .int gr), (3, .int (nI st))]) hx hb d_M_readGroup_55 hl (by decide) rfl (fun ls hl => ?_)
            refine lv_iload hx hb d_M_readGroup_57 (lv_at hl 0 rfl) ?_
            refine lv_if_ne (tgt := 66) hx hb d_M_readGroup_59 (by decide) (fun c_59 => ?_) (fun c_59 => ?_)
            · -- 59: True
              have c_59 : ¬ ((wl t n (sk t n p3)) = 0) := fun z => c_59 ((nI_eq (a := wl t n (sk t n p3)) (b := 0) (by omega) (by omega)).mpr z)
              have hlt9 : isLet (bt t n (sk t n p3)) = true := by apply Classical.byContradiction; intro z; have e9 : wl t n (sk t n p3) = 0 := (by unfold wl; rw [if_neg z]); omega
              have hwl : wl t n (sk t n p3) = we t n (sk t n p3) - (sk t n p3) := by unfold wl; rw [if_pos hlt9]
              obtain ⟨lw1, lw2, -⟩ := let_we (fun k hk => (hf k hk).1) hlt9
              refine lv_aload_n hx hb d_M_readGroup_66 rfl (lv_at hl 2 rfl) ?_
              refine lv_iload_n hx hb d_M_readGroup_67 rfl (lv_at hl 4 rfl) ?_
              refine lv_aload_n hx hb d_M_readGroup_68 rfl (lv_at hl 2 rfl) ?_
              refine z_get hx hb hts (z_lay i_M) hown hK hw f72_mo rfl 29 (by decide) (z_in k_800 rfl) (fun _ h9 => h9) rfl d_M_readGroup_69 ?_
              refine lv_iload hx hb d_M_readGroup_72 (lv_at hl 0 rfl) ?_
              refine z_callV (n := 3) (As := [.int gr, .int (nI (sk t n p3)), .int (nI (wl t n (sk t n p3)))]) (rest := []) ⟨hx, hb, hml, hown, hts⟩ (m_named (t := t) (n := n) (q := sk t n p3) (m9 := wl t n (sk t n p3)) l g h72 f72_mo f72_ma_1 hn hf (hSc.k kk72 (by omega) (by omega) (by omega)) hB (by omega)) (z_in k_963 rfl) (z_in k_7 rfl) (z_in k_960 rfl) (z_in k_962 rfl) (z_in ks_38 rfl) (by decide +kernel) ⟨by first | exact Nat.le_of_ble_eq_true rfl | (dsimp only; omega) | omega, by first | exact Nat.le_of_ble_eq_true rfl | (dsimp only; omega) | omega⟩ hK hE hw hA rfl f72_mo rfl hl.1 (Nat.le_of_ble_eq_true rfl) d_M_readGroup_74 ⟨by first | exact Nat.le_of_ble_eq_true rfl | (dsimp only; omega) | omega, by first | exact Nat.le_of_ble_eq_true rfl | (dsimp only; omega) | omega⟩ rfl (fun r9 h9 H locs hp hw => ?_)
              obtain ⟨r8, h8⟩ := hp
              subst r8
              subst h8
              refine W.eq (g2 := F0 m 77 ls [.int (lst S gr t (sk t n p3) (wl t n (sk t n p3)) S.1)]) rfl ?_
              rcases lst_is (S := S) (gr := gr) (t := t) (q := sk t n p3) (m := wl t n (sk t n p3)) S.1 with ⟨le9, ln9⟩ | ⟨f9, lf9, lm9, le9⟩
              · -- named False
                refine z_topi (y := (-1)) le9 ?_
                rw [hwl] at ln9
                have eXf : X = .inl (sk t n p3, R3) := by rw [eXL]; exact memL_nam (namR_none (fun i a _ => ln9 i a))
                refine lv_istore (lv' := [(6, .int (-1)), (5, .int (nI (wl t n (sk t n p3)))), (4, .int 0), (0, .ref mo), (1, .int (nI pi)), (2, .int gr), (3, .int (nI st))]) hx hb d_M_readGroup_77 hl (by decide) rfl (fun ls hl => ?_)
                refine lv_iload hx hb d_M_readGroup_79 (lv_at hl 0 rfl) ?_
                refine lv_iload_n hx hb d_M_readGroup_81 rfl (lv_at hl 6 rfl) ?_
                refine lv_icmp_lt (tgt := 96) hx hb d_M_readGroup_82 (by decide) (fun c_82 => ?_) (fun c_82 => ?_)
                · -- 82: True
                  refine lv_aload_n hx hb d_M_readGroup_96 rfl (lv_at hl 3 rfl) ?_
                  refine lv_aload_n hx hb d_M_readGroup_97 rfl (lv_at hl 3 rfl) ?_
                  refine z_get hx hb hts (z_lay i_M) hown hK hw f72_mo rfl 29 (by decide) (z_in k_800 rfl) (fun _ h9 => h9) rfl d_M_readGroup_98 ?_
                  refine z_callV (n := 1) (As := [.int (nI (sk t n p3))]) (rest := []) ⟨hx, hb, hml, hown, hts⟩ (m_fail l g h72 f72_mo) (z_in k_914 rfl) (z_in k_7 rfl) (z_in k_911 rfl) (z_in k_913 rfl) (z_in ks_32 rfl) (by decide +kernel) ⟨by first | exact Nat.le_of_ble_eq_true rfl | (dsimp only; omega) | omega, by first | exact Nat.le_of_ble_eq_true rfl | (dsimp only; omega) | omega⟩ hK hE hw hA rfl f72_mo rfl hl.1 (Nat.le_of_ble_eq_true rfl) d_M_readGroup_101 ⟨by first | exact Nat.le_of_ble_eq_true rfl | (dsimp only; omega) | omega, by first | exact Nat.le_of_ble_eq_true rfl | (dsimp only; omega) | omega⟩ rfl (fun r9 h9 H locs hp hw => ?_)
                  obtain ⟨r8, hh73⟩ := hp
                  subst r8
                  obtain ⟨h73, e8⟩ : ∃ x9, x9 = h9 := ⟨_, rfl⟩
                  subst e8
                  have f73_mo : h73 mo = some ((20, 0), .inr (11, mF ma cod tpd (nI n) (nI S.1) cls9 ffl fcl (nI R3.1) (nI (tbC R3.2 R3.1)) ous (nI (sk t n p3)) (nI (sk t n p3)))) := by rw [← hh73]; exact z_put_eq
                  have f73_ma_1 : h73 (ma 1) = some ((22, 0), .inl (g.2.1 1, 4000, .inl f)) := by rw [← hh73]; exact z_keep f72_mo f72_ma_1 (z_t1 (by decide))
                  have kk73 : z_K (fun y => y = 20 ∨ y = 29 ∨ y = 30 ∨ y = 31) h h73 := kk72.tr (by rw [← hh73]; exact z_K.put f72_mo (by first | decide | simp | omega))
                  have sg_Nh73 : z_K (fun y => y = 20) hL h73 := sg_Nh72.tr (by rw [← hh73]; exact z_K.put f72_mo (by simp))
                  refine W.eq (g2 := F0 m 104 ls []) rfl ?_
                  exact z_vret hx hb hr hlocks hw (by have eR : resJ X = nI (sk t n p3) := (by rw [eXf]; rfl); refine ⟨rfl, kk73, sk t n p3, R3, ?_, by omega, by omega, hN3.k sg_Nh73 (by omega) (by omega) (by omega), fun z => absurd (eR.symm.trans z) (nI_ne1 (by omega))⟩; rw [eR]; exact f73_mo) (by decide) (by decide) d_M_readGroup_104
                · -- 82: False
                  exact absurd (show (-1 : Int32) < nI st from (by rw [Int32.lt_iff_toInt_lt, nI_toInt (by omega)]; have : (-1 : Int32).toInt = -1 := rfl; omega)) c_82
              · -- named True
                refine z_topi (y := nI f9) le9 ?_
                rw [hwl] at lm9
                have hgf9 : fGr (S.2 f9) = gr := (mtc_yes.mp lm9).1
                refine lv_istore (lv' := [(6, .int (nI f9)), (5, .int (nI (wl t n (sk t n p3)))), (4, .int 0), (0, .ref mo), (1, .int (nI pi)), (2, .int gr), (3, .int (nI st))]) hx hb d_M_readGroup_77 hl (by decide) rfl (fun ls hl => ?_)
                refine lv_iload hx hb d_M_readGroup_79 (lv_at hl 0 rfl) ?_
                refine lv_iload_n hx hb d_M_readGroup_81 rfl (lv_at hl 6 rfl) ?_
                refine lv_icmp_lt (tgt := 96) hx hb d_M_readGroup_82 (by decide) (fun c_82 => ?_) (fun c_82 => ?_)
                · -- 82: True
                  have c_82 : f9 < st := (nI_ltI (a := f9) (b := st) (by omega) (by omega)).mp c_82
                  have eXf : X = .inl (sk t n p3, R3) := by rw [eXL]; exact memL_nam (namR_none (fun i a b => by cases hm : mtc S gr t (sk t n p3) (we t n (sk t n p3) - (sk t n p3)) i with | false => rfl | true => (have := mtc_unq hu a lf9 hm lm9; omega)))
                  refine lv_aload_n hx hb d_M_readGroup_96 rfl (lv_at hl 3 rfl) ?_
                  refine lv_aload_n hx hb d_M_readGroup_97 rfl (lv_at hl 3 rfl) ?_
                  refine z_get hx hb hts (z_lay i_M) hown hK hw f72_mo rfl 29 (by decide) (z_in k_800 rfl) (fun _ h9 => h9) rfl d_M_readGroup_98 ?_
                  refine z_callV (n := 1) (As := [.int (nI (sk t n p3))]) (rest := []) ⟨hx, hb, hml, hown, hts⟩ (m_fail l g h72 f72_mo) (z_in k_914 rfl) (z_in k_7 rfl) (z_in k_911 rfl) (z_in k_913 rfl) (z_in ks_32 rfl) (by decide +kernel) ⟨by first | exact Nat.le_of_ble_eq_true rfl | (dsimp only; omega) | omega, by first | exact Nat.le_of_ble_eq_true rfl | (dsimp only; omega) | omega⟩ hK hE hw hA rfl f72_mo rfl hl.1 (Nat.le_of_ble_eq_true rfl) d_M_readGroup_101 ⟨by first | exact Nat.le_of_ble_eq_true rfl | (dsimp only; omega) | omega, by first | exact Nat.le_of_ble_eq_true rfl | (dsimp only; omega) | omega⟩ rfl (fun r9 h9 H locs hp hw => ?_)
                  obtain ⟨r8, hh74⟩ := hp
                  subst r8
                  obtain ⟨h74, e8⟩ : ∃ x9, x9 = h9 := ⟨_, rfl⟩
                  subst e8
                  have f74_mo : h74 mo = some ((20, 0), .inr (11, mF ma cod tpd (nI n) (nI S.1) cls9 ffl fcl (nI R3.1) (nI (tbC R3.2 R3.1)) ous (nI (sk t n p3)) (nI (sk t n p3)))) := by rw [← hh74]; exact z_put_eq
                  have f74_ma_1 : h74 (ma 1) = some ((22, 0), .inl (g.2.1 1, 4000, .inl f)) := by rw [← hh74]; exact z_keep f72_mo f72_ma_1 (z_t1 (by decide))
                  have kk74 : z_K (fun y => y = 20 ∨ y = 29 ∨ y = 30 ∨ y = 31) h h74 := kk72.tr (by rw [← hh74]; exact z_K.put f72_mo (by first | decide | simp | omega))
                  have sg_Nh74 : z_K (fun y => y = 20) hL h74 := sg_Nh72.tr (by rw [← hh74]; exact z_K.put f72_mo (by simp))
                  refine W.eq (g2 := F0 m 104 ls []) rfl ?_
                  exact z_vret hx hb hr hlocks hw (by have eR : resJ X = nI (sk t n p3) := (by rw [eXf]; rfl); refine ⟨rfl, kk74, sk t n p3, R3, ?_, by omega, by omega, hN3.k sg_Nh74 (by omega) (by omega) (by omega), fun z => absurd (eR.symm.trans z) (nI_ne1 (by omega))⟩; rw [eR]; exact f74_mo) (by decide) (by decide) d_M_readGroup_104
                · -- 82: False
                  have c_82 : ¬ (f9 < st) := fun z => c_82 ((nI_ltI (a := f9) (b := st) (by omega) (by omega)).mpr z)
                  refine lv_aload_n hx hb d_M_readGroup_85 rfl (lv_at hl 3 rfl) ?_
                  refine lv_iload_n hx hb d_M_readGroup_86 rfl (lv_at hl 5 rfl) ?_
                  refine lv_iload_n hx hb d_M_readGroup_87 rfl (lv_at hl 6 rfl) ?_
                  refine lv_iload hx hb d_M_readGroup_88 (lv_at hl 0 rfl) ?_
                  refine z_callV (n := 3) (As := [.int gr, .int (nI st), .int (nI f9)]) (rest := []) ⟨hx, hb, hml, hown, hts⟩ (m_misses (a9 := st) (b9 := f9) l g h72 f72_mo (hSc.k kk72 (by omega) (by omega) (by omega)) hB (by omega) (by omega)) (z_in k_979 rfl) (z_in k_7 rfl) (z_in k_976 rfl) (z_in k_978 rfl) (z_in ks_41 rfl) (by decide +kernel) ⟨by first | exact Nat.le_of_ble_eq_true rfl | (dsimp only; omega) | omega, by first | exact Nat.le_of_ble_eq_true rfl | (dsimp only; omega) | omega⟩ hK hE hw hA rfl f72_mo rfl hl.1 (Nat.le_of_ble_eq_true rfl) d_M_readGroup_90 ⟨by first | exact Nat.le_of_ble_eq_true rfl | (dsimp only; omega) | omega, by first | exact Nat.le_of_ble_eq_true rfl | (dsimp only; omega) | omega⟩ rfl (fun r9 h9 H locs hp hw => ?_)
                  obtain ⟨r8, h8⟩ := hp
                  subst r8
                  subst h8
                  refine W.eq (g2 := F0 m 93 ls [.int (zb (hrqR S gr (f9 - st) st))]) rfl ?_
                  refine lv_if_eq (tgt := 105) hx hb d_M_readGroup_93 (by decide) (fun c_93 => ?_) (fun c_93 => ?_)
                  · -- 93: True
                    have c_93 : (hrqR S gr (f9 - st) st) = false := zb_f c_93
                    have enm : namR S t n gr st p3 = .inr (f9, we t n (sk t n p3)) := by rw [namR_find hu hs8 hlt9 lf9 (by omega) lm9, if_neg (by rw [c_93]; decide)]
                    refine lv_aload_n hx hb d_M_readGroup_105 rfl (lv_at hl 3 rfl) ?_
                    refine lv_dup hx hb d_M_readGroup_106 rfl ?_
                    refine z_get hx hb hts (z_lay i_M) hown hK hw f72_mo rfl 29 (by decide) (z_in k_800 rfl) (fun _ h9 => h9) rfl d_M_readGroup_107 ?_
                    refine lv_iload hx hb d_M_readGroup_110 (lv_at hl 1 rfl) ?_
                    refine lv_iadd hx hb d_M_readGroup_112 ?_
                    refine z_topi (y := nI ((sk t n p3) + (wl t n (sk t n p3)))) (nI_add (sk t n p3) (wl t n (sk t n p3))) ?_
                    refine z_putf (ty := .int) hx hb hts (z_lay i_M) t_M t_M_ok n_M hown hK hw f72_mo rfl 29 (by decide) (z_in k_800 rfl) (fun _ h9 => h9) rfl (by decide +kernel) rfl rfl (Nat.le_of_ble_eq_true rfl) d_M_readGroup_113 (fun H locs hw => ?_)
                    obtain ⟨h75, hh75⟩ : ∃ x9, z_put h72 mo (20, 0) (.inr (11, mF ma cod tpd (nI n) (nI S.1) cls9 ffl fcl (nI R3.1) (nI (tbC R3.2 R3.1)) ous (nI ((sk t n p3) + (wl t n (sk t n p3)))) (-1))) = x9 := ⟨_, rfl⟩
                    have hw : z_S g A s.heap h75 H locs := by rw [← hh75]; exact hw
                    have f75_mo : h75 mo = some ((20, 0), .inr (11, mF ma cod tpd (nI n) (nI S.1) cls9 ffl fcl (nI R3.1) (nI (tbC R3.2 R3.1)) ous (nI ((sk t n p3) + (wl t n (sk t n p3)))) (-1))) := by rw [← hh75]; exact z_put_eq
                    have f75_ma_1 : h75 (ma 1) = some ((22, 0), .inl (g.2.1 1, 4000, .inl f)) := by rw [← hh75]; exact z_keep f72_mo f72_ma_1 (z_t1 (by decide))
                    have kk75 : z_K (fun y => y = 20 ∨ y = 29 ∨ y = 30 ∨ y = 31) h h75 := kk72.tr (by rw [← hh75]; exact z_K.put f72_mo (by first | decide | simp | omega))
                    have sg_Nh75 : z_K (fun y => y = 20) hL h75 := sg_Nh72.tr (by rw [← hh75]; exact z_K.put f72_mo (by simp))
                    refine lv_iload hx hb d_M_readGroup_116 (lv_at hl 0 rfl) ?_
                    refine lv_iconst (v := 1) hx hb d_M_readGroup_118 (by decide) ?_
                    refine lv_iadd hx hb d_M_readGroup_119 ?_
                    refine z_topi (y := nI (f9 + 1)) (nI_add f9 1) ?_
                    refine lv_istore_n (lv' := [(3, .int (nI (f9 + 1))), (6, .int (nI f9)), (5, .int (nI (wl t n (sk t n p3)))), (4, .int 0), (0, .ref mo), (1, .int (nI pi)), (2, .int gr)]) hx hb d_M_readGroup_120 rfl hl (by decide) rfl (fun ls hl => ?_)
                    have hE9 : sk t n p3 + wl t n (sk t n p3) = we t n (sk t n p3) := by omega
                    have fe76 : h75 mo = some ((20, 0), .inr (11, mF ma cod tpd (nI n) (nI S.1) cls9 ffl fcl (nI R3.1) (nI (tbC R3.2 R3.1)) ous (nI (we t n (sk t n p3))) (-1))) := by rw [← hE9]; exact f75_mo
                    refine lv_aload_n hx hb d_M_readGroup_121 rfl (lv_at hl 4 rfl) ?_
                    refine lv_bipush (v := 58) hx hb d_M_readGroup_122 (by decide) ?_
                    refine z_callV (n := 1) (As := [.int 58]) (rest := []) ⟨hx, hb, hml, hown, hts⟩ (m_wantSign (t := t) l g h75 fe76 f75_ma_1 hn hf (by omega)) (z_in k_923 rfl) (z_in k_7 rfl) (z_in k_920 rfl) (z_in k_922 rfl) (z_in ks_33 rfl) (by decide +kernel) ⟨by first | exact Nat.le_of_ble_eq_true rfl | (dsimp only; omega) | omega, by first | exact Nat.le_of_ble_eq_true rfl | (dsimp only; omega) | omega⟩ hK hE hw hA rfl fe76 rfl hl.1 (Nat.le_of_ble_eq_true rfl) d_M_readGroup_124 ⟨by first | exact Nat.le_of_ble_eq_true rfl | (dsimp only; omega) | omega, by first | exact Nat.le_of_ble_eq_true rfl | (dsimp only; omega) | omega⟩ rfl (fun r9 h9 H locs hp hw => ?_)
                    have sa77 := sk_le (t := t) (n := n) (p := we t n (sk t n p3)) (by omega)
                    have sb77 := sk_ge t n (we t n (sk t n p3))
                    by_cases ws124 : bt t n (sk t n (we t n (sk t n p3))) = 58
                    · -- wanted True
                      have sc77 := bt_lt (c := 58) ws124
                      obtain ⟨r8, hp⟩ := hp
                      unfold wsP wsI at hp
                      rw [if_pos ⟨rfl, ws124⟩, if_pos rfl, if_pos ws124] at hp
                      have hp := And.intro r8 hp
                      obtain ⟨r8, hh78⟩ := hp
                      subst r8
                      obtain ⟨h78, e8⟩ : ∃ x9, x9 = h9 := ⟨_, rfl⟩
                      subst e8
                      have f78_mo : h78 mo = some ((20, 0), .inr (11, mF ma cod tpd (nI n) (nI S.1) cls9 ffl fcl (nI R3.1) (nI (tbC R3.2 R3.1)) ous (nI (sk t n (we t n (sk t n p3)) + 1)) (-1))) := by rw [← hh78]; exact z_put_eq
                      have f78_ma_1 : h78 (ma 1) = some ((22, 0), .inl (g.2.1 1, 4000, .inl f)) := by rw [← hh78]; exact z_keep fe76 f75_ma_1 (z_t1 (by decide))
                      have kk78 : z_K (fun y => y = 20 ∨ y = 29 ∨ y = 30 ∨ y = 31) h h78 := kk75.tr (by rw [← hh78]; exact z_K.put fe76 (by first | decide | simp | omega))
                      have sg_Nh78 : z_K (fun y => y = 20) hL h78 := sg_Nh75.tr (by rw [← hh78]; exact z_K.put fe76 (by simp))
                      refine W.eq (g2 := F0 m 127 ls []) rfl ?_
                      refine lv_aload_n hx hb d_M_readGroup_127 rfl (lv_at hl 4 rfl) ?_
                      refine z_get hx hb hts (z_lay i_M) hown hK hw f78_mo rfl 30 (by decide) (z_in k_801 rfl) (fun _ h9 => h9) rfl d_M_readGroup_128 ?_
                      refine lv_iconst (v := (-1)) hx hb d_M_readGroup_131 (by decide) ?_
                      refine lv_icmp_eq (tgt := 136) hx hb d_M_readGroup_132 (by decide) (fun c_132 => ?_) (fun c_132 => ?_)
                      · -- 132: True
                        have hS9 := hSc.k kk78 (by omega) (by omega) (by omega)
                        have hrw_0 : h78 (rw9 0) = some ((24, 0), .inl (g.2.1 1, 128, .inl (rf 0))) := hS9.2.1 0 (by omega)
                        refine lv_aload_n hx hb d_M_readGroup_136 rfl (lv_at hl 4 rfl) ?_
                        refine z_get hx hb hts (z_lay i_M) hown hK hw f78_mo rfl 5 (by decide) (z_in k_776 rfl) (fun _ h9 => h9) rfl d_M_readGroup_137 ?_
                        refine lv_iconst (v := 0) hx hb d_M_readGroup_140 (by decide) ?_
                        refine z_aldr hx hb hK hw hS9.1 5 rfl (by unfold vp_in; decide) d_M_readGroup_141 ?_
                        refine z_top (y := va_rf ((fun k => some (rw9 k)) 0)) (by rfl) ?_
                        refine z_top (y := .ref (rw9 0)) (rfl) ?_
                        refine lv_iload hx hb d_M_readGroup_142 (lv_at hl 1 rfl) ?_
                        refine z_iald hx hb hK hw hrw_0 1 rfl (vp_in_nI (by omega) (by omega)) d_M_readGroup_144 ?_
                        refine z_topi (y := (rf 0) f9) (by rw [nI_clamp (by omega)]) ?_
                        refine z_top (y := .int (fKi (S.2 f9))) (by rw [(hSc.2.2.2 f9 lf9).1]) ?_
                        refine lv_iconst (v := 2) hx hb d_M_readGroup_145 (by decide) ?_
                        refine lv_icmp_ne (tgt := 159) hx hb d_M_readGroup_146 (by decide) (fun c_146 => ?_) (fun c_146 => ?_)
                        · -- 146: True
                          refine lv_aload_n hx hb d_M_readGroup_159 rfl (lv_at hl 4 rfl) ?_
                          refine lv_iload_n hx hb d_M_readGroup_160 rfl (lv_at hl 5 rfl) ?_
                          refine lv_iload hx hb d_M_readGroup_161 (lv_at hl 1 rfl) ?_
                          have eV9 : fldR (VR f9) S t n f9 (sk t n (we t n (sk t n p3)) + 1) R3 = VR f9 (sk t n (we t n (sk t n p3)) + 1) R3 := by unfold fldR; rw [if_neg (show ¬ fKi (S.2 f9) = 2 from c_146)]
                          have hV9 := hV f9 lf9 hgf9 h78 (sk t n (we t n (sk t n p3)) + 1) R3 f78_mo f78_ma_1 (hSc.k kk78 (by omega) (by omega) (by omega)) (hN3.k sg_Nh78 (by omega) (by omega) (by omega)) hc4.2 (by omega) (by omega) (by omega)
                          rw [← eV9] at hV9
                          refine z_callV (n := 2) (As := [.int (nI pi), .int (nI f9)]) (rest := []) ⟨hx, hb, hml, hown, hts⟩ hV9 (z_in k_987 rfl) (z_in k_7 rfl) (z_in k_984 rfl) (z_in k_986 rfl) (z_in ks_43 rfl) (by decide +kernel) ⟨by first | exact Nat.le_of_ble_eq_true rfl | (dsimp only; omega) | omega, by first | exact Nat.le_of_ble_eq_true rfl | (dsimp only; omega) | omega⟩ hK hE hw hA rfl f78_mo rfl hl.1 (Nat.le_of_ble_eq_true rfl) d_M_readGroup_163 ⟨by first | exact Nat.le_of_ble_eq_true rfl | (dsimp only; omega) | omega, by first | exact Nat.le_of_ble_eq_true rfl | (dsimp only; omega) | omega⟩ rfl (fun r9 h9 H locs hp hw => ?_)
                          obtain ⟨r8, kk8, p4, R4, m4, le4, ge4, n4, im4⟩ := hp
                          subst r8
                          obtain ⟨h79, e7⟩ : ∃ x9, x9 = h9 := ⟨_, rfl⟩
                          subst e7
                          have g79_ma_1 : h79 (ma 1) = some ((22, 0), .inl (g.2.1 1, 4000, .inl f)) := kk8 _ _ _ f78_ma_1 (by simp)
                          have kk79 : z_K (fun y => y = 20 ∨ y = 29 ∨ y = 30 ∨ y = 31) h h79 := kk78.tr kk8
                          have sg_Nh79 : z_K (fun y => y = 20) h79 h79 := z_K.rf
                          refine W.eq (g2 := F0 m 166 ls []) rfl ?_
                          refine lv_aload_n hx hb d_M_readGroup_166 rfl (lv_at hl 4 rfl) ?_
                          refine z_callV (n := 0) (As := []) (rest := []) ⟨hx, hb, hml, hown, hts⟩ (m_blanks (t := t) l g h79 m4 g79_ma_1 hn hf (by omega)) (z_in k_885 rfl) (z_in k_7 rfl) (z_in k_882 rfl) (z_in k_884 rfl) (z_in ks_27 rfl) (by decide +kernel) ⟨by first | exact Nat.le_of_ble_eq_true rfl | (dsimp only; omega) | omega, by first | exact Nat.le_of_ble_eq_true rfl | (dsimp only; omega) | omega⟩ hK hE hw hA rfl m4 rfl hl.1 (Nat.le_of_ble_eq_true rfl) d_M_readGroup_167 ⟨by first | exact Nat.le_of_ble_eq_true rfl | (dsimp only; omega) | omega, by first | exact Nat.le_of_ble_eq_true rfl | (dsimp only; omega) | omega⟩ rfl (fun r9 h9 H locs hp hw => ?_)
                          have sq80 := sk_le (t := t) (n := n) (p := p4) (by omega)
                          have sr80 := sk_ge t n p4
                          obtain ⟨r8, hh81⟩ := hp
                          subst r8
                          obtain ⟨h81, e8⟩ : ∃ x9, x9 = h9 := ⟨_, rfl⟩
                          subst e8
                          have f81_mo : h81 mo = some ((20, 0), .inr (11, mF ma cod tpd (nI n) (nI S.1) cls9 ffl fcl (nI R4.1) (nI (tbC R4.2 R4.1)) ous (nI (sk t n p4)) (resJ (fldR (VR f9) S t n f9 (sk t n (we t n (sk t n p3)) + 1) R3)))) := by rw [← hh81]; exact z_put_eq
                          have f81_ma_1 : h81 (ma 1) = some ((22, 0), .inl (g.2.1 1, 4000, .inl f)) := by rw [← hh81]; exact z_keep m4 g79_ma_1 (z_t1 (by decide))
                          have kk81 : z_K (fun y => y = 20 ∨ y = 29 ∨ y = 30 ∨ y = 31) h h81 := kk79.tr (by rw [← hh81]; exact z_K.put m4 (by first | decide | simp | omega))
                          have sg_Nh81 : z_K (fun y => y = 20) h79 h81 := sg_Nh79.tr (by rw [← hh81]; exact z_K.put m4 (by simp))
                          refine W.eq (g2 := F0 m 170 ls []) rfl ?_
                          by_cases e30 : resJ (fldR (VR f9) S t n f9 (sk t n (we t n (sk t n p3)) + 1) R3) = -1
                          · -- read True
                            obtain ⟨eF4, b4, t4, z4⟩ := im4 e30
                            have fi82 : h81 mo = some ((20, 0), .inr (11, mF ma cod tpd (nI n) (nI S.1) cls9 ffl fcl (nI R4.1) (nI (tbC R4.2 R4.1)) ous (nI (sk t n p4)) (-1))) := by have z9 := f81_mo; rw [e30] at z9; exact z9
                            have eX8 : X = if bt t n (sk t n p4) = 44 then memL (fun fi p R => fldR (VR fi) S t n fi p R) S t n gr c5 (f9 + 1) (sk t n p4 + 1) R4 else memE S t n gr (f9 + 1) (sk t n p4) R4 := by rw [eXL]; exact memL_ok (F := (fun fi p R => fldR (VR fi) S t n fi p R)) enm ws124 eF4
                            refine lv_aload_n hx hb d_M_readGroup_170 rfl (lv_at hl 4 rfl) ?_
                            refine z_get hx hb hts (z_lay i_M) hown hK hw fi82 rfl 30 (by decide) (z_in k_801 rfl) (fun _ h9 => h9) rfl d_M_readGroup_171 ?_
                            refine lv_iconst (v := (-1)) hx hb d_M_readGroup_174 (by decide) ?_
                            refine lv_icmp_ne (tgt := 194) hx hb d_M_readGroup_175 (by decide) (fun c_175 => ?_) (fun c_175 => ?_)
                            · -- 175: True
                              exact absurd rfl c_175
                            · -- 175: False
                              refine lv_aload_n hx hb d_M_readGroup_178 rfl (lv_at hl 4 rfl) ?_
                              refine z_callV (n := 0) (As := []) (rest := []) ⟨hx, hb, hml, hown, hts⟩ (m_look (t := t) l g h81 fi82 f81_ma_1 hn hf (by omega)) (z_in k_889 rfl) (z_in k_7 rfl) (z_in k_886 rfl) (z_in k_888 rfl) (z_in ks_28 rfl) (by decide +kernel) ⟨by first | exact Nat.le_of_ble_eq_true rfl | (dsimp only; omega) | omega, by first | exact Nat.le_of_ble_eq_true rfl | (dsimp only; omega) | omega⟩ hK hE hw hA rfl fi82 rfl hl.1 (Nat.le_of_ble_eq_true rfl) d_M_readGroup_179 ⟨by first | exact Nat.le_of_ble_eq_true rfl | (dsimp only; omega) | omega, by first | exact Nat.le_of_ble_eq_true rfl | (dsimp only; omega) | omega⟩ rfl (fun r9 h9 H locs hp hw => ?_)
                              obtain ⟨r8, h8⟩ := hp
                              subst r8
                              subst h8
                              refine W.eq (g2 := F0 m 182 ls [.int (bt t n (sk t n p4))]) rfl ?_
                              refine lv_bipush (v := 125) hx hb d_M_readGroup_182 (by decide) ?_
                              refine lv_icmp_ne (tgt := 194) hx hb d_M_readGroup_184 (by decide) (fun c_184 => ?_) (fun c_184 => ?_)
                              · -- 184: True
                                refine lv_aload_n hx hb d_M_readGroup_194 rfl (lv_at hl 4 rfl) ?_
                                refine lv_bipush (v := 44) hx hb d_M_readGroup_195 (by decide) ?_
                                refine z_callV (n := 1) (As := [.int 44]) (rest := []) ⟨hx, hb, hml, hown, hts⟩ (m_wantSign (t := t) l g h81 fi82 f81_ma_1 hn hf (by omega)) (z_in k_923 rfl) (z_in k_7 rfl) (z_in k_920 rfl) (z_in k_922 rfl) (z_in ks_33 rfl) (by decide +kernel) ⟨by first | exact Nat.le_of_ble_eq_true rfl | (dsimp only; omega) | omega, by first | exact Nat.le_of_ble_eq_true rfl | (dsimp only; omega) | omega⟩ hK hE hw hA rfl fi82 rfl hl.1 (Nat.le_of_ble_eq_true rfl) d_M_readGroup_197 ⟨by first | exact Nat.le_of_ble_eq_true rfl | (dsimp only; omega) | omega, by first | exact Nat.le_of_ble_eq_true rfl | (dsimp only; omega) | omega⟩ rfl (fun r9 h9 H locs hp hw => ?_)
                                have sa83 := sk_le (t := t) (n := n) (p := sk t n p4) (by omega)
                                have sb83 := sk_ge t n (sk t n p4)
                                by_cases ws197 : bt t n (sk t n (sk t n p4)) = 44
                                · -- wanted True
                                  have sc83 := bt_lt (c := 44) ws197
                                  obtain ⟨r8, hp⟩ := hp
                                  unfold wsP wsI at hp
                                  rw [if_pos ⟨rfl, ws197⟩, if_pos rfl, if_pos ws197] at hp
                                  have hp := And.intro r8 hp
                                  obtain ⟨r8, hh84⟩ := hp
                                  subst r8
                                  obtain ⟨h84, e8⟩ : ∃ x9, x9 = h9 := ⟨_, rfl⟩
                                  subst e8
                                  have f84_mo : h84 mo = some ((20, 0), .inr (11, mF ma cod tpd (nI n) (nI S.1) cls9 ffl fcl (nI R4.1) (nI (tbC R4.2 R4.1)) ous (nI (sk t n (sk t n p4) + 1)) (-1))) := by rw [← hh84]; exact z_put_eq
                                  have f84_ma_1 : h84 (ma 1) = some ((22, 0), .inl (g.2.1 1, 4000, .inl f)) := by rw [← hh84]; exact z_keep fi82 f81_ma_1 (z_t1 (by decide))
                                  have kk84 : z_K (fun y => y = 20 ∨ y = 29 ∨ y = 30 ∨ y = 31) h h84 := kk81.tr (by rw [← hh84]; exact z_K.put fi82 (by first | decide | simp | omega))
                                  have sg_Nh84 : z_K (fun y => y = 20) h79 h84 := sg_Nh81.tr (by rw [← hh84]; exact z_K.put fi82 (by simp))
                                  refine W.eq (g2 := F0 m 200 ls []) rfl ?_
                                  refine lv_goto (tgt := 15) hx hb d_M_readGroup_200 (by decide) ?_
                                  refine ih_15 c5 (f9 + 1) false (sk t n (sk t n p4) + 1) (-1) R4 h84 _ _ _ f84_mo f84_ma_1 (⟨by omega, by omega, by omega⟩) kk84 (n4.k sg_Nh84 (by omega) (by omega) (by omega)) (Or.inl ⟨by omega, z4⟩) (Or.inr ⟨rfl, by rw [eX8, if_pos (by rw [← sk_sk]; exact ws197), if_neg (fun z => by cases z.1), sk_sk], by rw [sk_sk] at *; omega, by rw [sk_sk] at *; omega⟩) ?_ hw (lv_sub hl [4, 5, 6, 0, 3] rfl)
                                  omega
                                · -- wanted False
                                  have il83 : ¬ nI (sk t n (sk t n p4)) = (-1 : Int32) := nI_ne1 (by omega)
                                  obtain ⟨r8, hp⟩ := hp
                                  unfold wsP wsI at hp
                                  rw [if_neg (fun z => ws197 z.2), if_pos rfl, if_neg ws197] at hp
                                  have hp := And.intro r8 hp
                                  obtain ⟨r8, hh85⟩ := hp
                                  subst r8
                                  obtain ⟨h85, e8⟩ : ∃ x9, x9 = h9 := ⟨_, rfl⟩
                                  subst e8
                                  have f85_mo : h85 mo = some ((20, 0), .inr (11, mF ma cod tpd (nI n) (nI S.1) cls9 ffl fcl (nI R4.1) (nI (tbC R4.2 R4.1)) ous (nI (sk t n (sk t n p4))) (nI (sk t n (sk t n p4))))) := by rw [← hh85]; exact z_put_eq
                                  have f85_ma_1 : h85 (ma 1) = some ((22, 0), .inl (g.2.1 1, 4000, .inl f)) := by rw [← hh85]; exact z_keep fi82 f81_ma_1 (z_t1 (by decide))
                                  have kk85 : z_K (fun y => y = 20 ∨ y = 29 ∨ y = 30 ∨ y = 31) h h85 := kk81.tr (by rw [← hh85]; exact z_K.put fi82 (by first | decide | simp | omega))
                                  have sg_Nh85 : z_K (fun y => y = 20) h79 h85 := sg_Nh81.tr (by rw [← hh85]; exact z_K.put fi82 (by simp))
                                  refine W.eq (g2 := F0 m 200 ls []) rfl ?_
                                  refine lv_goto (tgt := 15) hx hb d_M_readGroup_200 (by decide) ?_
                                  refine ih_15 c5 (f9 + 1) false (sk t n (sk t n p4)) (nI (sk t n (sk t n p4))) R4 h85 _ _ _ f85_mo f85_ma_1 (⟨by omega, by omega, by omega⟩) kk85 (n4.k sg_Nh85 (by omega) (by omega) (by omega)) (Or.inr il83) (Or.inl ⟨il83, by rw [eX8, if_neg (by rw [← sk_sk]; exact ws197), memE_no (by rw [sk_sk]; exact c_184)]; rfl⟩) ?_ hw (lv_sub hl [4, 5, 6, 0, 3] rfl)
                                  omega
                              · -- 184: False
                                have l187 := bt_lt (c := 125) (show bt t n (sk t n p4) = 125 by simpa using c_184)
                                refine lv_aload_n hx hb d_M_readGroup_187 rfl (lv_at hl 4 rfl) ?_
                                refine lv_iload_n hx hb d_M_readGroup_188 rfl (lv_at hl 6 rfl) ?_
                                refine lv_iload_n hx hb d_M_readGroup_189 rfl (lv_at hl 0 rfl) ?_
                                refine z_callV (n := 2) (As := [.int gr, .int (nI (f9 + 1))]) (rest := []) ⟨hx, hb, hml, hown, hts⟩ (m_end (a9 := f9 + 1) l g h81 fi82 (hSc.k kk81 (by omega) (by omega) (by omega)) hB (by omega)) (z_in k_975 rfl) (z_in k_7 rfl) (z_in k_972 rfl) (z_in k_974 rfl) (z_in ks_40 rfl) (by decide +kernel) ⟨by first | exact Nat.le_of_ble_eq_true rfl | (dsimp only; omega) | omega, by first | exact Nat.le_of_ble_eq_true rfl | (dsimp only; omega) | omega⟩ hK hE hw hA rfl fi82 rfl hl.1 (Nat.le_of_ble_eq_true rfl) d_M_readGroup_190 ⟨by first | exact Nat.le_of_ble_eq_true rfl | (dsimp only; omega) | omega, by first | exact Nat.le_of_ble_eq_true rfl | (dsimp only; omega) | omega⟩ rfl (fun r9 h9 H locs hp hw => ?_)
                                obtain ⟨r8, hh86⟩ := hp
                                subst r8
                                obtain ⟨h86, e8⟩ : ∃ x9, x9 = h9 := ⟨_, rfl⟩
                                subst e8
                                have f86_mo : h86 mo = some ((20, 0), .inr (11, mF ma cod tpd (nI n) (nI S.1) cls9 ffl fcl (nI R4.1) (nI (tbC R4.2 R4.1)) ous (nI (sk t n p4 + 1)) (if hrq S gr (f9 + 1) = true then nI (sk t n p4) else -1))) := by rw [← hh86]; exact z_put_eq
                                have f86_ma_1 : h86 (ma 1) = some ((22, 0), .inl (g.2.1 1, 4000, .inl f)) := by rw [← hh86]; exact z_keep fi82 f81_ma_1 (z_t1 (by decide))
                                have kk86 : z_K (fun y => y = 20 ∨ y = 29 ∨ y = 30 ∨ y = 31) h h86 := kk81.tr (by rw [← hh86]; exact z_K.put fi82 (by first | decide | simp | omega))
                                have sg_Nh86 : z_K (fun y => y = 20) h79 h86 := sg_Nh81.tr (by rw [← hh86]; exact z_K.put fi82 (by simp))
                                refine W.eq (g2 := F0 m 193 ls []) rfl ?_
                                exact z_vret hx hb hr hlocks hw (by have eX9 : X = if hrq S gr (f9 + 1) = true then .inl (sk t n p4, R4) else .inr (sk t n p4 + 1, R4) := (by have z9 : bt t n (sk t n p4) = 125 := (by simpa using c_184); rw [eX8, if_neg (by rw [z9]; decide), memE_ok (by rw [sk_sk]; exact z9), sk_sk]); have eR : resJ X = if hrq S gr (f9 + 1) = true then nI (sk t n p4) else -1 := (by rw [eX9]; split <;> rfl); refine ⟨rfl, kk86, sk t n p4 + 1, R4, ?_, by omega, by omega, n4.k sg_Nh86 (by omega) (by omega) (by omega), fun z => by rw [eR] at z; by_cases z2 : hrq S gr (f9 + 1) = true; (· rw [if_pos z2] at z; exact absurd z (nI_ne1 (by omega))); (· exact ⟨by rw [eX9, if_neg z2], by omega, by omega, z4⟩)⟩; rw [eR]; exact f86_mo) (by decide) (by decide) d_M_readGroup_193
                          · -- read False
                            have eX7 : resJ X = resJ (fldR (VR f9) S t n f9 (sk t n (we t n (sk t n p3)) + 1) R3) := by obtain ⟨F9, eF9⟩ := resJ_inl e30; rw [eXL, memL_no (F := (fun fi p R => fldR (VR fi) S t n fi p R)) enm ws124 eF9, eF9]
                            refine lv_aload_n hx hb d_M_readGroup_170 rfl (lv_at hl 4 rfl) ?_
                            refine z_get hx hb hts (z_lay i_M) hown hK hw f81_mo rfl 30 (by decide) (z_in k_801 rfl) (fun _ h9 => h9) rfl d_M_readGroup_171 ?_
                            refine lv_iconst (v := (-1)) hx hb d_M_readGroup_174 (by decide) ?_
                            refine lv_icmp_ne (tgt := 194) hx hb d_M_readGroup_175 (by decide) (fun c_175 => ?_) (fun c_175 => ?_)
                            · -- 175: True
                              refine lv_aload_n hx hb d_M_readGroup_194 rfl (lv_at hl 4 rfl) ?_
                              refine lv_bipush (v := 44) hx hb d_M_readGroup_195 (by decide) ?_
                              refine z_callV (n := 1) (As := [.int 44]) (rest := []) ⟨hx, hb, hml, hown, hts⟩ (m_wantSign (t := t) l g h81 f81_mo f81_ma_1 hn hf (by omega)) (z_in k_923 rfl) (z_in k_7 rfl) (z_in k_920 rfl) (z_in k_922 rfl) (z_in ks_33 rfl) (by decide +kernel) ⟨by first | exact Nat.le_of_ble_eq_true rfl | (dsimp only; omega) | omega, by first | exact Nat.le_of_ble_eq_true rfl | (dsimp only; omega) | omega⟩ hK hE hw hA rfl f81_mo rfl hl.1 (Nat.le_of_ble_eq_true rfl) d_M_readGroup_197 ⟨by first | exact Nat.le_of_ble_eq_true rfl | (dsimp only; omega) | omega, by first | exact Nat.le_of_ble_eq_true rfl | (dsimp only; omega) | omega⟩ rfl (fun r9 h9 H locs hp hw => ?_)
                              have sa87 := sk_le (t := t) (n := n) (p := sk t n p4) (by omega)
                              have sb87 := sk_ge t n (sk t n p4)
                              obtain ⟨r8, hp⟩ := hp
                              unfold wsP wsI at hp
                              rw [if_neg (fun z => e30 z.1), if_neg e30] at hp
                              have hp := And.intro r8 hp
                              obtain ⟨r8, hh88⟩ := hp
                              subst r8
                              obtain ⟨h88, e8⟩ : ∃ x9, x9 = h9 := ⟨_, rfl⟩
                              subst e8
                              have f88_mo : h88 mo = some ((20, 0), .inr (11, mF ma cod tpd (nI n) (nI S.1) cls9 ffl fcl (nI R4.1) (nI (tbC R4.2 R4.1)) ous (nI (sk t n (sk t n p4))) (resJ (fldR (VR f9) S t n f9 (sk t n (we t n (sk t n p3)) + 1) R3)))) := by rw [← hh88]; exact z_put_eq
                              have f88_ma_1 : h88 (ma 1) = some ((22, 0), .inl (g.2.1 1, 4000, .inl f)) := by rw [← hh88]; exact z_keep f81_mo f81_ma_1 (z_t1 (by decide))
                              have kk88 : z_K (fun y => y = 20 ∨ y = 29 ∨ y = 30 ∨ y = 31) h h88 := kk81.tr (by rw [← hh88]; exact z_K.put f81_mo (by first | decide | simp | omega))
                              have sg_Nh88 : z_K (fun y => y = 20) h79 h88 := sg_Nh81.tr (by rw [← hh88]; exact z_K.put f81_mo (by simp))
                              refine W.eq (g2 := F0 m 200 ls []) rfl ?_
                              refine lv_goto (tgt := 15) hx hb d_M_readGroup_200 (by decide) ?_
                              refine ih_15 c5 (f9 + 1) false (sk t n (sk t n p4)) (resJ (fldR (VR f9) S t n f9 (sk t n (we t n (sk t n p3)) + 1) R3)) R4 h88 _ _ _ f88_mo f88_ma_1 (⟨by omega, by omega, by omega⟩) kk88 (n4.k sg_Nh88 (by omega) (by omega) (by omega)) (Or.inr e30) (Or.inl ⟨e30, eX7⟩) ?_ hw (lv_sub hl [4, 5, 6, 0, 3] rfl)
                              omega
                            · -- 175: False
                              exact absurd (by simpa using c_175) e30
                        · -- 146: False
                          refine lv_aload_n hx hb d_M_readGroup_149 rfl (lv_at hl 4 rfl) ?_
                          refine lv_iload_n hx hb d_M_readGroup_150 rfl (lv_at hl 5 rfl) ?_
                          refine lv_iload hx hb d_M_readGroup_151 (lv_at hl 1 rfl) ?_
                          have eV9 : fldR (VR f9) S t n f9 (sk t n (we t n (sk t n p3)) + 1) R3 = if bt t n (sk t n (sk t n (we t n (sk t n p3)) + 1)) = 91 then (if bt t n (sk t n (sk t n (sk t n (we t n (sk t n p3)) + 1) + 1)) = 93 then sgnR t n 93 (sk t n (sk t n (sk t n (we t n (sk t n p3)) + 1) + 1)) R3 else rowL (VR f9) t n 4001 (sk t n (sk t n (sk t n (we t n (sk t n p3)) + 1) + 1)) R3) else .inl (sk t n (sk t n (we t n (sk t n p3)) + 1), R3) := by unfold fldR; rw [if_pos (show fKi (S.2 f9) = 2 by simpa using c_146)]
                          refine z_callV (n := 2) (As := [.int (nI pi), .int (nI f9)]) (rest := []) ⟨hx, hb, hml, hown, hts⟩ (m_readRow_of (t := t) (VR := VR f9) (pi := pi) (fi := f9) (R := R3) (p := sk t n (we t n (sk t n p3)) + 1) l g h78 f78_mo f78_ma_1 hn hf (by omega) (hSc.k kk78 (by omega) (by omega) (by omega)) (hN3.k sg_Nh78 (by omega) (by omega) (by omega)) hc4.2 (by omega) (by omega) eV9 (hV f9 lf9 hgf9)) (z_in k_983 rfl) (z_in k_7 rfl) (z_in k_980 rfl) (z_in k_982 rfl) (z_in ks_42 rfl) (by decide +kernel) ⟨by first | exact Nat.le_of_ble_eq_true rfl | (dsimp only; omega) | omega, by first | exact Nat.le_of_ble_eq_true rfl | (dsimp only; omega) | omega⟩ hK hE hw hA rfl f78_mo rfl hl.1 (Nat.le_of_ble_eq_true rfl) d_M_readGroup_153 ⟨by first | exact Nat.le_of_ble_eq_true rfl | (dsimp only; omega) | omega, by first | exact Nat.le_of_ble_eq_true rfl | (dsimp only; omega) | omega⟩ rfl (fun r9 h9 H locs hp hw => ?_)
                          obtain ⟨r8, kk8, p4, R4, m4, le4, ge4, n4, im4⟩ := hp
                          subst r8
                          obtain ⟨h89, e7⟩ : ∃ x9, x9 = h9 := ⟨_, rfl⟩
                          subst e7
                          have g89_ma_1 : h89 (ma 1) = some ((22, 0), .inl (g.2.1 1, 4000, .inl f)) := kk8 _ _ _ f78_ma_1 (by simp)
                          have kk89 : z_K (fun y => y = 20 ∨ y = 29 ∨ y = 30 ∨ y = 31) h h89 := kk78.tr kk8
                          have sg_Nh89 : z_K (fun y => y = 20) h89 h89 := z_K.rf
                          refine W.eq (g2 := F0 m 156 ls []) rfl ?_
                          refine lv_goto (tgt := 166) hx hb d_M_readGroup_156 (by decide) ?_
                          refine lv_aload_n hx hb d_M_readGroup_166 rfl (lv_at hl 4 rfl) ?_
                          refine z_callV (n := 0) (As := []) (rest := []) ⟨hx, hb, hml, hown, hts⟩ (m_blanks (t := t) l g h89 m4 g89_ma_1 hn hf (by omega)) (z_in k_885 rfl) (z_in k_7 rfl) (z_in k_882 rfl) (z_in k_884 rfl) (z_in ks_27 rfl) (by decide +kernel) ⟨by first | exact Nat.le_of_ble_eq_true rfl | (dsimp only; omega) | omega, by first | exact Nat.le_of_ble_eq_true rfl | (dsimp only; omega) | omega⟩ hK hE hw hA rfl m4 rfl hl.1 (Nat.le_of_ble_eq_true rfl) d_M_readGroup_167 ⟨by first | exact Nat.le_of_ble_eq_true rfl | (dsimp only; omega) | omega, by first | exact Nat.le_of_ble_eq_true rfl | (dsimp only; omega) | omega⟩ rfl (fun r9 h9 H locs hp hw => ?_)
                          have sq90 := sk_le (t := t) (n := n) (p := p4) (by omega)
                          have sr90 := sk_ge t n p4
                          obtain ⟨r8, hh91⟩ := hp
                          subst r8
                          obtain ⟨h91, e8⟩ : ∃ x9, x9 = h9 := ⟨_, rfl⟩
                          subst e8
                          have f91_mo : h91 mo = some ((20, 0), .inr (11, mF ma cod tpd (nI n) (nI S.1) cls9 ffl fcl (nI R4.1) (nI (tbC R4.2 R4.1)) ous (nI (sk t n p4)) (resJ (fldR (VR f9) S t n f9 (sk t n (we t n (sk t n p3)) + 1) R3)))) := by rw [← hh91]; exact z_put_eq
                          have f91_ma_1 : h91 (ma 1) = some ((22, 0), .inl (g.2.1 1, 4000, .inl f)) := by rw [← hh91]; exact z_keep m4 g89_ma_1 (z_t1 (by decide))
                          have kk91 : z_K (fun y => y = 20 ∨ y = 29 ∨ y = 30 ∨ y = 31) h h91 := kk89.tr (by rw [← hh91]; exact z_K.put m4 (by first | decide | simp | omega))
                          have sg_Nh91 : z_K (fun y => y = 20) h89 h91 := sg_Nh89.tr (by rw [← hh91]; exact z_K.put m4 (by simp))
                          refine W.eq (g2 := F0 m 170 ls []) rfl ?_
                          by_cases e30 : resJ (fldR (VR f9) S t n f9 (sk t n (we t n (sk t n p3)) + 1) R3) = -1
                          · -- read True
                            obtain ⟨eF4, b4, t4, z4⟩ := im4 e30
                            have fi92 : h91 mo = some ((20, 0), .inr (11, mF ma cod tpd (nI n) (nI S.1) cls9 ffl fcl (nI R4.1) (nI (tbC R4.2 R4.1)) ous (nI (sk t n p4)) (-1))) := by have z9 := f91_mo; rw [e30] at z9; exact z9
                            have eX8 : X = if bt t n (sk t n p4) = 44 then memL (fun fi p R => fldR (VR fi) S t n fi p R) S t n gr c5 (f9 + 1) (sk t n p4 + 1) R4 else memE S t n gr (f9 + 1) (sk t n p4) R4 := by rw [eXL]; exact memL_ok (F := (fun fi p R => fldR (VR fi) S t n fi p R)) enm ws124 eF4
                            refine lv_aload_n hx hb d_M_readGroup_170 rfl (lv_at hl 4 rfl) ?_
                            refine z_get hx hb hts (z_lay i_M) hown hK hw fi92 rfl 30 (by decide) (z_in k_801 rfl) (fun _ h9 => h9) rfl d_M_readGroup_171 ?_
                            refine lv_iconst (v := (-1)) hx hb d_M_readGroup_174 (by decide) ?_
                            refine lv_icmp_ne (tgt := 194) hx hb d_M_readGroup_175 (by decide) (fun c_175 => ?_) (fun c_175 => ?_)
                            · -- 175: True
                              exact absurd rfl c_175
                            · -- 175: False
                              refine lv_aload_n hx hb d_M_readGroup_178 rfl (lv_at hl 4 rfl) ?_
                              refine z_callV (n := 0) (As := []) (rest := []) ⟨hx, hb, hml, hown, hts⟩ (m_look (t := t) l g h91 fi92 f91_ma_1 hn hf (by omega)) (z_in k_889 rfl) (z_in k_7 rfl) (z_in k_886 rfl) (z_in k_888 rfl) (z_in ks_28 rfl) (by decide +kernel) ⟨by first | exact Nat.le_of_ble_eq_true rfl | (dsimp only; omega) | omega, by first | exact Nat.le_of_ble_eq_true rfl | (dsimp only; omega) | omega⟩ hK hE hw hA rfl fi92 rfl hl.1 (Nat.le_of_ble_eq_true rfl) d_M_readGroup_179 ⟨by first | exact Nat.le_of_ble_eq_true rfl | (dsimp only; omega) | omega, by first | exact Nat.le_of_ble_eq_true rfl | (dsimp only; omega) | omega⟩ rfl (fun r9 h9 H locs hp hw => ?_)
                              obtain ⟨r8, h8⟩ := hp
                              subst r8
                              subst h8
                              refine W.eq (g2 := F0 m 182 ls [.int (bt t n (sk t n p4))]) rfl ?_
                              refine lv_bipush (v := 125) hx hb d_M_readGroup_182 (by decide) ?_
                              refine lv_icmp_ne (tgt := 194) hx hb d_M_readGroup_184 (by decide) (fun c_184 => ?_) (fun c_184 => ?_)
                              · -- 184: True
                                refine lv_aload_n hx hb d_M_readGroup_194 rfl (lv_at hl 4 rfl) ?_
                                refine lv_bipush (v := 44) hx hb d_M_readGroup_195 (by decide) ?_
                                refine z_callV (n := 1) (As := [.int 44]) (rest := []) ⟨hx, hb, hml, hown, hts⟩ (m_wantSign (t := t) l g h91 fi92 f91_ma_1 hn hf (by omega)) (z_in k_923 rfl) (z_in k_7 rfl) (z_in k_920 rfl) (z_in k_922 rfl) (z_in ks_33 rfl) (by decide +kernel) ⟨by first | exact Nat.le_of_ble_eq_true rfl | (dsimp only; omega) | omega, by first | exact Nat.le_of_ble_eq_true rfl | (dsimp only; omega) | omega⟩ hK hE hw hA rfl fi92 rfl hl.1 (Nat.le_of_ble_eq_true rfl) d_M_readGroup_197 ⟨by first | exact Nat.le_of_ble_eq_true rfl | (dsimp only; omega) | omega, by first | exact Nat.le_of_ble_eq_true rfl | (dsimp only; omega) | omega⟩ rfl (fun r9 h9 H locs hp hw => ?_)
                                have sa93 := sk_le (t := t) (n := n) (p := sk t n p4) (by omega)
                                have sb93 := sk_ge t n (sk t n p4)
                                by_cases ws197 : bt t n (sk t n (sk t n p4)) = 44
                                · -- wanted True
                                  have sc93 := bt_lt (c := 44) ws197
                                  obtain ⟨r8, hp⟩ := hp
                                  unfold wsP wsI at hp
                                  rw [if_pos ⟨rfl, ws197⟩, if_pos rfl, if_pos ws197] at hp
                                  have hp := And.intro r8 hp
                                  obtain ⟨r8, hh94⟩ := hp
                                  subst r8
                                  obtain ⟨h94, e8⟩ : ∃ x9, x9 = h9 := ⟨_, rfl⟩
                                  subst e8
                                  have f94_mo : h94 mo = some ((20, 0), .inr (11, mF ma cod tpd (nI n) (nI S.1) cls9 ffl fcl (nI R4.1) (nI (tbC R4.2 R4.1)) ous (nI (sk t n (sk t n p4) + 1)) (-1))) := by rw [← hh94]; exact z_put_eq
                                  have f94_ma_1 : h94 (ma 1) = some ((22, 0), .inl (g.2.1 1, 4000, .inl f)) := by rw [← hh94]; exact z_keep fi92 f91_ma_1 (z_t1 (by decide))
                                  have kk94 : z_K (fun y => y = 20 ∨ y = 29 ∨ y = 30 ∨ y = 31) h h94 := kk91.tr (by rw [← hh94]; exact z_K.put fi92 (by first | decide | simp | omega))
                                  have sg_Nh94 : z_K (fun y => y = 20) h89 h94 := sg_Nh91.tr (by rw [← hh94]; exact z_K.put fi92 (by simp))
                                  refine W.eq (g2 := F0 m 200 ls []) rfl ?_
                                  refine lv_goto (tgt := 15) hx hb d_M_readGroup_200 (by decide) ?_
                                  refine ih_15 c5 (f9 + 1) false (sk t n (sk t n p4) + 1) (-1) R4 h94 _ _ _ f94_mo f94_ma_1 (⟨by omega, by omega, by omega⟩) kk94 (n4.k sg_Nh94 (by omega) (by omega) (by omega)) (Or.inl ⟨by omega, z4⟩) (Or.inr ⟨rfl, by rw [eX8, if_pos (by rw [← sk_sk]; exact ws197), if_neg (fun z => by cases z.1), sk_sk], by rw [sk_sk] at *; omega, by rw [sk_sk] at *; omega⟩) ?_ hw (lv_sub hl [4, 5, 6, 0, 3] rfl)
                                  omega
                                · -- wanted False
                                  have il93 : ¬ nI (sk t n (sk t n p4)) = (-1 : Int32) := nI_ne1 (by omega)
                                  obtain ⟨r8, hp⟩ := hp
                                  unfold wsP wsI at hp
                                  rw [if_neg (fun z => ws197 z.2), if_pos rfl, if_neg ws197] at hp
                                  have hp := And.intro r8 hp
                                  obtain ⟨r8, hh95⟩ := hp
                                  subst r8
                                  obtain ⟨h95, e8⟩ : ∃ x9, x9 = h9 := ⟨_, rfl⟩
                                  subst e8
                                  have f95_mo : h95 mo = some ((20, 0), .inr (11, mF ma cod tpd (nI n) (nI S.1) cls9 ffl fcl (nI R4.1) (nI (tbC R4.2 R4.1)) ous (nI (sk t n (sk t n p4))) (nI (sk t n (sk t n p4))))) := by rw [← hh95]; exact z_put_eq
                                  have f95_ma_1 : h95 (ma 1) = some ((22, 0), .inl (g.2.1 1, 4000, .inl f)) := by rw [← hh95]; exact z_keep fi92 f91_ma_1 (z_t1 (by decide))
                                  have kk95 : z_K (fun y => y = 20 ∨ y = 29 ∨ y = 30 ∨ y = 31) h h95 := kk91.tr (by rw [← hh95]; exact z_K.put fi92 (by first | decide | simp | omega))
                                  have sg_Nh95 : z_K (fun y => y = 20) h89 h95 := sg_Nh91.tr (by rw [← hh95]; exact z_K.put fi92 (by simp))
                                  refine W.eq (g2 := F0 m 200 ls []) rfl ?_
                                  refine lv_goto (tgt := 15) hx hb d_M_readGroup_200 (by decide) ?_
                                  refine ih_15 c5 (f9 + 1) false (sk t n (sk t n p4)) (nI (sk t n (sk t n p4))) R4 h95 _ _ _ f95_mo f95_ma_1 (⟨by omega, by omega, by omega⟩) kk95 (n4.k sg_Nh95 (by omega) (by omega) (by omega)) (Or.inr il93) (Or.inl ⟨il93, by rw [eX8, if_neg (by rw [← sk_sk]; exact ws197), memE_no (by rw [sk_sk]; exact c_184)]; rfl⟩) ?_ hw (lv_sub hl [4, 5, 6, 0, 3] rfl)
                                  omega
                              · -- 184: False
                                have l187 := bt_lt (c := 125) (show bt t n (sk t n p4) = 125 by simpa using c_184)
                                refine lv_aload_n hx hb d_M_readGroup_187 rfl (lv_at hl 4 rfl) ?_
                                refine lv_iload_n hx hb d_M_readGroup_188 rfl (lv_at hl 6 rfl) ?_
                                refine lv_iload_n hx hb d_M_readGroup_189 rfl (lv_at hl 0 rfl) ?_
                                refine z_callV (n := 2) (As := [.int gr, .int (nI (f9 + 1))]) (rest := []) ⟨hx, hb, hml, hown, hts⟩ (m_end (a9 := f9 + 1) l g h91 fi92 (hSc.k kk91 (by omega) (by omega) (by omega)) hB (by omega)) (z_in k_975 rfl) (z_in k_7 rfl) (z_in k_972 rfl) (z_in k_974 rfl) (z_in ks_40 rfl) (by decide +kernel) ⟨by first | exact Nat.le_of_ble_eq_true rfl | (dsimp only; omega) | omega, by first | exact Nat.le_of_ble_eq_true rfl | (dsimp only; omega) | omega⟩ hK hE hw hA rfl fi92 rfl hl.1 (Nat.le_of_ble_eq_true rfl) d_M_readGroup_190 ⟨by first | exact Nat.le_of_ble_eq_true rfl | (dsimp only; omega) | omega, by first | exact Nat.le_of_ble_eq_true rfl | (dsimp only; omega) | omega⟩ rfl (fun r9 h9 H locs hp hw => ?_)
                                obtain ⟨r8, hh96⟩ := hp
                                subst r8
                                obtain ⟨h96, e8⟩ : ∃ x9, x9 = h9 := ⟨_, rfl⟩
                                subst e8
                                have f96_mo : h96 mo = some ((20, 0), .inr (11, mF ma cod tpd (nI n) (nI S.1) cls9 ffl fcl (nI R4.1) (nI (tbC R4.2 R4.1)) ous (nI (sk t n p4 + 1)) (if hrq S gr (f9 + 1) = true then nI (sk t n p4) else -1))) := by rw [← hh96]; exact z_put_eq
                                have f96_ma_1 : h96 (ma 1) = some ((22, 0), .inl (g.2.1 1, 4000, .inl f)) := by rw [← hh96]; exact z_keep fi92 f91_ma_1 (z_t1 (by decide))
                                have kk96 : z_K (fun y => y = 20 ∨ y = 29 ∨ y = 30 ∨ y = 31) h h96 := kk91.tr (by rw [← hh96]; exact z_K.put fi92 (by first | decide | simp | omega))
                                have sg_Nh96 : z_K (fun y => y = 20) h89 h96 := sg_Nh91.tr (by rw [← hh96]; exact z_K.put fi92 (by simp))
                                refine W.eq (g2 := F0 m 193 ls []) rfl ?_
                                exact z_vret hx hb hr hlocks hw (by have eX9 : X = if hrq S gr (f9 + 1) = true then .inl (sk t n p4, R4) else .inr (sk t n p4 + 1, R4) := (by have z9 : bt t n (sk t n p4) = 125 := (by simpa using c_184); rw [eX8, if_neg (by rw [z9]; decide), memE_ok (by rw [sk_sk]; exact z9), sk_sk]); have eR : resJ X = if hrq S gr (f9 + 1) = true then nI (sk t n p4) else -1 := (by rw [eX9]; split <;> rfl); refine ⟨rfl, kk96, sk t n p4 + 1, R4, ?_, by omega, by omega, n4.k sg_Nh96 (by omega) (by omega) (by omega), fun z => by rw [eR] at z; by_cases z2 : hrq S gr (f9 + 1) = true; (· rw [if_pos z2] at z; exact absurd z (nI_ne1 (by omega))); (· exact ⟨by rw [eX9, if_neg z2], by omega, by omega, z4⟩)⟩; rw [eR]; exact f96_mo) (by decide) (by decide) d_M_readGroup_193
                          · -- read False
                            have eX7 : resJ X = resJ (fldR (VR f9) S t n f9 (sk t n (we t n (sk t n p3)) + 1) R3) := by obtain ⟨F9, eF9⟩ := resJ_inl e30; rw [eXL, memL_no (F := (fun fi p R => fldR (VR fi) S t n fi p R)) enm ws124 eF9, eF9]
                            refine lv_aload_n hx hb d_M_readGroup_170 rfl (lv_at hl 4 rfl) ?_
                            refine z_get hx hb hts (z_lay i_M) hown hK hw f91_mo rfl 30 (by decide) (z_in k_801 rfl) (fun _ h9 => h9) rfl d_M_readGroup_171 ?_
                            refine lv_iconst (v := (-1)) hx hb d_M_readGroup_174 (by decide) ?_
                            refine lv_icmp_ne (tgt := 194) hx hb d_M_readGroup_175 (by decide) (fun c_175 => ?_) (fun c_175 => ?_)
                            · -- 175: True
                              refine lv_aload_n hx hb d_M_readGroup_194 rfl (lv_at hl 4 rfl) ?_
                              refine lv_bipush (v := 44) hx hb d_M_readGroup_195 (by decide) ?_
                              refine z_callV (n := 1) (As := [.int 44]) (rest := []) ⟨hx, hb, hml, hown, hts⟩ (m_wantSign (t := t) l g h91 f91_mo f91_ma_1 hn hf (by omega)) (z_in k_923 rfl) (z_in k_7 rfl) (z_in k_920 rfl) (z_in k_922 rfl) (z_in ks_33 rfl) (by decide +kernel) ⟨by first | exact Nat.le_of_ble_eq_true rfl | (dsimp only; omega) | omega, by first | exact Nat.le_of_ble_eq_true rfl | (dsimp only; omega) | omega⟩ hK hE hw hA rfl f91_mo rfl hl.1 (Nat.le_of_ble_eq_true rfl) d_M_readGroup_197 ⟨by first | exact Nat.le_of_ble_eq_true rfl | (dsimp only; omega) | omega, by first | exact Nat.le_of_ble_eq_true rfl | (dsimp only; omega) | omega⟩ rfl (fun r9 h9 H locs hp hw => ?_)
                              have sa97 := sk_le (t := t) (n := n) (p := sk t n p4) (by omega)
                              have sb97 := sk_ge t n (sk t n p4)
                              obtain ⟨r8, hp⟩ := hp
                              unfold wsP wsI at hp
                              rw [if_neg (fun z => e30 z.1), if_neg e30] at hp
                              have hp := And.intro r8 hp
                              obtain ⟨r8, hh98⟩ := hp
                              subst r8
                              obtain ⟨h98, e8⟩ : ∃ x9, x9 = h9 := ⟨_, rfl⟩
                              subst e8
                              have f98_mo : h98 mo = some ((20, 0), .inr (11, mF ma cod tpd (nI n) (nI S.1) cls9 ffl fcl (nI R4.1) (nI (tbC R4.2 R4.1)) ous (nI (sk t n (sk t n p4))) (resJ (fldR (VR f9) S t n f9 (sk t n (we t n (sk t n p3)) + 1) R3)))) := by rw [← hh98]; exact z_put_eq
                              have f98_ma_1 : h98 (ma 1) = some ((22, 0), .inl (g.2.1 1, 4000, .inl f)) := by rw [← hh98]; exact z_keep f91_mo f91_ma_1 (z_t1 (by decide))
                              have kk98 : z_K (fun y => y = 20 ∨ y = 29 ∨ y = 30 ∨ y = 31) h h98 := kk91.tr (by rw [← hh98]; exact z_K.put f91_mo (by first | decide | simp | omega))
                              have sg_Nh98 : z_K (fun y => y = 20) h89 h98 := sg_Nh91.tr (by rw [← hh98]; exact z_K.put f91_mo (by simp))
                              refine W.eq (g2 := F0 m 200 ls []) rfl ?_
                              refine lv_goto (tgt := 15) hx hb d_M_readGroup_200 (by decide) ?_
                              refine ih_15 c5 (f9 + 1) false (sk t n (sk t n p4)) (resJ (fldR (VR f9) S t n f9 (sk t n (we t n (sk t n p3)) + 1) R3)) R4 h98 _ _ _ f98_mo f98_ma_1 (⟨by omega, by omega, by omega⟩) kk98 (n4.k sg_Nh98 (by omega) (by omega) (by omega)) (Or.inr e30) (Or.inl ⟨e30, eX7⟩) ?_ hw (lv_sub hl [4, 5, 6, 0, 3] rfl)
                              omega
                            · -- 175: False
                              exact absurd (by simpa using c_175) e30
                      · -- 132: False
                        exact absurd rfl c_132
                    · -- wanted False
                      have il77 : ¬ nI (sk t n (we t n (sk t n p3))) = (-1 : Int32) := nI_ne1 (by omega)
                      obtain ⟨r8, hp⟩ := hp
                      unfold wsP wsI at hp
                      rw [if_neg (fun z => ws124 z.2), if_pos rfl, if_neg ws124] at hp
                      have hp := And.intro r8 hp
                      obtain ⟨r8, hh99⟩ := hp
                      subst r8
                      obtain ⟨h99, e8⟩ : ∃ x9, x9 = h9 := ⟨_, rfl⟩
                      subst e8
                      have f99_mo : h99 mo = some ((20, 0), .inr (11, mF ma cod tpd (nI n) (nI S.1) cls9 ffl fcl (nI R3.1) (nI (tbC R3.2 R3.1)) ous (nI (sk t n (we t n (sk t n p3)))) (nI (sk t n (we t n (sk t n p3)))))) := by rw [← hh99]; exact z_put_eq
                      have f99_ma_1 : h99 (ma 1) = some ((22, 0), .inl (g.2.1 1, 4000, .inl f)) := by rw [← hh99]; exact z_keep fe76 f75_ma_1 (z_t1 (by decide))
                      have kk99 : z_K (fun y => y = 20 ∨ y = 29 ∨ y = 30 ∨ y = 31) h h99 := kk75.tr (by rw [← hh99]; exact z_K.put fe76 (by first | decide | simp | omega))
                      have sg_Nh99 : z_K (fun y => y = 20) hL h99 := sg_Nh75.tr (by rw [← hh99]; exact z_K.put fe76 (by simp))
                      refine W.eq (g2 := F0 m 127 ls []) rfl ?_
                      refine lv_aload_n hx hb d_M_readGroup_127 rfl (lv_at hl 4 rfl) ?_
                      refine z_get hx hb hts (z_lay i_M) hown hK hw f99_mo rfl 30 (by decide) (z_in k_801 rfl) (fun _ h9 => h9) rfl d_M_readGroup_128 ?_
                      refine lv_iconst (v := (-1)) hx hb d_M_readGroup_131 (by decide) ?_
                      refine lv_icmp_eq (tgt := 136) hx hb d_M_readGroup_132 (by decide) (fun c_132 => ?_) (fun c_132 => ?_)
                      · -- 132: True
                        exact absurd c_132 il77
                      · -- 132: False
                        exact z_vret hx hb hr hlocks hw (by have eR : resJ X = nI (sk t n (we t n (sk t n p3))) := (by rw [eXL, memL_col enm ws124]; rfl); refine ⟨rfl, kk99, sk t n (we t n (sk t n p3)), R3, ?_, by omega, by omega, hN3.k sg_Nh99 (by omega) (by omega) (by omega), fun z => absurd (eR.symm.trans z) il77⟩; rw [eR]; exact f99_mo) (by decide) (by decide) d_M_readGroup_135
                  · -- 93: False
                    have c_93 : (hrqR S gr (f9 - st) st) = true := zb_t c_93
                    have eXf : X = .inl (sk t n p3, R3) := by rw [eXL]; exact memL_nam (by rw [namR_find hu hs8 hlt9 lf9 (by omega) lm9, if_pos c_93])
                    refine lv_aload_n hx hb d_M_readGroup_96 rfl (lv_at hl 3 rfl) ?_
                    refine lv_aload_n hx hb d_M_readGroup_97 rfl (lv_at hl 3 rfl) ?_
                    refine z_get hx hb hts (z_lay i_M) hown hK hw f72_mo rfl 29 (by decide) (z_in k_800 rfl) (fun _ h9 => h9) rfl d_M_readGroup_98 ?_
                    refine z_callV (n := 1) (As := [.int (nI (sk t n p3))]) (rest := []) ⟨hx, hb, hml, hown, hts⟩ (m_fail l g h72 f72_mo) (z_in k_914 rfl) (z_in k_7 rfl) (z_in k_911 rfl) (z_in k_913 rfl) (z_in ks_32 rfl) (by decide +kernel) ⟨by first | exact Nat.le_of_ble_eq_true rfl | (dsimp only; omega) | omega, by first | exact Nat.le_of_ble_eq_true rfl | (dsimp only; omega) | omega⟩ hK hE hw hA rfl f72_mo rfl hl.1 (Nat.le_of_ble_eq_true rfl) d_M_readGroup_101 ⟨by first | exact Nat.le_of_ble_eq_true rfl | (dsimp only; omega) | omega, by first | exact Nat.le_of_ble_eq_true rfl | (dsimp only; omega) | omega⟩ rfl (fun r9 h9 H locs hp hw => ?_)
                    obtain ⟨r8, hh100⟩ := hp
                    subst r8
                    obtain ⟨h100, e8⟩ : ∃ x9, x9 = h9 := ⟨_, rfl⟩
                    subst e8
                    have f100_mo : h100 mo = some ((20, 0), .inr (11, mF ma cod tpd (nI n) (nI S.1) cls9 ffl fcl (nI R3.1) (nI (tbC R3.2 R3.1)) ous (nI (sk t n p3)) (nI (sk t n p3)))) := by rw [← hh100]; exact z_put_eq
                    have f100_ma_1 : h100 (ma 1) = some ((22, 0), .inl (g.2.1 1, 4000, .inl f)) := by rw [← hh100]; exact z_keep f72_mo f72_ma_1 (z_t1 (by decide))
                    have kk100 : z_K (fun y => y = 20 ∨ y = 29 ∨ y = 30 ∨ y = 31) h h100 := kk72.tr (by rw [← hh100]; exact z_K.put f72_mo (by first | decide | simp | omega))
                    have sg_Nh100 : z_K (fun y => y = 20) hL h100 := sg_Nh72.tr (by rw [← hh100]; exact z_K.put f72_mo (by simp))
                    refine W.eq (g2 := F0 m 104 ls []) rfl ?_
                    exact z_vret hx hb hr hlocks hw (by have eR : resJ X = nI (sk t n p3) := (by rw [eXf]; rfl); refine ⟨rfl, kk100, sk t n p3, R3, ?_, by omega, by omega, hN3.k sg_Nh100 (by omega) (by omega) (by omega), fun z => absurd (eR.symm.trans z) (nI_ne1 (by omega))⟩; rw [eR]; exact f100_mo) (by decide) (by decide) d_M_readGroup_104
            · -- 59: False
              have c_59 : (wl t n (sk t n p3)) = 0 := (nI_eq (a := wl t n (sk t n p3)) (b := 0) (by omega) (by omega)).mp c_59
              have nlt : ¬ isLet (bt t n (sk t n p3)) = true := fun z => by have := let_we (fun k hk => (hf k hk).1) z; have e9 : wl t n (sk t n p3) = 0 := (by omega); unfold wl at e9; rw [if_pos z] at e9; omega
              have eXf : X = .inl (sk t n p3, R3) := by rw [eXL]; exact memL_nam (namR_let nlt)
              refine lv_iconst (v := (-1)) hx hb d_M_readGroup_62 (by decide) ?_
              refine lv_goto (tgt := 77) hx hb d_M_readGroup_63 (by decide) ?_
              refine lv_istore (lv' := [(6, .int (-1)), (5, .int (nI (wl t n (sk t n p3)))), (4, .int 0), (0, .ref mo), (1, .int (nI pi)), (2, .int gr), (3, .int (nI st))]) hx hb d_M_readGroup_77 hl (by decide) rfl (fun ls hl => ?_)
              refine lv_iload hx hb d_M_readGroup_79 (lv_at hl 0 rfl) ?_
              refine lv_iload_n hx hb d_M_readGroup_81 rfl (lv_at hl 6 rfl) ?_
              refine lv_icmp_lt (tgt := 96) hx hb d_M_readGroup_82 (by decide) (fun c_82 => ?_) (fun c_82 => ?_)
              · -- 82: True
                refine lv_aload_n hx hb d_M_readGroup_96 rfl (lv_at hl 3 rfl) ?_
                refine lv_aload_n hx hb d_M_readGroup_97 rfl (lv_at hl 3 rfl) ?_
                refine z_get hx hb hts (z_lay i_M) hown hK hw f72_mo rfl 29 (by decide) (z_in k_800 rfl) (fun _ h9 => h9) rfl d_M_readGroup_98 ?_
                refine z_callV (n := 1) (As := [.int (nI (sk t n p3))]) (rest := []) ⟨hx, hb, hml, hown, hts⟩ (m_fail l g h72 f72_mo) (z_in k_914 rfl) (z_in k_7 rfl) (z_in k_911 rfl) (z_in k_913 rfl) (z_in ks_32 rfl) (by decide +kernel) ⟨by first | exact Nat.le_of_ble_eq_true rfl | (dsimp only; omega) | omega, by first | exact Nat.le_of_ble_eq_true rfl | (dsimp only; omega) | omega⟩ hK hE hw hA rfl f72_mo rfl hl.1 (Nat.le_of_ble_eq_true rfl) d_M_readGroup_101 ⟨by first | exact Nat.le_of_ble_eq_true rfl | (dsimp only; omega) | omega, by first | exact Nat.le_of_ble_eq_true rfl | (dsimp only; omega) | omega⟩ rfl (fun r9 h9 H locs hp hw => ?_)
                obtain ⟨r8, hh101⟩ := hp
                subst r8
                obtain ⟨h101, e8⟩ : ∃ x9, x9 = h9 := ⟨_, rfl⟩
                subst e8
                have f101_mo : h101 mo = some ((20, 0), .inr (11, mF ma cod tpd (nI n) (nI S.1) cls9 ffl fcl (nI R3.1) (nI (tbC R3.2 R3.1)) ous (nI (sk t n p3)) (nI (sk t n p3)))) := by rw [← hh101]; exact z_put_eq
                have f101_ma_1 : h101 (ma 1) = some ((22, 0), .inl (g.2.1 1, 4000, .inl f)) := by rw [← hh101]; exact z_keep f72_mo f72_ma_1 (z_t1 (by decide))
                have kk101 : z_K (fun y => y = 20 ∨ y = 29 ∨ y = 30 ∨ y = 31) h h101 := kk72.tr (by rw [← hh101]; exact z_K.put f72_mo (by first | decide | simp | omega))
                have sg_Nh101 : z_K (fun y => y = 20) hL h101 := sg_Nh72.tr (by rw [← hh101]; exact z_K.put f72_mo (by simp))
                refine W.eq (g2 := F0 m 104 ls []) rfl ?_
                exact z_vret hx hb hr hlocks hw (by have eR : resJ X = nI (sk t n p3) := (by rw [eXf]; rfl); refine ⟨rfl, kk101, sk t n p3, R3, ?_, by omega, by omega, hN3.k sg_Nh101 (by omega) (by omega) (by omega), fun z => absurd (eR.symm.trans z) (nI_ne1 (by omega))⟩; rw [eR]; exact f101_mo) (by decide) (by decide) d_M_readGroup_104
              · -- 82: False
                exact absurd (show (-1 : Int32) < nI st from (by rw [Int32.lt_iff_toInt_lt, nI_toInt (by omega)]; have : (-1 : Int32).toInt = -1 := rfl; omega)) c_82
          · -- 29: False
            have c_29 : fs = true := zb_t c_29
            refine lv_aload_n hx hb d_M_readGroup_32 rfl (lv_at hl 0 rfl) ?_
            refine z_callV (n := 0) (As := []) (rest := []) ⟨hx, hb, hml, hown, hts⟩ (m_look (t := t) l g h72 f72_mo f72_ma_1 hn hf (by omega)) (z_in k_889 rfl) (z_in k_7 rfl) (z_in k_886 rfl) (z_in k_888 rfl) (z_in ks_28 rfl) (by decide +kernel) ⟨by first | exact Nat.le_of_ble_eq_true rfl | (dsimp only; omega) | omega, by first | exact Nat.le_of_ble_eq_true rfl | (dsimp only; omega) | omega⟩ hK hE hw hA rfl f72_mo rfl hl.1 (Nat.le_of_ble_eq_true rfl) d_M_readGroup_33 ⟨by first | exact Nat.le_of_ble_eq_true rfl | (dsimp only; omega) | omega, by first | exact Nat.le_of_ble_eq_true rfl | (dsimp only; omega) | omega⟩ rfl (fun r9 h9 H locs hp hw => ?_)
            obtain ⟨r8, h8⟩ := hp
            subst r8
            subst h8
            refine W.eq (g2 := F0 m 36 ls [.int (bt t n (sk t n p3))]) rfl ?_
            refine lv_bipush (v := 125) hx hb d_M_readGroup_36 (by decide) ?_
            refine lv_icmp_ne (tgt := 48) hx hb d_M_readGroup_38 (by decide) (fun c_38 => ?_) (fun c_38 => ?_)
            · -- 38: True
              have eXL : X = memL (fun fi p R => fldR (VR fi) S t n fi p R) S t n gr (c5 + 1) st p3 R3 := by rw [eX3, if_neg (fun z => c_38 z.2), ec5]
              refine lv_iconst (v := 0) hx hb d_M_readGroup_48 (by decide) ?_
              refine lv_istore (lv' := [(4, .int 0), (0, .ref mo), (1, .int (nI pi)), (2, .int gr), (3, .int (nI st))]) hx hb d_M_readGroup_49 hl (by decide) rfl (fun ls hl => ?_)
              refine lv_aload_n hx hb d_M_readGroup_51 rfl (lv_at hl 1 rfl) ?_
              have wl9 := wl_le (t := t) (n := n) (p := sk t n p3) (by omega)
              refine z_callV (n := 0) (As := []) (rest := []) ⟨hx, hb, hml, hown, hts⟩ (m_word (t := t) l g h72 f72_mo f72_ma_1 hn hf (by omega)) (z_in k_902 rfl) (z_in k_7 rfl) (z_in k_899 rfl) (z_in k_901 rfl) (z_in ks_31 rfl) (by decide +kernel) ⟨by first | exact Nat.le_of_ble_eq_true rfl | (dsimp only; omega) | omega, by first | exact Nat.le_of_ble_eq_true rfl | (dsimp only; omega) | omega⟩ hK hE hw hA rfl f72_mo rfl hl.1 (Nat.le_of_ble_eq_true rfl) d_M_readGroup_52 ⟨by first | exact Nat.le_of_ble_eq_true rfl | (dsimp only; omega) | omega, by first | exact Nat.le_of_ble_eq_true rfl | (dsimp only; omega) | omega⟩ rfl (fun r9 h9 H locs hp hw => ?_)
              obtain ⟨r8, h8⟩ := hp
              subst r8
              subst h8
              refine W.eq (g2 := F0 m 55 ls [.int (nI (wl t n (sk t n p3)))]) rfl ?_
              refine lv_istore (lv' := [(5, .int (nI (wl t n (sk t n p3)))), (4, .int 0), (0, .ref mo), (1, .int (nI pi)), (2, .int gr), (3, .int (nI st))]) hx hb d_M_readGroup_55 hl (by decide) rfl (fun ls hl => ?_)
              refine lv_iload hx hb d_M_readGroup_57 (lv_at hl 0 rfl) ?_
              refine lv_if_ne (tgt := 66) hx hb d_M_readGroup_59 (by decide) (fun c_59 => ?_) (fun c_59 => ?_)
              · -- 59: True
                have c_59 : ¬ ((wl t n (sk t n p3)) = 0) := fun z => c_59 ((nI_eq (a := wl t n (sk t n p3)) (b := 0) (by omega) (by omega)).mpr z)
                have hlt9 : isLet (bt t n (sk t n p3)) = true := by apply Classical.byContradiction; intro z; have e9 : wl t n (sk t n p3) = 0 := (by unfold wl; rw [if_neg z]); omega
                have hwl : wl t n (sk t n p3) = we t n (sk t n p3) - (sk t n p3) := by unfold wl; rw [if_pos hlt9]
                obtain ⟨lw1, lw2, -⟩ := let_we (fun k hk => (hf k hk).1) hlt9
                refine lv_aload_n hx hb d_M_readGroup_66 rfl (lv_at hl 2 rfl) ?_
                refine lv_iload_n hx hb d_M_readGroup_67 rfl (lv_at hl 4 rfl) ?_
                refine lv_aload_n hx hb d_M_readGroup_68 rfl (lv_at hl 2 rfl) ?_
                refine z_get hx hb hts (z_lay i_M) hown hK hw f72_mo rfl 29 (by decide) (z_in k_800 rfl) (fun _ h9 => h9) rfl d_M_readGroup_69 ?_
                refine lv_iload hx hb d_M_readGroup_72 (lv_at hl 0 rfl) ?_
                refine z_callV (n := 3) (As := [.int gr, .int (nI (sk t n p3)), .int (nI (wl t n (sk t n p3)))]) (rest := []) ⟨hx, hb, hml, hown, hts⟩ (m_named (t := t) (n := n) (q := sk t n p3) (m9 := wl t n (sk t n p3)) l g h72 f72_mo f72_ma_1 hn hf (hSc.k kk72 (by omega) (by omega) (by omega)) hB (by omega)) (z_in k_963 rfl) (z_in k_7 rfl) (z_in k_960 rfl) (z_in k_962 rfl) (z_in ks_38 rfl) (by decide +kernel) ⟨by first | exact Nat.le_of_ble_eq_true rfl | (dsimp only; omega) | omega, by first | exact Nat.le_of_ble_eq_true rfl | (dsimp only; omega) | omega⟩ hK hE hw hA rfl f72_mo rfl hl.1 (Nat.le_of_ble_eq_true rfl) d_M_readGroup_74 ⟨by first | exact Nat.le_of_ble_eq_true rfl | (dsimp only; omega) | omega, by first | exact Nat.le_of_ble_eq_true rfl | (dsimp only; omega) | omega⟩ rfl (fun r9 h9 H locs hp hw => ?_)
                obtain ⟨r8, h8⟩ := hp
                subst r8
                subst h8
                refine W.eq (g2 := F0 m 77 ls [.int (lst S gr t (sk t n p3) (wl t n (sk t n p3)) S.1)]) rfl ?_
                rcases lst_is (S := S) (gr := gr) (t := t) (q := sk t n p3) (m := wl t n (sk t n p3)) S.1 with ⟨le9, ln9⟩ | ⟨f9, lf9, lm9, le9⟩
                · -- named False
                  refine z_topi (y := (-1)) le9 ?_
                  rw [hwl] at ln9
                  have eXf : X = .inl (sk t n p3, R3) := by rw [eXL]; exact memL_nam (namR_none (fun i a _ => ln9 i a))
                  refine lv_istore (lv' := [(6, .int (-1)), (5, .int (nI (wl t n (sk t n p3)))), (4, .int 0), (0, .ref mo), (1, .int (nI pi)), (2, .int gr), (3, .int (nI st))]) hx hb d_M_readGroup_77 hl (by decide) rfl (fun ls hl => ?_)
                  refine lv_iload hx hb d_M_readGroup_79 (lv_at hl 0 rfl) ?_
                  refine lv_iload_n hx hb d_M_readGroup_81 rfl (lv_at hl 6 rfl) ?_
                  refine lv_icmp_lt (tgt := 96) hx hb d_M_readGroup_82 (by decide) (fun c_82 => ?_) (fun c_82 => ?_)
                  · -- 82: True
                    refine lv_aload_n hx hb d_M_readGroup_96 rfl (lv_at hl 3 rfl) ?_
                    refine lv_aload_n hx hb d_M_readGroup_97 rfl (lv_at hl 3 rfl) ?_
                    refine z_get hx hb hts (z_lay i_M) hown hK hw f72_mo rfl 29 (by decide) (z_in k_800 rfl) (fun _ h9 => h9) rfl d_M_readGroup_98 ?_
                    refine z_callV (n := 1) (As := [.int (nI (sk t n p3))]) (rest := []) ⟨hx, hb, hml, hown, hts⟩ (m_fail l g h72 f72_mo) (z_in k_914 rfl) (z_in k_7 rfl) (z_in k_911 rfl) (z_in k_913 rfl) (z_in ks_32 rfl) (by decide +kernel) ⟨by first | exact Nat.le_of_ble_eq_true rfl | (dsimp only; omega) | omega, by first | exact Nat.le_of_ble_eq_true rfl | (dsimp only; omega) | omega⟩ hK hE hw hA rfl f72_mo rfl hl.1 (Nat.le_of_ble_eq_true rfl) d_M_readGroup_101 ⟨by first | exact Nat.le_of_ble_eq_true rfl | (dsimp only; omega) | omega, by first | exact Nat.le_of_ble_eq_true rfl | (dsimp only; omega) | omega⟩ rfl (fun r9 h9 H locs hp hw => ?_)
                    obtain ⟨r8, hh102⟩ := hp
                    subst r8
                    obtain ⟨h102, e8⟩ : ∃ x9, x9 = h9 := ⟨_, rfl⟩
                    subst e8
                    have f102_mo : h102 mo = some ((20, 0), .inr (11, mF ma cod tpd (nI n) (nI S.1) cls9 ffl fcl (nI R3.1) (nI (tbC R3.2 R3.1)) ous (nI (sk t n p3)) (nI (sk t n p3)))) := by rw [← hh102]; exact z_put_eq
                    have f102_ma_1 : h102 (ma 1) = some ((22, 0), .inl (g.2.1 1, 4000, .inl f)) := by rw [← hh102]; exact z_keep f72_mo f72_ma_1 (z_t1 (by decide))
                    have kk102 : z_K (fun y => y = 20 ∨ y = 29 ∨ y = 30 ∨ y = 31) h h102 := kk72.tr (by rw [← hh102]; exact z_K.put f72_mo (by first | decide | simp | omega))
                    have sg_Nh102 : z_K (fun y => y = 20) hL h102 := sg_Nh72.tr (by rw [← hh102]; exact z_K.put f72_mo (by simp))
                    refine W.eq (g2 := F0 m 104 ls []) rfl ?_
                    exact z_vret hx hb hr hlocks hw (by have eR : resJ X = nI (sk t n p3) := (by rw [eXf]; rfl); refine ⟨rfl, kk102, sk t n p3, R3, ?_, by omega, by omega, hN3.k sg_Nh102 (by omega) (by omega) (by omega), fun z => absurd (eR.symm.trans z) (nI_ne1 (by omega))⟩; rw [eR]; exact f102_mo) (by decide) (by decide) d_M_readGroup_104
                  · -- 82: False
                    exact absurd (show (-1 : Int32) < nI st from (by rw [Int32.lt_iff_toInt_lt, nI_toInt (by omega)]; have : (-1 : Int32).toInt = -1 := rfl; omega)) c_82
                · -- named True
                  refine z_topi (y := nI f9) le9 ?_
                  rw [hwl] at lm9
                  have hgf9 : fGr (S.2 f9) = gr := (mtc_yes.mp lm9).1
                  refine lv_istore (lv' := [(6, .int (nI f9)), (5, .int (nI (wl t n (sk t n p3)))), (4, .int 0), (0, .ref mo), (1, .int (nI pi)), (2, .int gr), (3, .int (nI st))]) hx hb d_M_readGroup_77 hl (by decide) rfl (fun ls hl => ?_)
                  refine lv_iload hx hb d_M_readGroup_79 (lv_at hl 0 rfl) ?_
                  refine lv_iload_n hx hb d_M_readGroup_81 rfl (lv_at hl 6 rfl) ?_
                  refine lv_icmp_lt (tgt := 96) hx hb d_M_readGroup_82 (by decide) (fun c_82 => ?_) (fun c_82 => ?_)
                  · -- 82: True
                    have c_82 : f9 < st := (nI_ltI (a := f9) (b := st) (by omega) (by omega)).mp c_82
                    have eXf : X = .inl (sk t n p3, R3) := by rw [eXL]; exact memL_nam (namR_none (fun i a b => by cases hm : mtc S gr t (sk t n p3) (we t n (sk t n p3) - (sk t n p3)) i with | false => rfl | true => (have := mtc_unq hu a lf9 hm lm9; omega)))
                    refine lv_aload_n hx hb d_M_readGroup_96 rfl (lv_at hl 3 rfl) ?_
                    refine lv_aload_n hx hb d_M_readGroup_97 rfl (lv_at hl 3 rfl) ?_
                    refine z_get hx hb hts (z_lay i_M) hown hK hw f72_mo rfl 29 (by decide) (z_in k_800 rfl) (fun _ h9 => h9) rfl d_M_readGroup_98 ?_
                    refine z_callV (n := 1) (As := [.int (nI (sk t n p3))]) (rest := []) ⟨hx, hb, hml, hown, hts⟩ (m_fail l g h72 f72_mo) (z_in k_914 rfl) (z_in k_7 rfl) (z_in k_911 rfl) (z_in k_913 rfl) (z_in ks_32 rfl) (by decide +kernel) ⟨by first | exact Nat.le_of_ble_eq_true rfl | (dsimp only; omega) | omega, by first | exact Nat.le_of_ble_eq_true rfl | (dsimp only; omega) | omega⟩ hK hE hw hA rfl f72_mo rfl hl.1 (Nat.le_of_ble_eq_true rfl) d_M_readGroup_101 ⟨by first | exact Nat.le_of_ble_eq_true rfl | (dsimp only; omega) | omega, by first | exact Nat.le_of_ble_eq_true rfl | (dsimp only; omega) | omega⟩ rfl (fun r9 h9 H locs hp hw => ?_)
                    obtain ⟨r8, hh103⟩ := hp
                    subst r8
                    obtain ⟨h103, e8⟩ : ∃ x9, x9 = h9 := ⟨_, rfl⟩
                    subst e8
                    have f103_mo : h103 mo = some ((20, 0), .inr (11, mF ma cod tpd (nI n) (nI S.1) cls9 ffl fcl (nI R3.1) (nI (tbC R3.2 R3.1)) ous (nI (sk t n p3)) (nI (sk t n p3)))) := by rw [← hh103]; exact z_put_eq
                    have f103_ma_1 : h103 (ma 1) = some ((22, 0), .inl (g.2.1 1, 4000, .inl f)) := by rw [← hh103]; exact z_keep f72_mo f72_ma_1 (z_t1 (by decide))
                    have kk103 : z_K (fun y => y = 20 ∨ y = 29 ∨ y = 30 ∨ y = 31) h h103 := kk72.tr (by rw [← hh103]; exact z_K.put f72_mo (by first | decide | simp | omega))
                    have sg_Nh103 : z_K (fun y => y = 20) hL h103 := sg_Nh72.tr (by rw [← hh103]; exact z_K.put f72_mo (by simp))
                    refine W.eq (g2 := F0 m 104 ls []) rfl ?_
                    exact z_vret hx hb hr hlocks hw (by have eR : resJ X = nI (sk t n p3) := (by rw [eXf]; rfl); refine ⟨rfl, kk103, sk t n p3, R3, ?_, by omega, by omega, hN3.k sg_Nh103 (by omega) (by omega) (by omega), fun z => absurd (eR.symm.trans z) (nI_ne1 (by omega))⟩; rw [eR]; exact f103_mo) (by decide) (by decide) d_M_readGroup_104
                  · -- 82: False
                    have c_82 : ¬ (f9 < st) := fun z => c_82 ((nI_ltI (a := f9) (b := st) (by omega) (by omega)).mpr z)
                    refine lv_aload_n hx hb d_M_readGroup_85 rfl (lv_at hl 3 rfl) ?_
                    refine lv_iload_n hx hb d_M_readGroup_86 rfl (lv_at hl 5 rfl) ?_
                    refine lv_iload_n hx hb d_M_readGroup_87 rfl (lv_at hl 6 rfl) ?_
                    refine lv_iload hx hb d_M_readGroup_88 (lv_at hl 0 rfl) ?_
                    refine z_callV (n := 3) (As := [.int gr, .int (nI st), .int (nI f9)]) (rest := []) ⟨hx, hb, hml, hown, hts⟩ (m_misses (a9 := st) (b9 := f9) l g h72 f72_mo (hSc.k kk72 (by omega) (by omega) (by omega)) hB (by omega) (by omega)) (z_in k_979 rfl) (z_in k_7 rfl) (z_in k_976 rfl) (z_in k_978 rfl) (z_in ks_41 rfl) (by decide +kernel) ⟨by first | exact Nat.le_of_ble_eq_true rfl | (dsimp only; omega) | omega, by first | exact Nat.le_of_ble_eq_true rfl | (dsimp only; omega) | omega⟩ hK hE hw hA rfl f72_mo rfl hl.1 (Nat.le_of_ble_eq_true rfl) d_M_readGroup_90 ⟨by first | exact Nat.le_of_ble_eq_true rfl | (dsimp only; omega) | omega, by first | exact Nat.le_of_ble_eq_true rfl | (dsimp only; omega) | omega⟩ rfl (fun r9 h9 H locs hp hw => ?_)
                    obtain ⟨r8, h8⟩ := hp
                    subst r8
                    subst h8
                    refine W.eq (g2 := F0 m 93 ls [.int (zb (hrqR S gr (f9 - st) st))]) rfl ?_
                    refine lv_if_eq (tgt := 105) hx hb d_M_readGroup_93 (by decide) (fun c_93 => ?_) (fun c_93 => ?_)
                    · -- 93: True
                      have c_93 : (hrqR S gr (f9 - st) st) = false := zb_f c_93
                      have enm : namR S t n gr st p3 = .inr (f9, we t n (sk t n p3)) := by rw [namR_find hu hs8 hlt9 lf9 (by omega) lm9, if_neg (by rw [c_93]; decide)]
                      refine lv_aload_n hx hb d_M_readGroup_105 rfl (lv_at hl 3 rfl) ?_
                      refine lv_dup hx hb d_M_readGroup_106 rfl ?_
                      refine z_get hx hb hts (z_lay i_M) hown hK hw f72_mo rfl 29 (by decide) (z_in k_800 rfl) (fun _ h9 => h9) rfl d_M_readGroup_107 ?_
                      refine lv_iload hx hb d_M_readGroup_110 (lv_at hl 1 rfl) ?_
                      refine lv_iadd hx hb d_M_readGroup_112 ?_
                      refine z_topi (y := nI ((sk t n p3) + (wl t n (sk t n p3)))) (nI_add (sk t n p3) (wl t n (sk t n p3))) ?_
                      refine z_putf (ty := .int) hx hb hts (z_lay i_M) t_M t_M_ok n_M hown hK hw f72_mo rfl 29 (by decide) (z_in k_800 rfl) (fun _ h9 => h9) rfl (by decide +kernel) rfl rfl (Nat.le_of_ble_eq_true rfl) d_M_readGroup_113 (fun H locs hw => ?_)
                      obtain ⟨h104, hh104⟩ : ∃ x9, z_put h72 mo (20, 0) (.inr (11, mF ma cod tpd (nI n) (nI S.1) cls9 ffl fcl (nI R3.1) (nI (tbC R3.2 R3.1)) ous (nI ((sk t n p3) + (wl t n (sk t n p3)))) (-1))) = x9 := ⟨_, rfl⟩
                      have hw : z_S g A s.heap h104 H locs := by rw [← hh104]; exact hw
                      have f104_mo : h104 mo = some ((20, 0), .inr (11, mF ma cod tpd (nI n) (nI S.1) cls9 ffl fcl (nI R3.1) (nI (tbC R3.2 R3.1)) ous (nI ((sk t n p3) + (wl t n (sk t n p3)))) (-1))) := by rw [← hh104]; exact z_put_eq
                      have f104_ma_1 : h104 (ma 1) = some ((22, 0), .inl (g.2.1 1, 4000, .inl f)) := by rw [← hh104]; exact z_keep f72_mo f72_ma_1 (z_t1 (by decide))
                      have kk104 : z_K (fun y => y = 20 ∨ y = 29 ∨ y = 30 ∨ y = 31) h h104 := kk72.tr (by rw [← hh104]; exact z_K.put f72_mo (by first | decide | simp | omega))
                      have sg_Nh104 : z_K (fun y => y = 20) hL h104 := sg_Nh72.tr (by rw [← hh104]; exact z_K.put f72_mo (by simp))
                      refine lv_iload hx hb d_M_readGroup_116 (lv_at hl 0 rfl) ?_
                      refine lv_iconst (v := 1) hx hb d_M_readGroup_118 (by decide) ?_
                      refine lv_iadd hx hb d_M_readGroup_119 ?_
                      refine z_topi (y := nI (f9 + 1)) (nI_add f9 1) ?_
                      refine lv_istore_n (lv' := [(3, .int (nI (f9 + 1))), (6, .int (nI f9)), (5, .int (nI (wl t n (sk t n p3)))), (4, .int 0), (0, .ref mo), (1, .int (nI pi)), (2, .int gr)]) hx hb d_M_readGroup_120 rfl hl (by decide) rfl (fun ls hl => ?_)
                      have hE9 : sk t n p3 + wl t n (sk t n p3) = we t n (sk t n p3) := by omega
                      have fe105 : h104 mo = some ((20, 0), .inr (11, mF ma cod tpd (nI n) (nI S.1) cls9 ffl fcl (nI R3.1) (nI (tbC R3.2 R3.1)) ous (nI (we t n (sk t n p3))) (-1))) := by rw [← hE9]; exact f104_mo
                      refine lv_aload_n hx hb d_M_readGroup_121 rfl (lv_at hl 4 rfl) ?_
                      refine lv_bipush (v := 58) hx hb d_M_readGroup_122 (by decide) ?_
                      refine z_callV (n := 1) (As := [.int 58]) (rest := []) ⟨hx, hb, hml, hown, hts⟩ (m_wantSign (t := t) l g h104 fe105 f104_ma_1 hn hf (by omega)) (z_in k_923 rfl) (z_in k_7 rfl) (z_in k_920 rfl) (z_in k_922 rfl) (z_in ks_33 rfl) (by decide +kernel) ⟨by first | exact Nat.le_of_ble_eq_true rfl | (dsimp only; omega) | omega, by first | exact Nat.le_of_ble_eq_true rfl | (dsimp only; omega) | omega⟩ hK hE hw hA rfl fe105 rfl hl.1 (Nat.le_of_ble_eq_true rfl) d_M_readGroup_124 ⟨by first | exact Nat.le_of_ble_eq_true rfl | (dsimp only; omega) | omega, by first | exact Nat.le_of_ble_eq_true rfl | (dsimp only; omega) | omega⟩ rfl (fun r9 h9 H locs hp hw => ?_)
                      have sa106 := sk_le (t := t) (n := n) (p := we t n (sk t n p3)) (by omega)
                      have sb106 := sk_ge t n (we t n (sk t n p3))
                      by_cases ws124 : bt t n (sk t n (we t n (sk t n p3))) = 58
                      · -- wanted True
                        have sc106 := bt_lt (c := 58) ws124
                        obtain ⟨r8, hp⟩ := hp
                        unfold wsP wsI at hp
                        rw [if_pos ⟨rfl, ws124⟩, if_pos rfl, if_pos ws124] at hp
                        have hp := And.intro r8 hp
                        obtain ⟨r8, hh107⟩ := hp
                        subst r8
                        obtain ⟨h107, e8⟩ : ∃ x9, x9 = h9 := ⟨_, rfl⟩
                        subst e8
                        have f107_mo : h107 mo = some ((20, 0), .inr (11, mF ma cod tpd (nI n) (nI S.1) cls9 ffl fcl (nI R3.1) (nI (tbC R3.2 R3.1)) ous (nI (sk t n (we t n (sk t n p3)) + 1)) (-1))) := by rw [← hh107]; exact z_put_eq
                        have f107_ma_1 : h107 (ma 1) = some ((22, 0), .inl (g.2.1 1, 4000, .inl f)) := by rw [← hh107]; exact z_keep fe105 f104_ma_1 (z_t1 (by decide))
                        have kk107 : z_K (fun y => y = 20 ∨ y = 29 ∨ y = 30 ∨ y = 31) h h107 := kk104.tr (by rw [← hh107]; exact z_K.put fe105 (by first | decide | simp | omega))
                        have sg_Nh107 : z_K (fun y => y = 20) hL h107 := sg_Nh104.tr (by rw [← hh107]; exact z_K.put fe105 (by simp))
                        refine W.eq (g2 := F0 m 127 ls []) rfl ?_
                        refine lv_aload_n hx hb d_M_readGroup_127 rfl (lv_at hl 4 rfl) ?_
                        refine z_get hx hb hts (z_lay i_M) hown hK hw f107_mo rfl 30 (by decide) (z_in k_801 rfl) (fun _ h9 => h9) rfl d_M_readGroup_128 ?_
                        refine lv_iconst (v := (-1)) hx hb d_M_readGroup_131 (by decide) ?_
                        refine lv_icmp_eq (tgt := 136) hx hb d_M_readGroup_132 (by decide) (fun c_132 => ?_) (fun c_132 => ?_)
                        · -- 132: True
                          have hS9 := hSc.k kk107 (by omega) (by omega) (by omega)
                          have hrw_0 : h107 (rw9 0) = some ((24, 0), .inl (g.2.1 1, 128, .inl (rf 0))) := hS9.2.1 0 (by omega)
                          refine lv_aload_n hx hb d_M_readGroup_136 rfl (lv_at hl 4 rfl) ?_
                          refine z_get hx hb hts (z_lay i_M) hown hK hw f107_mo rfl 5 (by decide) (z_in k_776 rfl) (fun _ h9 => h9) rfl d_M_readGroup_137 ?_
                          refine lv_iconst (v := 0) hx hb d_M_readGroup_140 (by decide) ?_
                          refine z_aldr hx hb hK hw hS9.1 5 rfl (by unfold vp_in; decide) d_M_readGroup_141 ?_
                          refine z_top (y := va_rf ((fun k => some (rw9 k)) 0)) (by rfl) ?_
                          refine z_top (y := .ref (rw9 0)) (rfl) ?_
                          refine lv_iload hx hb d_M_readGroup_142 (lv_at hl 1 rfl) ?_
                          refine z_iald hx hb hK hw hrw_0 1 rfl (vp_in_nI (by omega) (by omega)) d_M_readGroup_144 ?_
                          refine z_topi (y := (rf 0) f9) (by rw [nI_clamp (by omega)]) ?_
                          refine z_top (y := .int (fKi (S.2 f9))) (by rw [(hSc.2.2.2 f9 lf9).1]) ?_
                          refine lv_iconst (v := 2) hx hb d_M_readGroup_145 (by decide) ?_
                          refine lv_icmp_ne (tgt := 159) hx hb d_M_readGroup_146 (by decide) (fun c_146 => ?_) (fun c_146 => ?_)
                          · -- 146: True
                            refine lv_aload_n hx hb d_M_readGroup_159 rfl (lv_at hl 4 rfl) ?_
                            refine lv_iload_n hx hb d_M_readGroup_160 rfl (lv_at hl 5 rfl) ?_
                            refine lv_iload hx hb d_M_readGroup_161 (lv_at hl 1 rfl) ?_
                            have eV9 : fldR (VR f9) S t n f9 (sk t n (we t n (sk t n p3)) + 1) R3 = VR f9 (sk t n (we t n (sk t n p3)) + 1) R3 := by unfold fldR; rw [if_neg (show ¬ fKi (S.2 f9) = 2 from c_146)]
                            have hV9 := hV f9 lf9 hgf9 h107 (sk t n (we t n (sk t n p3)) + 1) R3 f107_mo f107_ma_1 (hSc.k kk107 (by omega) (by omega) (by omega)) (hN3.k sg_Nh107 (by omega) (by omega) (by omega)) hc4.2 (by omega) (by omega) (by omega)
                            rw [← eV9] at hV9
                            refine z_callV (n := 2) (As := [.int (nI pi), .int (nI f9)]) (rest := []) ⟨hx, hb, hml, hown, hts⟩ hV9 (z_in k_987 rfl) (z_in k_7 rfl) (z_in k_984 rfl) (z_in k_986 rfl) (z_in ks_43 rfl) (by decide +kernel) ⟨by first | exact Nat.le_of_ble_eq_true rfl | (dsimp only; omega) | omega, by first | exact Nat.le_of_ble_eq_true rfl | (dsimp only; omega) | omega⟩ hK hE hw hA rfl f107_mo rfl hl.1 (Nat.le_of_ble_eq_true rfl) d_M_readGroup_163 ⟨by first | exact Nat.le_of_ble_eq_true rfl | (dsimp only; omega) | omega, by first | exact Nat.le_of_ble_eq_true rfl | (dsimp only; omega) | omega⟩ rfl (fun r9 h9 H locs hp hw => ?_)
                            obtain ⟨r8, kk8, p4, R4, m4, le4, ge4, n4, im4⟩ := hp
                            subst r8
                            obtain ⟨h108, e7⟩ : ∃ x9, x9 = h9 := ⟨_, rfl⟩
                            subst e7
                            have g108_ma_1 : h108 (ma 1) = some ((22, 0), .inl (g.2.1 1, 4000, .inl f)) := kk8 _ _ _ f107_ma_1 (by simp)
                            have kk108 : z_K (fun y => y = 20 ∨ y = 29 ∨ y = 30 ∨ y = 31) h h108 := kk107.tr kk8
                            have sg_Nh108 : z_K (fun y => y = 20) h108 h108 := z_K.rf
                            refine W.eq (g2 := F0 m 166 ls []) rfl ?_
                            refine lv_aload_n hx hb d_M_readGroup_166 rfl (lv_at hl 4 rfl) ?_
                            refine z_callV (n := 0) (As := []) (rest := []) ⟨hx, hb, hml, hown, hts⟩ (m_blanks (t := t) l g h108 m4 g108_ma_1 hn hf (by omega)) (z_in k_885 rfl) (z_in k_7 rfl) (z_in k_882 rfl) (z_in k_884 rfl) (z_in ks_27 rfl) (by decide +kernel) ⟨by first | exact Nat.le_of_ble_eq_true rfl | (dsimp only; omega) | omega, by first | exact Nat.le_of_ble_eq_true rfl | (dsimp only; omega) | omega⟩ hK hE hw hA rfl m4 rfl hl.1 (Nat.le_of_ble_eq_true rfl) d_M_readGroup_167 ⟨by first | exact Nat.le_of_ble_eq_true rfl | (dsimp only; omega) | omega, by first | exact Nat.le_of_ble_eq_true rfl | (dsimp only; omega) | omega⟩ rfl (fun r9 h9 H locs hp hw => ?_)
                            have sq109 := sk_le (t := t) (n := n) (p := p4) (by omega)
                            have sr109 := sk_ge t n p4
                            obtain ⟨r8, hh110⟩ := hp
                            subst r8
                            obtain ⟨h110, e8⟩ : ∃ x9, x9 = h9 := ⟨_, rfl⟩
                            subst e8
                            have f110_mo : h110 mo = some ((20, 0), .inr (11, mF ma cod tpd (nI n) (nI S.1) cls9 ffl fcl (nI R4.1) (nI (tbC R4.2 R4.1)) ous (nI (sk t n p4)) (resJ (fldR (VR f9) S t n f9 (sk t n (we t n (sk t n p3)) + 1) R3)))) := by rw [← hh110]; exact z_put_eq
                            have f110_ma_1 : h110 (ma 1) = some ((22, 0), .inl (g.2.1 1, 4000, .inl f)) := by rw [← hh110]; exact z_keep m4 g108_ma_1 (z_t1 (by decide))
                            have kk110 : z_K (fun y => y = 20 ∨ y = 29 ∨ y = 30 ∨ y = 31) h h110 := kk108.tr (by rw [← hh110]; exact z_K.put m4 (by first | decide | simp | omega))
                            have sg_Nh110 : z_K (fun y => y = 20) h108 h110 := sg_Nh108.tr (by rw [← hh110]; exact z_K.put m4 (by simp))
                            refine W.eq (g2 := F0 m 170 ls []) rfl ?_
                            by_cases e30 : resJ (fldR (VR f9) S t n f9 (sk t n (we t n (sk t n p3)) + 1) R3) = -1
                            · -- read True
                              obtain ⟨eF4, b4, t4, z4⟩ := im4 e30
                              have fi111 : h110 mo = some ((20, 0), .inr (11, mF ma cod tpd (nI n) (nI S.1) cls9 ffl fcl (nI R4.1) (nI (tbC R4.2 R4.1)) ous (nI (sk t n p4)) (-1))) := by have z9 := f110_mo; rw [e30] at z9; exact z9
                              have eX8 : X = if bt t n (sk t n p4) = 44 then memL (fun fi p R => fldR (VR fi) S t n fi p R) S t n gr c5 (f9 + 1) (sk t n p4 + 1) R4 else memE S t n gr (f9 + 1) (sk t n p4) R4 := by rw [eXL]; exact memL_ok (F := (fun fi p R => fldR (VR fi) S t n fi p R)) enm ws124 eF4
                              refine lv_aload_n hx hb d_M_readGroup_170 rfl (lv_at hl 4 rfl) ?_
                              refine z_get hx hb hts (z_lay i_M) hown hK hw fi111 rfl 30 (by decide) (z_in k_801 rfl) (fun _ h9 => h9) rfl d_M_readGroup_171 ?_
                              refine lv_iconst (v := (-1)) hx hb d_M_readGroup_174 (by decide) ?_
                              refine lv_icmp_ne (tgt := 194) hx hb d_M_readGroup_175 (by decide) (fun c_175 => ?_) (fun c_175 => ?_)
                              · -- 175: True
                                exact absurd rfl c_175
                              · -- 175: False
                                refine lv_aload_n hx hb d_M_readGroup_178 rfl (lv_at hl 4 rfl) ?_
                                refine z_callV (n := 0) (As := []) (rest := []) ⟨hx, hb, hml, hown, hts⟩ (m_look (t := t) l g h110 fi111 f110_ma_1 hn hf (by omega)) (z_in k_889 rfl) (z_in k_7 rfl) (z_in k_886 rfl) (z_in k_888 rfl) (z_in ks_28 rfl) (by decide +kernel) ⟨by first | exact Nat.le_of_ble_eq_true rfl | (dsimp only; omega) | omega, by first | exact Nat.le_of_ble_eq_true rfl | (dsimp only; omega) | omega⟩ hK hE hw hA rfl fi111 rfl hl.1 (Nat.le_of_ble_eq_true rfl) d_M_readGroup_179 ⟨by first | exact Nat.le_of_ble_eq_true rfl | (dsimp only; omega) | omega, by first | exact Nat.le_of_ble_eq_true rfl | (dsimp only; omega) | omega⟩ rfl (fun r9 h9 H locs hp hw => ?_)
                                obtain ⟨r8, h8⟩ := hp
                                subst r8
                                subst h8
                                refine W.eq (g2 := F0 m 182 ls [.int (bt t n (sk t n p4))]) rfl ?_
                                refine lv_bipush (v := 125) hx hb d_M_readGroup_182 (by decide) ?_
                                refine lv_icmp_ne (tgt := 194) hx hb d_M_readGroup_184 (by decide) (fun c_184 => ?_) (fun c_184 => ?_)
                                · -- 184: True
                                  refine lv_aload_n hx hb d_M_readGroup_194 rfl (lv_at hl 4 rfl) ?_
                                  refine lv_bipush (v := 44) hx hb d_M_readGroup_195 (by decide) ?_
                                  refine z_callV (n := 1) (As := [.int 44]) (rest := []) ⟨hx, hb, hml, hown, hts⟩ (m_wantSign (t := t) l g h110 fi111 f110_ma_1 hn hf (by omega)) (z_in k_923 rfl) (z_in k_7 rfl) (z_in k_920 rfl) (z_in k_922 rfl) (z_in ks_33 rfl) (by decide +kernel) ⟨by first | exact Nat.le_of_ble_eq_true rfl | (dsimp only; omega) | omega, by first | exact Nat.le_of_ble_eq_true rfl | (dsimp only; omega) | omega⟩ hK hE hw hA rfl fi111 rfl hl.1 (Nat.le_of_ble_eq_true rfl) d_M_readGroup_197 ⟨by first | exact Nat.le_of_ble_eq_true rfl | (dsimp only; omega) | omega, by first | exact Nat.le_of_ble_eq_true rfl | (dsimp only; omega) | omega⟩ rfl (fun r9 h9 H locs hp hw => ?_)
                                  have sa112 := sk_le (t := t) (n := n) (p := sk t n p4) (by omega)
                                  have sb112 := sk_ge t n (sk t n p4)
                                  by_cases ws197 : bt t n (sk t n (sk t n p4)) = 44
                                  · -- wanted True
                                    have sc112 := bt_lt (c := 44) ws197
                                    obtain ⟨r8, hp⟩ := hp
                                    unfold wsP wsI at hp
                                    rw [if_pos ⟨rfl, ws197⟩, if_pos rfl, if_pos ws197] at hp
                                    have hp := And.intro r8 hp
                                    obtain ⟨r8, hh113⟩ := hp
                                    subst r8
                                    obtain ⟨h113, e8⟩ : ∃ x9, x9 = h9 := ⟨_, rfl⟩
                                    subst e8
                                    have f113_mo : h113 mo = some ((20, 0), .inr (11, mF ma cod tpd (nI n) (nI S.1) cls9 ffl fcl (nI R4.1) (nI (tbC R4.2 R4.1)) ous (nI (sk t n (sk t n p4) + 1)) (-1))) := by rw [← hh113]; exact z_put_eq
                                    have f113_ma_1 : h113 (ma 1) = some ((22, 0), .inl (g.2.1 1, 4000, .inl f)) := by rw [← hh113]; exact z_keep fi111 f110_ma_1 (z_t1 (by decide))
                                    have kk113 : z_K (fun y => y = 20 ∨ y = 29 ∨ y = 30 ∨ y = 31) h h113 := kk110.tr (by rw [← hh113]; exact z_K.put fi111 (by first | decide | simp | omega))
                                    have sg_Nh113 : z_K (fun y => y = 20) h108 h113 := sg_Nh110.tr (by rw [← hh113]; exact z_K.put fi111 (by simp))
                                    refine W.eq (g2 := F0 m 200 ls []) rfl ?_
                                    refine lv_goto (tgt := 15) hx hb d_M_readGroup_200 (by decide) ?_
                                    refine ih_15 c5 (f9 + 1) false (sk t n (sk t n p4) + 1) (-1) R4 h113 _ _ _ f113_mo f113_ma_1 (⟨by omega, by omega, by omega⟩) kk113 (n4.k sg_Nh113 (by omega) (by omega) (by omega)) (Or.inl ⟨by omega, z4⟩) (Or.inr ⟨rfl, by rw [eX8, if_pos (by rw [← sk_sk]; exact ws197), if_neg (fun z => by cases z.1), sk_sk], by rw [sk_sk] at *; omega, by rw [sk_sk] at *; omega⟩) ?_ hw (lv_sub hl [4, 5, 6, 0, 3] rfl)
                                    omega
                                  · -- wanted False
                                    have il112 : ¬ nI (sk t n (sk t n p4)) = (-1 : Int32) := nI_ne1 (by omega)
                                    obtain ⟨r8, hp⟩ := hp
                                    unfold wsP wsI at hp
                                    rw [if_neg (fun z => ws197 z.2), if_pos rfl, if_neg ws197] at hp
                                    have hp := And.intro r8 hp
                                    obtain ⟨r8, hh114⟩ := hp
                                    subst r8
                                    obtain ⟨h114, e8⟩ : ∃ x9, x9 = h9 := ⟨_, rfl⟩
                                    subst e8
                                    have f114_mo : h114 mo = some ((20, 0), .inr (11, mF ma cod tpd (nI n) (nI S.1) cls9 ffl fcl (nI R4.1) (nI (tbC R4.2 R4.1)) ous (nI (sk t n (sk t n p4))) (nI (sk t n (sk t n p4))))) := by rw [← hh114]; exact z_put_eq
                                    have f114_ma_1 : h114 (ma 1) = some ((22, 0), .inl (g.2.1 1, 4000, .inl f)) := by rw [← hh114]; exact z_keep fi111 f110_ma_1 (z_t1 (by decide))
                                    have kk114 : z_K (fun y => y = 20 ∨ y = 29 ∨ y = 30 ∨ y = 31) h h114 := kk110.tr (by rw [← hh114]; exact z_K.put fi111 (by first | decide | simp | omega))
                                    have sg_Nh114 : z_K (fun y => y = 20) h108 h114 := sg_Nh110.tr (by rw [← hh114]; exact z_K.put fi111 (by simp))
                                    refine W.eq (g2 := F0 m 200 ls []) rfl ?_
                                    refine lv_goto (tgt := 15) hx hb d_M_readGroup_200 (by decide) ?_
                                    refine ih_15 c5 (f9 + 1) false (sk t n (sk t n p4)) (nI (sk t n (sk t n p4))) R4 h114 _ _ _ f114_mo f114_ma_1 (⟨by omega, by omega, by omega⟩) kk114 (n4.k sg_Nh114 (by omega) (by omega) (by omega)) (Or.inr il112) (Or.inl ⟨il112, by rw [eX8, if_neg (by rw [← sk_sk]; exact ws197), memE_no (by rw [sk_sk]; exact c_184)]; rfl⟩) ?_ hw (lv_sub hl [4, 5, 6, 0, 3] rfl)
                                    omega
                                · -- 184: False
                                  have l187 := bt_lt (c := 125) (show bt t n (sk t n p4) = 125 by simpa using c_184)
                                  refine lv_aload_n hx hb d_M_readGroup_187 rfl (lv_at hl 4 rfl) ?_
                                  refine lv_iload_n hx hb d_M_readGroup_188 rfl (lv_at hl 6 rfl) ?_
                                  refine lv_iload_n hx hb d_M_readGroup_189 rfl (lv_at hl 0 rfl) ?_
                                  refine z_callV (n := 2) (As := [.int gr, .int (nI (f9 + 1))]) (rest := []) ⟨hx, hb, hml, hown, hts⟩ (m_end (a9 := f9 + 1) l g h110 fi111 (hSc.k kk110 (by omega) (by omega) (by omega)) hB (by omega)) (z_in k_975 rfl) (z_in k_7 rfl) (z_in k_972 rfl) (z_in k_974 rfl) (z_in ks_40 rfl) (by decide +kernel) ⟨by first | exact Nat.le_of_ble_eq_true rfl | (dsimp only; omega) | omega, by first | exact Nat.le_of_ble_eq_true rfl | (dsimp only; omega) | omega⟩ hK hE hw hA rfl fi111 rfl hl.1 (Nat.le_of_ble_eq_true rfl) d_M_readGroup_190 ⟨by first | exact Nat.le_of_ble_eq_true rfl | (dsimp only; omega) | omega, by first | exact Nat.le_of_ble_eq_true rfl | (dsimp only; omega) | omega⟩ rfl (fun r9 h9 H locs hp hw => ?_)
                                  obtain ⟨r8, hh115⟩ := hp
                                  subst r8
                                  obtain ⟨h115, e8⟩ : ∃ x9, x9 = h9 := ⟨_, rfl⟩
                                  subst e8
                                  have f115_mo : h115 mo = some ((20, 0), .inr (11, mF ma cod tpd (nI n) (nI S.1) cls9 ffl fcl (nI R4.1) (nI (tbC R4.2 R4.1)) ous (nI (sk t n p4 + 1)) (if hrq S gr (f9 + 1) = true then nI (sk t n p4) else -1))) := by rw [← hh115]; exact z_put_eq
                                  have f115_ma_1 : h115 (ma 1) = some ((22, 0), .inl (g.2.1 1, 4000, .inl f)) := by rw [← hh115]; exact z_keep fi111 f110_ma_1 (z_t1 (by decide))
                                  have kk115 : z_K (fun y => y = 20 ∨ y = 29 ∨ y = 30 ∨ y = 31) h h115 := kk110.tr (by rw [← hh115]; exact z_K.put fi111 (by first | decide | simp | omega))
                                  have sg_Nh115 : z_K (fun y => y = 20) h108 h115 := sg_Nh110.tr (by rw [← hh115]; exact z_K.put fi111 (by simp))
                                  refine W.eq (g2 := F0 m 193 ls []) rfl ?_
                                  exact z_vret hx hb hr hlocks hw (by have eX9 : X = if hrq S gr (f9 + 1) = true then .inl (sk t n p4, R4) else .inr (sk t n p4 + 1, R4) := (by have z9 : bt t n (sk t n p4) = 125 := (by simpa using c_184); rw [eX8, if_neg (by rw [z9]; decide), memE_ok (by rw [sk_sk]; exact z9), sk_sk]); have eR : resJ X = if hrq S gr (f9 + 1) = true then nI (sk t n p4) else -1 := (by rw [eX9]; split <;> rfl); refine ⟨rfl, kk115, sk t n p4 + 1, R4, ?_, by omega, by omega, n4.k sg_Nh115 (by omega) (by omega) (by omega), fun z => by rw [eR] at z; by_cases z2 : hrq S gr (f9 + 1) = true; (· rw [if_pos z2] at z; exact absurd z (nI_ne1 (by omega))); (· exact ⟨by rw [eX9, if_neg z2], by omega, by omega, z4⟩)⟩; rw [eR]; exact f115_mo) (by decide) (by decide) d_M_readGroup_193
                            · -- read False
                              have eX7 : resJ X = resJ (fldR (VR f9) S t n f9 (sk t n (we t n (sk t n p3)) + 1) R3) := by obtain ⟨F9, eF9⟩ := resJ_inl e30; rw [eXL, memL_no (F := (fun fi p R => fldR (VR fi) S t n fi p R)) enm ws124 eF9, eF9]
                              refine lv_aload_n hx hb d_M_readGroup_170 rfl (lv_at hl 4 rfl) ?_
                              refine z_get hx hb hts (z_lay i_M) hown hK hw f110_mo rfl 30 (by decide) (z_in k_801 rfl) (fun _ h9 => h9) rfl d_M_readGroup_171 ?_
                              refine lv_iconst (v := (-1)) hx hb d_M_readGroup_174 (by decide) ?_
                              refine lv_icmp_ne (tgt := 194) hx hb d_M_readGroup_175 (by decide) (fun c_175 => ?_) (fun c_175 => ?_)
                              · -- 175: True
                                refine lv_aload_n hx hb d_M_readGroup_194 rfl (lv_at hl 4 rfl) ?_
                                refine lv_bipush (v := 44) hx hb d_M_readGroup_195 (by decide) ?_
                                refine z_callV (n := 1) (As := [.int 44]) (rest := []) ⟨hx, hb, hml, hown, hts⟩ (m_wantSign (t := t) l g h110 f110_mo f110_ma_1 hn hf (by omega)) (z_in k_923 rfl) (z_in k_7 rfl) (z_in k_920 rfl) (z_in k_922 rfl) (z_in ks_33 rfl) (by decide +kernel) ⟨by first | exact Nat.le_of_ble_eq_true rfl | (dsimp only; omega) | omega, by first | exact Nat.le_of_ble_eq_true rfl | (dsimp only; omega) | omega⟩ hK hE hw hA rfl f110_mo rfl hl.1 (Nat.le_of_ble_eq_true rfl) d_M_readGroup_197 ⟨by first | exact Nat.le_of_ble_eq_true rfl | (dsimp only; omega) | omega, by first | exact Nat.le_of_ble_eq_true rfl | (dsimp only; omega) | omega⟩ rfl (fun r9 h9 H locs hp hw => ?_)
                                have sa116 := sk_le (t := t) (n := n) (p := sk t n p4) (by omega)
                                have sb116 := sk_ge t n (sk t n p4)
                                obtain ⟨r8, hp⟩ := hp
                                unfold wsP wsI at hp
                                rw [if_neg (fun z => e30 z.1), if_neg e30] at hp
                                have hp := And.intro r8 hp
                                obtain ⟨r8, hh117⟩ := hp
                                subst r8
                                obtain ⟨h117, e8⟩ : ∃ x9, x9 = h9 := ⟨_, rfl⟩
                                subst e8
                                have f117_mo : h117 mo = some ((20, 0), .inr (11, mF ma cod tpd (nI n) (nI S.1) cls9 ffl fcl (nI R4.1) (nI (tbC R4.2 R4.1)) ous (nI (sk t n (sk t n p4))) (resJ (fldR (VR f9) S t n f9 (sk t n (we t n (sk t n p3)) + 1) R3)))) := by rw [← hh117]; exact z_put_eq
                                have f117_ma_1 : h117 (ma 1) = some ((22, 0), .inl (g.2.1 1, 4000, .inl f)) := by rw [← hh117]; exact z_keep f110_mo f110_ma_1 (z_t1 (by decide))
                                have kk117 : z_K (fun y => y = 20 ∨ y = 29 ∨ y = 30 ∨ y = 31) h h117 := kk110.tr (by rw [← hh117]; exact z_K.put f110_mo (by first | decide | simp | omega))
                                have sg_Nh117 : z_K (fun y => y = 20) h108 h117 := sg_Nh110.tr (by rw [← hh117]; exact z_K.put f110_mo (by simp))
                                refine W.eq (g2 := F0 m 200 ls []) rfl ?_
                                refine lv_goto (tgt := 15) hx hb d_M_readGroup_200 (by decide) ?_
                                refine ih_15 c5 (f9 + 1) false (sk t n (sk t n p4)) (resJ (fldR (VR f9) S t n f9 (sk t n (we t n (sk t n p3)) + 1) R3)) R4 h117 _ _ _ f117_mo f117_ma_1 (⟨by omega, by omega, by omega⟩) kk117 (n4.k sg_Nh117 (by omega) (by omega) (by omega)) (Or.inr e30) (Or.inl ⟨e30, eX7⟩) ?_ hw (lv_sub hl [4, 5, 6, 0, 3] rfl)
                                omega
                              · -- 175: False
                                exact absurd (by simpa using c_175) e30
                          · -- 146: False
                            refine lv_aload_n hx hb d_M_readGroup_149 rfl (lv_at hl 4 rfl) ?_
                            refine lv_iload_n hx hb d_M_readGroup_150 rfl (lv_at hl 5 rfl) ?_
                            refine lv_iload hx hb d_M_readGroup_151 (lv_at hl 1 rfl) ?_
                            have eV9 : fldR (VR f9) S t n f9 (sk t n (we t n (sk t n p3)) + 1) R3 = if bt t n (sk t n (sk t n (we t n (sk t n p3)) + 1)) = 91 then (if bt t n (sk t n (sk t n (sk t n (we t n (sk t n p3)) + 1) + 1)) = 93 then sgnR t n 93 (sk t n (sk t n (sk t n (we t n (sk t n p3)) + 1) + 1)) R3 else rowL (VR f9) t n 4001 (sk t n (sk t n (sk t n (we t n (sk t n p3)) + 1) + 1)) R3) else .inl (sk t n (sk t n (we t n (sk t n p3)) + 1), R3) := by unfold fldR; rw [if_pos (show fKi (S.2 f9) = 2 by simpa using c_146)]
                            refine z_callV (n := 2) (As := [.int (nI pi), .int (nI f9)]) (rest := []) ⟨hx, hb, hml, hown, hts⟩ (m_readRow_of (t := t) (VR := VR f9) (pi := pi) (fi := f9) (R := R3) (p := sk t n (we t n (sk t n p3)) + 1) l g h107 f107_mo f107_ma_1 hn hf (by omega) (hSc.k kk107 (by omega) (by omega) (by omega)) (hN3.k sg_Nh107 (by omega) (by omega) (by omega)) hc4.2 (by omega) (by omega) eV9 (hV f9 lf9 hgf9)) (z_in k_983 rfl) (z_in k_7 rfl) (z_in k_980 rfl) (z_in k_982 rfl) (z_in ks_42 rfl) (by decide +kernel) ⟨by first | exact Nat.le_of_ble_eq_true rfl | (dsimp only; omega) | omega, by first | exact Nat.le_of_ble_eq_true rfl | (dsimp only; omega) | omega⟩ hK hE hw hA rfl f107_mo rfl hl.1 (Nat.le_of_ble_eq_true rfl) d_M_readGroup_153 ⟨by first | exact Nat.le_of_ble_eq_true rfl | (dsimp only; omega) | omega, by first | exact Nat.le_of_ble_eq_true rfl | (dsimp only; omega) | omega⟩ rfl (fun r9 h9 H locs hp hw => ?_)
                            obtain ⟨r8, kk8, p4, R4, m4, le4, ge4, n4, im4⟩ := hp
                            subst r8
                            obtain ⟨h118, e7⟩ : ∃ x9, x9 = h9 := ⟨_, rfl⟩
                            subst e7
                            have g118_ma_1 : h118 (ma 1) = some ((22, 0), .inl (g.2.1 1, 4000, .inl f)) := kk8 _ _ _ f107_ma_1 (by simp)
                            have kk118 : z_K (fun y => y = 20 ∨ y = 29 ∨ y = 30 ∨ y = 31) h h118 := kk107.tr kk8
                            have sg_Nh118 : z_K (fun y => y = 20) h118 h118 := z_K.rf
                            refine W.eq (g2 := F0 m 156 ls []) rfl ?_
                            refine lv_goto (tgt := 166) hx hb d_M_readGroup_156 (by decide) ?_
                            refine lv_aload_n hx hb d_M_readGroup_166 rfl (lv_at hl 4 rfl) ?_
                            refine z_callV (n := 0) (As := []) (rest := []) ⟨hx, hb, hml, hown, hts⟩ (m_blanks (t := t) l g h118 m4 g118_ma_1 hn hf (by omega)) (z_in k_885 rfl) (z_in k_7 rfl) (z_in k_882 rfl) (z_in k_884 rfl) (z_in ks_27 rfl) (by decide +kernel) ⟨by first | exact Nat.le_of_ble_eq_true rfl | (dsimp only; omega) | omega, by first | exact Nat.le_of_ble_eq_true rfl | (dsimp only; omega) | omega⟩ hK hE hw hA rfl m4 rfl hl.1 (Nat.le_of_ble_eq_true rfl) d_M_readGroup_167 ⟨by first | exact Nat.le_of_ble_eq_true rfl | (dsimp only; omega) | omega, by first | exact Nat.le_of_ble_eq_true rfl | (dsimp only; omega) | omega⟩ rfl (fun r9 h9 H locs hp hw => ?_)
                            have sq119 := sk_le (t := t) (n := n) (p := p4) (by omega)
                            have sr119 := sk_ge t n p4
                            obtain ⟨r8, hh120⟩ := hp
                            subst r8
                            obtain ⟨h120, e8⟩ : ∃ x9, x9 = h9 := ⟨_, rfl⟩
                            subst e8
                            have f120_mo : h120 mo = some ((20, 0), .inr (11, mF ma cod tpd (nI n) (nI S.1) cls9 ffl fcl (nI R4.1) (nI (tbC R4.2 R4.1)) ous (nI (sk t n p4)) (resJ (fldR (VR f9) S t n f9 (sk t n (we t n (sk t n p3)) + 1) R3)))) := by rw [← hh120]; exact z_put_eq
                            have f120_ma_1 : h120 (ma 1) = some ((22, 0), .inl (g.2.1 1, 4000, .inl f)) := by rw [← hh120]; exact z_keep m4 g118_ma_1 (z_t1 (by decide))
                            have kk120 : z_K (fun y => y = 20 ∨ y = 29 ∨ y = 30 ∨ y = 31) h h120 := kk118.tr (by rw [← hh120]; exact z_K.put m4 (by first | decide | simp | omega))
                            have sg_Nh120 : z_K (fun y => y = 20) h118 h120 := sg_Nh118.tr (by rw [← hh120]; exact z_K.put m4 (by simp))
                            refine W.eq (g2 := F0 m 170 ls []) rfl ?_
                            by_cases e30 : resJ (fldR (VR f9) S t n f9 (sk t n (we t n (sk t n p3)) + 1) R3) = -1
                            · -- read True
                              obtain ⟨eF4, b4, t4, z4⟩ := im4 e30
                              have fi121 : h120 mo = some ((20, 0), .inr (11, mF ma cod tpd (nI n) (nI S.1) cls9 ffl fcl (nI R4.1) (nI (tbC R4.2 R4.1)) ous (nI (sk t n p4)) (-1))) := by have z9 := f120_mo; rw [e30] at z9; exact z9
                              have eX8 : X = if bt t n (sk t n p4) = 44 then memL (fun fi p R => fldR (VR fi) S t n fi p R) S t n gr c5 (f9 + 1) (sk t n p4 + 1) R4 else memE S t n gr (f9 + 1) (sk t n p4) R4 := by rw [eXL]; exact memL_ok (F := (fun fi p R => fldR (VR fi) S t n fi p R)) enm ws124 eF4
                              refine lv_aload_n hx hb d_M_readGroup_170 rfl (lv_at hl 4 rfl) ?_
                              refine z_get hx hb hts (z_lay i_M) hown hK hw fi121 rfl 30 (by decide) (z_in k_801 rfl) (fun _ h9 => h9) rfl d_M_readGroup_171 ?_
                              refine lv_iconst (v := (-1)) hx hb d_M_readGroup_174 (by decide) ?_
                              refine lv_icmp_ne (tgt := 194) hx hb d_M_readGroup_175 (by decide) (fun c_175 => ?_) (fun c_175 => ?_)
                              · -- 175: True
                                exact absurd rfl c_175
                              · -- 175: False
                                refine lv_aload_n hx hb d_M_readGroup_178 rfl (lv_at hl 4 rfl) ?_
                                refine z_callV (n := 0) (As := []) (rest := []) ⟨hx, hb, hml, hown, hts⟩ (m_look (t := t) l g h120 fi121 f120_ma_1 hn hf (by omega)) (z_in k_889 rfl) (z_in k_7 rfl) (z_in k_886 rfl) (z_in k_888 rfl) (z_in ks_28 rfl) (by decide +kernel) ⟨by first | exact Nat.le_of_ble_eq_true rfl | (dsimp only; omega) | omega, by first | exact Nat.le_of_ble_eq_true rfl | (dsimp only; omega) | omega⟩ hK hE hw hA rfl fi121 rfl hl.1 (Nat.le_of_ble_eq_true rfl) d_M_readGroup_179 ⟨by first | exact Nat.le_of_ble_eq_true rfl | (dsimp only; omega) | omega, by first | exact Nat.le_of_ble_eq_true rfl | (dsimp only; omega) | omega⟩ rfl (fun r9 h9 H locs hp hw => ?_)
                                obtain ⟨r8, h8⟩ := hp
                                subst r8
                                subst h8
                                refine W.eq (g2 := F0 m 182 ls [.int (bt t n (sk t n p4))]) rfl ?_
                                refine lv_bipush (v := 125) hx hb d_M_readGroup_182 (by decide) ?_
                                refine lv_icmp_ne (tgt := 194) hx hb d_M_readGroup_184 (by decide) (fun c_184 => ?_) (fun c_184 => ?_)
                                · -- 184: True
                                  refine lv_aload_n hx hb d_M_readGroup_194 rfl (lv_at hl 4 rfl) ?_
                                  refine lv_bipush (v := 44) hx hb d_M_readGroup_195 (by decide) ?_
                                  refine z_callV (n := 1) (As := [.int 44]) (rest := []) ⟨hx, hb, hml, hown, hts⟩ (m_wantSign (t := t) l g h120 fi121 f120_ma_1 hn hf (by omega)) (z_in k_923 rfl) (z_in k_7 rfl) (z_in k_920 rfl) (z_in k_922 rfl) (z_in ks_33 rfl) (by decide +kernel) ⟨by first | exact Nat.le_of_ble_eq_true rfl | (dsimp only; omega) | omega, by first | exact Nat.le_of_ble_eq_true rfl | (dsimp only; omega) | omega⟩ hK hE hw hA rfl fi121 rfl hl.1 (Nat.le_of_ble_eq_true rfl) d_M_readGroup_197 ⟨by first | exact Nat.le_of_ble_eq_true rfl | (dsimp only; omega) | omega, by first | exact Nat.le_of_ble_eq_true rfl | (dsimp only; omega) | omega⟩ rfl (fun r9 h9 H locs hp hw => ?_)
                                  have sa122 := sk_le (t := t) (n := n) (p := sk t n p4) (by omega)
                                  have sb122 := sk_ge t n (sk t n p4)
                                  by_cases ws197 : bt t n (sk t n (sk t n p4)) = 44
                                  · -- wanted True
                                    have sc122 := bt_lt (c := 44) ws197
                                    obtain ⟨r8, hp⟩ := hp
                                    unfold wsP wsI at hp
                                    rw [if_pos ⟨rfl, ws197⟩, if_pos rfl, if_pos ws197] at hp
                                    have hp := And.intro r8 hp
                                    obtain ⟨r8, hh123⟩ := hp
                                    subst r8
                                    obtain ⟨h123, e8⟩ : ∃ x9, x9 = h9 := ⟨_, rfl⟩
                                    subst e8
                                    have f123_mo : h123 mo = some ((20, 0), .inr (11, mF ma cod tpd (nI n) (nI S.1) cls9 ffl fcl (nI R4.1) (nI (tbC R4.2 R4.1)) ous (nI (sk t n (sk t n p4) + 1)) (-1))) := by rw [← hh123]; exact z_put_eq
                                    have f123_ma_1 : h123 (ma 1) = some ((22, 0), .inl (g.2.1 1, 4000, .inl f)) := by rw [← hh123]; exact z_keep fi121 f120_ma_1 (z_t1 (by decide))
                                    have kk123 : z_K (fun y => y = 20 ∨ y = 29 ∨ y = 30 ∨ y = 31) h h123 := kk120.tr (by rw [← hh123]; exact z_K.put fi121 (by first | decide | simp | omega))
                                    have sg_Nh123 : z_K (fun y => y = 20) h118 h123 := sg_Nh120.tr (by rw [← hh123]; exact z_K.put fi121 (by simp))
                                    refine W.eq (g2 := F0 m 200 ls []) rfl ?_
                                    refine lv_goto (tgt := 15) hx hb d_M_readGroup_200 (by decide) ?_
                                    refine ih_15 c5 (f9 + 1) false (sk t n (sk t n p4) + 1) (-1) R4 h123 _ _ _ f123_mo f123_ma_1 (⟨by omega, by omega, by omega⟩) kk123 (n4.k sg_Nh123 (by omega) (by omega) (by omega)) (Or.inl ⟨by omega, z4⟩) (Or.inr ⟨rfl, by rw [eX8, if_pos (by rw [← sk_sk]; exact ws197), if_neg (fun z => by cases z.1), sk_sk], by rw [sk_sk] at *; omega, by rw [sk_sk] at *; omega⟩) ?_ hw (lv_sub hl [4, 5, 6, 0, 3] rfl)
                                    omega
                                  · -- wanted False
                                    have il122 : ¬ nI (sk t n (sk t n p4)) = (-1 : Int32) := nI_ne1 (by omega)
                                    obtain ⟨r8, hp⟩ := hp
                                    unfold wsP wsI at hp
                                    rw [if_neg (fun z => ws197 z.2), if_pos rfl, if_neg ws197] at hp
                                    have hp := And.intro r8 hp
                                    obtain ⟨r8, hh124⟩ := hp
                                    subst r8
                                    obtain ⟨h124, e8⟩ : ∃ x9, x9 = h9 := ⟨_, rfl⟩
                                    subst e8
                                    have f124_mo : h124 mo = some ((20, 0), .inr (11, mF ma cod tpd (nI n) (nI S.1) cls9 ffl fcl (nI R4.1) (nI (tbC R4.2 R4.1)) ous (nI (sk t n (sk t n p4))) (nI (sk t n (sk t n p4))))) := by rw [← hh124]; exact z_put_eq
                                    have f124_ma_1 : h124 (ma 1) = some ((22, 0), .inl (g.2.1 1, 4000, .inl f)) := by rw [← hh124]; exact z_keep fi121 f120_ma_1 (z_t1 (by decide))
                                    have kk124 : z_K (fun y => y = 20 ∨ y = 29 ∨ y = 30 ∨ y = 31) h h124 := kk120.tr (by rw [← hh124]; exact z_K.put fi121 (by first | decide | simp | omega))
                                    have sg_Nh124 : z_K (fun y => y = 20) h118 h124 := sg_Nh120.tr (by rw [← hh124]; exact z_K.put fi121 (by simp))
                                    refine W.eq (g2 := F0 m 200 ls []) rfl ?_
                                    refine lv_goto (tgt := 15) hx hb d_M_readGroup_200 (by decide) ?_
                                    refine ih_15 c5 (f9 + 1) false (sk t n (sk t n p4)) (nI (sk t n (sk t n p4))) R4 h124 _ _ _ f124_mo f124_ma_1 (⟨by omega, by omega, by omega⟩) kk124 (n4.k sg_Nh124 (by omega) (by omega) (by omega)) (Or.inr il122) (Or.inl ⟨il122, by rw [eX8, if_neg (by rw [← sk_sk]; exact ws197), memE_no (by rw [sk_sk]; exact c_184)]; rfl⟩) ?_ hw (lv_sub hl [4, 5, 6, 0, 3] rfl)
                                    omega
                                · -- 184: False
                                  have l187 := bt_lt (c := 125) (show bt t n (sk t n p4) = 125 by simpa using c_184)
                                  refine lv_aload_n hx hb d_M_readGroup_187 rfl (lv_at hl 4 rfl) ?_
                                  refine lv_iload_n hx hb d_M_readGroup_188 rfl (lv_at hl 6 rfl) ?_
                                  refine lv_iload_n hx hb d_M_readGroup_189 rfl (lv_at hl 0 rfl) ?_
                                  refine z_callV (n := 2) (As := [.int gr, .int (nI (f9 + 1))]) (rest := []) ⟨hx, hb, hml, hown, hts⟩ (m_end (a9 := f9 + 1) l g h120 fi121 (hSc.k kk120 (by omega) (by omega) (by omega)) hB (by omega)) (z_in k_975 rfl) (z_in k_7 rfl) (z_in k_972 rfl) (z_in k_974 rfl) (z_in ks_40 rfl) (by decide +kernel) ⟨by first | exact Nat.le_of_ble_eq_true rfl | (dsimp only; omega) | omega, by first | exact Nat.le_of_ble_eq_true rfl | (dsimp only; omega) | omega⟩ hK hE hw hA rfl fi121 rfl hl.1 (Nat.le_of_ble_eq_true rfl) d_M_readGroup_190 ⟨by first | exact Nat.le_of_ble_eq_true rfl | (dsimp only; omega) | omega, by first | exact Nat.le_of_ble_eq_true rfl | (dsimp only; omega) | omega⟩ rfl (fun r9 h9 H locs hp hw => ?_)
                                  obtain ⟨r8, hh125⟩ := hp
                                  subst r8
                                  obtain ⟨h125, e8⟩ : ∃ x9, x9 = h9 := ⟨_, rfl⟩
                                  subst e8
                                  have f125_mo : h125 mo = some ((20, 0), .inr (11, mF ma cod tpd (nI n) (nI S.1) cls9 ffl fcl (nI R4.1) (nI (tbC R4.2 R4.1)) ous (nI (sk t n p4 + 1)) (if hrq S gr (f9 + 1) = true then nI (sk t n p4) else -1))) := by rw [← hh125]; exact z_put_eq
                                  have f125_ma_1 : h125 (ma 1) = some ((22, 0), .inl (g.2.1 1, 4000, .inl f)) := by rw [← hh125]; exact z_keep fi121 f120_ma_1 (z_t1 (by decide))
                                  have kk125 : z_K (fun y => y = 20 ∨ y = 29 ∨ y = 30 ∨ y = 31) h h125 := kk120.tr (by rw [← hh125]; exact z_K.put fi121 (by first | decide | simp | omega))
                                  have sg_Nh125 : z_K (fun y => y = 20) h118 h125 := sg_Nh120.tr (by rw [← hh125]; exact z_K.put fi121 (by simp))
                                  refine W.eq (g2 := F0 m 193 ls []) rfl ?_
                                  exact z_vret hx hb hr hlocks hw (by have eX9 : X = if hrq S gr (f9 + 1) = true then .inl (sk t n p4, R4) else .inr (sk t n p4 + 1, R4) := (by have z9 : bt t n (sk t n p4) = 125 := (by simpa using c_184); rw [eX8, if_neg (by rw [z9]; decide), memE_ok (by rw [sk_sk]; exact z9), sk_sk]); have eR : resJ X = if hrq S gr (f9 + 1) = true then nI (sk t n p4) else -1 := (by rw [eX9]; split <;> rfl); refine ⟨rfl, kk125, sk t n p4 + 1, R4, ?_, by omega, by omega, n4.k sg_Nh125 (by omega) (by omega) (by omega), fun z => by rw [eR] at z; by_cases z2 : hrq S gr (f9 + 1) = true; (· rw [if_pos z2] at z; exact absurd z (nI_ne1 (by omega))); (· exact ⟨by rw [eX9, if_neg z2], by omega, by omega, z4⟩)⟩; rw [eR]; exact f125_mo) (by decide) (by decide) d_M_readGroup_193
                            · -- read False
                              have eX7 : resJ X = resJ (fldR (VR f9) S t n f9 (sk t n (we t n (sk t n p3)) + 1) R3) := by obtain ⟨F9, eF9⟩ := resJ_inl e30; rw [eXL, memL_no (F := (fun fi p R => fldR (VR fi) S t n fi p R)) enm ws124 eF9, eF9]
                              refine lv_aload_n hx hb d_M_readGroup_170 rfl (lv_at hl 4 rfl) ?_
                              refine z_get hx hb hts (z_lay i_M) hown hK hw f120_mo rfl 30 (by decide) (z_in k_801 rfl) (fun _ h9 => h9) rfl d_M_readGroup_171 ?_
                              refine lv_iconst (v := (-1)) hx hb d_M_readGroup_174 (by decide) ?_
                              refine lv_icmp_ne (tgt := 194) hx hb d_M_readGroup_175 (by decide) (fun c_175 => ?_) (fun c_175 => ?_)
                              · -- 175: True
                                refine lv_aload_n hx hb d_M_readGroup_194 rfl (lv_at hl 4 rfl) ?_
                                refine lv_bipush (v := 44) hx hb d_M_readGroup_195 (by decide) ?_
                                refine z_callV (n := 1) (As := [.int 44]) (rest := []) ⟨hx, hb, hml, hown, hts⟩ (m_wantSign (t := t) l g h120 f120_mo f120_ma_1 hn hf (by omega)) (z_in k_923 rfl) (z_in k_7 rfl) (z_in k_920 rfl) (z_in k_922 rfl) (z_in ks_33 rfl) (by decide +kernel) ⟨by first | exact Nat.le_of_ble_eq_true rfl | (dsimp only; omega) | omega, by first | exact Nat.le_of_ble_eq_true rfl | (dsimp only; omega) | omega⟩ hK hE hw hA rfl f120_mo rfl hl.1 (Nat.le_of_ble_eq_true rfl) d_M_readGroup_197 ⟨by first | exact Nat.le_of_ble_eq_true rfl | (dsimp only; omega) | omega, by first | exact Nat.le_of_ble_eq_true rfl | (dsimp only; omega) | omega⟩ rfl (fun r9 h9 H locs hp hw => ?_)
                                have sa126 := sk_le (t := t) (n := n) (p := sk t n p4) (by omega)
                                have sb126 := sk_ge t n (sk t n p4)
                                obtain ⟨r8, hp⟩ := hp
                                unfold wsP wsI at hp
                                rw [if_neg (fun z => e30 z.1), if_neg e30] at hp
                                have hp := And.intro r8 hp
                                obtain ⟨r8, hh127⟩ := hp
                                subst r8
                                obtain ⟨h127, e8⟩ : ∃ x9, x9 = h9 := ⟨_, rfl⟩
                                subst e8
                                have f127_mo : h127 mo = some ((20, 0), .inr (11, mF ma cod tpd (nI n) (nI S.1) cls9 ffl fcl (nI R4.1) (nI (tbC R4.2 R4.1)) ous (nI (sk t n (sk t n p4))) (resJ (fldR (VR f9) S t n f9 (sk t n (we t n (sk t n p3)) + 1) R3)))) := by rw [← hh127]; exact z_put_eq
                                have f127_ma_1 : h127 (ma 1) = some ((22, 0), .inl (g.2.1 1, 4000, .inl f)) := by rw [← hh127]; exact z_keep f120_mo f120_ma_1 (z_t1 (by decide))
                                have kk127 : z_K (fun y => y = 20 ∨ y = 29 ∨ y = 30 ∨ y = 31) h h127 := kk120.tr (by rw [← hh127]; exact z_K.put f120_mo (by first | decide | simp | omega))
                                have sg_Nh127 : z_K (fun y => y = 20) h118 h127 := sg_Nh120.tr (by rw [← hh127]; exact z_K.put f120_mo (by simp))
                                refine W.eq (g2 := F0 m 200 ls []) rfl ?_
                                refine lv_goto (tgt := 15) hx hb d_M_readGroup_200 (by decide) ?_
                                refine ih_15 c5 (f9 + 1) false (sk t n (sk t n p4)) (resJ (fldR (VR f9) S t n f9 (sk t n (we t n (sk t n p3)) + 1) R3)) R4 h127 _ _ _ f127_mo f127_ma_1 (⟨by omega, by omega, by omega⟩) kk127 (n4.k sg_Nh127 (by omega) (by omega) (by omega)) (Or.inr e30) (Or.inl ⟨e30, eX7⟩) ?_ hw (lv_sub hl [4, 5, 6, 0, 3] rfl)
                                omega
                              · -- 175: False
                                exact absurd (by simpa using c_175) e30
                        · -- 132: False
                          exact absurd rfl c_132
                      · -- wanted False
                        have il106 : ¬ nI (sk t n (we t n (sk t n p3))) = (-1 : Int32) := nI_ne1 (by omega)
                        obtain ⟨r8, hp⟩ := hp
                        unfold wsP wsI at hp
                        rw [if_neg (fun z => ws124 z.2), if_pos rfl, if_neg ws124] at hp
                        have hp := And.intro r8 hp
                        obtain ⟨r8, hh128⟩ := hp
                        subst r8
                        obtain ⟨h128, e8⟩ : ∃ x9, x9 = h9 := ⟨_, rfl⟩
                        subst e8
                        have f128_mo : h128 mo = some ((20, 0), .inr (11, mF ma cod tpd (nI n) (nI S.1) cls9 ffl fcl (nI R3.1) (nI (tbC R3.2 R3.1)) ous (nI (sk t n (we t n (sk t n p3)))) (nI (sk t n (we t n (sk t n p3)))))) := by rw [← hh128]; exact z_put_eq
                        have f128_ma_1 : h128 (ma 1) = some ((22, 0), .inl (g.2.1 1, 4000, .inl f)) := by rw [← hh128]; exact z_keep fe105 f104_ma_1 (z_t1 (by decide))
                        have kk128 : z_K (fun y => y = 20 ∨ y = 29 ∨ y = 30 ∨ y = 31) h h128 := kk104.tr (by rw [← hh128]; exact z_K.put fe105 (by first | decide | simp | omega))
                        have sg_Nh128 : z_K (fun y => y = 20) hL h128 := sg_Nh104.tr (by rw [← hh128]; exact z_K.put fe105 (by simp))
                        refine W.eq (g2 := F0 m 127 ls []) rfl ?_
                        refine lv_aload_n hx hb d_M_readGroup_127 rfl (lv_at hl 4 rfl) ?_
                        refine z_get hx hb hts (z_lay i_M) hown hK hw f128_mo rfl 30 (by decide) (z_in k_801 rfl) (fun _ h9 => h9) rfl d_M_readGroup_128 ?_
                        refine lv_iconst (v := (-1)) hx hb d_M_readGroup_131 (by decide) ?_
                        refine lv_icmp_eq (tgt := 136) hx hb d_M_readGroup_132 (by decide) (fun c_132 => ?_) (fun c_132 => ?_)
                        · -- 132: True
                          exact absurd c_132 il106
                        · -- 132: False
                          exact z_vret hx hb hr hlocks hw (by have eR : resJ X = nI (sk t n (we t n (sk t n p3))) := (by rw [eXL, memL_col enm ws124]; rfl); refine ⟨rfl, kk128, sk t n (we t n (sk t n p3)), R3, ?_, by omega, by omega, hN3.k sg_Nh128 (by omega) (by omega) (by omega), fun z => absurd (eR.symm.trans z) il106⟩; rw [eR]; exact f128_mo) (by decide) (by decide) d_M_readGroup_135
                    · -- 93: False
                      have c_93 : (hrqR S gr (f9 - st) st) = true := zb_t c_93
                      have eXf : X = .inl (sk t n p3, R3) := by rw [eXL]; exact memL_nam (by rw [namR_find hu hs8 hlt9 lf9 (by omega) lm9, if_pos c_93])
                      refine lv_aload_n hx hb d_M_readGroup_96 rfl (lv_at hl 3 rfl) ?_
                      refine lv_aload_n hx hb d_M_readGroup_97 rfl (lv_at hl 3 rfl) ?_
                      refine z_get hx hb hts (z_lay i_M) hown hK hw f72_mo rfl 29 (by decide) (z_in k_800 rfl) (fun _ h9 => h9) rfl d_M_readGroup_98 ?_
                      refine z_callV (n := 1) (As := [.int (nI (sk t n p3))]) (rest := []) ⟨hx, hb, hml, hown, hts⟩ (m_fail l g h72 f72_mo) (z_in k_914 rfl) (z_in k_7 rfl) (z_in k_911 rfl) (z_in k_913 rfl) (z_in ks_32 rfl) (by decide +kernel) ⟨by first | exact Nat.le_of_ble_eq_true rfl | (dsimp only; omega) | omega, by first | exact Nat.le_of_ble_eq_true rfl | (dsimp only; omega) | omega⟩ hK hE hw hA rfl f72_mo rfl hl.1 (Nat.le_of_ble_eq_true rfl) d_M_readGroup_101 ⟨by first | exact Nat.le_of_ble_eq_true rfl | (dsimp only; omega) | omega, by first | exact Nat.le_of_ble_eq_true rfl | (dsimp only; omega) | omega⟩ rfl (fun r9 h9 H locs hp hw => ?_)
                      obtain ⟨r8, hh129⟩ := hp
                      subst r8
                      obtain ⟨h129, e8⟩ : ∃ x9, x9 = h9 := ⟨_, rfl⟩
                      subst e8
                      have f129_mo : h129 mo = some ((20, 0), .inr (11, mF ma cod tpd (nI n) (nI S.1) cls9 ffl fcl (nI R3.1) (nI (tbC R3.2 R3.1)) ous (nI (sk t n p3)) (nI (sk t n p3)))) := by rw [← hh129]; exact z_put_eq
                      have f129_ma_1 : h129 (ma 1) = some ((22, 0), .inl (g.2.1 1, 4000, .inl f)) := by rw [← hh129]; exact z_keep f72_mo f72_ma_1 (z_t1 (by decide))
                      have kk129 : z_K (fun y => y = 20 ∨ y = 29 ∨ y = 30 ∨ y = 31) h h129 := kk72.tr (by rw [← hh129]; exact z_K.put f72_mo (by first | decide | simp | omega))
                      have sg_Nh129 : z_K (fun y => y = 20) hL h129 := sg_Nh72.tr (by rw [← hh129]; exact z_K.put f72_mo (by simp))
                      refine W.eq (g2 := F0 m 104 ls []) rfl ?_
                      exact z_vret hx hb hr hlocks hw (by have eR : resJ X = nI (sk t n p3) := (by rw [eXf]; rfl); refine ⟨rfl, kk129, sk t n p3, R3, ?_, by omega, by omega, hN3.k sg_Nh129 (by omega) (by omega) (by omega), fun z => absurd (eR.symm.trans z) (nI_ne1 (by omega))⟩; rw [eR]; exact f129_mo) (by decide) (by decide) d_M_readGroup_104
              · -- 59: False
                have c_59 : (wl t n (sk t n p3)) = 0 := (nI_eq (a := wl t n (sk t n p3)) (b := 0) (by omega) (by omega)).mp c_59
                have nlt : ¬ isLet (bt t n (sk t n p3)) = true := fun z => by have := let_we (fun k hk => (hf k hk).1) z; have e9 : wl t n (sk t n p3) = 0 := (by omega); unfold wl at e9; rw [if_pos z] at e9; omega
                have eXf : X = .inl (sk t n p3, R3) := by rw [eXL]; exact memL_nam (namR_let nlt)
                refine lv_iconst (v := (-1)) hx hb d_M_readGroup_62 (by decide) ?_
                refine lv_goto (tgt := 77) hx hb d_M_readGroup_63 (by decide) ?_
                refine lv_istore (lv' := [(6, .int (-1)), (5, .int (nI (wl t n (sk t n p3)))), (4, .int 0), (0, .ref mo), (1, .int (nI pi)), (2, .int gr), (3, .int (nI st))]) hx hb d_M_readGroup_77 hl (by decide) rfl (fun ls hl => ?_)
                refine lv_iload hx hb d_M_readGroup_79 (lv_at hl 0 rfl) ?_
                refine lv_iload_n hx hb d_M_readGroup_81 rfl (lv_at hl 6 rfl) ?_
                refine lv_icmp_lt (tgt := 96) hx hb d_M_readGroup_82 (by decide) (fun c_82 => ?_) (fun c_82 => ?_)
                · -- 82: True
                  refine lv_aload_n hx hb d_M_readGroup_96 rfl (lv_at hl 3 rfl) ?_
                  refine lv_aload_n hx hb d_M_readGroup_97 rfl (lv_at hl 3 rfl) ?_
                  refine z_get hx hb hts (z_lay i_M) hown hK hw f72_mo rfl 29 (by decide) (z_in k_800 rfl) (fun _ h9 => h9) rfl d_M_readGroup_98 ?_
                  refine z_callV (n := 1) (As := [.int (nI (sk t n p3))]) (rest := []) ⟨hx, hb, hml, hown, hts⟩ (m_fail l g h72 f72_mo) (z_in k_914 rfl) (z_in k_7 rfl) (z_in k_911 rfl) (z_in k_913 rfl) (z_in ks_32 rfl) (by decide +kernel) ⟨by first | exact Nat.le_of_ble_eq_true rfl | (dsimp only; omega) | omega, by first | exact Nat.le_of_ble_eq_true rfl | (dsimp only; omega) | omega⟩ hK hE hw hA rfl f72_mo rfl hl.1 (Nat.le_of_ble_eq_true rfl) d_M_readGroup_101 ⟨by first | exact Nat.le_of_ble_eq_true rfl | (dsimp only; omega) | omega, by first | exact Nat.le_of_ble_eq_true rfl | (dsimp only; omega) | omega⟩ rfl (fun r9 h9 H locs hp hw => ?_)
                  obtain ⟨r8, hh130⟩ := hp
                  subst r8
                  obtain ⟨h130, e8⟩ : ∃ x9, x9 = h9 := ⟨_, rfl⟩
                  subst e8
                  have f130_mo : h130 mo = some ((20, 0), .inr (11, mF ma cod tpd (nI n) (nI S.1) cls9 ffl fcl (nI R3.1) (nI (tbC R3.2 R3.1)) ous (nI (sk t n p3)) (nI (sk t n p3)))) := by rw [← hh130]; exact z_put_eq
                  have f130_ma_1 : h130 (ma 1) = some ((22, 0), .inl (g.2.1 1, 4000, .inl f)) := by rw [← hh130]; exact z_keep f72_mo f72_ma_1 (z_t1 (by decide))
                  have kk130 : z_K (fun y => y = 20 ∨ y = 29 ∨ y = 30 ∨ y = 31) h h130 := kk72.tr (by rw [← hh130]; exact z_K.put f72_mo (by first | decide | simp | omega))
                  have sg_Nh130 : z_K (fun y => y = 20) hL h130 := sg_Nh72.tr (by rw [← hh130]; exact z_K.put f72_mo (by simp))
                  refine W.eq (g2 := F0 m 104 ls []) rfl ?_
                  exact z_vret hx hb hr hlocks hw (by have eR : resJ X = nI (sk t n p3) := (by rw [eXf]; rfl); refine ⟨rfl, kk130, sk t n p3, R3, ?_, by omega, by omega, hN3.k sg_Nh130 (by omega) (by omega) (by omega), fun z => absurd (eR.symm.trans z) (nI_ne1 (by omega))⟩; rw [eR]; exact f130_mo) (by decide) (by decide) d_M_readGroup_104
                · -- 82: False
                  exact absurd (show (-1 : Int32) < nI st from (by rw [Int32.lt_iff_toInt_lt, nI_toInt (by omega)]; have : (-1 : Int32).toInt = -1 := rfl; omega)) c_82
            · -- 38: False
              have l41 := bt_lt (c := 125) (show bt t n (sk t n p3) = 125 by simpa using c_38)
              refine lv_aload_n hx hb d_M_readGroup_41 rfl (lv_at hl 0 rfl) ?_
              refine lv_iload_n hx hb d_M_readGroup_42 rfl (lv_at hl 2 rfl) ?_
              refine lv_iload_n hx hb d_M_readGroup_43 rfl (lv_at hl 3 rfl) ?_
              refine z_callV (n := 2) (As := [.int gr, .int (nI st)]) (rest := []) ⟨hx, hb, hml, hown, hts⟩ (m_end (a9 := st) l g h72 f72_mo (hSc.k kk72 (by omega) (by omega) (by omega)) hB (by omega)) (z_in k_975 rfl) (z_in k_7 rfl) (z_in k_972 rfl) (z_in k_974 rfl) (z_in ks_40 rfl) (by decide +kernel) ⟨by first | exact Nat.le_of_ble_eq_true rfl | (dsimp only; omega) | omega, by first | exact Nat.le_of_ble_eq_true rfl | (dsimp only; omega) | omega⟩ hK hE hw hA rfl f72_mo rfl hl.1 (Nat.le_of_ble_eq_true rfl) d_M_readGroup_44 ⟨by first | exact Nat.le_of_ble_eq_true rfl | (dsimp only; omega) | omega, by first | exact Nat.le_of_ble_eq_true rfl | (dsimp only; omega) | omega⟩ rfl (fun r9 h9 H locs hp hw => ?_)
              obtain ⟨r8, hh131⟩ := hp
              subst r8
              obtain ⟨h131, e8⟩ : ∃ x9, x9 = h9 := ⟨_, rfl⟩
              subst e8
              have f131_mo : h131 mo = some ((20, 0), .inr (11, mF ma cod tpd (nI n) (nI S.1) cls9 ffl fcl (nI R3.1) (nI (tbC R3.2 R3.1)) ous (nI (sk t n p3 + 1)) (if hrq S gr st = true then nI (sk t n p3) else -1))) := by rw [← hh131]; exact z_put_eq
              have f131_ma_1 : h131 (ma 1) = some ((22, 0), .inl (g.2.1 1, 4000, .inl f)) := by rw [← hh131]; exact z_keep f72_mo f72_ma_1 (z_t1 (by decide))
              have kk131 : z_K (fun y => y = 20 ∨ y = 29 ∨ y = 30 ∨ y = 31) h h131 := kk72.tr (by rw [← hh131]; exact z_K.put f72_mo (by first | decide | simp | omega))
              have sg_Nh131 : z_K (fun y => y = 20) hL h131 := sg_Nh72.tr (by rw [← hh131]; exact z_K.put f72_mo (by simp))
              refine W.eq (g2 := F0 m 47 ls []) rfl ?_
              exact z_vret hx hb hr hlocks hw (by have eX9 : X = if hrq S gr st = true then .inl (sk t n p3, R3) else .inr (sk t n p3 + 1, R3) := (by rw [eX3, if_pos ⟨c_29, by simpa using c_38⟩, memE_ok (by rw [sk_sk]; simpa using c_38), sk_sk]); have eR : resJ X = if hrq S gr st = true then nI (sk t n p3) else -1 := (by rw [eX9]; split <;> rfl); refine ⟨rfl, kk131, sk t n p3 + 1, R3, ?_, by omega, by omega, hN3.k sg_Nh131 (by omega) (by omega) (by omega), fun z => by rw [eR] at z; by_cases z2 : hrq S gr st = true; (· rw [if_pos z2] at z; exact absurd z (nI_ne1 (by omega))); (· exact ⟨by rw [eX9, if_neg z2], by omega, by omega, hc4.2⟩)⟩; rw [eR]; exact f131_mo) (by decide) (by decide) d_M_readGroup_47
    exact loop_15 (129 + 1) 129 0 true (sk t n (sk t n p)) (nI (sk t n p)) R h69 _ _ _ f69_mo f69_ma_1 (⟨by omega, by omega, by omega⟩) kk69 (hNd.k sg_Nh69 (by omega) (by omega) (by omega)) (Or.inl ⟨by omega, hR0⟩) (Or.inl ⟨il1, by rw [eX]; unfold memR; rw [if_neg ws3]; rfl⟩) (by omega) hw (lv_sub hl [2, 3, 4, 1, 0] rfl)

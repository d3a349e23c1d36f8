/-- what stands before a value: the first of its field, or a later one -/
def preV (S : Sch) (f n : Nat) (sm : Bool) : List Nat := if n = 0 then (if sm = true then [44] else []) ++ hdO S f else [44]
def isCh (R : Rec) (i f k : Nat) : Bool := decide (ndPa (R.2 k) = nI i) && decide (ndFi (R.2 k) = nI f)
def gT (V : Nat → List Nat) (S : Sch) (R : Rec) (i f : Nat) (sm : Bool) : Nat → List Nat × Nat
  | 0 => ([], 0)
  | k + 1 => if isCh R i f k = true then ((gT V S R i f sm k).1 ++ (preV S f (gT V S R i f sm k).2 sm ++ V k), (gT V S R i f sm k).2 + 1) else gT V S R i f sm k
def cloM (S : Sch) (f n : Nat) : List Nat := if 0 < n ∧ fKi (S.2 f) = 2 then [93] else []
def gF (V : Nat → List Nat) (S : Sch) (R : Rec) (i : Nat) : Nat → List Nat × Bool
  | 0 => ([], false)
  | f + 1 => if fGr (S.2 f) = ndFi (R.2 i) then ((gF V S R i f).1 ++ ((gT V S R i f (gF V S R i f).2 R.1).1 ++ cloM S f (gT V S R i f (gF V S R i f).2 R.1).2), (gF V S R i f).2 || decide (0 < (gT V S R i f (gF V S R i f).2 R.1).2)) else gF V S R i f
def mG (V : Nat → List Nat) (S : Sch) (R : Rec) (i : Nat) : List Nat := [123] ++ (gF V S R i S.1).1 ++ [125]
theorem gT_yes {V : Nat → List Nat} {S : Sch} {R : Rec} {i f k : Nat} {sm : Bool} (h : isCh R i f k = true) : gT V S R i f sm (k + 1) = ((gT V S R i f sm k).1 ++ (preV S f (gT V S R i f sm k).2 sm ++ V k), (gT V S R i f sm k).2 + 1) := if_pos h
theorem gT_no {V : Nat → List Nat} {S : Sch} {R : Rec} {i f k : Nat} {sm : Bool} (h : isCh R i f k = false) : gT V S R i f sm (k + 1) = gT V S R i f sm k := if_neg (by rw [h]; decide)
theorem gT_len {V : Nat → List Nat} {S : Sch} {R : Rec} {i f : Nat} {sm : Bool} {a : Nat} : ∀ b, a ≤ b → (gT V S R i f sm a).1.length ≤ (gT V S R i f sm b).1.length := by
  intro b
  induction b with
  | zero => intro h; rw [show a = 0 by omega]; exact Nat.le_refl _
  | succ b ih =>
    intro h
    by_cases e : a = b + 1
    · rw [e]; exact Nat.le_refl _
    · have := ih (by omega)
      cases hc : isCh R i f b with
      | true => rw [gT_yes hc]; dsimp only; rw [List.length_append]; omega
      | false => rw [gT_no hc]; exact this
theorem gF_yes {V : Nat → List Nat} {S : Sch} {R : Rec} {i f : Nat} (h : fGr (S.2 f) = ndFi (R.2 i)) : gF V S R i (f + 1) = ((gF V S R i f).1 ++ ((gT V S R i f (gF V S R i f).2 R.1).1 ++ cloM S f (gT V S R i f (gF V S R i f).2 R.1).2), (gF V S R i f).2 || decide (0 < (gT V S R i f (gF V S R i f).2 R.1).2)) := if_pos h
theorem gF_no {V : Nat → List Nat} {S : Sch} {R : Rec} {i f : Nat} (h : ¬ fGr (S.2 f) = ndFi (R.2 i)) : gF V S R i (f + 1) = gF V S R i f := if_neg h
theorem gF_len {V : Nat → List Nat} {S : Sch} {R : Rec} {i : Nat} {a : Nat} : ∀ b, a ≤ b → (gF V S R i a).1.length ≤ (gF V S R i b).1.length := by
  intro b
  induction b with
  | zero => intro h; rw [show a = 0 by omega]; exact Nat.le_refl _
  | succ b ih =>
    intro h
    by_cases e : a = b + 1
    · rw [e]; exact Nat.le_refl _
    · have := ih (by omega)
      by_cases hc : fGr (S.2 b) = ndFi (R.2 i)
      · rw [gF_yes hc]; dsimp only; rw [List.length_append]; omega
      · rw [gF_no hc]; exact this
theorem gT_one {V : Nat → List Nat} {S : Sch} {R : Rec} (hp : paOK R) {i f : Nat} (hi : i < 2 ^ 31) {sm : Bool} : gT V S R i f sm 1 = ([], 0) := by
  rw [gT_no]
  · rfl
  · unfold isCh
    rw [hp.1, decide_eq_false (show ¬ (-1 : Int32) = nI i from fun z => nI_ne1 hi z.symm)]
    rfl

theorem gT_cnt {V : Nat → List Nat} {S : Sch} {R : Rec} {i f : Nat} {sm : Bool} : ∀ k, (gT V S R i f sm k).2 ≤ k := by
  intro k
  induction k with
  | zero => exact Nat.le_refl _
  | succ k ih =>
    cases hc : isCh R i f k with
    | true => rw [gT_yes hc]; dsimp only; omega
    | false => rw [gT_no hc]; omega

set_option maxHeartbeats 4000000 in
set_option maxRecDepth 100000 in
theorem m_putGroup_of (l : Launch) (g : z_G) (h : z_H) {mo : Nat} {ma : Nat → Nat} {cod tpd cls9 ffl fcl sai il : Int32} {siz at9 : Int32} {S : Sch} {O : List Nat} {R : Rec} {rw9 : Nat → Nat} {rf : Nat → Nat → Int32} {lf : Nat → Int32} {nf np nr ns : Nat → Int32} {nv : Nat → Int64} {tx : Nat → Int32} {i fM lM : Nat} {V : Nat → List Nat} (hmo : h mo = some ((20, 0), .inr (11, mF ma cod tpd siz (nI S.1) cls9 ffl fcl (nI R.1) sai (nI O.length) at9 il))) (hOu : MOu g h ma O) (hl9 : O.length + (mG V S R i).length ≤ 160000) (hSc : MSp g h (ma 2) (ma 4) 23 27 S rw9 rf lf) (hNd : MNp g h ma R nf np nr ns nv tx) (hs8 : S.1 ≤ 128) (hR2 : R.1 ≤ 2000) (hR1 : 0 < R.1) (hpa : paOK R) (hB : scB S) (hi : i < R.1) (hV : ∀ k, 0 < k → k < R.1 → ndPa (R.2 k) = nI i → ∀ (h : z_H) (O : List Nat), h mo = some ((20, 0), .inr (11, mF ma cod tpd siz (nI S.1) cls9 ffl fcl (nI R.1) sai (nI O.length) at9 il)) → MSp g h (ma 2) (ma 4) 23 27 S rw9 rf lf → MNp g h ma R nf np nr ns nv tx → MOu g h ma O → O.length + (V k).length ≤ 160000 → z_C l y_M_putValue prog_13_method_53_code 3 (Option.none : Option Jvm.ClassFile.FieldType) fM lM 0 0 g [.ref mo, .int (nI k)] h (fun x h1 => x = none ∧ h1 mo = some ((20, 0), .inr (11, mF ma cod tpd siz (nI S.1) cls9 ffl fcl (nI R.1) sai (nI ((O ++ (V k)).length)) at9 il)) ∧ MOu g h1 ma (O ++ (V k)) ∧ z_K (fun y => y = 20 ∨ y = 35) h h1)) : z_C l y_M_putGroup prog_13_method_54_code 7 (Option.none : Option Jvm.ClassFile.FieldType) (fM + 10) (lM + 200) 0 0 g [.ref mo, .int (nI i)] h (fun x h1 => x = none ∧ h1 mo = some ((20, 0), .inr (11, mF ma cod tpd siz (nI S.1) cls9 ffl fcl (nI R.1) sai (nI ((O ++ (mG V S R i)).length)) at9 il)) ∧ MOu g h1 ma (O ++ (mG V S R i)) ∧ z_K (fun y => y = 20 ∨ y = 35) h h1) := by
  refine z_C.of (by decide) (Nat.le_of_ble_eq_true rfl) (fun pg en s m below meth cd A ls hx hb hml hr hts hown hlocks hnm hK hE hA hw hl => ?_)
  have hl : lv_has ls 7 [(0, .ref mo), (1, .int (nI i))] := hl
  have hrw_0 : h (rw9 0) = some ((24, 0), .inl (g.2.1 1, 128, .inl (rf 0))) := hSc.2.1 0 (by omega)
  have hrw_2 : h (rw9 2) = some ((24, 2), .inl (g.2.1 1, 128, .inl (rf 2))) := hSc.2.1 2 (by omega)
  have hrw_4 : h (rw9 4) = some ((24, 4), .inl (g.2.1 1, 128, .inl (rf 4))) := hSc.2.1 4 (by omega)
  have lG : (mG V S R i).length = 1 + (gF V S R i S.1).1.length + 1 := by unfold mG; rw [List.length_append, List.length_append]; rfl
  have kk0 : z_K (fun y => y = 20 ∨ y = 35) h h := z_K.rf
  refine lv_aload_n hx hb d_M_putGroup_0 rfl (lv_at hl 0 rfl) ?_
  refine lv_bipush (v := 123) hx hb d_M_putGroup_1 (by decide) ?_
  have ln_1 : (O ++ ([123])).length = O.length + ([123]).length := List.length_append
  simp only [List.length_cons, List.length_nil] at ln_1
  refine z_callV (n := 1) (As := [.int 123]) (rest := []) ⟨hx, hb, hml, hown, hts⟩ (m_put (O := O) (b9 := 123) l g h hmo hOu (by omega) (by omega)) (z_in k_1069 rfl) (z_in k_7 rfl) (z_in k_1066 rfl) (z_in k_1068 rfl) (z_in ks_53 rfl) (by decide +kernel) ⟨by first | exact Nat.le_of_ble_eq_true rfl | (dsimp only; omega) | omega, by first | exact Nat.le_of_ble_eq_true rfl | (dsimp only; omega) | omega⟩ hK hE hw hA rfl hmo rfl hl.1 (Nat.le_of_ble_eq_true rfl) d_M_putGroup_3 ⟨by first | exact Nat.le_of_ble_eq_true rfl | (dsimp only; omega) | omega, by first | exact Nat.le_of_ble_eq_true rfl | (dsimp only; omega) | omega⟩ rfl (fun r9 h9 H locs hp hw => ?_)
  obtain ⟨r8, m8, o8, k8⟩ := hp
  subst r8
  obtain ⟨h1, e7⟩ : ∃ x9, x9 = h9 := ⟨_, rfl⟩
  subst e7
  generalize eO_1 : O ++ ([123]) = O_1 at m8 o8 ln_1
  have oh_1 := o8
  have mh_1 := m8
  have g1_ma_2 : h1 (ma 2) = some ((23, 0), .inl (g.2.1 5, 6, .inr (.inr (.inr (.inr (fun k => some (rw9 k))))))) := k8 _ _ _ hSc.1 (by simp; try omega)
  have g1_rw9_0 : h1 (rw9 0) = some ((24, 0), .inl (g.2.1 1, 128, .inl (rf 0))) := k8 _ _ _ hrw_0 (by simp; try omega)
  have g1_rw9_2 : h1 (rw9 2) = some ((24, 2), .inl (g.2.1 1, 128, .inl (rf 2))) := k8 _ _ _ hrw_2 (by simp; try omega)
  have g1_rw9_4 : h1 (rw9 4) = some ((24, 4), .inl (g.2.1 1, 128, .inl (rf 4))) := k8 _ _ _ hrw_4 (by simp; try omega)
  have g1_ma_4 : h1 (ma 4) = some ((27, 0), .inl (g.2.1 1, 2048, .inl lf)) := k8 _ _ _ hSc.2.2.1 (by simp; try omega)
  have g1_ma_6 : h1 (ma 6) = some ((29, 0), .inl (g.2.1 1, 2000, .inl nf)) := k8 _ _ _ hNd.1 (by simp; try omega)
  have g1_ma_7 : h1 (ma 7) = some ((29, 1), .inl (g.2.1 1, 2000, .inl np)) := k8 _ _ _ hNd.2.1 (by simp; try omega)
  have kk1 : z_K (fun y => y = 20 ∨ y = 35) h h1 := kk0.tr k8
  refine W.eq (g2 := F0 m 6 ls []) rfl ?_
  refine lv_iconst (v := 0) hx hb d_M_putGroup_6 (by decide) ?_
  refine lv_istore_n (lv' := [(2, .int 0), (0, .ref mo), (1, .int (nI i))]) hx hb d_M_putGroup_7 rfl hl (by decide) rfl (fun ls hl => ?_)
  refine lv_iconst (v := 0) hx hb d_M_putGroup_8 (by decide) ?_
  refine lv_istore_n (lv' := [(3, .int 0), (2, .int 0), (0, .ref mo), (1, .int (nI i))]) hx hb d_M_putGroup_9 rfl hl (by decide) rfl (fun ls hl => ?_)
  have loop_10 : ∀ (fuel : Nat) (f : Nat) (sm : Bool) (O1 : List Nat) (hZ5 : z_H) (H : Heap) (locs : List Loc) (ls : Array Slot) (L10_mo : hZ5 mo = some ((20, 0), .inr (11, mF ma cod tpd siz (nI S.1) cls9 ffl fcl (nI R.1) sai (nI O1.length) at9 il))) (L10_ma_2 : hZ5 (ma 2) = some ((23, 0), .inl (g.2.1 5, 6, .inr (.inr (.inr (.inr (fun k => some (rw9 k)))))))) (L10_rw9_0 : hZ5 (rw9 0) = some ((24, 0), .inl (g.2.1 1, 128, .inl (rf 0)))) (L10_rw9_2 : hZ5 (rw9 2) = some ((24, 2), .inl (g.2.1 1, 128, .inl (rf 2)))) (L10_rw9_4 : hZ5 (rw9 4) = some ((24, 4), .inl (g.2.1 1, 128, .inl (rf 4)))) (L10_ma_4 : hZ5 (ma 4) = some ((27, 0), .inl (g.2.1 1, 2048, .inl lf))) (L10_ma_6 : hZ5 (ma 6) = some ((29, 0), .inl (g.2.1 1, 2000, .inl nf))) (L10_ma_7 : hZ5 (ma 7) = some ((29, 1), .inl (g.2.1 1, 2000, .inl np))) (kkL : z_K (fun y => y = 20 ∨ y = 35) h hZ5) (oh1 : MOu g hZ5 ma O1) (le1 : f ≤ S.1 ∧ O1 = O ++ ([123] ++ (gF V S R i f).1) ∧ sm = (gF V S R i f).2), (S.1 - f) < fuel → z_S g A s.heap hZ5 H locs → lv_has ls 7 [(0, .ref mo), (1, .int (nI i)), (2, .int (zb sm)), (3, .int (nI f))] → W pg l en { frames := fM + 10, cells := 0, slots := 0, locals := lM + 200 } s m [.ref mo, .int (nI i)].toArray below meth cd H locs 0 0 (MQ below (z_Q g A (fun x h1 => x = none ∧ h1 mo = some ((20, 0), .inr (11, mF ma cod tpd siz (nI S.1) cls9 ffl fcl (nI R.1) sai (nI ((O ++ (mG V S R i)).length)) at9 il)) ∧ MOu g h1 ma (O ++ (mG V S R i)) ∧ z_K (fun y => y = 20 ∨ y = 35) h h1)) [.ref mo, .int (nI i)].toArray s 0 0 A) (F0 m 10 ls []) := by
    intro fuel
    induction fuel with
    | zero => intro f sm O1 hZ5 H locs ls L10_mo L10_ma_2 L10_rw9_0 L10_rw9_2 L10_rw9_4 L10_ma_4 L10_ma_6 L10_ma_7 kkL oh1 le1 hm; exact absurd hm (Nat.not_lt_zero _)
    | succ fuel ih_10 =>
      intro f sm O1 hZ5 H locs ls L10_mo L10_ma_2 L10_rw9_0 L10_rw9_2 L10_rw9_4 L10_ma_4 L10_ma_6 L10_ma_7 kkL oh1 le1 hm hw hl
      have lF1 := gF_len (V := V) (S := S) (R := R) (i := i) (a := f) S.1 le1.1
      have lO1 : O1.length = O.length + (1 + (gF V S R i f).1.length) := by rw [le1.2.1, List.length_append, List.length_append]; rfl
      refine lv_iload_n hx hb d_M_putGroup_10 rfl (lv_at hl 3 rfl) ?_
      refine lv_aload_n hx hb d_M_putGroup_11 rfl (lv_at hl 0 rfl) ?_
      refine z_get hx hb hts (z_lay i_M) hown hK hw L10_mo rfl 9 (by decide) (z_in k_780 rfl) (fun _ h9 => h9) rfl d_M_putGroup_12 ?_
      refine lv_icmp_ge (tgt := 210) hx hb d_M_putGroup_15 (by decide) (fun c_15 => ?_) (fun c_15 => ?_)
      · -- 15: True
        have c_15 : S.1 ≤ f := (nI_leI (a := S.1) (b := f) (by omega) (by omega)).mp c_15
        refine lv_aload_n hx hb d_M_putGroup_210 rfl (lv_at hl 0 rfl) ?_
        refine lv_bipush (v := 125) hx hb d_M_putGroup_211 (by decide) ?_
        have ln_2 : (O1 ++ ([125])).length = O1.length + ([125]).length := List.length_append
        simp only [List.length_cons, List.length_nil] at ln_2
        refine z_callV (n := 1) (As := [.int 125]) (rest := []) ⟨hx, hb, hml, hown, hts⟩ (m_put (O := O1) (b9 := 125) l g hZ5 L10_mo oh1 (by omega) (by omega)) (z_in k_1069 rfl) (z_in k_7 rfl) (z_in k_1066 rfl) (z_in k_1068 rfl) (z_in ks_53 rfl) (by decide +kernel) ⟨by first | exact Nat.le_of_ble_eq_true rfl | (dsimp only; omega) | omega, by first | exact Nat.le_of_ble_eq_true rfl | (dsimp only; omega) | omega⟩ hK hE hw hA rfl L10_mo rfl hl.1 (Nat.le_of_ble_eq_true rfl) d_M_putGroup_213 ⟨by first | exact Nat.le_of_ble_eq_true rfl | (dsimp only; omega) | omega, by first | exact Nat.le_of_ble_eq_true rfl | (dsimp only; omega) | omega⟩ rfl (fun r9 h9 H locs hp hw => ?_)
        obtain ⟨r8, m8, o8, k8⟩ := hp
        subst r8
        obtain ⟨h2, e7⟩ : ∃ x9, x9 = h9 := ⟨_, rfl⟩
        subst e7
        generalize eO_2 : O1 ++ ([125]) = O_2 at m8 o8 ln_2
        have oh_2 := o8
        have mh_2 := m8
        have g2_ma_2 : h2 (ma 2) = some ((23, 0), .inl (g.2.1 5, 6, .inr (.inr (.inr (.inr (fun k => some (rw9 k))))))) := k8 _ _ _ L10_ma_2 (by simp; try omega)
        have g2_rw9_0 : h2 (rw9 0) = some ((24, 0), .inl (g.2.1 1, 128, .inl (rf 0))) := k8 _ _ _ L10_rw9_0 (by simp; try omega)
        have g2_rw9_2 : h2 (rw9 2) = some ((24, 2), .inl (g.2.1 1, 128, .inl (rf 2))) := k8 _ _ _ L10_rw9_2 (by simp; try omega)
        have g2_rw9_4 : h2 (rw9 4) = some ((24, 4), .inl (g.2.1 1, 128, .inl (rf 4))) := k8 _ _ _ L10_rw9_4 (by simp; try omega)
        have g2_ma_4 : h2 (ma 4) = some ((27, 0), .inl (g.2.1 1, 2048, .inl lf)) := k8 _ _ _ L10_ma_4 (by simp; try omega)
        have g2_ma_6 : h2 (ma 6) = some ((29, 0), .inl (g.2.1 1, 2000, .inl nf)) := k8 _ _ _ L10_ma_6 (by simp; try omega)
        have g2_ma_7 : h2 (ma 7) = some ((29, 1), .inl (g.2.1 1, 2000, .inl np)) := k8 _ _ _ L10_ma_7 (by simp; try omega)
        have kk2 : z_K (fun y => y = 20 ∨ y = 35) h h2 := kkL.tr k8
        refine W.eq (g2 := F0 m 216 ls []) rfl ?_
        have eF : O ++ (mG V S R i) = O_2 := by rw [← eO_2]; rw [le1.2.1, show f = S.1 by omega]; unfold mG; simp
        exact z_vret hx hb hr hlocks hw ⟨rfl, by rw [eF]; exact mh_2, eF ▸ oh_2, kk2⟩ (by decide) (by decide) d_M_putGroup_216
      · -- 15: False
        have c_15 : ¬ (S.1 ≤ f) := fun z => c_15 ((nI_leI (a := S.1) (b := f) (by omega) (by omega)).mpr z)
        refine lv_aload_n hx hb d_M_putGroup_18 rfl (lv_at hl 0 rfl) ?_
        refine z_get hx hb hts (z_lay i_M) hown hK hw L10_mo rfl 5 (by decide) (z_in k_776 rfl) (fun _ h9 => h9) rfl d_M_putGroup_19 ?_
        refine lv_iconst (v := 2) hx hb d_M_putGroup_22 (by decide) ?_
        refine z_aldr hx hb hK hw L10_ma_2 5 rfl (by unfold vp_in; decide) d_M_putGroup_23 ?_
        refine z_top (y := va_rf ((fun k => some (rw9 k)) 2)) (by rfl) ?_
        refine z_top (y := .ref (rw9 2)) (rfl) ?_
        refine lv_iload_n hx hb d_M_putGroup_24 rfl (lv_at hl 3 rfl) ?_
        refine z_iald hx hb hK hw L10_rw9_2 1 rfl (vp_in_nI (by omega) (by omega)) d_M_putGroup_25 ?_
        refine z_topi (y := (rf 2) f) (by rw [nI_clamp (by omega)]) ?_
        refine z_top (y := .int (fGr (S.2 f))) (by rw [(hSc.2.2.2 f (by omega)).2.2.1]) ?_
        refine lv_aload_n hx hb d_M_putGroup_26 rfl (lv_at hl 0 rfl) ?_
        refine z_get hx hb hts (z_lay i_M) hown hK hw L10_mo rfl 13 (by decide) (z_in k_784 rfl) (fun _ h9 => h9) rfl d_M_putGroup_27 ?_
        refine lv_iload_n hx hb d_M_putGroup_30 rfl (lv_at hl 1 rfl) ?_
        refine z_iald hx hb hK hw L10_ma_6 1 rfl (vp_in_nI (by omega) (by omega)) d_M_putGroup_31 ?_
        refine z_topi (y := nf i) (by rw [nI_clamp (by omega)]) ?_
        refine z_top (y := .int (ndFi (R.2 i))) (by rw [(hNd.2.2.2.2.2.2 i hi).1]) ?_
        refine lv_icmp_eq (tgt := 38) hx hb d_M_putGroup_32 (by decide) (fun c_32 => ?_) (fun c_32 => ?_)
        · -- 32: True
          have lF2 := gF_len (V := V) (S := S) (R := R) (i := i) (a := f + 1) S.1 (by omega)
          rw [gF_yes (show fGr (S.2 f) = ndFi (R.2 i) from c_32)] at lF2
          dsimp only at lF2
          rw [List.length_append, List.length_append] at lF2
          refine lv_iconst (v := 0) hx hb d_M_putGroup_38 (by decide) ?_
          refine lv_istore (lv' := [(4, .int 0), (0, .ref mo), (1, .int (nI i)), (2, .int (zb sm)), (3, .int (nI f))]) hx hb d_M_putGroup_39 hl (by decide) rfl (fun ls hl => ?_)
          refine lv_iconst (v := 1) hx hb d_M_putGroup_41 (by decide) ?_
          refine lv_istore (lv' := [(5, .int 1), (4, .int 0), (0, .ref mo), (1, .int (nI i)), (2, .int (zb sm)), (3, .int (nI f))]) hx hb d_M_putGroup_42 hl (by decide) rfl (fun ls hl => ?_)
          have loop_44 : ∀ (fuel : Nat) (k : Nat) (n9 : Nat) (s2 : Bool) (O2 : List Nat) (hZ6 : z_H) (H : Heap) (locs : List Loc) (ls : Array Slot) (L44_mo : hZ6 mo = some ((20, 0), .inr (11, mF ma cod tpd siz (nI S.1) cls9 ffl fcl (nI R.1) sai (nI O2.length) at9 il))) (L44_ma_2 : hZ6 (ma 2) = some ((23, 0), .inl (g.2.1 5, 6, .inr (.inr (.inr (.inr (fun k => some (rw9 k)))))))) (L44_rw9_0 : hZ6 (rw9 0) = some ((24, 0), .inl (g.2.1 1, 128, .inl (rf 0)))) (L44_rw9_2 : hZ6 (rw9 2) = some ((24, 2), .inl (g.2.1 1, 128, .inl (rf 2)))) (L44_rw9_4 : hZ6 (rw9 4) = some ((24, 4), .inl (g.2.1 1, 128, .inl (rf 4)))) (L44_ma_4 : hZ6 (ma 4) = some ((27, 0), .inl (g.2.1 1, 2048, .inl lf))) (L44_ma_6 : hZ6 (ma 6) = some ((29, 0), .inl (g.2.1 1, 2000, .inl nf))) (L44_ma_7 : hZ6 (ma 7) = some ((29, 1), .inl (g.2.1 1, 2000, .inl np))) (kkM : z_K (fun y => y = 20 ∨ y = 35) h hZ6) (oh2 : MOu g hZ6 ma O2) (le2 : 1 ≤ k ∧ k ≤ R.1 ∧ O2 = O ++ ([123] ++ ((gF V S R i f).1 ++ (gT V S R i f (gF V S R i f).2 k).1)) ∧ n9 = (gT V S R i f (gF V S R i f).2 k).2 ∧ s2 = (sm || decide (0 < n9))), (R.1 - k) < fuel → z_S g A s.heap hZ6 H locs → lv_has ls 7 [(0, .ref mo), (1, .int (nI i)), (2, .int (zb s2)), (3, .int (nI f)), (4, .int (nI n9)), (5, .int (nI k))] → W pg l en { frames := fM + 10, cells := 0, slots := 0, locals := lM + 200 } s m [.ref mo, .int (nI i)].toArray below meth cd H locs 0 0 (MQ below (z_Q g A (fun x h1 => x = none ∧ h1 mo = some ((20, 0), .inr (11, mF ma cod tpd siz (nI S.1) cls9 ffl fcl (nI R.1) sai (nI ((O ++ (mG V S R i)).length)) at9 il)) ∧ MOu g h1 ma (O ++ (mG V S R i)) ∧ z_K (fun y => y = 20 ∨ y = 35) h h1)) [.ref mo, .int (nI i)].toArray s 0 0 A) (F0 m 44 ls []) := by
            intro fuel
            induction fuel with
            | zero => intro k n9 s2 O2 hZ6 H locs ls L44_mo L44_ma_2 L44_rw9_0 L44_rw9_2 L44_rw9_4 L44_ma_4 L44_ma_6 L44_ma_7 kkM oh2 le2 hm; exact absurd hm (Nat.not_lt_zero _)
            | succ fuel ih_44 =>
              intro k n9 s2 O2 hZ6 H locs ls L44_mo L44_ma_2 L44_rw9_0 L44_rw9_2 L44_rw9_4 L44_ma_4 L44_ma_6 L44_ma_7 kkM oh2 le2 hm hw hl
              have lT1 := gT_len (V := V) (S := S) (R := R) (i := i) (f := f) (sm := (gF V S R i f).2) (a := k) R.1 le2.2.1
              have lO2 : O2.length = O.length + (1 + ((gF V S R i f).1.length + (gT V S R i f (gF V S R i f).2 k).1.length)) := by rw [le2.2.2.1, List.length_append, List.length_append, List.length_append]; rfl
              have ln9 : n9 ≤ k := by rw [le2.2.2.2.1]; exact gT_cnt k
              refine lv_iload hx hb d_M_putGroup_44 (lv_at hl 5 rfl) ?_
              refine lv_aload_n hx hb d_M_putGroup_46 rfl (lv_at hl 0 rfl) ?_
              refine z_get hx hb hts (z_lay i_M) hown hK hw L44_mo rfl 18 (by decide) (z_in k_789 rfl) (fun _ h9 => h9) rfl d_M_putGroup_47 ?_
              refine lv_icmp_ge (tgt := 181) hx hb d_M_putGroup_50 (by decide) (fun c_50 => ?_) (fun c_50 => ?_)
              · -- 50: True
                have c_50 : R.1 ≤ k := (nI_leI (a := R.1) (b := k) (by omega) (by omega)).mp c_50
                have ek9 : k = R.1 := by omega
                rw [ek9] at le2 ln9
                refine lv_iload hx hb d_M_putGroup_181 (lv_at hl 4 rfl) ?_
                refine lv_if_le (tgt := 204) hx hb d_M_putGroup_183 (by decide) (fun c_183 => ?_) (fun c_183 => ?_)
                · -- 183: True
                  have c_183 : n9 ≤ 0 := (nI_leI (a := n9) (b := 0) (by omega) (by omega)).mp c_183
                  refine lv_iinc (v := nI (f + 1)) (lv' := [(3, .int (nI (f + 1))), (0, .ref mo), (1, .int (nI i)), (2, .int (zb s2)), (4, .int (nI n9)), (5, .int (nI k))]) hx hb d_M_putGroup_204 hl (k := 3) rfl (nI_1 f) (by decide) rfl (fun ls hl => ?_)
                  refine lv_goto (tgt := 10) hx hb d_M_putGroup_207 (by decide) ?_
                  refine ih_10 (f + 1) s2 O2 hZ6 _ _ _ L44_mo L44_ma_2 L44_rw9_0 L44_rw9_2 L44_rw9_4 L44_ma_4 L44_ma_6 L44_ma_7 kkM oh2 (⟨by omega, by rw [gF_yes (show fGr (S.2 f) = ndFi (R.2 i) from c_32)]; dsimp only; unfold cloM; rw [← le2.2.2.2.1, if_neg (fun z => by omega), le2.2.2.1]; simp, by rw [gF_yes (show fGr (S.2 f) = ndFi (R.2 i) from c_32), le2.2.2.2.2]; dsimp only; rw [← le2.2.2.2.1, le1.2.2]⟩) ?_ hw (lv_sub hl [1, 2, 3, 0] rfl)
                  omega
                · -- 183: False
                  have c_183 : ¬ (n9 ≤ 0) := fun z => c_183 ((nI_leI (a := n9) (b := 0) (by omega) (by omega)).mpr z)
                  refine lv_aload_n hx hb d_M_putGroup_186 rfl (lv_at hl 0 rfl) ?_
                  refine z_get hx hb hts (z_lay i_M) hown hK hw L44_mo rfl 5 (by decide) (z_in k_776 rfl) (fun _ h9 => h9) rfl d_M_putGroup_187 ?_
                  refine lv_iconst (v := 0) hx hb d_M_putGroup_190 (by decide) ?_
                  refine z_aldr hx hb hK hw L44_ma_2 5 rfl (by unfold vp_in; decide) d_M_putGroup_191 ?_
                  refine z_top (y := va_rf ((fun k => some (rw9 k)) 0)) (by rfl) ?_
                  refine z_top (y := .ref (rw9 0)) (rfl) ?_
                  refine lv_iload_n hx hb d_M_putGroup_192 rfl (lv_at hl 3 rfl) ?_
                  refine z_iald hx hb hK hw L44_rw9_0 1 rfl (vp_in_nI (by omega) (by omega)) d_M_putGroup_193 ?_
                  refine z_topi (y := (rf 0) f) (by rw [nI_clamp (by omega)]) ?_
                  refine z_top (y := .int (fKi (S.2 f))) (by rw [(hSc.2.2.2 f (by omega)).1]) ?_
                  refine lv_iconst (v := 2) hx hb d_M_putGroup_194 (by decide) ?_
                  refine lv_icmp_ne (tgt := 204) hx hb d_M_putGroup_195 (by decide) (fun c_195 => ?_) (fun c_195 => ?_)
                  · -- 195: True
                    refine lv_iinc (v := nI (f + 1)) (lv' := [(3, .int (nI (f + 1))), (0, .ref mo), (1, .int (nI i)), (2, .int (zb s2)), (4, .int (nI n9)), (5, .int (nI k))]) hx hb d_M_putGroup_204 hl (k := 3) rfl (nI_1 f) (by decide) rfl (fun ls hl => ?_)
                    refine lv_goto (tgt := 10) hx hb d_M_putGroup_207 (by decide) ?_
                    refine ih_10 (f + 1) s2 O2 hZ6 _ _ _ L44_mo L44_ma_2 L44_rw9_0 L44_rw9_2 L44_rw9_4 L44_ma_4 L44_ma_6 L44_ma_7 kkM oh2 (⟨by omega, by rw [gF_yes (show fGr (S.2 f) = ndFi (R.2 i) from c_32)]; dsimp only; unfold cloM; rw [← le2.2.2.2.1, if_neg (fun z => c_195 z.2), le2.2.2.1]; simp, by rw [gF_yes (show fGr (S.2 f) = ndFi (R.2 i) from c_32), le2.2.2.2.2]; dsimp only; rw [← le2.2.2.2.1, le1.2.2]⟩) ?_ hw (lv_sub hl [1, 2, 3, 0] rfl)
                    omega
                  · -- 195: False
                    have lc9 : (cloM S f (gT V S R i f (gF V S R i f).2 R.1).2).length = 1 := by unfold cloM; rw [← le2.2.2.2.1, if_pos ⟨by omega, by simpa using c_195⟩]; rfl
                    refine lv_aload_n hx hb d_M_putGroup_198 rfl (lv_at hl 0 rfl) ?_
                    refine lv_bipush (v := 93) hx hb d_M_putGroup_199 (by decide) ?_
                    have ln_3 : (O2 ++ ([93])).length = O2.length + ([93]).length := List.length_append
                    simp only [List.length_cons, List.length_nil] at ln_3
                    refine z_callV (n := 1) (As := [.int 93]) (rest := []) ⟨hx, hb, hml, hown, hts⟩ (m_put (O := O2) (b9 := 93) l g hZ6 L44_mo oh2 (by omega) (by omega)) (z_in k_1069 rfl) (z_in k_7 rfl) (z_in k_1066 rfl) (z_in k_1068 rfl) (z_in ks_53 rfl) (by decide +kernel) ⟨by first | exact Nat.le_of_ble_eq_true rfl | (dsimp only; omega) | omega, by first | exact Nat.le_of_ble_eq_true rfl | (dsimp only; omega) | omega⟩ hK hE hw hA rfl L44_mo rfl hl.1 (Nat.le_of_ble_eq_true rfl) d_M_putGroup_201 ⟨by first | exact Nat.le_of_ble_eq_true rfl | (dsimp only; omega) | omega, by first | exact Nat.le_of_ble_eq_true rfl | (dsimp only; omega) | omega⟩ rfl (fun r9 h9 H locs hp hw => ?_)
                    obtain ⟨r8, m8, o8, k8⟩ := hp
                    subst r8
                    obtain ⟨h3, e7⟩ : ∃ x9, x9 = h9 := ⟨_, rfl⟩
                    subst e7
                    generalize eO_3 : O2 ++ ([93]) = O_3 at m8 o8 ln_3
                    have oh_3 := o8
                    have mh_3 := m8
                    have g3_ma_2 : h3 (ma 2) = some ((23, 0), .inl (g.2.1 5, 6, .inr (.inr (.inr (.inr (fun k => some (rw9 k))))))) := k8 _ _ _ L44_ma_2 (by simp; try omega)
                    have g3_rw9_0 : h3 (rw9 0) = some ((24, 0), .inl (g.2.1 1, 128, .inl (rf 0))) := k8 _ _ _ L44_rw9_0 (by simp; try omega)
                    have g3_rw9_2 : h3 (rw9 2) = some ((24, 2), .inl (g.2.1 1, 128, .inl (rf 2))) := k8 _ _ _ L44_rw9_2 (by simp; try omega)
                    have g3_rw9_4 : h3 (rw9 4) = some ((24, 4), .inl (g.2.1 1, 128, .inl (rf 4))) := k8 _ _ _ L44_rw9_4 (by simp; try omega)
                    have g3_ma_4 : h3 (ma 4) = some ((27, 0), .inl (g.2.1 1, 2048, .inl lf)) := k8 _ _ _ L44_ma_4 (by simp; try omega)
                    have g3_ma_6 : h3 (ma 6) = some ((29, 0), .inl (g.2.1 1, 2000, .inl nf)) := k8 _ _ _ L44_ma_6 (by simp; try omega)
                    have g3_ma_7 : h3 (ma 7) = some ((29, 1), .inl (g.2.1 1, 2000, .inl np)) := k8 _ _ _ L44_ma_7 (by simp; try omega)
                    have kk3 : z_K (fun y => y = 20 ∨ y = 35) h h3 := kkM.tr k8
                    refine W.eq (g2 := F0 m 204 ls []) rfl ?_
                    refine lv_iinc (v := nI (f + 1)) (lv' := [(3, .int (nI (f + 1))), (0, .ref mo), (1, .int (nI i)), (2, .int (zb s2)), (4, .int (nI n9)), (5, .int (nI k))]) hx hb d_M_putGroup_204 hl (k := 3) rfl (nI_1 f) (by decide) rfl (fun ls hl => ?_)
                    refine lv_goto (tgt := 10) hx hb d_M_putGroup_207 (by decide) ?_
                    refine ih_10 (f + 1) s2 O_3 h3 _ _ _ mh_3 g3_ma_2 g3_rw9_0 g3_rw9_2 g3_rw9_4 g3_ma_4 g3_ma_6 g3_ma_7 kk3 oh_3 (⟨by omega, by rw [← eO_3]; rw [gF_yes (show fGr (S.2 f) = ndFi (R.2 i) from c_32)]; dsimp only; unfold cloM; rw [← le2.2.2.2.1, if_pos ⟨by omega, by simpa using c_195⟩, le2.2.2.1]; simp, by rw [gF_yes (show fGr (S.2 f) = ndFi (R.2 i) from c_32), le2.2.2.2.2]; dsimp only; rw [← le2.2.2.2.1, le1.2.2]⟩) ?_ hw (lv_sub hl [1, 2, 3, 0] rfl)
                    omega
              · -- 50: False
                have c_50 : ¬ (R.1 ≤ k) := fun z => c_50 ((nI_leI (a := R.1) (b := k) (by omega) (by omega)).mpr z)
                refine lv_aload_n hx hb d_M_putGroup_53 rfl (lv_at hl 0 rfl) ?_
                refine z_get hx hb hts (z_lay i_M) hown hK hw L44_mo rfl 14 (by decide) (z_in k_785 rfl) (fun _ h9 => h9) rfl d_M_putGroup_54 ?_
                refine lv_iload hx hb d_M_putGroup_57 (lv_at hl 5 rfl) ?_
                refine z_iald hx hb hK hw L44_ma_7 1 rfl (vp_in_nI (by omega) (by omega)) d_M_putGroup_59 ?_
                refine z_topi (y := np k) (by rw [nI_clamp (by omega)]) ?_
                refine z_top (y := .int (ndPa (R.2 k))) (by rw [(hNd.2.2.2.2.2.2 k (by omega)).2.1]) ?_
                refine lv_iload_n hx hb d_M_putGroup_60 rfl (lv_at hl 1 rfl) ?_
                refine lv_icmp_ne (tgt := 175) hx hb d_M_putGroup_61 (by decide) (fun c_61 => ?_) (fun c_61 => ?_)
                · -- 61: True
                  refine lv_iinc (v := nI (k + 1)) (lv' := [(5, .int (nI (k + 1))), (0, .ref mo), (1, .int (nI i)), (2, .int (zb s2)), (3, .int (nI f)), (4, .int (nI n9))]) hx hb d_M_putGroup_175 hl (k := 5) rfl (nI_1 k) (by decide) rfl (fun ls hl => ?_)
                  refine lv_goto (tgt := 44) hx hb d_M_putGroup_178 (by decide) ?_
                  refine ih_44 (k + 1) n9 s2 O2 hZ6 _ _ _ L44_mo L44_ma_2 L44_rw9_0 L44_rw9_2 L44_rw9_4 L44_ma_4 L44_ma_6 L44_ma_7 kkM oh2 (⟨by omega, by omega, by rw [gT_no (by unfold isCh; rw [decide_eq_false (show ¬ ndPa (R.2 k) = nI i from c_61)]; rfl)]; exact le2.2.2.1, by rw [gT_no (by unfold isCh; rw [decide_eq_false (show ¬ ndPa (R.2 k) = nI i from c_61)]; rfl)]; exact le2.2.2.2.1, le2.2.2.2.2⟩) ?_ hw (lv_sub hl [1, 2, 3, 4, 5, 0] rfl)
                  omega
                · -- 61: False
                  refine lv_aload_n hx hb d_M_putGroup_64 rfl (lv_at hl 0 rfl) ?_
                  refine z_get hx hb hts (z_lay i_M) hown hK hw L44_mo rfl 13 (by decide) (z_in k_784 rfl) (fun _ h9 => h9) rfl d_M_putGroup_65 ?_
                  refine lv_iload hx hb d_M_putGroup_68 (lv_at hl 5 rfl) ?_
                  refine z_iald hx hb hK hw L44_ma_6 1 rfl (vp_in_nI (by omega) (by omega)) d_M_putGroup_70 ?_
                  refine z_topi (y := nf k) (by rw [nI_clamp (by omega)]) ?_
                  refine z_top (y := .int (ndFi (R.2 k))) (by rw [(hNd.2.2.2.2.2.2 k (by omega)).1]) ?_
                  refine lv_iload_n hx hb d_M_putGroup_71 rfl (lv_at hl 3 rfl) ?_
                  refine lv_icmp_eq (tgt := 78) hx hb d_M_putGroup_72 (by decide) (fun c_72 => ?_) (fun c_72 => ?_)
                  · -- 72: True
                    have hch : isCh R i f k = true := by unfold isCh; rw [decide_eq_true (show ndPa (R.2 k) = nI i by simpa using c_61), decide_eq_true (show ndFi (R.2 k) = nI f from c_72)]; rfl
                    have lT2 := gT_len (V := V) (S := S) (R := R) (i := i) (f := f) (sm := (gF V S R i f).2) (a := k + 1) R.1 (by omega)
                    rw [gT_yes hch] at lT2
                    dsimp only at lT2
                    have lpre : preV S f n9 sm = preV S f (gT V S R i f (gF V S R i f).2 k).2 (gF V S R i f).2 := by rw [le2.2.2.2.1, le1.2.2]
                    rw [← lpre, List.length_append, List.length_append] at lT2
                    have loop_164 : ∀ (fuel : Nat) (O3 : List Nat) (hZ7 : z_H) (H : Heap) (locs : List Loc) (ls : Array Slot) (L164_mo : hZ7 mo = some ((20, 0), .inr (11, mF ma cod tpd siz (nI S.1) cls9 ffl fcl (nI R.1) sai (nI O3.length) at9 il))) (L164_ma_2 : hZ7 (ma 2) = some ((23, 0), .inl (g.2.1 5, 6, .inr (.inr (.inr (.inr (fun k => some (rw9 k)))))))) (L164_rw9_0 : hZ7 (rw9 0) = some ((24, 0), .inl (g.2.1 1, 128, .inl (rf 0)))) (L164_rw9_2 : hZ7 (rw9 2) = some ((24, 2), .inl (g.2.1 1, 128, .inl (rf 2)))) (L164_rw9_4 : hZ7 (rw9 4) = some ((24, 4), .inl (g.2.1 1, 128, .inl (rf 4)))) (L164_ma_4 : hZ7 (ma 4) = some ((27, 0), .inl (g.2.1 1, 2048, .inl lf))) (L164_ma_6 : hZ7 (ma 6) = some ((29, 0), .inl (g.2.1 1, 2000, .inl nf))) (L164_ma_7 : hZ7 (ma 7) = some ((29, 1), .inl (g.2.1 1, 2000, .inl np))) (kkN : z_K (fun y => y = 20 ∨ y = 35) h hZ7) (oh3 : MOu g hZ7 ma O3) (eO3 : O3 = O2 ++ preV S f n9 sm), 0 < fuel → z_S g A s.heap hZ7 H locs → lv_has ls 7 [(0, .ref mo), (1, .int (nI i)), (2, .int (zb s2)), (3, .int (nI f)), (4, .int (nI n9)), (5, .int (nI k))] → W pg l en { frames := fM + 10, cells := 0, slots := 0, locals := lM + 200 } s m [.ref mo, .int (nI i)].toArray below meth cd H locs 0 0 (MQ below (z_Q g A (fun x h1 => x = none ∧ h1 mo = some ((20, 0), .inr (11, mF ma cod tpd siz (nI S.1) cls9 ffl fcl (nI R.1) sai (nI ((O ++ (mG V S R i)).length)) at9 il)) ∧ MOu g h1 ma (O ++ (mG V S R i)) ∧ z_K (fun y => y = 20 ∨ y = 35) h h1)) [.ref mo, .int (nI i)].toArray s 0 0 A) (F0 m 164 ls []) := by
                      intro fuel
                      induction fuel with
                      | zero => intro O3 hZ7 H locs ls L164_mo L164_ma_2 L164_rw9_0 L164_rw9_2 L164_rw9_4 L164_ma_4 L164_ma_6 L164_ma_7 kkN oh3 eO3 hm; exact absurd hm (Nat.not_lt_zero _)
                      | succ fuel ih_164 =>
                        intro O3 hZ7 H locs ls L164_mo L164_ma_2 L164_rw9_0 L164_rw9_2 L164_rw9_4 L164_ma_4 L164_ma_6 L164_ma_7 kkN oh3 eO3 hm hw hl
                        have lO3 : O3.length = O2.length + (preV S f n9 sm).length := by rw [eO3, List.length_append]
                        refine lv_aload_n hx hb d_M_putGroup_164 rfl (lv_at hl 0 rfl) ?_
                        refine lv_iload hx hb d_M_putGroup_165 (lv_at hl 5 rfl) ?_
                        have ln_4 : (O3 ++ (V k)).length = O3.length + (V k).length := List.length_append
                        refine z_callV (n := 1) (As := [.int (nI k)]) (rest := []) ⟨hx, hb, hml, hown, hts⟩ (hV k (by omega) (by omega) (by simpa using c_61) hZ7 O3 L164_mo (hSc.k kkN (by omega) (by omega) (by omega)) (hNd.k kkN (by omega) (by omega) (by omega)) oh3 (by have := congrArg List.length eO3; rw [List.length_append] at this; omega)) (z_in k_1073 rfl) (z_in k_7 rfl) (z_in k_1070 rfl) (z_in k_1072 rfl) (z_in ks_54 rfl) (by decide +kernel) ⟨by first | exact Nat.le_of_ble_eq_true rfl | (dsimp only; omega) | omega, by first | exact Nat.le_of_ble_eq_true rfl | (dsimp only; omega) | omega⟩ hK hE hw hA rfl L164_mo rfl hl.1 (Nat.le_of_ble_eq_true rfl) d_M_putGroup_167 ⟨by first | exact Nat.le_of_ble_eq_true rfl | (dsimp only; omega) | omega, by first | exact Nat.le_of_ble_eq_true rfl | (dsimp only; omega) | omega⟩ rfl (fun r9 h9 H locs hp hw => ?_)
                        obtain ⟨r8, m8, o8, k8⟩ := hp
                        subst r8
                        obtain ⟨h4, e7⟩ : ∃ x9, x9 = h9 := ⟨_, rfl⟩
                        subst e7
                        generalize eO_4 : O3 ++ (V k) = O_4 at m8 o8 ln_4
                        have oh_4 := o8
                        have mh_4 := m8
                        have g4_ma_2 : h4 (ma 2) = some ((23, 0), .inl (g.2.1 5, 6, .inr (.inr (.inr (.inr (fun k => some (rw9 k))))))) := k8 _ _ _ L164_ma_2 (by simp; try omega)
                        have g4_rw9_0 : h4 (rw9 0) = some ((24, 0), .inl (g.2.1 1, 128, .inl (rf 0))) := k8 _ _ _ L164_rw9_0 (by simp; try omega)
                        have g4_rw9_2 : h4 (rw9 2) = some ((24, 2), .inl (g.2.1 1, 128, .inl (rf 2))) := k8 _ _ _ L164_rw9_2 (by simp; try omega)
                        have g4_rw9_4 : h4 (rw9 4) = some ((24, 4), .inl (g.2.1 1, 128, .inl (rf 4))) := k8 _ _ _ L164_rw9_4 (by simp; try omega)
                        have g4_ma_4 : h4 (ma 4) = some ((27, 0), .inl (g.2.1 1, 2048, .inl lf)) := k8 _ _ _ L164_ma_4 (by simp; try omega)
                        have g4_ma_6 : h4 (ma 6) = some ((29, 0), .inl (g.2.1 1, 2000, .inl nf)) := k8 _ _ _ L164_ma_6 (by simp; try omega)
                        have g4_ma_7 : h4 (ma 7) = some ((29, 1), .inl (g.2.1 1, 2000, .inl np)) := k8 _ _ _ L164_ma_7 (by simp; try omega)
                        have kk4 : z_K (fun y => y = 20 ∨ y = 35) h h4 := kkN.tr k8
                        refine W.eq (g2 := F0 m 170 ls []) rfl ?_
                        refine lv_iconst (v := 1) hx hb d_M_putGroup_170 (by decide) ?_
                        refine lv_istore_n (lv' := [(2, .int 1), (0, .ref mo), (1, .int (nI i)), (3, .int (nI f)), (4, .int (nI n9)), (5, .int (nI k))]) hx hb d_M_putGroup_171 rfl hl (by decide) rfl (fun ls hl => ?_)
                        refine lv_iinc (v := nI (n9 + 1)) (lv' := [(4, .int (nI (n9 + 1))), (2, .int 1), (0, .ref mo), (1, .int (nI i)), (3, .int (nI f)), (5, .int (nI k))]) hx hb d_M_putGroup_172 hl (k := 4) rfl (nI_1 n9) (by decide) rfl (fun ls hl => ?_)
                        refine lv_iinc (v := nI (k + 1)) (lv' := [(5, .int (nI (k + 1))), (4, .int (nI (n9 + 1))), (2, .int 1), (0, .ref mo), (1, .int (nI i)), (3, .int (nI f))]) hx hb d_M_putGroup_175 hl (k := 5) rfl (nI_1 k) (by decide) rfl (fun ls hl => ?_)
                        refine lv_goto (tgt := 44) hx hb d_M_putGroup_178 (by decide) ?_
                        refine ih_44 (k + 1) (n9 + 1) true O_4 h4 _ _ _ mh_4 g4_ma_2 g4_rw9_0 g4_rw9_2 g4_rw9_4 g4_ma_4 g4_ma_6 g4_ma_7 kk4 oh_4 (⟨by omega, by omega, by rw [← eO_4, eO3, gT_yes hch, le2.2.2.1]; dsimp only; rw [← lpre]; simp, by rw [gT_yes hch]; dsimp only; rw [← le2.2.2.2.1], by simp⟩) ?_ hw (lv_sub hl [3, 4, 2, 5, 1, 0] rfl)
                        omega
                    refine lv_iload hx hb d_M_putGroup_78 (lv_at hl 4 rfl) ?_
                    refine lv_if_ne (tgt := 158) hx hb d_M_putGroup_80 (by decide) (fun c_80 => ?_) (fun c_80 => ?_)
                    · -- 80: True
                      have c_80 : ¬ (n9 = 0) := fun z => c_80 ((nI_eq (a := n9) (b := 0) (by omega) (by omega)).mpr z)
                      have lpw : (preV S f n9 sm).length = 1 := by unfold preV; rw [if_neg (show ¬ n9 = 0 by omega)]; rfl
                      refine lv_aload_n hx hb d_M_putGroup_158 rfl (lv_at hl 0 rfl) ?_
                      refine lv_bipush (v := 44) hx hb d_M_putGroup_159 (by decide) ?_
                      have ln_5 : (O2 ++ ([44])).length = O2.length + ([44]).length := List.length_append
                      simp only [List.length_cons, List.length_nil] at ln_5
                      refine z_callV (n := 1) (As := [.int 44]) (rest := []) ⟨hx, hb, hml, hown, hts⟩ (m_put (O := O2) (b9 := 44) l g hZ6 L44_mo oh2 (by omega) (by omega)) (z_in k_1069 rfl) (z_in k_7 rfl) (z_in k_1066 rfl) (z_in k_1068 rfl) (z_in ks_53 rfl) (by decide +kernel) ⟨by first | exact Nat.le_of_ble_eq_true rfl | (dsimp only; omega) | omega, by first | exact Nat.le_of_ble_eq_true rfl | (dsimp only; omega) | omega⟩ hK hE hw hA rfl L44_mo rfl hl.1 (Nat.le_of_ble_eq_true rfl) d_M_putGroup_161 ⟨by first | exact Nat.le_of_ble_eq_true rfl | (dsimp only; omega) | omega, by first | exact Nat.le_of_ble_eq_true rfl | (dsimp only; omega) | omega⟩ rfl (fun r9 h9 H locs hp hw => ?_)
                      obtain ⟨r8, m8, o8, k8⟩ := hp
                      subst r8
                      obtain ⟨h5, e7⟩ : ∃ x9, x9 = h9 := ⟨_, rfl⟩
                      subst e7
                      generalize eO_5 : O2 ++ ([44]) = O_5 at m8 o8 ln_5
                      have oh_5 := o8
                      have mh_5 := m8
                      have g5_ma_2 : h5 (ma 2) = some ((23, 0), .inl (g.2.1 5, 6, .inr (.inr (.inr (.inr (fun k => some (rw9 k))))))) := k8 _ _ _ L44_ma_2 (by simp; try omega)
                      have g5_rw9_0 : h5 (rw9 0) = some ((24, 0), .inl (g.2.1 1, 128, .inl (rf 0))) := k8 _ _ _ L44_rw9_0 (by simp; try omega)
                      have g5_rw9_2 : h5 (rw9 2) = some ((24, 2), .inl (g.2.1 1, 128, .inl (rf 2))) := k8 _ _ _ L44_rw9_2 (by simp; try omega)
                      have g5_rw9_4 : h5 (rw9 4) = some ((24, 4), .inl (g.2.1 1, 128, .inl (rf 4))) := k8 _ _ _ L44_rw9_4 (by simp; try omega)
                      have g5_ma_4 : h5 (ma 4) = some ((27, 0), .inl (g.2.1 1, 2048, .inl lf)) := k8 _ _ _ L44_ma_4 (by simp; try omega)
                      have g5_ma_6 : h5 (ma 6) = some ((29, 0), .inl (g.2.1 1, 2000, .inl nf)) := k8 _ _ _ L44_ma_6 (by simp; try omega)
                      have g5_ma_7 : h5 (ma 7) = some ((29, 1), .inl (g.2.1 1, 2000, .inl np)) := k8 _ _ _ L44_ma_7 (by simp; try omega)
                      have kk5 : z_K (fun y => y = 20 ∨ y = 35) h h5 := kkM.tr k8
                      refine W.eq (g2 := F0 m 164 ls []) rfl ?_
                      exact loop_164 (0 + 1) O_5 h5 _ _ _ mh_5 g5_ma_2 g5_rw9_0 g5_rw9_2 g5_rw9_4 g5_ma_4 g5_ma_6 g5_ma_7 kk5 oh_5 (by rw [← eO_5]; unfold preV; rw [if_neg (show ¬ n9 = 0 by omega)]) (by omega) hw (lv_sub hl [0, 1, 2, 3, 4, 5] rfl)
                    · -- 80: False
                      have c_80 : n9 = 0 := (nI_eq (a := n9) (b := 0) (by omega) (by omega)).mp c_80
                      have hs2 : sm = s2 := by rw [le2.2.2.2.2, show n9 = 0 by omega]; simp
                      have lpv : (preV S f n9 sm).length = (if sm = true then 1 else 0) + ((fNm (S.2 f)).length + 1 + (if fKi (S.2 f) = 2 then 1 else 0)) := by unfold preV hdO opO; rw [if_pos (show n9 = 0 by omega)]; simp only [List.length_append]; congr 1; (· split <;> rfl); (· congr 1; split <;> rfl)
                      refine lv_iload_n hx hb d_M_putGroup_83 rfl (lv_at hl 2 rfl) ?_
                      refine lv_if_eq (tgt := 93) hx hb d_M_putGroup_84 (by decide) (fun c_84 => ?_) (fun c_84 => ?_)
                      · -- 84: True
                        have c_84 : s2 = false := zb_f c_84
                        rw [if_neg (show ¬ sm = true by rw [hs2, c_84]; decide)] at lpv
                        have hri := hSc.2.2.2 f (by omega)
                        have hBi := hB.2.2 f (by omega)
                        obtain ⟨O9, eO9⟩ : ∃ x, x = O2 := ⟨_, rfl⟩
                        refine lv_iconst (v := 0) hx hb d_M_putGroup_93 (by decide) ?_
                        refine lv_istore (lv' := [(6, .int 0), (0, .ref mo), (1, .int (nI i)), (2, .int (zb s2)), (3, .int (nI f)), (4, .int (nI n9)), (5, .int (nI k))]) hx hb d_M_putGroup_94 hl (by decide) rfl (fun ls hl => ?_)
                        have loop_96 : ∀ (fuel : Nat) (j : Nat) (O4 : List Nat) (hZ8 : z_H) (H : Heap) (locs : List Loc) (ls : Array Slot) (L96_mo : hZ8 mo = some ((20, 0), .inr (11, mF ma cod tpd siz (nI S.1) cls9 ffl fcl (nI R.1) sai (nI O4.length) at9 il))) (L96_ma_2 : hZ8 (ma 2) = some ((23, 0), .inl (g.2.1 5, 6, .inr (.inr (.inr (.inr (fun k => some (rw9 k)))))))) (L96_rw9_0 : hZ8 (rw9 0) = some ((24, 0), .inl (g.2.1 1, 128, .inl (rf 0)))) (L96_rw9_2 : hZ8 (rw9 2) = some ((24, 2), .inl (g.2.1 1, 128, .inl (rf 2)))) (L96_rw9_4 : hZ8 (rw9 4) = some ((24, 4), .inl (g.2.1 1, 128, .inl (rf 4)))) (L96_ma_4 : hZ8 (ma 4) = some ((27, 0), .inl (g.2.1 1, 2048, .inl lf))) (L96_ma_6 : hZ8 (ma 6) = some ((29, 0), .inl (g.2.1 1, 2000, .inl nf))) (L96_ma_7 : hZ8 (ma 7) = some ((29, 1), .inl (g.2.1 1, 2000, .inl np))) (kkP : z_K (fun y => y = 20 ∨ y = 35) h hZ8) (oh4 : MOu g hZ8 ma O4) (le4 : j ≤ (fNm (S.2 f)).length ∧ O4 = O9 ++ (fNm (S.2 f)).take j), ((fNm (S.2 f)).length - j) < fuel → z_S g A s.heap hZ8 H locs → lv_has ls 7 [(0, .ref mo), (1, .int (nI i)), (2, .int (zb s2)), (3, .int (nI f)), (4, .int (nI n9)), (5, .int (nI k)), (6, .int (nI j))] → W pg l en { frames := fM + 10, cells := 0, slots := 0, locals := lM + 200 } s m [.ref mo, .int (nI i)].toArray below meth cd H locs 0 0 (MQ below (z_Q g A (fun x h1 => x = none ∧ h1 mo = some ((20, 0), .inr (11, mF ma cod tpd siz (nI S.1) cls9 ffl fcl (nI R.1) sai (nI ((O ++ (mG V S R i)).length)) at9 il)) ∧ MOu g h1 ma (O ++ (mG V S R i)) ∧ z_K (fun y => y = 20 ∨ y = 35) h h1)) [.ref mo, .int (nI i)].toArray s 0 0 A) (F0 m 96 ls []) := by
                          intro fuel
                          induction fuel with
                          | zero => intro j O4 hZ8 H locs ls L96_mo L96_ma_2 L96_rw9_0 L96_rw9_2 L96_rw9_4 L96_ma_4 L96_ma_6 L96_ma_7 kkP oh4 le4 hm; exact absurd hm (Nat.not_lt_zero _)
                          | succ fuel ih_96 =>
                            intro j O4 hZ8 H locs ls L96_mo L96_ma_2 L96_rw9_0 L96_rw9_2 L96_rw9_4 L96_ma_4 L96_ma_6 L96_ma_7 kkP oh4 le4 hm hw hl
                            have lO4 : O4.length = O9.length + j := by rw [le4.2, List.length_append, List.length_take]; omega
                            have lO9 := congrArg List.length eO9
                            refine lv_iload hx hb d_M_putGroup_96 (lv_at hl 6 rfl) ?_
                            refine lv_aload_n hx hb d_M_putGroup_98 rfl (lv_at hl 0 rfl) ?_
                            refine z_get hx hb hts (z_lay i_M) hown hK hw L96_mo rfl 5 (by decide) (z_in k_776 rfl) (fun _ h9 => h9) rfl d_M_putGroup_99 ?_
                            refine lv_iconst (v := 4) hx hb d_M_putGroup_102 (by decide) ?_
                            refine z_aldr hx hb hK hw L96_ma_2 5 rfl (by unfold vp_in; decide) d_M_putGroup_103 ?_
                            refine z_top (y := va_rf ((fun k => some (rw9 k)) 4)) (by rfl) ?_
                            refine z_top (y := .ref (rw9 4)) (rfl) ?_
                            refine lv_iload_n hx hb d_M_putGroup_104 rfl (lv_at hl 3 rfl) ?_
                            refine z_iald hx hb hK hw L96_rw9_4 1 rfl (vp_in_nI (by omega) (by omega)) d_M_putGroup_105 ?_
                            refine z_topi (y := (rf 4) f) (by rw [nI_clamp (by omega)]) ?_
                            refine z_top (y := .int (nI ((fNm (S.2 f)).length))) (by rw [hri.2.2.2.2.1]) ?_
                            refine lv_icmp_ge (tgt := 131) hx hb d_M_putGroup_106 (by decide) (fun c_106 => ?_) (fun c_106 => ?_)
                            · -- 106: True
                              have c_106 : ((fNm (S.2 f)).length) ≤ j := (nI_leI (a := (fNm (S.2 f)).length) (b := j) (by omega) (by omega)).mp c_106
                              have ele4 : O4 = O2 ++ fNm (S.2 f) := by rw [le4.2, show j = (fNm (S.2 f)).length by omega, List.take_length, eO9]
                              refine lv_aload_n hx hb d_M_putGroup_131 rfl (lv_at hl 0 rfl) ?_
                              refine lv_bipush (v := 58) hx hb d_M_putGroup_132 (by decide) ?_
                              have ln_6 : (O4 ++ ([58])).length = O4.length + ([58]).length := List.length_append
                              simp only [List.length_cons, List.length_nil] at ln_6
                              refine z_callV (n := 1) (As := [.int 58]) (rest := []) ⟨hx, hb, hml, hown, hts⟩ (m_put (O := O4) (b9 := 58) l g hZ8 L96_mo oh4 (by omega) (by omega)) (z_in k_1069 rfl) (z_in k_7 rfl) (z_in k_1066 rfl) (z_in k_1068 rfl) (z_in ks_53 rfl) (by decide +kernel) ⟨by first | exact Nat.le_of_ble_eq_true rfl | (dsimp only; omega) | omega, by first | exact Nat.le_of_ble_eq_true rfl | (dsimp only; omega) | omega⟩ hK hE hw hA rfl L96_mo rfl hl.1 (Nat.le_of_ble_eq_true rfl) d_M_putGroup_134 ⟨by first | exact Nat.le_of_ble_eq_true rfl | (dsimp only; omega) | omega, by first | exact Nat.le_of_ble_eq_true rfl | (dsimp only; omega) | omega⟩ rfl (fun r9 h9 H locs hp hw => ?_)
                              obtain ⟨r8, m8, o8, k8⟩ := hp
                              subst r8
                              obtain ⟨h6, e7⟩ : ∃ x9, x9 = h9 := ⟨_, rfl⟩
                              subst e7
                              generalize eO_6 : O4 ++ ([58]) = O_6 at m8 o8 ln_6
                              have oh_6 := o8
                              have mh_6 := m8
                              have g6_ma_2 : h6 (ma 2) = some ((23, 0), .inl (g.2.1 5, 6, .inr (.inr (.inr (.inr (fun k => some (rw9 k))))))) := k8 _ _ _ L96_ma_2 (by simp; try omega)
                              have g6_rw9_0 : h6 (rw9 0) = some ((24, 0), .inl (g.2.1 1, 128, .inl (rf 0))) := k8 _ _ _ L96_rw9_0 (by simp; try omega)
                              have g6_rw9_2 : h6 (rw9 2) = some ((24, 2), .inl (g.2.1 1, 128, .inl (rf 2))) := k8 _ _ _ L96_rw9_2 (by simp; try omega)
                              have g6_rw9_4 : h6 (rw9 4) = some ((24, 4), .inl (g.2.1 1, 128, .inl (rf 4))) := k8 _ _ _ L96_rw9_4 (by simp; try omega)
                              have g6_ma_4 : h6 (ma 4) = some ((27, 0), .inl (g.2.1 1, 2048, .inl lf)) := k8 _ _ _ L96_ma_4 (by simp; try omega)
                              have g6_ma_6 : h6 (ma 6) = some ((29, 0), .inl (g.2.1 1, 2000, .inl nf)) := k8 _ _ _ L96_ma_6 (by simp; try omega)
                              have g6_ma_7 : h6 (ma 7) = some ((29, 1), .inl (g.2.1 1, 2000, .inl np)) := k8 _ _ _ L96_ma_7 (by simp; try omega)
                              have kk6 : z_K (fun y => y = 20 ∨ y = 35) h h6 := kkP.tr k8
                              refine W.eq (g2 := F0 m 137 ls []) rfl ?_
                              refine lv_aload_n hx hb d_M_putGroup_137 rfl (lv_at hl 0 rfl) ?_
                              refine z_get hx hb hts (z_lay i_M) hown hK hw mh_6 rfl 5 (by decide) (z_in k_776 rfl) (fun _ h9 => h9) rfl d_M_putGroup_138 ?_
                              refine lv_iconst (v := 0) hx hb d_M_putGroup_141 (by decide) ?_
                              refine z_aldr hx hb hK hw g6_ma_2 5 rfl (by unfold vp_in; decide) d_M_putGroup_142 ?_
                              refine z_top (y := va_rf ((fun k => some (rw9 k)) 0)) (by rfl) ?_
                              refine z_top (y := .ref (rw9 0)) (rfl) ?_
                              refine lv_iload_n hx hb d_M_putGroup_143 rfl (lv_at hl 3 rfl) ?_
                              refine z_iald hx hb hK hw g6_rw9_0 1 rfl (vp_in_nI (by omega) (by omega)) d_M_putGroup_144 ?_
                              refine z_topi (y := (rf 0) f) (by rw [nI_clamp (by omega)]) ?_
                              refine z_top (y := .int (fKi (S.2 f))) (by rw [hri.1]) ?_
                              refine lv_iconst (v := 2) hx hb d_M_putGroup_145 (by decide) ?_
                              refine lv_icmp_ne (tgt := 164) hx hb d_M_putGroup_146 (by decide) (fun c_146 => ?_) (fun c_146 => ?_)
                              · -- 146: True
                                exact loop_164 (0 + 1) O_6 h6 _ _ _ mh_6 g6_ma_2 g6_rw9_0 g6_rw9_2 g6_rw9_4 g6_ma_4 g6_ma_6 g6_ma_7 kk6 oh_6 (by rw [← eO_6, ele4]; unfold preV hdO opO; rw [if_pos (show n9 = 0 by omega), if_neg (show ¬ sm = true by rw [hs2, c_84]; decide), if_neg (show ¬ fKi (S.2 f) = 2 from c_146)]; simp) (by omega) hw (lv_sub hl [0, 1, 2, 3, 4, 5] rfl)
                              · -- 146: False
                                rw [if_pos (show fKi (S.2 f) = 2 by simpa using c_146)] at lpv
                                refine lv_aload_n hx hb d_M_putGroup_149 rfl (lv_at hl 0 rfl) ?_
                                refine lv_bipush (v := 91) hx hb d_M_putGroup_150 (by decide) ?_
                                have ln_7 : (O_6 ++ ([91])).length = O_6.length + ([91]).length := List.length_append
                                simp only [List.length_cons, List.length_nil] at ln_7
                                refine z_callV (n := 1) (As := [.int 91]) (rest := []) ⟨hx, hb, hml, hown, hts⟩ (m_put (O := O_6) (b9 := 91) l g h6 mh_6 oh_6 (by omega) (by omega)) (z_in k_1069 rfl) (z_in k_7 rfl) (z_in k_1066 rfl) (z_in k_1068 rfl) (z_in ks_53 rfl) (by decide +kernel) ⟨by first | exact Nat.le_of_ble_eq_true rfl | (dsimp only; omega) | omega, by first | exact Nat.le_of_ble_eq_true rfl | (dsimp only; omega) | omega⟩ hK hE hw hA rfl mh_6 rfl hl.1 (Nat.le_of_ble_eq_true rfl) d_M_putGroup_152 ⟨by first | exact Nat.le_of_ble_eq_true rfl | (dsimp only; omega) | omega, by first | exact Nat.le_of_ble_eq_true rfl | (dsimp only; omega) | omega⟩ rfl (fun r9 h9 H locs hp hw => ?_)
                                obtain ⟨r8, m8, o8, k8⟩ := hp
                                subst r8
                                obtain ⟨h7, e7⟩ : ∃ x9, x9 = h9 := ⟨_, rfl⟩
                                subst e7
                                generalize eO_7 : O_6 ++ ([91]) = O_7 at m8 o8 ln_7
                                have oh_7 := o8
                                have mh_7 := m8
                                have g7_ma_2 : h7 (ma 2) = some ((23, 0), .inl (g.2.1 5, 6, .inr (.inr (.inr (.inr (fun k => some (rw9 k))))))) := k8 _ _ _ g6_ma_2 (by simp; try omega)
                                have g7_rw9_0 : h7 (rw9 0) = some ((24, 0), .inl (g.2.1 1, 128, .inl (rf 0))) := k8 _ _ _ g6_rw9_0 (by simp; try omega)
                                have g7_rw9_2 : h7 (rw9 2) = some ((24, 2), .inl (g.2.1 1, 128, .inl (rf 2))) := k8 _ _ _ g6_rw9_2 (by simp; try omega)
                                have g7_rw9_4 : h7 (rw9 4) = some ((24, 4), .inl (g.2.1 1, 128, .inl (rf 4))) := k8 _ _ _ g6_rw9_4 (by simp; try omega)
                                have g7_ma_4 : h7 (ma 4) = some ((27, 0), .inl (g.2.1 1, 2048, .inl lf)) := k8 _ _ _ g6_ma_4 (by simp; try omega)
                                have g7_ma_6 : h7 (ma 6) = some ((29, 0), .inl (g.2.1 1, 2000, .inl nf)) := k8 _ _ _ g6_ma_6 (by simp; try omega)
                                have g7_ma_7 : h7 (ma 7) = some ((29, 1), .inl (g.2.1 1, 2000, .inl np)) := k8 _ _ _ g6_ma_7 (by simp; try omega)
                                have kk7 : z_K (fun y => y = 20 ∨ y = 35) h h7 := kk6.tr k8
                                refine W.eq (g2 := F0 m 155 ls []) rfl ?_
                                refine lv_goto (tgt := 164) hx hb d_M_putGroup_155 (by decide) ?_
                                exact loop_164 (0 + 1) O_7 h7 _ _ _ mh_7 g7_ma_2 g7_rw9_0 g7_rw9_2 g7_rw9_4 g7_ma_4 g7_ma_6 g7_ma_7 kk7 oh_7 (by rw [← eO_7, ← eO_6, ele4]; unfold preV hdO opO; rw [if_pos (show n9 = 0 by omega), if_neg (show ¬ sm = true by rw [hs2, c_84]; decide), if_pos (show fKi (S.2 f) = 2 by simpa using c_146)]; simp) (by omega) hw (lv_sub hl [0, 1, 2, 3, 4, 5] rfl)
                            · -- 106: False
                              have c_106 : ¬ (((fNm (S.2 f)).length) ≤ j) := fun z => c_106 ((nI_leI (a := (fNm (S.2 f)).length) (b := j) (by omega) (by omega)).mpr z)
                              have hb9 := hBi.2 j (by omega)
                              refine lv_aload_n hx hb d_M_putGroup_109 rfl (lv_at hl 0 rfl) ?_
                              refine lv_aload_n hx hb d_M_putGroup_110 rfl (lv_at hl 0 rfl) ?_
                              refine z_get hx hb hts (z_lay i_M) hown hK hw L96_mo rfl 7 (by decide) (z_in k_778 rfl) (fun _ h9 => h9) rfl d_M_putGroup_111 ?_
                              refine lv_bipush (v := 16) hx hb d_M_putGroup_114 (by decide) ?_
                              refine lv_iload_n hx hb d_M_putGroup_116 rfl (lv_at hl 3 rfl) ?_
                              refine lv_imul hx hb d_M_putGroup_117 ?_
                              refine z_topi (y := nI (16 * f)) (pk_mul 16 f) ?_
                              refine lv_iload hx hb d_M_putGroup_118 (lv_at hl 6 rfl) ?_
                              refine lv_iadd hx hb d_M_putGroup_120 ?_
                              refine z_topi (y := nI ((16 * f) + j)) (nI_add (16 * f) j) ?_
                              refine z_iald hx hb hK hw L96_ma_4 1 rfl (vp_in_nI (by omega) (by omega)) d_M_putGroup_121 ?_
                              refine z_topi (y := lf ((16 * f) + j)) (by rw [nI_clamp (by omega)]) ?_
                              refine z_top (y := .int (nI ((fNm (S.2 f)).getD j 0))) (by rw [hri.2.2.2.2.2 j (by omega)]) ?_
                              have ln_8 : (O4 ++ ([(fNm (S.2 f)).getD j 0])).length = O4.length + ([(fNm (S.2 f)).getD j 0]).length := List.length_append
                              simp only [List.length_cons, List.length_nil] at ln_8
                              refine z_callV (n := 1) (As := [.int (nI ((fNm (S.2 f)).getD j 0))]) (rest := []) ⟨hx, hb, hml, hown, hts⟩ (m_put (O := O4) (b9 := (fNm (S.2 f)).getD j 0) l g hZ8 L96_mo oh4 (by omega) (by omega)) (z_in k_1069 rfl) (z_in k_7 rfl) (z_in k_1066 rfl) (z_in k_1068 rfl) (z_in ks_53 rfl) (by decide +kernel) ⟨by first | exact Nat.le_of_ble_eq_true rfl | (dsimp only; omega) | omega, by first | exact Nat.le_of_ble_eq_true rfl | (dsimp only; omega) | omega⟩ hK hE hw hA rfl L96_mo rfl hl.1 (Nat.le_of_ble_eq_true rfl) d_M_putGroup_122 ⟨by first | exact Nat.le_of_ble_eq_true rfl | (dsimp only; omega) | omega, by first | exact Nat.le_of_ble_eq_true rfl | (dsimp only; omega) | omega⟩ rfl (fun r9 h9 H locs hp hw => ?_)
                              obtain ⟨r8, m8, o8, k8⟩ := hp
                              subst r8
                              obtain ⟨h8, e7⟩ : ∃ x9, x9 = h9 := ⟨_, rfl⟩
                              subst e7
                              generalize eO_8 : O4 ++ ([(fNm (S.2 f)).getD j 0]) = O_8 at m8 o8 ln_8
                              have oh_8 := o8
                              have mh_8 := m8
                              have g8_ma_2 : h8 (ma 2) = some ((23, 0), .inl (g.2.1 5, 6, .inr (.inr (.inr (.inr (fun k => some (rw9 k))))))) := k8 _ _ _ L96_ma_2 (by simp; try omega)
                              have g8_rw9_0 : h8 (rw9 0) = some ((24, 0), .inl (g.2.1 1, 128, .inl (rf 0))) := k8 _ _ _ L96_rw9_0 (by simp; try omega)
                              have g8_rw9_2 : h8 (rw9 2) = some ((24, 2), .inl (g.2.1 1, 128, .inl (rf 2))) := k8 _ _ _ L96_rw9_2 (by simp; try omega)
                              have g8_rw9_4 : h8 (rw9 4) = some ((24, 4), .inl (g.2.1 1, 128, .inl (rf 4))) := k8 _ _ _ L96_rw9_4 (by simp; try omega)
                              have g8_ma_4 : h8 (ma 4) = some ((27, 0), .inl (g.2.1 1, 2048, .inl lf)) := k8 _ _ _ L96_ma_4 (by simp; try omega)
                              have g8_ma_6 : h8 (ma 6) = some ((29, 0), .inl (g.2.1 1, 2000, .inl nf)) := k8 _ _ _ L96_ma_6 (by simp; try omega)
                              have g8_ma_7 : h8 (ma 7) = some ((29, 1), .inl (g.2.1 1, 2000, .inl np)) := k8 _ _ _ L96_ma_7 (by simp; try omega)
                              have kk8 : z_K (fun y => y = 20 ∨ y = 35) h h8 := kkP.tr k8
                              refine W.eq (g2 := F0 m 125 ls []) rfl ?_
                              refine lv_iinc (v := nI (j + 1)) (lv' := [(6, .int (nI (j + 1))), (0, .ref mo), (1, .int (nI i)), (2, .int (zb s2)), (3, .int (nI f)), (4, .int (nI n9)), (5, .int (nI k))]) hx hb d_M_putGroup_125 hl (k := 6) rfl (nI_1 j) (by decide) rfl (fun ls hl => ?_)
                              refine lv_goto (tgt := 96) hx hb d_M_putGroup_128 (by decide) ?_
                              refine ih_96 (j + 1) O_8 h8 _ _ _ mh_8 g8_ma_2 g8_rw9_0 g8_rw9_2 g8_rw9_4 g8_ma_4 g8_ma_6 g8_ma_7 kk8 oh_8 (⟨by omega, by rw [← eO_8, le4.2, take_succ' (fNm (S.2 f)) (by omega)]; simp⟩) ?_ hw (lv_sub hl [1, 2, 3, 4, 5, 6, 0] rfl)
                              omega
                        exact loop_96 ((fNm (S.2 f)).length - 0 + 1) 0 O2 hZ6 _ _ _ L44_mo L44_ma_2 L44_rw9_0 L44_rw9_2 L44_rw9_4 L44_ma_4 L44_ma_6 L44_ma_7 kkM oh2 (⟨Nat.zero_le _, by rw [eO9]; simp⟩) (by omega) hw (lv_sub hl [1, 2, 3, 4, 5, 6, 0] rfl)
                      · -- 84: False
                        have c_84 : s2 = true := zb_t c_84
                        refine lv_aload_n hx hb d_M_putGroup_87 rfl (lv_at hl 0 rfl) ?_
                        refine lv_bipush (v := 44) hx hb d_M_putGroup_88 (by decide) ?_
                        have ln_9 : (O2 ++ ([44])).length = O2.length + ([44]).length := List.length_append
                        simp only [List.length_cons, List.length_nil] at ln_9
                        refine z_callV (n := 1) (As := [.int 44]) (rest := []) ⟨hx, hb, hml, hown, hts⟩ (m_put (O := O2) (b9 := 44) l g hZ6 L44_mo oh2 (by omega) (by omega)) (z_in k_1069 rfl) (z_in k_7 rfl) (z_in k_1066 rfl) (z_in k_1068 rfl) (z_in ks_53 rfl) (by decide +kernel) ⟨by first | exact Nat.le_of_ble_eq_true rfl | (dsimp only; omega) | omega, by first | exact Nat.le_of_ble_eq_true rfl | (dsimp only; omega) | omega⟩ hK hE hw hA rfl L44_mo rfl hl.1 (Nat.le_of_ble_eq_true rfl) d_M_putGroup_90 ⟨by first | exact Nat.le_of_ble_eq_true rfl | (dsimp only; omega) | omega, by first | exact Nat.le_of_ble_eq_true rfl | (dsimp only; omega) | omega⟩ rfl (fun r9 h9 H locs hp hw => ?_)
                        obtain ⟨r8, m8, o8, k8⟩ := hp
                        subst r8
                        obtain ⟨h9, e7⟩ : ∃ x9, x9 = h9 := ⟨_, rfl⟩
                        subst e7
                        generalize eO_9 : O2 ++ ([44]) = O_9 at m8 o8 ln_9
                        have oh_9 := o8
                        have mh_9 := m8
                        have g9_ma_2 : h9 (ma 2) = some ((23, 0), .inl (g.2.1 5, 6, .inr (.inr (.inr (.inr (fun k => some (rw9 k))))))) := k8 _ _ _ L44_ma_2 (by simp; try omega)
                        have g9_rw9_0 : h9 (rw9 0) = some ((24, 0), .inl (g.2.1 1, 128, .inl (rf 0))) := k8 _ _ _ L44_rw9_0 (by simp; try omega)
                        have g9_rw9_2 : h9 (rw9 2) = some ((24, 2), .inl (g.2.1 1, 128, .inl (rf 2))) := k8 _ _ _ L44_rw9_2 (by simp; try omega)
                        have g9_rw9_4 : h9 (rw9 4) = some ((24, 4), .inl (g.2.1 1, 128, .inl (rf 4))) := k8 _ _ _ L44_rw9_4 (by simp; try omega)
                        have g9_ma_4 : h9 (ma 4) = some ((27, 0), .inl (g.2.1 1, 2048, .inl lf)) := k8 _ _ _ L44_ma_4 (by simp; try omega)
                        have g9_ma_6 : h9 (ma 6) = some ((29, 0), .inl (g.2.1 1, 2000, .inl nf)) := k8 _ _ _ L44_ma_6 (by simp; try omega)
                        have g9_ma_7 : h9 (ma 7) = some ((29, 1), .inl (g.2.1 1, 2000, .inl np)) := k8 _ _ _ L44_ma_7 (by simp; try omega)
                        have kk9 : z_K (fun y => y = 20 ∨ y = 35) h h9 := kkM.tr k8
                        refine W.eq (g2 := F0 m 93 ls []) rfl ?_
                        rw [if_pos (show sm = true by rw [hs2]; exact c_84)] at lpv
                        have hri := hSc.2.2.2 f (by omega)
                        have hBi := hB.2.2 f (by omega)
                        obtain ⟨O9, eO9⟩ : ∃ x, x = O_9 := ⟨_, rfl⟩
                        refine lv_iconst (v := 0) hx hb d_M_putGroup_93 (by decide) ?_
                        refine lv_istore (lv' := [(6, .int 0), (0, .ref mo), (1, .int (nI i)), (2, .int (zb s2)), (3, .int (nI f)), (4, .int (nI n9)), (5, .int (nI k))]) hx hb d_M_putGroup_94 hl (by decide) rfl (fun ls hl => ?_)
                        have loop_96 : ∀ (fuel : Nat) (j : Nat) (O4 : List Nat) (hZ8 : z_H) (H : Heap) (locs : List Loc) (ls : Array Slot) (L96_mo : hZ8 mo = some ((20, 0), .inr (11, mF ma cod tpd siz (nI S.1) cls9 ffl fcl (nI R.1) sai (nI O4.length) at9 il))) (L96_ma_2 : hZ8 (ma 2) = some ((23, 0), .inl (g.2.1 5, 6, .inr (.inr (.inr (.inr (fun k => some (rw9 k)))))))) (L96_rw9_0 : hZ8 (rw9 0) = some ((24, 0), .inl (g.2.1 1, 128, .inl (rf 0)))) (L96_rw9_2 : hZ8 (rw9 2) = some ((24, 2), .inl (g.2.1 1, 128, .inl (rf 2)))) (L96_rw9_4 : hZ8 (rw9 4) = some ((24, 4), .inl (g.2.1 1, 128, .inl (rf 4)))) (L96_ma_4 : hZ8 (ma 4) = some ((27, 0), .inl (g.2.1 1, 2048, .inl lf))) (L96_ma_6 : hZ8 (ma 6) = some ((29, 0), .inl (g.2.1 1, 2000, .inl nf))) (L96_ma_7 : hZ8 (ma 7) = some ((29, 1), .inl (g.2.1 1, 2000, .inl np))) (kkP : z_K (fun y => y = 20 ∨ y = 35) h hZ8) (oh4 : MOu g hZ8 ma O4) (le4 : j ≤ (fNm (S.2 f)).length ∧ O4 = O9 ++ (fNm (S.2 f)).take j), ((fNm (S.2 f)).length - j) < fuel → z_S g A s.heap hZ8 H locs → lv_has ls 7 [(0, .ref mo), (1, .int (nI i)), (2, .int (zb s2)), (3, .int (nI f)), (4, .int (nI n9)), (5, .int (nI k)), (6, .int (nI j))] → W pg l en { frames := fM + 10, cells := 0, slots := 0, locals := lM + 200 } s m [.ref mo, .int (nI i)].toArray below meth cd H locs 0 0 (MQ below (z_Q g A (fun x h1 => x = none ∧ h1 mo = some ((20, 0), .inr (11, mF ma cod tpd siz (nI S.1) cls9 ffl fcl (nI R.1) sai (nI ((O ++ (mG V S R i)).length)) at9 il)) ∧ MOu g h1 ma (O ++ (mG V S R i)) ∧ z_K (fun y => y = 20 ∨ y = 35) h h1)) [.ref mo, .int (nI i)].toArray s 0 0 A) (F0 m 96 ls []) := by
                          intro fuel
                          induction fuel with
                          | zero => intro j O4 hZ8 H locs ls L96_mo L96_ma_2 L96_rw9_0 L96_rw9_2 L96_rw9_4 L96_ma_4 L96_ma_6 L96_ma_7 kkP oh4 le4 hm; exact absurd hm (Nat.not_lt_zero _)
                          | succ fuel ih_96 =>
                            intro j O4 hZ8 H locs ls L96_mo L96_ma_2 L96_rw9_0 L96_rw9_2 L96_rw9_4 L96_ma_4 L96_ma_6 L96_ma_7 kkP oh4 le4 hm hw hl
                            have lO4 : O4.length = O9.length + j := by rw [le4.2, List.length_append, List.length_take]; omega
                            have lO9 := congrArg List.length eO9
                            refine lv_iload hx hb d_M_putGroup_96 (lv_at hl 6 rfl) ?_
                            refine lv_aload_n hx hb d_M_putGroup_98 rfl (lv_at hl 0 rfl) ?_
                            refine z_get hx hb hts (z_lay i_M) hown hK hw L96_mo rfl 5 (by decide) (z_in k_776 rfl) (fun _ h9 => h9) rfl d_M_putGroup_99 ?_
                            refine lv_iconst (v := 4) hx hb d_M_putGroup_102 (by decide) ?_
                            refine z_aldr hx hb hK hw L96_ma_2 5 rfl (by unfold vp_in; decide) d_M_putGroup_103 ?_
                            refine z_top (y := va_rf ((fun k => some (rw9 k)) 4)) (by rfl) ?_
                            refine z_top (y := .ref (rw9 4)) (rfl) ?_
                            refine lv_iload_n hx hb d_M_putGroup_104 rfl (lv_at hl 3 rfl) ?_
                            refine z_iald hx hb hK hw L96_rw9_4 1 rfl (vp_in_nI (by omega) (by omega)) d_M_putGroup_105 ?_
                            refine z_topi (y := (rf 4) f) (by rw [nI_clamp (by omega)]) ?_
                            refine z_top (y := .int (nI ((fNm (S.2 f)).length))) (by rw [hri.2.2.2.2.1]) ?_
                            refine lv_icmp_ge (tgt := 131) hx hb d_M_putGroup_106 (by decide) (fun c_106 => ?_) (fun c_106 => ?_)
                            · -- 106: True
                              have c_106 : ((fNm (S.2 f)).length) ≤ j := (nI_leI (a := (fNm (S.2 f)).length) (b := j) (by omega) (by omega)).mp c_106
                              have ele4 : O4 = (O2 ++ [44]) ++ fNm (S.2 f) := by rw [le4.2, show j = (fNm (S.2 f)).length by omega, List.take_length, eO9, ← eO_9]
                              refine lv_aload_n hx hb d_M_putGroup_131 rfl (lv_at hl 0 rfl) ?_
                              refine lv_bipush (v := 58) hx hb d_M_putGroup_132 (by decide) ?_
                              have ln_10 : (O4 ++ ([58])).length = O4.length + ([58]).length := List.length_append
                              simp only [List.length_cons, List.length_nil] at ln_10
                              refine z_callV (n := 1) (As := [.int 58]) (rest := []) ⟨hx, hb, hml, hown, hts⟩ (m_put (O := O4) (b9 := 58) l g hZ8 L96_mo oh4 (by omega) (by omega)) (z_in k_1069 rfl) (z_in k_7 rfl) (z_in k_1066 rfl) (z_in k_1068 rfl) (z_in ks_53 rfl) (by decide +kernel) ⟨by first | exact Nat.le_of_ble_eq_true rfl | (dsimp only; omega) | omega, by first | exact Nat.le_of_ble_eq_true rfl | (dsimp only; omega) | omega⟩ hK hE hw hA rfl L96_mo rfl hl.1 (Nat.le_of_ble_eq_true rfl) d_M_putGroup_134 ⟨by first | exact Nat.le_of_ble_eq_true rfl | (dsimp only; omega) | omega, by first | exact Nat.le_of_ble_eq_true rfl | (dsimp only; omega) | omega⟩ rfl (fun r9 h9 H locs hp hw => ?_)
                              obtain ⟨r8, m8, o8, k8⟩ := hp
                              subst r8
                              obtain ⟨h10, e7⟩ : ∃ x9, x9 = h9 := ⟨_, rfl⟩
                              subst e7
                              generalize eO_10 : O4 ++ ([58]) = O_10 at m8 o8 ln_10
                              have oh_10 := o8
                              have mh_10 := m8
                              have g10_ma_2 : h10 (ma 2) = some ((23, 0), .inl (g.2.1 5, 6, .inr (.inr (.inr (.inr (fun k => some (rw9 k))))))) := k8 _ _ _ L96_ma_2 (by simp; try omega)
                              have g10_rw9_0 : h10 (rw9 0) = some ((24, 0), .inl (g.2.1 1, 128, .inl (rf 0))) := k8 _ _ _ L96_rw9_0 (by simp; try omega)
                              have g10_rw9_2 : h10 (rw9 2) = some ((24, 2), .inl (g.2.1 1, 128, .inl (rf 2))) := k8 _ _ _ L96_rw9_2 (by simp; try omega)
                              have g10_rw9_4 : h10 (rw9 4) = some ((24, 4), .inl (g.2.1 1, 128, .inl (rf 4))) := k8 _ _ _ L96_rw9_4 (by simp; try omega)
                              have g10_ma_4 : h10 (ma 4) = some ((27, 0), .inl (g.2.1 1, 2048, .inl lf)) := k8 _ _ _ L96_ma_4 (by simp; try omega)
                              have g10_ma_6 : h10 (ma 6) = some ((29, 0), .inl (g.2.1 1, 2000, .inl nf)) := k8 _ _ _ L96_ma_6 (by simp; try omega)
                              have g10_ma_7 : h10 (ma 7) = some ((29, 1), .inl (g.2.1 1, 2000, .inl np)) := k8 _ _ _ L96_ma_7 (by simp; try omega)
                              have kk10 : z_K (fun y => y = 20 ∨ y = 35) h h10 := kkP.tr k8
                              refine W.eq (g2 := F0 m 137 ls []) rfl ?_
                              refine lv_aload_n hx hb d_M_putGroup_137 rfl (lv_at hl 0 rfl) ?_
                              refine z_get hx hb hts (z_lay i_M) hown hK hw mh_10 rfl 5 (by decide) (z_in k_776 rfl) (fun _ h9 => h9) rfl d_M_putGroup_138 ?_
                              refine lv_iconst (v := 0) hx hb d_M_putGroup_141 (by decide) ?_
                              refine z_aldr hx hb hK hw g10_ma_2 5 rfl (by unfold vp_in; decide) d_M_putGroup_142 ?_
                              refine z_top (y := va_rf ((fun k => some (rw9 k)) 0)) (by rfl) ?_
                              refine z_top (y := .ref (rw9 0)) (rfl) ?_
                              refine lv_iload_n hx hb d_M_putGroup_143 rfl (lv_at hl 3 rfl) ?_
                              refine z_iald hx hb hK hw g10_rw9_0 1 rfl (vp_in_nI (by omega) (by omega)) d_M_putGroup_144 ?_
                              refine z_topi (y := (rf 0) f) (by rw [nI_clamp (by omega)]) ?_
                              refine z_top (y := .int (fKi (S.2 f))) (by rw [hri.1]) ?_
                              refine lv_iconst (v := 2) hx hb d_M_putGroup_145 (by decide) ?_
                              refine lv_icmp_ne (tgt := 164) hx hb d_M_putGroup_146 (by decide) (fun c_146 => ?_) (fun c_146 => ?_)
                              · -- 146: True
                                exact loop_164 (0 + 1) O_10 h10 _ _ _ mh_10 g10_ma_2 g10_rw9_0 g10_rw9_2 g10_rw9_4 g10_ma_4 g10_ma_6 g10_ma_7 kk10 oh_10 (by rw [← eO_10, ele4]; unfold preV hdO opO; rw [if_pos (show n9 = 0 by omega), if_pos (show sm = true by rw [hs2]; exact c_84), if_neg (show ¬ fKi (S.2 f) = 2 from c_146)]; simp) (by omega) hw (lv_sub hl [0, 1, 2, 3, 4, 5] rfl)
                              · -- 146: False
                                rw [if_pos (show fKi (S.2 f) = 2 by simpa using c_146)] at lpv
                                refine lv_aload_n hx hb d_M_putGroup_149 rfl (lv_at hl 0 rfl) ?_
                                refine lv_bipush (v := 91) hx hb d_M_putGroup_150 (by decide) ?_
                                have ln_11 : (O_10 ++ ([91])).length = O_10.length + ([91]).length := List.length_append
                                simp only [List.length_cons, List.length_nil] at ln_11
                                refine z_callV (n := 1) (As := [.int 91]) (rest := []) ⟨hx, hb, hml, hown, hts⟩ (m_put (O := O_10) (b9 := 91) l g h10 mh_10 oh_10 (by omega) (by omega)) (z_in k_1069 rfl) (z_in k_7 rfl) (z_in k_1066 rfl) (z_in k_1068 rfl) (z_in ks_53 rfl) (by decide +kernel) ⟨by first | exact Nat.le_of_ble_eq_true rfl | (dsimp only; omega) | omega, by first | exact Nat.le_of_ble_eq_true rfl | (dsimp only; omega) | omega⟩ hK hE hw hA rfl mh_10 rfl hl.1 (Nat.le_of_ble_eq_true rfl) d_M_putGroup_152 ⟨by first | exact Nat.le_of_ble_eq_true rfl | (dsimp only; omega) | omega, by first | exact Nat.le_of_ble_eq_true rfl | (dsimp only; omega) | omega⟩ rfl (fun r9 h9 H locs hp hw => ?_)
                                obtain ⟨r8, m8, o8, k8⟩ := hp
                                subst r8
                                obtain ⟨h11, e7⟩ : ∃ x9, x9 = h9 := ⟨_, rfl⟩
                                subst e7
                                generalize eO_11 : O_10 ++ ([91]) = O_11 at m8 o8 ln_11
                                have oh_11 := o8
                                have mh_11 := m8
                                have g11_ma_2 : h11 (ma 2) = some ((23, 0), .inl (g.2.1 5, 6, .inr (.inr (.inr (.inr (fun k => some (rw9 k))))))) := k8 _ _ _ g10_ma_2 (by simp; try omega)
                                have g11_rw9_0 : h11 (rw9 0) = some ((24, 0), .inl (g.2.1 1, 128, .inl (rf 0))) := k8 _ _ _ g10_rw9_0 (by simp; try omega)
                                have g11_rw9_2 : h11 (rw9 2) = some ((24, 2), .inl (g.2.1 1, 128, .inl (rf 2))) := k8 _ _ _ g10_rw9_2 (by simp; try omega)
                                have g11_rw9_4 : h11 (rw9 4) = some ((24, 4), .inl (g.2.1 1, 128, .inl (rf 4))) := k8 _ _ _ g10_rw9_4 (by simp; try omega)
                                have g11_ma_4 : h11 (ma 4) = some ((27, 0), .inl (g.2.1 1, 2048, .inl lf)) := k8 _ _ _ g10_ma_4 (by simp; try omega)
                                have g11_ma_6 : h11 (ma 6) = some ((29, 0), .inl (g.2.1 1, 2000, .inl nf)) := k8 _ _ _ g10_ma_6 (by simp; try omega)
                                have g11_ma_7 : h11 (ma 7) = some ((29, 1), .inl (g.2.1 1, 2000, .inl np)) := k8 _ _ _ g10_ma_7 (by simp; try omega)
                                have kk11 : z_K (fun y => y = 20 ∨ y = 35) h h11 := kk10.tr k8
                                refine W.eq (g2 := F0 m 155 ls []) rfl ?_
                                refine lv_goto (tgt := 164) hx hb d_M_putGroup_155 (by decide) ?_
                                exact loop_164 (0 + 1) O_11 h11 _ _ _ mh_11 g11_ma_2 g11_rw9_0 g11_rw9_2 g11_rw9_4 g11_ma_4 g11_ma_6 g11_ma_7 kk11 oh_11 (by rw [← eO_11, ← eO_10, ele4]; unfold preV hdO opO; rw [if_pos (show n9 = 0 by omega), if_pos (show sm = true by rw [hs2]; exact c_84), if_pos (show fKi (S.2 f) = 2 by simpa using c_146)]; simp) (by omega) hw (lv_sub hl [0, 1, 2, 3, 4, 5] rfl)
                            · -- 106: False
                              have c_106 : ¬ (((fNm (S.2 f)).length) ≤ j) := fun z => c_106 ((nI_leI (a := (fNm (S.2 f)).length) (b := j) (by omega) (by omega)).mpr z)
                              have hb9 := hBi.2 j (by omega)
                              refine lv_aload_n hx hb d_M_putGroup_109 rfl (lv_at hl 0 rfl) ?_
                              refine lv_aload_n hx hb d_M_putGroup_110 rfl (lv_at hl 0 rfl) ?_
                              refine z_get hx hb hts (z_lay i_M) hown hK hw L96_mo rfl 7 (by decide) (z_in k_778 rfl) (fun _ h9 => h9) rfl d_M_putGroup_111 ?_
                              refine lv_bipush (v := 16) hx hb d_M_putGroup_114 (by decide) ?_
                              refine lv_iload_n hx hb d_M_putGroup_116 rfl (lv_at hl 3 rfl) ?_
                              refine lv_imul hx hb d_M_putGroup_117 ?_
                              refine z_topi (y := nI (16 * f)) (pk_mul 16 f) ?_
                              refine lv_iload hx hb d_M_putGroup_118 (lv_at hl 6 rfl) ?_
                              refine lv_iadd hx hb d_M_putGroup_120 ?_
                              refine z_topi (y := nI ((16 * f) + j)) (nI_add (16 * f) j) ?_
                              refine z_iald hx hb hK hw L96_ma_4 1 rfl (vp_in_nI (by omega) (by omega)) d_M_putGroup_121 ?_
                              refine z_topi (y := lf ((16 * f) + j)) (by rw [nI_clamp (by omega)]) ?_
                              refine z_top (y := .int (nI ((fNm (S.2 f)).getD j 0))) (by rw [hri.2.2.2.2.2 j (by omega)]) ?_
                              have ln_12 : (O4 ++ ([(fNm (S.2 f)).getD j 0])).length = O4.length + ([(fNm (S.2 f)).getD j 0]).length := List.length_append
                              simp only [List.length_cons, List.length_nil] at ln_12
                              refine z_callV (n := 1) (As := [.int (nI ((fNm (S.2 f)).getD j 0))]) (rest := []) ⟨hx, hb, hml, hown, hts⟩ (m_put (O := O4) (b9 := (fNm (S.2 f)).getD j 0) l g hZ8 L96_mo oh4 (by omega) (by omega)) (z_in k_1069 rfl) (z_in k_7 rfl) (z_in k_1066 rfl) (z_in k_1068 rfl) (z_in ks_53 rfl) (by decide +kernel) ⟨by first | exact Nat.le_of_ble_eq_true rfl | (dsimp only; omega) | omega, by first | exact Nat.le_of_ble_eq_true rfl | (dsimp only; omega) | omega⟩ hK hE hw hA rfl L96_mo rfl hl.1 (Nat.le_of_ble_eq_true rfl) d_M_putGroup_122 ⟨by first | exact Nat.le_of_ble_eq_true rfl | (dsimp only; omega) | omega, by first | exact Nat.le_of_ble_eq_true rfl | (dsimp only; omega) | omega⟩ rfl (fun r9 h9 H locs hp hw => ?_)
                              obtain ⟨r8, m8, o8, k8⟩ := hp
                              subst r8
                              obtain ⟨h12, e7⟩ : ∃ x9, x9 = h9 := ⟨_, rfl⟩
                              subst e7
                              generalize eO_12 : O4 ++ ([(fNm (S.2 f)).getD j 0]) = O_12 at m8 o8 ln_12
                              have oh_12 := o8
                              have mh_12 := m8
                              have g12_ma_2 : h12 (ma 2) = some ((23, 0), .inl (g.2.1 5, 6, .inr (.inr (.inr (.inr (fun k => some (rw9 k))))))) := k8 _ _ _ L96_ma_2 (by simp; try omega)
                              have g12_rw9_0 : h12 (rw9 0) = some ((24, 0), .inl (g.2.1 1, 128, .inl (rf 0))) := k8 _ _ _ L96_rw9_0 (by simp; try omega)
                              have g12_rw9_2 : h12 (rw9 2) = some ((24, 2), .inl (g.2.1 1, 128, .inl (rf 2))) := k8 _ _ _ L96_rw9_2 (by simp; try omega)
                              have g12_rw9_4 : h12 (rw9 4) = some ((24, 4), .inl (g.2.1 1, 128, .inl (rf 4))) := k8 _ _ _ L96_rw9_4 (by simp; try omega)
                              have g12_ma_4 : h12 (ma 4) = some ((27, 0), .inl (g.2.1 1, 2048, .inl lf)) := k8 _ _ _ L96_ma_4 (by simp; try omega)
                              have g12_ma_6 : h12 (ma 6) = some ((29, 0), .inl (g.2.1 1, 2000, .inl nf)) := k8 _ _ _ L96_ma_6 (by simp; try omega)
                              have g12_ma_7 : h12 (ma 7) = some ((29, 1), .inl (g.2.1 1, 2000, .inl np)) := k8 _ _ _ L96_ma_7 (by simp; try omega)
                              have kk12 : z_K (fun y => y = 20 ∨ y = 35) h h12 := kkP.tr k8
                              refine W.eq (g2 := F0 m 125 ls []) rfl ?_
                              refine lv_iinc (v := nI (j + 1)) (lv' := [(6, .int (nI (j + 1))), (0, .ref mo), (1, .int (nI i)), (2, .int (zb s2)), (3, .int (nI f)), (4, .int (nI n9)), (5, .int (nI k))]) hx hb d_M_putGroup_125 hl (k := 6) rfl (nI_1 j) (by decide) rfl (fun ls hl => ?_)
                              refine lv_goto (tgt := 96) hx hb d_M_putGroup_128 (by decide) ?_
                              refine ih_96 (j + 1) O_12 h12 _ _ _ mh_12 g12_ma_2 g12_rw9_0 g12_rw9_2 g12_rw9_4 g12_ma_4 g12_ma_6 g12_ma_7 kk12 oh_12 (⟨by omega, by rw [← eO_12, le4.2, take_succ' (fNm (S.2 f)) (by omega)]; simp⟩) ?_ hw (lv_sub hl [1, 2, 3, 4, 5, 6, 0] rfl)
                              omega
                        exact loop_96 ((fNm (S.2 f)).length - 0 + 1) 0 O_9 h9 _ _ _ mh_9 g9_ma_2 g9_rw9_0 g9_rw9_2 g9_rw9_4 g9_ma_4 g9_ma_6 g9_ma_7 kk9 oh_9 (⟨Nat.zero_le _, by rw [eO9]; simp⟩) (by omega) hw (lv_sub hl [1, 2, 3, 4, 5, 6, 0] rfl)
                  · -- 72: False
                    refine lv_goto (tgt := 175) hx hb d_M_putGroup_75 (by decide) ?_
                    refine lv_iinc (v := nI (k + 1)) (lv' := [(5, .int (nI (k + 1))), (0, .ref mo), (1, .int (nI i)), (2, .int (zb s2)), (3, .int (nI f)), (4, .int (nI n9))]) hx hb d_M_putGroup_175 hl (k := 5) rfl (nI_1 k) (by decide) rfl (fun ls hl => ?_)
                    refine lv_goto (tgt := 44) hx hb d_M_putGroup_178 (by decide) ?_
                    refine ih_44 (k + 1) n9 s2 O2 hZ6 _ _ _ L44_mo L44_ma_2 L44_rw9_0 L44_rw9_2 L44_rw9_4 L44_ma_4 L44_ma_6 L44_ma_7 kkM oh2 (⟨by omega, by omega, by rw [gT_no (by unfold isCh; rw [decide_eq_false (show ¬ ndFi (R.2 k) = nI f from c_72), Bool.and_false])]; exact le2.2.2.1, by rw [gT_no (by unfold isCh; rw [decide_eq_false (show ¬ ndFi (R.2 k) = nI f from c_72), Bool.and_false])]; exact le2.2.2.2.1, le2.2.2.2.2⟩) ?_ hw (lv_sub hl [1, 2, 3, 4, 5, 0] rfl)
                    omega
          exact loop_44 (R.1 - 1 + 1) 1 0 sm O1 hZ5 _ _ _ L10_mo L10_ma_2 L10_rw9_0 L10_rw9_2 L10_rw9_4 L10_ma_4 L10_ma_6 L10_ma_7 kkL oh1 (⟨by omega, by omega, by rw [gT_one hpa (by omega), le1.2.1]; simp, by rw [gT_one hpa (by omega)], by simp⟩) (by omega) hw (lv_sub hl [2, 3, 4, 5, 1, 0] rfl)
        · -- 32: False
          refine lv_goto (tgt := 204) hx hb d_M_putGroup_35 (by decide) ?_
          refine lv_iinc (v := nI (f + 1)) (lv' := [(3, .int (nI (f + 1))), (0, .ref mo), (1, .int (nI i)), (2, .int (zb sm))]) hx hb d_M_putGroup_204 hl (k := 3) rfl (nI_1 f) (by decide) rfl (fun ls hl => ?_)
          refine lv_goto (tgt := 10) hx hb d_M_putGroup_207 (by decide) ?_
          refine ih_10 (f + 1) sm O1 hZ5 _ _ _ L10_mo L10_ma_2 L10_rw9_0 L10_rw9_2 L10_rw9_4 L10_ma_4 L10_ma_6 L10_ma_7 kkL oh1 (⟨by omega, by rw [gF_no (show ¬ fGr (S.2 f) = ndFi (R.2 i) from c_32)]; exact le1.2.1, by rw [gF_no (show ¬ fGr (S.2 f) = ndFi (R.2 i) from c_32)]; exact le1.2.2⟩) ?_ hw (lv_sub hl [1, 2, 3, 0] rfl)
          omega
  exact loop_10 (S.1 - 0 + 1) 0 false O_1 h1 _ _ _ mh_1 g1_ma_2 g1_rw9_0 g1_rw9_2 g1_rw9_4 g1_ma_4 g1_ma_6 g1_ma_7 kk1 oh_1 (⟨Nat.zero_le _, by rw [← eO_1]; simp [gF], rfl⟩) (by omega) hw (lv_sub hl [2, 3, 1, 0] rfl)

def hasC (N : Nat → Nod) (i f : Nat) : Nat → Bool
  | 0 => false
  | j + 1 => hasC N i f j || (decide (ndPa (N j) = nI i) && decide (ndFi (N j) = nI f))
def rqF (S : Sch) (R : Rec) (i f : Nat) : Bool := decide (fGr (S.2 f) = ndFi (R.2 i)) && decide (fKi (S.2 f) = 0)
def aF (S : Sch) (R : Rec) (i : Nat) : Nat → Bool
  | 0 => true
  | f + 1 => aF S R i f && (!rqF S R i f || hasC R.2 i f R.1)
def isG (S : Sch) (R : Rec) (i : Nat) : Bool := decide (i = 0) || decide (fTy (S.2 (ndFi (R.2 i)).toNatClampNeg) = 4)
def aN (S : Sch) (R : Rec) : Nat → Bool
  | 0 => true
  | i + 1 => aN S R i && (!isG S R i || aF S R i S.1)
def whM (S : Sch) (R : Rec) : Bool := decide (0 < S.1) && aN S R R.1
/-- a node's field is of the group of its parent -/
def gpOK (S : Sch) (R : Rec) : Prop := ∀ k, 0 < k → k < R.1 → ∀ j, j < k → ndPa (R.2 k) = nI j → fGr (S.2 (ndFi (R.2 k)).toNatClampNeg) = ndFi (R.2 j)
/-- what a field is in, is a group -/
def gtOK (S : Sch) : Prop := ∀ i j, i < S.1 → j < S.1 → fGr (S.2 i) = nI j → fTy (S.2 j) = 4
def cF (S : Sch) (R : Rec) (i n : Nat) : Nat → Nat
  | 0 => 0
  | f + 1 => cF S R i n f + (if (rqF S R i f && hasC R.2 i f n) = true then 1 else 0)
theorem cF_same {S : Sch} {R : Rec} {i n m : Nat} : ∀ j, (∀ f, f < j → (rqF S R i f && hasC R.2 i f n) = (rqF S R i f && hasC R.2 i f m)) → cF S R i n j = cF S R i m j := by
  intro j
  induction j with
  | zero => intro _; rfl
  | succ j ih => intro h; simp only [cF]; rw [ih (fun f hf => h f (by omega)), h j (by omega)]
theorem cF_one {S : Sch} {R : Rec} {i n m f0 : Nat} (h1 : (rqF S R i f0 && hasC R.2 i f0 n) = false) (h2 : (rqF S R i f0 && hasC R.2 i f0 m) = true) (h3 : ∀ f, ¬ f = f0 → (rqF S R i f && hasC R.2 i f n) = (rqF S R i f && hasC R.2 i f m)) : ∀ j, f0 < j → cF S R i m j = cF S R i n j + 1 := by
  intro j
  induction j with
  | zero => intro h; omega
  | succ j ih =>
    intro h
    simp only [cF]
    by_cases e : f0 = j
    · subst e
      rw [h1, h2, if_pos rfl, if_neg (by decide), cF_same f0 (fun f hf => (h3 f (by omega)).symm)]
    · rw [ih (by omega), h3 j (fun z => e z.symm)]
      omega
theorem cF_rt {S : Sch} {R : Rec} (hs : S.1 ≤ 128) (hR : R.1 ≤ 2000) (hp : paOK R) (hf : fiO2 S R) (ho : ordOK S R) (hg : gpOK S R) {i : Nat} (hi : i < R.1) : ∀ n, n ≤ R.1 → cF S R i n S.1 = rtC S R.2 (nI i) n := by
  intro n
  induction n with
  | zero =>
    intro _
    have h0 : ∀ j, cF S R i 0 j = 0 := by
      intro j
      induction j with
      | zero => rfl
      | succ j ih => simp only [cF, ih, hasC, Bool.and_false]; rfl
    exact h0 _
  | succ n ih =>
    intro hn
    have ih := ih (by omega)
    show _ = rtC S R.2 (nI i) n + (if ndPa (R.2 n) = nI i ∧ fKi (S.2 (ndFi (R.2 n)).toNatClampNeg) = 0 then 1 else 0)
    rw [← ih]
    by_cases hc : ndPa (R.2 n) = nI i
    · have h0 : 0 < n := by
        apply Classical.byContradiction
        intro z
        rw [show n = 0 by omega, hp.1] at hc
        exact nI_ne1 (by omega) hc.symm
      obtain ⟨f0, hf0, e0⟩ := hf n h0 (by omega)
      have hin : i < n := by
        obtain ⟨j, hj, e⟩ := hp.2 n h0 (by omega)
        have := (nI_eq (a := j) (b := i) (by omega) (by omega)).mp (e.symm.trans hc)
        omega
      have hgr := hg n h0 (by omega) i hin hc
      rw [e0, nI_clamp (by omega)] at hgr
      have hoth : ∀ f, f < S.1 → ¬ f = f0 → (rqF S R i f && hasC R.2 i f n) = (rqF S R i f && hasC R.2 i f (n + 1)) := by
        intro f hfs hne
        show _ = (rqF S R i f && (hasC R.2 i f n || (decide (ndPa (R.2 n) = nI i) && decide (ndFi (R.2 n) = nI f))))
        rw [e0, decide_eq_false (fun z => hne ((nI_eq (a := f0) (b := f) (by omega) (by omega)).mp z).symm), Bool.and_false, Bool.or_false]
      rw [e0, nI_clamp (by omega)]
      by_cases hk : fKi (S.2 f0) = 0
      · rw [if_pos ⟨hc, hk⟩]
        have hr : rqF S R i f0 = true := by unfold rqF; rw [decide_eq_true hgr, decide_eq_true hk]; rfl
        have hno : hasC R.2 i f0 n = false := by
          have : ∀ m, m ≤ n → hasC R.2 i f0 m = false := by
            intro m
            induction m with
            | zero => intro _; rfl
            | succ m ih2 =>
              intro hm
              show (hasC R.2 i f0 m || (decide (ndPa (R.2 m) = nI i) && decide (ndFi (R.2 m) = nI f0))) = false
              rw [ih2 (by omega), Bool.false_or, Bool.and_eq_false_iff]
              by_cases hc2 : ndPa (R.2 m) = nI i
              · right
                rw [decide_eq_false_iff_not]
                intro z
                have hm0 : 0 < m := by
                  apply Classical.byContradiction
                  intro z2
                  rw [show m = 0 by omega, hp.1] at hc2
                  exact nI_ne1 (by omega) hc2.symm
                rcases ho m n hm0 (by omega) (by omega) (hc2.trans hc.symm) with y | ⟨y, y2⟩
                · rw [z, e0, Int32.lt_iff_toInt_lt] at y; omega
                · rw [e0, nI_clamp (by omega), hk] at y2; exact absurd y2 (by decide)
              · left; exact decide_eq_false hc2
          exact this n (Nat.le_refl _)
        have hyes : hasC R.2 i f0 (n + 1) = true := by
          show (hasC R.2 i f0 n || (decide (ndPa (R.2 n) = nI i) && decide (ndFi (R.2 n) = nI f0))) = true
          rw [decide_eq_true hc, decide_eq_true e0]; simp
        have hlem : ∀ j, j ≤ S.1 → f0 < j → cF S R i (n + 1) j = cF S R i n j + 1 := by
          intro j
          induction j with
          | zero => intro _ h; omega
          | succ j ih3 =>
            intro hj h
            simp only [cF]
            by_cases e : f0 = j
            · subst e
              rw [hr, hno, hyes, cF_same f0 (fun f hf => (hoth f (by omega) (by omega)).symm)]
              rfl
            · rw [ih3 (by omega) (by omega), hoth j (by omega) (fun z => e z.symm)]
              omega
        exact hlem S.1 (Nat.le_refl _) hf0
      · rw [if_neg (fun z => hk z.2), Nat.add_zero]
        refine cF_same S.1 (fun f hfs => ?_)
        by_cases e : f = f0
        · subst e
          have hr : rqF S R i f = false := by unfold rqF; rw [decide_eq_false hk, Bool.and_false]
          rw [hr, Bool.false_and, Bool.false_and]
        · exact (hoth f hfs e).symm
    · rw [if_neg (fun z => hc z.1), Nat.add_zero]
      refine cF_same S.1 (fun f _ => ?_)
      show (rqF S R i f && (hasC R.2 i f n || (decide (ndPa (R.2 n) = nI i) && decide (ndFi (R.2 n) = nI f)))) = _
      rw [decide_eq_false hc, Bool.false_and, Bool.or_false]
theorem aF_cnt {S : Sch} {R : Rec} {i : Nat} : ∀ j, (cF S R i R.1 j = rqC S.2 (ndFi (R.2 i)) j ∧ aF S R i j = true) ∨ (cF S R i R.1 j < rqC S.2 (ndFi (R.2 i)) j ∧ aF S R i j = false) := by
  intro j
  induction j with
  | zero => exact Or.inl ⟨rfl, rfl⟩
  | succ j ih =>
    have hq : rqC S.2 (ndFi (R.2 i)) (j + 1) = rqC S.2 (ndFi (R.2 i)) j + (if rqF S R i j = true then 1 else 0) := by
      show _ + (if fKi (S.2 j) = 0 ∧ fGr (S.2 j) = ndFi (R.2 i) then 1 else 0) = _
      congr 1
      unfold rqF
      simp only [Bool.and_eq_true, decide_eq_true_eq]
      by_cases z : fKi (S.2 j) = 0 ∧ fGr (S.2 j) = ndFi (R.2 i)
      · rw [if_pos z, if_pos ⟨z.2, z.1⟩]
      · rw [if_neg z, if_neg (fun y => z ⟨y.2, y.1⟩)]
    rw [hq]
    simp only [cF, aF]
    cases hr : rqF S R i j <;> cases hh : hasC R.2 i j R.1 <;> rcases ih with ⟨a, b⟩ | ⟨a, b⟩ <;> rw [b] <;> simp <;> omega
theorem lk_one {S : Sch} {R : Rec} (hs : S.1 ≤ 128) (hR : R.1 ≤ 2000) (hp : paOK R) (hf : fiO2 S R) (ho : ordOK S R) (hg : gpOK S R) (hgt : gtOK S) {i : Nat} (hi : i < R.1) : (!isG S R i || aF S R i S.1) = !decide (rtC S R.2 (nI i) R.1 < rq S (ndFi (R.2 i))) := by
  have h1 := cF_rt hs hR hp hf ho hg hi R.1 (Nat.le_refl _)
  have h2 := aF_cnt (S := S) (R := R) (i := i) S.1
  unfold rq
  rw [← h1]
  cases hG : isG S R i with
  | true =>
    rcases h2 with ⟨a, b⟩ | ⟨a, b⟩
    · rw [b, decide_eq_false (by omega)]; rfl
    · rw [b, decide_eq_true a]; rfl
  | false =>
    unfold isG at hG
    rw [Bool.or_eq_false_iff, decide_eq_false_iff_not, decide_eq_false_iff_not] at hG
    obtain ⟨f8, hf8, e8⟩ := hf i (by omega) hi
    rw [e8, nI_clamp (by omega)] at hG
    have h0 : ∀ j, j ≤ S.1 → rqC S.2 (nI f8) j = 0 := by
      intro j
      induction j with
      | zero => intro _; rfl
      | succ j ih =>
        intro hj
        simp only [rqC]
        rw [ih (by omega), if_neg (fun z => hG.2 (hgt j f8 (by omega) hf8 z.2))]
    rw [e8, h0 S.1 (Nat.le_refl _), decide_eq_false (by omega)]
    rfl
theorem whM_is {S : Sch} {R : Rec} (hs : S.1 ≤ 128) (hR : R.1 ≤ 2000) (hp : paOK R) (hf : fiO2 S R) (ho : ordOK S R) (hg : gpOK S R) (hgt : gtOK S) : whM S R = oIsWhole S R := by
  unfold whM oIsWhole lkA
  congr 1
  have h : ∀ r i, i + r = R.1 → (aN S R i && lkN S R r i) = (aN S R R.1 && true) := by
    intro r
    induction r with
    | zero => intro i e; rw [show i = R.1 by omega]; rfl
    | succ r ih =>
      intro i e
      rw [← ih (i + 1) (by omega)]
      have h1 := lk_one hs hR hp hf ho hg hgt (show i < R.1 by omega)
      show (aN S R i && (if rtC S R.2 (nI i) R.1 < rq S (ndFi (R.2 i)) then false else lkN S R r (i + 1))) = ((aN S R i && (!isG S R i || aF S R i S.1)) && lkN S R r (i + 1))
      rw [h1]
      by_cases z : rtC S R.2 (nI i) R.1 < rq S (ndFi (R.2 i))
      · rw [if_pos z, decide_eq_true z]; simp
      · rw [if_neg z, decide_eq_false z]; simp
  have := h (R.1 - 0) 0 (by omega)
  rw [Bool.and_true] at this
  rw [← this]
  rfl

set_option maxHeartbeats 2000000 in
set_option maxRecDepth 100000 in
theorem m_whole (l : Launch) (g : z_G) (h : z_H) {mo : Nat} {ma : Nat → Nat} {cod tpd cls9 ffl fcl sai ous il : Int32} {siz at9 : Int32} {S : Sch} {R : Rec} {rw9 : Nat → Nat} {rf : Nat → Nat → Int32} {lf : Nat → Int32} {nf np nr ns : Nat → Int32} {nv : Nat → Int64} {tx : Nat → Int32} (hmo : h mo = some ((20, 0), .inr (11, mF ma cod tpd siz (nI S.1) cls9 ffl fcl (nI R.1) sai ous at9 il))) (hSc : MSp g h (ma 2) (ma 4) 23 27 S rw9 rf lf) (hNd : MNp g h ma R nf np nr ns nv tx) (hs8 : S.1 ≤ 128) (hR2 : R.1 ≤ 2000) (hR1 : 0 < R.1) (hpa : paOK R) (hfo : fiO2 S R) : z_C l y_M_whole prog_13_method_46_code 6 (Option.some Jvm.ClassFile.FieldType.boolean) 0 0 0 0 g [.ref mo] h (fun x h1 => x = some (.int (zb (whM S R))) ∧ h = h1) := by
  refine z_C.of (by decide) (Nat.le_of_ble_eq_true rfl) (fun pg en s m below meth cd A ls hx hb hml hr hts hown hlocks hnm hK hE hA hw hl => ?_)
  have hl : lv_has ls 6 [(0, .ref mo)] := hl
  have hrw_0 : h (rw9 0) = some ((24, 0), .inl (g.2.1 1, 128, .inl (rf 0))) := hSc.2.1 0 (by omega)
  have hrw_1 : h (rw9 1) = some ((24, 1), .inl (g.2.1 1, 128, .inl (rf 1))) := hSc.2.1 1 (by omega)
  have hrw_2 : h (rw9 2) = some ((24, 2), .inl (g.2.1 1, 128, .inl (rf 2))) := hSc.2.1 2 (by omega)
  have loop_15 : ∀ (fuel : Nat) (i : Nat) (is0 : Bool) (H : Heap) (locs : List Loc) (ls : Array Slot)  (hi9 : i ≤ R.1) (hi1 : is0 = (decide (0 < S.1) && aN S R i)), (R.1 - i) < fuel → z_S g A s.heap h H locs → lv_has ls 6 [(0, .ref mo), (1, .int (zb is0)), (2, .int (nI i))] → W pg l en { frames := 0, cells := 0, slots := 0, locals := 0 } s m [.ref mo].toArray below meth cd H locs 0 0 (MQ below (z_Q g A (fun x h1 => x = some (.int (zb (whM S R))) ∧ h = h1)) [.ref mo].toArray s 0 0 A) (F0 m 15 ls []) := by
    intro fuel
    induction fuel with
    | zero => intro i is0 H locs ls hi9 hi1 hm; exact absurd hm (Nat.not_lt_zero _)
    | succ fuel ih_15 =>
      intro i is0 H locs ls hi9 hi1 hm hw hl
      refine lv_iload_n hx hb d_M_whole_15 rfl (lv_at hl 2 rfl) ?_
      refine lv_aload_n hx hb d_M_whole_16 rfl (lv_at hl 0 rfl) ?_
      refine z_get hx hb hts (z_lay i_M) hown hK hw hmo rfl 18 (by decide) (z_in k_789 rfl) (fun _ h9 => h9) rfl d_M_whole_17 ?_
      refine lv_icmp_ge (tgt := 170) hx hb d_M_whole_20 (by decide) (fun c_20 => ?_) (fun c_20 => ?_)
      · -- 20: True
        have c_20 : R.1 ≤ i := (nI_leI (a := R.1) (b := i) (by omega) (by omega)).mp c_20
        refine lv_iload_n hx hb d_M_whole_170 rfl (lv_at hl 1 rfl) ?_
        exact z_zret hx hb hr (zb_n _) hlocks hw (by refine ⟨congrArg some (congrArg Value.int ?_), rfl⟩; unfold whM; rw [hi1, show i = R.1 by omega]) (by decide) (by decide) d_M_whole_171
      · -- 20: False
        have c_20 : ¬ (R.1 ≤ i) := fun z => c_20 ((nI_leI (a := R.1) (b := i) (by omega) (by omega)).mpr z)
        refine lv_iload_n hx hb d_M_whole_23 rfl (lv_at hl 2 rfl) ?_
        refine lv_if_le (tgt := 47) hx hb d_M_whole_24 (by decide) (fun c_24 => ?_) (fun c_24 => ?_)
        · -- 24: True
          have c_24 : i ≤ 0 := (nI_leI (a := i) (b := 0) (by omega) (by omega)).mp c_24
          refine lv_iconst (v := 0) hx hb d_M_whole_47 (by decide) ?_
          refine lv_istore_n (lv' := [(3, .int 0), (0, .ref mo), (1, .int (zb is0)), (2, .int (nI i))]) hx hb d_M_whole_48 rfl hl (by decide) rfl (fun ls hl => ?_)
          have loop_49 : ∀ (fuel : Nat) (f : Nat) (is1 : Bool) (H : Heap) (locs : List Loc) (ls : Array Slot)  (hf9 : f ≤ S.1) (hf1 : is1 = (is0 && aF S R i f)), (S.1 - f) < fuel → z_S g A s.heap h H locs → lv_has ls 6 [(0, .ref mo), (1, .int (zb is1)), (2, .int (nI i)), (3, .int (nI f))] → W pg l en { frames := 0, cells := 0, slots := 0, locals := 0 } s m [.ref mo].toArray below meth cd H locs 0 0 (MQ below (z_Q g A (fun x h1 => x = some (.int (zb (whM S R))) ∧ h = h1)) [.ref mo].toArray s 0 0 A) (F0 m 49 ls []) := by
            intro fuel
            induction fuel with
            | zero => intro f is1 H locs ls hf9 hf1 hm; exact absurd hm (Nat.not_lt_zero _)
            | succ fuel ih_49 =>
              intro f is1 H locs ls hf9 hf1 hm hw hl
              refine lv_iload_n hx hb d_M_whole_49 rfl (lv_at hl 3 rfl) ?_
              refine lv_aload_n hx hb d_M_whole_50 rfl (lv_at hl 0 rfl) ?_
              refine z_get hx hb hts (z_lay i_M) hown hK hw hmo rfl 9 (by decide) (z_in k_780 rfl) (fun _ h9 => h9) rfl d_M_whole_51 ?_
              refine lv_icmp_ge (tgt := 164) hx hb d_M_whole_54 (by decide) (fun c_54 => ?_) (fun c_54 => ?_)
              · -- 54: True
                have c_54 : S.1 ≤ f := (nI_leI (a := S.1) (b := f) (by omega) (by omega)).mp c_54
                refine lv_iinc (v := nI (i + 1)) (lv' := [(2, .int (nI (i + 1))), (0, .ref mo), (1, .int (zb is1)), (3, .int (nI f))]) hx hb d_M_whole_164 hl (k := 2) rfl (nI_1 i) (by decide) rfl (fun ls hl => ?_)
                refine lv_goto (tgt := 15) hx hb d_M_whole_167 (by decide) ?_
                refine ih_15 (i + 1) is1 _ _ _ (by omega) (by simp only [aN]; rw [← Bool.and_assoc, ← hi1, show isG S R i = true by unfold isG; rw [decide_eq_true (show i = 0 by omega)]; simp]; rw [hf1, show f = S.1 by omega]; rfl) ?_ hw (lv_sub hl [1, 2, 0] rfl)
                omega
              · -- 54: False
                have c_54 : ¬ (S.1 ≤ f) := fun z => c_54 ((nI_leI (a := S.1) (b := f) (by omega) (by omega)).mpr z)
                refine lv_aload_n hx hb d_M_whole_57 rfl (lv_at hl 0 rfl) ?_
                refine z_get hx hb hts (z_lay i_M) hown hK hw hmo rfl 5 (by decide) (z_in k_776 rfl) (fun _ h9 => h9) rfl d_M_whole_58 ?_
                refine lv_iconst (v := 2) hx hb d_M_whole_61 (by decide) ?_
                refine z_aldr hx hb hK hw hSc.1 5 rfl (by unfold vp_in; decide) d_M_whole_62 ?_
                refine z_top (y := va_rf ((fun k => some (rw9 k)) 2)) (by rfl) ?_
                refine z_top (y := .ref (rw9 2)) (rfl) ?_
                refine lv_iload_n hx hb d_M_whole_63 rfl (lv_at hl 3 rfl) ?_
                refine z_iald hx hb hK hw hrw_2 1 rfl (vp_in_nI (by omega) (by omega)) d_M_whole_64 ?_
                refine z_topi (y := (rf 2) f) (by rw [nI_clamp (by omega)]) ?_
                refine z_top (y := .int (fGr (S.2 f))) (by rw [(hSc.2.2.2 f (by omega)).2.2.1]) ?_
                refine lv_aload_n hx hb d_M_whole_65 rfl (lv_at hl 0 rfl) ?_
                refine z_get hx hb hts (z_lay i_M) hown hK hw hmo rfl 13 (by decide) (z_in k_784 rfl) (fun _ h9 => h9) rfl d_M_whole_66 ?_
                refine lv_iload_n hx hb d_M_whole_69 rfl (lv_at hl 2 rfl) ?_
                refine z_iald hx hb hK hw hNd.1 1 rfl (vp_in_nI (by omega) (by omega)) d_M_whole_70 ?_
                refine z_topi (y := nf i) (by rw [nI_clamp (by omega)]) ?_
                refine z_top (y := .int (ndFi (R.2 i))) (by rw [(hNd.2.2.2.2.2.2 i (by omega)).1]) ?_
                refine lv_icmp_ne (tgt := 158) hx hb d_M_whole_71 (by decide) (fun c_71 => ?_) (fun c_71 => ?_)
                · -- 71: True
                  refine lv_iinc (v := nI (f + 1)) (lv' := [(3, .int (nI (f + 1))), (0, .ref mo), (1, .int (zb is1)), (2, .int (nI i))]) hx hb d_M_whole_158 hl (k := 3) rfl (nI_1 f) (by decide) rfl (fun ls hl => ?_)
                  refine lv_goto (tgt := 49) hx hb d_M_whole_161 (by decide) ?_
                  refine ih_49 (f + 1) is1 _ _ _ (by omega) (by simp only [aF]; rw [← Bool.and_assoc, ← hf1, show rqF S R i f = false by unfold rqF; rw [decide_eq_false (show ¬ fGr (S.2 f) = ndFi (R.2 i) from c_71)]; rfl]; simp) ?_ hw (lv_sub hl [1, 2, 3, 0] rfl)
                  omega
                · -- 71: False
                  refine lv_aload_n hx hb d_M_whole_74 rfl (lv_at hl 0 rfl) ?_
                  refine z_get hx hb hts (z_lay i_M) hown hK hw hmo rfl 5 (by decide) (z_in k_776 rfl) (fun _ h9 => h9) rfl d_M_whole_75 ?_
                  refine lv_iconst (v := 0) hx hb d_M_whole_78 (by decide) ?_
                  refine z_aldr hx hb hK hw hSc.1 5 rfl (by unfold vp_in; decide) d_M_whole_79 ?_
                  refine z_top (y := va_rf ((fun k => some (rw9 k)) 0)) (by rfl) ?_
                  refine z_top (y := .ref (rw9 0)) (rfl) ?_
                  refine lv_iload_n hx hb d_M_whole_80 rfl (lv_at hl 3 rfl) ?_
                  refine z_iald hx hb hK hw hrw_0 1 rfl (vp_in_nI (by omega) (by omega)) d_M_whole_81 ?_
                  refine z_topi (y := (rf 0) f) (by rw [nI_clamp (by omega)]) ?_
                  refine z_top (y := .int (fKi (S.2 f))) (by rw [(hSc.2.2.2 f (by omega)).1]) ?_
                  refine lv_if_eq (tgt := 88) hx hb d_M_whole_82 (by decide) (fun c_82 => ?_) (fun c_82 => ?_)
                  · -- 82: True
                    refine lv_iconst (v := 0) hx hb d_M_whole_88 (by decide) ?_
                    refine lv_istore (lv' := [(4, .int 0), (0, .ref mo), (1, .int (zb is1)), (2, .int (nI i)), (3, .int (nI f))]) hx hb d_M_whole_89 hl (by decide) rfl (fun ls hl => ?_)
                    refine lv_iconst (v := 1) hx hb d_M_whole_91 (by decide) ?_
                    refine lv_istore (lv' := [(5, .int 1), (4, .int 0), (0, .ref mo), (1, .int (zb is1)), (2, .int (nI i)), (3, .int (nI f))]) hx hb d_M_whole_92 hl (by decide) rfl (fun ls hl => ?_)
                    have loop_94 : ∀ (fuel : Nat) (k : Nat) (ha : Bool) (H : Heap) (locs : List Loc) (ls : Array Slot)  (hk9 : k ≤ R.1) (hha : ha = hasC R.2 i f k), (R.1 - k) < fuel → z_S g A s.heap h H locs → lv_has ls 6 [(0, .ref mo), (1, .int (zb is1)), (2, .int (nI i)), (3, .int (nI f)), (4, .int (zb ha)), (5, .int (nI k))] → W pg l en { frames := 0, cells := 0, slots := 0, locals := 0 } s m [.ref mo].toArray below meth cd H locs 0 0 (MQ below (z_Q g A (fun x h1 => x = some (.int (zb (whM S R))) ∧ h = h1)) [.ref mo].toArray s 0 0 A) (F0 m 94 ls []) := by
                      intro fuel
                      induction fuel with
                      | zero => intro k ha H locs ls hk9 hha hm; exact absurd hm (Nat.not_lt_zero _)
                      | succ fuel ih_94 =>
                        intro k ha H locs ls hk9 hha hm hw hl
                        refine lv_iload hx hb d_M_whole_94 (lv_at hl 5 rfl) ?_
                        refine lv_aload_n hx hb d_M_whole_96 rfl (lv_at hl 0 rfl) ?_
                        refine z_get hx hb hts (z_lay i_M) hown hK hw hmo rfl 18 (by decide) (z_in k_789 rfl) (fun _ h9 => h9) rfl d_M_whole_97 ?_
                        refine lv_icmp_ge (tgt := 143) hx hb d_M_whole_100 (by decide) (fun c_100 => ?_) (fun c_100 => ?_)
                        · -- 100: True
                          have c_100 : R.1 ≤ k := (nI_leI (a := R.1) (b := k) (by omega) (by omega)).mp c_100
                          have ehk : ha = hasC R.2 i f R.1 := by rw [hha, show k = R.1 by omega]
                          refine lv_iload_n hx hb d_M_whole_143 rfl (lv_at hl 1 rfl) ?_
                          refine lv_if_eq (tgt := 156) hx hb d_M_whole_144 (by decide) (fun c_144 => ?_) (fun c_144 => ?_)
                          · -- 144: True
                            have c_144 : is1 = false := zb_f c_144
                            refine lv_iconst (v := 0) hx hb d_M_whole_156 (by decide) ?_
                            refine lv_istore_n (lv' := [(1, .int 0), (0, .ref mo), (2, .int (nI i)), (3, .int (nI f)), (4, .int (zb ha)), (5, .int (nI k))]) hx hb d_M_whole_157 rfl hl (by decide) rfl (fun ls hl => ?_)
                            refine lv_iinc (v := nI (f + 1)) (lv' := [(3, .int (nI (f + 1))), (1, .int 0), (0, .ref mo), (2, .int (nI i)), (4, .int (zb ha)), (5, .int (nI k))]) hx hb d_M_whole_158 hl (k := 3) rfl (nI_1 f) (by decide) rfl (fun ls hl => ?_)
                            refine lv_goto (tgt := 49) hx hb d_M_whole_161 (by decide) ?_
                            refine ih_49 (f + 1) false _ _ _ (by omega) (by simp only [aF]; rw [← Bool.and_assoc, ← hf1, show rqF S R i f = true by unfold rqF; rw [decide_eq_true (show fGr (S.2 f) = ndFi (R.2 i) by simpa using c_71), decide_eq_true (show fKi (S.2 f) = 0 from c_82)]; rfl, ← ehk, c_144]; rfl) ?_ hw (lv_sub hl [2, 1, 3, 0] rfl)
                            omega
                          · -- 144: False
                            have c_144 : is1 = true := zb_t c_144
                            refine lv_iload hx hb d_M_whole_147 (lv_at hl 4 rfl) ?_
                            refine lv_if_eq (tgt := 156) hx hb d_M_whole_149 (by decide) (fun c_149 => ?_) (fun c_149 => ?_)
                            · -- 149: True
                              have c_149 : ha = false := zb_f c_149
                              refine lv_iconst (v := 0) hx hb d_M_whole_156 (by decide) ?_
                              refine lv_istore_n (lv' := [(1, .int 0), (0, .ref mo), (2, .int (nI i)), (3, .int (nI f)), (4, .int (zb ha)), (5, .int (nI k))]) hx hb d_M_whole_157 rfl hl (by decide) rfl (fun ls hl => ?_)
                              refine lv_iinc (v := nI (f + 1)) (lv' := [(3, .int (nI (f + 1))), (1, .int 0), (0, .ref mo), (2, .int (nI i)), (4, .int (zb ha)), (5, .int (nI k))]) hx hb d_M_whole_158 hl (k := 3) rfl (nI_1 f) (by decide) rfl (fun ls hl => ?_)
                              refine lv_goto (tgt := 49) hx hb d_M_whole_161 (by decide) ?_
                              refine ih_49 (f + 1) false _ _ _ (by omega) (by simp only [aF]; rw [← Bool.and_assoc, ← hf1, show rqF S R i f = true by unfold rqF; rw [decide_eq_true (show fGr (S.2 f) = ndFi (R.2 i) by simpa using c_71), decide_eq_true (show fKi (S.2 f) = 0 from c_82)]; rfl, ← ehk, c_144, c_149]; rfl) ?_ hw (lv_sub hl [2, 1, 3, 0] rfl)
                              omega
                            · -- 149: False
                              have c_149 : ha = true := zb_t c_149
                              refine lv_iconst (v := 1) hx hb d_M_whole_152 (by decide) ?_
                              refine lv_goto (tgt := 157) hx hb d_M_whole_153 (by decide) ?_
                              refine lv_istore_n (lv' := [(1, .int 1), (0, .ref mo), (2, .int (nI i)), (3, .int (nI f)), (4, .int (zb ha)), (5, .int (nI k))]) hx hb d_M_whole_157 rfl hl (by decide) rfl (fun ls hl => ?_)
                              refine lv_iinc (v := nI (f + 1)) (lv' := [(3, .int (nI (f + 1))), (1, .int 1), (0, .ref mo), (2, .int (nI i)), (4, .int (zb ha)), (5, .int (nI k))]) hx hb d_M_whole_158 hl (k := 3) rfl (nI_1 f) (by decide) rfl (fun ls hl => ?_)
                              refine lv_goto (tgt := 49) hx hb d_M_whole_161 (by decide) ?_
                              refine ih_49 (f + 1) true _ _ _ (by omega) (by simp only [aF]; rw [← Bool.and_assoc, ← hf1, show rqF S R i f = true by unfold rqF; rw [decide_eq_true (show fGr (S.2 f) = ndFi (R.2 i) by simpa using c_71), decide_eq_true (show fKi (S.2 f) = 0 from c_82)]; rfl, ← ehk, c_144, c_149]; rfl) ?_ hw (lv_sub hl [2, 1, 3, 0] rfl)
                              omega
                        · -- 100: False
                          have c_100 : ¬ (R.1 ≤ k) := fun z => c_100 ((nI_leI (a := R.1) (b := k) (by omega) (by omega)).mpr z)
                          refine lv_iload hx hb d_M_whole_103 (lv_at hl 4 rfl) ?_
                          refine lv_if_ne (tgt := 130) hx hb d_M_whole_105 (by decide) (fun c_105 => ?_) (fun c_105 => ?_)
                          · -- 105: True
                            have c_105 : ha = true := zb_t c_105
                            refine lv_iconst (v := 1) hx hb d_M_whole_130 (by decide) ?_
                            refine lv_goto (tgt := 135) hx hb d_M_whole_131 (by decide) ?_
                            refine lv_istore (lv' := [(4, .int 1), (0, .ref mo), (1, .int (zb is1)), (2, .int (nI i)), (3, .int (nI f)), (5, .int (nI k))]) hx hb d_M_whole_135 hl (by decide) rfl (fun ls hl => ?_)
                            refine lv_iinc (v := nI (k + 1)) (lv' := [(5, .int (nI (k + 1))), (4, .int 1), (0, .ref mo), (1, .int (zb is1)), (2, .int (nI i)), (3, .int (nI f))]) hx hb d_M_whole_137 hl (k := 5) rfl (nI_1 k) (by decide) rfl (fun ls hl => ?_)
                            refine lv_goto (tgt := 94) hx hb d_M_whole_140 (by decide) ?_
                            refine ih_94 (k + 1) true _ _ _ (by omega) (by simp only [hasC]; rw [← hha, c_105, Bool.true_or]; first | done | rfl) ?_ hw (lv_sub hl [2, 3, 4, 5, 1, 0] rfl)
                            omega
                          · -- 105: False
                            have c_105 : ha = false := zb_f c_105
                            refine lv_aload_n hx hb d_M_whole_108 rfl (lv_at hl 0 rfl) ?_
                            refine z_get hx hb hts (z_lay i_M) hown hK hw hmo rfl 14 (by decide) (z_in k_785 rfl) (fun _ h9 => h9) rfl d_M_whole_109 ?_
                            refine lv_iload hx hb d_M_whole_112 (lv_at hl 5 rfl) ?_
                            refine z_iald hx hb hK hw hNd.2.1 1 rfl (vp_in_nI (by omega) (by omega)) d_M_whole_114 ?_
                            refine z_topi (y := np k) (by rw [nI_clamp (by omega)]) ?_
                            refine z_top (y := .int (ndPa (R.2 k))) (by rw [(hNd.2.2.2.2.2.2 k (by omega)).2.1]) ?_
                            refine lv_iload_n hx hb d_M_whole_115 rfl (lv_at hl 2 rfl) ?_
                            refine lv_icmp_ne (tgt := 134) hx hb d_M_whole_116 (by decide) (fun c_116 => ?_) (fun c_116 => ?_)
                            · -- 116: True
                              refine lv_iconst (v := 0) hx hb d_M_whole_134 (by decide) ?_
                              refine lv_istore (lv' := [(4, .int 0), (0, .ref mo), (1, .int (zb is1)), (2, .int (nI i)), (3, .int (nI f)), (5, .int (nI k))]) hx hb d_M_whole_135 hl (by decide) rfl (fun ls hl => ?_)
                              refine lv_iinc (v := nI (k + 1)) (lv' := [(5, .int (nI (k + 1))), (4, .int 0), (0, .ref mo), (1, .int (zb is1)), (2, .int (nI i)), (3, .int (nI f))]) hx hb d_M_whole_137 hl (k := 5) rfl (nI_1 k) (by decide) rfl (fun ls hl => ?_)
                              refine lv_goto (tgt := 94) hx hb d_M_whole_140 (by decide) ?_
                              refine ih_94 (k + 1) false _ _ _ (by omega) (by simp only [hasC]; rw [← hha, c_105, Bool.false_or, decide_eq_false (show ¬ ndPa (R.2 k) = nI i from c_116), Bool.false_and]; first | done | rfl) ?_ hw (lv_sub hl [2, 3, 4, 5, 1, 0] rfl)
                              omega
                            · -- 116: False
                              refine lv_aload_n hx hb d_M_whole_119 rfl (lv_at hl 0 rfl) ?_
                              refine z_get hx hb hts (z_lay i_M) hown hK hw hmo rfl 13 (by decide) (z_in k_784 rfl) (fun _ h9 => h9) rfl d_M_whole_120 ?_
                              refine lv_iload hx hb d_M_whole_123 (lv_at hl 5 rfl) ?_
                              refine z_iald hx hb hK hw hNd.1 1 rfl (vp_in_nI (by omega) (by omega)) d_M_whole_125 ?_
                              refine z_topi (y := nf k) (by rw [nI_clamp (by omega)]) ?_
                              refine z_top (y := .int (ndFi (R.2 k))) (by rw [(hNd.2.2.2.2.2.2 k (by omega)).1]) ?_
                              refine lv_iload_n hx hb d_M_whole_126 rfl (lv_at hl 3 rfl) ?_
                              refine lv_icmp_ne (tgt := 134) hx hb d_M_whole_127 (by decide) (fun c_127 => ?_) (fun c_127 => ?_)
                              · -- 127: True
                                refine lv_iconst (v := 0) hx hb d_M_whole_134 (by decide) ?_
                                refine lv_istore (lv' := [(4, .int 0), (0, .ref mo), (1, .int (zb is1)), (2, .int (nI i)), (3, .int (nI f)), (5, .int (nI k))]) hx hb d_M_whole_135 hl (by decide) rfl (fun ls hl => ?_)
                                refine lv_iinc (v := nI (k + 1)) (lv' := [(5, .int (nI (k + 1))), (4, .int 0), (0, .ref mo), (1, .int (zb is1)), (2, .int (nI i)), (3, .int (nI f))]) hx hb d_M_whole_137 hl (k := 5) rfl (nI_1 k) (by decide) rfl (fun ls hl => ?_)
                                refine lv_goto (tgt := 94) hx hb d_M_whole_140 (by decide) ?_
                                refine ih_94 (k + 1) false _ _ _ (by omega) (by simp only [hasC]; rw [← hha, c_105, Bool.false_or, decide_eq_true (show ndPa (R.2 k) = nI i by simpa using c_116), Bool.true_and, decide_eq_false (show ¬ ndFi (R.2 k) = nI f from c_127)]; first | done | rfl) ?_ hw (lv_sub hl [2, 3, 4, 5, 1, 0] rfl)
                                omega
                              · -- 127: False
                                refine lv_iconst (v := 1) hx hb d_M_whole_130 (by decide) ?_
                                refine lv_goto (tgt := 135) hx hb d_M_whole_131 (by decide) ?_
                                refine lv_istore (lv' := [(4, .int 1), (0, .ref mo), (1, .int (zb is1)), (2, .int (nI i)), (3, .int (nI f)), (5, .int (nI k))]) hx hb d_M_whole_135 hl (by decide) rfl (fun ls hl => ?_)
                                refine lv_iinc (v := nI (k + 1)) (lv' := [(5, .int (nI (k + 1))), (4, .int 1), (0, .ref mo), (1, .int (zb is1)), (2, .int (nI i)), (3, .int (nI f))]) hx hb d_M_whole_137 hl (k := 5) rfl (nI_1 k) (by decide) rfl (fun ls hl => ?_)
                                refine lv_goto (tgt := 94) hx hb d_M_whole_140 (by decide) ?_
                                refine ih_94 (k + 1) true _ _ _ (by omega) (by simp only [hasC]; rw [← hha, c_105, Bool.false_or, decide_eq_true (show ndPa (R.2 k) = nI i by simpa using c_116), Bool.true_and, decide_eq_true (show ndFi (R.2 k) = nI f by simpa using c_127)]; first | done | rfl) ?_ hw (lv_sub hl [2, 3, 4, 5, 1, 0] rfl)
                                omega
                    exact loop_94 (R.1 - 1 + 1) 1 false  _ _ _  (by omega) (by simp only [hasC]; rw [hpa.1, decide_eq_false (show ¬ (-1 : Int32) = nI i from fun z => nI_ne1 (by omega) z.symm)]; rfl) (by omega) hw (lv_sub hl [2, 3, 4, 5, 1, 0] rfl)
                  · -- 82: False
                    refine lv_goto (tgt := 158) hx hb d_M_whole_85 (by decide) ?_
                    refine lv_iinc (v := nI (f + 1)) (lv' := [(3, .int (nI (f + 1))), (0, .ref mo), (1, .int (zb is1)), (2, .int (nI i))]) hx hb d_M_whole_158 hl (k := 3) rfl (nI_1 f) (by decide) rfl (fun ls hl => ?_)
                    refine lv_goto (tgt := 49) hx hb d_M_whole_161 (by decide) ?_
                    refine ih_49 (f + 1) is1 _ _ _ (by omega) (by simp only [aF]; rw [← Bool.and_assoc, ← hf1, show rqF S R i f = false by unfold rqF; rw [decide_eq_true (show fGr (S.2 f) = ndFi (R.2 i) by simpa using c_71), decide_eq_false (show ¬ fKi (S.2 f) = 0 from c_82)]; rfl]; simp) ?_ hw (lv_sub hl [1, 2, 3, 0] rfl)
                    omega
          exact loop_49 (S.1 - 0 + 1) 0 is0  _ _ _  (Nat.zero_le _) (by simp [aF]) (by omega) hw (lv_sub hl [1, 2, 3, 0] rfl)
        · -- 24: False
          have c_24 : ¬ (i ≤ 0) := fun z => c_24 ((nI_leI (a := i) (b := 0) (by omega) (by omega)).mpr z)
          obtain ⟨f8, hf8, ef8⟩ := hfo i (by omega) (by omega)
          refine lv_aload_n hx hb d_M_whole_27 rfl (lv_at hl 0 rfl) ?_
          refine z_get hx hb hts (z_lay i_M) hown hK hw hmo rfl 5 (by decide) (z_in k_776 rfl) (fun _ h9 => h9) rfl d_M_whole_28 ?_
          refine lv_iconst (v := 1) hx hb d_M_whole_31 (by decide) ?_
          refine z_aldr hx hb hK hw hSc.1 5 rfl (by unfold vp_in; decide) d_M_whole_32 ?_
          refine z_top (y := va_rf ((fun k => some (rw9 k)) 1)) (by rfl) ?_
          refine z_top (y := .ref (rw9 1)) (rfl) ?_
          refine lv_aload_n hx hb d_M_whole_33 rfl (lv_at hl 0 rfl) ?_
          refine z_get hx hb hts (z_lay i_M) hown hK hw hmo rfl 13 (by decide) (z_in k_784 rfl) (fun _ h9 => h9) rfl d_M_whole_34 ?_
          refine lv_iload_n hx hb d_M_whole_37 rfl (lv_at hl 2 rfl) ?_
          refine z_iald hx hb hK hw hNd.1 1 rfl (vp_in_nI (by omega) (by omega)) d_M_whole_38 ?_
          refine z_topi (y := nf i) (by rw [nI_clamp (by omega)]) ?_
          refine z_top (y := .int (nI f8)) (by rw [(hNd.2.2.2.2.2.2 i (by omega)).1, ef8]) ?_
          refine z_iald hx hb hK hw hrw_1 1 rfl (vp_in_nI (by omega) (by omega)) d_M_whole_39 ?_
          refine z_topi (y := (rf 1) f8) (by rw [nI_clamp (by omega)]) ?_
          refine z_top (y := .int (fTy (S.2 f8))) (by rw [(hSc.2.2.2 f8 hf8).2.1]) ?_
          refine lv_iconst (v := 4) hx hb d_M_whole_40 (by decide) ?_
          refine lv_icmp_eq (tgt := 47) hx hb d_M_whole_41 (by decide) (fun c_41 => ?_) (fun c_41 => ?_)
          · -- 41: True
            refine lv_iconst (v := 0) hx hb d_M_whole_47 (by decide) ?_
            refine lv_istore_n (lv' := [(3, .int 0), (0, .ref mo), (1, .int (zb is0)), (2, .int (nI i))]) hx hb d_M_whole_48 rfl hl (by decide) rfl (fun ls hl => ?_)
            have loop_49 : ∀ (fuel : Nat) (f : Nat) (is1 : Bool) (H : Heap) (locs : List Loc) (ls : Array Slot)  (hf9 : f ≤ S.1) (hf1 : is1 = (is0 && aF S R i f)), (S.1 - f) < fuel → z_S g A s.heap h H locs → lv_has ls 6 [(0, .ref mo), (1, .int (zb is1)), (2, .int (nI i)), (3, .int (nI f))] → W pg l en { frames := 0, cells := 0, slots := 0, locals := 0 } s m [.ref mo].toArray below meth cd H locs 0 0 (MQ below (z_Q g A (fun x h1 => x = some (.int (zb (whM S R))) ∧ h = h1)) [.ref mo].toArray s 0 0 A) (F0 m 49 ls []) := by
              intro fuel
              induction fuel with
              | zero => intro f is1 H locs ls hf9 hf1 hm; exact absurd hm (Nat.not_lt_zero _)
              | succ fuel ih_49 =>
                intro f is1 H locs ls hf9 hf1 hm hw hl
                refine lv_iload_n hx hb d_M_whole_49 rfl (lv_at hl 3 rfl) ?_
                refine lv_aload_n hx hb d_M_whole_50 rfl (lv_at hl 0 rfl) ?_
                refine z_get hx hb hts (z_lay i_M) hown hK hw hmo rfl 9 (by decide) (z_in k_780 rfl) (fun _ h9 => h9) rfl d_M_whole_51 ?_
                refine lv_icmp_ge (tgt := 164) hx hb d_M_whole_54 (by decide) (fun c_54 => ?_) (fun c_54 => ?_)
                · -- 54: True
                  have c_54 : S.1 ≤ f := (nI_leI (a := S.1) (b := f) (by omega) (by omega)).mp c_54
                  refine lv_iinc (v := nI (i + 1)) (lv' := [(2, .int (nI (i + 1))), (0, .ref mo), (1, .int (zb is1)), (3, .int (nI f))]) hx hb d_M_whole_164 hl (k := 2) rfl (nI_1 i) (by decide) rfl (fun ls hl => ?_)
                  refine lv_goto (tgt := 15) hx hb d_M_whole_167 (by decide) ?_
                  refine ih_15 (i + 1) is1 _ _ _ (by omega) (by simp only [aN]; rw [← Bool.and_assoc, ← hi1, show isG S R i = true by unfold isG; rw [ef8, nI_clamp (by omega), decide_eq_true (show fTy (S.2 f8) = 4 from c_41)]; simp]; rw [hf1, show f = S.1 by omega]; rfl) ?_ hw (lv_sub hl [1, 2, 0] rfl)
                  omega
                · -- 54: False
                  have c_54 : ¬ (S.1 ≤ f) := fun z => c_54 ((nI_leI (a := S.1) (b := f) (by omega) (by omega)).mpr z)
                  refine lv_aload_n hx hb d_M_whole_57 rfl (lv_at hl 0 rfl) ?_
                  refine z_get hx hb hts (z_lay i_M) hown hK hw hmo rfl 5 (by decide) (z_in k_776 rfl) (fun _ h9 => h9) rfl d_M_whole_58 ?_
                  refine lv_iconst (v := 2) hx hb d_M_whole_61 (by decide) ?_
                  refine z_aldr hx hb hK hw hSc.1 5 rfl (by unfold vp_in; decide) d_M_whole_62 ?_
                  refine z_top (y := va_rf ((fun k => some (rw9 k)) 2)) (by rfl) ?_
                  refine z_top (y := .ref (rw9 2)) (rfl) ?_
                  refine lv_iload_n hx hb d_M_whole_63 rfl (lv_at hl 3 rfl) ?_
                  refine z_iald hx hb hK hw hrw_2 1 rfl (vp_in_nI (by omega) (by omega)) d_M_whole_64 ?_
                  refine z_topi (y := (rf 2) f) (by rw [nI_clamp (by omega)]) ?_
                  refine z_top (y := .int (fGr (S.2 f))) (by rw [(hSc.2.2.2 f (by omega)).2.2.1]) ?_
                  refine lv_aload_n hx hb d_M_whole_65 rfl (lv_at hl 0 rfl) ?_
                  refine z_get hx hb hts (z_lay i_M) hown hK hw hmo rfl 13 (by decide) (z_in k_784 rfl) (fun _ h9 => h9) rfl d_M_whole_66 ?_
                  refine lv_iload_n hx hb d_M_whole_69 rfl (lv_at hl 2 rfl) ?_
                  refine z_iald hx hb hK hw hNd.1 1 rfl (vp_in_nI (by omega) (by omega)) d_M_whole_70 ?_
                  refine z_topi (y := nf i) (by rw [nI_clamp (by omega)]) ?_
                  refine z_top (y := .int (ndFi (R.2 i))) (by rw [(hNd.2.2.2.2.2.2 i (by omega)).1]) ?_
                  refine lv_icmp_ne (tgt := 158) hx hb d_M_whole_71 (by decide) (fun c_71 => ?_) (fun c_71 => ?_)
                  · -- 71: True
                    refine lv_iinc (v := nI (f + 1)) (lv' := [(3, .int (nI (f + 1))), (0, .ref mo), (1, .int (zb is1)), (2, .int (nI i))]) hx hb d_M_whole_158 hl (k := 3) rfl (nI_1 f) (by decide) rfl (fun ls hl => ?_)
                    refine lv_goto (tgt := 49) hx hb d_M_whole_161 (by decide) ?_
                    refine ih_49 (f + 1) is1 _ _ _ (by omega) (by simp only [aF]; rw [← Bool.and_assoc, ← hf1, show rqF S R i f = false by unfold rqF; rw [decide_eq_false (show ¬ fGr (S.2 f) = ndFi (R.2 i) from c_71)]; rfl]; simp) ?_ hw (lv_sub hl [1, 2, 3, 0] rfl)
                    omega
                  · -- 71: False
                    refine lv_aload_n hx hb d_M_whole_74 rfl (lv_at hl 0 rfl) ?_
                    refine z_get hx hb hts (z_lay i_M) hown hK hw hmo rfl 5 (by decide) (z_in k_776 rfl) (fun _ h9 => h9) rfl d_M_whole_75 ?_
                    refine lv_iconst (v := 0) hx hb d_M_whole_78 (by decide) ?_
                    refine z_aldr hx hb hK hw hSc.1 5 rfl (by unfold vp_in; decide) d_M_whole_79 ?_
                    refine z_top (y := va_rf ((fun k => some (rw9 k)) 0)) (by rfl) ?_
                    refine z_top (y := .ref (rw9 0)) (rfl) ?_
                    refine lv_iload_n hx hb d_M_whole_80 rfl (lv_at hl 3 rfl) ?_
                    refine z_iald hx hb hK hw hrw_0 1 rfl (vp_in_nI (by omega) (by omega)) d_M_whole_81 ?_
                    refine z_topi (y := (rf 0) f) (by rw [nI_clamp (by omega)]) ?_
                    refine z_top (y := .int (fKi (S.2 f))) (by rw [(hSc.2.2.2 f (by omega)).1]) ?_
                    refine lv_if_eq (tgt := 88) hx hb d_M_whole_82 (by decide) (fun c_82 => ?_) (fun c_82 => ?_)
                    · -- 82: True
                      refine lv_iconst (v := 0) hx hb d_M_whole_88 (by decide) ?_
                      refine lv_istore (lv' := [(4, .int 0), (0, .ref mo), (1, .int (zb is1)), (2, .int (nI i)), (3, .int (nI f))]) hx hb d_M_whole_89 hl (by decide) rfl (fun ls hl => ?_)
                      refine lv_iconst (v := 1) hx hb d_M_whole_91 (by decide) ?_
                      refine lv_istore (lv' := [(5, .int 1), (4, .int 0), (0, .ref mo), (1, .int (zb is1)), (2, .int (nI i)), (3, .int (nI f))]) hx hb d_M_whole_92 hl (by decide) rfl (fun ls hl => ?_)
                      have loop_94 : ∀ (fuel : Nat) (k : Nat) (ha : Bool) (H : Heap) (locs : List Loc) (ls : Array Slot)  (hk9 : k ≤ R.1) (hha : ha = hasC R.2 i f k), (R.1 - k) < fuel → z_S g A s.heap h H locs → lv_has ls 6 [(0, .ref mo), (1, .int (zb is1)), (2, .int (nI i)), (3, .int (nI f)), (4, .int (zb ha)), (5, .int (nI k))] → W pg l en { frames := 0, cells := 0, slots := 0, locals := 0 } s m [.ref mo].toArray below meth cd H locs 0 0 (MQ below (z_Q g A (fun x h1 => x = some (.int (zb (whM S R))) ∧ h = h1)) [.ref mo].toArray s 0 0 A) (F0 m 94 ls []) := by
                        intro fuel
                        induction fuel with
                        | zero => intro k ha H locs ls hk9 hha hm; exact absurd hm (Nat.not_lt_zero _)
                        | succ fuel ih_94 =>
                          intro k ha H locs ls hk9 hha hm hw hl
                          refine lv_iload hx hb d_M_whole_94 (lv_at hl 5 rfl) ?_
                          refine lv_aload_n hx hb d_M_whole_96 rfl (lv_at hl 0 rfl) ?_
                          refine z_get hx hb hts (z_lay i_M) hown hK hw hmo rfl 18 (by decide) (z_in k_789 rfl) (fun _ h9 => h9) rfl d_M_whole_97 ?_
                          refine lv_icmp_ge (tgt := 143) hx hb d_M_whole_100 (by decide) (fun c_100 => ?_) (fun c_100 => ?_)
                          · -- 100: True
                            have c_100 : R.1 ≤ k := (nI_leI (a := R.1) (b := k) (by omega) (by omega)).mp c_100
                            have ehk : ha = hasC R.2 i f R.1 := by rw [hha, show k = R.1 by omega]
                            refine lv_iload_n hx hb d_M_whole_143 rfl (lv_at hl 1 rfl) ?_
                            refine lv_if_eq (tgt := 156) hx hb d_M_whole_144 (by decide) (fun c_144 => ?_) (fun c_144 => ?_)
                            · -- 144: True
                              have c_144 : is1 = false := zb_f c_144
                              refine lv_iconst (v := 0) hx hb d_M_whole_156 (by decide) ?_
                              refine lv_istore_n (lv' := [(1, .int 0), (0, .ref mo), (2, .int (nI i)), (3, .int (nI f)), (4, .int (zb ha)), (5, .int (nI k))]) hx hb d_M_whole_157 rfl hl (by decide) rfl (fun ls hl => ?_)
                              refine lv_iinc (v := nI (f + 1)) (lv' := [(3, .int (nI (f + 1))), (1, .int 0), (0, .ref mo), (2, .int (nI i)), (4, .int (zb ha)), (5, .int (nI k))]) hx hb d_M_whole_158 hl (k := 3) rfl (nI_1 f) (by decide) rfl (fun ls hl => ?_)
                              refine lv_goto (tgt := 49) hx hb d_M_whole_161 (by decide) ?_
                              refine ih_49 (f + 1) false _ _ _ (by omega) (by simp only [aF]; rw [← Bool.and_assoc, ← hf1, show rqF S R i f = true by unfold rqF; rw [decide_eq_true (show fGr (S.2 f) = ndFi (R.2 i) by simpa using c_71), decide_eq_true (show fKi (S.2 f) = 0 from c_82)]; rfl, ← ehk, c_144]; rfl) ?_ hw (lv_sub hl [2, 1, 3, 0] rfl)
                              omega
                            · -- 144: False
                              have c_144 : is1 = true := zb_t c_144
                              refine lv_iload hx hb d_M_whole_147 (lv_at hl 4 rfl) ?_
                              refine lv_if_eq (tgt := 156) hx hb d_M_whole_149 (by decide) (fun c_149 => ?_) (fun c_149 => ?_)
                              · -- 149: True
                                have c_149 : ha = false := zb_f c_149
                                refine lv_iconst (v := 0) hx hb d_M_whole_156 (by decide) ?_
                                refine lv_istore_n (lv' := [(1, .int 0), (0, .ref mo), (2, .int (nI i)), (3, .int (nI f)), (4, .int (zb ha)), (5, .int (nI k))]) hx hb d_M_whole_157 rfl hl (by decide) rfl (fun ls hl => ?_)
                                refine lv_iinc (v := nI (f + 1)) (lv' := [(3, .int (nI (f + 1))), (1, .int 0), (0, .ref mo), (2, .int (nI i)), (4, .int (zb ha)), (5, .int (nI k))]) hx hb d_M_whole_158 hl (k := 3) rfl (nI_1 f) (by decide) rfl (fun ls hl => ?_)
                                refine lv_goto (tgt := 49) hx hb d_M_whole_161 (by decide) ?_
                                refine ih_49 (f + 1) false _ _ _ (by omega) (by simp only [aF]; rw [← Bool.and_assoc, ← hf1, show rqF S R i f = true by unfold rqF; rw [decide_eq_true (show fGr (S.2 f) = ndFi (R.2 i) by simpa using c_71), decide_eq_true (show fKi (S.2 f) = 0 from c_82)]; rfl, ← ehk, c_144, c_149]; rfl) ?_ hw (lv_sub hl [2, 1, 3, 0] rfl)
                                omega
                              · -- 149: False
                                have c_149 : ha = true := zb_t c_149
                                refine lv_iconst (v := 1) hx hb d_M_whole_152 (by decide) ?_
                                refine lv_goto (tgt := 157) hx hb d_M_whole_153 (by decide) ?_
                                refine lv_istore_n (lv' := [(1, .int 1), (0, .ref mo), (2, .int (nI i)), (3, .int (nI f)), (4, .int (zb ha)), (5, .int (nI k))]) hx hb d_M_whole_157 rfl hl (by decide) rfl (fun ls hl => ?_)
                                refine lv_iinc (v := nI (f + 1)) (lv' := [(3, .int (nI (f + 1))), (1, .int 1), (0, .ref mo), (2, .int (nI i)), (4, .int (zb ha)), (5, .int (nI k))]) hx hb d_M_whole_158 hl (k := 3) rfl (nI_1 f) (by decide) rfl (fun ls hl => ?_)
                                refine lv_goto (tgt := 49) hx hb d_M_whole_161 (by decide) ?_
                                refine ih_49 (f + 1) true _ _ _ (by omega) (by simp only [aF]; rw [← Bool.and_assoc, ← hf1, show rqF S R i f = true by unfold rqF; rw [decide_eq_true (show fGr (S.2 f) = ndFi (R.2 i) by simpa using c_71), decide_eq_true (show fKi (S.2 f) = 0 from c_82)]; rfl, ← ehk, c_144, c_149]; rfl) ?_ hw (lv_sub hl [2, 1, 3, 0] rfl)
                                omega
                          · -- 100: False
                            have c_100 : ¬ (R.1 ≤ k) := fun z => c_100 ((nI_leI (a := R.1) (b := k) (by omega) (by omega)).mpr z)
                            refine lv_iload hx hb d_M_whole_103 (lv_at hl 4 rfl) ?_
                            refine lv_if_ne (tgt := 130) hx hb d_M_whole_105 (by decide) (fun c_105 => ?_) (fun c_105 => ?_)
                            · -- 105: True
                              have c_105 : ha = true := zb_t c_105
                              refine lv_iconst (v := 1) hx hb d_M_whole_130 (by decide) ?_
                              refine lv_goto (tgt := 135) hx hb d_M_whole_131 (by decide) ?_
                              refine lv_istore (lv' := [(4, .int 1), (0, .ref mo), (1, .int (zb is1)), (2, .int (nI i)), (3, .int (nI f)), (5, .int (nI k))]) hx hb d_M_whole_135 hl (by decide) rfl (fun ls hl => ?_)
                              refine lv_iinc (v := nI (k + 1)) (lv' := [(5, .int (nI (k + 1))), (4, .int 1), (0, .ref mo), (1, .int (zb is1)), (2, .int (nI i)), (3, .int (nI f))]) hx hb d_M_whole_137 hl (k := 5) rfl (nI_1 k) (by decide) rfl (fun ls hl => ?_)
                              refine lv_goto (tgt := 94) hx hb d_M_whole_140 (by decide) ?_
                              refine ih_94 (k + 1) true _ _ _ (by omega) (by simp only [hasC]; rw [← hha, c_105, Bool.true_or]; first | done | rfl) ?_ hw (lv_sub hl [2, 3, 4, 5, 1, 0] rfl)
                              omega
                            · -- 105: False
                              have c_105 : ha = false := zb_f c_105
                              refine lv_aload_n hx hb d_M_whole_108 rfl (lv_at hl 0 rfl) ?_
                              refine z_get hx hb hts (z_lay i_M) hown hK hw hmo rfl 14 (by decide) (z_in k_785 rfl) (fun _ h9 => h9) rfl d_M_whole_109 ?_
                              refine lv_iload hx hb d_M_whole_112 (lv_at hl 5 rfl) ?_
                              refine z_iald hx hb hK hw hNd.2.1 1 rfl (vp_in_nI (by omega) (by omega)) d_M_whole_114 ?_
                              refine z_topi (y := np k) (by rw [nI_clamp (by omega)]) ?_
                              refine z_top (y := .int (ndPa (R.2 k))) (by rw [(hNd.2.2.2.2.2.2 k (by omega)).2.1]) ?_
                              refine lv_iload_n hx hb d_M_whole_115 rfl (lv_at hl 2 rfl) ?_
                              refine lv_icmp_ne (tgt := 134) hx hb d_M_whole_116 (by decide) (fun c_116 => ?_) (fun c_116 => ?_)
                              · -- 116: True
                                refine lv_iconst (v := 0) hx hb d_M_whole_134 (by decide) ?_
                                refine lv_istore (lv' := [(4, .int 0), (0, .ref mo), (1, .int (zb is1)), (2, .int (nI i)), (3, .int (nI f)), (5, .int (nI k))]) hx hb d_M_whole_135 hl (by decide) rfl (fun ls hl => ?_)
                                refine lv_iinc (v := nI (k + 1)) (lv' := [(5, .int (nI (k + 1))), (4, .int 0), (0, .ref mo), (1, .int (zb is1)), (2, .int (nI i)), (3, .int (nI f))]) hx hb d_M_whole_137 hl (k := 5) rfl (nI_1 k) (by decide) rfl (fun ls hl => ?_)
                                refine lv_goto (tgt := 94) hx hb d_M_whole_140 (by decide) ?_
                                refine ih_94 (k + 1) false _ _ _ (by omega) (by simp only [hasC]; rw [← hha, c_105, Bool.false_or, decide_eq_false (show ¬ ndPa (R.2 k) = nI i from c_116), Bool.false_and]; first | done | rfl) ?_ hw (lv_sub hl [2, 3, 4, 5, 1, 0] rfl)
                                omega
                              · -- 116: False
                                refine lv_aload_n hx hb d_M_whole_119 rfl (lv_at hl 0 rfl) ?_
                                refine z_get hx hb hts (z_lay i_M) hown hK hw hmo rfl 13 (by decide) (z_in k_784 rfl) (fun _ h9 => h9) rfl d_M_whole_120 ?_
                                refine lv_iload hx hb d_M_whole_123 (lv_at hl 5 rfl) ?_
                                refine z_iald hx hb hK hw hNd.1 1 rfl (vp_in_nI (by omega) (by omega)) d_M_whole_125 ?_
                                refine z_topi (y := nf k) (by rw [nI_clamp (by omega)]) ?_
                                refine z_top (y := .int (ndFi (R.2 k))) (by rw [(hNd.2.2.2.2.2.2 k (by omega)).1]) ?_
                                refine lv_iload_n hx hb d_M_whole_126 rfl (lv_at hl 3 rfl) ?_
                                refine lv_icmp_ne (tgt := 134) hx hb d_M_whole_127 (by decide) (fun c_127 => ?_) (fun c_127 => ?_)
                                · -- 127: True
                                  refine lv_iconst (v := 0) hx hb d_M_whole_134 (by decide) ?_
                                  refine lv_istore (lv' := [(4, .int 0), (0, .ref mo), (1, .int (zb is1)), (2, .int (nI i)), (3, .int (nI f)), (5, .int (nI k))]) hx hb d_M_whole_135 hl (by decide) rfl (fun ls hl => ?_)
                                  refine lv_iinc (v := nI (k + 1)) (lv' := [(5, .int (nI (k + 1))), (4, .int 0), (0, .ref mo), (1, .int (zb is1)), (2, .int (nI i)), (3, .int (nI f))]) hx hb d_M_whole_137 hl (k := 5) rfl (nI_1 k) (by decide) rfl (fun ls hl => ?_)
                                  refine lv_goto (tgt := 94) hx hb d_M_whole_140 (by decide) ?_
                                  refine ih_94 (k + 1) false _ _ _ (by omega) (by simp only [hasC]; rw [← hha, c_105, Bool.false_or, decide_eq_true (show ndPa (R.2 k) = nI i by simpa using c_116), Bool.true_and, decide_eq_false (show ¬ ndFi (R.2 k) = nI f from c_127)]; first | done | rfl) ?_ hw (lv_sub hl [2, 3, 4, 5, 1, 0] rfl)
                                  omega
                                · -- 127: False
                                  refine lv_iconst (v := 1) hx hb d_M_whole_130 (by decide) ?_
                                  refine lv_goto (tgt := 135) hx hb d_M_whole_131 (by decide) ?_
                                  refine lv_istore (lv' := [(4, .int 1), (0, .ref mo), (1, .int (zb is1)), (2, .int (nI i)), (3, .int (nI f)), (5, .int (nI k))]) hx hb d_M_whole_135 hl (by decide) rfl (fun ls hl => ?_)
                                  refine lv_iinc (v := nI (k + 1)) (lv' := [(5, .int (nI (k + 1))), (4, .int 1), (0, .ref mo), (1, .int (zb is1)), (2, .int (nI i)), (3, .int (nI f))]) hx hb d_M_whole_137 hl (k := 5) rfl (nI_1 k) (by decide) rfl (fun ls hl => ?_)
                                  refine lv_goto (tgt := 94) hx hb d_M_whole_140 (by decide) ?_
                                  refine ih_94 (k + 1) true _ _ _ (by omega) (by simp only [hasC]; rw [← hha, c_105, Bool.false_or, decide_eq_true (show ndPa (R.2 k) = nI i by simpa using c_116), Bool.true_and, decide_eq_true (show ndFi (R.2 k) = nI f by simpa using c_127)]; first | done | rfl) ?_ hw (lv_sub hl [2, 3, 4, 5, 1, 0] rfl)
                                  omega
                      exact loop_94 (R.1 - 1 + 1) 1 false  _ _ _  (by omega) (by simp only [hasC]; rw [hpa.1, decide_eq_false (show ¬ (-1 : Int32) = nI i from fun z => nI_ne1 (by omega) z.symm)]; rfl) (by omega) hw (lv_sub hl [2, 3, 4, 5, 1, 0] rfl)
                    · -- 82: False
                      refine lv_goto (tgt := 158) hx hb d_M_whole_85 (by decide) ?_
                      refine lv_iinc (v := nI (f + 1)) (lv' := [(3, .int (nI (f + 1))), (0, .ref mo), (1, .int (zb is1)), (2, .int (nI i))]) hx hb d_M_whole_158 hl (k := 3) rfl (nI_1 f) (by decide) rfl (fun ls hl => ?_)
                      refine lv_goto (tgt := 49) hx hb d_M_whole_161 (by decide) ?_
                      refine ih_49 (f + 1) is1 _ _ _ (by omega) (by simp only [aF]; rw [← Bool.and_assoc, ← hf1, show rqF S R i f = false by unfold rqF; rw [decide_eq_true (show fGr (S.2 f) = ndFi (R.2 i) by simpa using c_71), decide_eq_false (show ¬ fKi (S.2 f) = 0 from c_82)]; rfl]; simp) ?_ hw (lv_sub hl [1, 2, 3, 0] rfl)
                      omega
            exact loop_49 (S.1 - 0 + 1) 0 is0  _ _ _  (Nat.zero_le _) (by simp [aF]) (by omega) hw (lv_sub hl [1, 2, 3, 0] rfl)
          · -- 41: False
            refine lv_goto (tgt := 164) hx hb d_M_whole_44 (by decide) ?_
            refine lv_iinc (v := nI (i + 1)) (lv' := [(2, .int (nI (i + 1))), (0, .ref mo), (1, .int (zb is0))]) hx hb d_M_whole_164 hl (k := 2) rfl (nI_1 i) (by decide) rfl (fun ls hl => ?_)
            refine lv_goto (tgt := 15) hx hb d_M_whole_167 (by decide) ?_
            refine ih_15 (i + 1) is0 _ _ _ (by omega) (by simp only [aN]; rw [← Bool.and_assoc, ← hi1, show isG S R i = false by unfold isG; rw [decide_eq_false (show ¬ i = 0 by omega), ef8, nI_clamp (by omega), decide_eq_false (show ¬ fTy (S.2 f8) = 4 from c_41)]; rfl]; simp) ?_ hw (lv_sub hl [1, 2, 0] rfl)
            omega
  refine lv_aload_n hx hb d_M_whole_0 rfl (lv_at hl 0 rfl) ?_
  refine z_get hx hb hts (z_lay i_M) hown hK hw hmo rfl 9 (by decide) (z_in k_780 rfl) (fun _ h9 => h9) rfl d_M_whole_1 ?_
  refine lv_if_le (tgt := 11) hx hb d_M_whole_4 (by decide) (fun c_4 => ?_) (fun c_4 => ?_)
  · -- 4: True
    have c_4 : S.1 ≤ 0 := (nI_leI (a := S.1) (b := 0) (by omega) (by omega)).mp c_4
    refine lv_iconst (v := 0) hx hb d_M_whole_11 (by decide) ?_
    refine lv_istore_n (lv' := [(1, .int 0), (0, .ref mo)]) hx hb d_M_whole_12 rfl hl (by decide) rfl (fun ls hl => ?_)
    refine lv_iconst (v := 0) hx hb d_M_whole_13 (by decide) ?_
    refine lv_istore_n (lv' := [(2, .int 0), (1, .int 0), (0, .ref mo)]) hx hb d_M_whole_14 rfl hl (by decide) rfl (fun ls hl => ?_)
    exact loop_15 (R.1 - 0 + 1) 0 false  _ _ _  (Nat.zero_le _) (by rw [decide_eq_false (show ¬ 0 < S.1 by omega)]; rfl) (by omega) hw (lv_sub hl [2, 1, 0] rfl)
  · -- 4: False
    have c_4 : ¬ (S.1 ≤ 0) := fun z => c_4 ((nI_leI (a := S.1) (b := 0) (by omega) (by omega)).mpr z)
    refine lv_iconst (v := 1) hx hb d_M_whole_7 (by decide) ?_
    refine lv_goto (tgt := 12) hx hb d_M_whole_8 (by decide) ?_
    refine lv_istore_n (lv' := [(1, .int 1), (0, .ref mo)]) hx hb d_M_whole_12 rfl hl (by decide) rfl (fun ls hl => ?_)
    refine lv_iconst (v := 0) hx hb d_M_whole_13 (by decide) ?_
    refine lv_istore_n (lv' := [(2, .int 0), (1, .int 1), (0, .ref mo)]) hx hb d_M_whole_14 rfl hl (by decide) rfl (fun ls hl => ?_)
    exact loop_15 (R.1 - 0 + 1) 0 true  _ _ _  (Nat.zero_le _) (by rw [decide_eq_true (show 0 < S.1 by omega)]; rfl) (by omega) hw (lv_sub hl [2, 1, 0] rfl)

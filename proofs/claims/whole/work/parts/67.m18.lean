/-- whether pi is u, or its parent, and so on -/
def anc (N : Nat → Nod) (pi : Nat) : Nat → Int32 → Bool
  | 0, _ => false
  | k + 1, u => if u = -1 then false else (decide (u = nI pi) || anc N pi k (ndPa (N u.toNatClampNeg)))
def ndN (R : Rec) (u : Int32) : Prop := u = -1 ∨ ∃ i, i < R.1 ∧ u = nI i
theorem ndN_up {R : Rec} (hp : paOK R) (hR : R.1 ≤ 2000) {i : Nat} (hi : i < R.1) : ndN R (ndPa (R.2 i)) ∧ grM (ndPa (R.2 i)) < grM (nI i) := by
  rw [grM_n (by omega)]
  by_cases e : i = 0
  · rw [e, hp.1]; exact ⟨Or.inl rfl, by have : grM (-1) = 0 := (by decide); omega⟩
  · obtain ⟨j, hj, e2⟩ := hp.2 i (by omega) hi
    rw [e2, grM_n (by omega)]; exact ⟨Or.inr ⟨j, by omega, rfl⟩, by omega⟩
theorem anc_upW {R : Rec} (hp : paOK R) (hR : R.1 ≤ 2000) {pi : Nat} (hpi : pi < R.1) : ∀ k u, ndN R u → grM u ≤ k → anc R.2 pi k u = decide (upW R.2 (nI pi) k u = nI pi) := by
  intro k
  induction k with
  | zero =>
    intro u h1 h2
    rcases h1 with e | ⟨i, hi, e⟩
    · rw [e, show upW R.2 (nI pi) 0 (-1) = -1 from rfl, decide_eq_false (show ¬ (-1 : Int32) = nI pi from fun z => nI_ne1 (by omega) z.symm)]; rfl
    · rw [e, grM_n (by omega)] at h2; omega
  | succ k ih =>
    intro u h1 h2
    rw [show upW R.2 (nI pi) (k + 1) u = if nI pi < u then upW R.2 (nI pi) k (ndPa (R.2 u.toNatClampNeg)) else u from rfl]
    rw [show anc R.2 pi (k + 1) u = if u = -1 then false else (decide (u = nI pi) || anc R.2 pi k (ndPa (R.2 u.toNatClampNeg))) from rfl]
    rcases h1 with e | ⟨i, hi, e⟩
    · rw [e, if_pos rfl, if_neg (by rw [Int32.lt_iff_toInt_lt, nI_toInt (by omega)]; have : (-1 : Int32).toInt = -1 := rfl; omega), decide_eq_false (show ¬ (-1 : Int32) = nI pi from fun z => nI_ne1 (by omega) z.symm)]
    · have hu := ndN_up hp hR hi
      have h3 : grM (ndPa (R.2 i)) ≤ k := by rw [e] at h2; omega
      have h4 := ih (ndPa (R.2 i)) hu.1 h3
      rw [e, if_neg (nI_ne1 (by omega)), nI_clamp (by omega)]
      by_cases c1 : pi < i
      · rw [if_pos ((nI_ltI (by omega) (by omega)).mpr c1), decide_eq_false (fun z => by have := (nI_eq (a := i) (b := pi) (by omega) (by omega)).mp z; omega), Bool.false_or, h4]
      · rw [if_neg (fun z => c1 ((nI_ltI (by omega) (by omega)).mp z))]
        by_cases c2 : i = pi
        · rw [c2, decide_eq_true rfl, Bool.true_or]
        · have c3 : ¬ nI i = nI pi := fun z => c2 ((nI_eq (by omega) (by omega)).mp z)
          rw [decide_eq_false c3, Bool.false_or, h4]
          have hv : upW R.2 (nI pi) k (ndPa (R.2 i)) = ndPa (R.2 i) := by
            refine upW_stop k (Or.inr ?_)
            rw [Int32.lt_iff_toInt_lt, nI_toInt (by omega)]
            rcases hu.1 with e2 | ⟨j, hj, e2⟩
            · rw [e2]; have : (-1 : Int32).toInt = -1 := rfl; omega
            · have h6 := hu.2
              rw [e2, grM_n (by omega), grM_n (by omega)] at h6
              rw [e2, nI_toInt (by omega)]; omega
          rw [hv]
          have h6 := hu.2
          rw [grM_n (by omega)] at h6
          rw [decide_eq_false]
          intro z
          rw [z, grM_n (by omega)] at h6
          omega
theorem anc_opn {R : Rec} (hp : paOK R) (hR : R.1 ≤ 2000) {pi : Nat} (hpi : pi < R.1) : anc R.2 pi R.1 (nI (R.1 - 1)) = opn R pi := by
  unfold opn
  exact anc_upW hp hR hpi _ _ (Or.inr ⟨R.1 - 1, by omega, rfl⟩) (by rw [grM_n (by omega)]; omega)
/-- all children of pi among the first j nodes come before the field fi, or are of it where it is repeated -/
def allC (N : Nat → Nod) (pi fi : Nat) (ki : Int32) : Nat → Bool
  | 0 => true
  | j + 1 => allC N pi fi ki j && (!decide (ndPa (N j) = nI pi) || (decide (ndFi (N j) < nI fi) || (decide (ndFi (N j) = nI fi) && decide (ki = 2))))
/-- children come in their fields' order, twice only where the field is repeated -/
def ordOK (S : Sch) (R : Rec) : Prop := ∀ j k, 0 < j → j < k → k < R.1 → ndPa (R.2 j) = ndPa (R.2 k) → ndFi (R.2 j) < ndFi (R.2 k) ∨ (ndFi (R.2 j) = ndFi (R.2 k) ∧ fKi (S.2 (ndFi (R.2 k)).toNatClampNeg) = 2)
theorem allC_lf {S : Sch} {R : Rec} (ho : ordOK S R) (hp : paOK R) {pi fi : Nat} (hf : fi < 2 ^ 31) (hpi : pi < 2 ^ 31) : ∀ n, n ≤ R.1 → allC R.2 pi fi (fKi (S.2 fi)) n = (decide (lfC R.2 (nI pi) n < nI fi) || (decide (nI fi = lfC R.2 (nI pi) n) && decide (fKi (S.2 fi) = 2))) := by
  intro n
  induction n with
  | zero =>
    intro _
    rw [show lfC R.2 (nI pi) 0 = -1 from rfl, decide_eq_true (show (-1 : Int32) < nI fi by rw [Int32.lt_iff_toInt_lt, nI_toInt hf]; have : (-1 : Int32).toInt = -1 := rfl; omega)]
    rfl
  | succ n ih =>
    intro hn
    have ih := ih (by omega)
    rw [show allC R.2 pi fi (fKi (S.2 fi)) (n + 1) = (allC R.2 pi fi (fKi (S.2 fi)) n && (!decide (ndPa (R.2 n) = nI pi) || (decide (ndFi (R.2 n) < nI fi) || (decide (ndFi (R.2 n) = nI fi) && decide (fKi (S.2 fi) = 2))))) from rfl]
    by_cases hc : ndPa (R.2 n) = nI pi
    · rw [show lfC R.2 (nI pi) (n + 1) = ndFi (R.2 n) from if_pos hc, decide_eq_true hc, Bool.not_true, Bool.false_or]
      have h0 : 0 < n := by
        apply Classical.byContradiction
        intro z
        rw [show n = 0 by omega, hp.1] at hc
        exact nI_ne1 hpi hc.symm
      cases hA : allC R.2 pi fi (fKi (S.2 fi)) n with
      | true =>
        rw [Bool.true_and]
        congr 1
        rw [Bool.eq_iff_iff]
        simp only [Bool.and_eq_true, decide_eq_true_eq]
        exact ⟨fun z => ⟨z.1.symm, z.2⟩, fun z => ⟨z.1.symm, z.2⟩⟩
      | false =>
        rw [Bool.false_and]
        symm
        rw [hA] at ih
        have ih := ih.symm
        rw [Bool.or_eq_false_iff, decide_eq_false_iff_not] at ih
        -- the latest child so far isn't below fi; so n isn't either
        have hex : ∀ m, m ≤ n → ¬ lfC R.2 (nI pi) m = -1 → ∃ j, 0 < j ∧ j < m ∧ ndPa (R.2 j) = nI pi ∧ lfC R.2 (nI pi) m = ndFi (R.2 j) := by
          intro m
          induction m with
          | zero => intro _ z; exact absurd rfl z
          | succ m ih2 =>
            intro hm z
            by_cases hc2 : ndPa (R.2 m) = nI pi
            · rw [show lfC R.2 (nI pi) (m + 1) = ndFi (R.2 m) from if_pos hc2]
              refine ⟨m, ?_, by omega, hc2, rfl⟩
              apply Classical.byContradiction
              intro z3
              rw [show m = 0 by omega, hp.1] at hc2
              exact nI_ne1 hpi hc2.symm
            · rw [show lfC R.2 (nI pi) (m + 1) = lfC R.2 (nI pi) m from if_neg hc2] at z ⊢
              obtain ⟨j, a1, a2, a3, a4⟩ := ih2 (by omega) z
              exact ⟨j, a1, by omega, a3, a4⟩
        have hne : ¬ lfC R.2 (nI pi) n = -1 := fun z => ih.1 (by rw [z, Int32.lt_iff_toInt_lt, nI_toInt hf]; have : (-1 : Int32).toInt = -1 := rfl; omega)
        obtain ⟨j, a1, a2, a3, a4⟩ := hex n (Nat.le_refl _) hne
        have hj := ho j n a1 a2 (by omega) (a3.trans hc.symm)
        rw [a4] at ih
        have i1 := ih.1
        rw [Int32.lt_iff_toInt_lt] at i1
        rw [Bool.or_eq_false_iff, decide_eq_false_iff_not]
        rcases hj with hj | ⟨hj, hk⟩
        · rw [Int32.lt_iff_toInt_lt] at hj
          refine ⟨by rw [Int32.lt_iff_toInt_lt]; omega, ?_⟩
          rw [decide_eq_false (fun z => by rw [← z] at hj; omega)]
          rfl
        · refine ⟨by rw [← hj, Int32.lt_iff_toInt_lt]; exact i1, ?_⟩
          rw [← hj]
          exact ih.2
    · rw [show lfC R.2 (nI pi) (n + 1) = lfC R.2 (nI pi) n from if_neg hc, decide_eq_false hc, Bool.not_false, Bool.true_or, Bool.and_true]
      exact ih
def mayM (S : Sch) (R : Rec) (pa f : Int32) : Bool := isIx f S.1 && isIx pa R.1 && decide (R.1 < 2000) && mayT R pa.toNatClampNeg f.toNatClampNeg (fKi (S.2 f.toNatClampNeg)) (fGr (S.2 f.toNatClampNeg))
theorem okAdd_may {S : Sch} {R : Rec} {pa f : Int32} {ok : Bool} : okAdd S R pa f ok = (mayM S R pa f && ok) := by
  unfold okAdd mayM
  cases isIx f S.1 <;> cases isIx pa R.1 <;> cases ok <;> simp [Bool.and_comm]

set_option maxHeartbeats 2000000 in
set_option maxRecDepth 100000 in
theorem m_may (l : Launch) (g : z_G) (h : z_H) {mo : Nat} {ma : Nat → Nat} {cod tpd cls9 ffl fcl sai ous il : Int32} {siz at9 : Int32} {S : Sch} {R : Rec} {rw9 : Nat → Nat} {rf : Nat → Nat → Int32} {lf : Nat → Int32} {nf np nr ns : Nat → Int32} {nv : Nat → Int64} {tx : Nat → Int32} {pa f9 : Int32} (hmo : h mo = some ((20, 0), .inr (11, mF ma cod tpd siz (nI S.1) cls9 ffl fcl (nI R.1) sai ous at9 il))) (hSc : MSp g h (ma 2) (ma 4) 23 27 S rw9 rf lf) (hNd : MNp g h ma R nf np nr ns nv tx) (hs8 : S.1 ≤ 128) (hR2 : R.1 ≤ 2000) (hR1 : 0 < R.1) (hpa : paOK R) (ho : ordOK S R) : z_C l y_M_may prog_13_method_38_code 6 (Option.some Jvm.ClassFile.FieldType.boolean) 1 60 0 0 g [.ref mo, .int pa, .int f9] h (fun x h1 => x = some (.int (zb (mayM S R pa f9))) ∧ h = h1) := by
  refine z_C.of (by decide) (Nat.le_of_ble_eq_true rfl) (fun pg en s m below meth cd A ls hx hb hml hr hts hown hlocks hnm hK hE hA hw hl => ?_)
  have hl : lv_has ls 6 [(0, .ref mo), (1, .int pa), (2, .int f9)] := hl
  have hrw_0 : h (rw9 0) = some ((24, 0), .inl (g.2.1 1, 128, .inl (rf 0))) := hSc.2.1 0 (by omega)
  have hrw_2 : h (rw9 2) = some ((24, 2), .inl (g.2.1 1, 128, .inl (rf 2))) := hSc.2.1 2 (by omega)
  refine lv_aload_n hx hb d_M_may_0 rfl (lv_at hl 0 rfl) ?_
  refine lv_iload_n hx hb d_M_may_1 rfl (lv_at hl 2 rfl) ?_
  refine z_callV (n := 1) (As := [.int f9]) (rest := []) ⟨hx, hb, hml, hown, hts⟩ (m_isField (F := S.1) l g h hmo (by omega)) (z_in k_943 rfl) (z_in k_7 rfl) (z_in k_940 rfl) (z_in k_942 rfl) (z_in ks_36 rfl) (by decide +kernel) ⟨by first | exact Nat.le_of_ble_eq_true rfl | (dsimp only; omega) | omega, by first | exact Nat.le_of_ble_eq_true rfl | (dsimp only; omega) | omega⟩ hK hE hw hA rfl hmo rfl hl.1 (Nat.le_of_ble_eq_true rfl) d_M_may_2 ⟨by first | exact Nat.le_of_ble_eq_true rfl | (dsimp only; omega) | omega, by first | exact Nat.le_of_ble_eq_true rfl | (dsimp only; omega) | omega⟩ rfl (fun r9 h9 H locs hp hw => ?_)
  obtain ⟨r8, h8⟩ := hp
  subst r8
  subst h8
  refine W.eq (g2 := F0 m 5 ls [.int (zb (isIx f9 S.1))]) rfl ?_
  refine lv_if_eq (tgt := 30) hx hb d_M_may_5 (by decide) (fun c_5 => ?_) (fun c_5 => ?_)
  · -- 5: True
    have c_5 : (isIx f9 S.1) = false := zb_f c_5
    refine lv_iconst (v := 0) hx hb d_M_may_30 (by decide) ?_
    exact z_zret hx hb hr rfl hlocks hw (by refine ⟨congrArg some (congrArg Value.int ?_), rfl⟩; unfold mayM; rw [c_5]; rfl) (by decide) (by decide) d_M_may_31
  · -- 5: False
    have c_5 : (isIx f9 S.1) = true := zb_t c_5
    refine lv_iload_n hx hb d_M_may_8 rfl (lv_at hl 1 rfl) ?_
    refine lv_if_lt (tgt := 30) hx hb d_M_may_9 (by decide) (fun c_9 => ?_) (fun c_9 => ?_)
    · -- 9: True
      refine lv_iconst (v := 0) hx hb d_M_may_30 (by decide) ?_
      exact z_zret hx hb hr rfl hlocks hw (by refine ⟨congrArg some (congrArg Value.int ?_), rfl⟩; unfold mayM; rw [isIx_no (Or.inl c_9), Bool.and_false]; rfl) (by decide) (by decide) d_M_may_31
    · -- 9: False
      refine lv_iload_n hx hb d_M_may_12 rfl (lv_at hl 1 rfl) ?_
      refine lv_aload_n hx hb d_M_may_13 rfl (lv_at hl 0 rfl) ?_
      refine z_get hx hb hts (z_lay i_M) hown hK hw hmo rfl 18 (by decide) (z_in k_789 rfl) (fun _ h9 => h9) rfl d_M_may_14 ?_
      refine lv_icmp_ge (tgt := 30) hx hb d_M_may_17 (by decide) (fun c_17 => ?_) (fun c_17 => ?_)
      · -- 17: True
        refine lv_iconst (v := 0) hx hb d_M_may_30 (by decide) ?_
        exact z_zret hx hb hr rfl hlocks hw (by refine ⟨congrArg some (congrArg Value.int ?_), rfl⟩; unfold mayM; rw [isIx_no (Or.inr c_17), Bool.and_false]; rfl) (by decide) (by decide) d_M_may_31
      · -- 17: False
        refine lv_aload_n hx hb d_M_may_20 rfl (lv_at hl 0 rfl) ?_
        refine z_get hx hb hts (z_lay i_M) hown hK hw hmo rfl 18 (by decide) (z_in k_789 rfl) (fun _ h9 => h9) rfl d_M_may_21 ?_
        refine lv_sipush (v := 2000) hx hb d_M_may_24 (by decide) ?_
        refine lv_icmp_ne (tgt := 32) hx hb d_M_may_27 (by decide) (fun c_27 => ?_) (fun c_27 => ?_)
        · -- 27: True
          have c_27 : ¬ (R.1 = 2000) := fun z => c_27 ((nI_eq (a := R.1) (b := 2000) (by omega) (by omega)).mpr z)
          obtain ⟨fi, hfi, ef⟩ := isIx_ex c_5 (by omega)
          obtain ⟨pi, hpi, ep⟩ : ∃ i, i < R.1 ∧ pa = nI i := (ix_cases pa (show R.1 < 2 ^ 31 by omega)).resolve_left (fun z => z.elim c_9 c_17)
          have hl : lv_has ls 6 [(0, .ref mo), (1, .int (nI pi)), (2, .int (nI fi))] := by rw [← ef, ← ep]; exact hl
          have hR9 : R.1 < 2000 := by omega
          have eM : mayM S R pa f9 = (decide (ndFi (R.2 pi) = fGr (S.2 fi)) && opn R pi && (decide (lfC R.2 (nI pi) R.1 < nI fi) || (decide (nI fi = lfC R.2 (nI pi) R.1) && decide (fKi (S.2 fi) = 2)))) := by unfold mayM; rw [ef, ep, isIx_yes hfi (by omega), isIx_yes hpi (by omega), decide_eq_true hR9, nI_clamp (by omega), nI_clamp (by omega)]; rfl
          rw [← anc_opn hpa hR2 hpi, ← allC_lf ho hpa (by omega) (by omega) R.1 (Nat.le_refl _)] at eM
          refine lv_iconst (v := 0) hx hb d_M_may_32 (by decide) ?_
          refine lv_istore_n (lv' := [(3, .int 0), (0, .ref mo), (1, .int (nI pi)), (2, .int (nI fi))]) hx hb d_M_may_33 rfl hl (by decide) rfl (fun ls hl => ?_)
          refine lv_aload_n hx hb d_M_may_34 rfl (lv_at hl 1 rfl) ?_
          refine z_get hx hb hts (z_lay i_M) hown hK hw hmo rfl 18 (by decide) (z_in k_789 rfl) (fun _ h9 => h9) rfl d_M_may_35 ?_
          refine lv_iconst (v := 1) hx hb d_M_may_38 (by decide) ?_
          refine lv_isub hx hb d_M_may_39 ?_
          refine z_topi (y := nI (R.1 - 1)) (pk_sub (a := R.1) (b := 1) (by omega)) ?_
          refine lv_istore (lv' := [(4, .int (nI (R.1 - 1))), (3, .int 0), (0, .ref mo), (1, .int (nI pi)), (2, .int (nI fi))]) hx hb d_M_may_40 hl (by decide) rfl (fun ls hl => ?_)
          have loop_42 : ∀ (fuel : Nat) (k9 : Nat) (u : Int32) (op : Bool) (H : Heap) (locs : List Loc) (ls : Array Slot)  (hu9 : ndN R u) (hgk : grM u ≤ k9) (hop : (op || anc R.2 pi k9 u) = anc R.2 pi R.1 (nI (R.1 - 1))), k9 < fuel → z_S g A s.heap h H locs → lv_has ls 6 [(0, .ref mo), (1, .int (nI pi)), (2, .int (nI fi)), (3, .int (zb op)), (4, .int u)] → W pg l en { frames := 1, cells := 0, slots := 0, locals := 60 } s m [.ref mo, .int pa, .int f9].toArray below meth cd H locs 0 0 (MQ below (z_Q g A (fun x h1 => x = some (.int (zb (mayM S R pa f9))) ∧ h = h1)) [.ref mo, .int pa, .int f9].toArray s 0 0 A) (F0 m 42 ls []) := by
            intro fuel
            induction fuel with
            | zero => intro k9 u op H locs ls hu9 hgk hop hm; exact absurd hm (Nat.not_lt_zero _)
            | succ fuel ih_42 =>
              intro k9 u op H locs ls hu9 hgk hop hm hw hl
              refine lv_iload hx hb d_M_may_42 (lv_at hl 4 rfl) ?_
              refine lv_iconst (v := (-1)) hx hb d_M_may_44 (by decide) ?_
              refine lv_icmp_eq (tgt := 76) hx hb d_M_may_45 (by decide) (fun c_45 => ?_) (fun c_45 => ?_)
              · -- 45: True
                have loop_107 : ∀ (fuel : Nat) (j : Nat) (my : Bool) (H : Heap) (locs : List Loc) (ls : Array Slot)  (hj9 : j ≤ R.1) (hmy : my = ((decide (ndFi (R.2 pi) = fGr (S.2 fi)) && anc R.2 pi R.1 (nI (R.1 - 1))) && allC R.2 pi fi (fKi (S.2 fi)) j)), (R.1 - j) < fuel → z_S g A s.heap h H locs → lv_has ls 6 [(0, .ref mo), (1, .int (nI pi)), (2, .int (nI fi)), (4, .int (zb my)), (5, .int (nI j))] → W pg l en { frames := 1, cells := 0, slots := 0, locals := 60 } s m [.ref mo, .int pa, .int f9].toArray below meth cd H locs 0 0 (MQ below (z_Q g A (fun x h1 => x = some (.int (zb (mayM S R pa f9))) ∧ h = h1)) [.ref mo, .int pa, .int f9].toArray s 0 0 A) (F0 m 107 ls []) := by
                  intro fuel
                  induction fuel with
                  | zero => intro j my H locs ls hj9 hmy hm; exact absurd hm (Nat.not_lt_zero _)
                  | succ fuel ih_107 =>
                    intro j my H locs ls hj9 hmy hm hw hl
                    refine lv_iload hx hb d_M_may_107 (lv_at hl 4 rfl) ?_
                    refine lv_aload_n hx hb d_M_may_109 rfl (lv_at hl 0 rfl) ?_
                    refine z_get hx hb hts (z_lay i_M) hown hK hw hmo rfl 18 (by decide) (z_in k_789 rfl) (fun _ h9 => h9) rfl d_M_may_110 ?_
                    refine lv_icmp_ge (tgt := 179) hx hb d_M_may_113 (by decide) (fun c_113 => ?_) (fun c_113 => ?_)
                    · -- 113: True
                      have c_113 : R.1 ≤ j := (nI_leI (a := R.1) (b := j) (by omega) (by omega)).mp c_113
                      refine lv_iload hx hb d_M_may_179 (lv_at hl 3 rfl) ?_
                      exact z_zret hx hb hr (zb_n _) hlocks hw (by refine ⟨congrArg some (congrArg Value.int ?_), rfl⟩; rw [eM, hmy, show j = R.1 by omega]) (by decide) (by decide) d_M_may_181
                    · -- 113: False
                      have c_113 : ¬ (R.1 ≤ j) := fun z => c_113 ((nI_leI (a := R.1) (b := j) (by omega) (by omega)).mpr z)
                      refine lv_aload_n hx hb d_M_may_116 rfl (lv_at hl 0 rfl) ?_
                      refine z_get hx hb hts (z_lay i_M) hown hK hw hmo rfl 14 (by decide) (z_in k_785 rfl) (fun _ h9 => h9) rfl d_M_may_117 ?_
                      refine lv_iload hx hb d_M_may_120 (lv_at hl 4 rfl) ?_
                      refine z_iald hx hb hK hw hNd.2.1 1 rfl (vp_in_nI (by omega) (by omega)) d_M_may_122 ?_
                      refine z_topi (y := np j) (by rw [nI_clamp (by omega)]) ?_
                      refine z_top (y := .int (ndPa (R.2 j))) (by rw [(hNd.2.2.2.2.2.2 j (by omega)).2.1]) ?_
                      refine lv_iload_n hx hb d_M_may_123 rfl (lv_at hl 1 rfl) ?_
                      refine lv_icmp_ne (tgt := 173) hx hb d_M_may_124 (by decide) (fun c_124 => ?_) (fun c_124 => ?_)
                      · -- 124: True
                        refine lv_iinc (v := nI (j + 1)) (lv' := [(5, .int (nI (j + 1))), (0, .ref mo), (1, .int (nI pi)), (2, .int (nI fi)), (4, .int (zb my))]) hx hb d_M_may_173 hl (k := 4) rfl (nI_1 j) (by decide) rfl (fun ls hl => ?_)
                        refine lv_goto (tgt := 107) hx hb d_M_may_176 (by decide) ?_
                        refine ih_107 (j + 1) my _ _ _ (by omega) (by simp only [allC]; rw [← Bool.and_assoc, ← hmy, decide_eq_false (show ¬ ndPa (R.2 j) = nI pi from c_124)]; simp) ?_ hw (lv_sub hl [1, 2, 3, 4, 0] rfl)
                        omega
                      · -- 124: False
                        refine lv_iload hx hb d_M_may_127 (lv_at hl 3 rfl) ?_
                        refine lv_if_eq (tgt := 170) hx hb d_M_may_129 (by decide) (fun c_129 => ?_) (fun c_129 => ?_)
                        · -- 129: True
                          have c_129 : my = false := zb_f c_129
                          refine lv_iconst (v := 0) hx hb d_M_may_170 (by decide) ?_
                          refine lv_istore (lv' := [(4, .int 0), (0, .ref mo), (1, .int (nI pi)), (2, .int (nI fi)), (5, .int (nI j))]) hx hb d_M_may_171 hl (by decide) rfl (fun ls hl => ?_)
                          refine lv_iinc (v := nI (j + 1)) (lv' := [(5, .int (nI (j + 1))), (4, .int 0), (0, .ref mo), (1, .int (nI pi)), (2, .int (nI fi))]) hx hb d_M_may_173 hl (k := 4) rfl (nI_1 j) (by decide) rfl (fun ls hl => ?_)
                          refine lv_goto (tgt := 107) hx hb d_M_may_176 (by decide) ?_
                          refine ih_107 (j + 1) false _ _ _ (by omega) (by simp only [allC]; rw [← Bool.and_assoc, ← hmy, decide_eq_true (show ndPa (R.2 j) = nI pi by simpa using c_124), c_129]; rfl) ?_ hw (lv_sub hl [2, 3, 4, 1, 0] rfl)
                          omega
                        · -- 129: False
                          have c_129 : my = true := zb_t c_129
                          refine lv_aload_n hx hb d_M_may_132 rfl (lv_at hl 0 rfl) ?_
                          refine z_get hx hb hts (z_lay i_M) hown hK hw hmo rfl 13 (by decide) (z_in k_784 rfl) (fun _ h9 => h9) rfl d_M_may_133 ?_
                          refine lv_iload hx hb d_M_may_136 (lv_at hl 4 rfl) ?_
                          refine z_iald hx hb hK hw hNd.1 1 rfl (vp_in_nI (by omega) (by omega)) d_M_may_138 ?_
                          refine z_topi (y := nf j) (by rw [nI_clamp (by omega)]) ?_
                          refine z_top (y := .int (ndFi (R.2 j))) (by rw [(hNd.2.2.2.2.2.2 j (by omega)).1]) ?_
                          refine lv_iload_n hx hb d_M_may_139 rfl (lv_at hl 2 rfl) ?_
                          refine lv_icmp_lt (tgt := 166) hx hb d_M_may_140 (by decide) (fun c_140 => ?_) (fun c_140 => ?_)
                          · -- 140: True
                            refine lv_iconst (v := 1) hx hb d_M_may_166 (by decide) ?_
                            refine lv_goto (tgt := 171) hx hb d_M_may_167 (by decide) ?_
                            refine lv_istore (lv' := [(4, .int 1), (0, .ref mo), (1, .int (nI pi)), (2, .int (nI fi)), (5, .int (nI j))]) hx hb d_M_may_171 hl (by decide) rfl (fun ls hl => ?_)
                            refine lv_iinc (v := nI (j + 1)) (lv' := [(5, .int (nI (j + 1))), (4, .int 1), (0, .ref mo), (1, .int (nI pi)), (2, .int (nI fi))]) hx hb d_M_may_173 hl (k := 4) rfl (nI_1 j) (by decide) rfl (fun ls hl => ?_)
                            refine lv_goto (tgt := 107) hx hb d_M_may_176 (by decide) ?_
                            refine ih_107 (j + 1) true _ _ _ (by omega) (by simp only [allC]; rw [← Bool.and_assoc, ← hmy, decide_eq_true (show ndPa (R.2 j) = nI pi by simpa using c_124), c_129, decide_eq_true (show ndFi (R.2 j) < nI fi from c_140)]; rfl) ?_ hw (lv_sub hl [2, 3, 4, 1, 0] rfl)
                            omega
                          · -- 140: False
                            refine lv_aload_n hx hb d_M_may_143 rfl (lv_at hl 0 rfl) ?_
                            refine z_get hx hb hts (z_lay i_M) hown hK hw hmo rfl 13 (by decide) (z_in k_784 rfl) (fun _ h9 => h9) rfl d_M_may_144 ?_
                            refine lv_iload hx hb d_M_may_147 (lv_at hl 4 rfl) ?_
                            refine z_iald hx hb hK hw hNd.1 1 rfl (vp_in_nI (by omega) (by omega)) d_M_may_149 ?_
                            refine z_topi (y := nf j) (by rw [nI_clamp (by omega)]) ?_
                            refine z_top (y := .int (ndFi (R.2 j))) (by rw [(hNd.2.2.2.2.2.2 j (by omega)).1]) ?_
                            refine lv_iload_n hx hb d_M_may_150 rfl (lv_at hl 2 rfl) ?_
                            refine lv_icmp_ne (tgt := 170) hx hb d_M_may_151 (by decide) (fun c_151 => ?_) (fun c_151 => ?_)
                            · -- 151: True
                              refine lv_iconst (v := 0) hx hb d_M_may_170 (by decide) ?_
                              refine lv_istore (lv' := [(4, .int 0), (0, .ref mo), (1, .int (nI pi)), (2, .int (nI fi)), (5, .int (nI j))]) hx hb d_M_may_171 hl (by decide) rfl (fun ls hl => ?_)
                              refine lv_iinc (v := nI (j + 1)) (lv' := [(5, .int (nI (j + 1))), (4, .int 0), (0, .ref mo), (1, .int (nI pi)), (2, .int (nI fi))]) hx hb d_M_may_173 hl (k := 4) rfl (nI_1 j) (by decide) rfl (fun ls hl => ?_)
                              refine lv_goto (tgt := 107) hx hb d_M_may_176 (by decide) ?_
                              refine ih_107 (j + 1) false _ _ _ (by omega) (by simp only [allC]; rw [← Bool.and_assoc, ← hmy, decide_eq_true (show ndPa (R.2 j) = nI pi by simpa using c_124), c_129, decide_eq_false (show ¬ ndFi (R.2 j) < nI fi from c_140), decide_eq_false (show ¬ ndFi (R.2 j) = nI fi from c_151)]; rfl) ?_ hw (lv_sub hl [2, 3, 4, 1, 0] rfl)
                              omega
                            · -- 151: False
                              refine lv_aload_n hx hb d_M_may_154 rfl (lv_at hl 0 rfl) ?_
                              refine z_get hx hb hts (z_lay i_M) hown hK hw hmo rfl 5 (by decide) (z_in k_776 rfl) (fun _ h9 => h9) rfl d_M_may_155 ?_
                              refine lv_iconst (v := 0) hx hb d_M_may_158 (by decide) ?_
                              refine z_aldr hx hb hK hw hSc.1 5 rfl (by unfold vp_in; decide) d_M_may_159 ?_
                              refine z_top (y := va_rf ((fun k => some (rw9 k)) 0)) (by rfl) ?_
                              refine z_top (y := .ref (rw9 0)) (rfl) ?_
                              refine lv_iload_n hx hb d_M_may_160 rfl (lv_at hl 2 rfl) ?_
                              refine z_iald hx hb hK hw hrw_0 1 rfl (vp_in_nI (by omega) (by omega)) d_M_may_161 ?_
                              refine z_topi (y := (rf 0) fi) (by rw [nI_clamp (by omega)]) ?_
                              refine z_top (y := .int (fKi (S.2 fi))) (by rw [(hSc.2.2.2 fi hfi).1]) ?_
                              refine lv_iconst (v := 2) hx hb d_M_may_162 (by decide) ?_
                              refine lv_icmp_ne (tgt := 170) hx hb d_M_may_163 (by decide) (fun c_163 => ?_) (fun c_163 => ?_)
                              · -- 163: True
                                refine lv_iconst (v := 0) hx hb d_M_may_170 (by decide) ?_
                                refine lv_istore (lv' := [(4, .int 0), (0, .ref mo), (1, .int (nI pi)), (2, .int (nI fi)), (5, .int (nI j))]) hx hb d_M_may_171 hl (by decide) rfl (fun ls hl => ?_)
                                refine lv_iinc (v := nI (j + 1)) (lv' := [(5, .int (nI (j + 1))), (4, .int 0), (0, .ref mo), (1, .int (nI pi)), (2, .int (nI fi))]) hx hb d_M_may_173 hl (k := 4) rfl (nI_1 j) (by decide) rfl (fun ls hl => ?_)
                                refine lv_goto (tgt := 107) hx hb d_M_may_176 (by decide) ?_
                                refine ih_107 (j + 1) false _ _ _ (by omega) (by simp only [allC]; rw [← Bool.and_assoc, ← hmy, decide_eq_true (show ndPa (R.2 j) = nI pi by simpa using c_124), c_129, decide_eq_false (show ¬ ndFi (R.2 j) < nI fi from c_140), decide_eq_true (show ndFi (R.2 j) = nI fi by simpa using c_151), decide_eq_false (show ¬ fKi (S.2 fi) = 2 from c_163)]; rfl) ?_ hw (lv_sub hl [2, 3, 4, 1, 0] rfl)
                                omega
                              · -- 163: False
                                refine lv_iconst (v := 1) hx hb d_M_may_166 (by decide) ?_
                                refine lv_goto (tgt := 171) hx hb d_M_may_167 (by decide) ?_
                                refine lv_istore (lv' := [(4, .int 1), (0, .ref mo), (1, .int (nI pi)), (2, .int (nI fi)), (5, .int (nI j))]) hx hb d_M_may_171 hl (by decide) rfl (fun ls hl => ?_)
                                refine lv_iinc (v := nI (j + 1)) (lv' := [(5, .int (nI (j + 1))), (4, .int 1), (0, .ref mo), (1, .int (nI pi)), (2, .int (nI fi))]) hx hb d_M_may_173 hl (k := 4) rfl (nI_1 j) (by decide) rfl (fun ls hl => ?_)
                                refine lv_goto (tgt := 107) hx hb d_M_may_176 (by decide) ?_
                                refine ih_107 (j + 1) true _ _ _ (by omega) (by simp only [allC]; rw [← Bool.and_assoc, ← hmy, decide_eq_true (show ndPa (R.2 j) = nI pi by simpa using c_124), c_129, decide_eq_false (show ¬ ndFi (R.2 j) < nI fi from c_140), decide_eq_true (show ndFi (R.2 j) = nI fi by simpa using c_151), decide_eq_true (show fKi (S.2 fi) = 2 by simpa using c_163)]; rfl) ?_ hw (lv_sub hl [2, 3, 4, 1, 0] rfl)
                                omega
                refine lv_iload_n hx hb d_M_may_76 rfl (lv_at hl 3 rfl) ?_
                refine lv_if_eq (tgt := 101) hx hb d_M_may_77 (by decide) (fun c_77 => ?_) (fun c_77 => ?_)
                · -- 77: True
                  have c_77 : op = false := zb_f c_77
                  refine lv_iconst (v := 0) hx hb d_M_may_101 (by decide) ?_
                  refine lv_istore (lv' := [(4, .int 0), (0, .ref mo), (1, .int (nI pi)), (2, .int (nI fi)), (3, .int (zb op))]) hx hb d_M_may_102 hl (by decide) rfl (fun ls hl => ?_)
                  refine lv_iconst (v := 1) hx hb d_M_may_104 (by decide) ?_
                  refine lv_istore (lv' := [(5, .int 1), (4, .int 0), (0, .ref mo), (1, .int (nI pi)), (2, .int (nI fi)), (3, .int (zb op))]) hx hb d_M_may_105 hl (by decide) rfl (fun ls hl => ?_)
                  exact loop_107 (R.1 - 1 + 1) 1 false  _ _ _  (by omega) (by have e9 : op = anc R.2 pi R.1 (nI (R.1 - 1)) := (by rw [← hop, show u = -1 by simpa using c_45]; cases k9 <;> simp [anc]); rw [← e9, c_77, Bool.and_false]; rfl) (by omega) hw (lv_sub hl [2, 3, 4, 1, 0] rfl)
                · -- 77: False
                  have c_77 : op = true := zb_t c_77
                  refine lv_aload_n hx hb d_M_may_80 rfl (lv_at hl 0 rfl) ?_
                  refine z_get hx hb hts (z_lay i_M) hown hK hw hmo rfl 5 (by decide) (z_in k_776 rfl) (fun _ h9 => h9) rfl d_M_may_81 ?_
                  refine lv_iconst (v := 2) hx hb d_M_may_84 (by decide) ?_
                  refine z_aldr hx hb hK hw hSc.1 5 rfl (by unfold vp_in; decide) d_M_may_85 ?_
                  refine z_top (y := va_rf ((fun k => some (rw9 k)) 2)) (by rfl) ?_
                  refine z_top (y := .ref (rw9 2)) (rfl) ?_
                  refine lv_iload_n hx hb d_M_may_86 rfl (lv_at hl 2 rfl) ?_
                  refine z_iald hx hb hK hw hrw_2 1 rfl (vp_in_nI (by omega) (by omega)) d_M_may_87 ?_
                  refine z_topi (y := (rf 2) fi) (by rw [nI_clamp (by omega)]) ?_
                  refine z_top (y := .int (fGr (S.2 fi))) (by rw [(hSc.2.2.2 fi hfi).2.2.1]) ?_
                  refine lv_aload_n hx hb d_M_may_88 rfl (lv_at hl 0 rfl) ?_
                  refine z_get hx hb hts (z_lay i_M) hown hK hw hmo rfl 13 (by decide) (z_in k_784 rfl) (fun _ h9 => h9) rfl d_M_may_89 ?_
                  refine lv_iload_n hx hb d_M_may_92 rfl (lv_at hl 1 rfl) ?_
                  refine z_iald hx hb hK hw hNd.1 1 rfl (vp_in_nI (by omega) (by omega)) d_M_may_93 ?_
                  refine z_topi (y := nf pi) (by rw [nI_clamp (by omega)]) ?_
                  refine z_top (y := .int (ndFi (R.2 pi))) (by rw [(hNd.2.2.2.2.2.2 pi hpi).1]) ?_
                  refine lv_icmp_ne (tgt := 101) hx hb d_M_may_94 (by decide) (fun c_94 => ?_) (fun c_94 => ?_)
                  · -- 94: True
                    refine lv_iconst (v := 0) hx hb d_M_may_101 (by decide) ?_
                    refine lv_istore (lv' := [(4, .int 0), (0, .ref mo), (1, .int (nI pi)), (2, .int (nI fi)), (3, .int (zb op))]) hx hb d_M_may_102 hl (by decide) rfl (fun ls hl => ?_)
                    refine lv_iconst (v := 1) hx hb d_M_may_104 (by decide) ?_
                    refine lv_istore (lv' := [(5, .int 1), (4, .int 0), (0, .ref mo), (1, .int (nI pi)), (2, .int (nI fi)), (3, .int (zb op))]) hx hb d_M_may_105 hl (by decide) rfl (fun ls hl => ?_)
                    exact loop_107 (R.1 - 1 + 1) 1 false  _ _ _  (by omega) (by have e9 : op = anc R.2 pi R.1 (nI (R.1 - 1)) := (by rw [← hop, show u = -1 by simpa using c_45]; cases k9 <;> simp [anc]); rw [← e9, c_77, decide_eq_false (show ¬ ndFi (R.2 pi) = fGr (S.2 fi) from fun z => c_94 z.symm)]; simp only [allC]; rw [decide_eq_false (show ¬ ndPa (R.2 0) = nI pi by rw [hpa.1]; exact fun z => nI_ne1 (by omega) z.symm)]; rfl) (by omega) hw (lv_sub hl [2, 3, 4, 1, 0] rfl)
                  · -- 94: False
                    refine lv_iconst (v := 1) hx hb d_M_may_97 (by decide) ?_
                    refine lv_goto (tgt := 102) hx hb d_M_may_98 (by decide) ?_
                    refine lv_istore (lv' := [(4, .int 1), (0, .ref mo), (1, .int (nI pi)), (2, .int (nI fi)), (3, .int (zb op))]) hx hb d_M_may_102 hl (by decide) rfl (fun ls hl => ?_)
                    refine lv_iconst (v := 1) hx hb d_M_may_104 (by decide) ?_
                    refine lv_istore (lv' := [(5, .int 1), (4, .int 1), (0, .ref mo), (1, .int (nI pi)), (2, .int (nI fi)), (3, .int (zb op))]) hx hb d_M_may_105 hl (by decide) rfl (fun ls hl => ?_)
                    exact loop_107 (R.1 - 1 + 1) 1 true  _ _ _  (by omega) (by have e9 : op = anc R.2 pi R.1 (nI (R.1 - 1)) := (by rw [← hop, show u = -1 by simpa using c_45]; cases k9 <;> simp [anc]); rw [← e9, c_77, decide_eq_true (show ndFi (R.2 pi) = fGr (S.2 fi) from (show fGr (S.2 fi) = ndFi (R.2 pi) by simpa using c_94).symm)]; simp only [allC]; rw [decide_eq_false (show ¬ ndPa (R.2 0) = nI pi by rw [hpa.1]; exact fun z => nI_ne1 (by omega) z.symm)]; rfl) (by omega) hw (lv_sub hl [2, 3, 4, 1, 0] rfl)
              · -- 45: False
                obtain ⟨u9, hu8, eu⟩ := hu9.resolve_left c_45
                have hl : lv_has ls 6 [(0, .ref mo), (1, .int (nI pi)), (2, .int (nI fi)), (3, .int (zb op)), (4, .int (nI u9))] := by rw [← eu]; exact hl
                have hgk0 : 0 < k9 := by rw [eu, grM_n (by omega)] at hgk; omega
                refine lv_iload_n hx hb d_M_may_48 rfl (lv_at hl 3 rfl) ?_
                refine lv_if_ne (tgt := 58) hx hb d_M_may_49 (by decide) (fun c_49 => ?_) (fun c_49 => ?_)
                · -- 49: True
                  have c_49 : op = true := zb_t c_49
                  refine lv_iconst (v := 1) hx hb d_M_may_58 (by decide) ?_
                  refine lv_goto (tgt := 63) hx hb d_M_may_59 (by decide) ?_
                  refine lv_istore_n (lv' := [(3, .int 1), (0, .ref mo), (1, .int (nI pi)), (2, .int (nI fi)), (4, .int (nI u9))]) hx hb d_M_may_63 rfl hl (by decide) rfl (fun ls hl => ?_)
                  refine lv_aload_n hx hb d_M_may_64 rfl (lv_at hl 1 rfl) ?_
                  refine z_get hx hb hts (z_lay i_M) hown hK hw hmo rfl 14 (by decide) (z_in k_785 rfl) (fun _ h9 => h9) rfl d_M_may_65 ?_
                  refine lv_iload hx hb d_M_may_68 (lv_at hl 4 rfl) ?_
                  refine z_iald hx hb hK hw hNd.2.1 1 rfl (vp_in_nI (by omega) (by omega)) d_M_may_70 ?_
                  refine z_topi (y := np u9) (by rw [nI_clamp (by omega)]) ?_
                  refine z_top (y := .int (ndPa (R.2 u9))) (by rw [(hNd.2.2.2.2.2.2 u9 hu8).2.1]) ?_
                  refine lv_istore (lv' := [(4, .int (ndPa (R.2 u9))), (3, .int 1), (0, .ref mo), (1, .int (nI pi)), (2, .int (nI fi))]) hx hb d_M_may_71 hl (by decide) rfl (fun ls hl => ?_)
                  refine lv_goto (tgt := 42) hx hb d_M_may_73 (by decide) ?_
                  refine ih_42 (k9 - 1) (ndPa (R.2 u9)) true _ _ _ ((ndN_up hpa hR2 hu8).1) (by have := (ndN_up hpa hR2 hu8).2; rw [← eu] at this; omega) (by obtain ⟨k5, ek5⟩ : ∃ k5, k9 = k5 + 1 := ⟨k9 - 1, by rw [eu, grM_n (by omega)] at hgk; omega⟩; rw [← hop, ek5, Nat.add_sub_cancel, eu]; simp only [anc]; rw [if_neg (nI_ne1 (by omega)), nI_clamp (by omega), c_49, Bool.true_or, Bool.true_or]) ?_ hw (lv_sub hl [2, 3, 4, 1, 0] rfl)
                  omega
                · -- 49: False
                  have c_49 : op = false := zb_f c_49
                  refine lv_iload hx hb d_M_may_52 (lv_at hl 4 rfl) ?_
                  refine lv_iload_n hx hb d_M_may_54 rfl (lv_at hl 1 rfl) ?_
                  refine lv_icmp_ne (tgt := 62) hx hb d_M_may_55 (by decide) (fun c_55 => ?_) (fun c_55 => ?_)
                  · -- 55: True
                    have c_55 : ¬ (u9 = pi) := fun z => c_55 ((nI_eq (a := u9) (b := pi) (by omega) (by omega)).mpr z)
                    refine lv_iconst (v := 0) hx hb d_M_may_62 (by decide) ?_
                    refine lv_istore_n (lv' := [(3, .int 0), (0, .ref mo), (1, .int (nI pi)), (2, .int (nI fi)), (4, .int (nI u9))]) hx hb d_M_may_63 rfl hl (by decide) rfl (fun ls hl => ?_)
                    refine lv_aload_n hx hb d_M_may_64 rfl (lv_at hl 1 rfl) ?_
                    refine z_get hx hb hts (z_lay i_M) hown hK hw hmo rfl 14 (by decide) (z_in k_785 rfl) (fun _ h9 => h9) rfl d_M_may_65 ?_
                    refine lv_iload hx hb d_M_may_68 (lv_at hl 4 rfl) ?_
                    refine z_iald hx hb hK hw hNd.2.1 1 rfl (vp_in_nI (by omega) (by omega)) d_M_may_70 ?_
                    refine z_topi (y := np u9) (by rw [nI_clamp (by omega)]) ?_
                    refine z_top (y := .int (ndPa (R.2 u9))) (by rw [(hNd.2.2.2.2.2.2 u9 hu8).2.1]) ?_
                    refine lv_istore (lv' := [(4, .int (ndPa (R.2 u9))), (3, .int 0), (0, .ref mo), (1, .int (nI pi)), (2, .int (nI fi))]) hx hb d_M_may_71 hl (by decide) rfl (fun ls hl => ?_)
                    refine lv_goto (tgt := 42) hx hb d_M_may_73 (by decide) ?_
                    refine ih_42 (k9 - 1) (ndPa (R.2 u9)) false _ _ _ ((ndN_up hpa hR2 hu8).1) (by have := (ndN_up hpa hR2 hu8).2; rw [← eu] at this; omega) (by obtain ⟨k5, ek5⟩ : ∃ k5, k9 = k5 + 1 := ⟨k9 - 1, by rw [eu, grM_n (by omega)] at hgk; omega⟩; rw [← hop, ek5, Nat.add_sub_cancel, eu]; simp only [anc]; rw [if_neg (nI_ne1 (by omega)), nI_clamp (by omega), c_49, Bool.false_or, decide_eq_false (fun z => c_55 ((nI_eq (a := u9) (b := pi) (by omega) (by omega)).mp z))]; first | done | rfl) ?_ hw (lv_sub hl [2, 3, 4, 1, 0] rfl)
                    omega
                  · -- 55: False
                    have c_55 : u9 = pi := (nI_eq (a := u9) (b := pi) (by omega) (by omega)).mp c_55
                    refine lv_iconst (v := 1) hx hb d_M_may_58 (by decide) ?_
                    refine lv_goto (tgt := 63) hx hb d_M_may_59 (by decide) ?_
                    refine lv_istore_n (lv' := [(3, .int 1), (0, .ref mo), (1, .int (nI pi)), (2, .int (nI fi)), (4, .int (nI u9))]) hx hb d_M_may_63 rfl hl (by decide) rfl (fun ls hl => ?_)
                    refine lv_aload_n hx hb d_M_may_64 rfl (lv_at hl 1 rfl) ?_
                    refine z_get hx hb hts (z_lay i_M) hown hK hw hmo rfl 14 (by decide) (z_in k_785 rfl) (fun _ h9 => h9) rfl d_M_may_65 ?_
                    refine lv_iload hx hb d_M_may_68 (lv_at hl 4 rfl) ?_
                    refine z_iald hx hb hK hw hNd.2.1 1 rfl (vp_in_nI (by omega) (by omega)) d_M_may_70 ?_
                    refine z_topi (y := np u9) (by rw [nI_clamp (by omega)]) ?_
                    refine z_top (y := .int (ndPa (R.2 u9))) (by rw [(hNd.2.2.2.2.2.2 u9 hu8).2.1]) ?_
                    refine lv_istore (lv' := [(4, .int (ndPa (R.2 u9))), (3, .int 1), (0, .ref mo), (1, .int (nI pi)), (2, .int (nI fi))]) hx hb d_M_may_71 hl (by decide) rfl (fun ls hl => ?_)
                    refine lv_goto (tgt := 42) hx hb d_M_may_73 (by decide) ?_
                    refine ih_42 (k9 - 1) (ndPa (R.2 u9)) true _ _ _ ((ndN_up hpa hR2 hu8).1) (by have := (ndN_up hpa hR2 hu8).2; rw [← eu] at this; omega) (by obtain ⟨k5, ek5⟩ : ∃ k5, k9 = k5 + 1 := ⟨k9 - 1, by rw [eu, grM_n (by omega)] at hgk; omega⟩; rw [← hop, ek5, Nat.add_sub_cancel, eu]; simp only [anc]; rw [if_neg (nI_ne1 (by omega)), nI_clamp (by omega), c_49, Bool.false_or, decide_eq_true (show nI u9 = nI pi by rw [show u9 = pi by omega])]; first | done | rfl) ?_ hw (lv_sub hl [2, 3, 4, 1, 0] rfl)
                    omega
          exact loop_42 (R.1 + 1) R.1 (nI (R.1 - 1)) false  _ _ _  (Or.inr ⟨R.1 - 1, by omega, rfl⟩) (by rw [grM_n (by omega)]; omega) rfl (by omega) hw (lv_sub hl [2, 3, 4, 1, 0] rfl)
        · -- 27: False
          have c_27 : R.1 = 2000 := (nI_eq (a := R.1) (b := 2000) (by omega) (by omega)).mp c_27
          refine lv_iconst (v := 0) hx hb d_M_may_30 (by decide) ?_
          exact z_zret hx hb hr rfl hlocks hw (by refine ⟨congrArg some (congrArg Value.int ?_), rfl⟩; unfold mayM; rw [decide_eq_false (show ¬ R.1 < 2000 by omega), Bool.and_false]; rfl) (by decide) (by decide) d_M_may_31

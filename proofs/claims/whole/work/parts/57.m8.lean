/-- the last field that fits -/
def lst (S : Sch) (gr : Int32) (t : Nat → Nat) (q m : Nat) : Nat → Int32
  | 0 => -1
  | i + 1 => if mtc S gr t q m i = true then nI i else lst S gr t q m i
/-- in a group no two fields have one name -/
def unq (S : Sch) : Prop := ∀ i j, i < S.1 → j < S.1 → fGr (S.2 i) = fGr (S.2 j) → fNm (S.2 i) = fNm (S.2 j) → i = j
theorem mtc_yes {S : Sch} {gr : Int32} {t : Nat → Nat} {q m i : Nat} : mtc S gr t q m i = true ↔ fGr (S.2 i) = gr ∧ (fNm (S.2 i)).length = m ∧ ∀ k, k < m → t (q + k) = (fNm (S.2 i)).getD k 0 := by
  unfold mtc
  rw [Bool.and_eq_true, Bool.and_eq_true, decide_eq_true_eq, decide_eq_true_eq, nmE_all, and_assoc]
theorem getD_ext {a b : List Nat} (h1 : a.length = b.length) (h2 : ∀ k, k < a.length → a.getD k 0 = b.getD k 0) : a = b := by
  apply List.ext_getElem h1
  intro k ha hb
  have := h2 k ha
  simpa [List.getD_eq_getElem?_getD, ha, hb] using this
theorem mtc_unq {S : Sch} (hu : unq S) {gr : Int32} {t : Nat → Nat} {q m i j : Nat} (hi : i < S.1) (hj : j < S.1) (h1 : mtc S gr t q m i = true) (h2 : mtc S gr t q m j = true) : i = j := by
  rw [mtc_yes] at h1 h2
  refine hu i j hi hj (h1.1.trans h2.1.symm) (getD_ext (h1.2.1.trans h2.2.1.symm) (fun k hk => ?_))
  rw [← h1.2.2 k (by omega), ← h2.2.2 k (by omega)]
theorem lst_is {S : Sch} {gr : Int32} {t : Nat → Nat} {q m : Nat} : ∀ n, (lst S gr t q m n = -1 ∧ ∀ i, i < n → mtc S gr t q m i = false) ∨ ∃ i, i < n ∧ mtc S gr t q m i = true ∧ lst S gr t q m n = nI i := by
  intro n
  induction n with
  | zero => exact Or.inl ⟨rfl, fun i hi => absurd hi (Nat.not_lt_zero _)⟩
  | succ n ih =>
    simp only [lst]
    by_cases h : mtc S gr t q m n = true
    · rw [if_pos h]; exact Or.inr ⟨n, by omega, h, rfl⟩
    · rw [if_neg h]
      rcases ih with ⟨h1, h2⟩ | ⟨i, h1, h2, h3⟩
      · refine Or.inl ⟨h1, fun i hi => ?_⟩
        by_cases e : i = n
        · rw [e]; simpa using h
        · exact h2 i (by omega)
      · exact Or.inr ⟨i, by omega, h2, h3⟩
theorem lst_nmd {S : Sch} (hu : unq S) {gr : Int32} {t : Nat → Nat} {q e : Nat} : lst S gr t q (e - q) S.1 = nmd S gr t q e := by
  unfold nmd
  rcases lst_is (S := S) (gr := gr) (t := t) (q := q) (m := e - q) S.1 with ⟨h1, h2⟩ | ⟨i, h1, h2, h3⟩
  · rw [h1]
    exact (fndR_no _ _ (fun i _ h => by rw [mtc_is]; exact h2 i (by omega))).symm
  · obtain ⟨j, a1, a2, a3, a4⟩ := fndR_yes (P := fun f => decide (fGr (S.2 f) = gr) && isNm t q e (S.2 f)) (S.1 - 0) 0 ⟨i, by omega, by omega, by rw [mtc_is]; exact h2⟩
    rw [mtc_is] at a3
    rw [h3, a4, mtc_unq hu h1 (by omega) h2 a3]

set_option maxHeartbeats 2000000 in
set_option maxRecDepth 100000 in
theorem m_named (l : Launch) (g : z_G) (h : z_H) {mo : Nat} {ma : Nat → Nat} {cod tpd cls9 ffl fcl nds sai ous il : Int32} {siz at9 : Int32} {n : Nat} {f : Nat → Int32} {t : Nat → Nat} {S : Sch} {rw9 : Nat → Nat} {rf : Nat → Nat → Int32} {lf : Nat → Int32} {gr : Int32} {q m9 : Nat} (hmo : h mo = some ((20, 0), .inr (11, mF ma cod tpd siz (nI S.1) cls9 ffl fcl nds sai ous at9 il))) (htx : h (ma 1) = some ((22, 0), .inl (g.2.1 1, 4000, .inl f))) (hn : n ≤ 4000) (hf : ∀ k, k < n → t k < 256 ∧ f k = nI (t k)) (hSc : MSp g h (ma 2) (ma 4) 23 27 S rw9 rf lf) (hB : scB S) (hq : q + m9 ≤ n) : z_C l y_M_named prog_13_method_23_code 8 (Option.some Jvm.ClassFile.FieldType.int) 0 0 0 0 g [.ref mo, .int gr, .int (nI q), .int (nI m9)] h (fun x h1 => x = some (.int (lst S gr t q m9 S.1)) ∧ h = h1) := by
  refine z_C.of (by decide) (Nat.le_of_ble_eq_true rfl) (fun pg en s m below meth cd A ls hx hb hml hr hts hown hlocks hnm hK hE hA hw hl => ?_)
  have hl : lv_has ls 8 [(0, .ref mo), (1, .int gr), (2, .int (nI q)), (3, .int (nI m9))] := hl
  have hrw_2 : h (rw9 2) = some ((24, 2), .inl (g.2.1 1, 128, .inl (rf 2))) := hSc.2.1 2 (by omega)
  have hrw_4 : h (rw9 4) = some ((24, 4), .inl (g.2.1 1, 128, .inl (rf 4))) := hSc.2.1 4 (by omega)
  have hs8 := hB.1
  refine lv_iconst (v := (-1)) hx hb d_M_named_0 (by decide) ?_
  refine lv_istore (lv' := [(4, .int (-1)), (0, .ref mo), (1, .int gr), (2, .int (nI q)), (3, .int (nI m9))]) hx hb d_M_named_1 hl (by decide) rfl (fun ls hl => ?_)
  refine lv_iconst (v := 0) hx hb d_M_named_3 (by decide) ?_
  refine lv_istore (lv' := [(5, .int 0), (4, .int (-1)), (0, .ref mo), (1, .int gr), (2, .int (nI q)), (3, .int (nI m9))]) hx hb d_M_named_4 hl (by decide) rfl (fun ls hl => ?_)
  have loop_6 : ∀ (fuel : Nat) (i : Nat) (gt : Int32) (H : Heap) (locs : List Loc) (ls : Array Slot)  (hie : i ≤ S.1) (hgt : gt = lst S gr t q m9 i), (S.1 - i) < fuel → z_S g A s.heap h H locs → lv_has ls 8 [(0, .ref mo), (1, .int gr), (2, .int (nI q)), (3, .int (nI m9)), (4, .int gt), (5, .int (nI i))] → W pg l en { frames := 0, cells := 0, slots := 0, locals := 0 } s m [.ref mo, .int gr, .int (nI q), .int (nI m9)].toArray below meth cd H locs 0 0 (MQ below (z_Q g A (fun x h1 => x = some (.int (lst S gr t q m9 S.1)) ∧ h = h1)) [.ref mo, .int gr, .int (nI q), .int (nI m9)].toArray s 0 0 A) (F0 m 6 ls []) := by
    intro fuel
    induction fuel with
    | zero => intro i gt H locs ls hie hgt hm; exact absurd hm (Nat.not_lt_zero _)
    | succ fuel ih_6 =>
      intro i gt H locs ls hie hgt hm hw hl
      refine lv_iload hx hb d_M_named_6 (lv_at hl 5 rfl) ?_
      refine lv_aload_n hx hb d_M_named_8 rfl (lv_at hl 0 rfl) ?_
      refine z_get hx hb hts (z_lay i_M) hown hK hw hmo rfl 9 (by decide) (z_in k_780 rfl) (fun _ h9 => h9) rfl d_M_named_9 ?_
      refine lv_icmp_ge (tgt := 115) hx hb d_M_named_12 (by decide) (fun c_12 => ?_) (fun c_12 => ?_)
      · -- 12: True
        have c_12 : S.1 ≤ i := (nI_leI (a := S.1) (b := i) (by omega) (by omega)).mp c_12
        refine lv_iload hx hb d_M_named_115 (lv_at hl 4 rfl) ?_
        exact z_iret hx hb hr hlocks hw (by refine ⟨congrArg some (congrArg Value.int ?_), rfl⟩; rw [hgt, show i = S.1 by omega]) (by decide) (by decide) d_M_named_117
      · -- 12: False
        have c_12 : ¬ (S.1 ≤ i) := fun z => c_12 ((nI_leI (a := S.1) (b := i) (by omega) (by omega)).mpr z)
        have hri := hSc.2.2.2 i (by omega)
        have hBi := hB.2.2 i (by omega)
        have loop_51 : ∀ (fuel : Nat) (k : Nat) (sm : Bool) (H : Heap) (locs : List Loc) (ls : Array Slot)  (hk9 : k ≤ m9) (hsm : sm = ((decide (fGr (S.2 i) = gr) && decide ((fNm (S.2 i)).length = m9)) && nmE t q (fun k => (fNm (S.2 i)).getD k 0) k)), (m9 - k) < fuel → z_S g A s.heap h H locs → lv_has ls 8 [(0, .ref mo), (1, .int gr), (2, .int (nI q)), (3, .int (nI m9)), (4, .int gt), (5, .int (nI i)), (6, .int (zb sm)), (7, .int (nI k))] → W pg l en { frames := 0, cells := 0, slots := 0, locals := 0 } s m [.ref mo, .int gr, .int (nI q), .int (nI m9)].toArray below meth cd H locs 0 0 (MQ below (z_Q g A (fun x h1 => x = some (.int (lst S gr t q m9 S.1)) ∧ h = h1)) [.ref mo, .int gr, .int (nI q), .int (nI m9)].toArray s 0 0 A) (F0 m 51 ls []) := by
          intro fuel
          induction fuel with
          | zero => intro k sm H locs ls hk9 hsm hm; exact absurd hm (Nat.not_lt_zero _)
          | succ fuel ih_51 =>
            intro k sm H locs ls hk9 hsm hm hw hl
            refine lv_iload hx hb d_M_named_51 (lv_at hl 6 rfl) ?_
            refine lv_if_eq (tgt := 100) hx hb d_M_named_53 (by decide) (fun c_53 => ?_) (fun c_53 => ?_)
            · -- 53: True
              have c_53 : sm = false := zb_f c_53
              have hmt := mtc_of hsm hk9 (Or.inl c_53)
              refine lv_iload hx hb d_M_named_100 (lv_at hl 6 rfl) ?_
              refine lv_if_eq (tgt := 109) hx hb d_M_named_102 (by decide) (fun c_102 => ?_) (fun c_102 => ?_)
              · -- 102: True
                have c_102 : sm = false := zb_f c_102
                refine lv_iinc (v := nI (i + 1)) (lv' := [(5, .int (nI (i + 1))), (0, .ref mo), (1, .int gr), (2, .int (nI q)), (3, .int (nI m9)), (4, .int gt), (6, .int (zb sm)), (7, .int (nI k))]) hx hb d_M_named_109 hl (k := 5) rfl (nI_1 i) (by decide) rfl (fun ls hl => ?_)
                refine lv_goto (tgt := 6) hx hb d_M_named_112 (by decide) ?_
                refine ih_6 (i + 1) gt _ _ _ (by omega) (by simp only [lst]; rw [hmt, c_102]; exact hgt) ?_ hw (lv_sub hl [1, 2, 3, 4, 5, 0] rfl)
                omega
              · -- 102: False
                have c_102 : sm = true := zb_t c_102
                refine lv_iload hx hb d_M_named_105 (lv_at hl 5 rfl) ?_
                refine lv_istore (lv' := [(4, .int (nI i)), (0, .ref mo), (1, .int gr), (2, .int (nI q)), (3, .int (nI m9)), (5, .int (nI i)), (6, .int (zb sm)), (7, .int (nI k))]) hx hb d_M_named_107 hl (by decide) rfl (fun ls hl => ?_)
                refine lv_iinc (v := nI (i + 1)) (lv' := [(5, .int (nI (i + 1))), (4, .int (nI i)), (0, .ref mo), (1, .int gr), (2, .int (nI q)), (3, .int (nI m9)), (6, .int (zb sm)), (7, .int (nI k))]) hx hb d_M_named_109 hl (k := 5) rfl (nI_1 i) (by decide) rfl (fun ls hl => ?_)
                refine lv_goto (tgt := 6) hx hb d_M_named_112 (by decide) ?_
                refine ih_6 (i + 1) (nI i) _ _ _ (by omega) (by simp only [lst]; rw [if_pos (by rw [hmt]; exact c_102)]) ?_ hw (lv_sub hl [2, 3, 4, 5, 1, 0] rfl)
                omega
            · -- 53: False
              have c_53 : sm = true := zb_t c_53
              refine lv_iload hx hb d_M_named_56 (lv_at hl 7 rfl) ?_
              refine lv_iload_n hx hb d_M_named_58 rfl (lv_at hl 3 rfl) ?_
              refine lv_icmp_ge (tgt := 100) hx hb d_M_named_59 (by decide) (fun c_59 => ?_) (fun c_59 => ?_)
              · -- 59: True
                have c_59 : m9 ≤ k := (nI_leI (a := m9) (b := k) (by omega) (by omega)).mp c_59
                have hmt := mtc_of hsm hk9 (Or.inr (by omega))
                refine lv_iload hx hb d_M_named_100 (lv_at hl 6 rfl) ?_
                refine lv_if_eq (tgt := 109) hx hb d_M_named_102 (by decide) (fun c_102 => ?_) (fun c_102 => ?_)
                · -- 102: True
                  have c_102 : sm = false := zb_f c_102
                  refine lv_iinc (v := nI (i + 1)) (lv' := [(5, .int (nI (i + 1))), (0, .ref mo), (1, .int gr), (2, .int (nI q)), (3, .int (nI m9)), (4, .int gt), (6, .int (zb sm)), (7, .int (nI k))]) hx hb d_M_named_109 hl (k := 5) rfl (nI_1 i) (by decide) rfl (fun ls hl => ?_)
                  refine lv_goto (tgt := 6) hx hb d_M_named_112 (by decide) ?_
                  refine ih_6 (i + 1) gt _ _ _ (by omega) (by simp only [lst]; rw [hmt, c_102]; exact hgt) ?_ hw (lv_sub hl [1, 2, 3, 4, 5, 0] rfl)
                  omega
                · -- 102: False
                  have c_102 : sm = true := zb_t c_102
                  refine lv_iload hx hb d_M_named_105 (lv_at hl 5 rfl) ?_
                  refine lv_istore (lv' := [(4, .int (nI i)), (0, .ref mo), (1, .int gr), (2, .int (nI q)), (3, .int (nI m9)), (5, .int (nI i)), (6, .int (zb sm)), (7, .int (nI k))]) hx hb d_M_named_107 hl (by decide) rfl (fun ls hl => ?_)
                  refine lv_iinc (v := nI (i + 1)) (lv' := [(5, .int (nI (i + 1))), (4, .int (nI i)), (0, .ref mo), (1, .int gr), (2, .int (nI q)), (3, .int (nI m9)), (6, .int (zb sm)), (7, .int (nI k))]) hx hb d_M_named_109 hl (k := 5) rfl (nI_1 i) (by decide) rfl (fun ls hl => ?_)
                  refine lv_goto (tgt := 6) hx hb d_M_named_112 (by decide) ?_
                  refine ih_6 (i + 1) (nI i) _ _ _ (by omega) (by simp only [lst]; rw [if_pos (by rw [hmt]; exact c_102)]) ?_ hw (lv_sub hl [2, 3, 4, 5, 1, 0] rfl)
                  omega
              · -- 59: False
                have c_59 : ¬ (m9 ≤ k) := fun z => c_59 ((nI_leI (a := m9) (b := k) (by omega) (by omega)).mpr z)
                have hm9 : (fNm (S.2 i)).length = m9 := by rw [c_53] at hsm; have z := hsm.symm; simp at z; exact z.1.2
                have hb1 := hBi.2 k (by omega)
                have hb2 := (hf (q + k) (by omega)).1
                refine lv_aload_n hx hb d_M_named_62 rfl (lv_at hl 0 rfl) ?_
                refine z_get hx hb hts (z_lay i_M) hown hK hw hmo rfl 7 (by decide) (z_in k_778 rfl) (fun _ h9 => h9) rfl d_M_named_63 ?_
                refine lv_bipush (v := 16) hx hb d_M_named_66 (by decide) ?_
                refine lv_iload hx hb d_M_named_68 (lv_at hl 5 rfl) ?_
                refine lv_imul hx hb d_M_named_70 ?_
                refine z_topi (y := nI (16 * i)) (pk_mul 16 i) ?_
                refine lv_iload hx hb d_M_named_71 (lv_at hl 7 rfl) ?_
                refine lv_iadd hx hb d_M_named_73 ?_
                refine z_topi (y := nI ((16 * i) + k)) (nI_add (16 * i) k) ?_
                refine z_iald hx hb hK hw hSc.2.2.1 1 rfl (vp_in_nI (by omega) (by omega)) d_M_named_74 ?_
                refine z_topi (y := lf ((16 * i) + k)) (by rw [nI_clamp (by omega)]) ?_
                refine z_top (y := .int (nI ((fNm (S.2 i)).getD k 0))) (by rw [hri.2.2.2.2.2 k (by omega)]) ?_
                refine lv_aload_n hx hb d_M_named_75 rfl (lv_at hl 0 rfl) ?_
                refine z_get hx hb hts (z_lay i_M) hown hK hw hmo rfl 2 (by decide) (z_in k_773 rfl) (fun _ h9 => h9) rfl d_M_named_76 ?_
                refine lv_iload_n hx hb d_M_named_79 rfl (lv_at hl 2 rfl) ?_
                refine lv_iload hx hb d_M_named_80 (lv_at hl 7 rfl) ?_
                refine lv_iadd hx hb d_M_named_82 ?_
                refine z_topi (y := nI (q + k)) (nI_add q k) ?_
                refine z_iald hx hb hK hw htx 1 rfl (vp_in_nI (by omega) (by omega)) d_M_named_83 ?_
                refine z_topi (y := f (q + k)) (by rw [nI_clamp (by omega)]) ?_
                refine z_top (y := .int (nI (t (q + k)))) (by rw [(hf _ (by omega)).2]) ?_
                refine lv_icmp_ne (tgt := 91) hx hb d_M_named_84 (by decide) (fun c_84 => ?_) (fun c_84 => ?_)
                · -- 84: True
                  have c_84 : ¬ (((fNm (S.2 i)).getD k 0) = (t (q + k))) := fun z => c_84 ((nI_eq (a := (fNm (S.2 i)).getD k 0) (b := t (q + k)) (by omega) (by omega)).mpr z)
                  refine lv_iconst (v := 0) hx hb d_M_named_91 (by decide) ?_
                  refine lv_istore (lv' := [(6, .int 0), (0, .ref mo), (1, .int gr), (2, .int (nI q)), (3, .int (nI m9)), (4, .int gt), (5, .int (nI i)), (7, .int (nI k))]) hx hb d_M_named_92 hl (by decide) rfl (fun ls hl => ?_)
                  refine lv_iinc (v := nI (k + 1)) (lv' := [(7, .int (nI (k + 1))), (6, .int 0), (0, .ref mo), (1, .int gr), (2, .int (nI q)), (3, .int (nI m9)), (4, .int gt), (5, .int (nI i))]) hx hb d_M_named_94 hl (k := 7) rfl (nI_1 k) (by decide) rfl (fun ls hl => ?_)
                  refine lv_goto (tgt := 51) hx hb d_M_named_97 (by decide) ?_
                  refine ih_51 (k + 1) false _ _ _ (by omega) (by simp only [nmE]; rw [← Bool.and_assoc, ← hsm, c_53, beq_false_of_ne (show ¬ t (q + k) = (fNm (S.2 i)).getD k 0 by omega)]; rfl) ?_ hw (lv_sub hl [2, 3, 4, 5, 6, 7, 1, 0] rfl)
                  omega
                · -- 84: False
                  have c_84 : ((fNm (S.2 i)).getD k 0) = (t (q + k)) := (nI_eq (a := (fNm (S.2 i)).getD k 0) (b := t (q + k)) (by omega) (by omega)).mp c_84
                  refine lv_iconst (v := 1) hx hb d_M_named_87 (by decide) ?_
                  refine lv_goto (tgt := 92) hx hb d_M_named_88 (by decide) ?_
                  refine lv_istore (lv' := [(6, .int 1), (0, .ref mo), (1, .int gr), (2, .int (nI q)), (3, .int (nI m9)), (4, .int gt), (5, .int (nI i)), (7, .int (nI k))]) hx hb d_M_named_92 hl (by decide) rfl (fun ls hl => ?_)
                  refine lv_iinc (v := nI (k + 1)) (lv' := [(7, .int (nI (k + 1))), (6, .int 1), (0, .ref mo), (1, .int gr), (2, .int (nI q)), (3, .int (nI m9)), (4, .int gt), (5, .int (nI i))]) hx hb d_M_named_94 hl (k := 7) rfl (nI_1 k) (by decide) rfl (fun ls hl => ?_)
                  refine lv_goto (tgt := 51) hx hb d_M_named_97 (by decide) ?_
                  refine ih_51 (k + 1) true _ _ _ (by omega) (by simp only [nmE]; rw [← Bool.and_assoc, ← hsm, c_53, beq_iff_eq.mpr (show t (q + k) = (fNm (S.2 i)).getD k 0 by omega)]; rfl) ?_ hw (lv_sub hl [2, 3, 4, 5, 6, 7, 1, 0] rfl)
                  omega
        refine lv_aload_n hx hb d_M_named_15 rfl (lv_at hl 0 rfl) ?_
        refine z_get hx hb hts (z_lay i_M) hown hK hw hmo rfl 5 (by decide) (z_in k_776 rfl) (fun _ h9 => h9) rfl d_M_named_16 ?_
        refine lv_iconst (v := 2) hx hb d_M_named_19 (by decide) ?_
        refine z_aldr hx hb hK hw hSc.1 5 rfl (by unfold vp_in; decide) d_M_named_20 ?_
        refine z_top (y := va_rf ((fun k => some (rw9 k)) 2)) (by rfl) ?_
        refine z_top (y := .ref (rw9 2)) (rfl) ?_
        refine lv_iload hx hb d_M_named_21 (lv_at hl 5 rfl) ?_
        refine z_iald hx hb hK hw hrw_2 1 rfl (vp_in_nI (by omega) (by omega)) d_M_named_23 ?_
        refine z_topi (y := (rf 2) i) (by rw [nI_clamp (by omega)]) ?_
        refine z_top (y := .int (fGr (S.2 i))) (by rw [hri.2.2.1]) ?_
        refine lv_iload_n hx hb d_M_named_24 rfl (lv_at hl 1 rfl) ?_
        refine lv_icmp_ne (tgt := 45) hx hb d_M_named_25 (by decide) (fun c_25 => ?_) (fun c_25 => ?_)
        · -- 25: True
          refine lv_iconst (v := 0) hx hb d_M_named_45 (by decide) ?_
          refine lv_istore (lv' := [(6, .int 0), (0, .ref mo), (1, .int gr), (2, .int (nI q)), (3, .int (nI m9)), (4, .int gt), (5, .int (nI i))]) hx hb d_M_named_46 hl (by decide) rfl (fun ls hl => ?_)
          refine lv_iconst (v := 0) hx hb d_M_named_48 (by decide) ?_
          refine lv_istore (lv' := [(7, .int 0), (6, .int 0), (0, .ref mo), (1, .int gr), (2, .int (nI q)), (3, .int (nI m9)), (4, .int gt), (5, .int (nI i))]) hx hb d_M_named_49 hl (by decide) rfl (fun ls hl => ?_)
          exact loop_51 (m9 - 0 + 1) 0 false  _ _ _  (Nat.zero_le _) (by rw [decide_eq_false (show ¬ fGr (S.2 i) = gr from c_25)]; rfl) (by omega) hw (lv_sub hl [2, 3, 4, 5, 6, 7, 1, 0] rfl)
        · -- 25: False
          refine lv_aload_n hx hb d_M_named_28 rfl (lv_at hl 0 rfl) ?_
          refine z_get hx hb hts (z_lay i_M) hown hK hw hmo rfl 5 (by decide) (z_in k_776 rfl) (fun _ h9 => h9) rfl d_M_named_29 ?_
          refine lv_iconst (v := 4) hx hb d_M_named_32 (by decide) ?_
          refine z_aldr hx hb hK hw hSc.1 5 rfl (by unfold vp_in; decide) d_M_named_33 ?_
          refine z_top (y := va_rf ((fun k => some (rw9 k)) 4)) (by rfl) ?_
          refine z_top (y := .ref (rw9 4)) (rfl) ?_
          refine lv_iload hx hb d_M_named_34 (lv_at hl 5 rfl) ?_
          refine z_iald hx hb hK hw hrw_4 1 rfl (vp_in_nI (by omega) (by omega)) d_M_named_36 ?_
          refine z_topi (y := (rf 4) i) (by rw [nI_clamp (by omega)]) ?_
          refine z_top (y := .int (nI ((fNm (S.2 i)).length))) (by rw [hri.2.2.2.2.1]) ?_
          refine lv_iload_n hx hb d_M_named_37 rfl (lv_at hl 3 rfl) ?_
          refine lv_icmp_ne (tgt := 45) hx hb d_M_named_38 (by decide) (fun c_38 => ?_) (fun c_38 => ?_)
          · -- 38: True
            have c_38 : ¬ (((fNm (S.2 i)).length) = m9) := fun z => c_38 ((nI_eq (a := (fNm (S.2 i)).length) (b := m9) (by omega) (by omega)).mpr z)
            refine lv_iconst (v := 0) hx hb d_M_named_45 (by decide) ?_
            refine lv_istore (lv' := [(6, .int 0), (0, .ref mo), (1, .int gr), (2, .int (nI q)), (3, .int (nI m9)), (4, .int gt), (5, .int (nI i))]) hx hb d_M_named_46 hl (by decide) rfl (fun ls hl => ?_)
            refine lv_iconst (v := 0) hx hb d_M_named_48 (by decide) ?_
            refine lv_istore (lv' := [(7, .int 0), (6, .int 0), (0, .ref mo), (1, .int gr), (2, .int (nI q)), (3, .int (nI m9)), (4, .int gt), (5, .int (nI i))]) hx hb d_M_named_49 hl (by decide) rfl (fun ls hl => ?_)
            exact loop_51 (m9 - 0 + 1) 0 false  _ _ _  (Nat.zero_le _) (by rw [decide_eq_false (show ¬ (fNm (S.2 i)).length = m9 by omega)]; simp) (by omega) hw (lv_sub hl [2, 3, 4, 5, 6, 7, 1, 0] rfl)
          · -- 38: False
            have c_38 : ((fNm (S.2 i)).length) = m9 := (nI_eq (a := (fNm (S.2 i)).length) (b := m9) (by omega) (by omega)).mp c_38
            refine lv_iconst (v := 1) hx hb d_M_named_41 (by decide) ?_
            refine lv_goto (tgt := 46) hx hb d_M_named_42 (by decide) ?_
            refine lv_istore (lv' := [(6, .int 1), (0, .ref mo), (1, .int gr), (2, .int (nI q)), (3, .int (nI m9)), (4, .int gt), (5, .int (nI i))]) hx hb d_M_named_46 hl (by decide) rfl (fun ls hl => ?_)
            refine lv_iconst (v := 0) hx hb d_M_named_48 (by decide) ?_
            refine lv_istore (lv' := [(7, .int 0), (6, .int 1), (0, .ref mo), (1, .int gr), (2, .int (nI q)), (3, .int (nI m9)), (4, .int gt), (5, .int (nI i))]) hx hb d_M_named_49 hl (by decide) rfl (fun ls hl => ?_)
            exact loop_51 (m9 - 0 + 1) 0 true  _ _ _  (Nat.zero_le _) (by rw [decide_eq_true (show fGr (S.2 i) = gr by simpa using c_25), decide_eq_true (show (fNm (S.2 i)).length = m9 by omega)]; rfl) (by omega) hw (lv_sub hl [2, 3, 4, 5, 6, 7, 1, 0] rfl)
  exact loop_6 (S.1 - 0 + 1) 0 (-1)  _ _ _  (Nat.zero_le _) rfl (by omega) hw (lv_sub hl [2, 3, 4, 5, 1, 0] rfl)

theorem hrqR_step {S : Sch} {gr : Int32} {i b : Nat} (h : i < b) : hrqR S gr (b - i) i = ((decide (fGr (S.2 i) = gr) && decide (fKi (S.2 i) = 0)) || hrqR S gr (b - (i + 1)) (i + 1)) := by
  rw [show b - i = (b - (i + 1)) + 1 by omega]
  rfl

set_option maxHeartbeats 300000 in
set_option maxRecDepth 100000 in
theorem m_misses (l : Launch) (g : z_G) (h : z_H) {mo : Nat} {ma : Nat → Nat} {cod tpd cls9 ffl fcl nds sai ous il : Int32} {siz at9 : Int32} {S : Sch} {rw9 : Nat → Nat} {rf : Nat → Nat → Int32} {lf : Nat → Int32} {gr : Int32} {a9 b9 : Nat} (hmo : h mo = some ((20, 0), .inr (11, mF ma cod tpd siz (nI S.1) cls9 ffl fcl nds sai ous at9 il))) (hSc : MSp g h (ma 2) (ma 4) 23 27 S rw9 rf lf) (hB : scB S) (hb9 : b9 ≤ S.1) (ha9 : a9 < 2 ^ 31) : z_C l y_M_misses prog_13_method_33_code 6 (Option.some Jvm.ClassFile.FieldType.boolean) 0 0 0 0 g [.ref mo, .int gr, .int (nI a9), .int (nI b9)] h (fun x h1 => x = some (.int (zb (hrqR S gr (b9 - a9) a9))) ∧ h = h1) := by
  refine z_C.of (by decide) (Nat.le_of_ble_eq_true rfl) (fun pg en s m below meth cd A ls hx hb hml hr hts hown hlocks hnm hK hE hA hw hl => ?_)
  have hl : lv_has ls 6 [(0, .ref mo), (1, .int gr), (2, .int (nI a9)), (3, .int (nI b9))] := hl
  have hrw_0 : h (rw9 0) = some ((24, 0), .inl (g.2.1 1, 128, .inl (rf 0))) := hSc.2.1 0 (by omega)
  have hrw_2 : h (rw9 2) = some ((24, 2), .inl (g.2.1 1, 128, .inl (rf 2))) := hSc.2.1 2 (by omega)
  have hs8 := hB.1
  refine lv_iconst (v := 0) hx hb d_M_misses_0 (by decide) ?_
  refine lv_istore (lv' := [(4, .int 0), (0, .ref mo), (1, .int gr), (2, .int (nI a9)), (3, .int (nI b9))]) hx hb d_M_misses_1 hl (by decide) rfl (fun ls hl => ?_)
  refine lv_iload_n hx hb d_M_misses_3 rfl (lv_at hl 3 rfl) ?_
  refine lv_istore (lv' := [(5, .int (nI a9)), (4, .int 0), (0, .ref mo), (1, .int gr), (2, .int (nI a9)), (3, .int (nI b9))]) hx hb d_M_misses_4 hl (by decide) rfl (fun ls hl => ?_)
  have loop_6 : ∀ (fuel : Nat) (i : Nat) (ms : Bool) (H : Heap) (locs : List Loc) (ls : Array Slot)  (hi31 : i < 2 ^ 31) (hms : (ms || hrqR S gr (b9 - i) i) = hrqR S gr (b9 - a9) a9), (b9 - i) < fuel → z_S g A s.heap h H locs → lv_has ls 6 [(0, .ref mo), (1, .int gr), (2, .int (nI a9)), (3, .int (nI b9)), (4, .int (zb ms)), (5, .int (nI i))] → W pg l en { frames := 0, cells := 0, slots := 0, locals := 0 } s m [.ref mo, .int gr, .int (nI a9), .int (nI b9)].toArray below meth cd H locs 0 0 (MQ below (z_Q g A (fun x h1 => x = some (.int (zb (hrqR S gr (b9 - a9) a9))) ∧ h = h1)) [.ref mo, .int gr, .int (nI a9), .int (nI b9)].toArray s 0 0 A) (F0 m 6 ls []) := by
    intro fuel
    induction fuel with
    | zero => intro i ms H locs ls hi31 hms hm; exact absurd hm (Nat.not_lt_zero _)
    | succ fuel ih_6 =>
      intro i ms H locs ls hi31 hms hm hw hl
      refine lv_iload hx hb d_M_misses_6 (lv_at hl 5 rfl) ?_
      refine lv_iload_n hx hb d_M_misses_8 rfl (lv_at hl 3 rfl) ?_
      refine lv_icmp_ge (tgt := 55) hx hb d_M_misses_9 (by decide) (fun c_9 => ?_) (fun c_9 => ?_)
      · -- 9: True
        have c_9 : b9 ≤ i := (nI_leI (a := b9) (b := i) (by omega) (by omega)).mp c_9
        refine lv_iload hx hb d_M_misses_55 (lv_at hl 4 rfl) ?_
        exact z_zret hx hb hr (zb_n _) hlocks hw (by refine ⟨congrArg some (congrArg Value.int ?_), rfl⟩; rw [← hms, show b9 - i = 0 by omega]; simp only [hrqR, Bool.or_false]) (by decide) (by decide) d_M_misses_57
      · -- 9: False
        have c_9 : ¬ (b9 ≤ i) := fun z => c_9 ((nI_leI (a := b9) (b := i) (by omega) (by omega)).mpr z)
        refine lv_iload hx hb d_M_misses_12 (lv_at hl 4 rfl) ?_
        refine lv_if_ne (tgt := 42) hx hb d_M_misses_14 (by decide) (fun c_14 => ?_) (fun c_14 => ?_)
        · -- 14: True
          have c_14 : ms = true := zb_t c_14
          refine lv_iconst (v := 1) hx hb d_M_misses_42 (by decide) ?_
          refine lv_goto (tgt := 47) hx hb d_M_misses_43 (by decide) ?_
          refine lv_istore (lv' := [(4, .int 1), (0, .ref mo), (1, .int gr), (2, .int (nI a9)), (3, .int (nI b9)), (5, .int (nI i))]) hx hb d_M_misses_47 hl (by decide) rfl (fun ls hl => ?_)
          refine lv_iinc (v := nI (i + 1)) (lv' := [(5, .int (nI (i + 1))), (4, .int 1), (0, .ref mo), (1, .int gr), (2, .int (nI a9)), (3, .int (nI b9))]) hx hb d_M_misses_49 hl (k := 5) rfl (nI_1 i) (by decide) rfl (fun ls hl => ?_)
          refine lv_goto (tgt := 6) hx hb d_M_misses_52 (by decide) ?_
          refine ih_6 (i + 1) true _ _ _ (by omega) (by rw [← hms, c_14]; rfl) ?_ hw (lv_sub hl [2, 3, 4, 5, 1, 0] rfl)
          omega
        · -- 14: False
          have c_14 : ms = false := zb_f c_14
          refine lv_aload_n hx hb d_M_misses_17 rfl (lv_at hl 0 rfl) ?_
          refine z_get hx hb hts (z_lay i_M) hown hK hw hmo rfl 5 (by decide) (z_in k_776 rfl) (fun _ h9 => h9) rfl d_M_misses_18 ?_
          refine lv_iconst (v := 2) hx hb d_M_misses_21 (by decide) ?_
          refine z_aldr hx hb hK hw hSc.1 5 rfl (by unfold vp_in; decide) d_M_misses_22 ?_
          refine z_top (y := va_rf ((fun k => some (rw9 k)) 2)) (by rfl) ?_
          refine z_top (y := .ref (rw9 2)) (rfl) ?_
          refine lv_iload hx hb d_M_misses_23 (lv_at hl 5 rfl) ?_
          refine z_iald hx hb hK hw hrw_2 1 rfl (vp_in_nI (by omega) (by omega)) d_M_misses_25 ?_
          refine z_topi (y := (rf 2) i) (by rw [nI_clamp (by omega)]) ?_
          refine z_top (y := .int (fGr (S.2 i))) (by rw [(hSc.2.2.2 i (by omega)).2.2.1]) ?_
          refine lv_iload_n hx hb d_M_misses_26 rfl (lv_at hl 1 rfl) ?_
          refine lv_icmp_ne (tgt := 46) hx hb d_M_misses_27 (by decide) (fun c_27 => ?_) (fun c_27 => ?_)
          · -- 27: True
            refine lv_iconst (v := 0) hx hb d_M_misses_46 (by decide) ?_
            refine lv_istore (lv' := [(4, .int 0), (0, .ref mo), (1, .int gr), (2, .int (nI a9)), (3, .int (nI b9)), (5, .int (nI i))]) hx hb d_M_misses_47 hl (by decide) rfl (fun ls hl => ?_)
            refine lv_iinc (v := nI (i + 1)) (lv' := [(5, .int (nI (i + 1))), (4, .int 0), (0, .ref mo), (1, .int gr), (2, .int (nI a9)), (3, .int (nI b9))]) hx hb d_M_misses_49 hl (k := 5) rfl (nI_1 i) (by decide) rfl (fun ls hl => ?_)
            refine lv_goto (tgt := 6) hx hb d_M_misses_52 (by decide) ?_
            refine ih_6 (i + 1) false _ _ _ (by omega) (by rw [← hms, c_14, hrqR_step (show i < b9 by omega), decide_eq_false (show ¬ fGr (S.2 i) = gr from c_27)]; rfl) ?_ hw (lv_sub hl [2, 3, 4, 5, 1, 0] rfl)
            omega
          · -- 27: False
            refine lv_aload_n hx hb d_M_misses_30 rfl (lv_at hl 0 rfl) ?_
            refine z_get hx hb hts (z_lay i_M) hown hK hw hmo rfl 5 (by decide) (z_in k_776 rfl) (fun _ h9 => h9) rfl d_M_misses_31 ?_
            refine lv_iconst (v := 0) hx hb d_M_misses_34 (by decide) ?_
            refine z_aldr hx hb hK hw hSc.1 5 rfl (by unfold vp_in; decide) d_M_misses_35 ?_
            refine z_top (y := va_rf ((fun k => some (rw9 k)) 0)) (by rfl) ?_
            refine z_top (y := .ref (rw9 0)) (rfl) ?_
            refine lv_iload hx hb d_M_misses_36 (lv_at hl 5 rfl) ?_
            refine z_iald hx hb hK hw hrw_0 1 rfl (vp_in_nI (by omega) (by omega)) d_M_misses_38 ?_
            refine z_topi (y := (rf 0) i) (by rw [nI_clamp (by omega)]) ?_
            refine z_top (y := .int (fKi (S.2 i))) (by rw [(hSc.2.2.2 i (by omega)).1]) ?_
            refine lv_if_ne (tgt := 46) hx hb d_M_misses_39 (by decide) (fun c_39 => ?_) (fun c_39 => ?_)
            · -- 39: True
              refine lv_iconst (v := 0) hx hb d_M_misses_46 (by decide) ?_
              refine lv_istore (lv' := [(4, .int 0), (0, .ref mo), (1, .int gr), (2, .int (nI a9)), (3, .int (nI b9)), (5, .int (nI i))]) hx hb d_M_misses_47 hl (by decide) rfl (fun ls hl => ?_)
              refine lv_iinc (v := nI (i + 1)) (lv' := [(5, .int (nI (i + 1))), (4, .int 0), (0, .ref mo), (1, .int gr), (2, .int (nI a9)), (3, .int (nI b9))]) hx hb d_M_misses_49 hl (k := 5) rfl (nI_1 i) (by decide) rfl (fun ls hl => ?_)
              refine lv_goto (tgt := 6) hx hb d_M_misses_52 (by decide) ?_
              refine ih_6 (i + 1) false _ _ _ (by omega) (by rw [← hms, c_14, hrqR_step (show i < b9 by omega), decide_eq_false (show ¬ fKi (S.2 i) = 0 from c_39), Bool.and_false]; rfl) ?_ hw (lv_sub hl [2, 3, 4, 5, 1, 0] rfl)
              omega
            · -- 39: False
              refine lv_iconst (v := 1) hx hb d_M_misses_42 (by decide) ?_
              refine lv_goto (tgt := 47) hx hb d_M_misses_43 (by decide) ?_
              refine lv_istore (lv' := [(4, .int 1), (0, .ref mo), (1, .int gr), (2, .int (nI a9)), (3, .int (nI b9)), (5, .int (nI i))]) hx hb d_M_misses_47 hl (by decide) rfl (fun ls hl => ?_)
              refine lv_iinc (v := nI (i + 1)) (lv' := [(5, .int (nI (i + 1))), (4, .int 1), (0, .ref mo), (1, .int gr), (2, .int (nI a9)), (3, .int (nI b9))]) hx hb d_M_misses_49 hl (k := 5) rfl (nI_1 i) (by decide) rfl (fun ls hl => ?_)
              refine lv_goto (tgt := 6) hx hb d_M_misses_52 (by decide) ?_
              refine ih_6 (i + 1) true _ _ _ (by omega) (by rw [← hms, c_14, hrqR_step (show i < b9 by omega), decide_eq_true (show fGr (S.2 i) = gr by simpa using c_27), decide_eq_true (show fKi (S.2 i) = 0 by simpa using c_39)]; rfl) ?_ hw (lv_sub hl [2, 3, 4, 5, 1, 0] rfl)
              omega
  exact loop_6 (b9 - a9 + 1) a9 false  _ _ _  ha9 rfl (by omega) hw (lv_sub hl [2, 3, 4, 5, 1, 0] rfl)

theorem nmd_out {S : Sch} (hg : grOK S) (hs : S.1 ≤ 128) {k : Int32} {t : Nat → Nat} {q e : Nat} (h1 : ¬ k = -1) (h2 : isIx k S.1 = false) : nmd S k t q e = -1 := by
  unfold nmd
  refine fndR_no _ _ (fun i _ hi => ?_)
  rw [decide_eq_false (fun z => ?_)]
  · rfl
  · rcases hg i (by omega) with z2 | ⟨j, hj, z2⟩
    · exact h1 (z.symm.trans z2)
    · rw [← z, z2, isIx_yes (by omega) (by omega)] at h2; cases h2

set_option maxHeartbeats 300000 in
set_option maxRecDepth 100000 in
theorem m_find_ok (l : Launch) (g : z_G) (h : z_H) {mo : Nat} {T : List Nat} {S : Sch} {R : Rec} {O : List Nat} {k : Int32} {i : Nat}  (hM : MAt g h mo T S R O) (hi : i ≤ T.length) (hB : scB S) (hu : unq S) (hgr : grOK S) : z_C l y_M_find prog_13_method_24_code 3 (Option.some Jvm.ClassFile.FieldType.int) 1 80 0 0 g [.ref mo, .int k, .int (nI i)] h (fun x h1 => MPt g h x (.int (nmd S k (tT T) 0 i)) h1 mo [] S R O) := by
  refine z_C.of (by decide) (Nat.le_of_ble_eq_true rfl) (fun pg en s m below meth cd A ls hx hb hml hr hts hown hlocks hnm hK hE hA hw hl => ?_)
  have hl : lv_has ls 3 [(0, .ref mo), (1, .int k), (2, .int (nI i))] := hl
  obtain ⟨ma, cod, siz, ffl, fcl, at9, il, hmo, hTp, hTx, ⟨rw9, rf, lf, hSc⟩, hSf, ⟨nf, np, nr, ns, nv, tx, hNd⟩, hOl, hOu⟩ := id hM
  obtain ⟨ftp, htp, hT4, hTv⟩ := id hTp
  obtain ⟨fou, hou, hO6, hOv⟩ := id hOu
  obtain ⟨ftx, htx⟩ := id hTx
  have hs8 := hB.1
  have kk0 : z_K (fun y => y = 20 ∨ y = 22) h h := z_K.rf
  refine lv_aload_n hx hb d_M_find_0 rfl (lv_at hl 0 rfl) ?_
  refine lv_iconst (v := 0) hx hb d_M_find_1 (by decide) ?_
  refine z_putf (ty := .int) hx hb hts (z_lay i_M) t_M t_M_ok n_M hown hK hw hmo rfl 0 (by decide) (z_in k_771 rfl) (fun _ h9 => h9) rfl (by decide +kernel) rfl rfl (Nat.le_of_ble_eq_true rfl) d_M_find_2 (fun H locs hw => ?_)
  obtain ⟨h1, hh1⟩ : ∃ x9, z_put h mo (20, 0) (.inr (11, mF ma 0 (nI T.length) siz (nI S.1) (nI (cc S)) ffl fcl (nI R.1) (nI (tbC R.2 R.1)) (nI O.length) at9 il)) = x9 := ⟨_, rfl⟩
  have hw : z_S g A s.heap h1 H locs := by rw [← hh1]; exact hw
  have f1_mo : h1 mo = some ((20, 0), .inr (11, mF ma 0 (nI T.length) siz (nI S.1) (nI (cc S)) ffl fcl (nI R.1) (nI (tbC R.2 R.1)) (nI O.length) at9 il)) := by rw [← hh1]; exact z_put_eq
  have f1_ma_1 : h1 (ma 1) = some ((22, 0), .inl (g.2.1 1, 4000, .inl ftx)) := by rw [← hh1]; exact z_keep hmo htx (z_t1 (by decide))
  have f1_ma_0 : h1 (ma 0) = some ((21, 0), .inl (g.2.1 1, 4000, .inl ftp)) := by rw [← hh1]; exact z_keep hmo htp (z_t1 (by decide))
  have kk1 : z_K (fun y => y = 20 ∨ y = 22) h h1 := kk0.tr (by rw [← hh1]; exact z_K.put hmo (by first | decide | simp | omega))
  refine lv_aload_n hx hb d_M_find_5 rfl (lv_at hl 0 rfl) ?_
  refine lv_iload_n hx hb d_M_find_6 rfl (lv_at hl 2 rfl) ?_
  refine z_callV (n := 1) (As := [.int (nI i)]) (rest := []) ⟨hx, hb, hml, hown, hts⟩ (m_takes (n := i) l g h1 f1_mo f1_ma_1 f1_ma_0 hT4 hi) (z_in k_877 rfl) (z_in k_7 rfl) (z_in k_874 rfl) (z_in k_876 rfl) (z_in ks_25 rfl) (by decide +kernel) ⟨by first | exact Nat.le_of_ble_eq_true rfl | (dsimp only; omega) | omega, by first | exact Nat.le_of_ble_eq_true rfl | (dsimp only; omega) | omega⟩ hK hE hw hA rfl f1_mo rfl hl.1 (Nat.le_of_ble_eq_true rfl) d_M_find_7 ⟨by first | exact Nat.le_of_ble_eq_true rfl | (dsimp only; omega) | omega, by first | exact Nat.le_of_ble_eq_true rfl | (dsimp only; omega) | omega⟩ rfl (fun r9 h9 H locs hp hw => ?_)
  obtain ⟨f2, r8, m8, t8, cp8, k8⟩ := hp
  subst r8
  obtain ⟨h2, e7⟩ : ∃ x9, x9 = h9 := ⟨_, rfl⟩
  subst e7
  have g2_ma_0 : h2 (ma 0) = some ((21, 0), .inl (g.2.1 1, 4000, .inl ftp)) := k8 _ _ _ f1_ma_0 (by simp)
  have kk2 : z_K (fun y => y = 20 ∨ y = 22) h h2 := kk1.tr (k8.mono (fun y z => by omega))
  have hn4 : i ≤ 4000 := by omega
  have hf2 : ∀ k, k < i → tT T k < 256 ∧ f2 k = nI (tT T k) := fun k hk => ⟨(hTv k (by omega)).1, by rw [cp8 k hk]; exact (hTv k (by omega)).2⟩
  refine W.eq (g2 := F0 m 10 ls [.int 1]) rfl ?_
  refine lv_if_ne (tgt := 16) hx hb d_M_find_10 (by decide) (fun c_10 => ?_) (fun c_10 => ?_)
  · -- 10: True
    refine lv_iload_n hx hb d_M_find_16 rfl (lv_at hl 1 rfl) ?_
    refine lv_iconst (v := (-1)) hx hb d_M_find_17 (by decide) ?_
    refine lv_icmp_eq (tgt := 33) hx hb d_M_find_18 (by decide) (fun c_18 => ?_) (fun c_18 => ?_)
    · -- 18: True
      refine lv_aload_n hx hb d_M_find_33 rfl (lv_at hl 0 rfl) ?_
      refine lv_iload_n hx hb d_M_find_34 rfl (lv_at hl 1 rfl) ?_
      refine lv_iconst (v := 0) hx hb d_M_find_35 (by decide) ?_
      refine lv_iload_n hx hb d_M_find_36 rfl (lv_at hl 2 rfl) ?_
      refine z_callV (n := 3) (As := [.int k, .int 0, .int (nI i)]) (rest := []) ⟨hx, hb, hml, hown, hts⟩ (m_named (t := tT T) (n := i) (q := 0) (m9 := i) l g h2 m8 t8 hn4 hf2 (hSc.k kk2 (by omega) (by omega) (by omega)) hB (by omega)) (z_in k_963 rfl) (z_in k_7 rfl) (z_in k_960 rfl) (z_in k_962 rfl) (z_in ks_38 rfl) (by decide +kernel) ⟨by first | exact Nat.le_of_ble_eq_true rfl | (dsimp only; omega) | omega, by first | exact Nat.le_of_ble_eq_true rfl | (dsimp only; omega) | omega⟩ hK hE hw hA rfl m8 rfl hl.1 (Nat.le_of_ble_eq_true rfl) d_M_find_37 ⟨by first | exact Nat.le_of_ble_eq_true rfl | (dsimp only; omega) | omega, by first | exact Nat.le_of_ble_eq_true rfl | (dsimp only; omega) | omega⟩ rfl (fun r9 h9 H locs hp hw => ?_)
      obtain ⟨r8, h8⟩ := hp
      subst r8
      subst h8
      refine W.eq (g2 := F0 m 40 ls [.int (lst S k (tT T) 0 i S.1)]) rfl ?_
      exact z_iret hx hb hr hlocks hw (by refine ⟨congrArg some (congrArg Value.int ?_), ⟨ma, _, _, _, _, _, _, m8, ⟨ftp, g2_ma_0, Nat.zero_le _, fun k hk => absurd hk (Nat.not_lt_zero _)⟩, ⟨_, t8⟩, ⟨_, _, _, hSc.k kk2 (by omega) (by omega) (by omega)⟩, hSf.k kk2 (by omega) (by omega) (by omega), ⟨_, _, _, _, _, _, hNd.k kk2 (by omega) (by omega) (by omega)⟩, hOl.k kk2 (by omega) (by omega) (by omega), hOu.k kk2 (by omega)⟩, kk2.mono (fun y z => by unfold KMr; omega)⟩; exact (lst_nmd hu (q := 0) (e := i))) (by decide) (by decide) d_M_find_40
    · -- 18: False
      refine lv_aload_n hx hb d_M_find_21 rfl (lv_at hl 0 rfl) ?_
      refine lv_iload_n hx hb d_M_find_22 rfl (lv_at hl 1 rfl) ?_
      refine z_callV (n := 1) (As := [.int k]) (rest := []) ⟨hx, hb, hml, hown, hts⟩ (m_isField (F := S.1) l g h2 m8 (by omega)) (z_in k_943 rfl) (z_in k_7 rfl) (z_in k_940 rfl) (z_in k_942 rfl) (z_in ks_36 rfl) (by decide +kernel) ⟨by first | exact Nat.le_of_ble_eq_true rfl | (dsimp only; omega) | omega, by first | exact Nat.le_of_ble_eq_true rfl | (dsimp only; omega) | omega⟩ hK hE hw hA rfl m8 rfl hl.1 (Nat.le_of_ble_eq_true rfl) d_M_find_23 ⟨by first | exact Nat.le_of_ble_eq_true rfl | (dsimp only; omega) | omega, by first | exact Nat.le_of_ble_eq_true rfl | (dsimp only; omega) | omega⟩ rfl (fun r9 h9 H locs hp hw => ?_)
      obtain ⟨r8, h8⟩ := hp
      subst r8
      subst h8
      refine W.eq (g2 := F0 m 26 ls [.int (zb (isIx k S.1))]) rfl ?_
      refine lv_if_ne (tgt := 33) hx hb d_M_find_26 (by decide) (fun c_26 => ?_) (fun c_26 => ?_)
      · -- 26: True
        have c_26 : (isIx k S.1) = true := zb_t c_26
        refine lv_aload_n hx hb d_M_find_33 rfl (lv_at hl 0 rfl) ?_
        refine lv_iload_n hx hb d_M_find_34 rfl (lv_at hl 1 rfl) ?_
        refine lv_iconst (v := 0) hx hb d_M_find_35 (by decide) ?_
        refine lv_iload_n hx hb d_M_find_36 rfl (lv_at hl 2 rfl) ?_
        refine z_callV (n := 3) (As := [.int k, .int 0, .int (nI i)]) (rest := []) ⟨hx, hb, hml, hown, hts⟩ (m_named (t := tT T) (n := i) (q := 0) (m9 := i) l g h2 m8 t8 hn4 hf2 (hSc.k kk2 (by omega) (by omega) (by omega)) hB (by omega)) (z_in k_963 rfl) (z_in k_7 rfl) (z_in k_960 rfl) (z_in k_962 rfl) (z_in ks_38 rfl) (by decide +kernel) ⟨by first | exact Nat.le_of_ble_eq_true rfl | (dsimp only; omega) | omega, by first | exact Nat.le_of_ble_eq_true rfl | (dsimp only; omega) | omega⟩ hK hE hw hA rfl m8 rfl hl.1 (Nat.le_of_ble_eq_true rfl) d_M_find_37 ⟨by first | exact Nat.le_of_ble_eq_true rfl | (dsimp only; omega) | omega, by first | exact Nat.le_of_ble_eq_true rfl | (dsimp only; omega) | omega⟩ rfl (fun r9 h9 H locs hp hw => ?_)
        obtain ⟨r8, h8⟩ := hp
        subst r8
        subst h8
        refine W.eq (g2 := F0 m 40 ls [.int (lst S k (tT T) 0 i S.1)]) rfl ?_
        exact z_iret hx hb hr hlocks hw (by refine ⟨congrArg some (congrArg Value.int ?_), ⟨ma, _, _, _, _, _, _, m8, ⟨ftp, g2_ma_0, Nat.zero_le _, fun k hk => absurd hk (Nat.not_lt_zero _)⟩, ⟨_, t8⟩, ⟨_, _, _, hSc.k kk2 (by omega) (by omega) (by omega)⟩, hSf.k kk2 (by omega) (by omega) (by omega), ⟨_, _, _, _, _, _, hNd.k kk2 (by omega) (by omega) (by omega)⟩, hOl.k kk2 (by omega) (by omega) (by omega), hOu.k kk2 (by omega)⟩, kk2.mono (fun y z => by unfold KMr; omega)⟩; exact (lst_nmd hu (q := 0) (e := i))) (by decide) (by decide) d_M_find_40
      · -- 26: False
        have c_26 : (isIx k S.1) = false := zb_f c_26
        refine lv_iconst (v := (-1)) hx hb d_M_find_29 (by decide) ?_
        refine lv_goto (tgt := 40) hx hb d_M_find_30 (by decide) ?_
        exact z_iret hx hb hr hlocks hw (by refine ⟨congrArg some (congrArg Value.int ?_), ⟨ma, _, _, _, _, _, _, m8, ⟨ftp, g2_ma_0, Nat.zero_le _, fun k hk => absurd hk (Nat.not_lt_zero _)⟩, ⟨_, t8⟩, ⟨_, _, _, hSc.k kk2 (by omega) (by omega) (by omega)⟩, hSf.k kk2 (by omega) (by omega) (by omega), ⟨_, _, _, _, _, _, hNd.k kk2 (by omega) (by omega) (by omega)⟩, hOl.k kk2 (by omega) (by omega) (by omega), hOu.k kk2 (by omega)⟩, kk2.mono (fun y z => by unfold KMr; omega)⟩; exact (nmd_out hgr hB.1 c_18 c_26).symm) (by decide) (by decide) d_M_find_40
  · -- 10: False
    exact absurd c_10 (by decide)

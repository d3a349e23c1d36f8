section ZR3
variable {p : Program} {l : Launch} {e : Env} {R : Room} {s : State} {m : MethodId} {args : Array Value} {below : List Frame} {meth : Method} {c : Code} {H : Heap} {locs : List Loc} {cells slots : Nat} {Q : State → Prop}
variable {cc : ByteArray} {pc : Nat} {ls : Array Slot} {rest st0 : List Value} {g : z_G} {A : Nat → Prop} {a : Nat} {H0 : Heap} {h : z_H} {t : Nat × Nat} {mc ms : Nat}
theorem z_aldr (hexec : p.tables.exec = Jvm.exec) (hb : c.code = cc) (hK : va_K g.1 cls (ztys g) s) (hw : z_S g A H0 h H locs) {cA : ClassId} {n : Nat} {f : Nat → Option Nat} (ha : h a = some (t, .inl (cA, n, .inr (.inr (.inr (.inr f)))))) (t0 : Nat) (ht : (ztys g)[t0]? = some (cA, .array .int)) {i : Int32} (hin : vp_in i n) (hdg : decode cc pc = .ok (.aaload, 1))
    (kk : W p l e R s m args below meth c H locs cells slots Q (F0 m (pc + 1) ls (va_rf (f i.toNatClampNeg) :: rest))) : W p l e R s m args below meth c H locs cells slots Q (F0 m pc ls (.int i :: .ref a :: rest)) := by
  have hlt : i.toNatClampNeg < n := Nat.not_le.mp fun q => hin (Or.inr q)
  exact W.aald (v := va_rf (f i.toNatClampNeg)) (ty := .array .int) hexec hb (z_P1 (hw.1 _ _ _ ha) 0 _ rfl) ((hK.2 t0 _ ht).1 n (fun j => va_rf (f j))) rfl (fun q => by cases q) (by show ¬ (i < 0 ∨ (arrV _ _ _).slots.size ≤ _); rw [arrV_size]; exact hin) (by show (arrV _ _ _).slots[_]? = _; rw [arrV_read _ _ hlt]) rfl rfl hdg kk
end ZR3

/-- the levels of each field are its group's and its own step -/
def lvOK (S : Sch) : Prop := ∀ i, i < S.1 → fRe (S.2 i) = upR S (fGr (S.2 i)) + (if fKi (S.2 i) = 2 then 1 else 0) ∧ fDe (S.2 i) = upD S (fGr (S.2 i)) + (if fKi (S.2 i) = 0 then 0 else 1)
theorem upR_n {S : Sch} {i : Nat} (h : i < 2 ^ 31) : upR S (nI i) = fRe (S.2 i) := by
  unfold upR
  rw [if_neg (fun z => nI_pos h (by rw [z]; decide)), nI_clamp h]
theorem upD_n {S : Sch} {i : Nat} (h : i < 2 ^ 31) : upD S (nI i) = fDe (S.2 i) := by
  unfold upD
  rw [if_neg (fun z => nI_pos h (by rw [z]; decide)), nI_clamp h]
/-- a number of a group, or none -/
def grN (S : Sch) (gi : Int32) : Prop := gi = -1 ∨ ∃ i, i < S.1 ∧ gi = nI i
def grM (gi : Int32) : Nat := (gi.toInt + 1).toNat
theorem grM_n {i : Nat} (h : i < 2 ^ 31) : grM (nI i) = i + 1 := by
  unfold grM
  rw [nI_toInt h]
  omega
theorem grN_up {S : Sch} (hg : grOK S) {i : Nat} (hi : i < S.1) (hs : S.1 ≤ 128) : grN S (fGr (S.2 i)) ∧ grM (fGr (S.2 i)) < grM (nI i) := by
  rw [grM_n (by omega)]
  rcases hg i hi with e | ⟨j, hj, e⟩
  · rw [e]; exact ⟨Or.inl rfl, by show grM (-1) < i + 1; have : grM (-1) = 0 := (by decide); omega⟩
  · rw [e, grM_n (by omega)]; exact ⟨Or.inr ⟨j, by omega, rfl⟩, by omega⟩

set_option maxHeartbeats 300000 in
set_option maxRecDepth 100000 in
theorem m_level1 (l : Launch) (g : z_G) (h : z_H) {mo : Nat} {ma : Nat → Nat} {cod tpd cls9 ffl fcl nds sai ous il : Int32} {siz at9 : Int32} {S : Sch} {rw9 : Nat → Nat} {rf : Nat → Nat → Int32} {lf : Nat → Int32} {f9 : Nat} (hmo : h mo = some ((20, 0), .inr (11, mF ma cod tpd siz (nI S.1) cls9 ffl fcl nds sai ous at9 il))) (hSc : MSp g h (ma 2) (ma 4) 23 27 S rw9 rf lf) (hs8 : S.1 ≤ 128) (hf9 : f9 < S.1) (hgr : grOK S) (hlv : lvOK S) : z_C l y_M_level prog_13_method_18_code 5 (Option.some Jvm.ClassFile.FieldType.int) 0 0 0 0 g [.ref mo, .int (nI f9), .int 1] h (fun x h1 => x = some (.int (upR S (nI f9))) ∧ h = h1) := by
  refine z_C.of (by decide) (Nat.le_of_ble_eq_true rfl) (fun pg en s m below meth cd A ls hx hb hml hr hts hown hlocks hnm hK hE hA hw hl => ?_)
  have hl : lv_has ls 5 [(0, .ref mo), (1, .int (nI f9)), (2, .int 1)] := hl
  have hrw_0 : h (rw9 0) = some ((24, 0), .inl (g.2.1 1, 128, .inl (rf 0))) := hSc.2.1 0 (by omega)
  have hrw_2 : h (rw9 2) = some ((24, 2), .inl (g.2.1 1, 128, .inl (rf 2))) := hSc.2.1 2 (by omega)
  refine lv_iconst (v := 0) hx hb d_M_level_0 (by decide) ?_
  refine lv_istore_n (lv' := [(3, .int 0), (0, .ref mo), (1, .int (nI f9)), (2, .int 1)]) hx hb d_M_level_1 rfl hl (by decide) rfl (fun ls hl => ?_)
  refine lv_iload_n hx hb d_M_level_2 rfl (lv_at hl 2 rfl) ?_
  refine lv_istore (lv' := [(4, .int (nI f9)), (3, .int 0), (0, .ref mo), (1, .int (nI f9)), (2, .int 1)]) hx hb d_M_level_3 hl (by decide) rfl (fun ls hl => ?_)
  have loop_5 : ∀ (fuel : Nat) (nn : Int32) (gi : Int32) (H : Heap) (locs : List Loc) (ls : Array Slot)  (hgi : grN S gi) (hnn : nn + upR S gi = upR S (nI f9)), (grM gi) < fuel → z_S g A s.heap h H locs → lv_has ls 5 [(0, .ref mo), (1, .int (nI f9)), (2, .int 1), (3, .int nn), (4, .int gi)] → W pg l en { frames := 0, cells := 0, slots := 0, locals := 0 } s m [.ref mo, .int (nI f9), .int 1].toArray below meth cd H locs 0 0 (MQ below (z_Q g A (fun x h1 => x = some (.int (upR S (nI f9))) ∧ h = h1)) [.ref mo, .int (nI f9), .int 1].toArray s 0 0 A) (F0 m 5 ls []) := by
    intro fuel
    induction fuel with
    | zero => intro nn gi H locs ls hgi hnn hm; exact absurd hm (Nat.not_lt_zero _)
    | succ fuel ih_5 =>
      intro nn gi H locs ls hgi hnn hm hw hl
      refine lv_iload hx hb d_M_level_5 (lv_at hl 4 rfl) ?_
      refine lv_iconst (v := (-1)) hx hb d_M_level_7 (by decide) ?_
      refine lv_icmp_eq (tgt := 70) hx hb d_M_level_8 (by decide) (fun c_8 => ?_) (fun c_8 => ?_)
      · -- 8: True
        refine lv_iload_n hx hb d_M_level_70 rfl (lv_at hl 3 rfl) ?_
        exact z_iret hx hb hr hlocks hw (by refine ⟨congrArg some (congrArg Value.int ?_), rfl⟩; rw [← hnn, show gi = -1 by simpa using c_8]; exact (Int32.add_zero _).symm) (by decide) (by decide) d_M_level_71
      · -- 8: False
        obtain ⟨i, hi, ea_i⟩ := hgi.resolve_left c_8
        have hl : lv_has ls 5 [(0, .ref mo), (1, .int (nI f9)), (2, .int 1), (3, .int nn), (4, .int (nI i))] := by rw [← ea_i]; exact hl
        have hme := (grN_up hgr hi hs8).2
        rw [← ea_i] at hme
        have hri := hSc.2.2.2 i hi
        refine lv_iload_n hx hb d_M_level_11 rfl (lv_at hl 3 rfl) ?_
        refine lv_iload_n hx hb d_M_level_12 rfl (lv_at hl 2 rfl) ?_
        refine lv_if_eq (tgt := 37) hx hb d_M_level_13 (by decide) (fun c_13 => ?_) (fun c_13 => ?_)
        · -- 13: True
          exact absurd c_13 (by decide)
        · -- 13: False
          refine lv_aload_n hx hb d_M_level_16 rfl (lv_at hl 0 rfl) ?_
          refine z_get hx hb hts (z_lay i_M) hown hK hw hmo rfl 5 (by decide) (z_in k_776 rfl) (fun _ h9 => h9) rfl d_M_level_17 ?_
          refine lv_iconst (v := 0) hx hb d_M_level_20 (by decide) ?_
          refine z_aldr hx hb hK hw hSc.1 5 rfl (by unfold vp_in; decide) d_M_level_21 ?_
          refine z_top (y := va_rf ((fun k => some (rw9 k)) 0)) (by rfl) ?_
          refine z_top (y := .ref (rw9 0)) (rfl) ?_
          refine lv_iload hx hb d_M_level_22 (lv_at hl 4 rfl) ?_
          refine z_iald hx hb hK hw hrw_0 1 rfl (vp_in_nI (by omega) (by omega)) d_M_level_24 ?_
          refine z_topi (y := (rf 0) i) (by rw [nI_clamp (by omega)]) ?_
          refine z_top (y := .int (fKi (S.2 i))) (by rw [hri.1]) ?_
          refine lv_iconst (v := 2) hx hb d_M_level_25 (by decide) ?_
          refine lv_icmp_ne (tgt := 33) hx hb d_M_level_26 (by decide) (fun c_26 => ?_) (fun c_26 => ?_)
          · -- 26: True
            refine lv_iconst (v := 0) hx hb d_M_level_33 (by decide) ?_
            refine lv_goto (tgt := 54) hx hb d_M_level_34 (by decide) ?_
            refine lv_iadd hx hb d_M_level_54 ?_
            refine lv_istore_n (lv' := [(3, .int (nn + 0)), (0, .ref mo), (1, .int (nI f9)), (2, .int 1), (4, .int (nI i))]) hx hb d_M_level_55 rfl hl (by decide) rfl (fun ls hl => ?_)
            refine lv_aload_n hx hb d_M_level_56 rfl (lv_at hl 1 rfl) ?_
            refine z_get hx hb hts (z_lay i_M) hown hK hw hmo rfl 5 (by decide) (z_in k_776 rfl) (fun _ h9 => h9) rfl d_M_level_57 ?_
            refine lv_iconst (v := 2) hx hb d_M_level_60 (by decide) ?_
            refine z_aldr hx hb hK hw hSc.1 5 rfl (by unfold vp_in; decide) d_M_level_61 ?_
            refine z_top (y := va_rf ((fun k => some (rw9 k)) 2)) (by rfl) ?_
            refine z_top (y := .ref (rw9 2)) (rfl) ?_
            refine lv_iload hx hb d_M_level_62 (lv_at hl 4 rfl) ?_
            refine z_iald hx hb hK hw hrw_2 1 rfl (vp_in_nI (by omega) (by omega)) d_M_level_64 ?_
            refine z_topi (y := (rf 2) i) (by rw [nI_clamp (by omega)]) ?_
            refine z_top (y := .int (fGr (S.2 i))) (by rw [hri.2.2.1]) ?_
            refine lv_istore (lv' := [(4, .int (fGr (S.2 i))), (3, .int (nn + 0)), (0, .ref mo), (1, .int (nI f9)), (2, .int 1)]) hx hb d_M_level_65 hl (by decide) rfl (fun ls hl => ?_)
            refine lv_goto (tgt := 5) hx hb d_M_level_67 (by decide) ?_
            refine ih_5 (nn + 0) (fGr (S.2 i)) _ _ _ ((grN_up hgr hi hs8).1) (by rw [← hnn, ea_i, upR_n (by omega), (hlv i hi).1, Int32.add_comm (upR S (fGr (S.2 i))), ← Int32.add_assoc, if_neg (show ¬ fKi (S.2 i) = 2 from c_26)]) ?_ hw (lv_sub hl [2, 3, 4, 1, 0] rfl)
            omega
          · -- 26: False
            refine lv_iconst (v := 1) hx hb d_M_level_29 (by decide) ?_
            refine lv_goto (tgt := 54) hx hb d_M_level_30 (by decide) ?_
            refine lv_iadd hx hb d_M_level_54 ?_
            refine lv_istore_n (lv' := [(3, .int (nn + 1)), (0, .ref mo), (1, .int (nI f9)), (2, .int 1), (4, .int (nI i))]) hx hb d_M_level_55 rfl hl (by decide) rfl (fun ls hl => ?_)
            refine lv_aload_n hx hb d_M_level_56 rfl (lv_at hl 1 rfl) ?_
            refine z_get hx hb hts (z_lay i_M) hown hK hw hmo rfl 5 (by decide) (z_in k_776 rfl) (fun _ h9 => h9) rfl d_M_level_57 ?_
            refine lv_iconst (v := 2) hx hb d_M_level_60 (by decide) ?_
            refine z_aldr hx hb hK hw hSc.1 5 rfl (by unfold vp_in; decide) d_M_level_61 ?_
            refine z_top (y := va_rf ((fun k => some (rw9 k)) 2)) (by rfl) ?_
            refine z_top (y := .ref (rw9 2)) (rfl) ?_
            refine lv_iload hx hb d_M_level_62 (lv_at hl 4 rfl) ?_
            refine z_iald hx hb hK hw hrw_2 1 rfl (vp_in_nI (by omega) (by omega)) d_M_level_64 ?_
            refine z_topi (y := (rf 2) i) (by rw [nI_clamp (by omega)]) ?_
            refine z_top (y := .int (fGr (S.2 i))) (by rw [hri.2.2.1]) ?_
            refine lv_istore (lv' := [(4, .int (fGr (S.2 i))), (3, .int (nn + 1)), (0, .ref mo), (1, .int (nI f9)), (2, .int 1)]) hx hb d_M_level_65 hl (by decide) rfl (fun ls hl => ?_)
            refine lv_goto (tgt := 5) hx hb d_M_level_67 (by decide) ?_
            refine ih_5 (nn + 1) (fGr (S.2 i)) _ _ _ ((grN_up hgr hi hs8).1) (by rw [← hnn, ea_i, upR_n (by omega), (hlv i hi).1, Int32.add_comm (upR S (fGr (S.2 i))), ← Int32.add_assoc, if_pos (show fKi (S.2 i) = 2 by simpa using c_26)]) ?_ hw (lv_sub hl [2, 3, 4, 1, 0] rfl)
            omega
  exact loop_5 (grM (nI f9) + 1) 0 (nI f9)  _ _ _  (Or.inr ⟨f9, hf9, rfl⟩) (Int32.zero_add _) (by omega) hw (lv_sub hl [2, 3, 4, 1, 0] rfl)

set_option maxHeartbeats 300000 in
set_option maxRecDepth 100000 in
theorem m_level0 (l : Launch) (g : z_G) (h : z_H) {mo : Nat} {ma : Nat → Nat} {cod tpd cls9 ffl fcl nds sai ous il : Int32} {siz at9 : Int32} {S : Sch} {rw9 : Nat → Nat} {rf : Nat → Nat → Int32} {lf : Nat → Int32} {f9 : Nat} (hmo : h mo = some ((20, 0), .inr (11, mF ma cod tpd siz (nI S.1) cls9 ffl fcl nds sai ous at9 il))) (hSc : MSp g h (ma 2) (ma 4) 23 27 S rw9 rf lf) (hs8 : S.1 ≤ 128) (hf9 : f9 < S.1) (hgr : grOK S) (hlv : lvOK S) : z_C l y_M_level prog_13_method_18_code 5 (Option.some Jvm.ClassFile.FieldType.int) 0 0 0 0 g [.ref mo, .int (nI f9), .int 0] h (fun x h1 => x = some (.int (upD S (nI f9))) ∧ h = h1) := by
  refine z_C.of (by decide) (Nat.le_of_ble_eq_true rfl) (fun pg en s m below meth cd A ls hx hb hml hr hts hown hlocks hnm hK hE hA hw hl => ?_)
  have hl : lv_has ls 5 [(0, .ref mo), (1, .int (nI f9)), (2, .int 0)] := hl
  have hrw_0 : h (rw9 0) = some ((24, 0), .inl (g.2.1 1, 128, .inl (rf 0))) := hSc.2.1 0 (by omega)
  have hrw_2 : h (rw9 2) = some ((24, 2), .inl (g.2.1 1, 128, .inl (rf 2))) := hSc.2.1 2 (by omega)
  refine lv_iconst (v := 0) hx hb d_M_level_0 (by decide) ?_
  refine lv_istore_n (lv' := [(3, .int 0), (0, .ref mo), (1, .int (nI f9)), (2, .int 0)]) hx hb d_M_level_1 rfl hl (by decide) rfl (fun ls hl => ?_)
  refine lv_iload_n hx hb d_M_level_2 rfl (lv_at hl 2 rfl) ?_
  refine lv_istore (lv' := [(4, .int (nI f9)), (3, .int 0), (0, .ref mo), (1, .int (nI f9)), (2, .int 0)]) hx hb d_M_level_3 hl (by decide) rfl (fun ls hl => ?_)
  have loop_5 : ∀ (fuel : Nat) (nn : Int32) (gi : Int32) (H : Heap) (locs : List Loc) (ls : Array Slot)  (hgi : grN S gi) (hnn : nn + upD S gi = upD S (nI f9)), (grM gi) < fuel → z_S g A s.heap h H locs → lv_has ls 5 [(0, .ref mo), (1, .int (nI f9)), (2, .int 0), (3, .int nn), (4, .int gi)] → W pg l en { frames := 0, cells := 0, slots := 0, locals := 0 } s m [.ref mo, .int (nI f9), .int 0].toArray below meth cd H locs 0 0 (MQ below (z_Q g A (fun x h1 => x = some (.int (upD S (nI f9))) ∧ h = h1)) [.ref mo, .int (nI f9), .int 0].toArray s 0 0 A) (F0 m 5 ls []) := by
    intro fuel
    induction fuel with
    | zero => intro nn gi H locs ls hgi hnn hm; exact absurd hm (Nat.not_lt_zero _)
    | succ fuel ih_5 =>
      intro nn gi H locs ls hgi hnn hm hw hl
      refine lv_iload hx hb d_M_level_5 (lv_at hl 4 rfl) ?_
      refine lv_iconst (v := (-1)) hx hb d_M_level_7 (by decide) ?_
      refine lv_icmp_eq (tgt := 70) hx hb d_M_level_8 (by decide) (fun c_8 => ?_) (fun c_8 => ?_)
      · -- 8: True
        refine lv_iload_n hx hb d_M_level_70 rfl (lv_at hl 3 rfl) ?_
        exact z_iret hx hb hr hlocks hw (by refine ⟨congrArg some (congrArg Value.int ?_), rfl⟩; rw [← hnn, show gi = -1 by simpa using c_8]; exact (Int32.add_zero _).symm) (by decide) (by decide) d_M_level_71
      · -- 8: False
        obtain ⟨i, hi, ea_i⟩ := hgi.resolve_left c_8
        have hl : lv_has ls 5 [(0, .ref mo), (1, .int (nI f9)), (2, .int 0), (3, .int nn), (4, .int (nI i))] := by rw [← ea_i]; exact hl
        have hme := (grN_up hgr hi hs8).2
        rw [← ea_i] at hme
        have hri := hSc.2.2.2 i hi
        refine lv_iload_n hx hb d_M_level_11 rfl (lv_at hl 3 rfl) ?_
        refine lv_iload_n hx hb d_M_level_12 rfl (lv_at hl 2 rfl) ?_
        refine lv_if_eq (tgt := 37) hx hb d_M_level_13 (by decide) (fun c_13 => ?_) (fun c_13 => ?_)
        · -- 13: True
          refine lv_aload_n hx hb d_M_level_37 rfl (lv_at hl 0 rfl) ?_
          refine z_get hx hb hts (z_lay i_M) hown hK hw hmo rfl 5 (by decide) (z_in k_776 rfl) (fun _ h9 => h9) rfl d_M_level_38 ?_
          refine lv_iconst (v := 0) hx hb d_M_level_41 (by decide) ?_
          refine z_aldr hx hb hK hw hSc.1 5 rfl (by unfold vp_in; decide) d_M_level_42 ?_
          refine z_top (y := va_rf ((fun k => some (rw9 k)) 0)) (by rfl) ?_
          refine z_top (y := .ref (rw9 0)) (rfl) ?_
          refine lv_iload hx hb d_M_level_43 (lv_at hl 4 rfl) ?_
          refine z_iald hx hb hK hw hrw_0 1 rfl (vp_in_nI (by omega) (by omega)) d_M_level_45 ?_
          refine z_topi (y := (rf 0) i) (by rw [nI_clamp (by omega)]) ?_
          refine z_top (y := .int (fKi (S.2 i))) (by rw [hri.1]) ?_
          refine lv_if_eq (tgt := 53) hx hb d_M_level_46 (by decide) (fun c_46 => ?_) (fun c_46 => ?_)
          · -- 46: True
            refine lv_iconst (v := 0) hx hb d_M_level_53 (by decide) ?_
            refine lv_iadd hx hb d_M_level_54 ?_
            refine lv_istore_n (lv' := [(3, .int (nn + 0)), (0, .ref mo), (1, .int (nI f9)), (2, .int 0), (4, .int (nI i))]) hx hb d_M_level_55 rfl hl (by decide) rfl (fun ls hl => ?_)
            refine lv_aload_n hx hb d_M_level_56 rfl (lv_at hl 1 rfl) ?_
            refine z_get hx hb hts (z_lay i_M) hown hK hw hmo rfl 5 (by decide) (z_in k_776 rfl) (fun _ h9 => h9) rfl d_M_level_57 ?_
            refine lv_iconst (v := 2) hx hb d_M_level_60 (by decide) ?_
            refine z_aldr hx hb hK hw hSc.1 5 rfl (by unfold vp_in; decide) d_M_level_61 ?_
            refine z_top (y := va_rf ((fun k => some (rw9 k)) 2)) (by rfl) ?_
            refine z_top (y := .ref (rw9 2)) (rfl) ?_
            refine lv_iload hx hb d_M_level_62 (lv_at hl 4 rfl) ?_
            refine z_iald hx hb hK hw hrw_2 1 rfl (vp_in_nI (by omega) (by omega)) d_M_level_64 ?_
            refine z_topi (y := (rf 2) i) (by rw [nI_clamp (by omega)]) ?_
            refine z_top (y := .int (fGr (S.2 i))) (by rw [hri.2.2.1]) ?_
            refine lv_istore (lv' := [(4, .int (fGr (S.2 i))), (3, .int (nn + 0)), (0, .ref mo), (1, .int (nI f9)), (2, .int 0)]) hx hb d_M_level_65 hl (by decide) rfl (fun ls hl => ?_)
            refine lv_goto (tgt := 5) hx hb d_M_level_67 (by decide) ?_
            refine ih_5 (nn + 0) (fGr (S.2 i)) _ _ _ ((grN_up hgr hi hs8).1) (by rw [← hnn, ea_i, upD_n (by omega), (hlv i hi).2, Int32.add_comm (upD S (fGr (S.2 i))), ← Int32.add_assoc, if_pos (show fKi (S.2 i) = 0 from c_46)]) ?_ hw (lv_sub hl [2, 3, 4, 1, 0] rfl)
            omega
          · -- 46: False
            refine lv_iconst (v := 1) hx hb d_M_level_49 (by decide) ?_
            refine lv_goto (tgt := 54) hx hb d_M_level_50 (by decide) ?_
            refine lv_iadd hx hb d_M_level_54 ?_
            refine lv_istore_n (lv' := [(3, .int (nn + 1)), (0, .ref mo), (1, .int (nI f9)), (2, .int 0), (4, .int (nI i))]) hx hb d_M_level_55 rfl hl (by decide) rfl (fun ls hl => ?_)
            refine lv_aload_n hx hb d_M_level_56 rfl (lv_at hl 1 rfl) ?_
            refine z_get hx hb hts (z_lay i_M) hown hK hw hmo rfl 5 (by decide) (z_in k_776 rfl) (fun _ h9 => h9) rfl d_M_level_57 ?_
            refine lv_iconst (v := 2) hx hb d_M_level_60 (by decide) ?_
            refine z_aldr hx hb hK hw hSc.1 5 rfl (by unfold vp_in; decide) d_M_level_61 ?_
            refine z_top (y := va_rf ((fun k => some (rw9 k)) 2)) (by rfl) ?_
            refine z_top (y := .ref (rw9 2)) (rfl) ?_
            refine lv_iload hx hb d_M_level_62 (lv_at hl 4 rfl) ?_
            refine z_iald hx hb hK hw hrw_2 1 rfl (vp_in_nI (by omega) (by omega)) d_M_level_64 ?_
            refine z_topi (y := (rf 2) i) (by rw [nI_clamp (by omega)]) ?_
            refine z_top (y := .int (fGr (S.2 i))) (by rw [hri.2.2.1]) ?_
            refine lv_istore (lv' := [(4, .int (fGr (S.2 i))), (3, .int (nn + 1)), (0, .ref mo), (1, .int (nI f9)), (2, .int 0)]) hx hb d_M_level_65 hl (by decide) rfl (fun ls hl => ?_)
            refine lv_goto (tgt := 5) hx hb d_M_level_67 (by decide) ?_
            refine ih_5 (nn + 1) (fGr (S.2 i)) _ _ _ ((grN_up hgr hi hs8).1) (by rw [← hnn, ea_i, upD_n (by omega), (hlv i hi).2, Int32.add_comm (upD S (fGr (S.2 i))), ← Int32.add_assoc, if_neg (show ¬ fKi (S.2 i) = 0 from c_46)]) ?_ hw (lv_sub hl [2, 3, 4, 1, 0] rfl)
            omega
        · -- 13: False
          exact absurd rfl c_13
  exact loop_5 (grM (nI f9) + 1) 0 (nI f9)  _ _ _  (Or.inr ⟨f9, hf9, rfl⟩) (Int32.zero_add _) (by omega) hw (lv_sub hl [2, 3, 4, 1, 0] rfl)

set_option maxHeartbeats 300000 in
set_option maxRecDepth 100000 in
theorem m_field (l : Launch) (g : z_G) (h : z_H) {mo : Nat} {T : List Nat} {S : Sch} {R : Rec} {O : List Nat} {a k : Int32}  (hM : MAt g h mo T S R O) (hs8 : S.1 ≤ 128) (hgr : grOK S) (hlv : lvOK S) : z_C l y_M_field prog_13_method_20_code 3 (Option.some Jvm.ClassFile.FieldType.int) 1 80 0 0 g [.ref mo, .int a, .int k] h (fun x h1 => MPt g h x (.int (oField S a k)) h1 mo T S R O) := by
  refine z_C.of (by decide) (Nat.le_of_ble_eq_true rfl) (fun pg en s m below meth cd A ls hx hb hml hr hts hown hlocks hnm hK hE hA hw hl => ?_)
  have hl : lv_has ls 3 [(0, .ref mo), (1, .int a), (2, .int k)] := hl
  obtain ⟨ma, cod, siz, ffl, fcl, at9, il, hmo, hTp, hTx, ⟨rw9, rf, lf, hSc⟩, hSf, ⟨nf, np, nr, ns, nv, tx, hNd⟩, hOl, hOu⟩ := id hM
  obtain ⟨ftp, htp, hT4, hTv⟩ := id hTp
  obtain ⟨fou, hou, hO6, hOv⟩ := id hOu
  have hrw_0 : h (rw9 0) = some ((24, 0), .inl (g.2.1 1, 128, .inl (rf 0))) := hSc.2.1 0 (by omega)
  have kk0 : z_K (fun y => y = 20) h h := z_K.rf
  refine lv_aload_n hx hb d_M_field_0 rfl (lv_at hl 0 rfl) ?_
  refine lv_iconst (v := 0) hx hb d_M_field_1 (by decide) ?_
  refine z_putf (ty := .int) hx hb hts (z_lay i_M) t_M t_M_ok n_M hown hK hw hmo rfl 0 (by decide) (z_in k_771 rfl) (fun _ h9 => h9) rfl (by decide +kernel) rfl rfl (Nat.le_of_ble_eq_true rfl) d_M_field_2 (fun H locs hw => ?_)
  obtain ⟨h1, hh1⟩ : ∃ x9, z_put h mo (20, 0) (.inr (11, mF ma 0 (nI T.length) siz (nI S.1) (nI (cc S)) ffl fcl (nI R.1) (nI (tbC R.2 R.1)) (nI O.length) at9 il)) = x9 := ⟨_, rfl⟩
  have hw : z_S g A s.heap h1 H locs := by rw [← hh1]; exact hw
  have f1_mo : h1 mo = some ((20, 0), .inr (11, mF ma 0 (nI T.length) siz (nI S.1) (nI (cc S)) ffl fcl (nI R.1) (nI (tbC R.2 R.1)) (nI O.length) at9 il)) := by rw [← hh1]; exact z_put_eq
  have f1_ma_2 : h1 (ma 2) = some ((23, 0), .inl (g.2.1 5, 6, .inr (.inr (.inr (.inr (fun k => some (rw9 k))))))) := by rw [← hh1]; exact z_keep hmo hSc.1 (z_t1 (by decide))
  have kk1 : z_K (fun y => y = 20) h h1 := kk0.tr (by rw [← hh1]; exact z_K.put hmo (by first | decide | simp | omega))
  refine lv_aload_n hx hb d_M_field_5 rfl (lv_at hl 0 rfl) ?_
  refine lv_iload_n hx hb d_M_field_6 rfl (lv_at hl 1 rfl) ?_
  refine z_callV (n := 1) (As := [.int a]) (rest := []) ⟨hx, hb, hml, hown, hts⟩ (m_isField (F := S.1) l g h1 f1_mo (by omega)) (z_in k_943 rfl) (z_in k_7 rfl) (z_in k_940 rfl) (z_in k_942 rfl) (z_in ks_36 rfl) (by decide +kernel) ⟨by first | exact Nat.le_of_ble_eq_true rfl | (dsimp only; omega) | omega, by first | exact Nat.le_of_ble_eq_true rfl | (dsimp only; omega) | omega⟩ hK hE hw hA rfl f1_mo rfl hl.1 (Nat.le_of_ble_eq_true rfl) d_M_field_7 ⟨by first | exact Nat.le_of_ble_eq_true rfl | (dsimp only; omega) | omega, by first | exact Nat.le_of_ble_eq_true rfl | (dsimp only; omega) | omega⟩ rfl (fun r9 h9 H locs hp hw => ?_)
  obtain ⟨r8, h8⟩ := hp
  subst r8
  subst h8
  refine W.eq (g2 := F0 m 10 ls [.int (zb (isIx a S.1))]) rfl ?_
  refine lv_if_ne (tgt := 15) hx hb d_M_field_10 (by decide) (fun c_10 => ?_) (fun c_10 => ?_)
  · -- 10: True
    have c_10 : (isIx a S.1) = true := zb_t c_10
    obtain ⟨i, hi, rfl⟩ := isIx_ex (show isIx a S.1 = true from c_10) (by omega)
    have hl : lv_has ls 3 [(0, .ref mo), (1, .int (nI i)), (2, .int k)] := hl
    refine lv_iload_n hx hb d_M_field_15 rfl (lv_at hl 2 rfl) ?_
    refine lv_if_lt (tgt := 33) hx hb d_M_field_16 (by decide) (fun c_16 => ?_) (fun c_16 => ?_)
    · -- 16: True
      refine lv_iload_n hx hb d_M_field_33 rfl (lv_at hl 2 rfl) ?_
      refine lv_iconst (v := 5) hx hb d_M_field_34 (by decide) ?_
      refine lv_icmp_ne (tgt := 47) hx hb d_M_field_35 (by decide) (fun c_35 => ?_) (fun c_35 => ?_)
      · -- 35: True
        refine lv_iload_n hx hb d_M_field_47 rfl (lv_at hl 2 rfl) ?_
        refine lv_bipush (v := 6) hx hb d_M_field_48 (by decide) ?_
        refine lv_icmp_ne (tgt := 62) hx hb d_M_field_50 (by decide) (fun c_50 => ?_) (fun c_50 => ?_)
        · -- 50: True
          refine lv_iconst (v := (-1)) hx hb d_M_field_62 (by decide) ?_
          exact z_iret hx hb hr hlocks hw (by refine ⟨congrArg some (congrArg Value.int ?_), ⟨ma, _, _, _, _, _, _, f1_mo, hTp.k kk1 (by omega), hTx.k kk1 (by omega), ⟨_, _, _, hSc.k kk1 (by omega) (by omega) (by omega)⟩, hSf.k kk1 (by omega) (by omega) (by omega), ⟨_, _, _, _, _, _, hNd.k kk1 (by omega) (by omega) (by omega)⟩, hOl.k kk1 (by omega) (by omega) (by omega), hOu.k kk1 (by omega)⟩, kk1.mono (fun y z => by unfold KMr; omega)⟩; unfold oField; rw [c_10, if_pos rfl, nI_clamp (by omega)]; exact (swN_out (m := 7) (Or.inl (by have z := c_16; rw [Int32.lt_iff_toInt_lt] at z; exact z)) (by decide) _ 0 (by simp)).symm) (by decide) (by decide) d_M_field_63
        · -- 50: False
          refine lv_aload_n hx hb d_M_field_53 rfl (lv_at hl 0 rfl) ?_
          refine lv_iload_n hx hb d_M_field_54 rfl (lv_at hl 1 rfl) ?_
          refine lv_iconst (v := 0) hx hb d_M_field_55 (by decide) ?_
          refine z_callV (n := 2) (As := [.int (nI i), .int 0]) (rest := []) ⟨hx, hb, hml, hown, hts⟩ (m_level0 (f9 := i) l g h1 f1_mo (hSc.k kk1 (by omega) (by omega) (by omega)) hs8 hi hgr hlv) (z_in k_947 rfl) (z_in k_7 rfl) (z_in k_944 rfl) (z_in k_946 rfl) (z_in ks_37 rfl) (by decide +kernel) ⟨by first | exact Nat.le_of_ble_eq_true rfl | (dsimp only; omega) | omega, by first | exact Nat.le_of_ble_eq_true rfl | (dsimp only; omega) | omega⟩ hK hE hw hA rfl f1_mo rfl hl.1 (Nat.le_of_ble_eq_true rfl) d_M_field_56 ⟨by first | exact Nat.le_of_ble_eq_true rfl | (dsimp only; omega) | omega, by first | exact Nat.le_of_ble_eq_true rfl | (dsimp only; omega) | omega⟩ rfl (fun r9 h9 H locs hp hw => ?_)
          obtain ⟨r8, h8⟩ := hp
          subst r8
          subst h8
          refine W.eq (g2 := F0 m 59 ls [.int (upD S (nI i))]) rfl ?_
          refine lv_goto (tgt := 63) hx hb d_M_field_59 (by decide) ?_
          exact z_iret hx hb hr hlocks hw (by refine ⟨congrArg some (congrArg Value.int ?_), ⟨ma, _, _, _, _, _, _, f1_mo, hTp.k kk1 (by omega), hTx.k kk1 (by omega), ⟨_, _, _, hSc.k kk1 (by omega) (by omega) (by omega)⟩, hSf.k kk1 (by omega) (by omega) (by omega), ⟨_, _, _, _, _, _, hNd.k kk1 (by omega) (by omega) (by omega)⟩, hOl.k kk1 (by omega) (by omega) (by omega), hOu.k kk1 (by omega)⟩, kk1.mono (fun y z => by unfold KMr; omega)⟩; unfold oField; rw [c_10, if_pos rfl, nI_clamp (by omega)]; rw [show k = 6 by simpa using c_50, upD_n (by omega)]; rfl) (by decide) (by decide) d_M_field_63
      · -- 35: False
        refine lv_aload_n hx hb d_M_field_38 rfl (lv_at hl 0 rfl) ?_
        refine lv_iload_n hx hb d_M_field_39 rfl (lv_at hl 1 rfl) ?_
        refine lv_iconst (v := 1) hx hb d_M_field_40 (by decide) ?_
        refine z_callV (n := 2) (As := [.int (nI i), .int 1]) (rest := []) ⟨hx, hb, hml, hown, hts⟩ (m_level1 (f9 := i) l g h1 f1_mo (hSc.k kk1 (by omega) (by omega) (by omega)) hs8 hi hgr hlv) (z_in k_947 rfl) (z_in k_7 rfl) (z_in k_944 rfl) (z_in k_946 rfl) (z_in ks_37 rfl) (by decide +kernel) ⟨by first | exact Nat.le_of_ble_eq_true rfl | (dsimp only; omega) | omega, by first | exact Nat.le_of_ble_eq_true rfl | (dsimp only; omega) | omega⟩ hK hE hw hA rfl f1_mo rfl hl.1 (Nat.le_of_ble_eq_true rfl) d_M_field_41 ⟨by first | exact Nat.le_of_ble_eq_true rfl | (dsimp only; omega) | omega, by first | exact Nat.le_of_ble_eq_true rfl | (dsimp only; omega) | omega⟩ rfl (fun r9 h9 H locs hp hw => ?_)
        obtain ⟨r8, h8⟩ := hp
        subst r8
        subst h8
        refine W.eq (g2 := F0 m 44 ls [.int (upR S (nI i))]) rfl ?_
        refine lv_goto (tgt := 63) hx hb d_M_field_44 (by decide) ?_
        exact z_iret hx hb hr hlocks hw (by refine ⟨congrArg some (congrArg Value.int ?_), ⟨ma, _, _, _, _, _, _, f1_mo, hTp.k kk1 (by omega), hTx.k kk1 (by omega), ⟨_, _, _, hSc.k kk1 (by omega) (by omega) (by omega)⟩, hSf.k kk1 (by omega) (by omega) (by omega), ⟨_, _, _, _, _, _, hNd.k kk1 (by omega) (by omega) (by omega)⟩, hOl.k kk1 (by omega) (by omega) (by omega), hOu.k kk1 (by omega)⟩, kk1.mono (fun y z => by unfold KMr; omega)⟩; unfold oField; rw [c_10, if_pos rfl, nI_clamp (by omega)]; rw [show k = 5 by simpa using c_35, upR_n (by omega)]; rfl) (by decide) (by decide) d_M_field_63
    · -- 16: False
      refine lv_iload_n hx hb d_M_field_19 rfl (lv_at hl 2 rfl) ?_
      refine lv_iconst (v := 5) hx hb d_M_field_20 (by decide) ?_
      refine lv_icmp_ge (tgt := 33) hx hb d_M_field_21 (by decide) (fun c_21 => ?_) (fun c_21 => ?_)
      · -- 21: True
        refine lv_iload_n hx hb d_M_field_33 rfl (lv_at hl 2 rfl) ?_
        refine lv_iconst (v := 5) hx hb d_M_field_34 (by decide) ?_
        refine lv_icmp_ne (tgt := 47) hx hb d_M_field_35 (by decide) (fun c_35 => ?_) (fun c_35 => ?_)
        · -- 35: True
          refine lv_iload_n hx hb d_M_field_47 rfl (lv_at hl 2 rfl) ?_
          refine lv_bipush (v := 6) hx hb d_M_field_48 (by decide) ?_
          refine lv_icmp_ne (tgt := 62) hx hb d_M_field_50 (by decide) (fun c_50 => ?_) (fun c_50 => ?_)
          · -- 50: True
            refine lv_iconst (v := (-1)) hx hb d_M_field_62 (by decide) ?_
            exact z_iret hx hb hr hlocks hw (by refine ⟨congrArg some (congrArg Value.int ?_), ⟨ma, _, _, _, _, _, _, f1_mo, hTp.k kk1 (by omega), hTx.k kk1 (by omega), ⟨_, _, _, hSc.k kk1 (by omega) (by omega) (by omega)⟩, hSf.k kk1 (by omega) (by omega) (by omega), ⟨_, _, _, _, _, _, hNd.k kk1 (by omega) (by omega) (by omega)⟩, hOl.k kk1 (by omega) (by omega) (by omega), hOu.k kk1 (by omega)⟩, kk1.mono (fun y z => by unfold KMr; omega)⟩; unfold oField; rw [c_10, if_pos rfl, nI_clamp (by omega)]; exact (swN_out (m := 7) (Or.inr (by have z := c_21; simp only [ge_iff_le, Int32.le_iff_toInt_le] at z; have e5 : (5 : Int32).toInt = 5 := rfl; have z5 : k.toInt ≠ 5 := (fun e => c_35 (Int32.toInt_inj.mp (e.trans e5.symm))); have e6 : (6 : Int32).toInt = 6 := rfl; have z6 : k.toInt ≠ 6 := (fun e => c_50 (Int32.toInt_inj.mp (e.trans e6.symm))); omega)) (by decide) _ 0 (by simp)).symm) (by decide) (by decide) d_M_field_63
          · -- 50: False
            refine lv_aload_n hx hb d_M_field_53 rfl (lv_at hl 0 rfl) ?_
            refine lv_iload_n hx hb d_M_field_54 rfl (lv_at hl 1 rfl) ?_
            refine lv_iconst (v := 0) hx hb d_M_field_55 (by decide) ?_
            refine z_callV (n := 2) (As := [.int (nI i), .int 0]) (rest := []) ⟨hx, hb, hml, hown, hts⟩ (m_level0 (f9 := i) l g h1 f1_mo (hSc.k kk1 (by omega) (by omega) (by omega)) hs8 hi hgr hlv) (z_in k_947 rfl) (z_in k_7 rfl) (z_in k_944 rfl) (z_in k_946 rfl) (z_in ks_37 rfl) (by decide +kernel) ⟨by first | exact Nat.le_of_ble_eq_true rfl | (dsimp only; omega) | omega, by first | exact Nat.le_of_ble_eq_true rfl | (dsimp only; omega) | omega⟩ hK hE hw hA rfl f1_mo rfl hl.1 (Nat.le_of_ble_eq_true rfl) d_M_field_56 ⟨by first | exact Nat.le_of_ble_eq_true rfl | (dsimp only; omega) | omega, by first | exact Nat.le_of_ble_eq_true rfl | (dsimp only; omega) | omega⟩ rfl (fun r9 h9 H locs hp hw => ?_)
            obtain ⟨r8, h8⟩ := hp
            subst r8
            subst h8
            refine W.eq (g2 := F0 m 59 ls [.int (upD S (nI i))]) rfl ?_
            refine lv_goto (tgt := 63) hx hb d_M_field_59 (by decide) ?_
            exact z_iret hx hb hr hlocks hw (by refine ⟨congrArg some (congrArg Value.int ?_), ⟨ma, _, _, _, _, _, _, f1_mo, hTp.k kk1 (by omega), hTx.k kk1 (by omega), ⟨_, _, _, hSc.k kk1 (by omega) (by omega) (by omega)⟩, hSf.k kk1 (by omega) (by omega) (by omega), ⟨_, _, _, _, _, _, hNd.k kk1 (by omega) (by omega) (by omega)⟩, hOl.k kk1 (by omega) (by omega) (by omega), hOu.k kk1 (by omega)⟩, kk1.mono (fun y z => by unfold KMr; omega)⟩; unfold oField; rw [c_10, if_pos rfl, nI_clamp (by omega)]; rw [show k = 6 by simpa using c_50, upD_n (by omega)]; rfl) (by decide) (by decide) d_M_field_63
        · -- 35: False
          refine lv_aload_n hx hb d_M_field_38 rfl (lv_at hl 0 rfl) ?_
          refine lv_iload_n hx hb d_M_field_39 rfl (lv_at hl 1 rfl) ?_
          refine lv_iconst (v := 1) hx hb d_M_field_40 (by decide) ?_
          refine z_callV (n := 2) (As := [.int (nI i), .int 1]) (rest := []) ⟨hx, hb, hml, hown, hts⟩ (m_level1 (f9 := i) l g h1 f1_mo (hSc.k kk1 (by omega) (by omega) (by omega)) hs8 hi hgr hlv) (z_in k_947 rfl) (z_in k_7 rfl) (z_in k_944 rfl) (z_in k_946 rfl) (z_in ks_37 rfl) (by decide +kernel) ⟨by first | exact Nat.le_of_ble_eq_true rfl | (dsimp only; omega) | omega, by first | exact Nat.le_of_ble_eq_true rfl | (dsimp only; omega) | omega⟩ hK hE hw hA rfl f1_mo rfl hl.1 (Nat.le_of_ble_eq_true rfl) d_M_field_41 ⟨by first | exact Nat.le_of_ble_eq_true rfl | (dsimp only; omega) | omega, by first | exact Nat.le_of_ble_eq_true rfl | (dsimp only; omega) | omega⟩ rfl (fun r9 h9 H locs hp hw => ?_)
          obtain ⟨r8, h8⟩ := hp
          subst r8
          subst h8
          refine W.eq (g2 := F0 m 44 ls [.int (upR S (nI i))]) rfl ?_
          refine lv_goto (tgt := 63) hx hb d_M_field_44 (by decide) ?_
          exact z_iret hx hb hr hlocks hw (by refine ⟨congrArg some (congrArg Value.int ?_), ⟨ma, _, _, _, _, _, _, f1_mo, hTp.k kk1 (by omega), hTx.k kk1 (by omega), ⟨_, _, _, hSc.k kk1 (by omega) (by omega) (by omega)⟩, hSf.k kk1 (by omega) (by omega) (by omega), ⟨_, _, _, _, _, _, hNd.k kk1 (by omega) (by omega) (by omega)⟩, hOl.k kk1 (by omega) (by omega) (by omega), hOu.k kk1 (by omega)⟩, kk1.mono (fun y z => by unfold KMr; omega)⟩; unfold oField; rw [c_10, if_pos rfl, nI_clamp (by omega)]; rw [show k = 5 by simpa using c_35, upR_n (by omega)]; rfl) (by decide) (by decide) d_M_field_63
      · -- 21: False
        obtain ⟨j, hj, rfl⟩ := nI_of c_16
        have hj5 : j < 5 := by have z := c_21; simp only [ge_iff_le, Int32.le_iff_toInt_le] at z; rw [nI_toInt hj] at z; have e5 : (5 : Int32).toInt = 5 := rfl; omega
        have hl : lv_has ls 3 [(0, .ref mo), (1, .int (nI i)), (2, .int (nI j))] := hl
        have hrj := kk1 _ _ _ (hSc.2.1 j (by omega)) (by omega)
        refine lv_aload_n hx hb d_M_field_24 rfl (lv_at hl 0 rfl) ?_
        refine z_get hx hb hts (z_lay i_M) hown hK hw f1_mo rfl 5 (by decide) (z_in k_776 rfl) (fun _ h9 => h9) rfl d_M_field_25 ?_
        refine lv_iload_n hx hb d_M_field_28 rfl (lv_at hl 2 rfl) ?_
        refine z_aldr hx hb hK hw f1_ma_2 5 rfl (vp_in_nI (by omega) (by omega)) d_M_field_29 ?_
        refine z_top (y := va_rf ((fun k => some (rw9 k)) j)) (by rw [nI_clamp (by omega)]) ?_
        refine z_top (y := .ref (rw9 j)) (rfl) ?_
        refine lv_iload_n hx hb d_M_field_30 rfl (lv_at hl 1 rfl) ?_
        refine z_iald hx hb hK hw hrj 1 rfl (vp_in_nI (by omega) (by omega)) d_M_field_31 ?_
        refine z_topi (y := (rf j) i) (by rw [nI_clamp (by omega)]) ?_
        exact z_iret hx hb hr hlocks hw (by refine ⟨congrArg some (congrArg Value.int ?_), ⟨ma, _, _, _, _, _, _, f1_mo, hTp.k kk1 (by omega), hTx.k kk1 (by omega), ⟨_, _, _, hSc.k kk1 (by omega) (by omega) (by omega)⟩, hSf.k kk1 (by omega) (by omega) (by omega), ⟨_, _, _, _, _, _, hNd.k kk1 (by omega) (by omega) (by omega)⟩, hOl.k kk1 (by omega) (by omega) (by omega), hOu.k kk1 (by omega)⟩, kk1.mono (fun y z => by unfold KMr; omega)⟩; unfold oField; rw [c_10, if_pos rfl, nI_clamp (by omega)]; have hri := hSc.2.2.2 i hi; rcases (show j = 0 ∨ j = 1 ∨ j = 2 ∨ j = 3 ∨ j = 4 by omega) with rfl | rfl | rfl | rfl | rfl; all_goals first | exact hri.1 | exact hri.2.1 | exact hri.2.2.1 | exact hri.2.2.2.1 | exact hri.2.2.2.2.1) (by decide) (by decide) d_M_field_32
  · -- 10: False
    have c_10 : (isIx a S.1) = false := zb_f c_10
    refine lv_iconst (v := (-1)) hx hb d_M_field_13 (by decide) ?_
    exact z_iret hx hb hr hlocks hw (by refine ⟨congrArg some (congrArg Value.int ?_), ⟨ma, _, _, _, _, _, _, f1_mo, hTp.k kk1 (by omega), hTx.k kk1 (by omega), ⟨_, _, _, hSc.k kk1 (by omega) (by omega) (by omega)⟩, hSf.k kk1 (by omega) (by omega) (by omega), ⟨_, _, _, _, _, _, hNd.k kk1 (by omega) (by omega) (by omega)⟩, hOl.k kk1 (by omega) (by omega) (by omega), hOu.k kk1 (by omega)⟩, kk1.mono (fun y z => by unfold KMr; omega)⟩; unfold oField; rw [c_10]; rfl) (by decide) (by decide) d_M_field_14

set_option maxHeartbeats 300000 in
set_option maxRecDepth 100000 in
theorem m_letter (l : Launch) (g : z_G) (h : z_H) {mo : Nat} {T : List Nat} {S : Sch} {R : Rec} {O : List Nat} {a k : Int32}  (hM : MAt g h mo T S R O) (hs8 : S.1 ≤ 128) (hln6 : ∀ i, i < S.1 → (fNm (S.2 i)).length ≤ 16) : z_C l y_M_letter prog_13_method_21_code 3 (Option.some Jvm.ClassFile.FieldType.int) 1 60 0 0 g [.ref mo, .int a, .int k] h (fun x h1 => MPt g h x (.int (oLetter S a k)) h1 mo T S R O) := by
  refine z_C.of (by decide) (Nat.le_of_ble_eq_true rfl) (fun pg en s m below meth cd A ls hx hb hml hr hts hown hlocks hnm hK hE hA hw hl => ?_)
  have hl : lv_has ls 3 [(0, .ref mo), (1, .int a), (2, .int k)] := hl
  obtain ⟨ma, cod, siz, ffl, fcl, at9, il, hmo, hTp, hTx, ⟨rw9, rf, lf, hSc⟩, hSf, ⟨nf, np, nr, ns, nv, tx, hNd⟩, hOl, hOu⟩ := id hM
  obtain ⟨ftp, htp, hT4, hTv⟩ := id hTp
  obtain ⟨fou, hou, hO6, hOv⟩ := id hOu
  have hrw_4 : h (rw9 4) = some ((24, 4), .inl (g.2.1 1, 128, .inl (rf 4))) := hSc.2.1 4 (by omega)
  have kk0 : z_K (fun y => y = 20) h h := z_K.rf
  refine lv_aload_n hx hb d_M_letter_0 rfl (lv_at hl 0 rfl) ?_
  refine lv_iconst (v := 0) hx hb d_M_letter_1 (by decide) ?_
  refine z_putf (ty := .int) hx hb hts (z_lay i_M) t_M t_M_ok n_M hown hK hw hmo rfl 0 (by decide) (z_in k_771 rfl) (fun _ h9 => h9) rfl (by decide +kernel) rfl rfl (Nat.le_of_ble_eq_true rfl) d_M_letter_2 (fun H locs hw => ?_)
  obtain ⟨h1, hh1⟩ : ∃ x9, z_put h mo (20, 0) (.inr (11, mF ma 0 (nI T.length) siz (nI S.1) (nI (cc S)) ffl fcl (nI R.1) (nI (tbC R.2 R.1)) (nI O.length) at9 il)) = x9 := ⟨_, rfl⟩
  have hw : z_S g A s.heap h1 H locs := by rw [← hh1]; exact hw
  have f1_mo : h1 mo = some ((20, 0), .inr (11, mF ma 0 (nI T.length) siz (nI S.1) (nI (cc S)) ffl fcl (nI R.1) (nI (tbC R.2 R.1)) (nI O.length) at9 il)) := by rw [← hh1]; exact z_put_eq
  have f1_ma_2 : h1 (ma 2) = some ((23, 0), .inl (g.2.1 5, 6, .inr (.inr (.inr (.inr (fun k => some (rw9 k))))))) := by rw [← hh1]; exact z_keep hmo hSc.1 (z_t1 (by decide))
  have f1_rw9_4 : h1 (rw9 4) = some ((24, 4), .inl (g.2.1 1, 128, .inl (rf 4))) := by rw [← hh1]; exact z_keep hmo hrw_4 (z_t1 (by decide))
  have f1_ma_4 : h1 (ma 4) = some ((27, 0), .inl (g.2.1 1, 2048, .inl lf)) := by rw [← hh1]; exact z_keep hmo hSc.2.2.1 (z_t1 (by decide))
  have kk1 : z_K (fun y => y = 20) h h1 := kk0.tr (by rw [← hh1]; exact z_K.put hmo (by first | decide | simp | omega))
  refine lv_aload_n hx hb d_M_letter_5 rfl (lv_at hl 0 rfl) ?_
  refine lv_iload_n hx hb d_M_letter_6 rfl (lv_at hl 1 rfl) ?_
  refine z_callV (n := 1) (As := [.int a]) (rest := []) ⟨hx, hb, hml, hown, hts⟩ (m_isField (F := S.1) l g h1 f1_mo (by omega)) (z_in k_943 rfl) (z_in k_7 rfl) (z_in k_940 rfl) (z_in k_942 rfl) (z_in ks_36 rfl) (by decide +kernel) ⟨by first | exact Nat.le_of_ble_eq_true rfl | (dsimp only; omega) | omega, by first | exact Nat.le_of_ble_eq_true rfl | (dsimp only; omega) | omega⟩ hK hE hw hA rfl f1_mo rfl hl.1 (Nat.le_of_ble_eq_true rfl) d_M_letter_7 ⟨by first | exact Nat.le_of_ble_eq_true rfl | (dsimp only; omega) | omega, by first | exact Nat.le_of_ble_eq_true rfl | (dsimp only; omega) | omega⟩ rfl (fun r9 h9 H locs hp hw => ?_)
  obtain ⟨r8, h8⟩ := hp
  subst r8
  subst h8
  refine W.eq (g2 := F0 m 10 ls [.int (zb (isIx a S.1))]) rfl ?_
  refine lv_if_eq (tgt := 29) hx hb d_M_letter_10 (by decide) (fun c_10 => ?_) (fun c_10 => ?_)
  · -- 10: True
    have c_10 : (isIx a S.1) = false := zb_f c_10
    refine lv_iconst (v := (-1)) hx hb d_M_letter_29 (by decide) ?_
    refine lv_goto (tgt := 44) hx hb d_M_letter_30 (by decide) ?_
    exact z_iret hx hb hr hlocks hw (by refine ⟨congrArg some (congrArg Value.int ?_), ⟨ma, _, _, _, _, _, _, f1_mo, hTp.k kk1 (by omega), hTx.k kk1 (by omega), ⟨_, _, _, hSc.k kk1 (by omega) (by omega) (by omega)⟩, hSf.k kk1 (by omega) (by omega) (by omega), ⟨_, _, _, _, _, _, hNd.k kk1 (by omega) (by omega) (by omega)⟩, hOl.k kk1 (by omega) (by omega) (by omega), hOu.k kk1 (by omega)⟩, kk1.mono (fun y z => by unfold KMr; omega)⟩; unfold oLetter; rw [c_10]; rfl) (by decide) (by decide) d_M_letter_44
  · -- 10: False
    have c_10 : (isIx a S.1) = true := zb_t c_10
    obtain ⟨i, hi, rfl⟩ := isIx_ex (show isIx a S.1 = true from c_10) (by omega)
    have hl : lv_has ls 3 [(0, .ref mo), (1, .int (nI i)), (2, .int k)] := hl
    refine lv_iload_n hx hb d_M_letter_13 rfl (lv_at hl 2 rfl) ?_
    refine lv_if_lt (tgt := 29) hx hb d_M_letter_14 (by decide) (fun c_14 => ?_) (fun c_14 => ?_)
    · -- 14: True
      refine lv_iconst (v := (-1)) hx hb d_M_letter_29 (by decide) ?_
      refine lv_goto (tgt := 44) hx hb d_M_letter_30 (by decide) ?_
      exact z_iret hx hb hr hlocks hw (by refine ⟨congrArg some (congrArg Value.int ?_), ⟨ma, _, _, _, _, _, _, f1_mo, hTp.k kk1 (by omega), hTx.k kk1 (by omega), ⟨_, _, _, hSc.k kk1 (by omega) (by omega) (by omega)⟩, hSf.k kk1 (by omega) (by omega) (by omega), ⟨_, _, _, _, _, _, hNd.k kk1 (by omega) (by omega) (by omega)⟩, hOl.k kk1 (by omega) (by omega) (by omega), hOu.k kk1 (by omega)⟩, kk1.mono (fun y z => by unfold KMr; omega)⟩; unfold oLetter; rw [c_10, if_pos rfl, nI_clamp (by omega)]; unfold lbz bz; rw [if_pos c_14]) (by decide) (by decide) d_M_letter_44
    · -- 14: False
      obtain ⟨j, hj, rfl⟩ := nI_of c_14
      have hl : lv_has ls 3 [(0, .ref mo), (1, .int (nI i)), (2, .int (nI j))] := hl
      have hri := hSc.2.2.2 i hi
      have hn6 := hln6 i hi
      refine lv_iload_n hx hb d_M_letter_17 rfl (lv_at hl 2 rfl) ?_
      refine lv_aload_n hx hb d_M_letter_18 rfl (lv_at hl 0 rfl) ?_
      refine z_get hx hb hts (z_lay i_M) hown hK hw f1_mo rfl 5 (by decide) (z_in k_776 rfl) (fun _ h9 => h9) rfl d_M_letter_19 ?_
      refine lv_iconst (v := 4) hx hb d_M_letter_22 (by decide) ?_
      refine z_aldr hx hb hK hw f1_ma_2 5 rfl (by unfold vp_in; decide) d_M_letter_23 ?_
      refine z_top (y := va_rf ((fun k => some (rw9 k)) 4)) (by rfl) ?_
      refine z_top (y := .ref (rw9 4)) (rfl) ?_
      refine lv_iload_n hx hb d_M_letter_24 rfl (lv_at hl 1 rfl) ?_
      refine z_iald hx hb hK hw f1_rw9_4 1 rfl (vp_in_nI (by omega) (by omega)) d_M_letter_25 ?_
      refine z_topi (y := (rf 4) i) (by rw [nI_clamp (by omega)]) ?_
      refine z_top (y := .int (nI ((fNm (S.2 i)).length))) (by rw [hri.2.2.2.2.1]) ?_
      refine lv_icmp_lt (tgt := 33) hx hb d_M_letter_26 (by decide) (fun c_26 => ?_) (fun c_26 => ?_)
      · -- 26: True
        have c_26 : j < ((fNm (S.2 i)).length) := (nI_ltI (a := j) (b := (fNm (S.2 i)).length) (by omega) (by omega)).mp c_26
        refine lv_aload_n hx hb d_M_letter_33 rfl (lv_at hl 0 rfl) ?_
        refine z_get hx hb hts (z_lay i_M) hown hK hw f1_mo rfl 7 (by decide) (z_in k_778 rfl) (fun _ h9 => h9) rfl d_M_letter_34 ?_
        refine lv_bipush (v := 16) hx hb d_M_letter_37 (by decide) ?_
        refine lv_iload_n hx hb d_M_letter_39 rfl (lv_at hl 1 rfl) ?_
        refine lv_imul hx hb d_M_letter_40 ?_
        refine z_topi (y := nI (16 * i)) (pk_mul 16 i) ?_
        refine lv_iload_n hx hb d_M_letter_41 rfl (lv_at hl 2 rfl) ?_
        refine lv_iadd hx hb d_M_letter_42 ?_
        refine z_topi (y := nI ((16 * i) + j)) (nI_add (16 * i) j) ?_
        refine z_iald hx hb hK hw f1_ma_4 1 rfl (vp_in_nI (by omega) (by omega)) d_M_letter_43 ?_
        refine z_topi (y := lf ((16 * i) + j)) (by rw [nI_clamp (by omega)]) ?_
        exact z_iret hx hb hr hlocks hw (by refine ⟨congrArg some (congrArg Value.int ?_), ⟨ma, _, _, _, _, _, _, f1_mo, hTp.k kk1 (by omega), hTx.k kk1 (by omega), ⟨_, _, _, hSc.k kk1 (by omega) (by omega) (by omega)⟩, hSf.k kk1 (by omega) (by omega) (by omega), ⟨_, _, _, _, _, _, hNd.k kk1 (by omega) (by omega) (by omega)⟩, hOl.k kk1 (by omega) (by omega) (by omega), hOu.k kk1 (by omega)⟩, kk1.mono (fun y z => by unfold KMr; omega)⟩; unfold oLetter; rw [c_10, if_pos rfl, nI_clamp (by omega)]; unfold lbz; rw [bz_n hj, bt_in (by omega)]; exact hri.2.2.2.2.2 j (by omega)) (by decide) (by decide) d_M_letter_44
      · -- 26: False
        have c_26 : ¬ (j < ((fNm (S.2 i)).length)) := fun z => c_26 ((nI_ltI (a := j) (b := (fNm (S.2 i)).length) (by omega) (by omega)).mpr z)
        refine lv_iconst (v := (-1)) hx hb d_M_letter_29 (by decide) ?_
        refine lv_goto (tgt := 44) hx hb d_M_letter_30 (by decide) ?_
        exact z_iret hx hb hr hlocks hw (by refine ⟨congrArg some (congrArg Value.int ?_), ⟨ma, _, _, _, _, _, _, f1_mo, hTp.k kk1 (by omega), hTx.k kk1 (by omega), ⟨_, _, _, hSc.k kk1 (by omega) (by omega) (by omega)⟩, hSf.k kk1 (by omega) (by omega) (by omega), ⟨_, _, _, _, _, _, hNd.k kk1 (by omega) (by omega) (by omega)⟩, hOl.k kk1 (by omega) (by omega) (by omega), hOu.k kk1 (by omega)⟩, kk1.mono (fun y z => by unfold KMr; omega)⟩; unfold oLetter; rw [c_10, if_pos rfl, nI_clamp (by omega)]; unfold lbz; rw [bz_n hj, bt_out (by omega)]) (by decide) (by decide) d_M_letter_44

set_option maxHeartbeats 300000 in
set_option maxRecDepth 100000 in
theorem m_column (l : Launch) (g : z_G) (h : z_H) {mo : Nat} {T : List Nat} {S : Sch} {R : Rec} {O : List Nat} {k : Int32}  (hM : MAt g h mo T S R O) (hs8 : S.1 ≤ 128) : z_C l y_M_column prog_13_method_22_code 3 (Option.some Jvm.ClassFile.FieldType.int) 0 0 0 0 g [.ref mo, .int k] h (fun x h1 => MPt g h x (.int (oColumn S k)) h1 mo T S R O) := by
  refine z_C.of (by decide) (Nat.le_of_ble_eq_true rfl) (fun pg en s m below meth cd A ls hx hb hml hr hts hown hlocks hnm hK hE hA hw hl => ?_)
  have hl : lv_has ls 3 [(0, .ref mo), (1, .int k)] := hl
  obtain ⟨ma, cod, siz, ffl, fcl, at9, il, hmo, hTp, hTx, ⟨rw9, rf, lf, hSc⟩, hSf, ⟨nf, np, nr, ns, nv, tx, hNd⟩, hOl, hOu⟩ := id hM
  obtain ⟨ftp, htp, hT4, hTv⟩ := id hTp
  obtain ⟨fou, hou, hO6, hOv⟩ := id hOu
  have hrw_3 : h (rw9 3) = some ((24, 3), .inl (g.2.1 1, 128, .inl (rf 3))) := hSc.2.1 3 (by omega)
  have kk0 : z_K (fun y => y = 20) h h := z_K.rf
  refine lv_aload_n hx hb d_M_column_0 rfl (lv_at hl 0 rfl) ?_
  refine lv_iconst (v := 0) hx hb d_M_column_1 (by decide) ?_
  refine z_putf (ty := .int) hx hb hts (z_lay i_M) t_M t_M_ok n_M hown hK hw hmo rfl 0 (by decide) (z_in k_771 rfl) (fun _ h9 => h9) rfl (by decide +kernel) rfl rfl (Nat.le_of_ble_eq_true rfl) d_M_column_2 (fun H locs hw => ?_)
  obtain ⟨h1, hh1⟩ : ∃ x9, z_put h mo (20, 0) (.inr (11, mF ma 0 (nI T.length) siz (nI S.1) (nI (cc S)) ffl fcl (nI R.1) (nI (tbC R.2 R.1)) (nI O.length) at9 il)) = x9 := ⟨_, rfl⟩
  have hw : z_S g A s.heap h1 H locs := by rw [← hh1]; exact hw
  have f1_mo : h1 mo = some ((20, 0), .inr (11, mF ma 0 (nI T.length) siz (nI S.1) (nI (cc S)) ffl fcl (nI R.1) (nI (tbC R.2 R.1)) (nI O.length) at9 il)) := by rw [← hh1]; exact z_put_eq
  have f1_ma_2 : h1 (ma 2) = some ((23, 0), .inl (g.2.1 5, 6, .inr (.inr (.inr (.inr (fun k => some (rw9 k))))))) := by rw [← hh1]; exact z_keep hmo hSc.1 (z_t1 (by decide))
  have f1_rw9_3 : h1 (rw9 3) = some ((24, 3), .inl (g.2.1 1, 128, .inl (rf 3))) := by rw [← hh1]; exact z_keep hmo hrw_3 (z_t1 (by decide))
  have kk1 : z_K (fun y => y = 20) h h1 := kk0.tr (by rw [← hh1]; exact z_K.put hmo (by first | decide | simp | omega))
  refine lv_iconst (v := 0) hx hb d_M_column_5 (by decide) ?_
  refine lv_istore_n (lv' := [(2, .int 0), (0, .ref mo), (1, .int k)]) hx hb d_M_column_6 rfl hl (by decide) rfl (fun ls hl => ?_)
  have loop_7 : ∀ (fuel : Nat) (i : Nat) (H : Heap) (locs : List Loc) (ls : Array Slot)  (hle : i ≤ S.1) (hfd : fndR (fun f => decide (fCo (S.2 f) = k)) (S.1 - i) i = fndR (fun f => decide (fCo (S.2 f) = k)) (S.1 - 0) 0 ∨ k < 0), (S.1 - i) < fuel → z_S g A s.heap h1 H locs → lv_has ls 3 [(0, .ref mo), (1, .int k), (2, .int (nI i))] → W pg l en { frames := 0, cells := 0, slots := 0, locals := 0 } s m [.ref mo, .int k].toArray below meth cd H locs 0 0 (MQ below (z_Q g A (fun x h1 => MPt g h x (.int (oColumn S k)) h1 mo T S R O)) [.ref mo, .int k].toArray s 0 0 A) (F0 m 7 ls []) := by
    intro fuel
    induction fuel with
    | zero => intro i H locs ls hle hfd hm; exact absurd hm (Nat.not_lt_zero _)
    | succ fuel ih_7 =>
      intro i H locs ls hle hfd hm hw hl
      refine lv_iload_n hx hb d_M_column_7 rfl (lv_at hl 2 rfl) ?_
      refine lv_aload_n hx hb d_M_column_8 rfl (lv_at hl 0 rfl) ?_
      refine z_get hx hb hts (z_lay i_M) hown hK hw f1_mo rfl 9 (by decide) (z_in k_780 rfl) (fun _ h9 => h9) rfl d_M_column_9 ?_
      refine lv_icmp_ge (tgt := 39) hx hb d_M_column_12 (by decide) (fun c_12 => ?_) (fun c_12 => ?_)
      · -- 12: True
        have c_12 : S.1 ≤ i := (nI_leI (a := S.1) (b := i) (by omega) (by omega)).mp c_12
        refine lv_iconst (v := (-1)) hx hb d_M_column_39 (by decide) ?_
        exact z_iret hx hb hr hlocks hw (by refine ⟨congrArg some (congrArg Value.int ?_), ⟨ma, _, _, _, _, _, _, f1_mo, hTp.k kk1 (by omega), hTx.k kk1 (by omega), ⟨_, _, _, hSc.k kk1 (by omega) (by omega) (by omega)⟩, hSf.k kk1 (by omega) (by omega) (by omega), ⟨_, _, _, _, _, _, hNd.k kk1 (by omega) (by omega) (by omega)⟩, hOl.k kk1 (by omega) (by omega) (by omega), hOu.k kk1 (by omega)⟩, kk1.mono (fun y z => by unfold KMr; omega)⟩; unfold oColumn; rcases hfd with z | z; (· by_cases z2 : k < 0; (· rw [if_pos z2]); (· rw [if_neg z2, ← z, show S.1 - i = 0 by omega]; rfl)); (· rw [if_pos z])) (by decide) (by decide) d_M_column_40
      · -- 12: False
        have c_12 : ¬ (S.1 ≤ i) := fun z => c_12 ((nI_leI (a := S.1) (b := i) (by omega) (by omega)).mpr z)
        refine lv_iload_n hx hb d_M_column_15 rfl (lv_at hl 1 rfl) ?_
        refine lv_if_lt (tgt := 33) hx hb d_M_column_16 (by decide) (fun c_16 => ?_) (fun c_16 => ?_)
        · -- 16: True
          refine lv_iinc (v := nI (i + 1)) (lv' := [(2, .int (nI (i + 1))), (0, .ref mo), (1, .int k)]) hx hb d_M_column_33 hl (k := 2) rfl (nI_1 i) (by decide) rfl (fun ls hl => ?_)
          refine lv_goto (tgt := 7) hx hb d_M_column_36 (by decide) ?_
          refine ih_7 (i + 1) _ _ _ (by omega) (Or.inr c_16) ?_ hw (lv_sub hl [1, 2, 0] rfl)
          omega
        · -- 16: False
          refine lv_aload_n hx hb d_M_column_19 rfl (lv_at hl 0 rfl) ?_
          refine z_get hx hb hts (z_lay i_M) hown hK hw f1_mo rfl 5 (by decide) (z_in k_776 rfl) (fun _ h9 => h9) rfl d_M_column_20 ?_
          refine lv_iconst (v := 3) hx hb d_M_column_23 (by decide) ?_
          refine z_aldr hx hb hK hw f1_ma_2 5 rfl (by unfold vp_in; decide) d_M_column_24 ?_
          refine z_top (y := va_rf ((fun k => some (rw9 k)) 3)) (by rfl) ?_
          refine z_top (y := .ref (rw9 3)) (rfl) ?_
          refine lv_iload_n hx hb d_M_column_25 rfl (lv_at hl 2 rfl) ?_
          refine z_iald hx hb hK hw f1_rw9_3 1 rfl (vp_in_nI (by omega) (by omega)) d_M_column_26 ?_
          refine z_topi (y := (rf 3) i) (by rw [nI_clamp (by omega)]) ?_
          refine z_top (y := .int (fCo (S.2 i))) (by rw [(hSc.2.2.2 i (by omega)).2.2.2.1]) ?_
          refine lv_iload_n hx hb d_M_column_27 rfl (lv_at hl 1 rfl) ?_
          refine lv_icmp_ne (tgt := 33) hx hb d_M_column_28 (by decide) (fun c_28 => ?_) (fun c_28 => ?_)
          · -- 28: True
            refine lv_iinc (v := nI (i + 1)) (lv' := [(2, .int (nI (i + 1))), (0, .ref mo), (1, .int k)]) hx hb d_M_column_33 hl (k := 2) rfl (nI_1 i) (by decide) rfl (fun ls hl => ?_)
            refine lv_goto (tgt := 7) hx hb d_M_column_36 (by decide) ?_
            refine ih_7 (i + 1) _ _ _ (by omega) (hfd.imp_left (fun z => by rw [← z]; rw [show S.1 - i = (S.1 - (i + 1)) + 1 by omega]; simp only [fndR]; rw [if_neg (by simpa using c_28)])) ?_ hw (lv_sub hl [1, 2, 0] rfl)
            omega
          · -- 28: False
            refine lv_iload_n hx hb d_M_column_31 rfl (lv_at hl 2 rfl) ?_
            exact z_iret hx hb hr hlocks hw (by refine ⟨congrArg some (congrArg Value.int ?_), ⟨ma, _, _, _, _, _, _, f1_mo, hTp.k kk1 (by omega), hTx.k kk1 (by omega), ⟨_, _, _, hSc.k kk1 (by omega) (by omega) (by omega)⟩, hSf.k kk1 (by omega) (by omega) (by omega), ⟨_, _, _, _, _, _, hNd.k kk1 (by omega) (by omega) (by omega)⟩, hOl.k kk1 (by omega) (by omega) (by omega), hOu.k kk1 (by omega)⟩, kk1.mono (fun y z => by unfold KMr; omega)⟩; unfold oColumn; rw [if_neg c_16, ← hfd.resolve_right c_16]; rw [show S.1 - i = (S.1 - (i + 1)) + 1 by omega]; simp only [fndR]; rw [if_pos (by simpa using c_28)]) (by decide) (by decide) d_M_column_32
  exact loop_7 (S.1 - 0 + 1) 0  _ _ _  (Nat.zero_le _) (Or.inl rfl) (by omega) hw (lv_sub hl [1, 2, 0] rfl)

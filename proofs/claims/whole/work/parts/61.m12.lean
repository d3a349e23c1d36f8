def resN (X : Sum Nat (Int64 × Nat)) : Int32 := match X with
  | .inl F => nI F
  | .inr _ => -1
def nuQ (g : z_G) (h h1 : z_H) (mo : Nat) (ma : Nat → Nat) (cod tpd fls cls9 ffl fcl nds sai ous : Int32) (n p : Nat) (X : Sum Nat (Int64 × Nat)) (x : Option Value) : Prop := z_K (fun y => y = 20) h h1 ∧ ∃ (p1 : Nat) (v : Int64), x = some (.long v) ∧ h1 mo = some ((20, 0), .inr (11, mF ma cod tpd (nI n) fls cls9 ffl fcl nds sai ous (nI p1) (resN X))) ∧ p1 ≤ n ∧ p ≤ p1 ∧ (resN X = -1 → X = .inr (v, p1))
theorem far_up {t : Nat → Nat} {n p1 k : Nat} {v : Int64} {fa9 : Bool} (ht : ∀ k, k < n → t k < 256) (hd : isDig (bt t n (p1 + k)) = true) (hfa : fa9 = decide (2 ^ 63 < mgG t 0 p1 k) ∧ (fa9 = false → v.toInt = -(mgG t 0 p1 k : Int))) {fb : Bool} (hb : fb = (fa9 || decide (v < (-9223372036854775808 + (bt t n (p1 + k) - 48).toInt64) / 10))) : fb = decide (2 ^ 63 < mgG t 0 p1 (k + 1)) ∧ (fb = false → (10 * v - (bt t n (p1 + k) - 48).toInt64).toInt = -(mgG t 0 p1 (k + 1) : Int)) := by
  obtain ⟨d1, d2, d3, d4⟩ := dig_bt ht hd
  obtain ⟨f1, f2⟩ := hfa
  rw [mgG_snoc]
  generalize mgG t 0 p1 k = mg at f1 f2 ⊢
  by_cases hf : 2 ^ 63 < mg
  · rw [decide_eq_true hf] at f1
    rw [f1, Bool.true_or] at hb
    rw [hb, decide_eq_true (by omega)]
    exact ⟨rfl, fun z => by cases z⟩
  · rw [decide_eq_false hf] at f1
    have hv := f2 f1
    rw [f1, Bool.false_or] at hb
    have hc := num_chk (lim := -9223372036854775808) (Lm := 9223372036854775808) (M := mg) hv rfl (by omega) d2 (by omega)
    refine ⟨?_, fun z => ?_⟩
    · rw [hb, Bool.eq_iff_iff, decide_eq_true_eq, decide_eq_true_eq, hc]
    · rw [hb] at z
      have z2 : ¬ 9223372036854775808 < 10 * mg + (t (p1 + k) - 48) := fun y => of_decide_eq_false z (hc.mpr y)
      rw [Int64.mul_comm]
      exact num_stp hv d2 (by omega) (by omega)

set_option maxHeartbeats 2000000 in
set_option maxRecDepth 100000 in
theorem m_readNumber (l : Launch) (g : z_G) (h : z_H) {mo : Nat} {ma : Nat → Nat} {cod tpd fls cls9 ffl fcl nds sai ous : Int32} {n p : Nat} {f : Nat → Int32} {t : Nat → Nat} {ty : Int32} {lo : Int64} {X : Sum Nat (Int64 × Nat)} (hmo : h mo = some ((20, 0), .inr (11, mF ma cod tpd (nI n) fls cls9 ffl fcl nds sai ous (nI p) (-1)))) (htx : h (ma 1) = some ((22, 0), .inl (g.2.1 1, 4000, .inl f))) (hn : n ≤ 4000) (hf : ∀ k, k < n → t k < 256 ∧ f k = nI (t k)) (hp : p ≤ n) (hlo : lo = if ty = 1 then -2147483648 else -9223372036854775808) (eX : X = numR t n p lo) : z_C l y_M_readNumber prog_13_method_30_code 12 (Option.some Jvm.ClassFile.FieldType.long) 1 60 0 0 g [.ref mo, .int ty] h (fun x h1 => nuQ g h h1 mo ma cod tpd fls cls9 ffl fcl nds sai ous n p X x) := by
  refine z_C.of (by decide) (Nat.le_of_ble_eq_true rfl) (fun pg en s m below meth cd A ls hx hb hml hr hts hown hlocks hnm hK hE hA hw hl => ?_)
  have hl : lv_has ls 12 [(0, .ref mo), (1, .int ty)] := hl
  have kk0 : z_K (fun y => y = 20) h h := z_K.rf
  refine lv_aload_n hx hb d_M_readNumber_0 rfl (lv_at hl 0 rfl) ?_
  refine z_get hx hb hts (z_lay i_M) hown hK hw hmo rfl 29 (by decide) (z_in k_800 rfl) (fun _ h9 => h9) rfl d_M_readNumber_1 ?_
  refine lv_istore_n (lv' := [(2, .int (nI p)), (0, .ref mo), (1, .int ty)]) hx hb d_M_readNumber_4 rfl hl (by decide) rfl (fun ls hl => ?_)
  have loop_34 : ∀ (fuel : Nat) (mi : Bool) (p1 : Nat) (hC : z_H) (H : Heap) (locs : List Loc) (ls : Array Slot) (L34_mo : hC mo = some ((20, 0), .inr (11, mF ma cod tpd (nI n) fls cls9 ffl fcl nds sai ous (nI p1) (-1)))) (L34_ma_1 : hC (ma 1) = some ((22, 0), .inl (g.2.1 1, 4000, .inl f))) (hmi : X = numN t n p p1 mi lo) (hp1 : p ≤ p1 ∧ p1 ≤ n) (kk34 : z_K (fun y => y = 20) h hC), 0 < fuel → z_S g A s.heap hC H locs → lv_has ls 12 [(0, .ref mo), (1, .int ty), (2, .int (nI p)), (3, .int (zb mi))] → W pg l en { frames := 1, cells := 0, slots := 0, locals := 60 } s m [.ref mo, .int ty].toArray below meth cd H locs 0 0 (MQ below (z_Q g A (fun x h1 => nuQ g h h1 mo ma cod tpd fls cls9 ffl fcl nds sai ous n p X x)) [.ref mo, .int ty].toArray s 0 0 A) (F0 m 34 ls []) := by
    intro fuel
    induction fuel with
    | zero => intro mi p1 hC H locs ls L34_mo L34_ma_1 hmi hp1 kk34 hm; exact absurd hm (Nat.not_lt_zero _)
    | succ fuel ih_34 =>
      intro mi p1 hC H locs ls L34_mo L34_ma_1 hmi hp1 kk34 hm hw hl
      have loop_79 : ∀ (fuel : Nat) (k : Nat) (v : Int64) (fa9 : Bool) (i1 : Int32) (hL : z_H) (H : Heap) (locs : List Loc) (ls : Array Slot) (L79_mo : hL mo = some ((20, 0), .inr (11, mF ma cod tpd (nI n) fls cls9 ffl fcl nds sai ous (nI (p1 + k)) i1))) (L79_ma_1 : hL (ma 1) = some ((22, 0), .inl (g.2.1 1, 4000, .inl f))) (hdk : ∀ j, j < k → isDig (bt t n (p1 + j)) = true) (hkn : p1 + k ≤ n) (hfa : fa9 = decide (2 ^ 63 < mgG t 0 p1 k) ∧ (fa9 = false → v.toInt = -(mgG t 0 p1 k : Int))) (hI : (i1 = -1 ∧ isDig (bt t n p1) = true) ∨ ∃ F, i1 = nI F ∧ F ≤ n ∧ X = .inl F ∧ isDig (bt t n p1) = false) (kk79 : z_K (fun y => y = 20) h hL), (n - k) < fuel → z_S g A s.heap hL H locs → lv_has ls 12 [(0, .ref mo), (1, .int ty), (2, .int (nI p)), (3, .int (zb mi)), (4, .int (nI p1)), (5, .long v), (7, .int (zb fa9))] → W pg l en { frames := 1, cells := 0, slots := 0, locals := 60 } s m [.ref mo, .int ty].toArray below meth cd H locs 0 0 (MQ below (z_Q g A (fun x h1 => nuQ g h h1 mo ma cod tpd fls cls9 ffl fcl nds sai ous n p X x)) [.ref mo, .int ty].toArray s 0 0 A) (F0 m 79 ls []) := by
        intro fuel
        induction fuel with
        | zero => intro k v fa9 i1 hL H locs ls L79_mo L79_ma_1 hdk hkn hfa hI kk79 hm; exact absurd hm (Nat.not_lt_zero _)
        | succ fuel ih_79 =>
          intro k v fa9 i1 hL H locs ls L79_mo L79_ma_1 hdk hkn hfa hI kk79 hm hw hl
          refine lv_aload_n hx hb d_M_readNumber_79 rfl (lv_at hl 0 rfl) ?_
          refine z_callV (n := 0) (As := []) (rest := []) ⟨hx, hb, hml, hown, hts⟩ (m_look (t := t) l g hL L79_mo L79_ma_1 hn hf (by omega)) (z_in k_889 rfl) (z_in k_7 rfl) (z_in k_886 rfl) (z_in k_888 rfl) (z_in ks_28 rfl) (by decide +kernel) ⟨by first | exact Nat.le_of_ble_eq_true rfl | (dsimp only; omega) | omega, by first | exact Nat.le_of_ble_eq_true rfl | (dsimp only; omega) | omega⟩ hK hE hw hA rfl L79_mo rfl hl.1 (Nat.le_of_ble_eq_true rfl) d_M_readNumber_80 ⟨by first | exact Nat.le_of_ble_eq_true rfl | (dsimp only; omega) | omega, by first | exact Nat.le_of_ble_eq_true rfl | (dsimp only; omega) | omega⟩ rfl (fun r9 h9 H locs hp hw => ?_)
          obtain ⟨r8, h8⟩ := hp
          subst r8
          subst h8
          refine W.eq (g2 := F0 m 83 ls [.int (bt t n (p1 + k))]) rfl ?_
          refine z_callS (n := 1) (As := [.int (bt t n (p1 + k))]) (rest := []) ⟨hx, hb, hml, hown, hts⟩ (m_isDigit l g hL) (z_in k_908 rfl) (z_in k_7 rfl) (z_in k_906 rfl) (z_in k_907 rfl) (by decide +kernel) ⟨by first | exact Nat.le_of_ble_eq_true rfl | (dsimp only; omega) | omega, by first | exact Nat.le_of_ble_eq_true rfl | (dsimp only; omega) | omega⟩ hK hE hw hA rfl hl.1 (Nat.le_of_ble_eq_true rfl) d_M_readNumber_83 ⟨by first | exact Nat.le_of_ble_eq_true rfl | (dsimp only; omega) | omega, by first | exact Nat.le_of_ble_eq_true rfl | (dsimp only; omega) | omega⟩ rfl (fun r9 h9 H locs hp hw => ?_)
          obtain ⟨r8, h8⟩ := hp
          subst r8
          subst h8
          refine W.eq (g2 := F0 m 86 ls [.int (zb (isDig (bt t n (p1 + k))))]) rfl ?_
          refine lv_if_eq (tgt := 152) hx hb d_M_readNumber_86 (by decide) (fun c_86 => ?_) (fun c_86 => ?_)
          · -- 86: True
            have c_86 : (isDig (bt t n (p1 + k))) = false := zb_f c_86
            have loop_180 : ∀ (fuel : Nat) (zr : Bool) (H : Heap) (locs : List Loc) (ls : Array Slot)  (hzr : zr = (decide (0 < k) && decide (t p1 = 48))), 0 < fuel → z_S g A s.heap hL H locs → lv_has ls 12 [(0, .ref mo), (1, .int ty), (2, .int (nI p)), (3, .int (zb mi)), (4, .int (nI p1)), (5, .long v), (7, .int (zb fa9)), (8, .int (zb zr))] → W pg l en { frames := 1, cells := 0, slots := 0, locals := 60 } s m [.ref mo, .int ty].toArray below meth cd H locs 0 0 (MQ below (z_Q g A (fun x h1 => nuQ g h h1 mo ma cod tpd fls cls9 ffl fcl nds sai ous n p X x)) [.ref mo, .int ty].toArray s 0 0 A) (F0 m 180 ls []) := by
              intro fuel
              induction fuel with
              | zero => intro zr H locs ls hzr hm; exact absurd hm (Nat.not_lt_zero _)
              | succ fuel ih_180 =>
                intro zr H locs ls hzr hm hw hl
                have loop_225 : ∀ (fuel : Nat) (gd : Bool) (H : Heap) (locs : List Loc) (ls : Array Slot)  (hgd : gd = (!fa9 && (!zr || (decide (k = 1) && !mi)) && (mi || decide (¬ v = -9223372036854775808)))), 0 < fuel → z_S g A s.heap hL H locs → lv_has ls 12 [(0, .ref mo), (1, .int ty), (2, .int (nI p)), (3, .int (zb mi)), (4, .int (nI p1)), (5, .long v), (9, .int (zb gd))] → W pg l en { frames := 1, cells := 0, slots := 0, locals := 60 } s m [.ref mo, .int ty].toArray below meth cd H locs 0 0 (MQ below (z_Q g A (fun x h1 => nuQ g h h1 mo ma cod tpd fls cls9 ffl fcl nds sai ous n p X x)) [.ref mo, .int ty].toArray s 0 0 A) (F0 m 225 ls []) := by
                  intro fuel
                  induction fuel with
                  | zero => intro gd H locs ls hgd hm; exact absurd hm (Nat.not_lt_zero _)
                  | succ fuel ih_225 =>
                    intro gd H locs ls hgd hm hw hl
                    have hF := fun z : isDig (bt t n p1) = true => num_fin (fun k hk => (hf k hk).1) hn hlo hmi hdk c_86 z hkn hfa hzr hgd
                    refine lv_iload_n hx hb d_M_readNumber_225 rfl (lv_at hl 3 rfl) ?_
                    refine lv_if_eq (tgt := 234) hx hb d_M_readNumber_226 (by decide) (fun c_226 => ?_) (fun c_226 => ?_)
                    · -- 226: True
                      have c_226 : mi = false := zb_f c_226
                      refine lv_lload hx hb d_M_readNumber_234 (lv_at hl 5 rfl) ?_
                      refine lv_lneg hx hb d_M_readNumber_236 ?_
                      refine lv_lstore (lv' := [(10, .long (-v)), (0, .ref mo), (1, .int ty), (2, .int (nI p)), (3, .int (zb mi)), (4, .int (nI p1)), (5, .long v), (9, .int (zb gd))]) hx hb d_M_readNumber_237 hl (by decide) rfl (fun ls hl => ?_)
                      refine lv_iload_n hx hb d_M_readNumber_239 rfl (lv_at hl 2 rfl) ?_
                      refine lv_iconst (v := 1) hx hb d_M_readNumber_240 (by decide) ?_
                      refine lv_icmp_ne (tgt := 274) hx hb d_M_readNumber_241 (by decide) (fun c_241 => ?_) (fun c_241 => ?_)
                      · -- 241: True
                        refine lv_iload hx hb d_M_readNumber_274 (lv_at hl 7 rfl) ?_
                        refine lv_if_ne (tgt := 284) hx hb d_M_readNumber_276 (by decide) (fun c_276 => ?_) (fun c_276 => ?_)
                        · -- 276: True
                          have c_276 : gd = true := zb_t c_276
                          refine lv_lload hx hb d_M_readNumber_284 (lv_at hl 0 rfl) ?_
                          exact z_lret hx hb hr hlocks hw (by have eR : resN X = i1 := (hI.elim (fun z => by rw [show X = .inr (-v, p1 + k) from (hF z.2).trans ((if_pos (by rw [c_276, decide_eq_true (show ¬ ty = 1 from c_241)]; simp)).trans (by rw [if_neg (show ¬ mi = true by rw [c_226]; decide)])), z.1]; rfl) (fun z => by obtain ⟨F, z1, z2, z3, z4⟩ := z; rw [z3, z1]; rfl)); exact ⟨kk79, p1 + k, -v, rfl, by rw [eR]; exact L79_mo, by omega, by omega, fun y => hI.elim (fun z => (hF z.2).trans ((if_pos (by rw [c_276, decide_eq_true (show ¬ ty = 1 from c_241)]; simp)).trans (by rw [if_neg (show ¬ mi = true by rw [c_226]; decide)]))) (fun z => by obtain ⟨F, z1, z2, z3, z4⟩ := z; rw [eR, z1] at y; exact absurd y (nI_ne1 (by omega)))⟩) (by decide) (by decide) d_M_readNumber_286
                        · -- 276: False
                          have c_276 : gd = false := zb_f c_276
                          by_cases z279 : (i1 : Int32) = -1
                          · -- no fault yet True
                            have fi1 : hL mo = some ((20, 0), .inr (11, mF ma cod tpd (nI n) fls cls9 ffl fcl nds sai ous (nI (p1 + k)) (-1))) := by have z9 := L79_mo; rw [z279] at z9; exact z9
                            refine lv_aload_n hx hb d_M_readNumber_279 rfl (lv_at hl 1 rfl) ?_
                            refine lv_iload_n hx hb d_M_readNumber_280 rfl (lv_at hl 3 rfl) ?_
                            refine z_callV (n := 1) (As := [.int (nI p)]) (rest := []) ⟨hx, hb, hml, hown, hts⟩ (m_fail l g hL fi1) (z_in k_914 rfl) (z_in k_7 rfl) (z_in k_911 rfl) (z_in k_913 rfl) (z_in ks_32 rfl) (by decide +kernel) ⟨by first | exact Nat.le_of_ble_eq_true rfl | (dsimp only; omega) | omega, by first | exact Nat.le_of_ble_eq_true rfl | (dsimp only; omega) | omega⟩ hK hE hw hA rfl fi1 rfl hl.1 (Nat.le_of_ble_eq_true rfl) d_M_readNumber_281 ⟨by first | exact Nat.le_of_ble_eq_true rfl | (dsimp only; omega) | omega, by first | exact Nat.le_of_ble_eq_true rfl | (dsimp only; omega) | omega⟩ rfl (fun r9 h9 H locs hp hw => ?_)
                            obtain ⟨r8, hh2⟩ := hp
                            subst r8
                            obtain ⟨h2, e8⟩ : ∃ x9, x9 = h9 := ⟨_, rfl⟩
                            subst e8
                            have f2_mo : h2 mo = some ((20, 0), .inr (11, mF ma cod tpd (nI n) fls cls9 ffl fcl nds sai ous (nI (p1 + k)) (nI p))) := by rw [← hh2]; exact z_put_eq
                            have f2_ma_1 : h2 (ma 1) = some ((22, 0), .inl (g.2.1 1, 4000, .inl f)) := by rw [← hh2]; exact z_keep fi1 L79_ma_1 (z_t1 (by decide))
                            have kk2 : z_K (fun y => y = 20) h h2 := kk79.tr (by rw [← hh2]; exact z_K.put fi1 (by first | decide | simp | omega))
                            refine W.eq (g2 := F0 m 284 ls []) rfl ?_
                            refine lv_lload hx hb d_M_readNumber_284 (lv_at hl 0 rfl) ?_
                            exact z_lret hx hb hr hlocks hw (by have eR : resN X = nI p := (by have hd := (hI.resolve_right (fun z => by obtain ⟨F, z1, z2, z3, z4⟩ := z; exact nI_ne1 (by omega) (z1.symm.trans z279))).2; rw [show X = .inl p from (hF hd).trans (if_neg (by rw [c_276, Bool.false_and]; simp))]; rfl); exact ⟨kk2, p1 + k, -v, rfl, by rw [eR]; exact f2_mo, by omega, by omega, fun y => absurd (eR.symm.trans y) (nI_ne1 (by omega))⟩) (by decide) (by decide) d_M_readNumber_286
                          · -- no fault yet False
                            refine lv_aload_n hx hb d_M_readNumber_279 rfl (lv_at hl 1 rfl) ?_
                            refine lv_iload_n hx hb d_M_readNumber_280 rfl (lv_at hl 3 rfl) ?_
                            refine z_callV (n := 1) (As := [.int (nI p)]) (rest := []) ⟨hx, hb, hml, hown, hts⟩ (m_fail_no l g hL L79_mo z279) (z_in k_914 rfl) (z_in k_7 rfl) (z_in k_911 rfl) (z_in k_913 rfl) (z_in ks_32 rfl) (by decide +kernel) ⟨by first | exact Nat.le_of_ble_eq_true rfl | (dsimp only; omega) | omega, by first | exact Nat.le_of_ble_eq_true rfl | (dsimp only; omega) | omega⟩ hK hE hw hA rfl L79_mo rfl hl.1 (Nat.le_of_ble_eq_true rfl) d_M_readNumber_281 ⟨by first | exact Nat.le_of_ble_eq_true rfl | (dsimp only; omega) | omega, by first | exact Nat.le_of_ble_eq_true rfl | (dsimp only; omega) | omega⟩ rfl (fun r9 h9 H locs hp hw => ?_)
                            obtain ⟨r8, h8⟩ := hp
                            subst r8
                            subst h8
                            refine W.eq (g2 := F0 m 284 ls []) rfl ?_
                            refine lv_lload hx hb d_M_readNumber_284 (lv_at hl 0 rfl) ?_
                            exact z_lret hx hb hr hlocks hw (by have eR : resN X = i1 := (by obtain ⟨F, z1, z2, z3, z4⟩ := hI.resolve_left (fun z => z279 z.1); rw [z3, z1]; rfl); exact ⟨kk79, p1 + k, -v, rfl, by rw [eR]; exact L79_mo, by omega, by omega, fun y => absurd (eR.symm.trans y) z279⟩) (by decide) (by decide) d_M_readNumber_286
                      · -- 241: False
                        refine lv_iload hx hb d_M_readNumber_244 (lv_at hl 7 rfl) ?_
                        refine lv_if_eq (tgt := 271) hx hb d_M_readNumber_246 (by decide) (fun c_246 => ?_) (fun c_246 => ?_)
                        · -- 246: True
                          have c_246 : gd = false := zb_f c_246
                          refine lv_iconst (v := 0) hx hb d_M_readNumber_271 (by decide) ?_
                          refine lv_istore (lv' := [(9, .int 0), (10, .long (-v)), (0, .ref mo), (1, .int ty), (2, .int (nI p)), (3, .int (zb mi)), (4, .int (nI p1)), (5, .long v)]) hx hb d_M_readNumber_272 hl (by decide) rfl (fun ls hl => ?_)
                          refine lv_iload hx hb d_M_readNumber_274 (lv_at hl 0 rfl) ?_
                          refine lv_if_ne (tgt := 284) hx hb d_M_readNumber_276 (by decide) (fun c_276 => ?_) (fun c_276 => ?_)
                          · -- 276: True
                            exact absurd (by decide) c_276
                          · -- 276: False
                            by_cases z279 : (i1 : Int32) = -1
                            · -- no fault yet True
                              have fi3 : hL mo = some ((20, 0), .inr (11, mF ma cod tpd (nI n) fls cls9 ffl fcl nds sai ous (nI (p1 + k)) (-1))) := by have z9 := L79_mo; rw [z279] at z9; exact z9
                              refine lv_aload_n hx hb d_M_readNumber_279 rfl (lv_at hl 2 rfl) ?_
                              refine lv_iload_n hx hb d_M_readNumber_280 rfl (lv_at hl 4 rfl) ?_
                              refine z_callV (n := 1) (As := [.int (nI p)]) (rest := []) ⟨hx, hb, hml, hown, hts⟩ (m_fail l g hL fi3) (z_in k_914 rfl) (z_in k_7 rfl) (z_in k_911 rfl) (z_in k_913 rfl) (z_in ks_32 rfl) (by decide +kernel) ⟨by first | exact Nat.le_of_ble_eq_true rfl | (dsimp only; omega) | omega, by first | exact Nat.le_of_ble_eq_true rfl | (dsimp only; omega) | omega⟩ hK hE hw hA rfl fi3 rfl hl.1 (Nat.le_of_ble_eq_true rfl) d_M_readNumber_281 ⟨by first | exact Nat.le_of_ble_eq_true rfl | (dsimp only; omega) | omega, by first | exact Nat.le_of_ble_eq_true rfl | (dsimp only; omega) | omega⟩ rfl (fun r9 h9 H locs hp hw => ?_)
                              obtain ⟨r8, hh4⟩ := hp
                              subst r8
                              obtain ⟨h4, e8⟩ : ∃ x9, x9 = h9 := ⟨_, rfl⟩
                              subst e8
                              have f4_mo : h4 mo = some ((20, 0), .inr (11, mF ma cod tpd (nI n) fls cls9 ffl fcl nds sai ous (nI (p1 + k)) (nI p))) := by rw [← hh4]; exact z_put_eq
                              have f4_ma_1 : h4 (ma 1) = some ((22, 0), .inl (g.2.1 1, 4000, .inl f)) := by rw [← hh4]; exact z_keep fi3 L79_ma_1 (z_t1 (by decide))
                              have kk4 : z_K (fun y => y = 20) h h4 := kk79.tr (by rw [← hh4]; exact z_K.put fi3 (by first | decide | simp | omega))
                              refine W.eq (g2 := F0 m 284 ls []) rfl ?_
                              refine lv_lload hx hb d_M_readNumber_284 (lv_at hl 1 rfl) ?_
                              exact z_lret hx hb hr hlocks hw (by have eR : resN X = nI p := (by have hd := (hI.resolve_right (fun z => by obtain ⟨F, z1, z2, z3, z4⟩ := z; exact nI_ne1 (by omega) (z1.symm.trans z279))).2; rw [show X = .inl p from (hF hd).trans (if_neg (by rw [c_246, Bool.false_and]; decide))]; rfl); exact ⟨kk4, p1 + k, -v, rfl, by rw [eR]; exact f4_mo, by omega, by omega, fun y => absurd (eR.symm.trans y) (nI_ne1 (by omega))⟩) (by decide) (by decide) d_M_readNumber_286
                            · -- no fault yet False
                              refine lv_aload_n hx hb d_M_readNumber_279 rfl (lv_at hl 2 rfl) ?_
                              refine lv_iload_n hx hb d_M_readNumber_280 rfl (lv_at hl 4 rfl) ?_
                              refine z_callV (n := 1) (As := [.int (nI p)]) (rest := []) ⟨hx, hb, hml, hown, hts⟩ (m_fail_no l g hL L79_mo z279) (z_in k_914 rfl) (z_in k_7 rfl) (z_in k_911 rfl) (z_in k_913 rfl) (z_in ks_32 rfl) (by decide +kernel) ⟨by first | exact Nat.le_of_ble_eq_true rfl | (dsimp only; omega) | omega, by first | exact Nat.le_of_ble_eq_true rfl | (dsimp only; omega) | omega⟩ hK hE hw hA rfl L79_mo rfl hl.1 (Nat.le_of_ble_eq_true rfl) d_M_readNumber_281 ⟨by first | exact Nat.le_of_ble_eq_true rfl | (dsimp only; omega) | omega, by first | exact Nat.le_of_ble_eq_true rfl | (dsimp only; omega) | omega⟩ rfl (fun r9 h9 H locs hp hw => ?_)
                              obtain ⟨r8, h8⟩ := hp
                              subst r8
                              subst h8
                              refine W.eq (g2 := F0 m 284 ls []) rfl ?_
                              refine lv_lload hx hb d_M_readNumber_284 (lv_at hl 1 rfl) ?_
                              exact z_lret hx hb hr hlocks hw (by have eR : resN X = i1 := (by obtain ⟨F, z1, z2, z3, z4⟩ := hI.resolve_left (fun z => z279 z.1); rw [z3, z1]; rfl); exact ⟨kk79, p1 + k, -v, rfl, by rw [eR]; exact L79_mo, by omega, by omega, fun y => absurd (eR.symm.trans y) z279⟩) (by decide) (by decide) d_M_readNumber_286
                        · -- 246: False
                          have c_246 : gd = true := zb_t c_246
                          refine lv_lload hx hb d_M_readNumber_249 (lv_at hl 0 rfl) ?_
                          refine lv_ldc2 hx hb hown (hts _ (z_in k_1012 rfl)) d_M_readNumber_251 ?_
                          refine W.lcmp hx hb d_M_readNumber_254 ?_
                          refine lv_if_lt (tgt := 271) hx hb d_M_readNumber_255 (by decide) (fun c_255 => ?_) (fun c_255 => ?_)
                          · -- 255: True
                            have c_255 : (-v : Int64) < (-2147483648) := (lg_cmp_lt _ _).mp c_255
                            refine lv_iconst (v := 0) hx hb d_M_readNumber_271 (by decide) ?_
                            refine lv_istore (lv' := [(9, .int 0), (10, .long (-v)), (0, .ref mo), (1, .int ty), (2, .int (nI p)), (3, .int (zb mi)), (4, .int (nI p1)), (5, .long v)]) hx hb d_M_readNumber_272 hl (by decide) rfl (fun ls hl => ?_)
                            refine lv_iload hx hb d_M_readNumber_274 (lv_at hl 0 rfl) ?_
                            refine lv_if_ne (tgt := 284) hx hb d_M_readNumber_276 (by decide) (fun c_276 => ?_) (fun c_276 => ?_)
                            · -- 276: True
                              exact absurd (by decide) c_276
                            · -- 276: False
                              by_cases z279 : (i1 : Int32) = -1
                              · -- no fault yet True
                                have fi5 : hL mo = some ((20, 0), .inr (11, mF ma cod tpd (nI n) fls cls9 ffl fcl nds sai ous (nI (p1 + k)) (-1))) := by have z9 := L79_mo; rw [z279] at z9; exact z9
                                refine lv_aload_n hx hb d_M_readNumber_279 rfl (lv_at hl 2 rfl) ?_
                                refine lv_iload_n hx hb d_M_readNumber_280 rfl (lv_at hl 4 rfl) ?_
                                refine z_callV (n := 1) (As := [.int (nI p)]) (rest := []) ⟨hx, hb, hml, hown, hts⟩ (m_fail l g hL fi5) (z_in k_914 rfl) (z_in k_7 rfl) (z_in k_911 rfl) (z_in k_913 rfl) (z_in ks_32 rfl) (by decide +kernel) ⟨by first | exact Nat.le_of_ble_eq_true rfl | (dsimp only; omega) | omega, by first | exact Nat.le_of_ble_eq_true rfl | (dsimp only; omega) | omega⟩ hK hE hw hA rfl fi5 rfl hl.1 (Nat.le_of_ble_eq_true rfl) d_M_readNumber_281 ⟨by first | exact Nat.le_of_ble_eq_true rfl | (dsimp only; omega) | omega, by first | exact Nat.le_of_ble_eq_true rfl | (dsimp only; omega) | omega⟩ rfl (fun r9 h9 H locs hp hw => ?_)
                                obtain ⟨r8, hh6⟩ := hp
                                subst r8
                                obtain ⟨h6, e8⟩ : ∃ x9, x9 = h9 := ⟨_, rfl⟩
                                subst e8
                                have f6_mo : h6 mo = some ((20, 0), .inr (11, mF ma cod tpd (nI n) fls cls9 ffl fcl nds sai ous (nI (p1 + k)) (nI p))) := by rw [← hh6]; exact z_put_eq
                                have f6_ma_1 : h6 (ma 1) = some ((22, 0), .inl (g.2.1 1, 4000, .inl f)) := by rw [← hh6]; exact z_keep fi5 L79_ma_1 (z_t1 (by decide))
                                have kk6 : z_K (fun y => y = 20) h h6 := kk79.tr (by rw [← hh6]; exact z_K.put fi5 (by first | decide | simp | omega))
                                refine W.eq (g2 := F0 m 284 ls []) rfl ?_
                                refine lv_lload hx hb d_M_readNumber_284 (lv_at hl 1 rfl) ?_
                                exact z_lret hx hb hr hlocks hw (by have eR : resN X = nI p := (by have hd := (hI.resolve_right (fun z => by obtain ⟨F, z1, z2, z3, z4⟩ := z; exact nI_ne1 (by omega) (z1.symm.trans z279))).2; rw [show X = .inl p from (hF hd).trans (if_neg (by rw [c_246, decide_eq_false (show ¬ ¬ ty = 1 from fun z => z (by simpa using c_241)), Bool.false_or, if_neg (by rw [c_226]; decide), decide_eq_false (Int64.not_le.mpr c_255)]; simp))]; rfl); exact ⟨kk6, p1 + k, -v, rfl, by rw [eR]; exact f6_mo, by omega, by omega, fun y => absurd (eR.symm.trans y) (nI_ne1 (by omega))⟩) (by decide) (by decide) d_M_readNumber_286
                              · -- no fault yet False
                                refine lv_aload_n hx hb d_M_readNumber_279 rfl (lv_at hl 2 rfl) ?_
                                refine lv_iload_n hx hb d_M_readNumber_280 rfl (lv_at hl 4 rfl) ?_
                                refine z_callV (n := 1) (As := [.int (nI p)]) (rest := []) ⟨hx, hb, hml, hown, hts⟩ (m_fail_no l g hL L79_mo z279) (z_in k_914 rfl) (z_in k_7 rfl) (z_in k_911 rfl) (z_in k_913 rfl) (z_in ks_32 rfl) (by decide +kernel) ⟨by first | exact Nat.le_of_ble_eq_true rfl | (dsimp only; omega) | omega, by first | exact Nat.le_of_ble_eq_true rfl | (dsimp only; omega) | omega⟩ hK hE hw hA rfl L79_mo rfl hl.1 (Nat.le_of_ble_eq_true rfl) d_M_readNumber_281 ⟨by first | exact Nat.le_of_ble_eq_true rfl | (dsimp only; omega) | omega, by first | exact Nat.le_of_ble_eq_true rfl | (dsimp only; omega) | omega⟩ rfl (fun r9 h9 H locs hp hw => ?_)
                                obtain ⟨r8, h8⟩ := hp
                                subst r8
                                subst h8
                                refine W.eq (g2 := F0 m 284 ls []) rfl ?_
                                refine lv_lload hx hb d_M_readNumber_284 (lv_at hl 1 rfl) ?_
                                exact z_lret hx hb hr hlocks hw (by have eR : resN X = i1 := (by obtain ⟨F, z1, z2, z3, z4⟩ := hI.resolve_left (fun z => z279 z.1); rw [z3, z1]; rfl); exact ⟨kk79, p1 + k, -v, rfl, by rw [eR]; exact L79_mo, by omega, by omega, fun y => absurd (eR.symm.trans y) z279⟩) (by decide) (by decide) d_M_readNumber_286
                          · -- 255: False
                            have c_255 : ¬ ((-v : Int64) < (-2147483648)) := fun z => c_255 ((lg_cmp_lt _ _).mpr z)
                            refine lv_lload hx hb d_M_readNumber_258 (lv_at hl 0 rfl) ?_
                            refine lv_ldc2 hx hb hown (hts _ (z_in k_1013 rfl)) d_M_readNumber_260 ?_
                            refine W.lcmp hx hb d_M_readNumber_263 ?_
                            refine lv_if_gt (tgt := 271) hx hb d_M_readNumber_264 (by decide) (fun c_264 => ?_) (fun c_264 => ?_)
                            · -- 264: True
                              have c_264 : (-v : Int64) > 2147483647 := (lg_cmp_gt _ _).mp c_264
                              refine lv_iconst (v := 0) hx hb d_M_readNumber_271 (by decide) ?_
                              refine lv_istore (lv' := [(9, .int 0), (10, .long (-v)), (0, .ref mo), (1, .int ty), (2, .int (nI p)), (3, .int (zb mi)), (4, .int (nI p1)), (5, .long v)]) hx hb d_M_readNumber_272 hl (by decide) rfl (fun ls hl => ?_)
                              refine lv_iload hx hb d_M_readNumber_274 (lv_at hl 0 rfl) ?_
                              refine lv_if_ne (tgt := 284) hx hb d_M_readNumber_276 (by decide) (fun c_276 => ?_) (fun c_276 => ?_)
                              · -- 276: True
                                exact absurd (by decide) c_276
                              · -- 276: False
                                by_cases z279 : (i1 : Int32) = -1
                                · -- no fault yet True
                                  have fi7 : hL mo = some ((20, 0), .inr (11, mF ma cod tpd (nI n) fls cls9 ffl fcl nds sai ous (nI (p1 + k)) (-1))) := by have z9 := L79_mo; rw [z279] at z9; exact z9
                                  refine lv_aload_n hx hb d_M_readNumber_279 rfl (lv_at hl 2 rfl) ?_
                                  refine lv_iload_n hx hb d_M_readNumber_280 rfl (lv_at hl 4 rfl) ?_
                                  refine z_callV (n := 1) (As := [.int (nI p)]) (rest := []) ⟨hx, hb, hml, hown, hts⟩ (m_fail l g hL fi7) (z_in k_914 rfl) (z_in k_7 rfl) (z_in k_911 rfl) (z_in k_913 rfl) (z_in ks_32 rfl) (by decide +kernel) ⟨by first | exact Nat.le_of_ble_eq_true rfl | (dsimp only; omega) | omega, by first | exact Nat.le_of_ble_eq_true rfl | (dsimp only; omega) | omega⟩ hK hE hw hA rfl fi7 rfl hl.1 (Nat.le_of_ble_eq_true rfl) d_M_readNumber_281 ⟨by first | exact Nat.le_of_ble_eq_true rfl | (dsimp only; omega) | omega, by first | exact Nat.le_of_ble_eq_true rfl | (dsimp only; omega) | omega⟩ rfl (fun r9 h9 H locs hp hw => ?_)
                                  obtain ⟨r8, hh8⟩ := hp
                                  subst r8
                                  obtain ⟨h8, e8⟩ : ∃ x9, x9 = h9 := ⟨_, rfl⟩
                                  subst e8
                                  have f8_mo : h8 mo = some ((20, 0), .inr (11, mF ma cod tpd (nI n) fls cls9 ffl fcl nds sai ous (nI (p1 + k)) (nI p))) := by rw [← hh8]; exact z_put_eq
                                  have f8_ma_1 : h8 (ma 1) = some ((22, 0), .inl (g.2.1 1, 4000, .inl f)) := by rw [← hh8]; exact z_keep fi7 L79_ma_1 (z_t1 (by decide))
                                  have kk8 : z_K (fun y => y = 20) h h8 := kk79.tr (by rw [← hh8]; exact z_K.put fi7 (by first | decide | simp | omega))
                                  refine W.eq (g2 := F0 m 284 ls []) rfl ?_
                                  refine lv_lload hx hb d_M_readNumber_284 (lv_at hl 1 rfl) ?_
                                  exact z_lret hx hb hr hlocks hw (by have eR : resN X = nI p := (by have hd := (hI.resolve_right (fun z => by obtain ⟨F, z1, z2, z3, z4⟩ := z; exact nI_ne1 (by omega) (z1.symm.trans z279))).2; rw [show X = .inl p from (hF hd).trans (if_neg (by rw [c_246, decide_eq_false (show ¬ ¬ ty = 1 from fun z => z (by simpa using c_241)), Bool.false_or, if_neg (by rw [c_226]; decide), decide_eq_true (Int64.not_lt.mp c_255), decide_eq_false (Int64.not_le.mpr c_264)]; decide))]; rfl); exact ⟨kk8, p1 + k, -v, rfl, by rw [eR]; exact f8_mo, by omega, by omega, fun y => absurd (eR.symm.trans y) (nI_ne1 (by omega))⟩) (by decide) (by decide) d_M_readNumber_286
                                · -- no fault yet False
                                  refine lv_aload_n hx hb d_M_readNumber_279 rfl (lv_at hl 2 rfl) ?_
                                  refine lv_iload_n hx hb d_M_readNumber_280 rfl (lv_at hl 4 rfl) ?_
                                  refine z_callV (n := 1) (As := [.int (nI p)]) (rest := []) ⟨hx, hb, hml, hown, hts⟩ (m_fail_no l g hL L79_mo z279) (z_in k_914 rfl) (z_in k_7 rfl) (z_in k_911 rfl) (z_in k_913 rfl) (z_in ks_32 rfl) (by decide +kernel) ⟨by first | exact Nat.le_of_ble_eq_true rfl | (dsimp only; omega) | omega, by first | exact Nat.le_of_ble_eq_true rfl | (dsimp only; omega) | omega⟩ hK hE hw hA rfl L79_mo rfl hl.1 (Nat.le_of_ble_eq_true rfl) d_M_readNumber_281 ⟨by first | exact Nat.le_of_ble_eq_true rfl | (dsimp only; omega) | omega, by first | exact Nat.le_of_ble_eq_true rfl | (dsimp only; omega) | omega⟩ rfl (fun r9 h9 H locs hp hw => ?_)
                                  obtain ⟨r8, h8⟩ := hp
                                  subst r8
                                  subst h8
                                  refine W.eq (g2 := F0 m 284 ls []) rfl ?_
                                  refine lv_lload hx hb d_M_readNumber_284 (lv_at hl 1 rfl) ?_
                                  exact z_lret hx hb hr hlocks hw (by have eR : resN X = i1 := (by obtain ⟨F, z1, z2, z3, z4⟩ := hI.resolve_left (fun z => z279 z.1); rw [z3, z1]; rfl); exact ⟨kk79, p1 + k, -v, rfl, by rw [eR]; exact L79_mo, by omega, by omega, fun y => absurd (eR.symm.trans y) z279⟩) (by decide) (by decide) d_M_readNumber_286
                            · -- 264: False
                              have c_264 : ¬ ((-v : Int64) > 2147483647) := fun z => c_264 ((lg_cmp_gt _ _).mpr z)
                              refine lv_iconst (v := 1) hx hb d_M_readNumber_267 (by decide) ?_
                              refine lv_goto (tgt := 272) hx hb d_M_readNumber_268 (by decide) ?_
                              refine lv_istore (lv' := [(9, .int 1), (10, .long (-v)), (0, .ref mo), (1, .int ty), (2, .int (nI p)), (3, .int (zb mi)), (4, .int (nI p1)), (5, .long v)]) hx hb d_M_readNumber_272 hl (by decide) rfl (fun ls hl => ?_)
                              refine lv_iload hx hb d_M_readNumber_274 (lv_at hl 0 rfl) ?_
                              refine lv_if_ne (tgt := 284) hx hb d_M_readNumber_276 (by decide) (fun c_276 => ?_) (fun c_276 => ?_)
                              · -- 276: True
                                refine lv_lload hx hb d_M_readNumber_284 (lv_at hl 1 rfl) ?_
                                exact z_lret hx hb hr hlocks hw (by have eR : resN X = i1 := (hI.elim (fun z => by rw [show X = .inr (-v, p1 + k) from (hF z.2).trans ((if_pos (by rw [c_246, decide_eq_false (show ¬ ¬ ty = 1 from fun z => z (by simpa using c_241)), Bool.false_or, if_neg (by rw [c_226]; decide), decide_eq_true (Int64.not_lt.mp c_255), decide_eq_true (Int64.not_lt.mp c_264)]; rfl)).trans (by rw [if_neg (show ¬ mi = true by rw [c_226]; decide)])), z.1]; rfl) (fun z => by obtain ⟨F, z1, z2, z3, z4⟩ := z; rw [z3, z1]; rfl)); exact ⟨kk79, p1 + k, -v, rfl, by rw [eR]; exact L79_mo, by omega, by omega, fun y => hI.elim (fun z => (hF z.2).trans ((if_pos (by rw [c_246, decide_eq_false (show ¬ ¬ ty = 1 from fun z => z (by simpa using c_241)), Bool.false_or, if_neg (by rw [c_226]; decide), decide_eq_true (Int64.not_lt.mp c_255), decide_eq_true (Int64.not_lt.mp c_264)]; rfl)).trans (by rw [if_neg (show ¬ mi = true by rw [c_226]; decide)]))) (fun z => by obtain ⟨F, z1, z2, z3, z4⟩ := z; rw [eR, z1] at y; exact absurd y (nI_ne1 (by omega)))⟩) (by decide) (by decide) d_M_readNumber_286
                              · -- 276: False
                                exact absurd c_276 (by decide)
                    · -- 226: False
                      have c_226 : mi = true := zb_t c_226
                      refine lv_lload hx hb d_M_readNumber_229 (lv_at hl 5 rfl) ?_
                      refine lv_goto (tgt := 237) hx hb d_M_readNumber_231 (by decide) ?_
                      refine lv_lstore (lv' := [(10, .long v), (0, .ref mo), (1, .int ty), (2, .int (nI p)), (3, .int (zb mi)), (4, .int (nI p1)), (5, .long v), (9, .int (zb gd))]) hx hb d_M_readNumber_237 hl (by decide) rfl (fun ls hl => ?_)
                      refine lv_iload_n hx hb d_M_readNumber_239 rfl (lv_at hl 2 rfl) ?_
                      refine lv_iconst (v := 1) hx hb d_M_readNumber_240 (by decide) ?_
                      refine lv_icmp_ne (tgt := 274) hx hb d_M_readNumber_241 (by decide) (fun c_241 => ?_) (fun c_241 => ?_)
                      · -- 241: True
                        refine lv_iload hx hb d_M_readNumber_274 (lv_at hl 7 rfl) ?_
                        refine lv_if_ne (tgt := 284) hx hb d_M_readNumber_276 (by decide) (fun c_276 => ?_) (fun c_276 => ?_)
                        · -- 276: True
                          have c_276 : gd = true := zb_t c_276
                          refine lv_lload hx hb d_M_readNumber_284 (lv_at hl 0 rfl) ?_
                          exact z_lret hx hb hr hlocks hw (by have eR : resN X = i1 := (hI.elim (fun z => by rw [show X = .inr (v, p1 + k) from (hF z.2).trans ((if_pos (by rw [c_276, decide_eq_true (show ¬ ty = 1 from c_241)]; simp)).trans (by rw [if_pos (show mi = true from c_226)])), z.1]; rfl) (fun z => by obtain ⟨F, z1, z2, z3, z4⟩ := z; rw [z3, z1]; rfl)); exact ⟨kk79, p1 + k, v, rfl, by rw [eR]; exact L79_mo, by omega, by omega, fun y => hI.elim (fun z => (hF z.2).trans ((if_pos (by rw [c_276, decide_eq_true (show ¬ ty = 1 from c_241)]; simp)).trans (by rw [if_pos (show mi = true from c_226)]))) (fun z => by obtain ⟨F, z1, z2, z3, z4⟩ := z; rw [eR, z1] at y; exact absurd y (nI_ne1 (by omega)))⟩) (by decide) (by decide) d_M_readNumber_286
                        · -- 276: False
                          have c_276 : gd = false := zb_f c_276
                          by_cases z279 : (i1 : Int32) = -1
                          · -- no fault yet True
                            have fi9 : hL mo = some ((20, 0), .inr (11, mF ma cod tpd (nI n) fls cls9 ffl fcl nds sai ous (nI (p1 + k)) (-1))) := by have z9 := L79_mo; rw [z279] at z9; exact z9
                            refine lv_aload_n hx hb d_M_readNumber_279 rfl (lv_at hl 1 rfl) ?_
                            refine lv_iload_n hx hb d_M_readNumber_280 rfl (lv_at hl 3 rfl) ?_
                            refine z_callV (n := 1) (As := [.int (nI p)]) (rest := []) ⟨hx, hb, hml, hown, hts⟩ (m_fail l g hL fi9) (z_in k_914 rfl) (z_in k_7 rfl) (z_in k_911 rfl) (z_in k_913 rfl) (z_in ks_32 rfl) (by decide +kernel) ⟨by first | exact Nat.le_of_ble_eq_true rfl | (dsimp only; omega) | omega, by first | exact Nat.le_of_ble_eq_true rfl | (dsimp only; omega) | omega⟩ hK hE hw hA rfl fi9 rfl hl.1 (Nat.le_of_ble_eq_true rfl) d_M_readNumber_281 ⟨by first | exact Nat.le_of_ble_eq_true rfl | (dsimp only; omega) | omega, by first | exact Nat.le_of_ble_eq_true rfl | (dsimp only; omega) | omega⟩ rfl (fun r9 h9 H locs hp hw => ?_)
                            obtain ⟨r8, hh10⟩ := hp
                            subst r8
                            obtain ⟨h10, e8⟩ : ∃ x9, x9 = h9 := ⟨_, rfl⟩
                            subst e8
                            have f10_mo : h10 mo = some ((20, 0), .inr (11, mF ma cod tpd (nI n) fls cls9 ffl fcl nds sai ous (nI (p1 + k)) (nI p))) := by rw [← hh10]; exact z_put_eq
                            have f10_ma_1 : h10 (ma 1) = some ((22, 0), .inl (g.2.1 1, 4000, .inl f)) := by rw [← hh10]; exact z_keep fi9 L79_ma_1 (z_t1 (by decide))
                            have kk10 : z_K (fun y => y = 20) h h10 := kk79.tr (by rw [← hh10]; exact z_K.put fi9 (by first | decide | simp | omega))
                            refine W.eq (g2 := F0 m 284 ls []) rfl ?_
                            refine lv_lload hx hb d_M_readNumber_284 (lv_at hl 0 rfl) ?_
                            exact z_lret hx hb hr hlocks hw (by have eR : resN X = nI p := (by have hd := (hI.resolve_right (fun z => by obtain ⟨F, z1, z2, z3, z4⟩ := z; exact nI_ne1 (by omega) (z1.symm.trans z279))).2; rw [show X = .inl p from (hF hd).trans (if_neg (by rw [c_276, Bool.false_and]; simp))]; rfl); exact ⟨kk10, p1 + k, v, rfl, by rw [eR]; exact f10_mo, by omega, by omega, fun y => absurd (eR.symm.trans y) (nI_ne1 (by omega))⟩) (by decide) (by decide) d_M_readNumber_286
                          · -- no fault yet False
                            refine lv_aload_n hx hb d_M_readNumber_279 rfl (lv_at hl 1 rfl) ?_
                            refine lv_iload_n hx hb d_M_readNumber_280 rfl (lv_at hl 3 rfl) ?_
                            refine z_callV (n := 1) (As := [.int (nI p)]) (rest := []) ⟨hx, hb, hml, hown, hts⟩ (m_fail_no l g hL L79_mo z279) (z_in k_914 rfl) (z_in k_7 rfl) (z_in k_911 rfl) (z_in k_913 rfl) (z_in ks_32 rfl) (by decide +kernel) ⟨by first | exact Nat.le_of_ble_eq_true rfl | (dsimp only; omega) | omega, by first | exact Nat.le_of_ble_eq_true rfl | (dsimp only; omega) | omega⟩ hK hE hw hA rfl L79_mo rfl hl.1 (Nat.le_of_ble_eq_true rfl) d_M_readNumber_281 ⟨by first | exact Nat.le_of_ble_eq_true rfl | (dsimp only; omega) | omega, by first | exact Nat.le_of_ble_eq_true rfl | (dsimp only; omega) | omega⟩ rfl (fun r9 h9 H locs hp hw => ?_)
                            obtain ⟨r8, h8⟩ := hp
                            subst r8
                            subst h8
                            refine W.eq (g2 := F0 m 284 ls []) rfl ?_
                            refine lv_lload hx hb d_M_readNumber_284 (lv_at hl 0 rfl) ?_
                            exact z_lret hx hb hr hlocks hw (by have eR : resN X = i1 := (by obtain ⟨F, z1, z2, z3, z4⟩ := hI.resolve_left (fun z => z279 z.1); rw [z3, z1]; rfl); exact ⟨kk79, p1 + k, v, rfl, by rw [eR]; exact L79_mo, by omega, by omega, fun y => absurd (eR.symm.trans y) z279⟩) (by decide) (by decide) d_M_readNumber_286
                      · -- 241: False
                        refine lv_iload hx hb d_M_readNumber_244 (lv_at hl 7 rfl) ?_
                        refine lv_if_eq (tgt := 271) hx hb d_M_readNumber_246 (by decide) (fun c_246 => ?_) (fun c_246 => ?_)
                        · -- 246: True
                          have c_246 : gd = false := zb_f c_246
                          refine lv_iconst (v := 0) hx hb d_M_readNumber_271 (by decide) ?_
                          refine lv_istore (lv' := [(9, .int 0), (10, .long v), (0, .ref mo), (1, .int ty), (2, .int (nI p)), (3, .int (zb mi)), (4, .int (nI p1)), (5, .long v)]) hx hb d_M_readNumber_272 hl (by decide) rfl (fun ls hl => ?_)
                          refine lv_iload hx hb d_M_readNumber_274 (lv_at hl 0 rfl) ?_
                          refine lv_if_ne (tgt := 284) hx hb d_M_readNumber_276 (by decide) (fun c_276 => ?_) (fun c_276 => ?_)
                          · -- 276: True
                            exact absurd (by decide) c_276
                          · -- 276: False
                            by_cases z279 : (i1 : Int32) = -1
                            · -- no fault yet True
                              have fi11 : hL mo = some ((20, 0), .inr (11, mF ma cod tpd (nI n) fls cls9 ffl fcl nds sai ous (nI (p1 + k)) (-1))) := by have z9 := L79_mo; rw [z279] at z9; exact z9
                              refine lv_aload_n hx hb d_M_readNumber_279 rfl (lv_at hl 2 rfl) ?_
                              refine lv_iload_n hx hb d_M_readNumber_280 rfl (lv_at hl 4 rfl) ?_
                              refine z_callV (n := 1) (As := [.int (nI p)]) (rest := []) ⟨hx, hb, hml, hown, hts⟩ (m_fail l g hL fi11) (z_in k_914 rfl) (z_in k_7 rfl) (z_in k_911 rfl) (z_in k_913 rfl) (z_in ks_32 rfl) (by decide +kernel) ⟨by first | exact Nat.le_of_ble_eq_true rfl | (dsimp only; omega) | omega, by first | exact Nat.le_of_ble_eq_true rfl | (dsimp only; omega) | omega⟩ hK hE hw hA rfl fi11 rfl hl.1 (Nat.le_of_ble_eq_true rfl) d_M_readNumber_281 ⟨by first | exact Nat.le_of_ble_eq_true rfl | (dsimp only; omega) | omega, by first | exact Nat.le_of_ble_eq_true rfl | (dsimp only; omega) | omega⟩ rfl (fun r9 h9 H locs hp hw => ?_)
                              obtain ⟨r8, hh12⟩ := hp
                              subst r8
                              obtain ⟨h12, e8⟩ : ∃ x9, x9 = h9 := ⟨_, rfl⟩
                              subst e8
                              have f12_mo : h12 mo = some ((20, 0), .inr (11, mF ma cod tpd (nI n) fls cls9 ffl fcl nds sai ous (nI (p1 + k)) (nI p))) := by rw [← hh12]; exact z_put_eq
                              have f12_ma_1 : h12 (ma 1) = some ((22, 0), .inl (g.2.1 1, 4000, .inl f)) := by rw [← hh12]; exact z_keep fi11 L79_ma_1 (z_t1 (by decide))
                              have kk12 : z_K (fun y => y = 20) h h12 := kk79.tr (by rw [← hh12]; exact z_K.put fi11 (by first | decide | simp | omega))
                              refine W.eq (g2 := F0 m 284 ls []) rfl ?_
                              refine lv_lload hx hb d_M_readNumber_284 (lv_at hl 1 rfl) ?_
                              exact z_lret hx hb hr hlocks hw (by have eR : resN X = nI p := (by have hd := (hI.resolve_right (fun z => by obtain ⟨F, z1, z2, z3, z4⟩ := z; exact nI_ne1 (by omega) (z1.symm.trans z279))).2; rw [show X = .inl p from (hF hd).trans (if_neg (by rw [c_246, Bool.false_and]; decide))]; rfl); exact ⟨kk12, p1 + k, v, rfl, by rw [eR]; exact f12_mo, by omega, by omega, fun y => absurd (eR.symm.trans y) (nI_ne1 (by omega))⟩) (by decide) (by decide) d_M_readNumber_286
                            · -- no fault yet False
                              refine lv_aload_n hx hb d_M_readNumber_279 rfl (lv_at hl 2 rfl) ?_
                              refine lv_iload_n hx hb d_M_readNumber_280 rfl (lv_at hl 4 rfl) ?_
                              refine z_callV (n := 1) (As := [.int (nI p)]) (rest := []) ⟨hx, hb, hml, hown, hts⟩ (m_fail_no l g hL L79_mo z279) (z_in k_914 rfl) (z_in k_7 rfl) (z_in k_911 rfl) (z_in k_913 rfl) (z_in ks_32 rfl) (by decide +kernel) ⟨by first | exact Nat.le_of_ble_eq_true rfl | (dsimp only; omega) | omega, by first | exact Nat.le_of_ble_eq_true rfl | (dsimp only; omega) | omega⟩ hK hE hw hA rfl L79_mo rfl hl.1 (Nat.le_of_ble_eq_true rfl) d_M_readNumber_281 ⟨by first | exact Nat.le_of_ble_eq_true rfl | (dsimp only; omega) | omega, by first | exact Nat.le_of_ble_eq_true rfl | (dsimp only; omega) | omega⟩ rfl (fun r9 h9 H locs hp hw => ?_)
                              obtain ⟨r8, h8⟩ := hp
                              subst r8
                              subst h8
                              refine W.eq (g2 := F0 m 284 ls []) rfl ?_
                              refine lv_lload hx hb d_M_readNumber_284 (lv_at hl 1 rfl) ?_
                              exact z_lret hx hb hr hlocks hw (by have eR : resN X = i1 := (by obtain ⟨F, z1, z2, z3, z4⟩ := hI.resolve_left (fun z => z279 z.1); rw [z3, z1]; rfl); exact ⟨kk79, p1 + k, v, rfl, by rw [eR]; exact L79_mo, by omega, by omega, fun y => absurd (eR.symm.trans y) z279⟩) (by decide) (by decide) d_M_readNumber_286
                        · -- 246: False
                          have c_246 : gd = true := zb_t c_246
                          refine lv_lload hx hb d_M_readNumber_249 (lv_at hl 0 rfl) ?_
                          refine lv_ldc2 hx hb hown (hts _ (z_in k_1012 rfl)) d_M_readNumber_251 ?_
                          refine W.lcmp hx hb d_M_readNumber_254 ?_
                          refine lv_if_lt (tgt := 271) hx hb d_M_readNumber_255 (by decide) (fun c_255 => ?_) (fun c_255 => ?_)
                          · -- 255: True
                            have c_255 : (v : Int64) < (-2147483648) := (lg_cmp_lt _ _).mp c_255
                            refine lv_iconst (v := 0) hx hb d_M_readNumber_271 (by decide) ?_
                            refine lv_istore (lv' := [(9, .int 0), (10, .long v), (0, .ref mo), (1, .int ty), (2, .int (nI p)), (3, .int (zb mi)), (4, .int (nI p1)), (5, .long v)]) hx hb d_M_readNumber_272 hl (by decide) rfl (fun ls hl => ?_)
                            refine lv_iload hx hb d_M_readNumber_274 (lv_at hl 0 rfl) ?_
                            refine lv_if_ne (tgt := 284) hx hb d_M_readNumber_276 (by decide) (fun c_276 => ?_) (fun c_276 => ?_)
                            · -- 276: True
                              exact absurd (by decide) c_276
                            · -- 276: False
                              by_cases z279 : (i1 : Int32) = -1
                              · -- no fault yet True
                                have fi13 : hL mo = some ((20, 0), .inr (11, mF ma cod tpd (nI n) fls cls9 ffl fcl nds sai ous (nI (p1 + k)) (-1))) := by have z9 := L79_mo; rw [z279] at z9; exact z9
                                refine lv_aload_n hx hb d_M_readNumber_279 rfl (lv_at hl 2 rfl) ?_
                                refine lv_iload_n hx hb d_M_readNumber_280 rfl (lv_at hl 4 rfl) ?_
                                refine z_callV (n := 1) (As := [.int (nI p)]) (rest := []) ⟨hx, hb, hml, hown, hts⟩ (m_fail l g hL fi13) (z_in k_914 rfl) (z_in k_7 rfl) (z_in k_911 rfl) (z_in k_913 rfl) (z_in ks_32 rfl) (by decide +kernel) ⟨by first | exact Nat.le_of_ble_eq_true rfl | (dsimp only; omega) | omega, by first | exact Nat.le_of_ble_eq_true rfl | (dsimp only; omega) | omega⟩ hK hE hw hA rfl fi13 rfl hl.1 (Nat.le_of_ble_eq_true rfl) d_M_readNumber_281 ⟨by first | exact Nat.le_of_ble_eq_true rfl | (dsimp only; omega) | omega, by first | exact Nat.le_of_ble_eq_true rfl | (dsimp only; omega) | omega⟩ rfl (fun r9 h9 H locs hp hw => ?_)
                                obtain ⟨r8, hh14⟩ := hp
                                subst r8
                                obtain ⟨h14, e8⟩ : ∃ x9, x9 = h9 := ⟨_, rfl⟩
                                subst e8
                                have f14_mo : h14 mo = some ((20, 0), .inr (11, mF ma cod tpd (nI n) fls cls9 ffl fcl nds sai ous (nI (p1 + k)) (nI p))) := by rw [← hh14]; exact z_put_eq
                                have f14_ma_1 : h14 (ma 1) = some ((22, 0), .inl (g.2.1 1, 4000, .inl f)) := by rw [← hh14]; exact z_keep fi13 L79_ma_1 (z_t1 (by decide))
                                have kk14 : z_K (fun y => y = 20) h h14 := kk79.tr (by rw [← hh14]; exact z_K.put fi13 (by first | decide | simp | omega))
                                refine W.eq (g2 := F0 m 284 ls []) rfl ?_
                                refine lv_lload hx hb d_M_readNumber_284 (lv_at hl 1 rfl) ?_
                                exact z_lret hx hb hr hlocks hw (by have eR : resN X = nI p := (by have hd := (hI.resolve_right (fun z => by obtain ⟨F, z1, z2, z3, z4⟩ := z; exact nI_ne1 (by omega) (z1.symm.trans z279))).2; rw [show X = .inl p from (hF hd).trans (if_neg (by rw [c_246, decide_eq_false (show ¬ ¬ ty = 1 from fun z => z (by simpa using c_241)), Bool.false_or, if_pos c_226, decide_eq_false (Int64.not_le.mpr c_255)]; simp))]; rfl); exact ⟨kk14, p1 + k, v, rfl, by rw [eR]; exact f14_mo, by omega, by omega, fun y => absurd (eR.symm.trans y) (nI_ne1 (by omega))⟩) (by decide) (by decide) d_M_readNumber_286
                              · -- no fault yet False
                                refine lv_aload_n hx hb d_M_readNumber_279 rfl (lv_at hl 2 rfl) ?_
                                refine lv_iload_n hx hb d_M_readNumber_280 rfl (lv_at hl 4 rfl) ?_
                                refine z_callV (n := 1) (As := [.int (nI p)]) (rest := []) ⟨hx, hb, hml, hown, hts⟩ (m_fail_no l g hL L79_mo z279) (z_in k_914 rfl) (z_in k_7 rfl) (z_in k_911 rfl) (z_in k_913 rfl) (z_in ks_32 rfl) (by decide +kernel) ⟨by first | exact Nat.le_of_ble_eq_true rfl | (dsimp only; omega) | omega, by first | exact Nat.le_of_ble_eq_true rfl | (dsimp only; omega) | omega⟩ hK hE hw hA rfl L79_mo rfl hl.1 (Nat.le_of_ble_eq_true rfl) d_M_readNumber_281 ⟨by first | exact Nat.le_of_ble_eq_true rfl | (dsimp only; omega) | omega, by first | exact Nat.le_of_ble_eq_true rfl | (dsimp only; omega) | omega⟩ rfl (fun r9 h9 H locs hp hw => ?_)
                                obtain ⟨r8, h8⟩ := hp
                                subst r8
                                subst h8
                                refine W.eq (g2 := F0 m 284 ls []) rfl ?_
                                refine lv_lload hx hb d_M_readNumber_284 (lv_at hl 1 rfl) ?_
                                exact z_lret hx hb hr hlocks hw (by have eR : resN X = i1 := (by obtain ⟨F, z1, z2, z3, z4⟩ := hI.resolve_left (fun z => z279 z.1); rw [z3, z1]; rfl); exact ⟨kk79, p1 + k, v, rfl, by rw [eR]; exact L79_mo, by omega, by omega, fun y => absurd (eR.symm.trans y) z279⟩) (by decide) (by decide) d_M_readNumber_286
                          · -- 255: False
                            have c_255 : ¬ ((v : Int64) < (-2147483648)) := fun z => c_255 ((lg_cmp_lt _ _).mpr z)
                            refine lv_lload hx hb d_M_readNumber_258 (lv_at hl 0 rfl) ?_
                            refine lv_ldc2 hx hb hown (hts _ (z_in k_1013 rfl)) d_M_readNumber_260 ?_
                            refine W.lcmp hx hb d_M_readNumber_263 ?_
                            refine lv_if_gt (tgt := 271) hx hb d_M_readNumber_264 (by decide) (fun c_264 => ?_) (fun c_264 => ?_)
                            · -- 264: True
                              have c_264 : (v : Int64) > 2147483647 := (lg_cmp_gt _ _).mp c_264
                              refine lv_iconst (v := 0) hx hb d_M_readNumber_271 (by decide) ?_
                              refine lv_istore (lv' := [(9, .int 0), (10, .long v), (0, .ref mo), (1, .int ty), (2, .int (nI p)), (3, .int (zb mi)), (4, .int (nI p1)), (5, .long v)]) hx hb d_M_readNumber_272 hl (by decide) rfl (fun ls hl => ?_)
                              refine lv_iload hx hb d_M_readNumber_274 (lv_at hl 0 rfl) ?_
                              refine lv_if_ne (tgt := 284) hx hb d_M_readNumber_276 (by decide) (fun c_276 => ?_) (fun c_276 => ?_)
                              · -- 276: True
                                exact absurd (by decide) c_276
                              · -- 276: False
                                by_cases z279 : (i1 : Int32) = -1
                                · -- no fault yet True
                                  have fi15 : hL mo = some ((20, 0), .inr (11, mF ma cod tpd (nI n) fls cls9 ffl fcl nds sai ous (nI (p1 + k)) (-1))) := by have z9 := L79_mo; rw [z279] at z9; exact z9
                                  refine lv_aload_n hx hb d_M_readNumber_279 rfl (lv_at hl 2 rfl) ?_
                                  refine lv_iload_n hx hb d_M_readNumber_280 rfl (lv_at hl 4 rfl) ?_
                                  refine z_callV (n := 1) (As := [.int (nI p)]) (rest := []) ⟨hx, hb, hml, hown, hts⟩ (m_fail l g hL fi15) (z_in k_914 rfl) (z_in k_7 rfl) (z_in k_911 rfl) (z_in k_913 rfl) (z_in ks_32 rfl) (by decide +kernel) ⟨by first | exact Nat.le_of_ble_eq_true rfl | (dsimp only; omega) | omega, by first | exact Nat.le_of_ble_eq_true rfl | (dsimp only; omega) | omega⟩ hK hE hw hA rfl fi15 rfl hl.1 (Nat.le_of_ble_eq_true rfl) d_M_readNumber_281 ⟨by first | exact Nat.le_of_ble_eq_true rfl | (dsimp only; omega) | omega, by first | exact Nat.le_of_ble_eq_true rfl | (dsimp only; omega) | omega⟩ rfl (fun r9 h9 H locs hp hw => ?_)
                                  obtain ⟨r8, hh16⟩ := hp
                                  subst r8
                                  obtain ⟨h16, e8⟩ : ∃ x9, x9 = h9 := ⟨_, rfl⟩
                                  subst e8
                                  have f16_mo : h16 mo = some ((20, 0), .inr (11, mF ma cod tpd (nI n) fls cls9 ffl fcl nds sai ous (nI (p1 + k)) (nI p))) := by rw [← hh16]; exact z_put_eq
                                  have f16_ma_1 : h16 (ma 1) = some ((22, 0), .inl (g.2.1 1, 4000, .inl f)) := by rw [← hh16]; exact z_keep fi15 L79_ma_1 (z_t1 (by decide))
                                  have kk16 : z_K (fun y => y = 20) h h16 := kk79.tr (by rw [← hh16]; exact z_K.put fi15 (by first | decide | simp | omega))
                                  refine W.eq (g2 := F0 m 284 ls []) rfl ?_
                                  refine lv_lload hx hb d_M_readNumber_284 (lv_at hl 1 rfl) ?_
                                  exact z_lret hx hb hr hlocks hw (by have eR : resN X = nI p := (by have hd := (hI.resolve_right (fun z => by obtain ⟨F, z1, z2, z3, z4⟩ := z; exact nI_ne1 (by omega) (z1.symm.trans z279))).2; rw [show X = .inl p from (hF hd).trans (if_neg (by rw [c_246, decide_eq_false (show ¬ ¬ ty = 1 from fun z => z (by simpa using c_241)), Bool.false_or, if_pos c_226, decide_eq_true (Int64.not_lt.mp c_255), decide_eq_false (Int64.not_le.mpr c_264)]; decide))]; rfl); exact ⟨kk16, p1 + k, v, rfl, by rw [eR]; exact f16_mo, by omega, by omega, fun y => absurd (eR.symm.trans y) (nI_ne1 (by omega))⟩) (by decide) (by decide) d_M_readNumber_286
                                · -- no fault yet False
                                  refine lv_aload_n hx hb d_M_readNumber_279 rfl (lv_at hl 2 rfl) ?_
                                  refine lv_iload_n hx hb d_M_readNumber_280 rfl (lv_at hl 4 rfl) ?_
                                  refine z_callV (n := 1) (As := [.int (nI p)]) (rest := []) ⟨hx, hb, hml, hown, hts⟩ (m_fail_no l g hL L79_mo z279) (z_in k_914 rfl) (z_in k_7 rfl) (z_in k_911 rfl) (z_in k_913 rfl) (z_in ks_32 rfl) (by decide +kernel) ⟨by first | exact Nat.le_of_ble_eq_true rfl | (dsimp only; omega) | omega, by first | exact Nat.le_of_ble_eq_true rfl | (dsimp only; omega) | omega⟩ hK hE hw hA rfl L79_mo rfl hl.1 (Nat.le_of_ble_eq_true rfl) d_M_readNumber_281 ⟨by first | exact Nat.le_of_ble_eq_true rfl | (dsimp only; omega) | omega, by first | exact Nat.le_of_ble_eq_true rfl | (dsimp only; omega) | omega⟩ rfl (fun r9 h9 H locs hp hw => ?_)
                                  obtain ⟨r8, h8⟩ := hp
                                  subst r8
                                  subst h8
                                  refine W.eq (g2 := F0 m 284 ls []) rfl ?_
                                  refine lv_lload hx hb d_M_readNumber_284 (lv_at hl 1 rfl) ?_
                                  exact z_lret hx hb hr hlocks hw (by have eR : resN X = i1 := (by obtain ⟨F, z1, z2, z3, z4⟩ := hI.resolve_left (fun z => z279 z.1); rw [z3, z1]; rfl); exact ⟨kk79, p1 + k, v, rfl, by rw [eR]; exact L79_mo, by omega, by omega, fun y => absurd (eR.symm.trans y) z279⟩) (by decide) (by decide) d_M_readNumber_286
                            · -- 264: False
                              have c_264 : ¬ ((v : Int64) > 2147483647) := fun z => c_264 ((lg_cmp_gt _ _).mpr z)
                              refine lv_iconst (v := 1) hx hb d_M_readNumber_267 (by decide) ?_
                              refine lv_goto (tgt := 272) hx hb d_M_readNumber_268 (by decide) ?_
                              refine lv_istore (lv' := [(9, .int 1), (10, .long v), (0, .ref mo), (1, .int ty), (2, .int (nI p)), (3, .int (zb mi)), (4, .int (nI p1)), (5, .long v)]) hx hb d_M_readNumber_272 hl (by decide) rfl (fun ls hl => ?_)
                              refine lv_iload hx hb d_M_readNumber_274 (lv_at hl 0 rfl) ?_
                              refine lv_if_ne (tgt := 284) hx hb d_M_readNumber_276 (by decide) (fun c_276 => ?_) (fun c_276 => ?_)
                              · -- 276: True
                                refine lv_lload hx hb d_M_readNumber_284 (lv_at hl 1 rfl) ?_
                                exact z_lret hx hb hr hlocks hw (by have eR : resN X = i1 := (hI.elim (fun z => by rw [show X = .inr (v, p1 + k) from (hF z.2).trans ((if_pos (by rw [c_246, decide_eq_false (show ¬ ¬ ty = 1 from fun z => z (by simpa using c_241)), Bool.false_or, if_pos c_226, decide_eq_true (Int64.not_lt.mp c_255), decide_eq_true (Int64.not_lt.mp c_264)]; rfl)).trans (by rw [if_pos (show mi = true from c_226)])), z.1]; rfl) (fun z => by obtain ⟨F, z1, z2, z3, z4⟩ := z; rw [z3, z1]; rfl)); exact ⟨kk79, p1 + k, v, rfl, by rw [eR]; exact L79_mo, by omega, by omega, fun y => hI.elim (fun z => (hF z.2).trans ((if_pos (by rw [c_246, decide_eq_false (show ¬ ¬ ty = 1 from fun z => z (by simpa using c_241)), Bool.false_or, if_pos c_226, decide_eq_true (Int64.not_lt.mp c_255), decide_eq_true (Int64.not_lt.mp c_264)]; rfl)).trans (by rw [if_pos (show mi = true from c_226)]))) (fun z => by obtain ⟨F, z1, z2, z3, z4⟩ := z; rw [eR, z1] at y; exact absurd y (nI_ne1 (by omega)))⟩) (by decide) (by decide) d_M_readNumber_286
                              · -- 276: False
                                exact absurd c_276 (by decide)
                refine lv_iload hx hb d_M_readNumber_180 (lv_at hl 6 rfl) ?_
                refine lv_if_ne (tgt := 222) hx hb d_M_readNumber_182 (by decide) (fun c_182 => ?_) (fun c_182 => ?_)
                · -- 182: True
                  have c_182 : fa9 = true := zb_t c_182
                  refine lv_iconst (v := 0) hx hb d_M_readNumber_222 (by decide) ?_
                  refine lv_istore (lv' := [(9, .int 0), (0, .ref mo), (1, .int ty), (2, .int (nI p)), (3, .int (zb mi)), (4, .int (nI p1)), (5, .long v), (7, .int (zb fa9)), (8, .int (zb zr))]) hx hb d_M_readNumber_223 hl (by decide) rfl (fun ls hl => ?_)
                  exact loop_225 (0 + 1) false  _ _ _  (by rw [c_182]; rfl) (by omega) hw (lv_sub hl [1, 2, 3, 4, 5, 6, 0] rfl)
                · -- 182: False
                  have c_182 : fa9 = false := zb_f c_182
                  refine lv_iload hx hb d_M_readNumber_185 (lv_at hl 7 rfl) ?_
                  refine lv_if_eq (tgt := 205) hx hb d_M_readNumber_187 (by decide) (fun c_187 => ?_) (fun c_187 => ?_)
                  · -- 187: True
                    have c_187 : zr = false := zb_f c_187
                    refine lv_iload_n hx hb d_M_readNumber_205 rfl (lv_at hl 3 rfl) ?_
                    refine lv_if_ne (tgt := 218) hx hb d_M_readNumber_206 (by decide) (fun c_206 => ?_) (fun c_206 => ?_)
                    · -- 206: True
                      have c_206 : mi = true := zb_t c_206
                      refine lv_iconst (v := 1) hx hb d_M_readNumber_218 (by decide) ?_
                      refine lv_goto (tgt := 223) hx hb d_M_readNumber_219 (by decide) ?_
                      refine lv_istore (lv' := [(9, .int 1), (0, .ref mo), (1, .int ty), (2, .int (nI p)), (3, .int (zb mi)), (4, .int (nI p1)), (5, .long v), (7, .int (zb fa9)), (8, .int (zb zr))]) hx hb d_M_readNumber_223 hl (by decide) rfl (fun ls hl => ?_)
                      exact loop_225 (0 + 1) true  _ _ _  (by rw [c_182, c_187, c_206]; rfl) (by omega) hw (lv_sub hl [1, 2, 3, 4, 5, 6, 0] rfl)
                    · -- 206: False
                      have c_206 : mi = false := zb_f c_206
                      refine lv_lload hx hb d_M_readNumber_209 (lv_at hl 5 rfl) ?_
                      refine lv_ldc2 hx hb hown (hts _ (z_in k_1010 rfl)) d_M_readNumber_211 ?_
                      refine W.lcmp hx hb d_M_readNumber_214 ?_
                      refine lv_if_eq (tgt := 222) hx hb d_M_readNumber_215 (by decide) (fun c_215 => ?_) (fun c_215 => ?_)
                      · -- 215: True
                        have c_215 : (v : Int64) = (-9223372036854775808) := (lg_cmp_eq _ _).mp c_215
                        refine lv_iconst (v := 0) hx hb d_M_readNumber_222 (by decide) ?_
                        refine lv_istore (lv' := [(9, .int 0), (0, .ref mo), (1, .int ty), (2, .int (nI p)), (3, .int (zb mi)), (4, .int (nI p1)), (5, .long v), (7, .int (zb fa9)), (8, .int (zb zr))]) hx hb d_M_readNumber_223 hl (by decide) rfl (fun ls hl => ?_)
                        exact loop_225 (0 + 1) false  _ _ _  (by rw [c_182, c_187, c_206, decide_eq_false (show ¬ ¬ v = -9223372036854775808 from fun z => z c_215)]; rfl) (by omega) hw (lv_sub hl [1, 2, 3, 4, 5, 6, 0] rfl)
                      · -- 215: False
                        have c_215 : ¬ ((v : Int64) = (-9223372036854775808)) := fun z => c_215 ((lg_cmp_eq _ _).mpr z)
                        refine lv_iconst (v := 1) hx hb d_M_readNumber_218 (by decide) ?_
                        refine lv_goto (tgt := 223) hx hb d_M_readNumber_219 (by decide) ?_
                        refine lv_istore (lv' := [(9, .int 1), (0, .ref mo), (1, .int ty), (2, .int (nI p)), (3, .int (zb mi)), (4, .int (nI p1)), (5, .long v), (7, .int (zb fa9)), (8, .int (zb zr))]) hx hb d_M_readNumber_223 hl (by decide) rfl (fun ls hl => ?_)
                        exact loop_225 (0 + 1) true  _ _ _  (by rw [c_182, c_187, c_206, decide_eq_true (show ¬ v = -9223372036854775808 from c_215)]; rfl) (by omega) hw (lv_sub hl [1, 2, 3, 4, 5, 6, 0] rfl)
                  · -- 187: False
                    have c_187 : zr = true := zb_t c_187
                    refine lv_aload_n hx hb d_M_readNumber_190 rfl (lv_at hl 0 rfl) ?_
                    refine z_get hx hb hts (z_lay i_M) hown hK hw L79_mo rfl 29 (by decide) (z_in k_800 rfl) (fun _ h9 => h9) rfl d_M_readNumber_191 ?_
                    refine lv_iload hx hb d_M_readNumber_194 (lv_at hl 4 rfl) ?_
                    refine lv_iconst (v := 1) hx hb d_M_readNumber_196 (by decide) ?_
                    refine lv_iadd hx hb d_M_readNumber_197 ?_
                    refine z_topi (y := nI (p1 + 1)) (nI_add p1 1) ?_
                    refine lv_icmp_ne (tgt := 222) hx hb d_M_readNumber_198 (by decide) (fun c_198 => ?_) (fun c_198 => ?_)
                    · -- 198: True
                      have c_198 : ¬ ((p1 + k) = (p1 + 1)) := fun z => c_198 ((nI_eq (a := p1 + k) (b := p1 + 1) (by omega) (by omega)).mpr z)
                      refine lv_iconst (v := 0) hx hb d_M_readNumber_222 (by decide) ?_
                      refine lv_istore (lv' := [(9, .int 0), (0, .ref mo), (1, .int ty), (2, .int (nI p)), (3, .int (zb mi)), (4, .int (nI p1)), (5, .long v), (7, .int (zb fa9)), (8, .int (zb zr))]) hx hb d_M_readNumber_223 hl (by decide) rfl (fun ls hl => ?_)
                      exact loop_225 (0 + 1) false  _ _ _  (by rw [c_182, c_187, decide_eq_false (show ¬ k = 1 by omega)]; rfl) (by omega) hw (lv_sub hl [1, 2, 3, 4, 5, 6, 0] rfl)
                    · -- 198: False
                      have c_198 : (p1 + k) = (p1 + 1) := (nI_eq (a := p1 + k) (b := p1 + 1) (by omega) (by omega)).mp c_198
                      refine lv_iload_n hx hb d_M_readNumber_201 rfl (lv_at hl 3 rfl) ?_
                      refine lv_if_ne (tgt := 222) hx hb d_M_readNumber_202 (by decide) (fun c_202 => ?_) (fun c_202 => ?_)
                      · -- 202: True
                        have c_202 : mi = true := zb_t c_202
                        refine lv_iconst (v := 0) hx hb d_M_readNumber_222 (by decide) ?_
                        refine lv_istore (lv' := [(9, .int 0), (0, .ref mo), (1, .int ty), (2, .int (nI p)), (3, .int (zb mi)), (4, .int (nI p1)), (5, .long v), (7, .int (zb fa9)), (8, .int (zb zr))]) hx hb d_M_readNumber_223 hl (by decide) rfl (fun ls hl => ?_)
                        exact loop_225 (0 + 1) false  _ _ _  (by rw [c_182, c_187, decide_eq_true (show k = 1 by omega), c_202]; rfl) (by omega) hw (lv_sub hl [1, 2, 3, 4, 5, 6, 0] rfl)
                      · -- 202: False
                        have c_202 : mi = false := zb_f c_202
                        refine lv_iload_n hx hb d_M_readNumber_205 rfl (lv_at hl 3 rfl) ?_
                        refine lv_if_ne (tgt := 218) hx hb d_M_readNumber_206 (by decide) (fun c_206 => ?_) (fun c_206 => ?_)
                        · -- 206: True
                          have c_206 : mi = true := zb_t c_206
                          exact absurd (c_206.symm.trans c_202) (by decide)
                        · -- 206: False
                          have c_206 : mi = false := zb_f c_206
                          refine lv_lload hx hb d_M_readNumber_209 (lv_at hl 5 rfl) ?_
                          refine lv_ldc2 hx hb hown (hts _ (z_in k_1010 rfl)) d_M_readNumber_211 ?_
                          refine W.lcmp hx hb d_M_readNumber_214 ?_
                          refine lv_if_eq (tgt := 222) hx hb d_M_readNumber_215 (by decide) (fun c_215 => ?_) (fun c_215 => ?_)
                          · -- 215: True
                            have c_215 : (v : Int64) = (-9223372036854775808) := (lg_cmp_eq _ _).mp c_215
                            refine lv_iconst (v := 0) hx hb d_M_readNumber_222 (by decide) ?_
                            refine lv_istore (lv' := [(9, .int 0), (0, .ref mo), (1, .int ty), (2, .int (nI p)), (3, .int (zb mi)), (4, .int (nI p1)), (5, .long v), (7, .int (zb fa9)), (8, .int (zb zr))]) hx hb d_M_readNumber_223 hl (by decide) rfl (fun ls hl => ?_)
                            exact loop_225 (0 + 1) false  _ _ _  (by rw [c_182, c_187, decide_eq_true (show k = 1 by omega), c_206, decide_eq_false (show ¬ ¬ v = -9223372036854775808 from fun z => z c_215)]; rfl) (by omega) hw (lv_sub hl [1, 2, 3, 4, 5, 6, 0] rfl)
                          · -- 215: False
                            have c_215 : ¬ ((v : Int64) = (-9223372036854775808)) := fun z => c_215 ((lg_cmp_eq _ _).mpr z)
                            refine lv_iconst (v := 1) hx hb d_M_readNumber_218 (by decide) ?_
                            refine lv_goto (tgt := 223) hx hb d_M_readNumber_219 (by decide) ?_
                            refine lv_istore (lv' := [(9, .int 1), (0, .ref mo), (1, .int ty), (2, .int (nI p)), (3, .int (zb mi)), (4, .int (nI p1)), (5, .long v), (7, .int (zb fa9)), (8, .int (zb zr))]) hx hb d_M_readNumber_223 hl (by decide) rfl (fun ls hl => ?_)
                            exact loop_225 (0 + 1) true  _ _ _  (by rw [c_182, c_187, decide_eq_true (show k = 1 by omega), c_206, decide_eq_true (show ¬ v = -9223372036854775808 from c_215)]; rfl) (by omega) hw (lv_sub hl [1, 2, 3, 4, 5, 6, 0] rfl)
            refine lv_aload_n hx hb d_M_readNumber_152 rfl (lv_at hl 0 rfl) ?_
            refine z_get hx hb hts (z_lay i_M) hown hK hw L79_mo rfl 29 (by decide) (z_in k_800 rfl) (fun _ h9 => h9) rfl d_M_readNumber_153 ?_
            refine lv_iload hx hb d_M_readNumber_156 (lv_at hl 4 rfl) ?_
            refine lv_icmp_le (tgt := 177) hx hb d_M_readNumber_158 (by decide) (fun c_158 => ?_) (fun c_158 => ?_)
            · -- 158: True
              have c_158 : (p1 + k) ≤ p1 := (nI_leI (a := p1 + k) (b := p1) (by omega) (by omega)).mp c_158
              refine lv_iconst (v := 0) hx hb d_M_readNumber_177 (by decide) ?_
              refine lv_istore (lv' := [(8, .int 0), (0, .ref mo), (1, .int ty), (2, .int (nI p)), (3, .int (zb mi)), (4, .int (nI p1)), (5, .long v), (7, .int (zb fa9))]) hx hb d_M_readNumber_178 hl (by decide) rfl (fun ls hl => ?_)
              exact loop_180 (0 + 1) false  _ _ _  (by rw [decide_eq_false (show ¬ 0 < k by omega)]; rfl) (by omega) hw (lv_sub hl [1, 2, 3, 4, 5, 6, 7, 0] rfl)
            · -- 158: False
              have c_158 : ¬ ((p1 + k) ≤ p1) := fun z => c_158 ((nI_leI (a := p1 + k) (b := p1) (by omega) (by omega)).mpr z)
              have t161 := (hf p1 (by omega)).1
              refine lv_aload_n hx hb d_M_readNumber_161 rfl (lv_at hl 0 rfl) ?_
              refine z_get hx hb hts (z_lay i_M) hown hK hw L79_mo rfl 2 (by decide) (z_in k_773 rfl) (fun _ h9 => h9) rfl d_M_readNumber_162 ?_
              refine lv_iload hx hb d_M_readNumber_165 (lv_at hl 4 rfl) ?_
              refine z_iald hx hb hK hw L79_ma_1 1 rfl (vp_in_nI (by omega) (by omega)) d_M_readNumber_167 ?_
              refine z_topi (y := f p1) (by rw [nI_clamp (by omega)]) ?_
              refine z_top (y := .int (nI (t p1))) (by rw [(hf p1 (by omega)).2]) ?_
              refine lv_bipush (v := 48) hx hb d_M_readNumber_168 (by decide) ?_
              refine lv_icmp_ne (tgt := 177) hx hb d_M_readNumber_170 (by decide) (fun c_170 => ?_) (fun c_170 => ?_)
              · -- 170: True
                have c_170 : ¬ ((t p1) = 48) := fun z => c_170 ((nI_eq (a := t p1) (b := 48) (by omega) (by omega)).mpr z)
                refine lv_iconst (v := 0) hx hb d_M_readNumber_177 (by decide) ?_
                refine lv_istore (lv' := [(8, .int 0), (0, .ref mo), (1, .int ty), (2, .int (nI p)), (3, .int (zb mi)), (4, .int (nI p1)), (5, .long v), (7, .int (zb fa9))]) hx hb d_M_readNumber_178 hl (by decide) rfl (fun ls hl => ?_)
                exact loop_180 (0 + 1) false  _ _ _  (by rw [decide_eq_true (show 0 < k by omega), decide_eq_false (show ¬ t p1 = 48 by omega)]; rfl) (by omega) hw (lv_sub hl [1, 2, 3, 4, 5, 6, 7, 0] rfl)
              · -- 170: False
                have c_170 : (t p1) = 48 := (nI_eq (a := t p1) (b := 48) (by omega) (by omega)).mp c_170
                refine lv_iconst (v := 1) hx hb d_M_readNumber_173 (by decide) ?_
                refine lv_goto (tgt := 178) hx hb d_M_readNumber_174 (by decide) ?_
                refine lv_istore (lv' := [(8, .int 1), (0, .ref mo), (1, .int ty), (2, .int (nI p)), (3, .int (zb mi)), (4, .int (nI p1)), (5, .long v), (7, .int (zb fa9))]) hx hb d_M_readNumber_178 hl (by decide) rfl (fun ls hl => ?_)
                exact loop_180 (0 + 1) true  _ _ _  (by rw [decide_eq_true (show 0 < k by omega), decide_eq_true (show t p1 = 48 by omega)]; rfl) (by omega) hw (lv_sub hl [1, 2, 3, 4, 5, 6, 7, 0] rfl)
          · -- 86: False
            have c_86 : (isDig (bt t n (p1 + k))) = true := zb_t c_86
            have d89 := (dig_bt (fun k hk => (hf k hk).1) c_86).1
            refine lv_aload_n hx hb d_M_readNumber_89 rfl (lv_at hl 0 rfl) ?_
            refine z_callV (n := 0) (As := []) (rest := []) ⟨hx, hb, hml, hown, hts⟩ (m_look (t := t) l g hL L79_mo L79_ma_1 hn hf (by omega)) (z_in k_889 rfl) (z_in k_7 rfl) (z_in k_886 rfl) (z_in k_888 rfl) (z_in ks_28 rfl) (by decide +kernel) ⟨by first | exact Nat.le_of_ble_eq_true rfl | (dsimp only; omega) | omega, by first | exact Nat.le_of_ble_eq_true rfl | (dsimp only; omega) | omega⟩ hK hE hw hA rfl L79_mo rfl hl.1 (Nat.le_of_ble_eq_true rfl) d_M_readNumber_90 ⟨by first | exact Nat.le_of_ble_eq_true rfl | (dsimp only; omega) | omega, by first | exact Nat.le_of_ble_eq_true rfl | (dsimp only; omega) | omega⟩ rfl (fun r9 h9 H locs hp hw => ?_)
            obtain ⟨r8, h8⟩ := hp
            subst r8
            subst h8
            refine W.eq (g2 := F0 m 93 ls [.int (bt t n (p1 + k))]) rfl ?_
            refine lv_bipush (v := 48) hx hb d_M_readNumber_93 (by decide) ?_
            refine lv_isub hx hb d_M_readNumber_95 ?_
            refine lv_istore (lv' := [(8, .int ((bt t n (p1 + k)) - 48)), (0, .ref mo), (1, .int ty), (2, .int (nI p)), (3, .int (zb mi)), (4, .int (nI p1)), (5, .long v), (7, .int (zb fa9))]) hx hb d_M_readNumber_96 hl (by decide) rfl (fun ls hl => ?_)
            refine lv_iload hx hb d_M_readNumber_98 (lv_at hl 7 rfl) ?_
            refine lv_if_ne (tgt := 120) hx hb d_M_readNumber_100 (by decide) (fun c_100 => ?_) (fun c_100 => ?_)
            · -- 100: True
              have c_100 : fa9 = true := zb_t c_100
              refine lv_iconst (v := 1) hx hb d_M_readNumber_120 (by decide) ?_
              refine lv_goto (tgt := 125) hx hb d_M_readNumber_121 (by decide) ?_
              refine lv_istore (lv' := [(7, .int 1), (8, .int ((bt t n (p1 + k)) - 48)), (0, .ref mo), (1, .int ty), (2, .int (nI p)), (3, .int (zb mi)), (4, .int (nI p1)), (5, .long v)]) hx hb d_M_readNumber_125 hl (by decide) rfl (fun ls hl => ?_)
              refine lv_ldc2 hx hb hown (hts _ (z_in k_1011 rfl)) d_M_readNumber_127 ?_
              refine lv_lload hx hb d_M_readNumber_130 (lv_at hl 7 rfl) ?_
              refine lv_lmul hx hb d_M_readNumber_132 ?_
              refine lv_iload hx hb d_M_readNumber_133 (lv_at hl 1 rfl) ?_
              refine lv_i2l hx hb d_M_readNumber_135 rfl ?_
              refine lv_lsub hx hb d_M_readNumber_136 ?_
              refine lv_lstore (lv' := [(5, .long ((10 * v) - (((bt t n (p1 + k)) - 48 : Int32).toInt64))), (7, .int 1), (8, .int ((bt t n (p1 + k)) - 48)), (0, .ref mo), (1, .int ty), (2, .int (nI p)), (3, .int (zb mi)), (4, .int (nI p1))]) hx hb d_M_readNumber_137 hl (by decide) rfl (fun ls hl => ?_)
              refine lv_aload_n hx hb d_M_readNumber_139 rfl (lv_at hl 3 rfl) ?_
              refine lv_dup hx hb d_M_readNumber_140 rfl ?_
              refine z_get hx hb hts (z_lay i_M) hown hK hw L79_mo rfl 29 (by decide) (z_in k_800 rfl) (fun _ h9 => h9) rfl d_M_readNumber_141 ?_
              refine lv_iconst (v := 1) hx hb d_M_readNumber_144 (by decide) ?_
              refine lv_iadd hx hb d_M_readNumber_145 ?_
              refine z_topi (y := nI ((p1 + k) + 1)) (nI_add (p1 + k) 1) ?_
              refine z_putf (ty := .int) hx hb hts (z_lay i_M) t_M t_M_ok n_M hown hK hw L79_mo rfl 29 (by decide) (z_in k_800 rfl) (fun _ h9 => h9) rfl (by decide +kernel) rfl rfl (Nat.le_of_ble_eq_true rfl) d_M_readNumber_146 (fun H locs hw => ?_)
              obtain ⟨h17, hh17⟩ : ∃ x9, z_put hL mo (20, 0) (.inr (11, mF ma cod tpd (nI n) fls cls9 ffl fcl nds sai ous (nI ((p1 + k) + 1)) i1)) = x9 := ⟨_, rfl⟩
              have hw : z_S g A s.heap h17 H locs := by rw [← hh17]; exact hw
              have f17_mo : h17 mo = some ((20, 0), .inr (11, mF ma cod tpd (nI n) fls cls9 ffl fcl nds sai ous (nI ((p1 + k) + 1)) i1)) := by rw [← hh17]; exact z_put_eq
              have f17_ma_1 : h17 (ma 1) = some ((22, 0), .inl (g.2.1 1, 4000, .inl f)) := by rw [← hh17]; exact z_keep L79_mo L79_ma_1 (z_t1 (by decide))
              have kk17 : z_K (fun y => y = 20) h h17 := kk79.tr (by rw [← hh17]; exact z_K.put L79_mo (by first | decide | simp | omega))
              refine lv_goto (tgt := 79) hx hb d_M_readNumber_149 (by decide) ?_
              refine ih_79 (k + 1) ((10 * v) - (((bt t n (p1 + k)) - 48 : Int32).toInt64)) true i1 h17 _ _ _ f17_mo f17_ma_1 (fun j hj => (Nat.lt_succ_iff_lt_or_eq.mp hj).elim (fun z => hdk j z) (fun z => by rw [z]; exact c_86)) (by omega) (far_up (fun k hk => (hf k hk).1) c_86 hfa (by rw [c_100]; rfl)) hI kk17 ?_ hw (lv_sub hl [3, 4, 5, 6, 7, 0, 1] rfl)
              omega
            · -- 100: False
              have c_100 : fa9 = false := zb_f c_100
              refine lv_lload hx hb d_M_readNumber_103 (lv_at hl 6 rfl) ?_
              refine lv_ldc2 hx hb hown (hts _ (z_in k_1010 rfl)) d_M_readNumber_105 ?_
              refine lv_iload hx hb d_M_readNumber_108 (lv_at hl 0 rfl) ?_
              refine lv_i2l hx hb d_M_readNumber_110 rfl ?_
              refine lv_ladd hx hb d_M_readNumber_111 ?_
              refine lv_ldc2 hx hb hown (hts _ (z_in k_1011 rfl)) d_M_readNumber_112 ?_
              refine lv_ldiv hx hb d_M_readNumber_115 (by decide) ?_
              refine W.lcmp hx hb d_M_readNumber_116 ?_
              refine lv_if_ge (tgt := 124) hx hb d_M_readNumber_117 (by decide) (fun c_117 => ?_) (fun c_117 => ?_)
              · -- 117: True
                have c_117 : (v : Int64) ≥ (((-9223372036854775808) + (((bt t n (p1 + k)) - 48 : Int32).toInt64)) / 10) := (lg_cmp_ge _ _).mp c_117
                refine lv_iconst (v := 0) hx hb d_M_readNumber_124 (by decide) ?_
                refine lv_istore (lv' := [(7, .int 0), (8, .int ((bt t n (p1 + k)) - 48)), (0, .ref mo), (1, .int ty), (2, .int (nI p)), (3, .int (zb mi)), (4, .int (nI p1)), (5, .long v)]) hx hb d_M_readNumber_125 hl (by decide) rfl (fun ls hl => ?_)
                refine lv_ldc2 hx hb hown (hts _ (z_in k_1011 rfl)) d_M_readNumber_127 ?_
                refine lv_lload hx hb d_M_readNumber_130 (lv_at hl 7 rfl) ?_
                refine lv_lmul hx hb d_M_readNumber_132 ?_
                refine lv_iload hx hb d_M_readNumber_133 (lv_at hl 1 rfl) ?_
                refine lv_i2l hx hb d_M_readNumber_135 rfl ?_
                refine lv_lsub hx hb d_M_readNumber_136 ?_
                refine lv_lstore (lv' := [(5, .long ((10 * v) - (((bt t n (p1 + k)) - 48 : Int32).toInt64))), (7, .int 0), (8, .int ((bt t n (p1 + k)) - 48)), (0, .ref mo), (1, .int ty), (2, .int (nI p)), (3, .int (zb mi)), (4, .int (nI p1))]) hx hb d_M_readNumber_137 hl (by decide) rfl (fun ls hl => ?_)
                refine lv_aload_n hx hb d_M_readNumber_139 rfl (lv_at hl 3 rfl) ?_
                refine lv_dup hx hb d_M_readNumber_140 rfl ?_
                refine z_get hx hb hts (z_lay i_M) hown hK hw L79_mo rfl 29 (by decide) (z_in k_800 rfl) (fun _ h9 => h9) rfl d_M_readNumber_141 ?_
                refine lv_iconst (v := 1) hx hb d_M_readNumber_144 (by decide) ?_
                refine lv_iadd hx hb d_M_readNumber_145 ?_
                refine z_topi (y := nI ((p1 + k) + 1)) (nI_add (p1 + k) 1) ?_
                refine z_putf (ty := .int) hx hb hts (z_lay i_M) t_M t_M_ok n_M hown hK hw L79_mo rfl 29 (by decide) (z_in k_800 rfl) (fun _ h9 => h9) rfl (by decide +kernel) rfl rfl (Nat.le_of_ble_eq_true rfl) d_M_readNumber_146 (fun H locs hw => ?_)
                obtain ⟨h18, hh18⟩ : ∃ x9, z_put hL mo (20, 0) (.inr (11, mF ma cod tpd (nI n) fls cls9 ffl fcl nds sai ous (nI ((p1 + k) + 1)) i1)) = x9 := ⟨_, rfl⟩
                have hw : z_S g A s.heap h18 H locs := by rw [← hh18]; exact hw
                have f18_mo : h18 mo = some ((20, 0), .inr (11, mF ma cod tpd (nI n) fls cls9 ffl fcl nds sai ous (nI ((p1 + k) + 1)) i1)) := by rw [← hh18]; exact z_put_eq
                have f18_ma_1 : h18 (ma 1) = some ((22, 0), .inl (g.2.1 1, 4000, .inl f)) := by rw [← hh18]; exact z_keep L79_mo L79_ma_1 (z_t1 (by decide))
                have kk18 : z_K (fun y => y = 20) h h18 := kk79.tr (by rw [← hh18]; exact z_K.put L79_mo (by first | decide | simp | omega))
                refine lv_goto (tgt := 79) hx hb d_M_readNumber_149 (by decide) ?_
                refine ih_79 (k + 1) ((10 * v) - (((bt t n (p1 + k)) - 48 : Int32).toInt64)) false i1 h18 _ _ _ f18_mo f18_ma_1 (fun j hj => (Nat.lt_succ_iff_lt_or_eq.mp hj).elim (fun z => hdk j z) (fun z => by rw [z]; exact c_86)) (by omega) (far_up (fun k hk => (hf k hk).1) c_86 hfa (by rw [c_100, Bool.false_or, decide_eq_false (fun z => absurd (show _ ≥ _ from c_117) (Int64.not_le.mpr z))])) hI kk18 ?_ hw (lv_sub hl [3, 4, 5, 6, 7, 0, 1] rfl)
                omega
              · -- 117: False
                have c_117 : ¬ ((v : Int64) ≥ (((-9223372036854775808) + (((bt t n (p1 + k)) - 48 : Int32).toInt64)) / 10)) := fun z => c_117 ((lg_cmp_ge _ _).mpr z)
                refine lv_iconst (v := 1) hx hb d_M_readNumber_120 (by decide) ?_
                refine lv_goto (tgt := 125) hx hb d_M_readNumber_121 (by decide) ?_
                refine lv_istore (lv' := [(7, .int 1), (8, .int ((bt t n (p1 + k)) - 48)), (0, .ref mo), (1, .int ty), (2, .int (nI p)), (3, .int (zb mi)), (4, .int (nI p1)), (5, .long v)]) hx hb d_M_readNumber_125 hl (by decide) rfl (fun ls hl => ?_)
                refine lv_ldc2 hx hb hown (hts _ (z_in k_1011 rfl)) d_M_readNumber_127 ?_
                refine lv_lload hx hb d_M_readNumber_130 (lv_at hl 7 rfl) ?_
                refine lv_lmul hx hb d_M_readNumber_132 ?_
                refine lv_iload hx hb d_M_readNumber_133 (lv_at hl 1 rfl) ?_
                refine lv_i2l hx hb d_M_readNumber_135 rfl ?_
                refine lv_lsub hx hb d_M_readNumber_136 ?_
                refine lv_lstore (lv' := [(5, .long ((10 * v) - (((bt t n (p1 + k)) - 48 : Int32).toInt64))), (7, .int 1), (8, .int ((bt t n (p1 + k)) - 48)), (0, .ref mo), (1, .int ty), (2, .int (nI p)), (3, .int (zb mi)), (4, .int (nI p1))]) hx hb d_M_readNumber_137 hl (by decide) rfl (fun ls hl => ?_)
                refine lv_aload_n hx hb d_M_readNumber_139 rfl (lv_at hl 3 rfl) ?_
                refine lv_dup hx hb d_M_readNumber_140 rfl ?_
                refine z_get hx hb hts (z_lay i_M) hown hK hw L79_mo rfl 29 (by decide) (z_in k_800 rfl) (fun _ h9 => h9) rfl d_M_readNumber_141 ?_
                refine lv_iconst (v := 1) hx hb d_M_readNumber_144 (by decide) ?_
                refine lv_iadd hx hb d_M_readNumber_145 ?_
                refine z_topi (y := nI ((p1 + k) + 1)) (nI_add (p1 + k) 1) ?_
                refine z_putf (ty := .int) hx hb hts (z_lay i_M) t_M t_M_ok n_M hown hK hw L79_mo rfl 29 (by decide) (z_in k_800 rfl) (fun _ h9 => h9) rfl (by decide +kernel) rfl rfl (Nat.le_of_ble_eq_true rfl) d_M_readNumber_146 (fun H locs hw => ?_)
                obtain ⟨h19, hh19⟩ : ∃ x9, z_put hL mo (20, 0) (.inr (11, mF ma cod tpd (nI n) fls cls9 ffl fcl nds sai ous (nI ((p1 + k) + 1)) i1)) = x9 := ⟨_, rfl⟩
                have hw : z_S g A s.heap h19 H locs := by rw [← hh19]; exact hw
                have f19_mo : h19 mo = some ((20, 0), .inr (11, mF ma cod tpd (nI n) fls cls9 ffl fcl nds sai ous (nI ((p1 + k) + 1)) i1)) := by rw [← hh19]; exact z_put_eq
                have f19_ma_1 : h19 (ma 1) = some ((22, 0), .inl (g.2.1 1, 4000, .inl f)) := by rw [← hh19]; exact z_keep L79_mo L79_ma_1 (z_t1 (by decide))
                have kk19 : z_K (fun y => y = 20) h h19 := kk79.tr (by rw [← hh19]; exact z_K.put L79_mo (by first | decide | simp | omega))
                refine lv_goto (tgt := 79) hx hb d_M_readNumber_149 (by decide) ?_
                refine ih_79 (k + 1) ((10 * v) - (((bt t n (p1 + k)) - 48 : Int32).toInt64)) true i1 h19 _ _ _ f19_mo f19_ma_1 (fun j hj => (Nat.lt_succ_iff_lt_or_eq.mp hj).elim (fun z => hdk j z) (fun z => by rw [z]; exact c_86)) (by omega) (far_up (fun k hk => (hf k hk).1) c_86 hfa (by rw [c_100, Bool.false_or, decide_eq_true (Int64.not_le.mp c_117)])) hI kk19 ?_ hw (lv_sub hl [3, 4, 5, 6, 7, 0, 1] rfl)
                omega
      refine lv_aload_n hx hb d_M_readNumber_34 rfl (lv_at hl 0 rfl) ?_
      refine z_callV (n := 0) (As := []) (rest := []) ⟨hx, hb, hml, hown, hts⟩ (m_look (t := t) l g hC L34_mo L34_ma_1 hn hf (by omega)) (z_in k_889 rfl) (z_in k_7 rfl) (z_in k_886 rfl) (z_in k_888 rfl) (z_in ks_28 rfl) (by decide +kernel) ⟨by first | exact Nat.le_of_ble_eq_true rfl | (dsimp only; omega) | omega, by first | exact Nat.le_of_ble_eq_true rfl | (dsimp only; omega) | omega⟩ hK hE hw hA rfl L34_mo rfl hl.1 (Nat.le_of_ble_eq_true rfl) d_M_readNumber_35 ⟨by first | exact Nat.le_of_ble_eq_true rfl | (dsimp only; omega) | omega, by first | exact Nat.le_of_ble_eq_true rfl | (dsimp only; omega) | omega⟩ rfl (fun r9 h9 H locs hp hw => ?_)
      obtain ⟨r8, h8⟩ := hp
      subst r8
      subst h8
      refine W.eq (g2 := F0 m 38 ls [.int (bt t n p1)]) rfl ?_
      refine z_callS (n := 1) (As := [.int (bt t n p1)]) (rest := []) ⟨hx, hb, hml, hown, hts⟩ (m_isDigit l g hC) (z_in k_908 rfl) (z_in k_7 rfl) (z_in k_906 rfl) (z_in k_907 rfl) (by decide +kernel) ⟨by first | exact Nat.le_of_ble_eq_true rfl | (dsimp only; omega) | omega, by first | exact Nat.le_of_ble_eq_true rfl | (dsimp only; omega) | omega⟩ hK hE hw hA rfl hl.1 (Nat.le_of_ble_eq_true rfl) d_M_readNumber_38 ⟨by first | exact Nat.le_of_ble_eq_true rfl | (dsimp only; omega) | omega, by first | exact Nat.le_of_ble_eq_true rfl | (dsimp only; omega) | omega⟩ rfl (fun r9 h9 H locs hp hw => ?_)
      obtain ⟨r8, h8⟩ := hp
      subst r8
      subst h8
      refine W.eq (g2 := F0 m 41 ls [.int (zb (isDig (bt t n p1)))]) rfl ?_
      refine lv_if_ne (tgt := 67) hx hb d_M_readNumber_41 (by decide) (fun c_41 => ?_) (fun c_41 => ?_)
      · -- 41: True
        have c_41 : (isDig (bt t n p1)) = true := zb_t c_41
        refine lv_aload_n hx hb d_M_readNumber_67 rfl (lv_at hl 0 rfl) ?_
        refine z_get hx hb hts (z_lay i_M) hown hK hw L34_mo rfl 29 (by decide) (z_in k_800 rfl) (fun _ h9 => h9) rfl d_M_readNumber_68 ?_
        refine lv_istore (lv' := [(4, .int (nI p1)), (0, .ref mo), (1, .int ty), (2, .int (nI p)), (3, .int (zb mi))]) hx hb d_M_readNumber_71 hl (by decide) rfl (fun ls hl => ?_)
        refine lv_lconst (v := 0) hx hb d_M_readNumber_73 (by decide) ?_
        refine lv_lstore (lv' := [(5, .long 0), (4, .int (nI p1)), (0, .ref mo), (1, .int ty), (2, .int (nI p)), (3, .int (zb mi))]) hx hb d_M_readNumber_74 hl (by decide) rfl (fun ls hl => ?_)
        refine lv_iconst (v := 0) hx hb d_M_readNumber_76 (by decide) ?_
        refine lv_istore (lv' := [(7, .int 0), (5, .long 0), (4, .int (nI p1)), (0, .ref mo), (1, .int ty), (2, .int (nI p)), (3, .int (zb mi))]) hx hb d_M_readNumber_77 hl (by decide) rfl (fun ls hl => ?_)
        exact loop_79 (n - 0 + 1) 0 0 false (-1) hC _ _ _ L34_mo L34_ma_1 (fun j hj => absurd hj (Nat.not_lt_zero _)) (by omega) (⟨rfl, fun _ => rfl⟩) (Or.inl ⟨rfl, c_41⟩) kk34 (by omega) hw (lv_sub hl [3, 4, 5, 6, 2, 1, 0] rfl)
      · -- 41: False
        have c_41 : (isDig (bt t n p1)) = false := zb_f c_41
        refine lv_aload_n hx hb d_M_readNumber_44 rfl (lv_at hl 0 rfl) ?_
        refine lv_aload_n hx hb d_M_readNumber_45 rfl (lv_at hl 0 rfl) ?_
        refine z_get hx hb hts (z_lay i_M) hown hK hw L34_mo rfl 29 (by decide) (z_in k_800 rfl) (fun _ h9 => h9) rfl d_M_readNumber_46 ?_
        refine lv_aload_n hx hb d_M_readNumber_49 rfl (lv_at hl 0 rfl) ?_
        refine z_get hx hb hts (z_lay i_M) hown hK hw L34_mo rfl 4 (by decide) (z_in k_775 rfl) (fun _ h9 => h9) rfl d_M_readNumber_50 ?_
        refine lv_icmp_ne (tgt := 63) hx hb d_M_readNumber_53 (by decide) (fun c_53 => ?_) (fun c_53 => ?_)
        · -- 53: True
          have c_53 : ¬ (p1 = n) := fun z => c_53 ((nI_eq (a := p1) (b := n) (by omega) (by omega)).mpr z)
          refine lv_iload_n hx hb d_M_readNumber_63 rfl (lv_at hl 2 rfl) ?_
          refine z_callV (n := 1) (As := [.int (nI p)]) (rest := []) ⟨hx, hb, hml, hown, hts⟩ (m_fail l g hC L34_mo) (z_in k_914 rfl) (z_in k_7 rfl) (z_in k_911 rfl) (z_in k_913 rfl) (z_in ks_32 rfl) (by decide +kernel) ⟨by first | exact Nat.le_of_ble_eq_true rfl | (dsimp only; omega) | omega, by first | exact Nat.le_of_ble_eq_true rfl | (dsimp only; omega) | omega⟩ hK hE hw hA rfl L34_mo rfl hl.1 (Nat.le_of_ble_eq_true rfl) d_M_readNumber_64 ⟨by first | exact Nat.le_of_ble_eq_true rfl | (dsimp only; omega) | omega, by first | exact Nat.le_of_ble_eq_true rfl | (dsimp only; omega) | omega⟩ rfl (fun r9 h9 H locs hp hw => ?_)
          obtain ⟨r8, hh20⟩ := hp
          subst r8
          obtain ⟨h20, e8⟩ : ∃ x9, x9 = h9 := ⟨_, rfl⟩
          subst e8
          have f20_mo : h20 mo = some ((20, 0), .inr (11, mF ma cod tpd (nI n) fls cls9 ffl fcl nds sai ous (nI p1) (nI p))) := by rw [← hh20]; exact z_put_eq
          have f20_ma_1 : h20 (ma 1) = some ((22, 0), .inl (g.2.1 1, 4000, .inl f)) := by rw [← hh20]; exact z_keep L34_mo L34_ma_1 (z_t1 (by decide))
          have kk20 : z_K (fun y => y = 20) h h20 := kk34.tr (by rw [← hh20]; exact z_K.put L34_mo (by first | decide | simp | omega))
          refine W.eq (g2 := F0 m 67 ls []) rfl ?_
          refine lv_aload_n hx hb d_M_readNumber_67 rfl (lv_at hl 0 rfl) ?_
          refine z_get hx hb hts (z_lay i_M) hown hK hw f20_mo rfl 29 (by decide) (z_in k_800 rfl) (fun _ h9 => h9) rfl d_M_readNumber_68 ?_
          refine lv_istore (lv' := [(4, .int (nI p1)), (0, .ref mo), (1, .int ty), (2, .int (nI p)), (3, .int (zb mi))]) hx hb d_M_readNumber_71 hl (by decide) rfl (fun ls hl => ?_)
          refine lv_lconst (v := 0) hx hb d_M_readNumber_73 (by decide) ?_
          refine lv_lstore (lv' := [(5, .long 0), (4, .int (nI p1)), (0, .ref mo), (1, .int ty), (2, .int (nI p)), (3, .int (zb mi))]) hx hb d_M_readNumber_74 hl (by decide) rfl (fun ls hl => ?_)
          refine lv_iconst (v := 0) hx hb d_M_readNumber_76 (by decide) ?_
          refine lv_istore (lv' := [(7, .int 0), (5, .long 0), (4, .int (nI p1)), (0, .ref mo), (1, .int ty), (2, .int (nI p)), (3, .int (zb mi))]) hx hb d_M_readNumber_77 hl (by decide) rfl (fun ls hl => ?_)
          exact loop_79 (n - 0 + 1) 0 0 false (nI p) h20 _ _ _ f20_mo f20_ma_1 (fun j hj => absurd hj (Nat.not_lt_zero _)) (by omega) (⟨rfl, fun _ => rfl⟩) (Or.inr ⟨p, rfl, by omega, by rw [hmi]; unfold numN; rw [if_neg (by rw [c_41]; decide), if_neg (show ¬ bt t n p1 = -1 from fun z => by have := (bt_end (fun k hk => (hf k hk).1)).mp z; omega)], c_41⟩) kk20 (by omega) hw (lv_sub hl [3, 4, 5, 6, 2, 1, 0] rfl)
        · -- 53: False
          have c_53 : p1 = n := (nI_eq (a := p1) (b := n) (by omega) (by omega)).mp c_53
          refine lv_aload_n hx hb d_M_readNumber_56 rfl (lv_at hl 0 rfl) ?_
          refine z_get hx hb hts (z_lay i_M) hown hK hw L34_mo rfl 4 (by decide) (z_in k_775 rfl) (fun _ h9 => h9) rfl d_M_readNumber_57 ?_
          refine lv_goto (tgt := 64) hx hb d_M_readNumber_60 (by decide) ?_
          refine z_callV (n := 1) (As := [.int (nI n)]) (rest := []) ⟨hx, hb, hml, hown, hts⟩ (m_fail l g hC L34_mo) (z_in k_914 rfl) (z_in k_7 rfl) (z_in k_911 rfl) (z_in k_913 rfl) (z_in ks_32 rfl) (by decide +kernel) ⟨by first | exact Nat.le_of_ble_eq_true rfl | (dsimp only; omega) | omega, by first | exact Nat.le_of_ble_eq_true rfl | (dsimp only; omega) | omega⟩ hK hE hw hA rfl L34_mo rfl hl.1 (Nat.le_of_ble_eq_true rfl) d_M_readNumber_64 ⟨by first | exact Nat.le_of_ble_eq_true rfl | (dsimp only; omega) | omega, by first | exact Nat.le_of_ble_eq_true rfl | (dsimp only; omega) | omega⟩ rfl (fun r9 h9 H locs hp hw => ?_)
          obtain ⟨r8, hh21⟩ := hp
          subst r8
          obtain ⟨h21, e8⟩ : ∃ x9, x9 = h9 := ⟨_, rfl⟩
          subst e8
          have f21_mo : h21 mo = some ((20, 0), .inr (11, mF ma cod tpd (nI n) fls cls9 ffl fcl nds sai ous (nI p1) (nI n))) := by rw [← hh21]; exact z_put_eq
          have f21_ma_1 : h21 (ma 1) = some ((22, 0), .inl (g.2.1 1, 4000, .inl f)) := by rw [← hh21]; exact z_keep L34_mo L34_ma_1 (z_t1 (by decide))
          have kk21 : z_K (fun y => y = 20) h h21 := kk34.tr (by rw [← hh21]; exact z_K.put L34_mo (by first | decide | simp | omega))
          refine W.eq (g2 := F0 m 67 ls []) rfl ?_
          refine lv_aload_n hx hb d_M_readNumber_67 rfl (lv_at hl 0 rfl) ?_
          refine z_get hx hb hts (z_lay i_M) hown hK hw f21_mo rfl 29 (by decide) (z_in k_800 rfl) (fun _ h9 => h9) rfl d_M_readNumber_68 ?_
          refine lv_istore (lv' := [(4, .int (nI p1)), (0, .ref mo), (1, .int ty), (2, .int (nI p)), (3, .int (zb mi))]) hx hb d_M_readNumber_71 hl (by decide) rfl (fun ls hl => ?_)
          refine lv_lconst (v := 0) hx hb d_M_readNumber_73 (by decide) ?_
          refine lv_lstore (lv' := [(5, .long 0), (4, .int (nI p1)), (0, .ref mo), (1, .int ty), (2, .int (nI p)), (3, .int (zb mi))]) hx hb d_M_readNumber_74 hl (by decide) rfl (fun ls hl => ?_)
          refine lv_iconst (v := 0) hx hb d_M_readNumber_76 (by decide) ?_
          refine lv_istore (lv' := [(7, .int 0), (5, .long 0), (4, .int (nI p1)), (0, .ref mo), (1, .int ty), (2, .int (nI p)), (3, .int (zb mi))]) hx hb d_M_readNumber_77 hl (by decide) rfl (fun ls hl => ?_)
          exact loop_79 (n - 0 + 1) 0 0 false (nI n) h21 _ _ _ f21_mo f21_ma_1 (fun j hj => absurd hj (Nat.not_lt_zero _)) (by omega) (⟨rfl, fun _ => rfl⟩) (Or.inr ⟨n, rfl, by omega, by rw [hmi]; unfold numN; rw [if_neg (by rw [c_41]; decide), if_pos (show bt t n p1 = -1 from bt_out (by omega))]; exact congrArg Sum.inl (by omega), c_41⟩) kk21 (by omega) hw (lv_sub hl [3, 4, 5, 6, 2, 1, 0] rfl)
  refine lv_aload_n hx hb d_M_readNumber_5 rfl (lv_at hl 1 rfl) ?_
  refine z_callV (n := 0) (As := []) (rest := []) ⟨hx, hb, hml, hown, hts⟩ (m_look (t := t) l g h hmo htx hn hf (by omega)) (z_in k_889 rfl) (z_in k_7 rfl) (z_in k_886 rfl) (z_in k_888 rfl) (z_in ks_28 rfl) (by decide +kernel) ⟨by first | exact Nat.le_of_ble_eq_true rfl | (dsimp only; omega) | omega, by first | exact Nat.le_of_ble_eq_true rfl | (dsimp only; omega) | omega⟩ hK hE hw hA rfl hmo rfl hl.1 (Nat.le_of_ble_eq_true rfl) d_M_readNumber_6 ⟨by first | exact Nat.le_of_ble_eq_true rfl | (dsimp only; omega) | omega, by first | exact Nat.le_of_ble_eq_true rfl | (dsimp only; omega) | omega⟩ rfl (fun r9 h9 H locs hp hw => ?_)
  obtain ⟨r8, h8⟩ := hp
  subst r8
  subst h8
  refine W.eq (g2 := F0 m 9 ls [.int (bt t n p)]) rfl ?_
  refine lv_bipush (v := 45) hx hb d_M_readNumber_9 (by decide) ?_
  refine lv_icmp_ne (tgt := 18) hx hb d_M_readNumber_11 (by decide) (fun c_11 => ?_) (fun c_11 => ?_)
  · -- 11: True
    refine lv_iconst (v := 0) hx hb d_M_readNumber_18 (by decide) ?_
    refine lv_istore_n (lv' := [(3, .int 0), (2, .int (nI p)), (0, .ref mo), (1, .int ty)]) hx hb d_M_readNumber_19 rfl hl (by decide) rfl (fun ls hl => ?_)
    refine lv_iload_n hx hb d_M_readNumber_20 rfl (lv_at hl 0 rfl) ?_
    refine lv_if_eq (tgt := 34) hx hb d_M_readNumber_21 (by decide) (fun c_21 => ?_) (fun c_21 => ?_)
    · -- 21: True
      exact loop_34 (0 + 1) false p h _ _ _ hmo htx (by rw [eX]; unfold numR; rw [if_neg c_11]) (⟨by omega, by omega⟩) kk0 (by omega) hw (lv_sub hl [2, 3, 1, 0] rfl)
    · -- 21: False
      exact absurd (by decide) c_21
  · -- 11: False
    refine lv_iconst (v := 1) hx hb d_M_readNumber_14 (by decide) ?_
    refine lv_goto (tgt := 19) hx hb d_M_readNumber_15 (by decide) ?_
    refine lv_istore_n (lv' := [(3, .int 1), (2, .int (nI p)), (0, .ref mo), (1, .int ty)]) hx hb d_M_readNumber_19 rfl hl (by decide) rfl (fun ls hl => ?_)
    refine lv_iload_n hx hb d_M_readNumber_20 rfl (lv_at hl 0 rfl) ?_
    refine lv_if_eq (tgt := 34) hx hb d_M_readNumber_21 (by decide) (fun c_21 => ?_) (fun c_21 => ?_)
    · -- 21: True
      exact absurd c_21 (by decide)
    · -- 21: False
      have l24 := bt_lt (c := 45) (show bt t n p = 45 by simpa using c_11)
      refine lv_aload_n hx hb d_M_readNumber_24 rfl (lv_at hl 2 rfl) ?_
      refine lv_dup hx hb d_M_readNumber_25 rfl ?_
      refine z_get hx hb hts (z_lay i_M) hown hK hw hmo rfl 29 (by decide) (z_in k_800 rfl) (fun _ h9 => h9) rfl d_M_readNumber_26 ?_
      refine lv_iconst (v := 1) hx hb d_M_readNumber_29 (by decide) ?_
      refine lv_iadd hx hb d_M_readNumber_30 ?_
      refine z_topi (y := nI (p + 1)) (nI_add p 1) ?_
      refine z_putf (ty := .int) hx hb hts (z_lay i_M) t_M t_M_ok n_M hown hK hw hmo rfl 29 (by decide) (z_in k_800 rfl) (fun _ h9 => h9) rfl (by decide +kernel) rfl rfl (Nat.le_of_ble_eq_true rfl) d_M_readNumber_31 (fun H locs hw => ?_)
      obtain ⟨h22, hh22⟩ : ∃ x9, z_put h mo (20, 0) (.inr (11, mF ma cod tpd (nI n) fls cls9 ffl fcl nds sai ous (nI (p + 1)) (-1))) = x9 := ⟨_, rfl⟩
      have hw : z_S g A s.heap h22 H locs := by rw [← hh22]; exact hw
      have f22_mo : h22 mo = some ((20, 0), .inr (11, mF ma cod tpd (nI n) fls cls9 ffl fcl nds sai ous (nI (p + 1)) (-1))) := by rw [← hh22]; exact z_put_eq
      have f22_ma_1 : h22 (ma 1) = some ((22, 0), .inl (g.2.1 1, 4000, .inl f)) := by rw [← hh22]; exact z_keep hmo htx (z_t1 (by decide))
      have kk22 : z_K (fun y => y = 20) h h22 := kk0.tr (by rw [← hh22]; exact z_K.put hmo (by first | decide | simp | omega))
      exact loop_34 (0 + 1) true (p + 1) h22 _ _ _ f22_mo f22_ma_1 (by rw [eX]; unfold numR; rw [if_pos (show bt t n p = 45 by simpa using c_11)]) (⟨by omega, by omega⟩) kk22 (by omega) hw (lv_sub hl [2, 3, 1, 0] rfl)

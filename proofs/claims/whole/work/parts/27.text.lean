theorem zh_no : zh (-1) = -1 := by decide
theorem zh_ok : ∀ b, b < 256 → zh (nI b) = -1 ∨ ((zh (nI b)).toNatClampNeg < 16 ∧ zh (nI b) = nI (zh (nI b)).toNatClampNeg) := by decide +kernel
theorem zh_bt {t : Nat → Nat} {n p : Nat} (ht : ∀ k, k < n → t k < 256) (h : ¬ zh (bt t n p) = -1) : p < n ∧ ∃ d, d < 16 ∧ zh (bt t n p) = nI d := by
  have hp : p < n := by
    apply Classical.byContradiction
    intro z
    rw [bt_out z] at h
    exact h zh_no
  refine ⟨hp, ?_⟩
  rw [bt_in hp] at h ⊢
  rcases zh_ok (t p) (ht p hp) with e | ⟨e1, e2⟩
  · exact absurd e h
  · exact ⟨_, e1, e2⟩
theorem escR_ok {t : Nat → Nat} {n p : Nat} {x : Int32 × Nat} (ht : ∀ k, k < n → t k < 256) (h : escR t n p = .inr x) : (∃ c, c < 256 ∧ x.1 = nI c) ∧ p < x.2 ∧ x.2 ≤ n := by
  unfold escR at h
  split at h
  · rename_i hc
    cases h
    have hp : p + 1 < n := by
      rcases hc with e | e
      · exact bt_lt (c := 39) e
      · exact bt_lt (c := 92) e
    exact ⟨⟨t (p + 1), ht _ hp, bt_in hp⟩, by show p < p + 2; omega, by show p + 2 ≤ n; omega⟩
  · split at h
    · cases h
    · split at h
      · cases h
      · split at h
        · cases h
        · rename_i h1 h2
          cases h
          obtain ⟨-, a, ha, ea⟩ := zh_bt ht h1
          obtain ⟨hp, b, hb, eb⟩ := zh_bt ht h2
          refine ⟨⟨a * 16 + b, by omega, ?_⟩, by show p < p + 4; omega, by show p + 4 ≤ n; omega⟩
          show zh (bt t n (p + 2)) * 16 + zh (bt t n (p + 3)) = _
          rw [ea, eb]
          exact (congrArg (· + nI b) (pk_mul a 16)).trans (nI_add _ _)
theorem plnR_ok {t : Nat → Nat} {n p : Nat} {x : Int32 × Nat} (ht : ∀ k, k < n → t k < 256) (h : plnR t n p = .inr x) : (∃ c, c < 256 ∧ x.1 = nI c) ∧ p < x.2 ∧ x.2 ≤ n := by
  unfold plnR at h
  split at h
  · cases h
  · rename_i hc
    cases h
    have hp : p < n := by
      apply Classical.byContradiction
      intro z
      rw [bt_out z] at hc
      exact hc (Or.inl (by decide))
    exact ⟨⟨t p, ht _ hp, bt_in hp⟩, by show p < p + 1; omega, by show p + 1 ≤ n; omega⟩
/-- a text behind its sign -/
def txL (t : Nat → Nat) (n : Nat) : Nat → Nat → List Nat → Sum Nat (Nat × List Nat)
  | 0, p, _ => .inl p
  | k + 1, p, l => if bt t n p = 39 then .inr (p + 1, l) else if bt t n p = -1 ∨ 255 ≤ l.length then .inl p else match (if bt t n p = 92 then escR t n p else plnR t n p) with
    | .inl F => .inl F
    | .inr x => txL t n k x.2 (l ++ [x.1.toNatClampNeg])
def txR (t : Nat → Nat) (n p : Nat) : Sum Nat (Nat × List Nat) := if bt t n (sk t n p) = 39 then txL t n 256 (sk t n p + 1) [] else .inl (sk t n p)
/-- a row of 255 bytes that begins with l -/
def trAt (g : z_G) (h : z_H) (tr : Nat) (l : List Nat) : Prop := ∃ f, h tr = some ((10, 0), .inl (g.2.1 0, 255, .inl f)) ∧ z_fb f 255 ∧ ∀ k, k < l.length → l.getD k 0 < 256 ∧ f k = sb_b (l.getD k 0)
def txP (g : z_G) (R : Sum Nat (Nat × List Nat)) (h : z_H) (sc b n tr : Nat) (r : Option Value) (h1 : z_H) : Prop := z_K (fun y => y = 6 ∨ y = 10) h h1 ∧ match R with
  | .inl F => r = some (.int (-1)) ∧ ScFa h1 sc b n F ∧ trAt g h1 tr []
  | .inr P => r = some (.int (nI P.2.length)) ∧ ScAt h1 sc b n P.1 ∧ P.1 ≤ n ∧ trAt g h1 tr P.2 ∧ P.2.length ≤ 255
theorem app_get {l : List Nat} {c k : Nat} (h : k < l.length) : (l ++ [c]).getD k 0 = l.getD k 0 := by
  simp [List.getD_eq_getElem?_getD, List.getElem?_append_left h]
theorem app_last {l : List Nat} {c : Nat} : (l ++ [c]).getD l.length 0 = c := by
  simp [List.getD_eq_getElem?_getD]

set_option maxHeartbeats 4000000 in
set_option maxRecDepth 100000 in
theorem c_readText (l : Launch) (g : z_G) (h : z_H) {rd sc q w tr b len n p : Nat} {f : Nat → Int32} {fa ws wd : Int32} {nu9 : Int64} {t : Nat → Nat} {ft : Nat → Int32} (hrd : h rd = some ((8, 0), .inr (9, [.ref sc, .ref q, .ref w, .ref tr, .long nu9]))) (hsc : h sc = some ((6, 0), .inr (7, [.ref b, .int (nI n), .int (nI p), .int fa, .int ws, .int wd]))) (hb0 : h b = some ((3, 0), .inl (g.2.1 0, len, .inl f))) (htr : h tr = some ((10, 0), .inl (g.2.1 0, 255, .inl ft))) (hn : n ≤ len) (hlen : len < 2 ^ 31) (hf : ∀ k, k < n → t k < 256 ∧ f k = sb_b (t k)) (hp : p ≤ n) (hl29 : len < 2 ^ 29) (hft : z_fb ft 255) : z_C l y_RecordReader_readText prog_6_method_9_code 4 (Option.some Jvm.ClassFile.FieldType.int) 4 110 0 0 g [.ref rd] h (txP g (txR t n p) h sc b n tr) := by
  refine z_C.of (by decide) (Nat.le_of_ble_eq_true rfl) (fun pg en s m below meth cd A ls hx hb hml hr hts hown hlocks hnm hK hE hA hw hl => ?_)
  have hl : lv_has ls 4 [(0, .ref rd)] := hl
  have sk1 := sk_le (t := t) hp
  have sk2 := sk_ge t n p
  have kk0 : z_K (fun y => y = 6 ∨ y = 10) h h := z_K.rf
  refine lv_aload_n hx hb d_RecordReader_readText_0 rfl (lv_at hl 0 rfl) ?_
  refine z_get hx hb hts (z_lay i_RecordReader) hown hK hw hrd rfl 0 (by decide) (z_in k_502 rfl) (fun _ h9 => h9) rfl d_RecordReader_readText_1 ?_
  refine lv_bipush (v := 39) hx hb d_RecordReader_readText_4 (by decide) ?_
  refine z_callV (n := 1) (As := [.int 39]) (rest := []) ⟨hx, hb, hml, hown, hts⟩ (c_Scanner_takeSign (t := t) l g h hsc hb0 hn hlen hf (by omega)) (z_in k_456 rfl) (z_in k_8 rfl) (z_in k_523 rfl) (z_in k_454 rfl) (z_in k_455 rfl) (by decide +kernel) ⟨by first | exact Nat.le_of_ble_eq_true rfl | (dsimp only; omega) | omega, by first | exact Nat.le_of_ble_eq_true rfl | (dsimp only; omega) | omega⟩ hK hE hw hA rfl hsc rfl hl.1 (Nat.le_of_ble_eq_true rfl) d_RecordReader_readText_6 ⟨by first | exact Nat.le_of_ble_eq_true rfl | (dsimp only; omega) | omega, by first | exact Nat.le_of_ble_eq_true rfl | (dsimp only; omega) | omega⟩ rfl (fun r9 h9 H locs hp hw => ?_)
  unfold tSg at hp
  by_cases ts1 : bt t n (sk t n p) = 39
  · -- ts1 True
    rw [if_pos ts1] at hp
    obtain ⟨r8, hh1⟩ := hp
    subst r8
    obtain ⟨h1, e8⟩ : ∃ x9, x9 = h9 := ⟨_, rfl⟩
    subst e8
    have f1_rd : h1 rd = some ((8, 0), .inr (9, [.ref sc, .ref q, .ref w, .ref tr, .long nu9])) := by rw [← hh1]; exact z_keep hsc hrd (z_t1 (by decide))
    have f1_sc : h1 sc = some ((6, 0), .inr (7, [.ref b, .int (nI n), .int (nI (sk t n p + 1)), .int fa, .int ws, .int wd])) := by rw [← hh1]; exact z_put_eq
    have f1_b : h1 b = some ((3, 0), .inl (g.2.1 0, len, .inl f)) := by rw [← hh1]; exact z_keep hsc hb0 (z_t1 (by decide))
    have f1_tr : h1 tr = some ((10, 0), .inl (g.2.1 0, 255, .inl ft)) := by rw [← hh1]; exact z_keep hsc htr (z_t1 (by decide))
    have kk1 : z_K (fun y => y = 6 ∨ y = 10) h h1 := kk0.tr (by rw [← hh1]; exact z_K.put hsc (by first | decide | simp | omega))
    refine W.eq (g2 := F0 m 9 ls [.int 1]) rfl ?_
    refine lv_if_ne (tgt := 14) hx hb d_RecordReader_readText_9 (by decide) (fun c_9 => ?_) (fun c_9 => ?_)
    · -- 9: True
      refine lv_iconst (v := 0) hx hb d_RecordReader_readText_14 (by decide) ?_
      refine lv_istore_n (lv' := [(1, .int 0), (0, .ref rd)]) hx hb d_RecordReader_readText_15 rfl hl (by decide) rfl (fun ls hl => ?_)
      have loop_16 : ∀ (fuel : Nat) (k1 : Nat) (l1 : List Nat) (p1 : Nat) (fa1 : Int32) (ws1 : Int32) (wd1 : Int32) (ft1 : Nat → Int32) (hL : z_H) (H : Heap) (locs : List Loc) (ls : Array Slot) (L16_rd : hL rd = some ((8, 0), .inr (9, [.ref sc, .ref q, .ref w, .ref tr, .long nu9]))) (L16_sc : hL sc = some ((6, 0), .inr (7, [.ref b, .int (nI n), .int (nI p1), .int fa1, .int ws1, .int wd1]))) (L16_b : hL b = some ((3, 0), .inl (g.2.1 0, len, .inl f))) (L16_tr : hL tr = some ((10, 0), .inl (g.2.1 0, 255, .inl ft1))) (hk1 : k1 = l1.length) (kkL : z_K (fun y => y = 6 ∨ y = 10) h hL) (le1 : p1 ≤ n ∧ l1.length ≤ 255) (hT1 : z_fb ft1 255 ∧ ∀ k, k < l1.length → l1.getD k 0 < 256 ∧ ft1 k = sb_b (l1.getD k 0)) (hR1 : txL t n (256 - l1.length) p1 l1 = txL t n 256 (sk t n p + 1) []), (256 - k1) < fuel → z_S g A s.heap hL H locs → lv_has ls 4 [(0, .ref rd), (1, .int (nI k1))] → W pg l en { frames := 4, cells := 0, slots := 0, locals := 110 } s m [.ref rd].toArray below meth cd H locs 0 0 (MQ below (z_Q g A (txP g (txR t n p) h sc b n tr)) [.ref rd].toArray s 0 0 A) (F0 m 16 ls []) := by
        intro fuel
        induction fuel with
        | zero => intro k1 l1 p1 fa1 ws1 wd1 ft1 hL H locs ls L16_rd L16_sc L16_b L16_tr hk1 kkL le1 hT1 hR1 hm; exact absurd hm (Nat.not_lt_zero _)
        | succ fuel ih_16 =>
          intro k1 l1 p1 fa1 ws1 wd1 ft1 hL H locs ls L16_rd L16_sc L16_b L16_tr hk1 kkL le1 hT1 hR1 hm hw hl
          subst hk1
          have hl : lv_has ls 4 [(0, .ref rd), (1, .int (nI l1.length))] := hl
          refine lv_iload_n hx hb d_RecordReader_readText_16 rfl (lv_at hl 1 rfl) ?_
          refine lv_sipush (v := 255) hx hb d_RecordReader_readText_17 (by decide) ?_
          refine lv_icmp_gt (tgt := 111) hx hb d_RecordReader_readText_20 (by decide) (fun c_20 => ?_) (fun c_20 => ?_)
          · -- 20: True
            have c_20 : 255 < l1.length := (nI_ltI (a := 255) (b := l1.length) (by omega) (by omega)).mp c_20
            omega
          · -- 20: False
            have c_20 : ¬ (255 < l1.length) := fun z => c_20 ((nI_ltI (a := 255) (b := l1.length) (by omega) (by omega)).mpr z)
            refine lv_aload_n hx hb d_RecordReader_readText_23 rfl (lv_at hl 0 rfl) ?_
            refine z_get hx hb hts (z_lay i_RecordReader) hown hK hw L16_rd rfl 0 (by decide) (z_in k_502 rfl) (fun _ h9 => h9) rfl d_RecordReader_readText_24 ?_
            refine z_callV (n := 0) (As := []) (rest := []) ⟨hx, hb, hml, hown, hts⟩ (c_Scanner_here (t := t) l g hL L16_sc L16_b hn hlen hf (by omega)) (z_in k_238 rfl) (z_in k_8 rfl) (z_in k_570 rfl) (z_in k_236 rfl) (z_in k_237 rfl) (by decide +kernel) ⟨by first | exact Nat.le_of_ble_eq_true rfl | (dsimp only; omega) | omega, by first | exact Nat.le_of_ble_eq_true rfl | (dsimp only; omega) | omega⟩ hK hE hw hA rfl L16_sc rfl hl.1 (Nat.le_of_ble_eq_true rfl) d_RecordReader_readText_27 ⟨by first | exact Nat.le_of_ble_eq_true rfl | (dsimp only; omega) | omega, by first | exact Nat.le_of_ble_eq_true rfl | (dsimp only; omega) | omega⟩ rfl (fun r9 h9 H locs hp hw => ?_)
            obtain ⟨r8, h8⟩ := hp
            subst r8
            subst h8
            refine W.eq (g2 := F0 m 30 ls [.int (bt t n p1)]) rfl ?_
            refine lv_istore_n (lv' := [(2, .int (bt t n p1)), (0, .ref rd), (1, .int (nI l1.length))]) hx hb d_RecordReader_readText_30 rfl hl (by decide) rfl (fun ls hl => ?_)
            refine lv_iload_n hx hb d_RecordReader_readText_31 rfl (lv_at hl 0 rfl) ?_
            refine lv_bipush (v := 39) hx hb d_RecordReader_readText_32 (by decide) ?_
            refine lv_icmp_ne (tgt := 47) hx hb d_RecordReader_readText_34 (by decide) (fun c_34 => ?_) (fun c_34 => ?_)
            · -- 34: True
              refine lv_iload_n hx hb d_RecordReader_readText_47 rfl (lv_at hl 0 rfl) ?_
              refine lv_iconst (v := (-1)) hx hb d_RecordReader_readText_48 (by decide) ?_
              refine lv_icmp_eq (tgt := 61) hx hb d_RecordReader_readText_49 (by decide) (fun c_49 => ?_) (fun c_49 => ?_)
              · -- 49: True
                refine lv_aload_n hx hb d_RecordReader_readText_61 rfl (lv_at hl 1 rfl) ?_
                refine z_get hx hb hts (z_lay i_RecordReader) hown hK hw L16_rd rfl 0 (by decide) (z_in k_502 rfl) (fun _ h9 => h9) rfl d_RecordReader_readText_62 ?_
                refine z_callV (n := 0) (As := []) (rest := []) ⟨hx, hb, hml, hown, hts⟩ (c_Scanner_failHere l g hL L16_sc) (z_in k_258 rfl) (z_in k_8 rfl) (z_in k_522 rfl) (z_in k_256 rfl) (z_in k_257 rfl) (by decide +kernel) ⟨by first | exact Nat.le_of_ble_eq_true rfl | (dsimp only; omega) | omega, by first | exact Nat.le_of_ble_eq_true rfl | (dsimp only; omega) | omega⟩ hK hE hw hA rfl L16_sc rfl hl.1 (Nat.le_of_ble_eq_true rfl) d_RecordReader_readText_65 ⟨by first | exact Nat.le_of_ble_eq_true rfl | (dsimp only; omega) | omega, by first | exact Nat.le_of_ble_eq_true rfl | (dsimp only; omega) | omega⟩ rfl (fun r9 h9 H locs hp hw => ?_)
                obtain ⟨r8, hh2⟩ := hp
                subst r8
                obtain ⟨h2, e8⟩ : ∃ x9, x9 = h9 := ⟨_, rfl⟩
                subst e8
                have f2_rd : h2 rd = some ((8, 0), .inr (9, [.ref sc, .ref q, .ref w, .ref tr, .long nu9])) := by rw [← hh2]; exact z_keep L16_sc L16_rd (z_t1 (by decide))
                have f2_sc : h2 sc = some ((6, 0), .inr (7, [.ref b, .int (nI n), .int (nI p1), .int (nI p1), .int ws1, .int wd1])) := by rw [← hh2]; exact z_put_eq
                have f2_b : h2 b = some ((3, 0), .inl (g.2.1 0, len, .inl f)) := by rw [← hh2]; exact z_keep L16_sc L16_b (z_t1 (by decide))
                have f2_tr : h2 tr = some ((10, 0), .inl (g.2.1 0, 255, .inl ft1)) := by rw [← hh2]; exact z_keep L16_sc L16_tr (z_t1 (by decide))
                have kk2 : z_K (fun y => y = 6 ∨ y = 10) h h2 := kkL.tr (by rw [← hh2]; exact z_K.put L16_sc (by first | decide | simp | omega))
                refine W.eq (g2 := F0 m 68 ls [.int 0]) rfl ?_
                refine lv_pop hx hb d_RecordReader_readText_68 rfl ?_
                refine lv_iconst (v := (-1)) hx hb d_RecordReader_readText_69 (by decide) ?_
                have eW : txR t n p = .inl p1 := by
                  unfold txR; rw [if_pos ts1, ← hR1]
                  rw [show 256 - l1.length = (256 - (l1.length + 1)) + 1 by omega]; simp only [txL]; rw [if_neg c_34, if_pos (Or.inl c_49)]
                exact z_iret hx hb hr hlocks hw (by rw [eW]; exact ⟨kk2, rfl, ⟨_, _, _, _, f2_sc, rfl⟩, ⟨_, f2_tr, hT1.1, fun k hk => by simp at hk⟩⟩) (by decide) (by decide) d_RecordReader_readText_70
              · -- 49: False
                refine lv_iload_n hx hb d_RecordReader_readText_52 rfl (lv_at hl 2 rfl) ?_
                refine lv_aload_n hx hb d_RecordReader_readText_53 rfl (lv_at hl 1 rfl) ?_
                refine z_get hx hb hts (z_lay i_RecordReader) hown hK hw L16_rd rfl 3 (by decide) (z_in k_505 rfl) (fun _ h9 => h9) rfl d_RecordReader_readText_54 ?_
                refine z_alen hx hb hK hw L16_tr 0 rfl d_RecordReader_readText_57 ?_
                refine lv_icmp_lt (tgt := 71) hx hb d_RecordReader_readText_58 (by decide) (fun c_58 => ?_) (fun c_58 => ?_)
                · -- 58: True
                  have c_58 : l1.length < 255 := (nI_ltI (a := l1.length) (b := 255) (by omega) (by omega)).mp c_58
                  refine lv_iload_n hx hb d_RecordReader_readText_71 rfl (lv_at hl 0 rfl) ?_
                  refine lv_bipush (v := 92) hx hb d_RecordReader_readText_72 (by decide) ?_
                  refine lv_icmp_ne (tgt := 84) hx hb d_RecordReader_readText_74 (by decide) (fun c_74 => ?_) (fun c_74 => ?_)
                  · -- 74: True
                    refine lv_aload_n hx hb d_RecordReader_readText_84 rfl (lv_at hl 1 rfl) ?_
                    refine lv_iload_n hx hb d_RecordReader_readText_85 rfl (lv_at hl 0 rfl) ?_
                    refine z_callV (n := 1) (As := [.int (bt t n p1)]) (rest := []) ⟨hx, hb, hml, hown, hts⟩ (c_readPlain (t := t) l g hL L16_rd L16_sc L16_b) (z_in k_597 rfl) (z_in k_18 rfl) (z_in k_594 rfl) (z_in k_596 rfl) (z_in ks_15 rfl) (by decide +kernel) ⟨by first | exact Nat.le_of_ble_eq_true rfl | (dsimp only; omega) | omega, by first | exact Nat.le_of_ble_eq_true rfl | (dsimp only; omega) | omega⟩ hK hE hw hA rfl L16_rd rfl hl.1 (Nat.le_of_ble_eq_true rfl) d_RecordReader_readText_86 ⟨by first | exact Nat.le_of_ble_eq_true rfl | (dsimp only; omega) | omega, by first | exact Nat.le_of_ble_eq_true rfl | (dsimp only; omega) | omega⟩ rfl (fun r9 h9 H locs hp hw => ?_)
                    rcases hV : plnR t n p1 with F9 | ⟨v9, p9⟩
                    · -- plnR False
                      rw [hV] at hp
                      obtain ⟨r8, f9, w9, d9, hh3⟩ := hp
                      subst r8
                      obtain ⟨h3, e8⟩ : ∃ x9, x9 = h9 := ⟨_, rfl⟩
                      subst e8
                      have f3_rd : h3 rd = some ((8, 0), .inr (9, [.ref sc, .ref q, .ref w, .ref tr, .long nu9])) := by rw [← hh3]; exact z_keep L16_sc L16_rd (z_t1 (by decide))
                      have f3_sc : h3 sc = some ((6, 0), .inr (7, [.ref b, .int (nI n), .int (nI f9), .int (nI F9), .int w9, .int d9])) := by rw [← hh3]; exact z_put_eq
                      have f3_b : h3 b = some ((3, 0), .inl (g.2.1 0, len, .inl f)) := by rw [← hh3]; exact z_keep L16_sc L16_b (z_t1 (by decide))
                      have f3_tr : h3 tr = some ((10, 0), .inl (g.2.1 0, 255, .inl ft1)) := by rw [← hh3]; exact z_keep L16_sc L16_tr (z_t1 (by decide))
                      have kk3 : z_K (fun y => y = 6 ∨ y = 10) h h3 := kkL.tr (by rw [← hh3]; exact z_K.put L16_sc (by first | decide | simp | omega))
                      refine W.eq (g2 := F0 m 89 ls [.int (-1)]) rfl ?_
                      refine lv_istore_n (lv' := [(3, .int (-1)), (2, .int (bt t n p1)), (0, .ref rd), (1, .int (nI l1.length))]) hx hb d_RecordReader_readText_89 rfl hl (by decide) rfl (fun ls hl => ?_)
                      refine lv_iload_n hx hb d_RecordReader_readText_90 rfl (lv_at hl 0 rfl) ?_
                      refine lv_iconst (v := (-1)) hx hb d_RecordReader_readText_91 (by decide) ?_
                      refine lv_icmp_ne (tgt := 97) hx hb d_RecordReader_readText_92 (by decide) (fun c_92 => ?_) (fun c_92 => ?_)
                      · -- 92: True
                        exact absurd (by decide) c_92
                      · -- 92: False
                        refine lv_iconst (v := (-1)) hx hb d_RecordReader_readText_95 (by decide) ?_
                        have eW : txR t n p = .inl F9 := by
                          unfold txR; rw [if_pos ts1, ← hR1]
                          rw [show 256 - l1.length = (256 - (l1.length + 1)) + 1 by omega]; simp only [txL]; rw [if_neg c_34, if_neg (fun z => by rcases z with z | z; exact absurd z c_49; omega), if_neg c_74, hV]
                        exact z_iret hx hb hr hlocks hw (by rw [eW]; exact ⟨kk3, rfl, ⟨_, _, _, _, f3_sc, rfl⟩, ⟨_, f3_tr, hT1.1, fun k hk => by simp at hk⟩⟩) (by decide) (by decide) d_RecordReader_readText_96
                    · -- plnR True
                      rw [hV] at hp
                      obtain ⟨r8, f9, w9, d9, hh4⟩ := hp
                      subst r8
                      obtain ⟨h4, e8⟩ : ∃ x9, x9 = h9 := ⟨_, rfl⟩
                      subst e8
                      have f4_rd : h4 rd = some ((8, 0), .inr (9, [.ref sc, .ref q, .ref w, .ref tr, .long nu9])) := by rw [← hh4]; exact z_keep L16_sc L16_rd (z_t1 (by decide))
                      have f4_sc : h4 sc = some ((6, 0), .inr (7, [.ref b, .int (nI n), .int (nI p9), .int f9, .int w9, .int d9])) := by rw [← hh4]; exact z_put_eq
                      have f4_b : h4 b = some ((3, 0), .inl (g.2.1 0, len, .inl f)) := by rw [← hh4]; exact z_keep L16_sc L16_b (z_t1 (by decide))
                      have f4_tr : h4 tr = some ((10, 0), .inl (g.2.1 0, 255, .inl ft1)) := by rw [← hh4]; exact z_keep L16_sc L16_tr (z_t1 (by decide))
                      have kk4 : z_K (fun y => y = 6 ∨ y = 10) h h4 := kkL.tr (by rw [← hh4]; exact z_K.put L16_sc (by first | decide | simp | omega))
                      obtain ⟨⟨c9, hc9, e9⟩, gx9, lx9⟩ := plnR_ok (fun k hk => (hf k hk).1) hV
                      dsimp only at e9 gx9 lx9
                      subst e9
                      have cl9 : (nI c9).toNatClampNeg = c9 := nI_clamp (by omega)
                      refine W.eq (g2 := F0 m 89 ls [.int (nI c9)]) rfl ?_
                      refine lv_istore_n (lv' := [(3, .int (nI c9)), (2, .int (bt t n p1)), (0, .ref rd), (1, .int (nI l1.length))]) hx hb d_RecordReader_readText_89 rfl hl (by decide) rfl (fun ls hl => ?_)
                      refine lv_iload_n hx hb d_RecordReader_readText_90 rfl (lv_at hl 0 rfl) ?_
                      refine lv_iconst (v := (-1)) hx hb d_RecordReader_readText_91 (by decide) ?_
                      refine lv_icmp_ne (tgt := 97) hx hb d_RecordReader_readText_92 (by decide) (fun c_92 => ?_) (fun c_92 => ?_)
                      · -- 92: True
                        refine lv_aload_n hx hb d_RecordReader_readText_97 rfl (lv_at hl 2 rfl) ?_
                        refine z_get hx hb hts (z_lay i_RecordReader) hown hK hw f4_rd rfl 3 (by decide) (z_in k_505 rfl) (fun _ h9 => h9) rfl d_RecordReader_readText_98 ?_
                        refine lv_iload_n hx hb d_RecordReader_readText_101 rfl (lv_at hl 3 rfl) ?_
                        refine lv_iload_n hx hb d_RecordReader_readText_102 rfl (lv_at hl 0 rfl) ?_
                        refine lv_i2b hx hb d_RecordReader_readText_103 rfl ?_
                        refine z_bast hx hb hK hw f4_tr 0 rfl (vp_in_nI (by omega) (by omega)) d_RecordReader_readText_104 (fun H locs hw => ?_)
                        rw [nI_clamp (by omega)] at hw
                        rw [vp_nar_byte, show ((nI c9).toInt8.toInt32).toInt8.toInt32 = sb_b c9 from by unfold sb_b; simp] at hw
                        obtain ⟨h5, hh5⟩ : ∃ x9, z_put h4 tr (10, 0) (.inl (g.2.1 0, 255, .inl (upd ft1 l1.length (sb_b c9)))) = x9 := ⟨_, rfl⟩
                        have hw : z_S g A s.heap h5 H locs := by rw [← hh5]; exact hw
                        have f5_rd : h5 rd = some ((8, 0), .inr (9, [.ref sc, .ref q, .ref w, .ref tr, .long nu9])) := by rw [← hh5]; exact z_keep f4_tr f4_rd (z_t1 (by decide))
                        have f5_sc : h5 sc = some ((6, 0), .inr (7, [.ref b, .int (nI n), .int (nI p9), .int f9, .int w9, .int d9])) := by rw [← hh5]; exact z_keep f4_tr f4_sc (z_t1 (by decide))
                        have f5_b : h5 b = some ((3, 0), .inl (g.2.1 0, len, .inl f)) := by rw [← hh5]; exact z_keep f4_tr f4_b (z_t1 (by decide))
                        have f5_tr : h5 tr = some ((10, 0), .inl (g.2.1 0, 255, .inl (upd ft1 l1.length (sb_b c9)))) := by rw [← hh5]; exact z_put_eq
                        have kk5 : z_K (fun y => y = 6 ∨ y = 10) h h5 := kk4.tr (by rw [← hh5]; exact z_K.put f4_tr (by first | decide | simp | omega))
                        have hT9 : z_fb (upd ft1 l1.length (sb_b c9)) 255 ∧ ∀ k, k < (l1 ++ [c9]).length → (l1 ++ [c9]).getD k 0 < 256 ∧ upd ft1 l1.length (sb_b c9) k = sb_b ((l1 ++ [c9]).getD k 0) := by
                          refine ⟨z_fbu hT1.1 (sb_fitB c9), fun k hk => ?_⟩
                          rw [List.length_append] at hk
                          simp only [List.length_cons, List.length_nil] at hk
                          by_cases e : k = l1.length
                          · subst e; rw [app_last, pk_us]; exact ⟨hc9, rfl⟩
                          · rw [app_get (by omega), pk_un e]; exact hT1.2 k (by omega)
                        have len9 : (l1 ++ [c9]).length = l1.length + 1 := by simp
                        refine lv_iinc (v := nI (l1.length + 1)) (lv' := [(1, .int (nI (l1.length + 1))), (3, .int (nI c9)), (2, .int (bt t n p1)), (0, .ref rd)]) hx hb d_RecordReader_readText_105 hl (k := 3) rfl (nI_1 l1.length) (by decide) rfl (fun ls hl => ?_)
                        refine lv_goto (tgt := 16) hx hb d_RecordReader_readText_108 (by decide) ?_
                        refine ih_16 (l1.length + 1) (l1 ++ [c9]) p9 f9 w9 d9 (upd ft1 l1.length (sb_b c9)) h5 _ _ _ f5_rd f5_sc f5_b f5_tr len9.symm kk5 (⟨lx9, by rw [List.length_append]; simp; omega⟩) hT9 (by rw [← hR1]; rw [show 256 - l1.length = (256 - (l1.length + 1)) + 1 by omega]; simp only [txL]; rw [if_neg c_34, if_neg (fun z => by rcases z with z | z; exact absurd z c_49; omega), if_neg c_74, hV]; rw [len9]; show _ = txL t n (256 - (l1.length + 1)) p9 (l1 ++ [(nI c9).toNatClampNeg]); rw [cl9]) ?_ hw (lv_sub hl [3, 0] rfl)
                        omega
                      · -- 92: False
                        exact absurd c_92 (nI_ne1 (by omega))
                  · -- 74: False
                    refine lv_aload_n hx hb d_RecordReader_readText_77 rfl (lv_at hl 1 rfl) ?_
                    refine z_callV (n := 0) (As := []) (rest := []) ⟨hx, hb, hml, hown, hts⟩ (c_readEscape (t := t) l g hL L16_rd L16_sc L16_b hn hlen hf (by omega) hl29) (z_in k_586 rfl) (z_in k_18 rfl) (z_in k_583 rfl) (z_in k_585 rfl) (z_in ks_13 rfl) (by decide +kernel) ⟨by first | exact Nat.le_of_ble_eq_true rfl | (dsimp only; omega) | omega, by first | exact Nat.le_of_ble_eq_true rfl | (dsimp only; omega) | omega⟩ hK hE hw hA rfl L16_rd rfl hl.1 (Nat.le_of_ble_eq_true rfl) d_RecordReader_readText_78 ⟨by first | exact Nat.le_of_ble_eq_true rfl | (dsimp only; omega) | omega, by first | exact Nat.le_of_ble_eq_true rfl | (dsimp only; omega) | omega⟩ rfl (fun r9 h9 H locs hp hw => ?_)
                    rcases hV : escR t n p1 with F9 | ⟨v9, p9⟩
                    · -- escR False
                      rw [hV] at hp
                      obtain ⟨r8, f9, w9, d9, hh6⟩ := hp
                      subst r8
                      obtain ⟨h6, e8⟩ : ∃ x9, x9 = h9 := ⟨_, rfl⟩
                      subst e8
                      have f6_rd : h6 rd = some ((8, 0), .inr (9, [.ref sc, .ref q, .ref w, .ref tr, .long nu9])) := by rw [← hh6]; exact z_keep L16_sc L16_rd (z_t1 (by decide))
                      have f6_sc : h6 sc = some ((6, 0), .inr (7, [.ref b, .int (nI n), .int (nI f9), .int (nI F9), .int w9, .int d9])) := by rw [← hh6]; exact z_put_eq
                      have f6_b : h6 b = some ((3, 0), .inl (g.2.1 0, len, .inl f)) := by rw [← hh6]; exact z_keep L16_sc L16_b (z_t1 (by decide))
                      have f6_tr : h6 tr = some ((10, 0), .inl (g.2.1 0, 255, .inl ft1)) := by rw [← hh6]; exact z_keep L16_sc L16_tr (z_t1 (by decide))
                      have kk6 : z_K (fun y => y = 6 ∨ y = 10) h h6 := kkL.tr (by rw [← hh6]; exact z_K.put L16_sc (by first | decide | simp | omega))
                      refine W.eq (g2 := F0 m 81 ls [.int (-1)]) rfl ?_
                      refine lv_goto (tgt := 89) hx hb d_RecordReader_readText_81 (by decide) ?_
                      refine lv_istore_n (lv' := [(3, .int (-1)), (2, .int (bt t n p1)), (0, .ref rd), (1, .int (nI l1.length))]) hx hb d_RecordReader_readText_89 rfl hl (by decide) rfl (fun ls hl => ?_)
                      refine lv_iload_n hx hb d_RecordReader_readText_90 rfl (lv_at hl 0 rfl) ?_
                      refine lv_iconst (v := (-1)) hx hb d_RecordReader_readText_91 (by decide) ?_
                      refine lv_icmp_ne (tgt := 97) hx hb d_RecordReader_readText_92 (by decide) (fun c_92 => ?_) (fun c_92 => ?_)
                      · -- 92: True
                        exact absurd (by decide) c_92
                      · -- 92: False
                        refine lv_iconst (v := (-1)) hx hb d_RecordReader_readText_95 (by decide) ?_
                        have eW : txR t n p = .inl F9 := by
                          unfold txR; rw [if_pos ts1, ← hR1]
                          rw [show 256 - l1.length = (256 - (l1.length + 1)) + 1 by omega]; simp only [txL]; rw [if_neg c_34, if_neg (fun z => by rcases z with z | z; exact absurd z c_49; omega), if_pos c_74, hV]
                        exact z_iret hx hb hr hlocks hw (by rw [eW]; exact ⟨kk6, rfl, ⟨_, _, _, _, f6_sc, rfl⟩, ⟨_, f6_tr, hT1.1, fun k hk => by simp at hk⟩⟩) (by decide) (by decide) d_RecordReader_readText_96
                    · -- escR True
                      rw [hV] at hp
                      obtain ⟨r8, f9, w9, d9, hh7⟩ := hp
                      subst r8
                      obtain ⟨h7, e8⟩ : ∃ x9, x9 = h9 := ⟨_, rfl⟩
                      subst e8
                      have f7_rd : h7 rd = some ((8, 0), .inr (9, [.ref sc, .ref q, .ref w, .ref tr, .long nu9])) := by rw [← hh7]; exact z_keep L16_sc L16_rd (z_t1 (by decide))
                      have f7_sc : h7 sc = some ((6, 0), .inr (7, [.ref b, .int (nI n), .int (nI p9), .int f9, .int w9, .int d9])) := by rw [← hh7]; exact z_put_eq
                      have f7_b : h7 b = some ((3, 0), .inl (g.2.1 0, len, .inl f)) := by rw [← hh7]; exact z_keep L16_sc L16_b (z_t1 (by decide))
                      have f7_tr : h7 tr = some ((10, 0), .inl (g.2.1 0, 255, .inl ft1)) := by rw [← hh7]; exact z_keep L16_sc L16_tr (z_t1 (by decide))
                      have kk7 : z_K (fun y => y = 6 ∨ y = 10) h h7 := kkL.tr (by rw [← hh7]; exact z_K.put L16_sc (by first | decide | simp | omega))
                      obtain ⟨⟨c9, hc9, e9⟩, gx9, lx9⟩ := escR_ok (fun k hk => (hf k hk).1) hV
                      dsimp only at e9 gx9 lx9
                      subst e9
                      have cl9 : (nI c9).toNatClampNeg = c9 := nI_clamp (by omega)
                      refine W.eq (g2 := F0 m 81 ls [.int (nI c9)]) rfl ?_
                      refine lv_goto (tgt := 89) hx hb d_RecordReader_readText_81 (by decide) ?_
                      refine lv_istore_n (lv' := [(3, .int (nI c9)), (2, .int (bt t n p1)), (0, .ref rd), (1, .int (nI l1.length))]) hx hb d_RecordReader_readText_89 rfl hl (by decide) rfl (fun ls hl => ?_)
                      refine lv_iload_n hx hb d_RecordReader_readText_90 rfl (lv_at hl 0 rfl) ?_
                      refine lv_iconst (v := (-1)) hx hb d_RecordReader_readText_91 (by decide) ?_
                      refine lv_icmp_ne (tgt := 97) hx hb d_RecordReader_readText_92 (by decide) (fun c_92 => ?_) (fun c_92 => ?_)
                      · -- 92: True
                        refine lv_aload_n hx hb d_RecordReader_readText_97 rfl (lv_at hl 2 rfl) ?_
                        refine z_get hx hb hts (z_lay i_RecordReader) hown hK hw f7_rd rfl 3 (by decide) (z_in k_505 rfl) (fun _ h9 => h9) rfl d_RecordReader_readText_98 ?_
                        refine lv_iload_n hx hb d_RecordReader_readText_101 rfl (lv_at hl 3 rfl) ?_
                        refine lv_iload_n hx hb d_RecordReader_readText_102 rfl (lv_at hl 0 rfl) ?_
                        refine lv_i2b hx hb d_RecordReader_readText_103 rfl ?_
                        refine z_bast hx hb hK hw f7_tr 0 rfl (vp_in_nI (by omega) (by omega)) d_RecordReader_readText_104 (fun H locs hw => ?_)
                        rw [nI_clamp (by omega)] at hw
                        rw [vp_nar_byte, show ((nI c9).toInt8.toInt32).toInt8.toInt32 = sb_b c9 from by unfold sb_b; simp] at hw
                        obtain ⟨h8, hh8⟩ : ∃ x9, z_put h7 tr (10, 0) (.inl (g.2.1 0, 255, .inl (upd ft1 l1.length (sb_b c9)))) = x9 := ⟨_, rfl⟩
                        have hw : z_S g A s.heap h8 H locs := by rw [← hh8]; exact hw
                        have f8_rd : h8 rd = some ((8, 0), .inr (9, [.ref sc, .ref q, .ref w, .ref tr, .long nu9])) := by rw [← hh8]; exact z_keep f7_tr f7_rd (z_t1 (by decide))
                        have f8_sc : h8 sc = some ((6, 0), .inr (7, [.ref b, .int (nI n), .int (nI p9), .int f9, .int w9, .int d9])) := by rw [← hh8]; exact z_keep f7_tr f7_sc (z_t1 (by decide))
                        have f8_b : h8 b = some ((3, 0), .inl (g.2.1 0, len, .inl f)) := by rw [← hh8]; exact z_keep f7_tr f7_b (z_t1 (by decide))
                        have f8_tr : h8 tr = some ((10, 0), .inl (g.2.1 0, 255, .inl (upd ft1 l1.length (sb_b c9)))) := by rw [← hh8]; exact z_put_eq
                        have kk8 : z_K (fun y => y = 6 ∨ y = 10) h h8 := kk7.tr (by rw [← hh8]; exact z_K.put f7_tr (by first | decide | simp | omega))
                        have hT9 : z_fb (upd ft1 l1.length (sb_b c9)) 255 ∧ ∀ k, k < (l1 ++ [c9]).length → (l1 ++ [c9]).getD k 0 < 256 ∧ upd ft1 l1.length (sb_b c9) k = sb_b ((l1 ++ [c9]).getD k 0) := by
                          refine ⟨z_fbu hT1.1 (sb_fitB c9), fun k hk => ?_⟩
                          rw [List.length_append] at hk
                          simp only [List.length_cons, List.length_nil] at hk
                          by_cases e : k = l1.length
                          · subst e; rw [app_last, pk_us]; exact ⟨hc9, rfl⟩
                          · rw [app_get (by omega), pk_un e]; exact hT1.2 k (by omega)
                        have len9 : (l1 ++ [c9]).length = l1.length + 1 := by simp
                        refine lv_iinc (v := nI (l1.length + 1)) (lv' := [(1, .int (nI (l1.length + 1))), (3, .int (nI c9)), (2, .int (bt t n p1)), (0, .ref rd)]) hx hb d_RecordReader_readText_105 hl (k := 3) rfl (nI_1 l1.length) (by decide) rfl (fun ls hl => ?_)
                        refine lv_goto (tgt := 16) hx hb d_RecordReader_readText_108 (by decide) ?_
                        refine ih_16 (l1.length + 1) (l1 ++ [c9]) p9 f9 w9 d9 (upd ft1 l1.length (sb_b c9)) h8 _ _ _ f8_rd f8_sc f8_b f8_tr len9.symm kk8 (⟨lx9, by rw [List.length_append]; simp; omega⟩) hT9 (by rw [← hR1]; rw [show 256 - l1.length = (256 - (l1.length + 1)) + 1 by omega]; simp only [txL]; rw [if_neg c_34, if_neg (fun z => by rcases z with z | z; exact absurd z c_49; omega), if_pos c_74, hV]; rw [len9]; show _ = txL t n (256 - (l1.length + 1)) p9 (l1 ++ [(nI c9).toNatClampNeg]); rw [cl9]) ?_ hw (lv_sub hl [3, 0] rfl)
                        omega
                      · -- 92: False
                        exact absurd c_92 (nI_ne1 (by omega))
                · -- 58: False
                  have c_58 : ¬ (l1.length < 255) := fun z => c_58 ((nI_ltI (a := l1.length) (b := 255) (by omega) (by omega)).mpr z)
                  refine lv_aload_n hx hb d_RecordReader_readText_61 rfl (lv_at hl 1 rfl) ?_
                  refine z_get hx hb hts (z_lay i_RecordReader) hown hK hw L16_rd rfl 0 (by decide) (z_in k_502 rfl) (fun _ h9 => h9) rfl d_RecordReader_readText_62 ?_
                  refine z_callV (n := 0) (As := []) (rest := []) ⟨hx, hb, hml, hown, hts⟩ (c_Scanner_failHere l g hL L16_sc) (z_in k_258 rfl) (z_in k_8 rfl) (z_in k_522 rfl) (z_in k_256 rfl) (z_in k_257 rfl) (by decide +kernel) ⟨by first | exact Nat.le_of_ble_eq_true rfl | (dsimp only; omega) | omega, by first | exact Nat.le_of_ble_eq_true rfl | (dsimp only; omega) | omega⟩ hK hE hw hA rfl L16_sc rfl hl.1 (Nat.le_of_ble_eq_true rfl) d_RecordReader_readText_65 ⟨by first | exact Nat.le_of_ble_eq_true rfl | (dsimp only; omega) | omega, by first | exact Nat.le_of_ble_eq_true rfl | (dsimp only; omega) | omega⟩ rfl (fun r9 h9 H locs hp hw => ?_)
                  obtain ⟨r8, hh9⟩ := hp
                  subst r8
                  obtain ⟨h9, e8⟩ : ∃ x9, x9 = h9 := ⟨_, rfl⟩
                  subst e8
                  have f9_rd : h9 rd = some ((8, 0), .inr (9, [.ref sc, .ref q, .ref w, .ref tr, .long nu9])) := by rw [← hh9]; exact z_keep L16_sc L16_rd (z_t1 (by decide))
                  have f9_sc : h9 sc = some ((6, 0), .inr (7, [.ref b, .int (nI n), .int (nI p1), .int (nI p1), .int ws1, .int wd1])) := by rw [← hh9]; exact z_put_eq
                  have f9_b : h9 b = some ((3, 0), .inl (g.2.1 0, len, .inl f)) := by rw [← hh9]; exact z_keep L16_sc L16_b (z_t1 (by decide))
                  have f9_tr : h9 tr = some ((10, 0), .inl (g.2.1 0, 255, .inl ft1)) := by rw [← hh9]; exact z_keep L16_sc L16_tr (z_t1 (by decide))
                  have kk9 : z_K (fun y => y = 6 ∨ y = 10) h h9 := kkL.tr (by rw [← hh9]; exact z_K.put L16_sc (by first | decide | simp | omega))
                  refine W.eq (g2 := F0 m 68 ls [.int 0]) rfl ?_
                  refine lv_pop hx hb d_RecordReader_readText_68 rfl ?_
                  refine lv_iconst (v := (-1)) hx hb d_RecordReader_readText_69 (by decide) ?_
                  have eW : txR t n p = .inl p1 := by
                    unfold txR; rw [if_pos ts1, ← hR1]
                    rw [show 256 - l1.length = (256 - (l1.length + 1)) + 1 by omega]; simp only [txL]; rw [if_neg c_34, if_pos (Or.inr (by omega))]
                  exact z_iret hx hb hr hlocks hw (by rw [eW]; exact ⟨kk9, rfl, ⟨_, _, _, _, f9_sc, rfl⟩, ⟨_, f9_tr, hT1.1, fun k hk => by simp at hk⟩⟩) (by decide) (by decide) d_RecordReader_readText_70
            · -- 34: False
              refine lv_aload_n hx hb d_RecordReader_readText_37 rfl (lv_at hl 1 rfl) ?_
              refine z_get hx hb hts (z_lay i_RecordReader) hown hK hw L16_rd rfl 0 (by decide) (z_in k_502 rfl) (fun _ h9 => h9) rfl d_RecordReader_readText_38 ?_
              refine lv_iconst (v := 1) hx hb d_RecordReader_readText_41 (by decide) ?_
              refine z_callV (n := 1) (As := [.int 1]) (rest := []) ⟨hx, hb, hml, hown, hts⟩ (c_Scanner_step (d := 1) l g hL L16_sc) (z_in k_574 rfl) (z_in k_8 rfl) (z_in k_571 rfl) (z_in k_572 rfl) (z_in k_573 rfl) (by decide +kernel) ⟨by first | exact Nat.le_of_ble_eq_true rfl | (dsimp only; omega) | omega, by first | exact Nat.le_of_ble_eq_true rfl | (dsimp only; omega) | omega⟩ hK hE hw hA rfl L16_sc rfl hl.1 (Nat.le_of_ble_eq_true rfl) d_RecordReader_readText_42 ⟨by first | exact Nat.le_of_ble_eq_true rfl | (dsimp only; omega) | omega, by first | exact Nat.le_of_ble_eq_true rfl | (dsimp only; omega) | omega⟩ rfl (fun r9 h9 H locs hp hw => ?_)
              obtain ⟨r8, hh10⟩ := hp
              subst r8
              obtain ⟨h10, e8⟩ : ∃ x9, x9 = h9 := ⟨_, rfl⟩
              subst e8
              have f10_rd : h10 rd = some ((8, 0), .inr (9, [.ref sc, .ref q, .ref w, .ref tr, .long nu9])) := by rw [← hh10]; exact z_keep L16_sc L16_rd (z_t1 (by decide))
              have f10_sc : h10 sc = some ((6, 0), .inr (7, [.ref b, .int (nI n), .int (nI (p1 + 1)), .int fa1, .int ws1, .int wd1])) := by rw [← hh10]; exact z_put_eq
              have f10_b : h10 b = some ((3, 0), .inl (g.2.1 0, len, .inl f)) := by rw [← hh10]; exact z_keep L16_sc L16_b (z_t1 (by decide))
              have f10_tr : h10 tr = some ((10, 0), .inl (g.2.1 0, 255, .inl ft1)) := by rw [← hh10]; exact z_keep L16_sc L16_tr (z_t1 (by decide))
              have kk10 : z_K (fun y => y = 6 ∨ y = 10) h h10 := kkL.tr (by rw [← hh10]; exact z_K.put L16_sc (by first | decide | simp | omega))
              refine W.eq (g2 := F0 m 45 ls []) rfl ?_
              refine lv_iload_n hx hb d_RecordReader_readText_45 rfl (lv_at hl 2 rfl) ?_
              have eW : txR t n p = .inr (p1 + 1, l1) := by
                unfold txR; rw [if_pos ts1, ← hR1]
                rw [show 256 - l1.length = (256 - (l1.length + 1)) + 1 by omega]; simp only [txL]; rw [if_pos c_34]
              have z9 := bt_lt (c := 39) c_34
              exact z_iret hx hb hr hlocks hw (by rw [eW]; exact ⟨kk10, rfl, ⟨_, _, _, f10_sc⟩, by show p1 + 1 ≤ n; omega, ⟨_, f10_tr, hT1.1, hT1.2⟩, le1.2⟩) (by decide) (by decide) d_RecordReader_readText_46
      exact loop_16 (256 - 0 + 1) 0 ([]) (sk t n p + 1) fa ws wd ft h1 _ _ _ f1_rd f1_sc f1_b f1_tr rfl kk1 (⟨by have z := bt_lt (c := 39) ts1; omega, by simp⟩) (⟨hft, fun k hk => by simp at hk⟩) rfl (by omega) hw (lv_sub hl [1, 0] rfl)
    · -- 9: False
      exact absurd c_9 (by decide)
  · -- ts1 False
    rw [if_neg ts1] at hp
    obtain ⟨r8, hh11⟩ := hp
    subst r8
    obtain ⟨h11, e8⟩ : ∃ x9, x9 = h9 := ⟨_, rfl⟩
    subst e8
    have f11_rd : h11 rd = some ((8, 0), .inr (9, [.ref sc, .ref q, .ref w, .ref tr, .long nu9])) := by rw [← hh11]; exact z_keep hsc hrd (z_t1 (by decide))
    have f11_sc : h11 sc = some ((6, 0), .inr (7, [.ref b, .int (nI n), .int (nI (sk t n p)), .int (nI (sk t n p)), .int ws, .int wd])) := by rw [← hh11]; exact z_put_eq
    have f11_b : h11 b = some ((3, 0), .inl (g.2.1 0, len, .inl f)) := by rw [← hh11]; exact z_keep hsc hb0 (z_t1 (by decide))
    have f11_tr : h11 tr = some ((10, 0), .inl (g.2.1 0, 255, .inl ft)) := by rw [← hh11]; exact z_keep hsc htr (z_t1 (by decide))
    have kk11 : z_K (fun y => y = 6 ∨ y = 10) h h11 := kk0.tr (by rw [← hh11]; exact z_K.put hsc (by first | decide | simp | omega))
    refine W.eq (g2 := F0 m 9 ls [.int 0]) rfl ?_
    refine lv_if_ne (tgt := 14) hx hb d_RecordReader_readText_9 (by decide) (fun c_9 => ?_) (fun c_9 => ?_)
    · -- 9: True
      exact absurd (by decide) c_9
    · -- 9: False
      refine lv_iconst (v := (-1)) hx hb d_RecordReader_readText_12 (by decide) ?_
      have eW : txR t n p = .inl (sk t n p) := if_neg ts1
      exact z_iret hx hb hr hlocks hw (by rw [eW]; exact ⟨kk11, rfl, ⟨_, _, _, _, f11_sc, rfl⟩, ⟨_, f11_tr, hft, fun k hk => by simp at hk⟩⟩) (by decide) (by decide) d_RecordReader_readText_13

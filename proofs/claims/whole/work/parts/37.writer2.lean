def pw10 (k : Nat) : Int64 := Int64.ofNat (10 ^ k)
def un10 : Nat → Int64
  | 0 => 0
  | e + 1 => pw10 e
theorem pw10_t : ∀ k, k < 19 → (pw10 k).toInt = ((10 ^ k : Nat) : Int) := by decide +kernel
theorem pw10_m : ∀ k, k < 18 → pw10 k * 10 = pw10 (k + 1) := by decide +kernel
theorem un10_d : ∀ e, e < 20 → un10 e / 10 = un10 (e - 1) := by decide +kernel
theorem un10_0 : ∀ e, e < 20 → (un10 e ≤ 0 ↔ e = 0) := by decide +kernel
theorem un10_n : ∀ e, e < 20 → 0 < e → un10 e ≠ 0 ∧ un10 e ≠ -1 := by decide +kernel
theorem un10_t : ∀ e, e < 20 → 0 < e → (un10 e).toInt = ((10 ^ (e - 1) : Nat) : Int) := by decide +kernel
theorem num_q {r : Int64} {m e : Nat} (hr : r.toInt = -(m : Int)) (he : e < 20) (h0 : 0 < e) : (r / un10 e).toInt = -((m / 10 ^ (e - 1) : Nat) : Int) := by
  rw [Int64.toInt_div_of_ne_right _ _ (un10_n e he h0).2, hr, un10_t e he h0, Int.neg_tdiv]
  rw [Int.ofNat_tdiv]
theorem num_le {r : Int64} {m e : Nat} (hr : r.toInt = -(m : Int)) (he : e < 20) (h0 : 0 < e) : r / un10 e > -10 ↔ ¬ 10 ≤ m / 10 ^ (e - 1) := by
  show -10 < r / un10 e ↔ _
  rw [Int64.lt_iff_toInt_lt, num_q hr he h0]
  have : (-10 : Int64).toInt = -10 := rfl
  omega
theorem num_leK {r : Int64} {m k : Nat} (hr : r.toInt = -(m : Int)) (hk : k < 19) : r / un10 (k + 1) > -10 ↔ ¬ 10 ≤ m / 10 ^ k := num_le hr (by omega) (by omega)
theorem rem10 {x : Int64} {q : Nat} (hx : x.toInt = -(q : Int)) : (x - x / 10 * 10).toInt = -((q % 10 : Nat) : Int) := by
  have h1 : (x / 10).toInt = -((q / 10 : Nat) : Int) := by
    rw [Int64.toInt_div_of_ne_right _ _ (by decide), hx, show (10 : Int64).toInt = ((10 : Nat) : Int) from rfl, Int.neg_tdiv, Int.ofNat_tdiv]
  have b1 := Int64.le_toInt x
  have h2 : (x / 10 * 10).toInt = -((q / 10 * 10 : Nat) : Int) := by
    rw [Int64.toInt_mul, h1, show (10 : Int64).toInt = 10 from rfl]
    rw [Int.bmod_eq_of_le (by omega) (by omega)]
    omega
  rw [Int64.toInt_sub, hx, h2, Int.bmod_eq_of_le (by omega) (by omega)]
  omega
theorem num_dig {r : Int64} {m e : Nat} (hr : r.toInt = -(m : Int)) (he : e < 20) (h0 : 0 < e) : (48 : Int32) - (r / un10 e - r / un10 e / 10 * 10).toInt32 = nI (48 + m / 10 ^ (e - 1) % 10) := by
  have h1 := rem10 (num_q hr he h0)
  apply Int32.toInt_inj.mp
  rw [Int32.toInt_sub, Int64.toInt_toInt32, h1, nI_toInt (by omega), show (48 : Int32).toInt = 48 from rfl]
  rw [Int.bmod_eq_of_le (n := -((m / 10 ^ (e - 1) % 10 : Nat) : Int)) (by omega) (by omega), Int.bmod_eq_of_le (by omega) (by omega)]
  omega
theorem neg_rst {v : Int64} (h : v < 0) : v.toInt = -(v.toInt.natAbs : Int) := by
  rw [Int64.lt_iff_toInt_lt] at h
  have : (0 : Int64).toInt = 0 := rfl
  omega
theorem pos_rst {v : Int64} (h : ¬ v < 0) : (-v).toInt = -(v.toInt.natAbs : Int) := by
  rw [Int64.lt_iff_toInt_lt] at h
  have : (0 : Int64).toInt = 0 := rfl
  have b1 := Int64.toInt_lt v
  rw [Int64.toInt_neg, Int.bmod_eq_of_le (by omega) (by omega)]
  omega
/-- digits of m from the e-th up from the right -/
def decT : Nat → Nat → List Nat
  | 0, _ => []
  | e + 1, m => (48 + m / 10 ^ e % 10) :: decT e m
theorem decT_len : ∀ e m, (decT e m).length = e := by
  intro e
  induction e with
  | zero => intro m; rfl
  | succ e ih => intro m; simp only [decT, List.length_cons, ih]
theorem decT_step {e : Nat} (h : 0 < e) (m : Nat) : decT e m = (48 + m / 10 ^ (e - 1) % 10) :: decT (e - 1) m := by
  cases e with
  | zero => omega
  | succ e => rfl
def kdR : Nat → Nat → Nat → Nat
  | 0, k, _ => k
  | r + 1, k, m => if 10 ≤ m / 10 ^ k then kdR r (k + 1) m else k
def kd (m : Nat) : Nat := kdR 18 0 m
theorem kdR_le : ∀ r k m, kdR r k m ≤ k + r := by
  intro r
  induction r with
  | zero => intro k m; exact Nat.le_refl _
  | succ r ih => intro k m; simp only [kdR]; split; have := ih (k + 1) m; omega; omega
def numO (v : Int64) : List Nat := (if v < 0 then [45] else []) ++ decT (kd v.toInt.natAbs + 1) v.toInt.natAbs
theorem numO_len (v : Int64) : (numO v).length = (if v < 0 then 1 else 0) + (kd v.toInt.natAbs + 1) ∧ kd v.toInt.natAbs ≤ 18 := by
  have := kdR_le 18 0 v.toInt.natAbs
  refine ⟨?_, by unfold kd; omega⟩
  unfold numO
  rw [List.length_append, decT_len]
  split <;> rfl

set_option maxHeartbeats 4000000 in
set_option maxRecDepth 100000 in
theorem c_putTextT (l : Launch) (g : z_G) (h : z_H) {wr q nw ow j : Nat} {O : List Nat} {nq : Nat} {tg : Nat × Nat} {lq : List Nat} {f : Nat → Int32} (hwr : h wr = some ((9, 0), .inr (10, [.ref q, .ref nw, .ref ow]))) (hnq : h nq = some (tg, .inl (g.2.1 0, lq.length, .inl f))) (hO : OutB g h ow j O) (hj : j ≤ 8) (hlen : O.length + (txO lq).length ≤ 262144) (htg : tg.1 ≠ 4 ∧ tg.1 ≠ 5) (hlq : lq.length < 1000 ∧ ∀ k, k < lq.length → lq.getD k 0 < 256 ∧ f k = sb_b (lq.getD k 0)) : z_C l y_RecordWriter_putText prog_7_method_8_code 3 (Option.none : Option Jvm.ClassFile.FieldType) 7 190 (jf j (O ++ (txO lq)).length - jf j O.length) (slj j (O ++ (txO lq)).length - slj j O.length) g [.ref wr, .ref nq] h (fun x h1 => x = none ∧ OutB g h1 ow j (O ++ (txO lq)) ∧ z_K (fun y => y = 4 ∨ y = 5) h h1) := by
  refine z_C.of (by decide) (Nat.le_of_ble_eq_true rfl) (fun pg en s m below meth cd A ls hx hb hml hr hts hown hlocks hnm hK hE hA hw hl => ?_)
  have hl : lv_has ls 3 [(0, .ref wr), (1, .ref nq)] := hl
  have lX : (O ++ (txO lq)).length = O.length + (txO lq).length := List.length_append
  have mX := jf_mono j (show O.length ≤ (O ++ (txO lq)).length by omega)
  have lT : (txO lq).length = 1 + (tlO lq).length + 1 := by unfold txO; rw [List.length_append, List.length_append]; rfl
  have kk0 : z_K (fun y => y = 4 ∨ y = 5) h h := z_K.rf
  refine lv_aload_n hx hb d_RecordWriter_putText_0 rfl (lv_at hl 0 rfl) ?_
  refine z_get hx hb hts (z_lay i_RecordWriter) hown hK hw hwr rfl 2 (by decide) (z_in k_691 rfl) (fun _ h9 => h9) rfl d_RecordWriter_putText_1 ?_
  refine lv_bipush (v := 39) hx hb d_RecordWriter_putText_4 (by decide) ?_
  obtain ⟨ob_1, f_1, how_1, -⟩ := id hO
  have ln_1 : (O ++ ([39])).length = O.length + ([39]).length := List.length_append
  simp only [List.length_cons, List.length_nil] at ln_1
  have ma_1 := jf_mono j (show O.length ≤ (O ++ ([39])).length by omega)
  have mb_1 := jf_mono j (show (O ++ ([39])).length ≤ (O ++ (txO lq)).length by omega)
  refine z_callV (n := 1) (As := [.int 39]) (rest := []) ⟨hx, hb, hml, hown, hts⟩ (c_put2 (O := O) (b := 39) l g h hO ⟨by decide, by decide⟩ (by omega) hj) (z_in k_707 rfl) (z_in k_3 rfl) (z_in k_704 rfl) (z_in k_705 rfl) (z_in k_706 rfl) (by decide +kernel) ⟨by first | exact Nat.le_of_ble_eq_true rfl | (dsimp only; omega) | omega, by first | exact Nat.le_of_ble_eq_true rfl | (dsimp only; omega) | omega⟩ hK hE hw hA rfl how_1 rfl hl.1 (Nat.le_of_ble_eq_true rfl) d_RecordWriter_putText_6 ⟨by first | exact Nat.le_of_ble_eq_true rfl | (dsimp only; omega) | omega, by first | exact Nat.le_of_ble_eq_true rfl | (dsimp only; omega) | omega⟩ rfl (fun r9 h9 H locs hp hw => ?_)
  obtain ⟨r8, o8, k8⟩ := hp
  subst r8
  obtain ⟨h1, e7⟩ : ∃ x9, x9 = h9 := ⟨_, rfl⟩
  subst e7
  generalize eO_1 : O ++ ([39]) = O_1 at o8 ln_1 ma_1 mb_1 ⊢
  have oh_1 := o8
  have g1_wr : h1 wr = some ((9, 0), .inr (10, [.ref q, .ref nw, .ref ow])) := k8 _ _ _ hwr (by simp; try omega)
  have g1_nq : h1 nq = some (tg, .inl (g.2.1 0, lq.length, .inl f)) := k8 _ _ _ hnq (by simp; try omega)
  have kk1 : z_K (fun y => y = 4 ∨ y = 5) h h1 := kk0.tr k8
  refine W.eq (g2 := F0 m 9 ls []) rfl ?_
  refine lv_iconst (v := 0) hx hb d_RecordWriter_putText_9 (by decide) ?_
  refine lv_istore_n (lv' := [(2, .int 0), (0, .ref wr), (1, .ref nq)]) hx hb d_RecordWriter_putText_10 rfl hl (by decide) rfl (fun ls hl => ?_)
  have loop_11 : ∀ (fuel : Nat) (k1 : Nat) (O1 : List Nat) (hL : z_H) (H : Heap) (locs : List Loc) (ls : Array Slot) (L11_wr : hL wr = some ((9, 0), .inr (10, [.ref q, .ref nw, .ref ow]))) (L11_nq : hL nq = some (tg, .inl (g.2.1 0, lq.length, .inl f))) (kkL : z_K (fun y => y = 4 ∨ y = 5) h hL) (oh1 : OutB g hL ow j O1) (le1 : k1 ≤ lq.length ∧ O1 = O ++ ([39] ++ tlO (lq.take k1))), (lq.length - k1) < fuel → z_S g A s.heap hL H locs → lv_has ls 3 [(0, .ref wr), (1, .ref nq), (2, .int (nI k1))] → W pg l en { frames := 7, cells := jf j (O ++ (txO lq)).length - jf j O.length, slots := slj j (O ++ (txO lq)).length - slj j O.length, locals := 190 } s m [.ref wr, .ref nq].toArray below meth cd H locs (jf j O1.length - jf j O.length) (slj j O1.length - slj j O.length) (MQ below (z_Q g A (fun x h1 => x = none ∧ OutB g h1 ow j (O ++ (txO lq)) ∧ z_K (fun y => y = 4 ∨ y = 5) h h1)) [.ref wr, .ref nq].toArray s (jf j (O ++ (txO lq)).length - jf j O.length) (slj j (O ++ (txO lq)).length - slj j O.length) A) (F0 m 11 ls []) := by
    intro fuel
    induction fuel with
    | zero => intro k1 O1 hL H locs ls L11_wr L11_nq kkL oh1 le1 hm; exact absurd hm (Nat.not_lt_zero _)
    | succ fuel ih_11 =>
      intro k1 O1 hL H locs ls L11_wr L11_nq kkL oh1 le1 hm hw hl
      have ll1 : O1.length = O.length + (1 + (tlO (lq.take k1)).length) := by rw [le1.2, List.length_append, List.length_append]; rfl
      have ll2 := tlO_take lq k1
      have mk1 := jf_mono j (show O.length ≤ O1.length by omega)
      have mk2 := jf_mono j (show O1.length ≤ (O ++ (txO lq)).length by omega)
      refine lv_iload_n hx hb d_RecordWriter_putText_11 rfl (lv_at hl 2 rfl) ?_
      refine lv_aload_n hx hb d_RecordWriter_putText_12 rfl (lv_at hl 1 rfl) ?_
      refine z_alen hx hb hK hw L11_nq 0 rfl d_RecordWriter_putText_13 ?_
      refine lv_icmp_ge (tgt := 34) hx hb d_RecordWriter_putText_14 (by decide) (fun c_14 => ?_) (fun c_14 => ?_)
      · -- 14: True
        have c_14 : lq.length ≤ k1 := (nI_leI (a := lq.length) (b := k1) (by omega) (by omega)).mp c_14
        refine lv_aload_n hx hb d_RecordWriter_putText_34 rfl (lv_at hl 0 rfl) ?_
        refine z_get hx hb hts (z_lay i_RecordWriter) hown hK hw L11_wr rfl 2 (by decide) (z_in k_691 rfl) (fun _ h9 => h9) rfl d_RecordWriter_putText_35 ?_
        refine lv_bipush (v := 39) hx hb d_RecordWriter_putText_38 (by decide) ?_
        obtain ⟨ob_2, f_2, how_2, -⟩ := id oh1
        have ln_2 : (O1 ++ ([39])).length = O1.length + ([39]).length := List.length_append
        simp only [List.length_cons, List.length_nil] at ln_2
        have ma_2 := jf_mono j (show O1.length ≤ (O1 ++ ([39])).length by omega)
        have mb_2 := jf_mono j (show (O1 ++ ([39])).length ≤ (O ++ (txO lq)).length by omega)
        refine z_callV (n := 1) (As := [.int 39]) (rest := []) ⟨hx, hb, hml, hown, hts⟩ (c_put2 (O := O1) (b := 39) l g hL oh1 ⟨by decide, by decide⟩ (by omega) hj) (z_in k_707 rfl) (z_in k_3 rfl) (z_in k_704 rfl) (z_in k_705 rfl) (z_in k_706 rfl) (by decide +kernel) ⟨by first | exact Nat.le_of_ble_eq_true rfl | (dsimp only; omega) | omega, by first | exact Nat.le_of_ble_eq_true rfl | (dsimp only; omega) | omega⟩ hK hE hw hA rfl how_2 rfl hl.1 (Nat.le_of_ble_eq_true rfl) d_RecordWriter_putText_40 ⟨by first | exact Nat.le_of_ble_eq_true rfl | (dsimp only; omega) | omega, by first | exact Nat.le_of_ble_eq_true rfl | (dsimp only; omega) | omega⟩ rfl (fun r9 h9 H locs hp hw => ?_)
        obtain ⟨r8, o8, k8⟩ := hp
        subst r8
        obtain ⟨h2, e7⟩ : ∃ x9, x9 = h9 := ⟨_, rfl⟩
        subst e7
        generalize eO_2 : O1 ++ ([39]) = O_2 at o8 ln_2 ma_2 mb_2 ⊢
        have oh_2 := o8
        have g2_wr : h2 wr = some ((9, 0), .inr (10, [.ref q, .ref nw, .ref ow])) := k8 _ _ _ L11_wr (by simp; try omega)
        have g2_nq : h2 nq = some (tg, .inl (g.2.1 0, lq.length, .inl f)) := k8 _ _ _ L11_nq (by simp; try omega)
        have kk2 : z_K (fun y => y = 4 ∨ y = 5) h h2 := kkL.tr k8
        refine W.eq (g2 := F0 m 43 ls []) rfl ?_
        have eF : O_2 = O ++ (txO lq) := by rw [← eO_2]; rw [le1.2, show k1 = lq.length by omega, List.take_length]; simp [txO]
        have eJ : jf j O_2.length = jf j (O ++ (txO lq)).length ∧ slj j O_2.length = slj j (O ++ (txO lq)).length := ⟨congrArg (fun x => jf j x.length) eF, congrArg (fun x => slj j x.length) eF⟩
        exact z_vret hx hb hr hlocks hw ⟨rfl, eF ▸ oh_2, kk2⟩ (by first | exact Nat.le_of_ble_eq_true rfl | (dsimp only; omega) | omega) (by first | exact Nat.le_of_ble_eq_true rfl | (dsimp only; omega) | omega) d_RecordWriter_putText_43
      · -- 14: False
        have c_14 : ¬ (lq.length ≤ k1) := fun z => c_14 ((nI_leI (a := lq.length) (b := k1) (by omega) (by omega)).mpr z)
        have tl1 : (tlO (lq.take k1)).length + (tbO (lq.getD k1 0)).length ≤ (tlO lq).length := by have z := tlO_take lq (k1 + 1); rw [take_succ' lq (by omega), tlO_app, tlO_one, List.length_append] at z; exact z
        obtain ⟨c8, hc8, ec8⟩ : ∃ c, c < 256 ∧ lq.getD k1 0 = c := ⟨_, (hlq.2 k1 (by omega)).1, rfl⟩
        refine lv_aload_n hx hb d_RecordWriter_putText_17 rfl (lv_at hl 0 rfl) ?_
        refine lv_aload_n hx hb d_RecordWriter_putText_18 rfl (lv_at hl 1 rfl) ?_
        refine lv_iload_n hx hb d_RecordWriter_putText_19 rfl (lv_at hl 2 rfl) ?_
        refine z_bald hx hb hK hw L11_nq 0 rfl (vp_in_nI (by omega) (by omega)) d_RecordWriter_putText_20 ?_
        refine z_topi (y := f k1) (by rw [nI_clamp (by omega)]) ?_
        refine lv_sipush (v := 255) hx hb d_RecordWriter_putText_21 (by decide) ?_
        refine lv_iand hx hb d_RecordWriter_putText_24 ?_
        refine z_topi (y := nI (lq.getD k1 0)) (by rw [(hlq.2 k1 (by omega)).2]; exact (sb_byte _ (hlq.2 k1 (by omega)).1).1) ?_
        have ln_3 : (O1 ++ (tbO (lq.getD k1 0))).length = O1.length + (tbO (lq.getD k1 0)).length := List.length_append
        have ma_3 := jf_mono j (show O1.length ≤ (O1 ++ (tbO (lq.getD k1 0))).length by omega)
        have mb_3 := jf_mono j (show (O1 ++ (tbO (lq.getD k1 0))).length ≤ (O ++ (txO lq)).length by omega)
        refine z_callV (n := 1) (As := [.int (nI (lq.getD k1 0))]) (rest := []) ⟨hx, hb, hml, hown, hts⟩ (c_putTextByte (O := O1) (c := lq.getD k1 0) l g hL L11_wr oh1 hj (by have := tl1; omega) (hlq.2 k1 (by omega)).1) (z_in k_735 rfl) (z_in k_19 rfl) (z_in k_732 rfl) (z_in k_734 rfl) (z_in ks_22 rfl) (by decide +kernel) ⟨by first | exact Nat.le_of_ble_eq_true rfl | (dsimp only; omega) | omega, by first | exact Nat.le_of_ble_eq_true rfl | (dsimp only; omega) | omega⟩ hK hE hw hA rfl L11_wr rfl hl.1 (Nat.le_of_ble_eq_true rfl) d_RecordWriter_putText_25 ⟨by first | exact Nat.le_of_ble_eq_true rfl | (dsimp only; omega) | omega, by first | exact Nat.le_of_ble_eq_true rfl | (dsimp only; omega) | omega⟩ rfl (fun r9 h9 H locs hp hw => ?_)
        obtain ⟨r8, o8, k8⟩ := hp
        subst r8
        obtain ⟨h3, e7⟩ : ∃ x9, x9 = h9 := ⟨_, rfl⟩
        subst e7
        generalize eO_3 : O1 ++ (tbO (lq.getD k1 0)) = O_3 at o8 ln_3 ma_3 mb_3 ⊢
        have oh_3 := o8
        have g3_wr : h3 wr = some ((9, 0), .inr (10, [.ref q, .ref nw, .ref ow])) := k8 _ _ _ L11_wr (by simp; try omega)
        have g3_nq : h3 nq = some (tg, .inl (g.2.1 0, lq.length, .inl f)) := k8 _ _ _ L11_nq (by simp; try omega)
        have kk3 : z_K (fun y => y = 4 ∨ y = 5) h h3 := kkL.tr k8
        refine W.eq (g2 := F0 m 28 ls []) rfl ?_
        refine lv_iinc (v := nI (k1 + 1)) (lv' := [(2, .int (nI (k1 + 1))), (0, .ref wr), (1, .ref nq)]) hx hb d_RecordWriter_putText_28 hl (k := 2) rfl (nI_1 k1) (by decide) rfl (fun ls hl => ?_)
        refine lv_goto (tgt := 11) hx hb d_RecordWriter_putText_31 (by decide) ?_
        refine W.widen (k := jf j O_3.length - jf j O.length) (n := slj j O_3.length - slj j O.length) (by first | exact Nat.le_of_ble_eq_true rfl | (dsimp only; omega) | omega) (by first | exact Nat.le_of_ble_eq_true rfl | (dsimp only; omega) | omega) ?_
        refine ih_11 (k1 + 1) O_3 h3 _ _ _ g3_wr g3_nq kk3 oh_3 (⟨by omega, by rw [← eO_3, le1.2, take_succ' lq (by omega), tlO_app, tlO_one]; simp⟩) ?_ hw (lv_sub hl [1, 2, 0] rfl)
        omega
  refine W.widen (k := jf j O_1.length - jf j O.length) (n := slj j O_1.length - slj j O.length) (by first | exact Nat.le_of_ble_eq_true rfl | (dsimp only; omega) | omega) (by first | exact Nat.le_of_ble_eq_true rfl | (dsimp only; omega) | omega) ?_
  exact loop_11 (lq.length - 0 + 1) 0 O_1 h1 _ _ _ g1_wr g1_nq kk1 oh_1 (⟨by omega, by rw [← eO_1]; simp [tlO]⟩) (by omega) hw (lv_sub hl [1, 2, 0] rfl)

set_option maxHeartbeats 4000000 in
set_option maxRecDepth 100000 in
theorem c_putText0 (l : Launch) (g : z_G) (h : z_H) {wr q nw ow j : Nat} {O : List Nat}  (hwr : h wr = some ((9, 0), .inr (10, [.ref q, .ref nw, .ref ow]))) (hO : OutB g h ow j O) (hj : j ≤ 8) (hlen : O.length + (txO []).length ≤ 262144)  : z_C l y_RecordWriter_putText prog_7_method_8_code 3 (Option.none : Option Jvm.ClassFile.FieldType) 7 190 (jf j (O ++ (txO [])).length - jf j O.length) (slj j (O ++ (txO [])).length - slj j O.length) g [.ref wr, .ref (g.2.2 0)] h (fun x h1 => x = none ∧ OutB g h1 ow j (O ++ (txO [])) ∧ z_K (fun y => y = 4 ∨ y = 5) h h1) := by
  refine z_C.of (by decide) (Nat.le_of_ble_eq_true rfl) (fun pg en s m below meth cd A ls hx hb hml hr hts hown hlocks hnm hK hE hA hw hl => ?_)
  have hl : lv_has ls 3 [(0, .ref wr), (1, .ref (g.2.2 0))] := hl
  have lX : (O ++ (txO [])).length = O.length + (txO []).length := List.length_append
  have mX := jf_mono j (show O.length ≤ (O ++ (txO [])).length by omega)
  have lT : (txO []).length = 2 := rfl
  have kk0 : z_K (fun y => y = 4 ∨ y = 5) h h := z_K.rf
  refine lv_aload_n hx hb d_RecordWriter_putText_0 rfl (lv_at hl 0 rfl) ?_
  refine z_get hx hb hts (z_lay i_RecordWriter) hown hK hw hwr rfl 2 (by decide) (z_in k_691 rfl) (fun _ h9 => h9) rfl d_RecordWriter_putText_1 ?_
  refine lv_bipush (v := 39) hx hb d_RecordWriter_putText_4 (by decide) ?_
  obtain ⟨ob_1, f_1, how_1, -⟩ := id hO
  have ln_1 : (O ++ ([39])).length = O.length + ([39]).length := List.length_append
  simp only [List.length_cons, List.length_nil] at ln_1
  have ma_1 := jf_mono j (show O.length ≤ (O ++ ([39])).length by omega)
  have mb_1 := jf_mono j (show (O ++ ([39])).length ≤ (O ++ (txO [])).length by omega)
  refine z_callV (n := 1) (As := [.int 39]) (rest := []) ⟨hx, hb, hml, hown, hts⟩ (c_put2 (O := O) (b := 39) l g h hO ⟨by decide, by decide⟩ (by omega) hj) (z_in k_707 rfl) (z_in k_3 rfl) (z_in k_704 rfl) (z_in k_705 rfl) (z_in k_706 rfl) (by decide +kernel) ⟨by first | exact Nat.le_of_ble_eq_true rfl | (dsimp only; omega) | omega, by first | exact Nat.le_of_ble_eq_true rfl | (dsimp only; omega) | omega⟩ hK hE hw hA rfl how_1 rfl hl.1 (Nat.le_of_ble_eq_true rfl) d_RecordWriter_putText_6 ⟨by first | exact Nat.le_of_ble_eq_true rfl | (dsimp only; omega) | omega, by first | exact Nat.le_of_ble_eq_true rfl | (dsimp only; omega) | omega⟩ rfl (fun r9 h9 H locs hp hw => ?_)
  obtain ⟨r8, o8, k8⟩ := hp
  subst r8
  obtain ⟨h1, e7⟩ : ∃ x9, x9 = h9 := ⟨_, rfl⟩
  subst e7
  generalize eO_1 : O ++ ([39]) = O_1 at o8 ln_1 ma_1 mb_1 ⊢
  have oh_1 := o8
  have g1_wr : h1 wr = some ((9, 0), .inr (10, [.ref q, .ref nw, .ref ow])) := k8 _ _ _ hwr (by simp; try omega)
  have kk1 : z_K (fun y => y = 4 ∨ y = 5) h h1 := kk0.tr k8
  refine W.eq (g2 := F0 m 9 ls []) rfl ?_
  refine lv_iconst (v := 0) hx hb d_RecordWriter_putText_9 (by decide) ?_
  refine lv_istore_n (lv' := [(2, .int 0), (0, .ref wr), (1, .ref (g.2.2 0))]) hx hb d_RecordWriter_putText_10 rfl hl (by decide) rfl (fun ls hl => ?_)
  refine lv_iload_n hx hb d_RecordWriter_putText_11 rfl (lv_at hl 0 rfl) ?_
  refine lv_aload_n hx hb d_RecordWriter_putText_12 rfl (lv_at hl 2 rfl) ?_
  refine z_noblen hx hb hE hw d_RecordWriter_putText_13 ?_
  refine lv_icmp_ge (tgt := 34) hx hb d_RecordWriter_putText_14 (by decide) (fun c_14 => ?_) (fun c_14 => ?_)
  · -- 14: True
    have c_14 : 0 ≤ 0 := (nI_leI (a := 0) (b := 0) (by omega) (by omega)).mp c_14
    refine lv_aload_n hx hb d_RecordWriter_putText_34 rfl (lv_at hl 1 rfl) ?_
    refine z_get hx hb hts (z_lay i_RecordWriter) hown hK hw g1_wr rfl 2 (by decide) (z_in k_691 rfl) (fun _ h9 => h9) rfl d_RecordWriter_putText_35 ?_
    refine lv_bipush (v := 39) hx hb d_RecordWriter_putText_38 (by decide) ?_
    obtain ⟨ob_2, f_2, how_2, -⟩ := id oh_1
    have ln_2 : (O_1 ++ ([39])).length = O_1.length + ([39]).length := List.length_append
    simp only [List.length_cons, List.length_nil] at ln_2
    have ma_2 := jf_mono j (show O_1.length ≤ (O_1 ++ ([39])).length by omega)
    have mb_2 := jf_mono j (show (O_1 ++ ([39])).length ≤ (O ++ (txO [])).length by omega)
    refine z_callV (n := 1) (As := [.int 39]) (rest := []) ⟨hx, hb, hml, hown, hts⟩ (c_put2 (O := O_1) (b := 39) l g h1 oh_1 ⟨by decide, by decide⟩ (by omega) hj) (z_in k_707 rfl) (z_in k_3 rfl) (z_in k_704 rfl) (z_in k_705 rfl) (z_in k_706 rfl) (by decide +kernel) ⟨by first | exact Nat.le_of_ble_eq_true rfl | (dsimp only; omega) | omega, by first | exact Nat.le_of_ble_eq_true rfl | (dsimp only; omega) | omega⟩ hK hE hw hA rfl how_2 rfl hl.1 (Nat.le_of_ble_eq_true rfl) d_RecordWriter_putText_40 ⟨by first | exact Nat.le_of_ble_eq_true rfl | (dsimp only; omega) | omega, by first | exact Nat.le_of_ble_eq_true rfl | (dsimp only; omega) | omega⟩ rfl (fun r9 h9 H locs hp hw => ?_)
    obtain ⟨r8, o8, k8⟩ := hp
    subst r8
    obtain ⟨h2, e7⟩ : ∃ x9, x9 = h9 := ⟨_, rfl⟩
    subst e7
    generalize eO_2 : O_1 ++ ([39]) = O_2 at o8 ln_2 ma_2 mb_2 ⊢
    have oh_2 := o8
    have g2_wr : h2 wr = some ((9, 0), .inr (10, [.ref q, .ref nw, .ref ow])) := k8 _ _ _ g1_wr (by simp; try omega)
    have kk2 : z_K (fun y => y = 4 ∨ y = 5) h h2 := kk1.tr k8
    refine W.eq (g2 := F0 m 43 ls []) rfl ?_
    have eF : O_2 = O ++ (txO []) := by rw [← eO_2, ← eO_1]; simp [txO, tlO]
    have eJ : jf j O_2.length = jf j (O ++ (txO [])).length ∧ slj j O_2.length = slj j (O ++ (txO [])).length := ⟨congrArg (fun x => jf j x.length) eF, congrArg (fun x => slj j x.length) eF⟩
    exact z_vret hx hb hr hlocks hw ⟨rfl, eF ▸ oh_2, kk2⟩ (by first | exact Nat.le_of_ble_eq_true rfl | (dsimp only; omega) | omega) (by first | exact Nat.le_of_ble_eq_true rfl | (dsimp only; omega) | omega) d_RecordWriter_putText_43
  · -- 14: False
    have c_14 : ¬ (0 ≤ 0) := fun z => c_14 ((nI_leI (a := 0) (b := 0) (by omega) (by omega)).mpr z)
    omega

set_option maxHeartbeats 4000000 in
set_option maxRecDepth 100000 in
theorem c_putNumber (l : Launch) (g : z_G) (h : z_H) {wr q nw ow j : Nat} {O : List Nat} {v : Int64} (hwr : h wr = some ((9, 0), .inr (10, [.ref q, .ref nw, .ref ow]))) (hO : OutB g h ow j O) (hj : j ≤ 8) (hlen : O.length + (numO v).length ≤ 262144)  : z_C l y_RecordWriter_putNumber prog_7_method_11_code 8 (Option.none : Option Jvm.ClassFile.FieldType) 3 110 (jf j (O ++ (numO v)).length - jf j O.length) (slj j (O ++ (numO v)).length - slj j O.length) g [.ref wr, .long v] h (fun x h1 => x = none ∧ OutB g h1 ow j (O ++ (numO v)) ∧ z_K (fun y => y = 4 ∨ y = 5) h h1) := by
  refine z_C.of (by decide) (Nat.le_of_ble_eq_true rfl) (fun pg en s m below meth cd A ls hx hb hml hr hts hown hlocks hnm hK hE hA hw hl => ?_)
  have hl : lv_has ls 8 [(0, .ref wr), (1, .long v)] := hl
  have lX : (O ++ (numO v)).length = O.length + (numO v).length := List.length_append
  have mX := jf_mono j (show O.length ≤ (O ++ (numO v)).length by omega)
  obtain ⟨nl1, nl2⟩ := numO_len v
  have nl3 : (if v < 0 then 1 else 0) ≤ 1 := by split <;> omega
  have kk0 : z_K (fun y => y = 4 ∨ y = 5) h h := z_K.rf
  refine lv_lload_n hx hb d_RecordWriter_putNumber_0 rfl (lv_at hl 1 rfl) ?_
  refine lv_lconst (v := 0) hx hb d_RecordWriter_putNumber_1 (by decide) ?_
  refine W.lcmp hx hb d_RecordWriter_putNumber_2 ?_
  refine lv_if_ge (tgt := 15) hx hb d_RecordWriter_putNumber_3 (by decide) (fun c_3 => ?_) (fun c_3 => ?_)
  · -- 3: True
    have c_3 : (v : Int64) ≥ 0 := (lg_cmp_ge _ _).mp c_3
    refine lv_lload_n hx hb d_RecordWriter_putNumber_15 rfl (lv_at hl 1 rfl) ?_
    refine lv_lconst (v := 0) hx hb d_RecordWriter_putNumber_16 (by decide) ?_
    refine W.lcmp hx hb d_RecordWriter_putNumber_17 ?_
    refine lv_if_ge (tgt := 25) hx hb d_RecordWriter_putNumber_18 (by decide) (fun c_18 => ?_) (fun c_18 => ?_)
    · -- 18: True
      have c_18 : (v : Int64) ≥ 0 := (lg_cmp_ge _ _).mp c_18
      refine lv_lload_n hx hb d_RecordWriter_putNumber_25 rfl (lv_at hl 1 rfl) ?_
      refine lv_lneg hx hb d_RecordWriter_putNumber_26 ?_
      have hrs : (-v : Int64).toInt = -(v.toInt.natAbs : Int) := pos_rst (fun z => absurd z (Int64.not_lt.mpr c_3))
      have eX : O ++ numO v = O ++ decT (kd v.toInt.natAbs + 1) v.toInt.natAbs := by unfold numO; rw [if_neg (Int64.not_lt.mpr c_3)]; simp
      have lV : (O ++ numO v).length = O.length + (kd v.toInt.natAbs + 1) := by rw [eX, List.length_append, decT_len]
      have mq1 := jf_mono j (show O.length ≤ O.length by omega)
      refine lv_lstore_n (lv' := [(3, .long (-v)), (0, .ref wr), (1, .long v)]) hx hb d_RecordWriter_putNumber_27 rfl hl (by decide) rfl (fun ls hl => ?_)
      refine lv_lconst (v := 1) hx hb d_RecordWriter_putNumber_28 (by decide) ?_
      refine lv_lstore (lv' := [(5, .long 1), (3, .long (-v)), (0, .ref wr), (1, .long v)]) hx hb d_RecordWriter_putNumber_29 hl (by decide) rfl (fun ls hl => ?_)
      refine lv_iconst (v := 0) hx hb d_RecordWriter_putNumber_31 (by decide) ?_
      refine lv_istore (lv' := [(7, .int 0), (5, .long 1), (3, .long (-v)), (0, .ref wr), (1, .long v)]) hx hb d_RecordWriter_putNumber_32 hl (by decide) rfl (fun ls hl => ?_)
      have loop_34 : ∀ (fuel : Nat) (k1 : Nat) (H : Heap) (locs : List Loc) (ls : Array Slot)  (lk : k1 ≤ 18 ∧ kdR (18 - k1) k1 v.toInt.natAbs = kd v.toInt.natAbs), (18 - k1) < fuel → z_S g A s.heap h H locs → lv_has ls 8 [(0, .ref wr), (1, .long v), (3, .long (-v)), (5, .long (un10 (k1 + 1))), (7, .int (nI k1))] → W pg l en { frames := 3, cells := jf j (O ++ (numO v)).length - jf j O.length, slots := slj j (O ++ (numO v)).length - slj j O.length, locals := 110 } s m [.ref wr, .long v].toArray below meth cd H locs 0 0 (MQ below (z_Q g A (fun x h1 => x = none ∧ OutB g h1 ow j (O ++ (numO v)) ∧ z_K (fun y => y = 4 ∨ y = 5) h h1)) [.ref wr, .long v].toArray s (jf j (O ++ (numO v)).length - jf j O.length) (slj j (O ++ (numO v)).length - slj j O.length) A) (F0 m 34 ls []) := by
        intro fuel
        induction fuel with
        | zero => intro k1 H locs ls lk hm; exact absurd hm (Nat.not_lt_zero _)
        | succ fuel ih_34 =>
          intro k1 H locs ls lk hm hw hl
          refine lv_iload hx hb d_RecordWriter_putNumber_34 (lv_at hl 4 rfl) ?_
          refine lv_bipush (v := 18) hx hb d_RecordWriter_putNumber_36 (by decide) ?_
          refine lv_icmp_ge (tgt := 66) hx hb d_RecordWriter_putNumber_38 (by decide) (fun c_38 => ?_) (fun c_38 => ?_)
          · -- 38: True
            have c_38 : 18 ≤ k1 := (nI_leI (a := 18) (b := k1) (by omega) (by omega)).mp c_38
            have ek : kd v.toInt.natAbs = k1 := by rw [← lk.2, show 18 - k1 = 0 by omega]; rfl
            have hl : lv_has ls 8 [(0, .ref wr), (1, .long v), (3, .long (-v)), (5, .long (un10 (kd v.toInt.natAbs + 1))), (7, .int (nI k1))] := by rw [ek]; exact hl
            have loop_66 : ∀ (fuel : Nat) (e1 : Nat) (O1 : List Nat) (hL : z_H) (H : Heap) (locs : List Loc) (ls : Array Slot) (L66_wr : hL wr = some ((9, 0), .inr (10, [.ref q, .ref nw, .ref ow]))) (kkL : z_K (fun y => y = 4 ∨ y = 5) h hL) (oh1 : OutB g hL ow j O1) (le1 : e1 < 20 ∧ O ++ numO v = O1 ++ decT e1 v.toInt.natAbs ∧ O.length ≤ O1.length), e1 < fuel → z_S g A s.heap hL H locs → lv_has ls 8 [(0, .ref wr), (1, .long v), (3, .long (-v)), (5, .long (un10 e1))] → W pg l en { frames := 3, cells := jf j (O ++ (numO v)).length - jf j O.length, slots := slj j (O ++ (numO v)).length - slj j O.length, locals := 110 } s m [.ref wr, .long v].toArray below meth cd H locs (jf j O1.length - jf j O.length) (slj j O1.length - slj j O.length) (MQ below (z_Q g A (fun x h1 => x = none ∧ OutB g h1 ow j (O ++ (numO v)) ∧ z_K (fun y => y = 4 ∨ y = 5) h h1)) [.ref wr, .long v].toArray s (jf j (O ++ (numO v)).length - jf j O.length) (slj j (O ++ (numO v)).length - slj j O.length) A) (F0 m 66 ls []) := by
              intro fuel
              induction fuel with
              | zero => intro e1 O1 hL H locs ls L66_wr kkL oh1 le1 hm; exact absurd hm (Nat.not_lt_zero _)
              | succ fuel ih_66 =>
                intro e1 O1 hL H locs ls L66_wr kkL oh1 le1 hm hw hl
                have lV1 : (O ++ numO v).length = O1.length + e1 := by rw [le1.2.1, List.length_append, decT_len]
                have mk1 := jf_mono j (show O.length ≤ O1.length by omega)
                have mk2 := jf_mono j (show O1.length ≤ (O ++ (numO v)).length by omega)
                refine lv_lload hx hb d_RecordWriter_putNumber_66 (lv_at hl 3 rfl) ?_
                refine lv_lconst (v := 0) hx hb d_RecordWriter_putNumber_68 (by decide) ?_
                refine W.lcmp hx hb d_RecordWriter_putNumber_69 ?_
                refine lv_if_le (tgt := 103) hx hb d_RecordWriter_putNumber_70 (by decide) (fun c_70 => ?_) (fun c_70 => ?_)
                · -- 70: True
                  have c_70 : (un10 e1 : Int64) ≤ 0 := (lg_cmp_le _ _).mp c_70
                  have eF : O1 = O ++ (numO v) := by rw [le1.2.1, show e1 = 0 from (un10_0 e1 le1.1).mp c_70]; simp [decT]
                  have eJ : jf j O1.length = jf j (O ++ (numO v)).length ∧ slj j O1.length = slj j (O ++ (numO v)).length := ⟨congrArg (fun x => jf j x.length) eF, congrArg (fun x => slj j x.length) eF⟩
                  exact z_vret hx hb hr hlocks hw ⟨rfl, eF ▸ oh1, kkL⟩ (by first | exact Nat.le_of_ble_eq_true rfl | (dsimp only; omega) | omega) (by first | exact Nat.le_of_ble_eq_true rfl | (dsimp only; omega) | omega) d_RecordWriter_putNumber_103
                · -- 70: False
                  have c_70 : ¬ ((un10 e1 : Int64) ≤ 0) := fun z => c_70 ((lg_cmp_le _ _).mpr z)
                  have e0 : 0 < e1 := Nat.pos_of_ne_zero (fun z => c_70 ((un10_0 e1 le1.1).mpr z))
                  refine lv_aload_n hx hb d_RecordWriter_putNumber_73 rfl (lv_at hl 0 rfl) ?_
                  refine z_get hx hb hts (z_lay i_RecordWriter) hown hK hw L66_wr rfl 2 (by decide) (z_in k_691 rfl) (fun _ h9 => h9) rfl d_RecordWriter_putNumber_74 ?_
                  refine lv_bipush (v := 48) hx hb d_RecordWriter_putNumber_77 (by decide) ?_
                  refine lv_lload_n hx hb d_RecordWriter_putNumber_79 rfl (lv_at hl 2 rfl) ?_
                  refine lv_lload hx hb d_RecordWriter_putNumber_80 (lv_at hl 3 rfl) ?_
                  refine lv_ldiv hx hb d_RecordWriter_putNumber_82 (un10_n e1 le1.1 e0).1 ?_
                  refine lv_ldc2 hx hb hown (hts _ (z_in k_753 rfl)) d_RecordWriter_putNumber_83 ?_
                  refine lv_lrem hx hb d_RecordWriter_putNumber_86 (by decide) ?_
                  refine lv_l2i hx hb d_RecordWriter_putNumber_87 rfl ?_
                  refine lv_isub hx hb d_RecordWriter_putNumber_88 ?_
                  refine z_topi (y := nI (48 + v.toInt.natAbs / 10 ^ (e1 - 1) % 10)) (num_dig hrs le1.1 e0) ?_
                  obtain ⟨ob_1, f_1, how_1, -⟩ := id oh1
                  have ln_1 : (O1 ++ ([48 + v.toInt.natAbs / 10 ^ (e1 - 1) % 10])).length = O1.length + ([48 + v.toInt.natAbs / 10 ^ (e1 - 1) % 10]).length := List.length_append
                  simp only [List.length_cons, List.length_nil] at ln_1
                  have ma_1 := jf_mono j (show O1.length ≤ (O1 ++ ([48 + v.toInt.natAbs / 10 ^ (e1 - 1) % 10])).length by omega)
                  have mb_1 := jf_mono j (show (O1 ++ ([48 + v.toInt.natAbs / 10 ^ (e1 - 1) % 10])).length ≤ (O ++ (numO v)).length by omega)
                  refine z_callV (n := 1) (As := [.int (nI (48 + v.toInt.natAbs / 10 ^ (e1 - 1) % 10))]) (rest := []) ⟨hx, hb, hml, hown, hts⟩ (c_put2 (O := O1) (b := 48 + v.toInt.natAbs / 10 ^ (e1 - 1) % 10) l g hL oh1 ⟨by omega, nI_b _ (by omega)⟩ (by omega) hj) (z_in k_707 rfl) (z_in k_3 rfl) (z_in k_704 rfl) (z_in k_705 rfl) (z_in k_706 rfl) (by decide +kernel) ⟨by first | exact Nat.le_of_ble_eq_true rfl | (dsimp only; omega) | omega, by first | exact Nat.le_of_ble_eq_true rfl | (dsimp only; omega) | omega⟩ hK hE hw hA rfl how_1 rfl hl.1 (Nat.le_of_ble_eq_true rfl) d_RecordWriter_putNumber_89 ⟨by first | exact Nat.le_of_ble_eq_true rfl | (dsimp only; omega) | omega, by first | exact Nat.le_of_ble_eq_true rfl | (dsimp only; omega) | omega⟩ rfl (fun r9 h9 H locs hp hw => ?_)
                  obtain ⟨r8, o8, k8⟩ := hp
                  subst r8
                  obtain ⟨h1, e7⟩ : ∃ x9, x9 = h9 := ⟨_, rfl⟩
                  subst e7
                  generalize eO_1 : O1 ++ ([48 + v.toInt.natAbs / 10 ^ (e1 - 1) % 10]) = O_1 at o8 ln_1 ma_1 mb_1 ⊢
                  have oh_1 := o8
                  have g1_wr : h1 wr = some ((9, 0), .inr (10, [.ref q, .ref nw, .ref ow])) := k8 _ _ _ L66_wr (by simp; try omega)
                  have kk1 : z_K (fun y => y = 4 ∨ y = 5) h h1 := kkL.tr k8
                  refine W.eq (g2 := F0 m 92 ls []) rfl ?_
                  refine lv_lload hx hb d_RecordWriter_putNumber_92 (lv_at hl 3 rfl) ?_
                  refine lv_ldc2 hx hb hown (hts _ (z_in k_753 rfl)) d_RecordWriter_putNumber_94 ?_
                  refine lv_ldiv hx hb d_RecordWriter_putNumber_97 (by decide) ?_
                  refine z_topl (y := un10 (e1 - 1)) (un10_d e1 le1.1) ?_
                  refine lv_lstore (lv' := [(5, .long (un10 (e1 - 1))), (0, .ref wr), (1, .long v), (3, .long (-v))]) hx hb d_RecordWriter_putNumber_98 hl (by decide) rfl (fun ls hl => ?_)
                  refine lv_goto (tgt := 66) hx hb d_RecordWriter_putNumber_100 (by decide) ?_
                  refine W.widen (k := jf j O_1.length - jf j O.length) (n := slj j O_1.length - slj j O.length) (by first | exact Nat.le_of_ble_eq_true rfl | (dsimp only; omega) | omega) (by first | exact Nat.le_of_ble_eq_true rfl | (dsimp only; omega) | omega) ?_
                  refine ih_66 (e1 - 1) O_1 h1 _ _ _ g1_wr kk1 oh_1 (⟨by omega, by rw [le1.2.1, ← eO_1, decT_step (by omega) _, List.append_assoc]; rfl, by omega⟩) ?_ hw (lv_sub hl [1, 2, 3, 0] rfl)
                  omega
            refine W.widen (k := jf j O.length - jf j O.length) (n := slj j O.length - slj j O.length) (by first | exact Nat.le_of_ble_eq_true rfl | (dsimp only; omega) | omega) (by first | exact Nat.le_of_ble_eq_true rfl | (dsimp only; omega) | omega) ?_
            exact loop_66 ((kd v.toInt.natAbs + 1) + 1) (kd v.toInt.natAbs + 1) O h _ _ _ hwr kk0 hO (⟨by omega, eX, by omega⟩) (by omega) hw (lv_sub hl [0, 1, 2, 3] rfl)
          · -- 38: False
            have c_38 : ¬ (18 ≤ k1) := fun z => c_38 ((nI_leI (a := 18) (b := k1) (by omega) (by omega)).mpr z)
            refine lv_lload_n hx hb d_RecordWriter_putNumber_41 rfl (lv_at hl 2 rfl) ?_
            refine lv_lload hx hb d_RecordWriter_putNumber_42 (lv_at hl 3 rfl) ?_
            refine lv_ldiv hx hb d_RecordWriter_putNumber_44 (un10_n (k1 + 1) (by omega) (by omega)).1 ?_
            refine lv_ldc2 hx hb hown (hts _ (z_in k_752 rfl)) d_RecordWriter_putNumber_45 ?_
            refine W.lcmp hx hb d_RecordWriter_putNumber_48 ?_
            refine lv_if_gt (tgt := 66) hx hb d_RecordWriter_putNumber_49 (by decide) (fun c_49 => ?_) (fun c_49 => ?_)
            · -- 49: True
              have c_49 : ((-v) / (un10 (k1 + 1)) : Int64) > (-10) := (lg_cmp_gt _ _).mp c_49
              have ek : kd v.toInt.natAbs = k1 := by rw [← lk.2, show 18 - k1 = (18 - (k1 + 1)) + 1 by omega]; simp only [kdR]; rw [if_neg ((num_leK hrs (by omega)).mp c_49)]
              have hl : lv_has ls 8 [(0, .ref wr), (1, .long v), (3, .long (-v)), (5, .long (un10 (kd v.toInt.natAbs + 1))), (7, .int (nI k1))] := by rw [ek]; exact hl
              have loop_66 : ∀ (fuel : Nat) (e1 : Nat) (O1 : List Nat) (hL : z_H) (H : Heap) (locs : List Loc) (ls : Array Slot) (L66_wr : hL wr = some ((9, 0), .inr (10, [.ref q, .ref nw, .ref ow]))) (kkL : z_K (fun y => y = 4 ∨ y = 5) h hL) (oh1 : OutB g hL ow j O1) (le1 : e1 < 20 ∧ O ++ numO v = O1 ++ decT e1 v.toInt.natAbs ∧ O.length ≤ O1.length), e1 < fuel → z_S g A s.heap hL H locs → lv_has ls 8 [(0, .ref wr), (1, .long v), (3, .long (-v)), (5, .long (un10 e1))] → W pg l en { frames := 3, cells := jf j (O ++ (numO v)).length - jf j O.length, slots := slj j (O ++ (numO v)).length - slj j O.length, locals := 110 } s m [.ref wr, .long v].toArray below meth cd H locs (jf j O1.length - jf j O.length) (slj j O1.length - slj j O.length) (MQ below (z_Q g A (fun x h1 => x = none ∧ OutB g h1 ow j (O ++ (numO v)) ∧ z_K (fun y => y = 4 ∨ y = 5) h h1)) [.ref wr, .long v].toArray s (jf j (O ++ (numO v)).length - jf j O.length) (slj j (O ++ (numO v)).length - slj j O.length) A) (F0 m 66 ls []) := by
                intro fuel
                induction fuel with
                | zero => intro e1 O1 hL H locs ls L66_wr kkL oh1 le1 hm; exact absurd hm (Nat.not_lt_zero _)
                | succ fuel ih_66 =>
                  intro e1 O1 hL H locs ls L66_wr kkL oh1 le1 hm hw hl
                  have lV1 : (O ++ numO v).length = O1.length + e1 := by rw [le1.2.1, List.length_append, decT_len]
                  have mk1 := jf_mono j (show O.length ≤ O1.length by omega)
                  have mk2 := jf_mono j (show O1.length ≤ (O ++ (numO v)).length by omega)
                  refine lv_lload hx hb d_RecordWriter_putNumber_66 (lv_at hl 3 rfl) ?_
                  refine lv_lconst (v := 0) hx hb d_RecordWriter_putNumber_68 (by decide) ?_
                  refine W.lcmp hx hb d_RecordWriter_putNumber_69 ?_
                  refine lv_if_le (tgt := 103) hx hb d_RecordWriter_putNumber_70 (by decide) (fun c_70 => ?_) (fun c_70 => ?_)
                  · -- 70: True
                    have c_70 : (un10 e1 : Int64) ≤ 0 := (lg_cmp_le _ _).mp c_70
                    have eF : O1 = O ++ (numO v) := by rw [le1.2.1, show e1 = 0 from (un10_0 e1 le1.1).mp c_70]; simp [decT]
                    have eJ : jf j O1.length = jf j (O ++ (numO v)).length ∧ slj j O1.length = slj j (O ++ (numO v)).length := ⟨congrArg (fun x => jf j x.length) eF, congrArg (fun x => slj j x.length) eF⟩
                    exact z_vret hx hb hr hlocks hw ⟨rfl, eF ▸ oh1, kkL⟩ (by first | exact Nat.le_of_ble_eq_true rfl | (dsimp only; omega) | omega) (by first | exact Nat.le_of_ble_eq_true rfl | (dsimp only; omega) | omega) d_RecordWriter_putNumber_103
                  · -- 70: False
                    have c_70 : ¬ ((un10 e1 : Int64) ≤ 0) := fun z => c_70 ((lg_cmp_le _ _).mpr z)
                    have e0 : 0 < e1 := Nat.pos_of_ne_zero (fun z => c_70 ((un10_0 e1 le1.1).mpr z))
                    refine lv_aload_n hx hb d_RecordWriter_putNumber_73 rfl (lv_at hl 0 rfl) ?_
                    refine z_get hx hb hts (z_lay i_RecordWriter) hown hK hw L66_wr rfl 2 (by decide) (z_in k_691 rfl) (fun _ h9 => h9) rfl d_RecordWriter_putNumber_74 ?_
                    refine lv_bipush (v := 48) hx hb d_RecordWriter_putNumber_77 (by decide) ?_
                    refine lv_lload_n hx hb d_RecordWriter_putNumber_79 rfl (lv_at hl 2 rfl) ?_
                    refine lv_lload hx hb d_RecordWriter_putNumber_80 (lv_at hl 3 rfl) ?_
                    refine lv_ldiv hx hb d_RecordWriter_putNumber_82 (un10_n e1 le1.1 e0).1 ?_
                    refine lv_ldc2 hx hb hown (hts _ (z_in k_753 rfl)) d_RecordWriter_putNumber_83 ?_
                    refine lv_lrem hx hb d_RecordWriter_putNumber_86 (by decide) ?_
                    refine lv_l2i hx hb d_RecordWriter_putNumber_87 rfl ?_
                    refine lv_isub hx hb d_RecordWriter_putNumber_88 ?_
                    refine z_topi (y := nI (48 + v.toInt.natAbs / 10 ^ (e1 - 1) % 10)) (num_dig hrs le1.1 e0) ?_
                    obtain ⟨ob_2, f_2, how_2, -⟩ := id oh1
                    have ln_2 : (O1 ++ ([48 + v.toInt.natAbs / 10 ^ (e1 - 1) % 10])).length = O1.length + ([48 + v.toInt.natAbs / 10 ^ (e1 - 1) % 10]).length := List.length_append
                    simp only [List.length_cons, List.length_nil] at ln_2
                    have ma_2 := jf_mono j (show O1.length ≤ (O1 ++ ([48 + v.toInt.natAbs / 10 ^ (e1 - 1) % 10])).length by omega)
                    have mb_2 := jf_mono j (show (O1 ++ ([48 + v.toInt.natAbs / 10 ^ (e1 - 1) % 10])).length ≤ (O ++ (numO v)).length by omega)
                    refine z_callV (n := 1) (As := [.int (nI (48 + v.toInt.natAbs / 10 ^ (e1 - 1) % 10))]) (rest := []) ⟨hx, hb, hml, hown, hts⟩ (c_put2 (O := O1) (b := 48 + v.toInt.natAbs / 10 ^ (e1 - 1) % 10) l g hL oh1 ⟨by omega, nI_b _ (by omega)⟩ (by omega) hj) (z_in k_707 rfl) (z_in k_3 rfl) (z_in k_704 rfl) (z_in k_705 rfl) (z_in k_706 rfl) (by decide +kernel) ⟨by first | exact Nat.le_of_ble_eq_true rfl | (dsimp only; omega) | omega, by first | exact Nat.le_of_ble_eq_true rfl | (dsimp only; omega) | omega⟩ hK hE hw hA rfl how_2 rfl hl.1 (Nat.le_of_ble_eq_true rfl) d_RecordWriter_putNumber_89 ⟨by first | exact Nat.le_of_ble_eq_true rfl | (dsimp only; omega) | omega, by first | exact Nat.le_of_ble_eq_true rfl | (dsimp only; omega) | omega⟩ rfl (fun r9 h9 H locs hp hw => ?_)
                    obtain ⟨r8, o8, k8⟩ := hp
                    subst r8
                    obtain ⟨h2, e7⟩ : ∃ x9, x9 = h9 := ⟨_, rfl⟩
                    subst e7
                    generalize eO_2 : O1 ++ ([48 + v.toInt.natAbs / 10 ^ (e1 - 1) % 10]) = O_2 at o8 ln_2 ma_2 mb_2 ⊢
                    have oh_2 := o8
                    have g2_wr : h2 wr = some ((9, 0), .inr (10, [.ref q, .ref nw, .ref ow])) := k8 _ _ _ L66_wr (by simp; try omega)
                    have kk2 : z_K (fun y => y = 4 ∨ y = 5) h h2 := kkL.tr k8
                    refine W.eq (g2 := F0 m 92 ls []) rfl ?_
                    refine lv_lload hx hb d_RecordWriter_putNumber_92 (lv_at hl 3 rfl) ?_
                    refine lv_ldc2 hx hb hown (hts _ (z_in k_753 rfl)) d_RecordWriter_putNumber_94 ?_
                    refine lv_ldiv hx hb d_RecordWriter_putNumber_97 (by decide) ?_
                    refine z_topl (y := un10 (e1 - 1)) (un10_d e1 le1.1) ?_
                    refine lv_lstore (lv' := [(5, .long (un10 (e1 - 1))), (0, .ref wr), (1, .long v), (3, .long (-v))]) hx hb d_RecordWriter_putNumber_98 hl (by decide) rfl (fun ls hl => ?_)
                    refine lv_goto (tgt := 66) hx hb d_RecordWriter_putNumber_100 (by decide) ?_
                    refine W.widen (k := jf j O_2.length - jf j O.length) (n := slj j O_2.length - slj j O.length) (by first | exact Nat.le_of_ble_eq_true rfl | (dsimp only; omega) | omega) (by first | exact Nat.le_of_ble_eq_true rfl | (dsimp only; omega) | omega) ?_
                    refine ih_66 (e1 - 1) O_2 h2 _ _ _ g2_wr kk2 oh_2 (⟨by omega, by rw [le1.2.1, ← eO_2, decT_step (by omega) _, List.append_assoc]; rfl, by omega⟩) ?_ hw (lv_sub hl [1, 2, 3, 0] rfl)
                    omega
              refine W.widen (k := jf j O.length - jf j O.length) (n := slj j O.length - slj j O.length) (by first | exact Nat.le_of_ble_eq_true rfl | (dsimp only; omega) | omega) (by first | exact Nat.le_of_ble_eq_true rfl | (dsimp only; omega) | omega) ?_
              exact loop_66 ((kd v.toInt.natAbs + 1) + 1) (kd v.toInt.natAbs + 1) O h _ _ _ hwr kk0 hO (⟨by omega, eX, by omega⟩) (by omega) hw (lv_sub hl [0, 1, 2, 3] rfl)
            · -- 49: False
              have c_49 : ¬ (((-v) / (un10 (k1 + 1)) : Int64) > (-10)) := fun z => c_49 ((lg_cmp_gt _ _).mpr z)
              refine lv_lload hx hb d_RecordWriter_putNumber_52 (lv_at hl 3 rfl) ?_
              refine lv_ldc2 hx hb hown (hts _ (z_in k_753 rfl)) d_RecordWriter_putNumber_54 ?_
              refine lv_lmul hx hb d_RecordWriter_putNumber_57 ?_
              refine z_topl (y := un10 (k1 + 1 + 1)) (pw10_m k1 (by omega)) ?_
              refine lv_lstore (lv' := [(5, .long (un10 (k1 + 1 + 1))), (0, .ref wr), (1, .long v), (3, .long (-v)), (7, .int (nI k1))]) hx hb d_RecordWriter_putNumber_58 hl (by decide) rfl (fun ls hl => ?_)
              refine lv_iinc (v := nI (k1 + 1)) (lv' := [(7, .int (nI (k1 + 1))), (5, .long (un10 (k1 + 1 + 1))), (0, .ref wr), (1, .long v), (3, .long (-v))]) hx hb d_RecordWriter_putNumber_60 hl (k := 4) rfl (nI_1 k1) (by decide) rfl (fun ls hl => ?_)
              refine lv_goto (tgt := 34) hx hb d_RecordWriter_putNumber_63 (by decide) ?_
              refine ih_34 (k1 + 1) _ _ _ (⟨by omega, by rw [← lk.2, show 18 - k1 = (18 - (k1 + 1)) + 1 by omega]; simp only [kdR]; rw [if_pos (Classical.not_not.mp (fun z => c_49 ((num_leK hrs (by omega)).mpr z)))]⟩) ?_ hw (lv_sub hl [2, 3, 4, 1, 0] rfl)
              omega
      exact loop_34 (18 - 0 + 1) 0  _ _ _  (⟨by omega, rfl⟩) (by omega) hw (lv_sub hl [3, 4, 2, 1, 0] rfl)
    · -- 18: False
      have c_18 : ¬ ((v : Int64) ≥ 0) := fun z => c_18 ((lg_cmp_ge _ _).mpr z)
      exact absurd c_3 c_18
  · -- 3: False
    have c_3 : ¬ ((v : Int64) ≥ 0) := fun z => c_3 ((lg_cmp_ge _ _).mpr z)
    refine lv_aload_n hx hb d_RecordWriter_putNumber_6 rfl (lv_at hl 0 rfl) ?_
    refine z_get hx hb hts (z_lay i_RecordWriter) hown hK hw hwr rfl 2 (by decide) (z_in k_691 rfl) (fun _ h9 => h9) rfl d_RecordWriter_putNumber_7 ?_
    refine lv_bipush (v := 45) hx hb d_RecordWriter_putNumber_10 (by decide) ?_
    obtain ⟨ob_3, f_3, how_3, -⟩ := id hO
    have ln_3 : (O ++ ([45])).length = O.length + ([45]).length := List.length_append
    simp only [List.length_cons, List.length_nil] at ln_3
    have ma_3 := jf_mono j (show O.length ≤ (O ++ ([45])).length by omega)
    have mb_3 := jf_mono j (show (O ++ ([45])).length ≤ (O ++ (numO v)).length by omega)
    refine z_callV (n := 1) (As := [.int 45]) (rest := []) ⟨hx, hb, hml, hown, hts⟩ (c_put2 (O := O) (b := 45) l g h hO ⟨by decide, by decide⟩ (by omega) hj) (z_in k_707 rfl) (z_in k_3 rfl) (z_in k_704 rfl) (z_in k_705 rfl) (z_in k_706 rfl) (by decide +kernel) ⟨by first | exact Nat.le_of_ble_eq_true rfl | (dsimp only; omega) | omega, by first | exact Nat.le_of_ble_eq_true rfl | (dsimp only; omega) | omega⟩ hK hE hw hA rfl how_3 rfl hl.1 (Nat.le_of_ble_eq_true rfl) d_RecordWriter_putNumber_12 ⟨by first | exact Nat.le_of_ble_eq_true rfl | (dsimp only; omega) | omega, by first | exact Nat.le_of_ble_eq_true rfl | (dsimp only; omega) | omega⟩ rfl (fun r9 h9 H locs hp hw => ?_)
    obtain ⟨r8, o8, k8⟩ := hp
    subst r8
    obtain ⟨h3, e7⟩ : ∃ x9, x9 = h9 := ⟨_, rfl⟩
    subst e7
    generalize eO_3 : O ++ ([45]) = O_3 at o8 ln_3 ma_3 mb_3 ⊢
    have oh_3 := o8
    have g3_wr : h3 wr = some ((9, 0), .inr (10, [.ref q, .ref nw, .ref ow])) := k8 _ _ _ hwr (by simp; try omega)
    have kk3 : z_K (fun y => y = 4 ∨ y = 5) h h3 := kk0.tr k8
    refine W.eq (g2 := F0 m 15 ls []) rfl ?_
    refine lv_lload_n hx hb d_RecordWriter_putNumber_15 rfl (lv_at hl 1 rfl) ?_
    refine lv_lconst (v := 0) hx hb d_RecordWriter_putNumber_16 (by decide) ?_
    refine W.lcmp hx hb d_RecordWriter_putNumber_17 ?_
    refine lv_if_ge (tgt := 25) hx hb d_RecordWriter_putNumber_18 (by decide) (fun c_18 => ?_) (fun c_18 => ?_)
    · -- 18: True
      have c_18 : (v : Int64) ≥ 0 := (lg_cmp_ge _ _).mp c_18
      exact absurd c_18 c_3
    · -- 18: False
      have c_18 : ¬ ((v : Int64) ≥ 0) := fun z => c_18 ((lg_cmp_ge _ _).mpr z)
      refine lv_lload_n hx hb d_RecordWriter_putNumber_21 rfl (lv_at hl 1 rfl) ?_
      refine lv_goto (tgt := 27) hx hb d_RecordWriter_putNumber_22 (by decide) ?_
      have hrs : (v : Int64).toInt = -(v.toInt.natAbs : Int) := neg_rst (by first | exact Int64.not_le.mp c_3 | exact Int64.lt_of_not_le c_3)
      have eX : O ++ numO v = O_3 ++ decT (kd v.toInt.natAbs + 1) v.toInt.natAbs := by rw [← eO_3]; unfold numO; rw [if_pos (Int64.not_le.mp c_3)]; simp
      have lV : (O ++ numO v).length = O_3.length + (kd v.toInt.natAbs + 1) := by rw [eX, List.length_append, decT_len]
      have mq1 := jf_mono j (show O.length ≤ O_3.length by omega)
      refine lv_lstore_n (lv' := [(3, .long v), (0, .ref wr), (1, .long v)]) hx hb d_RecordWriter_putNumber_27 rfl hl (by decide) rfl (fun ls hl => ?_)
      refine lv_lconst (v := 1) hx hb d_RecordWriter_putNumber_28 (by decide) ?_
      refine lv_lstore (lv' := [(5, .long 1), (3, .long v), (0, .ref wr), (1, .long v)]) hx hb d_RecordWriter_putNumber_29 hl (by decide) rfl (fun ls hl => ?_)
      refine lv_iconst (v := 0) hx hb d_RecordWriter_putNumber_31 (by decide) ?_
      refine lv_istore (lv' := [(7, .int 0), (5, .long 1), (3, .long v), (0, .ref wr), (1, .long v)]) hx hb d_RecordWriter_putNumber_32 hl (by decide) rfl (fun ls hl => ?_)
      have loop_34 : ∀ (fuel : Nat) (k1 : Nat) (H : Heap) (locs : List Loc) (ls : Array Slot)  (lk : k1 ≤ 18 ∧ kdR (18 - k1) k1 v.toInt.natAbs = kd v.toInt.natAbs), (18 - k1) < fuel → z_S g A s.heap h3 H locs → lv_has ls 8 [(0, .ref wr), (1, .long v), (3, .long v), (5, .long (un10 (k1 + 1))), (7, .int (nI k1))] → W pg l en { frames := 3, cells := jf j (O ++ (numO v)).length - jf j O.length, slots := slj j (O ++ (numO v)).length - slj j O.length, locals := 110 } s m [.ref wr, .long v].toArray below meth cd H locs (0 + (jf j O_3.length - jf j O.length)) (0 + (slj j O_3.length - slj j O.length)) (MQ below (z_Q g A (fun x h1 => x = none ∧ OutB g h1 ow j (O ++ (numO v)) ∧ z_K (fun y => y = 4 ∨ y = 5) h h1)) [.ref wr, .long v].toArray s (jf j (O ++ (numO v)).length - jf j O.length) (slj j (O ++ (numO v)).length - slj j O.length) A) (F0 m 34 ls []) := by
        intro fuel
        induction fuel with
        | zero => intro k1 H locs ls lk hm; exact absurd hm (Nat.not_lt_zero _)
        | succ fuel ih_34 =>
          intro k1 H locs ls lk hm hw hl
          refine lv_iload hx hb d_RecordWriter_putNumber_34 (lv_at hl 4 rfl) ?_
          refine lv_bipush (v := 18) hx hb d_RecordWriter_putNumber_36 (by decide) ?_
          refine lv_icmp_ge (tgt := 66) hx hb d_RecordWriter_putNumber_38 (by decide) (fun c_38 => ?_) (fun c_38 => ?_)
          · -- 38: True
            have c_38 : 18 ≤ k1 := (nI_leI (a := 18) (b := k1) (by omega) (by omega)).mp c_38
            have ek : kd v.toInt.natAbs = k1 := by rw [← lk.2, show 18 - k1 = 0 by omega]; rfl
            have hl : lv_has ls 8 [(0, .ref wr), (1, .long v), (3, .long v), (5, .long (un10 (kd v.toInt.natAbs + 1))), (7, .int (nI k1))] := by rw [ek]; exact hl
            have loop_66 : ∀ (fuel : Nat) (e1 : Nat) (O1 : List Nat) (hL : z_H) (H : Heap) (locs : List Loc) (ls : Array Slot) (L66_wr : hL wr = some ((9, 0), .inr (10, [.ref q, .ref nw, .ref ow]))) (kkL : z_K (fun y => y = 4 ∨ y = 5) h hL) (oh1 : OutB g hL ow j O1) (le1 : e1 < 20 ∧ O ++ numO v = O1 ++ decT e1 v.toInt.natAbs ∧ O.length ≤ O1.length), e1 < fuel → z_S g A s.heap hL H locs → lv_has ls 8 [(0, .ref wr), (1, .long v), (3, .long v), (5, .long (un10 e1))] → W pg l en { frames := 3, cells := jf j (O ++ (numO v)).length - jf j O.length, slots := slj j (O ++ (numO v)).length - slj j O.length, locals := 110 } s m [.ref wr, .long v].toArray below meth cd H locs (jf j O1.length - jf j O.length) (slj j O1.length - slj j O.length) (MQ below (z_Q g A (fun x h1 => x = none ∧ OutB g h1 ow j (O ++ (numO v)) ∧ z_K (fun y => y = 4 ∨ y = 5) h h1)) [.ref wr, .long v].toArray s (jf j (O ++ (numO v)).length - jf j O.length) (slj j (O ++ (numO v)).length - slj j O.length) A) (F0 m 66 ls []) := by
              intro fuel
              induction fuel with
              | zero => intro e1 O1 hL H locs ls L66_wr kkL oh1 le1 hm; exact absurd hm (Nat.not_lt_zero _)
              | succ fuel ih_66 =>
                intro e1 O1 hL H locs ls L66_wr kkL oh1 le1 hm hw hl
                have lV1 : (O ++ numO v).length = O1.length + e1 := by rw [le1.2.1, List.length_append, decT_len]
                have mk1 := jf_mono j (show O.length ≤ O1.length by omega)
                have mk2 := jf_mono j (show O1.length ≤ (O ++ (numO v)).length by omega)
                refine lv_lload hx hb d_RecordWriter_putNumber_66 (lv_at hl 3 rfl) ?_
                refine lv_lconst (v := 0) hx hb d_RecordWriter_putNumber_68 (by decide) ?_
                refine W.lcmp hx hb d_RecordWriter_putNumber_69 ?_
                refine lv_if_le (tgt := 103) hx hb d_RecordWriter_putNumber_70 (by decide) (fun c_70 => ?_) (fun c_70 => ?_)
                · -- 70: True
                  have c_70 : (un10 e1 : Int64) ≤ 0 := (lg_cmp_le _ _).mp c_70
                  have eF : O1 = O ++ (numO v) := by rw [le1.2.1, show e1 = 0 from (un10_0 e1 le1.1).mp c_70]; simp [decT]
                  have eJ : jf j O1.length = jf j (O ++ (numO v)).length ∧ slj j O1.length = slj j (O ++ (numO v)).length := ⟨congrArg (fun x => jf j x.length) eF, congrArg (fun x => slj j x.length) eF⟩
                  exact z_vret hx hb hr hlocks hw ⟨rfl, eF ▸ oh1, kkL⟩ (by first | exact Nat.le_of_ble_eq_true rfl | (dsimp only; omega) | omega) (by first | exact Nat.le_of_ble_eq_true rfl | (dsimp only; omega) | omega) d_RecordWriter_putNumber_103
                · -- 70: False
                  have c_70 : ¬ ((un10 e1 : Int64) ≤ 0) := fun z => c_70 ((lg_cmp_le _ _).mpr z)
                  have e0 : 0 < e1 := Nat.pos_of_ne_zero (fun z => c_70 ((un10_0 e1 le1.1).mpr z))
                  refine lv_aload_n hx hb d_RecordWriter_putNumber_73 rfl (lv_at hl 0 rfl) ?_
                  refine z_get hx hb hts (z_lay i_RecordWriter) hown hK hw L66_wr rfl 2 (by decide) (z_in k_691 rfl) (fun _ h9 => h9) rfl d_RecordWriter_putNumber_74 ?_
                  refine lv_bipush (v := 48) hx hb d_RecordWriter_putNumber_77 (by decide) ?_
                  refine lv_lload_n hx hb d_RecordWriter_putNumber_79 rfl (lv_at hl 2 rfl) ?_
                  refine lv_lload hx hb d_RecordWriter_putNumber_80 (lv_at hl 3 rfl) ?_
                  refine lv_ldiv hx hb d_RecordWriter_putNumber_82 (un10_n e1 le1.1 e0).1 ?_
                  refine lv_ldc2 hx hb hown (hts _ (z_in k_753 rfl)) d_RecordWriter_putNumber_83 ?_
                  refine lv_lrem hx hb d_RecordWriter_putNumber_86 (by decide) ?_
                  refine lv_l2i hx hb d_RecordWriter_putNumber_87 rfl ?_
                  refine lv_isub hx hb d_RecordWriter_putNumber_88 ?_
                  refine z_topi (y := nI (48 + v.toInt.natAbs / 10 ^ (e1 - 1) % 10)) (num_dig hrs le1.1 e0) ?_
                  obtain ⟨ob_4, f_4, how_4, -⟩ := id oh1
                  have ln_4 : (O1 ++ ([48 + v.toInt.natAbs / 10 ^ (e1 - 1) % 10])).length = O1.length + ([48 + v.toInt.natAbs / 10 ^ (e1 - 1) % 10]).length := List.length_append
                  simp only [List.length_cons, List.length_nil] at ln_4
                  have ma_4 := jf_mono j (show O1.length ≤ (O1 ++ ([48 + v.toInt.natAbs / 10 ^ (e1 - 1) % 10])).length by omega)
                  have mb_4 := jf_mono j (show (O1 ++ ([48 + v.toInt.natAbs / 10 ^ (e1 - 1) % 10])).length ≤ (O ++ (numO v)).length by omega)
                  refine z_callV (n := 1) (As := [.int (nI (48 + v.toInt.natAbs / 10 ^ (e1 - 1) % 10))]) (rest := []) ⟨hx, hb, hml, hown, hts⟩ (c_put2 (O := O1) (b := 48 + v.toInt.natAbs / 10 ^ (e1 - 1) % 10) l g hL oh1 ⟨by omega, nI_b _ (by omega)⟩ (by omega) hj) (z_in k_707 rfl) (z_in k_3 rfl) (z_in k_704 rfl) (z_in k_705 rfl) (z_in k_706 rfl) (by decide +kernel) ⟨by first | exact Nat.le_of_ble_eq_true rfl | (dsimp only; omega) | omega, by first | exact Nat.le_of_ble_eq_true rfl | (dsimp only; omega) | omega⟩ hK hE hw hA rfl how_4 rfl hl.1 (Nat.le_of_ble_eq_true rfl) d_RecordWriter_putNumber_89 ⟨by first | exact Nat.le_of_ble_eq_true rfl | (dsimp only; omega) | omega, by first | exact Nat.le_of_ble_eq_true rfl | (dsimp only; omega) | omega⟩ rfl (fun r9 h9 H locs hp hw => ?_)
                  obtain ⟨r8, o8, k8⟩ := hp
                  subst r8
                  obtain ⟨h4, e7⟩ : ∃ x9, x9 = h9 := ⟨_, rfl⟩
                  subst e7
                  generalize eO_4 : O1 ++ ([48 + v.toInt.natAbs / 10 ^ (e1 - 1) % 10]) = O_4 at o8 ln_4 ma_4 mb_4 ⊢
                  have oh_4 := o8
                  have g4_wr : h4 wr = some ((9, 0), .inr (10, [.ref q, .ref nw, .ref ow])) := k8 _ _ _ L66_wr (by simp; try omega)
                  have kk4 : z_K (fun y => y = 4 ∨ y = 5) h h4 := kkL.tr k8
                  refine W.eq (g2 := F0 m 92 ls []) rfl ?_
                  refine lv_lload hx hb d_RecordWriter_putNumber_92 (lv_at hl 3 rfl) ?_
                  refine lv_ldc2 hx hb hown (hts _ (z_in k_753 rfl)) d_RecordWriter_putNumber_94 ?_
                  refine lv_ldiv hx hb d_RecordWriter_putNumber_97 (by decide) ?_
                  refine z_topl (y := un10 (e1 - 1)) (un10_d e1 le1.1) ?_
                  refine lv_lstore (lv' := [(5, .long (un10 (e1 - 1))), (0, .ref wr), (1, .long v), (3, .long v)]) hx hb d_RecordWriter_putNumber_98 hl (by decide) rfl (fun ls hl => ?_)
                  refine lv_goto (tgt := 66) hx hb d_RecordWriter_putNumber_100 (by decide) ?_
                  refine W.widen (k := jf j O_4.length - jf j O.length) (n := slj j O_4.length - slj j O.length) (by first | exact Nat.le_of_ble_eq_true rfl | (dsimp only; omega) | omega) (by first | exact Nat.le_of_ble_eq_true rfl | (dsimp only; omega) | omega) ?_
                  refine ih_66 (e1 - 1) O_4 h4 _ _ _ g4_wr kk4 oh_4 (⟨by omega, by rw [le1.2.1, ← eO_4, decT_step (by omega) _, List.append_assoc]; rfl, by omega⟩) ?_ hw (lv_sub hl [1, 2, 3, 0] rfl)
                  omega
            refine W.widen (k := jf j O_3.length - jf j O.length) (n := slj j O_3.length - slj j O.length) (by first | exact Nat.le_of_ble_eq_true rfl | (dsimp only; omega) | omega) (by first | exact Nat.le_of_ble_eq_true rfl | (dsimp only; omega) | omega) ?_
            exact loop_66 ((kd v.toInt.natAbs + 1) + 1) (kd v.toInt.natAbs + 1) O_3 h3 _ _ _ g3_wr kk3 oh_3 (⟨by omega, eX, by omega⟩) (by omega) hw (lv_sub hl [0, 1, 2, 3] rfl)
          · -- 38: False
            have c_38 : ¬ (18 ≤ k1) := fun z => c_38 ((nI_leI (a := 18) (b := k1) (by omega) (by omega)).mpr z)
            refine lv_lload_n hx hb d_RecordWriter_putNumber_41 rfl (lv_at hl 2 rfl) ?_
            refine lv_lload hx hb d_RecordWriter_putNumber_42 (lv_at hl 3 rfl) ?_
            refine lv_ldiv hx hb d_RecordWriter_putNumber_44 (un10_n (k1 + 1) (by omega) (by omega)).1 ?_
            refine lv_ldc2 hx hb hown (hts _ (z_in k_752 rfl)) d_RecordWriter_putNumber_45 ?_
            refine W.lcmp hx hb d_RecordWriter_putNumber_48 ?_
            refine lv_if_gt (tgt := 66) hx hb d_RecordWriter_putNumber_49 (by decide) (fun c_49 => ?_) (fun c_49 => ?_)
            · -- 49: True
              have c_49 : (v / (un10 (k1 + 1)) : Int64) > (-10) := (lg_cmp_gt _ _).mp c_49
              have ek : kd v.toInt.natAbs = k1 := by rw [← lk.2, show 18 - k1 = (18 - (k1 + 1)) + 1 by omega]; simp only [kdR]; rw [if_neg ((num_leK hrs (by omega)).mp c_49)]
              have hl : lv_has ls 8 [(0, .ref wr), (1, .long v), (3, .long v), (5, .long (un10 (kd v.toInt.natAbs + 1))), (7, .int (nI k1))] := by rw [ek]; exact hl
              have loop_66 : ∀ (fuel : Nat) (e1 : Nat) (O1 : List Nat) (hL : z_H) (H : Heap) (locs : List Loc) (ls : Array Slot) (L66_wr : hL wr = some ((9, 0), .inr (10, [.ref q, .ref nw, .ref ow]))) (kkL : z_K (fun y => y = 4 ∨ y = 5) h hL) (oh1 : OutB g hL ow j O1) (le1 : e1 < 20 ∧ O ++ numO v = O1 ++ decT e1 v.toInt.natAbs ∧ O.length ≤ O1.length), e1 < fuel → z_S g A s.heap hL H locs → lv_has ls 8 [(0, .ref wr), (1, .long v), (3, .long v), (5, .long (un10 e1))] → W pg l en { frames := 3, cells := jf j (O ++ (numO v)).length - jf j O.length, slots := slj j (O ++ (numO v)).length - slj j O.length, locals := 110 } s m [.ref wr, .long v].toArray below meth cd H locs (jf j O1.length - jf j O.length) (slj j O1.length - slj j O.length) (MQ below (z_Q g A (fun x h1 => x = none ∧ OutB g h1 ow j (O ++ (numO v)) ∧ z_K (fun y => y = 4 ∨ y = 5) h h1)) [.ref wr, .long v].toArray s (jf j (O ++ (numO v)).length - jf j O.length) (slj j (O ++ (numO v)).length - slj j O.length) A) (F0 m 66 ls []) := by
                intro fuel
                induction fuel with
                | zero => intro e1 O1 hL H locs ls L66_wr kkL oh1 le1 hm; exact absurd hm (Nat.not_lt_zero _)
                | succ fuel ih_66 =>
                  intro e1 O1 hL H locs ls L66_wr kkL oh1 le1 hm hw hl
                  have lV1 : (O ++ numO v).length = O1.length + e1 := by rw [le1.2.1, List.length_append, decT_len]
                  have mk1 := jf_mono j (show O.length ≤ O1.length by omega)
                  have mk2 := jf_mono j (show O1.length ≤ (O ++ (numO v)).length by omega)
                  refine lv_lload hx hb d_RecordWriter_putNumber_66 (lv_at hl 3 rfl) ?_
                  refine lv_lconst (v := 0) hx hb d_RecordWriter_putNumber_68 (by decide) ?_
                  refine W.lcmp hx hb d_RecordWriter_putNumber_69 ?_
                  refine lv_if_le (tgt := 103) hx hb d_RecordWriter_putNumber_70 (by decide) (fun c_70 => ?_) (fun c_70 => ?_)
                  · -- 70: True
                    have c_70 : (un10 e1 : Int64) ≤ 0 := (lg_cmp_le _ _).mp c_70
                    have eF : O1 = O ++ (numO v) := by rw [le1.2.1, show e1 = 0 from (un10_0 e1 le1.1).mp c_70]; simp [decT]
                    have eJ : jf j O1.length = jf j (O ++ (numO v)).length ∧ slj j O1.length = slj j (O ++ (numO v)).length := ⟨congrArg (fun x => jf j x.length) eF, congrArg (fun x => slj j x.length) eF⟩
                    exact z_vret hx hb hr hlocks hw ⟨rfl, eF ▸ oh1, kkL⟩ (by first | exact Nat.le_of_ble_eq_true rfl | (dsimp only; omega) | omega) (by first | exact Nat.le_of_ble_eq_true rfl | (dsimp only; omega) | omega) d_RecordWriter_putNumber_103
                  · -- 70: False
                    have c_70 : ¬ ((un10 e1 : Int64) ≤ 0) := fun z => c_70 ((lg_cmp_le _ _).mpr z)
                    have e0 : 0 < e1 := Nat.pos_of_ne_zero (fun z => c_70 ((un10_0 e1 le1.1).mpr z))
                    refine lv_aload_n hx hb d_RecordWriter_putNumber_73 rfl (lv_at hl 0 rfl) ?_
                    refine z_get hx hb hts (z_lay i_RecordWriter) hown hK hw L66_wr rfl 2 (by decide) (z_in k_691 rfl) (fun _ h9 => h9) rfl d_RecordWriter_putNumber_74 ?_
                    refine lv_bipush (v := 48) hx hb d_RecordWriter_putNumber_77 (by decide) ?_
                    refine lv_lload_n hx hb d_RecordWriter_putNumber_79 rfl (lv_at hl 2 rfl) ?_
                    refine lv_lload hx hb d_RecordWriter_putNumber_80 (lv_at hl 3 rfl) ?_
                    refine lv_ldiv hx hb d_RecordWriter_putNumber_82 (un10_n e1 le1.1 e0).1 ?_
                    refine lv_ldc2 hx hb hown (hts _ (z_in k_753 rfl)) d_RecordWriter_putNumber_83 ?_
                    refine lv_lrem hx hb d_RecordWriter_putNumber_86 (by decide) ?_
                    refine lv_l2i hx hb d_RecordWriter_putNumber_87 rfl ?_
                    refine lv_isub hx hb d_RecordWriter_putNumber_88 ?_
                    refine z_topi (y := nI (48 + v.toInt.natAbs / 10 ^ (e1 - 1) % 10)) (num_dig hrs le1.1 e0) ?_
                    obtain ⟨ob_5, f_5, how_5, -⟩ := id oh1
                    have ln_5 : (O1 ++ ([48 + v.toInt.natAbs / 10 ^ (e1 - 1) % 10])).length = O1.length + ([48 + v.toInt.natAbs / 10 ^ (e1 - 1) % 10]).length := List.length_append
                    simp only [List.length_cons, List.length_nil] at ln_5
                    have ma_5 := jf_mono j (show O1.length ≤ (O1 ++ ([48 + v.toInt.natAbs / 10 ^ (e1 - 1) % 10])).length by omega)
                    have mb_5 := jf_mono j (show (O1 ++ ([48 + v.toInt.natAbs / 10 ^ (e1 - 1) % 10])).length ≤ (O ++ (numO v)).length by omega)
                    refine z_callV (n := 1) (As := [.int (nI (48 + v.toInt.natAbs / 10 ^ (e1 - 1) % 10))]) (rest := []) ⟨hx, hb, hml, hown, hts⟩ (c_put2 (O := O1) (b := 48 + v.toInt.natAbs / 10 ^ (e1 - 1) % 10) l g hL oh1 ⟨by omega, nI_b _ (by omega)⟩ (by omega) hj) (z_in k_707 rfl) (z_in k_3 rfl) (z_in k_704 rfl) (z_in k_705 rfl) (z_in k_706 rfl) (by decide +kernel) ⟨by first | exact Nat.le_of_ble_eq_true rfl | (dsimp only; omega) | omega, by first | exact Nat.le_of_ble_eq_true rfl | (dsimp only; omega) | omega⟩ hK hE hw hA rfl how_5 rfl hl.1 (Nat.le_of_ble_eq_true rfl) d_RecordWriter_putNumber_89 ⟨by first | exact Nat.le_of_ble_eq_true rfl | (dsimp only; omega) | omega, by first | exact Nat.le_of_ble_eq_true rfl | (dsimp only; omega) | omega⟩ rfl (fun r9 h9 H locs hp hw => ?_)
                    obtain ⟨r8, o8, k8⟩ := hp
                    subst r8
                    obtain ⟨h5, e7⟩ : ∃ x9, x9 = h9 := ⟨_, rfl⟩
                    subst e7
                    generalize eO_5 : O1 ++ ([48 + v.toInt.natAbs / 10 ^ (e1 - 1) % 10]) = O_5 at o8 ln_5 ma_5 mb_5 ⊢
                    have oh_5 := o8
                    have g5_wr : h5 wr = some ((9, 0), .inr (10, [.ref q, .ref nw, .ref ow])) := k8 _ _ _ L66_wr (by simp; try omega)
                    have kk5 : z_K (fun y => y = 4 ∨ y = 5) h h5 := kkL.tr k8
                    refine W.eq (g2 := F0 m 92 ls []) rfl ?_
                    refine lv_lload hx hb d_RecordWriter_putNumber_92 (lv_at hl 3 rfl) ?_
                    refine lv_ldc2 hx hb hown (hts _ (z_in k_753 rfl)) d_RecordWriter_putNumber_94 ?_
                    refine lv_ldiv hx hb d_RecordWriter_putNumber_97 (by decide) ?_
                    refine z_topl (y := un10 (e1 - 1)) (un10_d e1 le1.1) ?_
                    refine lv_lstore (lv' := [(5, .long (un10 (e1 - 1))), (0, .ref wr), (1, .long v), (3, .long v)]) hx hb d_RecordWriter_putNumber_98 hl (by decide) rfl (fun ls hl => ?_)
                    refine lv_goto (tgt := 66) hx hb d_RecordWriter_putNumber_100 (by decide) ?_
                    refine W.widen (k := jf j O_5.length - jf j O.length) (n := slj j O_5.length - slj j O.length) (by first | exact Nat.le_of_ble_eq_true rfl | (dsimp only; omega) | omega) (by first | exact Nat.le_of_ble_eq_true rfl | (dsimp only; omega) | omega) ?_
                    refine ih_66 (e1 - 1) O_5 h5 _ _ _ g5_wr kk5 oh_5 (⟨by omega, by rw [le1.2.1, ← eO_5, decT_step (by omega) _, List.append_assoc]; rfl, by omega⟩) ?_ hw (lv_sub hl [1, 2, 3, 0] rfl)
                    omega
              refine W.widen (k := jf j O_3.length - jf j O.length) (n := slj j O_3.length - slj j O.length) (by first | exact Nat.le_of_ble_eq_true rfl | (dsimp only; omega) | omega) (by first | exact Nat.le_of_ble_eq_true rfl | (dsimp only; omega) | omega) ?_
              exact loop_66 ((kd v.toInt.natAbs + 1) + 1) (kd v.toInt.natAbs + 1) O_3 h3 _ _ _ g3_wr kk3 oh_3 (⟨by omega, eX, by omega⟩) (by omega) hw (lv_sub hl [0, 1, 2, 3] rfl)
            · -- 49: False
              have c_49 : ¬ ((v / (un10 (k1 + 1)) : Int64) > (-10)) := fun z => c_49 ((lg_cmp_gt _ _).mpr z)
              refine lv_lload hx hb d_RecordWriter_putNumber_52 (lv_at hl 3 rfl) ?_
              refine lv_ldc2 hx hb hown (hts _ (z_in k_753 rfl)) d_RecordWriter_putNumber_54 ?_
              refine lv_lmul hx hb d_RecordWriter_putNumber_57 ?_
              refine z_topl (y := un10 (k1 + 1 + 1)) (pw10_m k1 (by omega)) ?_
              refine lv_lstore (lv' := [(5, .long (un10 (k1 + 1 + 1))), (0, .ref wr), (1, .long v), (3, .long v), (7, .int (nI k1))]) hx hb d_RecordWriter_putNumber_58 hl (by decide) rfl (fun ls hl => ?_)
              refine lv_iinc (v := nI (k1 + 1)) (lv' := [(7, .int (nI (k1 + 1))), (5, .long (un10 (k1 + 1 + 1))), (0, .ref wr), (1, .long v), (3, .long v)]) hx hb d_RecordWriter_putNumber_60 hl (k := 4) rfl (nI_1 k1) (by decide) rfl (fun ls hl => ?_)
              refine lv_goto (tgt := 34) hx hb d_RecordWriter_putNumber_63 (by decide) ?_
              refine ih_34 (k1 + 1) _ _ _ (⟨by omega, by rw [← lk.2, show 18 - k1 = (18 - (k1 + 1)) + 1 by omega]; simp only [kdR]; rw [if_pos (Classical.not_not.mp (fun z => c_49 ((num_leK hrs (by omega)).mpr z)))]⟩) ?_ hw (lv_sub hl [2, 3, 4, 1, 0] rfl)
              omega
      exact loop_34 (18 - 0 + 1) 0  _ _ _  (⟨by omega, rfl⟩) (by omega) hw (lv_sub hl [3, 4, 2, 1, 0] rfl)

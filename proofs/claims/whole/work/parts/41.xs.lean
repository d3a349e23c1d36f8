theorem fndR_yes {P : Nat → Bool} : ∀ r f, (∃ i, f ≤ i ∧ i < f + r ∧ P i = true) → ∃ i, f ≤ i ∧ i < f + r ∧ P i = true ∧ fndR P r f = nI i := by
  intro r
  induction r with
  | zero => intro f h; obtain ⟨i, h1, h2, -⟩ := h; omega
  | succ r ih =>
    intro f h
    simp only [fndR]
    split
    · rename_i hp
      exact ⟨f, Nat.le_refl _, by omega, hp, rfl⟩
    · rename_i hp
      obtain ⟨i, h1, h2, h3⟩ := h
      have : i ≠ f := fun e => hp (e ▸ h3)
      obtain ⟨i2, g1, g2, g3⟩ := ih (f + 1) ⟨i, by omega, by omega, h3⟩
      exact ⟨i2, by omega, by omega, g3⟩
theorem fndR_no {P : Nat → Bool} : ∀ r f, (∀ i, f ≤ i → i < f + r → P i = false) → fndR P r f = -1 := by
  intro r
  induction r with
  | zero => intro f h; rfl
  | succ r ih =>
    intro f h
    simp only [fndR]
    rw [if_neg (by rw [h f (Nat.le_refl _) (by omega)]; decide)]
    exact ih (f + 1) (fun i h1 h2 => h i (by omega) (by omega))
theorem ccC_ex {F : Nat → Fld} {c : Nat} : ∀ n, c < ccC F n → ∃ i, i < n ∧ ¬ fTy (F i) = 4 ∧ ccC F i = c := by
  intro n
  induction n with
  | zero => intro h; simp only [ccC] at h; omega
  | succ n ih =>
    intro h
    simp only [ccC] at h
    by_cases h1 : c < ccC F n
    · obtain ⟨i, g1, g2⟩ := ih h1
      exact ⟨i, by omega, g2⟩
    · split at h
      · omega
      · rename_i ht
        exact ⟨n, by omega, ht, by omega⟩
/-- columns of fields -/
def coOK (S : Sch) : Prop := ∀ i, i < S.1 → fCo (S.2 i) = if fTy (S.2 i) = 4 then -1 else nI (ccC S.2 i)
def oColumn (S : Sch) (c : Int32) : Int32 := if c < 0 then -1 else fndR (fun f => decide (fCo (S.2 f) = c)) (S.1 - 0) 0
theorem oColumn_in {S : Sch} {c : Nat} {cf : Nat → Int32} (hco : coOK S) (hs : S.1 ≤ 128) (hcf : ∀ i, i < S.1 → ¬ fTy (S.2 i) = 4 → fCo (S.2 i) = nI (ccC S.2 i) ∧ cf (ccC S.2 i) = nI i) (hc : c < cc S) : oColumn S (nI c) = cf c := by
  have hcb : cc S ≤ S.1 := by
    unfold cc
    generalize S.1 = n
    induction n with
    | zero => exact Nat.le_refl _
    | succ n ih => simp only [ccC]; split <;> omega
  unfold oColumn
  rw [if_neg (nI_pos (by omega))]
  obtain ⟨i, h1, h2, h3⟩ := ccC_ex S.1 hc
  obtain ⟨i2, g1, g2, g3, g4⟩ := fndR_yes (P := fun f => decide (fCo (S.2 f) = nI c)) (S.1 - 0) 0 ⟨i, by omega, by omega, by rw [(hcf i h1 h2).1, h3]; exact decide_eq_true rfl⟩
  rw [g4]
  have g5 := of_decide_eq_true g3
  have hi2 : i2 < S.1 := by omega
  have g6 := hco i2 hi2
  have hty : ¬ fTy (S.2 i2) = 4 := fun z => by rw [if_pos z, g5] at g6; exact nI_ne1 (by omega) g6
  have g7 := hcf i2 hi2 hty
  have g8 : ccC S.2 i2 = c := by
    have := g7.1.symm.trans g5
    have hb : ccC S.2 i2 ≤ cc S := ccC_mono _ _ (by omega)
    exact (nI_eq (by omega) (by omega)).mp this
  rw [← g8, g7.2]
theorem oColumn_no {S : Sch} {c : Int32} (hco : coOK S) (hs : S.1 ≤ 128) (hcs : cc S ≤ 64) (hc : c < 0 ∨ nI (cc S) ≤ c) : oColumn S c = -1 := by
  unfold oColumn
  by_cases h0 : c < 0
  · rw [if_pos h0]
  · rw [if_neg h0]
    have hc2 : nI (cc S) ≤ c := by rcases hc with z | z; exact absurd z h0; exact z
    apply fndR_no
    intro i h1 h2
    apply decide_eq_false
    intro z
    have g6 := hco i (by omega)
    rw [z] at g6
    split at g6
    · rw [g6] at h0; exact h0 (by decide)
    · rename_i hty
      have hb : ccC S.2 (i + 1) ≤ cc S := ccC_mono _ _ (by omega)
      simp only [ccC] at hb
      rw [if_neg hty] at hb
      rw [g6, Int32.le_iff_toInt_le, nI_toInt (by omega), nI_toInt (by omega)] at hc2
      omega
def fb4 (x : Int32) : List Nat := [by4 x 0, by4 x 1, by4 x 2, by4 x 3]
/-- the tape -/
def TapAt (g : z_G) (h : z_H) (tp b : Nat) (T : List Nat) : Prop := ∃ f, h tp = some ((2, 0), .inr (1, [.ref b, .int (nI T.length)])) ∧ h b = some ((3, 0), .inl (g.2.1 0, 4000, .inl f)) ∧ z_fb f 4000 ∧ T.length ≤ 4000 ∧ ∀ k, k < T.length → T.getD k 0 < 256 ∧ f k = sb_b (T.getD k 0)
theorem getD_app_l {l m : List Nat} {k : Nat} (h : k < l.length) : (l ++ m).getD k 0 = l.getD k 0 := by simp only [List.getD_eq_getElem?_getD]; rw [List.getElem?_append_left h]
theorem getD_app_r {l m : List Nat} {k : Nat} (h : l.length ≤ k) : (l ++ m).getD k 0 = m.getD (k - l.length) 0 := by simp only [List.getD_eq_getElem?_getD]; rw [List.getElem?_append_right h]
theorem sb_fit : ∀ c, c < 256 → fits .byte (.int (sb_b c)) = true := by decide +kernel
theorem c_putFour2 (l : Launch) (g : z_G) (h : z_H) {tp b : Nat} {T : List Nat} {x : Int32} (hT : TapAt g h tp b T) (hn : T.length + 4 ≤ 4000) : z_C l y_Tape_putFour prog_11_method_3_code 3 (Option.none : Option Jvm.ClassFile.FieldType) 0 0 0 0 g [.ref tp, .int x] h (fun r h1 => r = none ∧ TapAt g h1 tp b (T ++ fb4 x) ∧ z_K (fun y => y = 2 ∨ y = 3) h h1) := by
  obtain ⟨f, e1, e2, e3, e4, e5⟩ := hT
  refine (c_Tape_putFour l g h e1 e2 hn).mono (fun r h1 hp => ?_)
  obtain ⟨a1, a2, a3, a4⟩ := hp
  have hl : (T ++ fb4 x).length = T.length + 4 := by simp [fb4]
  refine ⟨a1, ⟨_, by rw [hl]; exact a2, a3, ?_, by omega, fun k hk => ?_⟩, a4⟩
  · exact z_fbu (z_fbu (z_fbu (z_fbu e3 (sb_fit _ (by4_lt _ _))) (sb_fit _ (by4_lt _ _))) (sb_fit _ (by4_lt _ _))) (sb_fit _ (by4_lt _ _))
  · rw [hl] at hk
    by_cases hk2 : k < T.length
    · rw [getD_app_l hk2, pk_un (by omega), pk_un (by omega), pk_un (by omega), pk_un (by omega)]
      exact e5 k hk2
    · rw [getD_app_r (by omega)]
      have hc : k = T.length ∨ k = T.length + 1 ∨ k = T.length + 2 ∨ k = T.length + 3 := by omega
      rcases hc with e | e | e | e
      · subst e; rw [pk_un (by omega), pk_un (by omega), pk_un (by omega), pk_us, Nat.sub_self]; exact ⟨by4_lt _ _, rfl⟩
      · subst e; rw [pk_un (by omega), pk_un (by omega), pk_us, Nat.add_sub_cancel_left]; exact ⟨by4_lt _ _, rfl⟩
      · subst e; rw [pk_un (by omega), pk_us, Nat.add_sub_cancel_left]; exact ⟨by4_lt _ _, rfl⟩
      · subst e; rw [pk_us, Nat.add_sub_cancel_left]; exact ⟨by4_lt _ _, rfl⟩
def oFeed (T : List Nat) (a b c d e : Int32) : List Nat := T ++ fb4 a ++ fb4 b ++ fb4 c ++ fb4 d ++ fb4 e
def XPt (g : z_G) (h : z_H) (x : Option Value) (v : Value) (h1 : z_H) (xo : Nat) (T : List Nat) (S : Sch) (R : Rec) (O : List Nat) (j : Nat) : Prop := x = some v ∧ XAt g h1 xo T S R O j ∧ z_K KXr h h1
theorem few_cases (k : Int32) {n : Nat} (hn : n < 2 ^ 31) : (k < 0 ∨ nI n < k) ∨ ∃ i, i ≤ n ∧ k = nI i := by
  by_cases h0 : k < 0
  · exact Or.inl (Or.inl h0)
  · obtain ⟨i, hi, rfl⟩ := nI_of h0
    by_cases h1 : i ≤ n
    · exact Or.inr ⟨i, h1, rfl⟩
    · refine Or.inl (Or.inr ?_)
      rw [Int32.lt_iff_toInt_lt, nI_toInt hn, nI_toInt hi]
      omega
def isFew (T : List Nat) (n : Int32) : Bool := decide (n < 0) || decide (nI T.length < n)
theorem is_few {T : List Nat} {n : Int32} (h : n < 0 ∨ nI T.length < n) : isFew T n = true := by
  unfold isFew
  rcases h with h | h
  · rw [decide_eq_true h]; rfl
  · rw [decide_eq_true h, Bool.or_true]
theorem not_few {T : List Nat} {i : Nat} (h : i ≤ T.length) (hT : T.length ≤ 4000) : ¬ isFew T (nI i) = true := by
  unfold isFew
  simp only [Bool.or_eq_true, decide_eq_true_eq, Int32.lt_iff_toInt_lt]
  rw [nI_toInt (by omega), nI_toInt (by omega)]
  have : (0 : Int32).toInt = 0 := rfl
  omega
def tT (T : List Nat) : Nat → Nat := fun k => T.getD k 0
def oFind (T : List Nat) (S : Sch) (k n : Int32) : Int32 × List Nat := if isFew T n = true then (-2, T) else (nmd S k (tT T) 0 n.toNatClampNeg, [])
def oSchema (T : List Nat) (S : Sch) (R : Rec) (n : Int32) : Int32 × List Nat × Sch × Rec := if isFew T n = true then (-2, T, S, R) else match schR (tT T) n.toNatClampNeg with
  | .inl F => (nI F.1, [], S, R)
  | .inr P => (-1, [], P.2, rec0)
def oRecord (T : List Nat) (S : Sch) (R : Rec) (n : Int32) : Int32 × List Nat × Rec := if isFew T n = true then (-2, T, R) else if S.1 = 0 then (0, [], R) else match memT S (tT T) n.toNatClampNeg 0 rec0 with
  | .inl F => (nI F.1, [], R)
  | .inr P => if bt (tT T) n.toNatClampNeg (sk (tT T) n.toNatClampNeg P.1) = -1 then (-1, [], P.2) else (nI (sk (tT T) n.toNatClampNeg P.1), [], R)

set_option maxHeartbeats 4000000 in
set_option maxRecDepth 100000 in
theorem x_column_in (l : Launch) (g : z_G) (h : z_H) {xo : Nat} {T : List Nat} {S : Sch} {R : Rec} {O : List Nat} {j : Nat} {i : Nat}  (hX : XAt g h xo T S R O j) (hco : coOK S) (hi : i < cc S) : z_C l y_X_column prog_1_method_7_code 2 (Option.some Jvm.ClassFile.FieldType.int) 3 90 0 0 g [.ref xo, .int (nI i)] h (fun x h1 => x = some (.int (oColumn S (nI i))) ∧ h = h1) := by
  refine z_C.of (by decide) (Nat.le_of_ble_eq_true rfl) (fun pg en s m below meth cd A ls hx hb hml hr hts hown hlocks hnm hK hE hA hw hl => ?_)
  have hl : lv_has ls 2 [(0, .ref xo), (1, .int (nI i))] := hl
  obtain ⟨tp, b, ow, kn, pr, sp, r, mr, mr2, ra2, f, rf2, a2, c2, hxo, htp0, hb0, ⟨hfb, hT4, hT⟩, ⟨hO, hj⟩, ⟨⟨fa9, ca, adS, na, ff, cf, nf, hS⟩, hr0, hgr⟩, ⟨⟨ra, ad, tx, rf, tf, hN⟩, hpa⟩, ⟨hsp, hra2⟩, hmr⟩ := id hX
  have hkn := hS.1
  have hpr := hN.1
  have hs8 : S.1 ≤ 128 := hS.2.2.2.2.2.2.2.1
  have hcc8 : cc S ≤ 64 := hS.2.2.2.2.2.2.2.2
  have hR2 : R.1 ≤ 2000 := hN.2.2.2.2.2.1
  refine lv_aload_n hx hb d_X_column_0 rfl (lv_at hl 0 rfl) ?_
  refine z_get hx hb hts (z_lay i_X) hown hK hw hxo rfl 2 (by decide) (z_in k_148 rfl) (fun _ h9 => h9) rfl d_X_column_1 ?_
  refine lv_iload_n hx hb d_X_column_4 rfl (lv_at hl 1 rfl) ?_
  refine z_callV (n := 1) (As := [.int (nI i)]) (rest := []) ⟨hx, hb, hml, hown, hts⟩ (c_Schema_fieldOfColumn (i := i) l g h hS hi) (z_in k_486 rfl) (z_in k_4 rfl) (z_in k_483 rfl) (z_in k_484 rfl) (z_in k_485 rfl) (by decide +kernel) ⟨by first | exact Nat.le_of_ble_eq_true rfl | (dsimp only; omega) | omega, by first | exact Nat.le_of_ble_eq_true rfl | (dsimp only; omega) | omega⟩ hK hE hw hA rfl hkn rfl hl.1 (Nat.le_of_ble_eq_true rfl) d_X_column_5 ⟨by first | exact Nat.le_of_ble_eq_true rfl | (dsimp only; omega) | omega, by first | exact Nat.le_of_ble_eq_true rfl | (dsimp only; omega) | omega⟩ rfl (fun r9 h9 H locs hp hw => ?_)
  obtain ⟨r8, h8⟩ := hp
  subst r8
  subst h8
  refine W.eq (g2 := F0 m 8 ls [.int (cf i)]) rfl ?_
  exact z_iret hx hb hr hlocks hw (by refine ⟨congrArg some (congrArg Value.int ?_), rfl⟩; rw [oColumn_in hco hs8 hS.2.2.2.2.2.2.1 hi]) (by decide) (by decide) d_X_column_8

set_option maxHeartbeats 4000000 in
set_option maxRecDepth 100000 in
theorem x_column_no (l : Launch) (g : z_G) (h : z_H) {xo : Nat} {T : List Nat} {S : Sch} {R : Rec} {O : List Nat} {j : Nat} {k : Int32}  (hX : XAt g h xo T S R O j) (hco : coOK S) (ho : k < 0 ∨ nI (cc S) ≤ k) : z_C l y_X_column prog_1_method_7_code 2 (Option.some Jvm.ClassFile.FieldType.int) 3 90 0 0 g [.ref xo, .int k] h (fun x h1 => x = some (.int (oColumn S k)) ∧ h = h1) := by
  refine z_C.of (by decide) (Nat.le_of_ble_eq_true rfl) (fun pg en s m below meth cd A ls hx hb hml hr hts hown hlocks hnm hK hE hA hw hl => ?_)
  have hl : lv_has ls 2 [(0, .ref xo), (1, .int k)] := hl
  obtain ⟨tp, b, ow, kn, pr, sp, r, mr, mr2, ra2, f, rf2, a2, c2, hxo, htp0, hb0, ⟨hfb, hT4, hT⟩, ⟨hO, hj⟩, ⟨⟨fa9, ca, adS, na, ff, cf, nf, hS⟩, hr0, hgr⟩, ⟨⟨ra, ad, tx, rf, tf, hN⟩, hpa⟩, ⟨hsp, hra2⟩, hmr⟩ := id hX
  have hkn := hS.1
  have hpr := hN.1
  have hs8 : S.1 ≤ 128 := hS.2.2.2.2.2.2.2.1
  have hcc8 : cc S ≤ 64 := hS.2.2.2.2.2.2.2.2
  have hR2 : R.1 ≤ 2000 := hN.2.2.2.2.2.1
  refine lv_aload_n hx hb d_X_column_0 rfl (lv_at hl 0 rfl) ?_
  refine z_get hx hb hts (z_lay i_X) hown hK hw hxo rfl 2 (by decide) (z_in k_148 rfl) (fun _ h9 => h9) rfl d_X_column_1 ?_
  refine lv_iload_n hx hb d_X_column_4 rfl (lv_at hl 1 rfl) ?_
  refine z_callV (n := 1) (As := [.int k]) (rest := []) ⟨hx, hb, hml, hown, hts⟩ (c_Schema_fieldOfColumn_no l g h hS ho) (z_in k_486 rfl) (z_in k_4 rfl) (z_in k_483 rfl) (z_in k_484 rfl) (z_in k_485 rfl) (by decide +kernel) ⟨by first | exact Nat.le_of_ble_eq_true rfl | (dsimp only; omega) | omega, by first | exact Nat.le_of_ble_eq_true rfl | (dsimp only; omega) | omega⟩ hK hE hw hA rfl hkn rfl hl.1 (Nat.le_of_ble_eq_true rfl) d_X_column_5 ⟨by first | exact Nat.le_of_ble_eq_true rfl | (dsimp only; omega) | omega, by first | exact Nat.le_of_ble_eq_true rfl | (dsimp only; omega) | omega⟩ rfl (fun r9 h9 H locs hp hw => ?_)
  obtain ⟨r8, h8⟩ := hp
  subst r8
  subst h8
  refine W.eq (g2 := F0 m 8 ls [.int (-1)]) rfl ?_
  exact z_iret hx hb hr hlocks hw (by refine ⟨congrArg some (congrArg Value.int ?_), rfl⟩; rw [oColumn_no hco hs8 hcc8 ho]) (by decide) (by decide) d_X_column_8

set_option maxHeartbeats 4000000 in
set_option maxRecDepth 100000 in
theorem x_feed_no (l : Launch) (g : z_G) (h : z_H) {xo : Nat} {T : List Nat} {S : Sch} {R : Rec} {O : List Nat} {j : Nat} {a b9 c d e : Int32}  (hX : XAt g h xo T S R O j) (hno : ¬ T.length + 20 ≤ 4000) : z_C l y_X_feed prog_1_method_2_code 6 (Option.some Jvm.ClassFile.FieldType.boolean) 2 60 0 0 g [.ref xo, .int a, .int b9, .int c, .int d, .int e] h (fun x h1 => x = some (.int 0) ∧ h = h1) := by
  refine z_C.of (by decide) (Nat.le_of_ble_eq_true rfl) (fun pg en s m below meth cd A ls hx hb hml hr hts hown hlocks hnm hK hE hA hw hl => ?_)
  have hl : lv_has ls 6 [(0, .ref xo), (1, .int a), (2, .int b9), (3, .int c), (4, .int d), (5, .int e)] := hl
  obtain ⟨tp, b, ow, kn, pr, sp, r, mr, mr2, ra2, f, rf2, a2, c2, hxo, htp0, hb0, ⟨hfb, hT4, hT⟩, ⟨hO, hj⟩, ⟨⟨fa9, ca, adS, na, ff, cf, nf, hS⟩, hr0, hgr⟩, ⟨⟨ra, ad, tx, rf, tf, hN⟩, hpa⟩, ⟨hsp, hra2⟩, hmr⟩ := id hX
  have hkn := hS.1
  have hpr := hN.1
  have hs8 : S.1 ≤ 128 := hS.2.2.2.2.2.2.2.1
  have hcc8 : cc S ≤ 64 := hS.2.2.2.2.2.2.2.2
  have hR2 : R.1 ≤ 2000 := hN.2.2.2.2.2.1
  refine lv_aload_n hx hb d_X_feed_0 rfl (lv_at hl 0 rfl) ?_
  refine z_get hx hb hts (z_lay i_X) hown hK hw hxo rfl 0 (by decide) (z_in k_146 rfl) (fun _ h9 => h9) rfl d_X_feed_1 ?_
  refine z_callV (n := 0) (As := []) (rest := []) ⟨hx, hb, hml, hown, hts⟩ (c_Tape_hasRoom l g h htp0 hb0 hT4) (z_in k_169 rfl) (z_in k_2 rfl) (z_in k_166 rfl) (z_in k_167 rfl) (z_in k_168 rfl) (by decide +kernel) ⟨by first | exact Nat.le_of_ble_eq_true rfl | (dsimp only; omega) | omega, by first | exact Nat.le_of_ble_eq_true rfl | (dsimp only; omega) | omega⟩ hK hE hw hA rfl htp0 rfl hl.1 (Nat.le_of_ble_eq_true rfl) d_X_feed_4 ⟨by first | exact Nat.le_of_ble_eq_true rfl | (dsimp only; omega) | omega, by first | exact Nat.le_of_ble_eq_true rfl | (dsimp only; omega) | omega⟩ rfl (fun r9 h9 H locs hp hw => ?_)
  obtain ⟨r8, h8⟩ := hp
  subst r8
  subst h8
  refine W.eq (g2 := F0 m 7 ls [.int (zb (decide (T.length + 20 ≤ 4000)))]) rfl ?_
  refine lv_if_ne (tgt := 12) hx hb d_X_feed_7 (by decide) (fun c_7 => ?_) (fun c_7 => ?_)
  · -- 7: True
    have c_7 : (decide (T.length + 20 ≤ 4000)) = true := zb_t c_7
    exact absurd (of_decide_eq_true c_7) hno
  · -- 7: False
    have c_7 : (decide (T.length + 20 ≤ 4000)) = false := zb_f c_7
    refine lv_iconst (v := 0) hx hb d_X_feed_10 (by decide) ?_
    exact z_zret hx hb hr rfl hlocks hw ⟨rfl, rfl⟩ (by decide) (by decide) d_X_feed_11

set_option maxHeartbeats 4000000 in
set_option maxRecDepth 100000 in
theorem x_feed_yes (l : Launch) (g : z_G) (h : z_H) {xo : Nat} {T : List Nat} {S : Sch} {R : Rec} {O : List Nat} {j : Nat} {a b9 c d e : Int32}  (hX : XAt g h xo T S R O j) (hyes : T.length + 20 ≤ 4000) : z_C l y_X_feed prog_1_method_2_code 6 (Option.some Jvm.ClassFile.FieldType.boolean) 2 60 0 0 g [.ref xo, .int a, .int b9, .int c, .int d, .int e] h (fun x h1 => XPt g h x (.int 1) h1 xo (oFeed T a b9 c d e) S R O j) := by
  refine z_C.of (by decide) (Nat.le_of_ble_eq_true rfl) (fun pg en s m below meth cd A ls hx hb hml hr hts hown hlocks hnm hK hE hA hw hl => ?_)
  have hl : lv_has ls 6 [(0, .ref xo), (1, .int a), (2, .int b9), (3, .int c), (4, .int d), (5, .int e)] := hl
  obtain ⟨tp, b, ow, kn, pr, sp, r, mr, mr2, ra2, f, rf2, a2, c2, hxo, htp0, hb0, ⟨hfb, hT4, hT⟩, ⟨hO, hj⟩, ⟨⟨fa9, ca, adS, na, ff, cf, nf, hS⟩, hr0, hgr⟩, ⟨⟨ra, ad, tx, rf, tf, hN⟩, hpa⟩, ⟨hsp, hra2⟩, hmr⟩ := id hX
  have hkn := hS.1
  have hpr := hN.1
  have hs8 : S.1 ≤ 128 := hS.2.2.2.2.2.2.2.1
  have hcc8 : cc S ≤ 64 := hS.2.2.2.2.2.2.2.2
  have hR2 : R.1 ≤ 2000 := hN.2.2.2.2.2.1
  have hTT0 : TapAt g h tp b T := ⟨f, htp0, hb0, hfb, hT4, hT⟩
  have kk0 : z_K (fun y => y = 2 ∨ y = 3) h h := z_K.rf
  refine lv_aload_n hx hb d_X_feed_0 rfl (lv_at hl 0 rfl) ?_
  refine z_get hx hb hts (z_lay i_X) hown hK hw hxo rfl 0 (by decide) (z_in k_146 rfl) (fun _ h9 => h9) rfl d_X_feed_1 ?_
  refine z_callV (n := 0) (As := []) (rest := []) ⟨hx, hb, hml, hown, hts⟩ (c_Tape_hasRoom l g h htp0 hb0 hT4) (z_in k_169 rfl) (z_in k_2 rfl) (z_in k_166 rfl) (z_in k_167 rfl) (z_in k_168 rfl) (by decide +kernel) ⟨by first | exact Nat.le_of_ble_eq_true rfl | (dsimp only; omega) | omega, by first | exact Nat.le_of_ble_eq_true rfl | (dsimp only; omega) | omega⟩ hK hE hw hA rfl htp0 rfl hl.1 (Nat.le_of_ble_eq_true rfl) d_X_feed_4 ⟨by first | exact Nat.le_of_ble_eq_true rfl | (dsimp only; omega) | omega, by first | exact Nat.le_of_ble_eq_true rfl | (dsimp only; omega) | omega⟩ rfl (fun r9 h9 H locs hp hw => ?_)
  obtain ⟨r8, h8⟩ := hp
  subst r8
  subst h8
  refine W.eq (g2 := F0 m 7 ls [.int (zb (decide (T.length + 20 ≤ 4000)))]) rfl ?_
  refine lv_if_ne (tgt := 12) hx hb d_X_feed_7 (by decide) (fun c_7 => ?_) (fun c_7 => ?_)
  · -- 7: True
    have c_7 : (decide (T.length + 20 ≤ 4000)) = true := zb_t c_7
    refine lv_aload_n hx hb d_X_feed_12 rfl (lv_at hl 0 rfl) ?_
    refine z_get hx hb hts (z_lay i_X) hown hK hw hxo rfl 0 (by decide) (z_in k_146 rfl) (fun _ h9 => h9) rfl d_X_feed_13 ?_
    refine lv_iload_n hx hb d_X_feed_16 rfl (lv_at hl 1 rfl) ?_
    refine z_callV (n := 1) (As := [.int a]) (rest := []) ⟨hx, hb, hml, hown, hts⟩ (c_putFour2 (T := T) l g h hTT0 (by omega)) (z_in k_173 rfl) (z_in k_2 rfl) (z_in k_170 rfl) (z_in k_171 rfl) (z_in k_172 rfl) (by decide +kernel) ⟨by first | exact Nat.le_of_ble_eq_true rfl | (dsimp only; omega) | omega, by first | exact Nat.le_of_ble_eq_true rfl | (dsimp only; omega) | omega⟩ hK hE hw hA rfl htp0 rfl hl.1 (Nat.le_of_ble_eq_true rfl) d_X_feed_17 ⟨by first | exact Nat.le_of_ble_eq_true rfl | (dsimp only; omega) | omega, by first | exact Nat.le_of_ble_eq_true rfl | (dsimp only; omega) | omega⟩ rfl (fun r9 h9 H locs hp hw => ?_)
    obtain ⟨r8, t8, k8⟩ := hp
    subst r8
    obtain ⟨h1, e7⟩ : ∃ x9, x9 = h9 := ⟨_, rfl⟩
    subst e7
    obtain ⟨fT1, htT1, -⟩ := id t8
    have g1_xo : h1 xo = some ((1, 0), .inr (0, [.ref tp, .ref ow, .ref kn, .ref pr, .ref sp])) := k8 _ _ _ hxo (by simp; try omega)
    have g1_kn : h1 kn = some ((r, 0), .inr (3, [.ref fa9, .ref ca, .int (nI S.1), .int (nI (cc S)), .int (nI (rq S (-1)))])) := k8 _ _ _ hkn (by simp; try omega)
    have g1_pr : h1 pr = some ((mr, 0), .inr (5, [.ref ra, .int (nI R.1), .int (nI (tbC R.2 R.1))])) := k8 _ _ _ hpr (by simp; try omega)
    have hTT1 := t8
    have lT1 : (T ++ fb4 a).length = T.length + 4 := by rw [List.length_append]; rfl
    have kk1 : z_K (fun y => y = 2 ∨ y = 3) h h1 := kk0.tr k8
    refine W.eq (g2 := F0 m 20 ls []) rfl ?_
    refine lv_aload_n hx hb d_X_feed_20 rfl (lv_at hl 0 rfl) ?_
    refine z_get hx hb hts (z_lay i_X) hown hK hw g1_xo rfl 0 (by decide) (z_in k_146 rfl) (fun _ h9 => h9) rfl d_X_feed_21 ?_
    refine lv_iload_n hx hb d_X_feed_24 rfl (lv_at hl 2 rfl) ?_
    refine z_callV (n := 1) (As := [.int b9]) (rest := []) ⟨hx, hb, hml, hown, hts⟩ (c_putFour2 (T := T ++ fb4 a) l g h1 hTT1 (by omega)) (z_in k_173 rfl) (z_in k_2 rfl) (z_in k_170 rfl) (z_in k_171 rfl) (z_in k_172 rfl) (by decide +kernel) ⟨by first | exact Nat.le_of_ble_eq_true rfl | (dsimp only; omega) | omega, by first | exact Nat.le_of_ble_eq_true rfl | (dsimp only; omega) | omega⟩ hK hE hw hA rfl htT1 rfl hl.1 (Nat.le_of_ble_eq_true rfl) d_X_feed_25 ⟨by first | exact Nat.le_of_ble_eq_true rfl | (dsimp only; omega) | omega, by first | exact Nat.le_of_ble_eq_true rfl | (dsimp only; omega) | omega⟩ rfl (fun r9 h9 H locs hp hw => ?_)
    obtain ⟨r8, t8, k8⟩ := hp
    subst r8
    obtain ⟨h2, e7⟩ : ∃ x9, x9 = h9 := ⟨_, rfl⟩
    subst e7
    obtain ⟨fT2, htT2, -⟩ := id t8
    have g2_xo : h2 xo = some ((1, 0), .inr (0, [.ref tp, .ref ow, .ref kn, .ref pr, .ref sp])) := k8 _ _ _ g1_xo (by simp; try omega)
    have g2_kn : h2 kn = some ((r, 0), .inr (3, [.ref fa9, .ref ca, .int (nI S.1), .int (nI (cc S)), .int (nI (rq S (-1)))])) := k8 _ _ _ g1_kn (by simp; try omega)
    have g2_pr : h2 pr = some ((mr, 0), .inr (5, [.ref ra, .int (nI R.1), .int (nI (tbC R.2 R.1))])) := k8 _ _ _ g1_pr (by simp; try omega)
    have hTT2 := t8
    have lT2 : (T ++ fb4 a ++ fb4 b9).length = (T ++ fb4 a).length + 4 := by rw [List.length_append]; rfl
    have kk2 : z_K (fun y => y = 2 ∨ y = 3) h h2 := kk1.tr k8
    refine W.eq (g2 := F0 m 28 ls []) rfl ?_
    refine lv_aload_n hx hb d_X_feed_28 rfl (lv_at hl 0 rfl) ?_
    refine z_get hx hb hts (z_lay i_X) hown hK hw g2_xo rfl 0 (by decide) (z_in k_146 rfl) (fun _ h9 => h9) rfl d_X_feed_29 ?_
    refine lv_iload_n hx hb d_X_feed_32 rfl (lv_at hl 3 rfl) ?_
    refine z_callV (n := 1) (As := [.int c]) (rest := []) ⟨hx, hb, hml, hown, hts⟩ (c_putFour2 (T := T ++ fb4 a ++ fb4 b9) l g h2 hTT2 (by omega)) (z_in k_173 rfl) (z_in k_2 rfl) (z_in k_170 rfl) (z_in k_171 rfl) (z_in k_172 rfl) (by decide +kernel) ⟨by first | exact Nat.le_of_ble_eq_true rfl | (dsimp only; omega) | omega, by first | exact Nat.le_of_ble_eq_true rfl | (dsimp only; omega) | omega⟩ hK hE hw hA rfl htT2 rfl hl.1 (Nat.le_of_ble_eq_true rfl) d_X_feed_33 ⟨by first | exact Nat.le_of_ble_eq_true rfl | (dsimp only; omega) | omega, by first | exact Nat.le_of_ble_eq_true rfl | (dsimp only; omega) | omega⟩ rfl (fun r9 h9 H locs hp hw => ?_)
    obtain ⟨r8, t8, k8⟩ := hp
    subst r8
    obtain ⟨h3, e7⟩ : ∃ x9, x9 = h9 := ⟨_, rfl⟩
    subst e7
    obtain ⟨fT3, htT3, -⟩ := id t8
    have g3_xo : h3 xo = some ((1, 0), .inr (0, [.ref tp, .ref ow, .ref kn, .ref pr, .ref sp])) := k8 _ _ _ g2_xo (by simp; try omega)
    have g3_kn : h3 kn = some ((r, 0), .inr (3, [.ref fa9, .ref ca, .int (nI S.1), .int (nI (cc S)), .int (nI (rq S (-1)))])) := k8 _ _ _ g2_kn (by simp; try omega)
    have g3_pr : h3 pr = some ((mr, 0), .inr (5, [.ref ra, .int (nI R.1), .int (nI (tbC R.2 R.1))])) := k8 _ _ _ g2_pr (by simp; try omega)
    have hTT3 := t8
    have lT3 : (T ++ fb4 a ++ fb4 b9 ++ fb4 c).length = (T ++ fb4 a ++ fb4 b9).length + 4 := by rw [List.length_append]; rfl
    have kk3 : z_K (fun y => y = 2 ∨ y = 3) h h3 := kk2.tr k8
    refine W.eq (g2 := F0 m 36 ls []) rfl ?_
    refine lv_aload_n hx hb d_X_feed_36 rfl (lv_at hl 0 rfl) ?_
    refine z_get hx hb hts (z_lay i_X) hown hK hw g3_xo rfl 0 (by decide) (z_in k_146 rfl) (fun _ h9 => h9) rfl d_X_feed_37 ?_
    refine lv_iload hx hb d_X_feed_40 (lv_at hl 4 rfl) ?_
    refine z_callV (n := 1) (As := [.int d]) (rest := []) ⟨hx, hb, hml, hown, hts⟩ (c_putFour2 (T := T ++ fb4 a ++ fb4 b9 ++ fb4 c) l g h3 hTT3 (by omega)) (z_in k_173 rfl) (z_in k_2 rfl) (z_in k_170 rfl) (z_in k_171 rfl) (z_in k_172 rfl) (by decide +kernel) ⟨by first | exact Nat.le_of_ble_eq_true rfl | (dsimp only; omega) | omega, by first | exact Nat.le_of_ble_eq_true rfl | (dsimp only; omega) | omega⟩ hK hE hw hA rfl htT3 rfl hl.1 (Nat.le_of_ble_eq_true rfl) d_X_feed_42 ⟨by first | exact Nat.le_of_ble_eq_true rfl | (dsimp only; omega) | omega, by first | exact Nat.le_of_ble_eq_true rfl | (dsimp only; omega) | omega⟩ rfl (fun r9 h9 H locs hp hw => ?_)
    obtain ⟨r8, t8, k8⟩ := hp
    subst r8
    obtain ⟨h4, e7⟩ : ∃ x9, x9 = h9 := ⟨_, rfl⟩
    subst e7
    obtain ⟨fT4, htT4, -⟩ := id t8
    have g4_xo : h4 xo = some ((1, 0), .inr (0, [.ref tp, .ref ow, .ref kn, .ref pr, .ref sp])) := k8 _ _ _ g3_xo (by simp; try omega)
    have g4_kn : h4 kn = some ((r, 0), .inr (3, [.ref fa9, .ref ca, .int (nI S.1), .int (nI (cc S)), .int (nI (rq S (-1)))])) := k8 _ _ _ g3_kn (by simp; try omega)
    have g4_pr : h4 pr = some ((mr, 0), .inr (5, [.ref ra, .int (nI R.1), .int (nI (tbC R.2 R.1))])) := k8 _ _ _ g3_pr (by simp; try omega)
    have hTT4 := t8
    have lT4 : (T ++ fb4 a ++ fb4 b9 ++ fb4 c ++ fb4 d).length = (T ++ fb4 a ++ fb4 b9 ++ fb4 c).length + 4 := by rw [List.length_append]; rfl
    have kk4 : z_K (fun y => y = 2 ∨ y = 3) h h4 := kk3.tr k8
    refine W.eq (g2 := F0 m 45 ls []) rfl ?_
    refine lv_aload_n hx hb d_X_feed_45 rfl (lv_at hl 0 rfl) ?_
    refine z_get hx hb hts (z_lay i_X) hown hK hw g4_xo rfl 0 (by decide) (z_in k_146 rfl) (fun _ h9 => h9) rfl d_X_feed_46 ?_
    refine lv_iload hx hb d_X_feed_49 (lv_at hl 5 rfl) ?_
    refine z_callV (n := 1) (As := [.int e]) (rest := []) ⟨hx, hb, hml, hown, hts⟩ (c_putFour2 (T := T ++ fb4 a ++ fb4 b9 ++ fb4 c ++ fb4 d) l g h4 hTT4 (by omega)) (z_in k_173 rfl) (z_in k_2 rfl) (z_in k_170 rfl) (z_in k_171 rfl) (z_in k_172 rfl) (by decide +kernel) ⟨by first | exact Nat.le_of_ble_eq_true rfl | (dsimp only; omega) | omega, by first | exact Nat.le_of_ble_eq_true rfl | (dsimp only; omega) | omega⟩ hK hE hw hA rfl htT4 rfl hl.1 (Nat.le_of_ble_eq_true rfl) d_X_feed_51 ⟨by first | exact Nat.le_of_ble_eq_true rfl | (dsimp only; omega) | omega, by first | exact Nat.le_of_ble_eq_true rfl | (dsimp only; omega) | omega⟩ rfl (fun r9 h9 H locs hp hw => ?_)
    obtain ⟨r8, t8, k8⟩ := hp
    subst r8
    obtain ⟨h5, e7⟩ : ∃ x9, x9 = h9 := ⟨_, rfl⟩
    subst e7
    obtain ⟨fT5, htT5, -⟩ := id t8
    have g5_xo : h5 xo = some ((1, 0), .inr (0, [.ref tp, .ref ow, .ref kn, .ref pr, .ref sp])) := k8 _ _ _ g4_xo (by simp; try omega)
    have g5_kn : h5 kn = some ((r, 0), .inr (3, [.ref fa9, .ref ca, .int (nI S.1), .int (nI (cc S)), .int (nI (rq S (-1)))])) := k8 _ _ _ g4_kn (by simp; try omega)
    have g5_pr : h5 pr = some ((mr, 0), .inr (5, [.ref ra, .int (nI R.1), .int (nI (tbC R.2 R.1))])) := k8 _ _ _ g4_pr (by simp; try omega)
    have hTT5 := t8
    have lT5 : (T ++ fb4 a ++ fb4 b9 ++ fb4 c ++ fb4 d ++ fb4 e).length = (T ++ fb4 a ++ fb4 b9 ++ fb4 c ++ fb4 d).length + 4 := by rw [List.length_append]; rfl
    have kk5 : z_K (fun y => y = 2 ∨ y = 3) h h5 := kk4.tr k8
    refine W.eq (g2 := F0 m 54 ls []) rfl ?_
    refine lv_iconst (v := 1) hx hb d_X_feed_54 (by decide) ?_
    exact z_zret hx hb hr rfl hlocks hw (by obtain ⟨fZ, z1, z2, z3, z4, z5⟩ := hTT5; exact ⟨rfl, ⟨tp, b, ow, kn, pr, sp, r, mr, mr2, ra2, fZ, rf2, a2, c2, g5_xo, z1, z2, ⟨z3, z4, z5⟩, ⟨hO.k kk5 (by omega) (by omega), hj⟩, ⟨⟨_, _, _, _, _, _, _, hS.k kk5 (by omega) (by omega) (by omega)⟩, hr0, hgr⟩, ⟨⟨_, _, _, _, _, hN.k kk5 (by omega) (by omega) (by omega)⟩, hpa⟩, ⟨kk5 _ _ _ hsp (by dsimp only; omega), kk5 _ _ _ hra2 (by dsimp only; omega)⟩, hmr⟩, kk5.mono (fun y z => by unfold KXr; omega)⟩) (by decide) (by decide) d_X_feed_55
  · -- 7: False
    have c_7 : (decide (T.length + 20 ≤ 4000)) = false := zb_f c_7
    exact absurd hyes (of_decide_eq_false c_7)

set_option maxHeartbeats 4000000 in
set_option maxRecDepth 100000 in
theorem x_begin (l : Launch) (g : z_G) (h : z_H) {xo : Nat} {T : List Nat} {S : Sch} {R : Rec} {O : List Nat} {j : Nat}   (hX : XAt g h xo T S R O j)  : z_C l y_X_begin prog_1_method_10_code 1 (Option.none : Option Jvm.ClassFile.FieldType) 3 70 1 7 g [.ref xo] h (fun x h1 => x = none ∧ XAt g h1 xo T S rec0 O j ∧ z_K KXr h h1) := by
  refine z_C.of (by decide) (Nat.le_of_ble_eq_true rfl) (fun pg en s m below meth cd A ls hx hb hml hr hts hown hlocks hnm hK hE hA hw hl => ?_)
  have hl : lv_has ls 1 [(0, .ref xo)] := hl
  obtain ⟨tp, b, ow, kn, pr, sp, r, mr, mr2, ra2, f, rf2, a2, c2, hxo, htp0, hb0, ⟨hfb, hT4, hT⟩, ⟨hO, hj⟩, ⟨⟨fa9, ca, adS, na, ff, cf, nf, hS⟩, hr0, hgr⟩, ⟨⟨ra, ad, tx, rf, tf, hN⟩, hpa⟩, ⟨hsp, hra2⟩, hmr⟩ := id hX
  have hkn := hS.1
  have hpr := hN.1
  have hs8 : S.1 ≤ 128 := hS.2.2.2.2.2.2.2.1
  have hcc8 : cc S ≤ 64 := hS.2.2.2.2.2.2.2.2
  have hR2 : R.1 ≤ 2000 := hN.2.2.2.2.2.1
  have kk0 : z_K (KXr) h h := z_K.rf
  refine lv_aload_n hx hb d_X_begin_0 rfl (lv_at hl 0 rfl) ?_
  refine z_get hx hb hts (z_lay i_X) hown hK hw hxo rfl 3 (by decide) (z_in k_149 rfl) (fun _ h9 => h9) rfl d_X_begin_1 ?_
  refine z_callV (n := 0) (As := []) (rest := []) ⟨hx, hb, hml, hown, hts⟩ (c_NodeRow_clear l g h hpr hN.2.1) (z_in k_94 rfl) (z_in k_5 rfl) (z_in k_458 rfl) (z_in k_92 rfl) (z_in k_93 rfl) (by decide +kernel) ⟨by first | exact Nat.le_of_ble_eq_true rfl | (dsimp only; omega) | omega, by first | exact Nat.le_of_ble_eq_true rfl | (dsimp only; omega) | omega⟩ hK hE hw hA rfl hpr rfl hl.1 (Nat.le_of_ble_eq_true rfl) d_X_begin_4 ⟨by first | exact Nat.le_of_ble_eq_true rfl | (dsimp only; omega) | omega, by first | exact Nat.le_of_ble_eq_true rfl | (dsimp only; omega) | omega⟩ rfl (fun r9 h9 H locs hp hw => ?_)
  obtain ⟨adC, txC, rfC, tfC, r8, nC, kC⟩ := hp
  subst r8
  obtain ⟨h1, e7⟩ : ∃ x9, x9 = h9 := ⟨_, rfl⟩
  subst e7
  have g1_xo : h1 xo = some ((1, 0), .inr (0, [.ref tp, .ref ow, .ref kn, .ref pr, .ref sp])) := kC _ _ _ hxo (by simp; try omega)
  have g1_tp : h1 tp = some ((2, 0), .inr (1, [.ref b, .int (nI T.length)])) := kC _ _ _ htp0 (by simp; try omega)
  have g1_b : h1 b = some ((3, 0), .inl (g.2.1 0, 4000, .inl f)) := kC _ _ _ hb0 (by simp; try omega)
  have g1_kn : h1 kn = some ((r, 0), .inr (3, [.ref fa9, .ref ca, .int (nI S.1), .int (nI (cc S)), .int (nI (rq S (-1)))])) := kC _ _ _ hkn (by simp; try omega)
  have kk1 : z_K (KXr) h h1 := kk0.tr (kC.K (fun t z => by unfold KXr; rcases z with z | z | z <;> simp only [z] <;> omega))
  refine W.eq (g2 := F0 m 7 ls []) rfl ?_
  exact z_vret hx hb hr hlocks hw ⟨rfl, ⟨tp, b, ow, kn, pr, sp, r, mr, mr2, ra2, f, rf2, a2, c2, g1_xo, g1_tp, g1_b, ⟨hfb, hT4, hT⟩, ⟨hO.k (kC.K (R := fun y => y = mr ∨ y = mr + 1) (fun t z => by rcases z with z | z | z <;> simp [z])) (by omega) (by omega), hj⟩, ⟨⟨_, _, _, _, _, _, _, hS.k (kC.K (R := fun y => y = mr ∨ y = mr + 1) (fun t z => by rcases z with z | z | z <;> simp [z])) (by omega) (by omega) (by omega)⟩, hr0, hgr⟩, ⟨⟨_, _, _, _, _, nC S⟩, rec0_ok⟩, ⟨kC _ _ _ hsp (by simp; omega), kC _ _ _ hra2 (by simp; omega)⟩, hmr⟩, kk1⟩ (by decide) (by decide) d_X_begin_7

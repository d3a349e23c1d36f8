/-- both sides of an operation: the same answer, the same state behind it; what the class's side costs -/
def Pr {α : Type} (ans : α → Option Value) (g : z_G) (h : z_H) (xo mo : Nat) (T : List Nat) (S : Sch) (R : Rec) (O : List Nat) (j : Nat) (CX CM : Nat → Nat → Nat → Nat → z_H → (Option Value → z_H → Prop) → Prop) : Prop :=
  ∃ (frx lox frm lom mc ms : Nat) (v : α) (T1 : List Nat) (S1 : Sch) (R1 : Rec) (O1 : List Nat) (j1 : Nat) (dp1 : Nat → Nat), (frx ≤ 800 ∧ lox ≤ 20000 ∧ frm ≤ 800 ∧ lom ≤ 20000 ∧ j1 ≤ 8) ∧ WS S1 dp1 ∧ WR S1 R1 ∧ (mc + T1.length + jf j O.length ≤ 300 + T.length + jf j1 O1.length ∧ ms + 5 * T1.length + slj j O.length ≤ 3700 + 5 * T.length + slj j1 O1.length) ∧
  CX frx lox mc ms h (fun x h1 => x = ans v ∧ XAt g h1 xo T1 S1 R1 O1 j1 ∧ z_K KXr h h1) ∧ ∀ h1, MAt g h1 mo T S R O → CM frm lom 0 0 h1 (fun x h2 => x = ans v ∧ MAt g h2 mo T1 S1 R1 O1 ∧ z_K KMr h1 h2)
abbrev pvI (v : Int32) : Option Value := some (.int v)
abbrev pvL (v : Int64) : Option Value := some (.long v)
abbrev pvN (_ : Unit) : Option Value := none
section PAIR
variable {g : z_G} {h h1 : z_H} {xo mo : Nat} {T : List Nat} {S : Sch} {R : Rec} {O : List Nat} {j : Nat} {dp : Nat → Nat}
theorem XAt.k (x : XAt g h xo T S R O j) (hk : z_K KMr h h1) : XAt g h1 xo T S R O j := by
  obtain ⟨tp, b, ow, kn, pr, sp, r, mr, mr2, ra2, f, rf2, a2, c2, hxo, htp0, hb0, hTT, ⟨hO, hj⟩, ⟨⟨fa9, ca, adS, na, ff, cf, nf, hS⟩, hr0, hgr⟩, ⟨⟨ra, ad, tx, rf, tf, hN⟩, hpa⟩, ⟨hsp, hra2⟩, hmr⟩ := x
  have n1 : ∀ y, (y < 20 ∨ 40 ≤ y) → ¬ KMr y := fun y hy z => by unfold KMr at z; omega
  exact ⟨tp, b, ow, kn, pr, sp, r, mr, mr2, ra2, f, rf2, a2, c2, hk _ _ _ hxo (n1 _ (by omega)), hk _ _ _ htp0 (n1 _ (by omega)), hk _ _ _ hb0 (n1 _ (by omega)), hTT, ⟨hO.k hk (n1 _ (by omega)) (n1 _ (by omega)), hj⟩, ⟨⟨fa9, ca, adS, na, ff, cf, nf, hS.k hk (n1 _ (by omega)) (n1 _ (by omega)) (n1 _ (by omega))⟩, hr0, hgr⟩, ⟨⟨ra, ad, tx, rf, tf, hN.k hk (n1 _ (by omega)) (n1 _ (by omega)) (n1 _ (by omega))⟩, hpa⟩, ⟨hk _ _ _ hsp (n1 _ (by show mr2 < 20 ∨ 40 ≤ mr2; omega)), hk _ _ _ hra2 (n1 _ (by show mr2 < 20 ∨ 40 ≤ mr2; omega))⟩, hmr⟩
theorem MAt.k (x : MAt g h mo T S R O) (hk : z_K KXr h h1) : MAt g h1 mo T S R O := by
  obtain ⟨ma, cod, siz, ffl, fcl, at9, il, a1, a2, a3, a4, a5, a6, a7, a8⟩ := x
  have n1 : ∀ y, (20 ≤ y ∧ y < 40) → ¬ KXr y := fun y hy z => by unfold KXr at z; omega
  exact ⟨ma, cod, siz, ffl, fcl, at9, il, hk _ _ _ a1 (n1 _ (by omega)), a2.k hk (n1 _ (by omega)), a3.k hk (n1 _ (by omega)), a4.k hk (n1 _ (by omega)) (n1 _ (by omega)) (n1 _ (by omega)), a5.k hk (n1 _ (by omega)) (n1 _ (by omega)) (n1 _ (by omega)), a6.k hk (n1 _ (by omega)) (n1 _ (by omega)) (n1 _ (by omega)), a7.k hk (n1 _ (by omega)) (n1 _ (by omega)) (n1 _ (by omega)), a8.k hk (n1 _ (by omega))⟩
theorem XAt.cell (x : XAt g h xo T S R O j) : ∃ fs, h xo = some ((1, 0), .inr (0, fs)) := by
  obtain ⟨tp, b, ow, kn, pr, sp, r, mr, mr2, ra2, f, rf2, a2, c2, hxo, -⟩ := x
  exact ⟨_, hxo⟩
theorem MAt.cell (x : MAt g h mo T S R O) : ∃ fs, h mo = some ((20, 0), .inr (11, fs)) := by
  obtain ⟨ma, cod, siz, ffl, fcl, at9, il, a1, -⟩ := x
  exact ⟨_, a1⟩
theorem XAt.tape (x : XAt g h xo T S R O j) : (T.length ≤ 4000 ∧ ∀ k, k < T.length → T.getD k 0 < 256) ∧ j ≤ 8 := by
  obtain ⟨tp, b, ow, kn, pr, sp, r, mr, mr2, ra2, f, rf2, a2, c2, hxo, htp0, hb0, ⟨-, h1, h2⟩, ⟨-, hj⟩, -⟩ := x
  exact ⟨⟨h1, fun k hk => (h2 k hk).1⟩, hj⟩
theorem pq {x y : Option Value} (hX : XAt g h xo T S R O j) (hp : x = y ∧ h = h1) : x = y ∧ XAt g h1 xo T S R O j ∧ z_K KXr h h1 := by
  obtain ⟨e1, e2⟩ := hp
  subst e2
  exact ⟨e1, hX, z_K.rf⟩
theorem WR.r0 (hR : WR S R) : 0 < R.1 ∧ ndFi (R.2 0) = -1 ∧ ndPa (R.2 0) = -1 := by
  refine ⟨hR.2.1.1, ?_, ?_⟩ <;> rw [hR.2.2.1] <;> rfl
theorem WR.n0 (hR : WR S R) : ndNu (R.2 0) = 0 ∧ ndTx (R.2 0) = [] := by
  refine ⟨?_, ?_⟩ <;> rw [hR.2.2.1] <;> rfl
theorem WR.fi (hR : WR S R) : fiOK S R := by
  intro i hi
  by_cases e : i = 0
  · subst e; exact Or.inl hR.r0.2.1
  · exact Or.inr (hR.2.2.2.1 i (by omega) hi)
theorem WS.s8 (hS : WS S dp) : S.1 ≤ 128 := hS.1.1

theorem pr_count (l : Launch) {k : Int32} (hX : XAt g h xo T S R O j) (hS : WS S dp) (hR : WR S R) : Pr pvI g h xo mo T S R O j (fun fr lo mc ms h post => z_C l y_X_count prog_1_method_4_code 2 (Option.some Jvm.ClassFile.FieldType.int) fr lo mc ms g [.ref xo, .int k] h post) (fun fr lo mc ms h post => z_C l y_M_count prog_13_method_17_code 2 (Option.some Jvm.ClassFile.FieldType.int) fr lo mc ms g [.ref mo, .int k] h post) := by
  exact ⟨_, _, _, _, _, _, oCount S k, T, S, R, O, j, dp, ⟨by decide, by decide, by decide, by decide, hX.tape.2⟩, hS, hR, ⟨by omega, by omega⟩, (x_count l g h hX).mono (fun r h1 hp => pq hX hp), fun h1 hM => m_count l g h1 hM⟩
theorem pr_field (l : Launch) {a k : Int32} (hX : XAt g h xo T S R O j) (hS : WS S dp) (hR : WR S R) : Pr pvI g h xo mo T S R O j (fun fr lo mc ms h post => z_C l y_X_field prog_1_method_5_code 4 (Option.some Jvm.ClassFile.FieldType.int) fr lo mc ms g [.ref xo, .int a, .int k] h post) (fun fr lo mc ms h post => z_C l y_M_field prog_13_method_20_code 3 (Option.some Jvm.ClassFile.FieldType.int) fr lo mc ms g [.ref mo, .int a, .int k] h post) := by
  exact ⟨_, _, _, _, _, _, oField S a k, T, S, R, O, j, dp, ⟨by decide, by decide, by decide, by decide, hX.tape.2⟩, hS, hR, ⟨by omega, by omega⟩, (x_field l g h hX).mono (fun r h1 hp => pq hX hp), fun h1 hM => m_field l g h1 hM hS.s8 hS.2.1 hS.2.2.2.1⟩
theorem pr_letter (l : Launch) {a k : Int32} (hX : XAt g h xo T S R O j) (hS : WS S dp) (hR : WR S R) : Pr pvI g h xo mo T S R O j (fun fr lo mc ms h post => z_C l y_X_letter prog_1_method_6_code 4 (Option.some Jvm.ClassFile.FieldType.int) fr lo mc ms g [.ref xo, .int a, .int k] h post) (fun fr lo mc ms h post => z_C l y_M_letter prog_13_method_21_code 3 (Option.some Jvm.ClassFile.FieldType.int) fr lo mc ms g [.ref mo, .int a, .int k] h post) := by
  exact ⟨_, _, _, _, _, _, oLetter S a k, T, S, R, O, j, dp, ⟨by decide, by decide, by decide, by decide, hX.tape.2⟩, hS, hR, ⟨by omega, by omega⟩, (x_letter l g h hX).mono (fun r h1 hp => pq hX hp), fun h1 hM => m_letter l g h1 hM hS.s8 (fun i hi => (hS.1.2.2 i hi).1)⟩
theorem pr_column (l : Launch) {k : Int32} (hX : XAt g h xo T S R O j) (hS : WS S dp) (hR : WR S R) : Pr pvI g h xo mo T S R O j (fun fr lo mc ms h post => z_C l y_X_column prog_1_method_7_code 2 (Option.some Jvm.ClassFile.FieldType.int) fr lo mc ms g [.ref xo, .int k] h post) (fun fr lo mc ms h post => z_C l y_M_column prog_13_method_22_code 3 (Option.some Jvm.ClassFile.FieldType.int) fr lo mc ms g [.ref mo, .int k] h post) := by
  have hc : cc S < 2 ^ 31 := by have := hS.1.2.1; omega
  rcases ix_cases k hc with ho | ⟨i, hi, e⟩
  · exact ⟨_, _, _, _, _, _, oColumn S k, T, S, R, O, j, dp, ⟨by decide, by decide, by decide, by decide, hX.tape.2⟩, hS, hR, ⟨by omega, by omega⟩, (x_column_no l g h hX hS.2.2.1 ho).mono (fun r h1 hp => pq hX hp), fun h1 hM => m_column l g h1 hM hS.s8⟩
  · subst e
    exact ⟨_, _, _, _, _, _, oColumn S (nI i), T, S, R, O, j, dp, ⟨by decide, by decide, by decide, by decide, hX.tape.2⟩, hS, hR, ⟨by omega, by omega⟩, (x_column_in l g h hX hS.2.2.1 hi).mono (fun r h1 hp => pq hX hp), fun h1 hM => m_column l g h1 hM hS.s8⟩
theorem pr_find (l : Launch) {k n : Int32} (hX : XAt g h xo T S R O j) (hS : WS S dp) (hR : WR S R) : Pr pvI g h xo mo T S R O j (fun fr lo mc ms h post => z_C l y_X_find prog_1_method_8_code 4 (Option.some Jvm.ClassFile.FieldType.int) fr lo mc ms g [.ref xo, .int k, .int n] h post) (fun fr lo mc ms h post => z_C l y_M_find prog_13_method_24_code 3 (Option.some Jvm.ClassFile.FieldType.int) fr lo mc ms g [.ref mo, .int k, .int n] h post) := by
  have hT := hX.tape
  have hT4 : T.length < 2 ^ 31 := by have := hT.1.1; omega
  rcases few_cases n hT4 with ho | ⟨i, hi, e⟩
  · exact ⟨_, _, _, _, _, _, -2, T, S, R, O, j, dp, ⟨by decide, by decide, by decide, by decide, hX.tape.2⟩, hS, hR, ⟨by omega, by omega⟩, (x_find_few l g h hX ho).mono (fun r h1 hp => pq hX hp), fun h1 hM => m_find_few l g h1 hM ho⟩
  · subst e
    exact ⟨_, _, _, _, _, _, nmd S k (tT T) 0 i, [], S, R, O, j, dp, ⟨by decide, by decide, by decide, by decide, hX.tape.2⟩, hS, hR, ⟨by simp; omega, by simp; omega⟩, x_find_ok l g h hX hi, fun h1 hM => m_find_ok l g h1 hM hi hS.1 hS.2.2.2.2.1 hS.2.1⟩
theorem oSchema_keep {i : Nat} (hS : WS S dp) (hR : WR S R) (hT : T.length ≤ 4000 ∧ ∀ k, k < T.length → T.getD k 0 < 256) (hi : i ≤ T.length) : (oSchema T S R (nI i)).2.1 = [] ∧ ∃ dp1, WS (oSchema T S R (nI i)).2.2.1 dp1 ∧ WR (oSchema T S R (nI i)).2.2.1 (oSchema T S R (nI i)).2.2.2 := by
  unfold oSchema
  rw [if_neg (not_few hi hT.1), nI_clamp (by omega)]
  cases e : schR (tT T) i with
  | inl F => exact ⟨rfl, dp, hS, hR⟩
  | inr P =>
    obtain ⟨dp1, h1⟩ := schR_ws (t := tT T) (n := i) (fun k hk => hT.2 k (by omega)) (p := P.1) (S := P.2) e
    exact ⟨rfl, dp1, h1, WR0 _⟩
theorem oRecord_keep {i : Nat} (hS : WS S dp) (hR : WR S R) (hT : T.length ≤ 4000 ∧ ∀ k, k < T.length → T.getD k 0 < 256) (hi : i ≤ T.length) : (oRecord T S R (nI i)).2.1 = [] ∧ WR S (oRecord T S R (nI i)).2.2 := by
  unfold oRecord
  rw [if_neg (not_few hi hT.1), nI_clamp (by omega)]
  by_cases h0 : S.1 = 0
  · rw [if_pos h0]; exact ⟨rfl, hR⟩
  · rw [if_neg h0]
    have hk := memT_kp hS.s8 hS.2.2.2.2.2.2.1 (t := tT T) (n := i) (by omega) (fun k hk => hT.2 k (by omega))
    cases e : memT S (tT T) i 0 rec0 with
    | inl F => exact ⟨rfl, hR⟩
    | inr P =>
      dsimp only
      by_cases h1 : bt (tT T) i (sk (tT T) i P.1) = -1
      · rw [if_pos h1]; exact ⟨rfl, (hk.2 P e).1⟩
      · rw [if_neg h1]; exact ⟨rfl, hR⟩
theorem okAdd_keep {pa f : Int32} {ok : Bool} (hS : WS S dp) (hR : WR S R) (h : okAdd S R pa f ok = true) {v : Int64} {l : List Nat} (hb : fTy (S.2 f.toNatClampNeg) = 0 → v = 0 ∨ v = 1) (hl5 : l.length ≤ 255) (hl6 : ∀ k, k < l.length → l.getD k 0 < 256) (ht : tbC R.2 R.1 + l.length ≤ 16000) : WR S (addN R (f, pa, v, l)) := by
  unfold okAdd at h
  simp only [Bool.and_eq_true, decide_eq_true_eq] at h
  obtain ⟨⟨⟨⟨h1, -⟩, h2⟩, h3⟩, h4⟩ := h
  have s8 := hS.s8
  obtain ⟨i, hi, e⟩ := isIx_ex h1 (by omega)
  obtain ⟨p, hp, e2⟩ := isIx_ex h2 (by omega)
  subst e; subst e2
  rw [nI_clamp (by omega), nI_clamp (by omega)] at h3
  rw [nI_clamp (by omega)] at hb
  unfold mayT at h3
  simp only [Bool.and_eq_true, Bool.or_eq_true, decide_eq_true_eq] at h3
  exact hR.add s8 hi hp h3.1.1 h3.1.2 h3.2 hb hl5 hl6 h4 ht

theorem pr_schema (l : Launch) {n : Int32} (hX : XAt g h xo T S R O j) (hS : WS S dp) (hR : WR S R) : Pr pvI g h xo mo T S R O j (fun fr lo mc ms h post => z_C l y_X_schema prog_1_method_3_code 4 (Option.some Jvm.ClassFile.FieldType.int) fr lo mc ms g [.ref xo, .int n] h post) (fun fr lo mc ms h post => z_C l y_M_schema prog_13_method_16_code 4 (Option.some Jvm.ClassFile.FieldType.int) fr lo mc ms g [.ref mo, .int n] h post) := by
  have hT := hX.tape
  have hT4 : T.length < 2 ^ 31 := by have := hT.1.1; omega
  rcases few_cases n hT4 with ho | ⟨i, hi, e⟩
  · exact ⟨_, _, _, _, _, _, -2, T, S, R, O, j, dp, ⟨by decide, by decide, by decide, by decide, hX.tape.2⟩, hS, hR, ⟨by omega, by omega⟩, (x_schema_few l g h hX ho).mono (fun r h1 hp => pq hX hp), fun h1 hM => m_schema_few l g h1 hM ho⟩
  · subst e
    obtain ⟨e1, dp1, w1, w2⟩ := oSchema_keep hS hR hT.1 hi
    exact ⟨_, _, _, _, _, _, (oSchema T S R (nI i)).1, _, _, _, O, j, dp1, ⟨by decide, by decide, by decide, by decide, hX.tape.2⟩, w1, w2, ⟨by rw [e1]; simp; omega, by rw [e1]; simp; omega⟩, x_schema_ok l g h hX hi, fun h1 hM => m_schema_ok l g h1 hM hi hR.r0 hS.s8⟩
theorem pr_record (l : Launch) {n : Int32} (hX : XAt g h xo T S R O j) (hS : WS S dp) (hR : WR S R) : Pr pvI g h xo mo T S R O j (fun fr lo mc ms h post => z_C l y_X_record prog_1_method_9_code 5 (Option.some Jvm.ClassFile.FieldType.int) fr lo mc ms g [.ref xo, .int n] h post) (fun fr lo mc ms h post => z_C l y_M_record prog_13_method_36_code 5 (Option.some Jvm.ClassFile.FieldType.int) fr lo mc ms g [.ref mo, .int n] h post) := by
  have hT := hX.tape
  have hT4 : T.length < 2 ^ 31 := by have := hT.1.1; omega
  rcases few_cases n hT4 with ho | ⟨i, hi, e⟩
  · exact ⟨_, _, _, _, _, _, -2, T, S, R, O, j, dp, ⟨by decide, by decide, by decide, by decide, hX.tape.2⟩, hS, hR, ⟨by omega, by omega⟩, (x_record_few l g h hX ho).mono (fun r h1 hp => pq hX hp), fun h1 hM => m_record_few l g h1 hM ho⟩
  · subst e
    obtain ⟨e1, w2⟩ := oRecord_keep hS hR hT.1 hi
    have hk := (memT_kp hS.s8 hS.2.2.2.2.2.2.1 (t := tT T) (n := i) (by have := hT.1.1; omega) (fun k hk => hT.1.2 k (by omega))).1
    exact ⟨_, _, _, _, _, _, (oRecord T S R (nI i)).1, _, S, _, O, j, dp, ⟨by decide, by decide, by decide, by decide, hX.tape.2⟩, hS, w2, ⟨by rw [e1]; simp; omega, by rw [e1]; simp; omega⟩, x_record_ok l g h hX hi rfl, fun h1 hM => m_record_ok l g h1 hM hi hR.r0 hR.2.1.2.1 hR.2.1.2.2 hS.1 hS.2.2.2.2.1 hS.2.1 hS.2.2.2.2.2.1 hS.2.2.2.2.2.2.1⟩
theorem pr_begin (l : Launch)  (hX : XAt g h xo T S R O j) (hS : WS S dp) (hR : WR S R) : Pr pvN g h xo mo T S R O j (fun fr lo mc ms h post => z_C l y_X_begin prog_1_method_10_code 1 (Option.none : Option Jvm.ClassFile.FieldType) fr lo mc ms g [.ref xo] h post) (fun fr lo mc ms h post => z_C l y_M_begin prog_13_method_37_code 1 (Option.none : Option Jvm.ClassFile.FieldType) fr lo mc ms g [.ref mo] h post) := by
  exact ⟨_, _, _, _, _, _, (), T, S, rec0, O, j, dp, ⟨by decide, by decide, by decide, by decide, hX.tape.2⟩, hS, WR0 S, ⟨by omega, by omega⟩, x_begin l g h hX, fun h1 hM => m_begin l g h1 hM hR.r0⟩
theorem oAdd_keep {pa f : Int32} {v : Int64} (hS : WS S dp) (hR : WR S R) : WR S (oAdd S R pa f v).2 := by
  unfold oAdd
  by_cases h0 : okAdd S R pa f (!decide (fTy (S.2 f.toNatClampNeg) = 3) && (!decide (fTy (S.2 f.toNatClampNeg) = 1) || decide (v = v.toInt32.toInt64))) = true
  · rw [if_pos h0]
    refine okAdd_keep hS hR h0 (fun e => ?_) (by simp) (fun k hk => absurd hk (Nat.not_lt_zero _)) (by simpa using hR.2.1.2.2)
    unfold keptN
    rw [if_pos e]
    by_cases z : v = 0
    · rw [if_pos z]; exact Or.inl rfl
    · rw [if_neg z]; exact Or.inr rfl
  · rw [if_neg h0]; exact hR
theorem oAddText_keep {pa f : Int32} {i : Nat} (hS : WS S dp) (hR : WR S R) (hT : T.length ≤ 4000 ∧ ∀ k, k < T.length → T.getD k 0 < 256) (hi : i ≤ T.length) : (oAddText T S R pa f (nI i)).2.1 = [] ∧ WR S (oAddText T S R pa f (nI i)).2.2 := by
  unfold oAddText
  rw [if_neg (not_few hi hT.1), nI_clamp (by omega)]
  by_cases h0 : (okAdd S R pa f (decide (fTy (S.2 f.toNatClampNeg) = 3) && decide (nI i ≤ 255)) && decide (tbR R + i ≤ 16000)) = true
  · rw [if_pos h0]
    have h1 := h0
    simp only [Bool.and_eq_true, decide_eq_true_eq] at h1
    have h2 : okAdd S R pa f (decide (fTy (S.2 f.toNatClampNeg) = 3) && decide (nI i ≤ 255)) = true := h1.1
    have h3 : fTy (S.2 f.toNatClampNeg) = 3 ∧ nI i ≤ 255 := by
      have h9 := h2
      unfold okAdd at h9
      simp only [Bool.and_eq_true, decide_eq_true_eq] at h9
      exact h9.1.1.1.2
    have h4 : i ≤ 255 := by
      have h9 := h3.2
      rw [show (255 : Int32) = nI 255 from rfl] at h9
      exact (nI_leI (by omega) (by omega)).mp h9
    have h5 : (T.take i).length = i := by rw [List.length_take]; omega
    refine ⟨rfl, okAdd_keep hS hR h2 (fun e => absurd (e.symm.trans h3.1) (by decide)) (by omega) (fun k hk => ?_) (by rw [h5]; exact h1.2)⟩
    rw [h5] at hk
    rw [List.getD_eq_getElem?_getD, List.getElem?_take_of_lt hk, ← List.getD_eq_getElem?_getD]
    exact hT.2 k (by omega)
  · rw [if_neg h0]; exact ⟨rfl, hR⟩

theorem pr_add (l : Launch) {pa f : Int32} {v : Int64} (hX : XAt g h xo T S R O j) (hS : WS S dp) (hR : WR S R) : Pr pvI g h xo mo T S R O j (fun fr lo mc ms h post => z_C l y_X_add prog_1_method_11_code 6 (Option.some Jvm.ClassFile.FieldType.int) fr lo mc ms g [.ref xo, .int pa, .int f, .long v] h post) (fun fr lo mc ms h post => z_C l y_M_add prog_13_method_39_code 5 (Option.some Jvm.ClassFile.FieldType.int) fr lo mc ms g [.ref mo, .int pa, .int f, .long v] h post) := by
  exact ⟨_, _, _, _, _, _, (oAdd S R pa f v).1, T, S, _, O, j, dp, ⟨by decide, by decide, by decide, by decide, hX.tape.2⟩, hS, oAdd_keep hS hR, ⟨by omega, by omega⟩, x_add l g h hX, fun h1 hM => m_add l g h1 hM hS.s8 hR.2.1.2.1 hR.2.1.1 hR.1 hR.2.2.2.2.1⟩
theorem pr_addText (l : Launch) {pa f n : Int32} (hX : XAt g h xo T S R O j) (hS : WS S dp) (hR : WR S R) : Pr pvI g h xo mo T S R O j (fun fr lo mc ms h post => z_C l y_X_addText prog_1_method_12_code 6 (Option.some Jvm.ClassFile.FieldType.int) fr lo mc ms g [.ref xo, .int pa, .int f, .int n] h post) (fun fr lo mc ms h post => z_C l y_M_addText prog_13_method_40_code 6 (Option.some Jvm.ClassFile.FieldType.int) fr lo mc ms g [.ref mo, .int pa, .int f, .int n] h post) := by
  have hT := hX.tape
  have hT4 : T.length < 2 ^ 31 := by have := hT.1.1; omega
  rcases few_cases n hT4 with ho | ⟨i, hi, e⟩
  · exact ⟨_, _, _, _, _, _, -2, T, S, R, O, j, dp, ⟨by decide, by decide, by decide, by decide, hX.tape.2⟩, hS, hR, ⟨by omega, by omega⟩, (x_addText_few l g h hX ho).mono (fun r h1 hp => pq hX hp), fun h1 hM => m_addText_few l g h1 hM ho⟩
  · subst e
    obtain ⟨e1, w2⟩ := oAddText_keep (pa := pa) (f := f) hS hR hT.1 hi
    exact ⟨_, _, _, _, _, _, (oAddText T S R pa f (nI i)).1, _, S, _, O, j, dp, ⟨by decide, by decide, by decide, by decide, hX.tape.2⟩, hS, w2, ⟨by rw [e1]; simp; omega, by rw [e1]; simp; omega⟩, x_addText l g h hX hi, fun h1 hM => m_addText l g h1 hM hi hS.s8 hR.2.1.2.1 hR.2.1.1 hR.1 hR.2.2.2.2.1 hR.2.1.2.2⟩
theorem pr_nodes (l : Launch)  (hX : XAt g h xo T S R O j) (hS : WS S dp) (hR : WR S R) : Pr pvI g h xo mo T S R O j (fun fr lo mc ms h post => z_C l y_X_nodes prog_1_method_13_code 1 (Option.some Jvm.ClassFile.FieldType.int) fr lo mc ms g [.ref xo] h post) (fun fr lo mc ms h post => z_C l y_M_nodes prog_13_method_41_code 1 (Option.some Jvm.ClassFile.FieldType.int) fr lo mc ms g [.ref mo] h post) := by
  exact ⟨_, _, _, _, _, _, nI R.1, T, S, R, O, j, dp, ⟨by decide, by decide, by decide, by decide, hX.tape.2⟩, hS, hR, ⟨by omega, by omega⟩, (x_nodes l g h hX).mono (fun r h1 hp => pq hX hp), fun h1 hM => m_nodes l g h1 hM⟩
theorem pr_node (l : Launch) {a k : Int32} (hX : XAt g h xo T S R O j) (hS : WS S dp) (hR : WR S R) : Pr pvI g h xo mo T S R O j (fun fr lo mc ms h post => z_C l y_X_node prog_1_method_14_code 4 (Option.some Jvm.ClassFile.FieldType.int) fr lo mc ms g [.ref xo, .int a, .int k] h post) (fun fr lo mc ms h post => z_C l y_M_node2 prog_13_method_43_code 5 (Option.some Jvm.ClassFile.FieldType.int) fr lo mc ms g [.ref mo, .int a, .int k] h post) := by
  exact ⟨_, _, _, _, _, _, oNode R a k, T, S, R, O, j, dp, ⟨by decide, by decide, by decide, by decide, hX.tape.2⟩, hS, hR, ⟨by omega, by omega⟩, (x_node l g h hX).mono (fun r h1 hp => pq hX hp), fun h1 hM => m_node2 l g h1 hM hR.2.1.2.1 hR.2.1.1 hR.n0.2 hR.r0.2.2⟩
theorem pr_value (l : Launch) {a : Int32} (hX : XAt g h xo T S R O j) (hS : WS S dp) (hR : WR S R) : Pr pvL g h xo mo T S R O j (fun fr lo mc ms h post => z_C l y_X_value prog_1_method_15_code 3 (Option.some Jvm.ClassFile.FieldType.long) fr lo mc ms g [.ref xo, .int a] h post) (fun fr lo mc ms h post => z_C l y_M_value prog_13_method_44_code 2 (Option.some Jvm.ClassFile.FieldType.long) fr lo mc ms g [.ref mo, .int a] h post) := by
  exact ⟨_, _, _, _, _, _, oValue R a, T, S, R, O, j, dp, ⟨by decide, by decide, by decide, by decide, hX.tape.2⟩, hS, hR, ⟨by omega, by omega⟩, (x_value l g h hX).mono (fun r h1 hp => pq hX hp), fun h1 hM => m_value l g h1 hM hR.2.1.2.1 hR.n0.1⟩
theorem pr_textByte (l : Launch) {a k : Int32} (hX : XAt g h xo T S R O j) (hS : WS S dp) (hR : WR S R) : Pr pvI g h xo mo T S R O j (fun fr lo mc ms h post => z_C l y_X_textByte prog_1_method_16_code 4 (Option.some Jvm.ClassFile.FieldType.int) fr lo mc ms g [.ref xo, .int a, .int k] h post) (fun fr lo mc ms h post => z_C l y_M_textByte prog_13_method_45_code 3 (Option.some Jvm.ClassFile.FieldType.int) fr lo mc ms g [.ref mo, .int a, .int k] h post) := by
  exact ⟨_, _, _, _, _, _, oTextByte R a k, T, S, R, O, j, dp, ⟨by decide, by decide, by decide, by decide, hX.tape.2⟩, hS, hR, ⟨by omega, by omega⟩, (x_textByte l g h hX).mono (fun r h1 hp => pq hX hp), fun h1 hM => m_textByte l g h1 hM hR.2.1.2.1 hR.n0.2 hR.2.1.2.2 hR.2.2.2.2.2.2.2.1.2⟩
theorem pr_isWhole (l : Launch)  (hX : XAt g h xo T S R O j) (hS : WS S dp) (hR : WR S R) : Pr pvI g h xo mo T S R O j (fun fr lo mc ms h post => z_C l y_X_isWhole prog_1_method_17_code 1 (Option.some Jvm.ClassFile.FieldType.boolean) fr lo mc ms g [.ref xo] h post) (fun fr lo mc ms h post => z_C l y_M_isWhole prog_13_method_47_code 1 (Option.some Jvm.ClassFile.FieldType.boolean) fr lo mc ms g [.ref mo] h post) := by
  exact ⟨_, _, _, _, _, _, zb (oIsWhole S R), T, S, R, O, j, dp, ⟨by decide, by decide, by decide, by decide, hX.tape.2⟩, hS, hR, ⟨by omega, by omega⟩, (x_isWhole l g h hX hR.fi).mono (fun r h1 hp => pq hX hp), fun h1 hM => m_isWhole l g h1 hM hS.s8 hR.2.1.2.1 hR.2.1.1 hR.1 hR.2.2.2.1 hR.2.2.2.2.1 hR.2.2.2.2.2.1 hS.2.2.2.2.2.2.2⟩
theorem pr_output (l : Launch) {k : Int32} (hX : XAt g h xo T S R O j) (hS : WS S dp) (hR : WR S R) : Pr pvI g h xo mo T S R O j (fun fr lo mc ms h post => z_C l y_X_output prog_1_method_19_code 2 (Option.some Jvm.ClassFile.FieldType.int) fr lo mc ms g [.ref xo, .int k] h post) (fun fr lo mc ms h post => z_C l y_M_output prog_13_method_56_code 2 (Option.some Jvm.ClassFile.FieldType.int) fr lo mc ms g [.ref mo, .int k] h post) := by
  exact ⟨_, _, _, _, _, _, lbz O k, T, S, R, O, j, dp, ⟨by decide, by decide, by decide, by decide, hX.tape.2⟩, hS, hR, ⟨by omega, by omega⟩, (x_output l g h hX).mono (fun r h1 hp => pq hX hp), fun h1 hM => m_output l g h1 hM⟩
theorem pr_feed (l : Launch) {a b9 c d e : Int32} (hX : XAt g h xo T S R O j) (hS : WS S dp) (hR : WR S R) : Pr pvI g h xo mo T S R O j (fun fr lo mc ms h post => z_C l y_X_feed prog_1_method_2_code 6 (Option.some Jvm.ClassFile.FieldType.boolean) fr lo mc ms g [.ref xo, .int a, .int b9, .int c, .int d, .int e] h post) (fun fr lo mc ms h post => z_C l y_M_feed prog_13_method_3_code 8 (Option.some Jvm.ClassFile.FieldType.boolean) fr lo mc ms g [.ref mo, .int a, .int b9, .int c, .int d, .int e] h post) := by
  by_cases hy : T.length + 20 ≤ 4000
  · exact ⟨_, _, _, _, _, _, 1, oFeed T a b9 c d e, S, R, O, j, dp, ⟨by decide, by decide, by decide, by decide, hX.tape.2⟩, hS, hR, ⟨by rw [oFeed_len]; omega, by rw [oFeed_len]; omega⟩, x_feed_yes l g h hX hy, fun h1 hM => m_feed_yes l g h1 hM hy⟩
  · exact ⟨_, _, _, _, _, _, 0, T, S, R, O, j, dp, ⟨by decide, by decide, by decide, by decide, hX.tape.2⟩, hS, hR, ⟨by omega, by omega⟩, (x_feed_no l g h hX hy).mono (fun r h1 hp => pq hX hp), fun h1 hM => m_feed_no l g h1 hM hy⟩
theorem pr_write (l : Launch)  (hX : XAt g h xo T S R O j) (hS : WS S dp) (hR : WR S R) : Pr pvI g h xo mo T S R O j (fun fr lo mc ms h post => z_C l y_X_write prog_1_method_18_code 1 (Option.some Jvm.ClassFile.FieldType.int) fr lo mc ms g [.ref xo] h post) (fun fr lo mc ms h post => z_C l y_M_write prog_13_method_55_code 1 (Option.some Jvm.ClassFile.FieldType.int) fr lo mc ms g [.ref mo] h post) := by
  have hl := wr_short hS hR
  have hj := hX.tape.2
  have ej : jf j O.length ≤ 8 := (jf_le O.length hj).2
  have eL0 : slj (jf j O.length) 0 = slj j O.length := by unfold slj; rw [jf_zero]
  cases hw : oIsWhole S R with
  | false =>
    have eO : (oWrite S R).2 = [] := by unfold oWrite; rw [hw]; rfl
    exact ⟨_, _, _, _, _, _, (oWrite S R).1, T, S, R, _, jf j O.length, dp, ⟨by decide, by decide, by decide, by decide, ej⟩, hS, hR, ⟨by rw [eO]; simp [jf_zero]; try omega, by rw [eO, show ([] : List Nat).length = 0 from rfl, eL0]; omega⟩, x_write_no l g h hX hR.fi hw, fun h1 hM => m_write l g h1 hM hS.s8 hR.2.1.2.1 hR.2.1.1 hR.1 hS.1 hR.2.1.2.2 hS.2.2.2.2.2.1 hR.2.2.2.1 hR.2.2.2.2.2.1 hR.r0.2.1 hR.2.2.2.2.2.2.1 hR.2.2.2.2.2.2.2.1.1 hR.2.2.2.2.1 hS.2.2.2.2.2.2.2 (wr_same hS hR) (by omega)⟩
  | true =>
    have eO : (oWrite S R).2 = (wrD S R 17 0).2 := by unfold oWrite; rw [hw]; rfl
    have u1 := (jf_le (wrD S R 17 0).2.length ej).1
    have u2 := (jf_mono (jf j O.length) (Nat.zero_le (wrD S R 17 0).2.length)).2
    rw [eL0] at u2
    exact ⟨_, _, _, _, _, _, (oWrite S R).1, T, S, R, _, jf j O.length, dp, ⟨by decide, by decide, by decide, by decide, ej⟩, hS, hR, ⟨by rw [eO]; omega, by rw [eO]; omega⟩, x_write l g h hX hR.fi hR.2.2.2.1 hR.2.1.1 (by omega), fun h1 hM => m_write l g h1 hM hS.s8 hR.2.1.2.1 hR.2.1.1 hR.1 hS.1 hR.2.1.2.2 hS.2.2.2.2.2.1 hR.2.2.2.1 hR.2.2.2.2.2.1 hR.r0.2.1 hR.2.2.2.2.2.2.1 hR.2.2.2.2.2.2.2.1.1 hR.2.2.2.2.1 hS.2.2.2.2.2.2.2 (wr_same hS hR) (by omega)⟩
end PAIR
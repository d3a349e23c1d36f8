def pkL (t : Nat → Nat) (p : Nat) : Nat → Int64
  | 0 => 0
  | k + 1 => (pkL t p k <<< ((8 : Int32).toInt64 &&& 63)) ||| (nI (t (p + k)) : Int32).toInt64
def pkN (t : Nat → Nat) (p : Nat) : Nat → Nat
  | 0 => 0
  | k + 1 => 256 * pkN t p k + t (p + k)
theorem b64 : ∀ b, b < 256 → ((nI b : Int32).toInt64).toBitVec.toNat = b := by decide +kernel
theorem pkN_lt {t : Nat → Nat} {p : Nat} : ∀ k, (∀ j, j < k → t (p + j) < 256) → pkN t p k < 256 ^ k := by
  intro k
  induction k with
  | zero => intro _; exact Nat.one_pos
  | succ k ih =>
    intro h
    have h1 := ih (fun j hj => h j (by omega))
    have h2 := h k (by omega)
    simp only [pkN]
    rw [Nat.pow_succ]
    omega
theorem pkL_nat {t : Nat → Nat} {p : Nat} : ∀ k, k ≤ 8 → (∀ j, j < k → t (p + j) < 256) → (pkL t p k).toBitVec.toNat = pkN t p k := by
  intro k
  induction k with
  | zero => intro _ _; rfl
  | succ k ih =>
    intro hk h
    have h1 := ih (by omega) (fun j hj => h j (by omega))
    have h2 := h k (by omega)
    have h3 := pkN_lt (t := t) (p := p) k (fun j hj => h j (by omega))
    have h4 : 256 ^ k ≤ 256 ^ 7 := Nat.pow_le_pow_right (by decide) (by omega)
    simp only [pkL, pkN]
    rw [Int64.toBitVec_or, BitVec.toNat_or, Int64.toBitVec_shiftLeft, b64 _ h2]
    rw [show (((8 : Int32).toInt64 &&& 63) : Int64).toBitVec.smod 64 = 8#64 by decide]
    rw [BitVec.shiftLeft_eq', BitVec.toNat_shiftLeft, h1]
    have h5 : (256 : Nat) ^ 7 = 2 ^ 56 := by decide
    rw [show (8#64).toNat = 8 from rfl, Nat.shiftLeft_eq, Nat.mod_eq_of_lt (by omega)]
    have := Nat.two_pow_add_eq_or_of_lt (i := 8) (b := t (p + k)) (by omega) (pkN t p k)
    rw [Nat.mul_comm (pkN t p k), ← this]
theorem pkN_pos {t : Nat → Nat} {p : Nat} (h : 0 < t p) : ∀ k, 0 < pkN t p (k + 1) := by
  intro k
  induction k with
  | zero => simp only [pkN, Nat.add_zero]; omega
  | succ k ih =>
    have : pkN t p (k + 1 + 1) = 256 * pkN t p (k + 1) + t (p + (k + 1)) := rfl
    omega
theorem pkN_inj {t s : Nat → Nat} {p : Nat} (ht : 0 < t p) (hs : 0 < s 0) : ∀ k m, (∀ j, j < k → t (p + j) < 256) → (∀ j, j < m → s j < 256) → pkN t p k = pkN s 0 m → k = m ∧ ∀ j, j < k → t (p + j) = s j := by
  intro k
  induction k with
  | zero =>
    intro m _ _ e
    cases m with
    | zero => exact ⟨rfl, fun j hj => absurd hj (Nat.not_lt_zero _)⟩
    | succ m => have := pkN_pos (t := s) (p := 0) hs m; simp only [pkN] at e this; omega
  | succ k ih =>
    intro m h1 h2 e
    cases m with
    | zero => have := pkN_pos (t := t) (p := p) ht k; simp only [pkN] at e this; omega
    | succ m =>
      have a1 := h1 k (by omega)
      have a2 := h2 m (by omega)
      simp only [pkN] at e
      rw [Nat.zero_add] at e
      have e1 : pkN t p k = pkN s 0 m := by omega
      have e2 : t (p + k) = s m := by omega
      obtain ⟨e3, e4⟩ := ih m (fun j hj => h1 j (by omega)) (fun j hj => h2 j (by omega)) e1
      refine ⟨by omega, fun j hj => ?_⟩
      by_cases z : j = k
      · rw [z, e2, e3]
      · exact e4 j (by omega)
theorem pkN_eq {t s : Nat → Nat} {p : Nat} : ∀ k, (∀ j, j < k → t (p + j) = s j) → pkN t p k = pkN s 0 k := by
  intro k
  induction k with
  | zero => intro _; rfl
  | succ k ih => intro h; simp only [pkN]; rw [ih (fun j hj => h j (by omega)), h k (by omega), Nat.zero_add]
theorem nmE_all {t : Nat → Nat} {i : Nat} {nm : Nat → Nat} : ∀ n, nmE t i nm n = true ↔ ∀ k, k < n → t (i + k) = nm k := by
  intro n
  induction n with
  | zero => exact ⟨fun _ k hk => absurd hk (Nat.not_lt_zero _), fun _ => rfl⟩
  | succ n ih =>
    simp only [nmE, Bool.and_eq_true, beq_iff_eq, ih]
    constructor
    · rintro ⟨h1, h2⟩ k hk
      by_cases z : k = n
      · rw [z]; exact h2
      · exact h1 k (by omega)
    · intro h; exact ⟨fun k hk => h k (by omega), h n (by omega)⟩
/-- the words of the language, packed -/
def wc (i : Nat) : Int64 := [8243119442065778020, 8030046131791487340, 8243118273700586852, 1651470188, 6909556, 1819242087, 1952807028, 444301538672, 1953658213, 439721161573].getD i 0
theorem wc_ok : ∀ i, i < 10 → (wc i).toBitVec.toNat = pkN (sch i) 0 (z_len.getD i 0) ∧ 0 < sch i 0 ∧ 0 < z_len.getD i 0 ∧ z_len.getD i 0 ≤ 8 ∧ ∀ j, j < 8 → sch i j < 256 := by decide +kernel
def mW (t : Nat → Nat) (n p : Nat) (w : Int64) : Bool := decide (0 < wl t n p) && decide (wl t n p ≤ 8) && decide (pkL t p (wl t n p) = w)
/-- the word at p is the language's i-th -/
def iW (t : Nat → Nat) (n p i : Nat) : Bool := isLet (bt t n p) && wdIs t p (we t n p) i
theorem let_pos : ∀ b, b < 256 → isLet (nI b) = true → 0 < b ∧ wdN b = true := by decide +kernel
theorem let_lt {t : Nat → Nat} {n p : Nat} (h : isLet (bt t n p) = true) : p < n := by
  apply Classical.byContradiction
  intro z
  rw [bt_out z] at h
  exact absurd h (by decide)
theorem let_we {t : Nat → Nat} {n p : Nat} (hf : ∀ k, k < n → t k < 256) (h : isLet (bt t n p) = true) : p < we t n p ∧ we t n p ≤ n ∧ 0 < t p := by
  have h1 := let_lt h
  rw [bt_in h1] at h
  have h2 := let_pos _ (hf p h1) h
  rw [we_step h1 h2.2]
  have := we_ge t n (p + 1)
  have := we_le (t := t) (n := n) (p := p + 1) (by omega)
  exact ⟨by omega, by omega, h2.1⟩
theorem mW_iW {t : Nat → Nat} {n p i : Nat} (hf : ∀ k, k < n → t k < 256) (hi : i < 10) : mW t n p (wc i) = iW t n p i := by
  obtain ⟨w1, w2, w3, w4, w5⟩ := wc_ok i hi
  unfold mW iW wl wdIs
  by_cases hl : isLet (bt t n p) = true
  · rw [if_pos hl, hl, Bool.true_and]
    obtain ⟨a1, a2, a3⟩ := let_we hf hl
    have hb : ∀ j, j < we t n p - p → t (p + j) < 256 := fun j hj => hf _ (by omega)
    rw [Bool.eq_iff_iff]
    simp only [Bool.and_eq_true, decide_eq_true_eq]
    constructor
    · rintro ⟨⟨b1, b2⟩, b3⟩
      have b4 := pkL_nat (t := t) (p := p) (we t n p - p) b2 hb
      rw [b3, w1] at b4
      obtain ⟨c1, c2⟩ := pkN_inj a3 w2 _ _ hb (fun j hj => w5 j (by omega)) b4.symm
      exact ⟨c1, (nmE_all _).mpr (fun k hk => c2 k (by omega))⟩
    · rintro ⟨b1, b2⟩
      rw [nmE_all] at b2
      refine ⟨⟨by omega, by omega⟩, ?_⟩
      apply Int64.toBitVec_inj.mp
      apply BitVec.eq_of_toNat_eq
      rw [pkL_nat _ (by omega) hb, w1, b1]
      exact pkN_eq _ b2
  · rw [if_neg hl]
    simp [hl]

theorem wl_le {t : Nat → Nat} {n p : Nat} (hp : p ≤ n) : p + wl t n p ≤ n := by
  unfold wl
  have := we_le (t := t) hp
  have := we_ge t n p
  split <;> omega

set_option maxHeartbeats 300000 in
set_option maxRecDepth 100000 in
theorem m_isWord (l : Launch) (g : z_G) (h : z_H) {mo : Nat} {ma : Nat → Nat} {cod tpd fls cls9 ffl fcl nds sai ous il : Int32} {n p : Nat} {f : Nat → Int32} {t : Nat → Nat} {w9 : Int64} (hmo : h mo = some ((20, 0), .inr (11, mF ma cod tpd (nI n) fls cls9 ffl fcl nds sai ous (nI p) il))) (htx : h (ma 1) = some ((22, 0), .inl (g.2.1 1, 4000, .inl f))) (hn : n ≤ 4000) (hf : ∀ k, k < n → t k < 256 ∧ f k = nI (t k)) (hp : p ≤ n) : z_C l y_M_isWord prog_13_method_11_code 7 (Option.some Jvm.ClassFile.FieldType.boolean) 2 60 0 0 g [.ref mo, .long w9] h (fun x h1 => x = some (.int (zb (mW t n p w9))) ∧ h = h1) := by
  refine z_C.of (by decide) (Nat.le_of_ble_eq_true rfl) (fun pg en s m below meth cd A ls hx hb hml hr hts hown hlocks hnm hK hE hA hw hl => ?_)
  have hl : lv_has ls 7 [(0, .ref mo), (1, .long w9)] := hl
  have wl9 := wl_le (t := t) hp
  refine lv_aload_n hx hb d_M_isWord_0 rfl (lv_at hl 0 rfl) ?_
  refine z_callV (n := 0) (As := []) (rest := []) ⟨hx, hb, hml, hown, hts⟩ (m_word (t := t) l g h hmo htx hn hf hp) (z_in k_902 rfl) (z_in k_7 rfl) (z_in k_899 rfl) (z_in k_901 rfl) (z_in ks_31 rfl) (by decide +kernel) ⟨by first | exact Nat.le_of_ble_eq_true rfl | (dsimp only; omega) | omega, by first | exact Nat.le_of_ble_eq_true rfl | (dsimp only; omega) | omega⟩ hK hE hw hA rfl hmo rfl hl.1 (Nat.le_of_ble_eq_true rfl) d_M_isWord_1 ⟨by first | exact Nat.le_of_ble_eq_true rfl | (dsimp only; omega) | omega, by first | exact Nat.le_of_ble_eq_true rfl | (dsimp only; omega) | omega⟩ rfl (fun r9 h9 H locs hp hw => ?_)
  obtain ⟨r8, h8⟩ := hp
  subst r8
  subst h8
  refine W.eq (g2 := F0 m 4 ls [.int (nI (wl t n p))]) rfl ?_
  refine lv_istore_n (lv' := [(3, .int (nI (wl t n p))), (0, .ref mo), (1, .long w9)]) hx hb d_M_isWord_4 rfl hl (by decide) rfl (fun ls hl => ?_)
  refine lv_iload_n hx hb d_M_isWord_5 rfl (lv_at hl 0 rfl) ?_
  refine lv_if_eq (tgt := 15) hx hb d_M_isWord_6 (by decide) (fun c_6 => ?_) (fun c_6 => ?_)
  · -- 6: True
    have c_6 : (wl t n p) = 0 := (nI_eq (a := wl t n p) (b := 0) (by omega) (by omega)).mp c_6
    refine lv_iconst (v := 0) hx hb d_M_isWord_15 (by decide) ?_
    exact z_zret hx hb hr rfl hlocks hw (by refine ⟨congrArg some (congrArg Value.int ?_), rfl⟩; unfold mW; rw [decide_eq_false (by omega)]; rfl) (by decide) (by decide) d_M_isWord_16
  · -- 6: False
    have c_6 : ¬ ((wl t n p) = 0) := fun z => c_6 ((nI_eq (a := wl t n p) (b := 0) (by omega) (by omega)).mpr z)
    refine lv_iload_n hx hb d_M_isWord_9 rfl (lv_at hl 0 rfl) ?_
    refine lv_bipush (v := 8) hx hb d_M_isWord_10 (by decide) ?_
    refine lv_icmp_le (tgt := 17) hx hb d_M_isWord_12 (by decide) (fun c_12 => ?_) (fun c_12 => ?_)
    · -- 12: True
      have c_12 : (wl t n p) ≤ 8 := (nI_leI (a := wl t n p) (b := 8) (by omega) (by omega)).mp c_12
      refine lv_lconst (v := 0) hx hb d_M_isWord_17 (by decide) ?_
      refine lv_lstore (lv' := [(4, .long 0), (3, .int (nI (wl t n p))), (0, .ref mo), (1, .long w9)]) hx hb d_M_isWord_18 hl (by decide) rfl (fun ls hl => ?_)
      refine lv_iconst (v := 0) hx hb d_M_isWord_20 (by decide) ?_
      refine lv_istore (lv' := [(6, .int 0), (4, .long 0), (3, .int (nI (wl t n p))), (0, .ref mo), (1, .long w9)]) hx hb d_M_isWord_21 hl (by decide) rfl (fun ls hl => ?_)
      have loop_23 : ∀ (fuel : Nat) (k : Nat) (H : Heap) (locs : List Loc) (ls : Array Slot)  (hle : k ≤ wl t n p), (n - k) < fuel → z_S g A s.heap h H locs → lv_has ls 7 [(0, .ref mo), (1, .long w9), (3, .int (nI (wl t n p))), (4, .long (pkL t p k)), (6, .int (nI k))] → W pg l en { frames := 2, cells := 0, slots := 0, locals := 60 } s m [.ref mo, .long w9].toArray below meth cd H locs 0 0 (MQ below (z_Q g A (fun x h1 => x = some (.int (zb (mW t n p w9))) ∧ h = h1)) [.ref mo, .long w9].toArray s 0 0 A) (F0 m 23 ls []) := by
        intro fuel
        induction fuel with
        | zero => intro k H locs ls hle hm; exact absurd hm (Nat.not_lt_zero _)
        | succ fuel ih_23 =>
          intro k H locs ls hle hm hw hl
          refine lv_iload hx hb d_M_isWord_23 (lv_at hl 4 rfl) ?_
          refine lv_iload_n hx hb d_M_isWord_25 rfl (lv_at hl 2 rfl) ?_
          refine lv_icmp_ge (tgt := 56) hx hb d_M_isWord_26 (by decide) (fun c_26 => ?_) (fun c_26 => ?_)
          · -- 26: True
            have c_26 : (wl t n p) ≤ k := (nI_leI (a := wl t n p) (b := k) (by omega) (by omega)).mp c_26
            refine lv_lload hx hb d_M_isWord_56 (lv_at hl 3 rfl) ?_
            refine lv_lload_n hx hb d_M_isWord_58 rfl (lv_at hl 1 rfl) ?_
            refine W.lcmp hx hb d_M_isWord_59 ?_
            refine lv_if_ne (tgt := 67) hx hb d_M_isWord_60 (by decide) (fun c_60 => ?_) (fun c_60 => ?_)
            · -- 60: True
              have c_60 : ¬ ((pkL t p k : Int64) = w9) := fun z => c_60 ((lg_cmp_eq _ _).mpr z)
              refine lv_iconst (v := 0) hx hb d_M_isWord_67 (by decide) ?_
              exact z_zret hx hb hr rfl hlocks hw (by refine ⟨congrArg some (congrArg Value.int ?_), rfl⟩; unfold mW; have e9 : k = wl t n p := (by omega); rw [decide_eq_true (show 0 < wl t n p by omega), decide_eq_true (show wl t n p ≤ 8 by omega), ← e9, decide_eq_false (fun z => c_60 z)]; rfl) (by decide) (by decide) d_M_isWord_68
            · -- 60: False
              have c_60 : (pkL t p k : Int64) = w9 := (lg_cmp_eq _ _).mp c_60
              refine lv_iconst (v := 1) hx hb d_M_isWord_63 (by decide) ?_
              refine lv_goto (tgt := 68) hx hb d_M_isWord_64 (by decide) ?_
              exact z_zret hx hb hr rfl hlocks hw (by refine ⟨congrArg some (congrArg Value.int ?_), rfl⟩; unfold mW; have e9 : k = wl t n p := (by omega); rw [decide_eq_true (show 0 < wl t n p by omega), decide_eq_true (show wl t n p ≤ 8 by omega), ← e9, decide_eq_true (by simpa using c_60)]; rfl) (by decide) (by decide) d_M_isWord_68
          · -- 26: False
            have c_26 : ¬ ((wl t n p) ≤ k) := fun z => c_26 ((nI_leI (a := wl t n p) (b := k) (by omega) (by omega)).mpr z)
            refine lv_lload hx hb d_M_isWord_29 (lv_at hl 3 rfl) ?_
            refine lv_bipush (v := 8) hx hb d_M_isWord_31 (by decide) ?_
            refine lv_lshl hx hb d_M_isWord_33 rfl ?_
            refine lv_aload_n hx hb d_M_isWord_34 rfl (lv_at hl 0 rfl) ?_
            refine z_get hx hb hts (z_lay i_M) hown hK hw hmo rfl 2 (by decide) (z_in k_773 rfl) (fun _ h9 => h9) rfl d_M_isWord_35 ?_
            refine lv_aload_n hx hb d_M_isWord_38 rfl (lv_at hl 0 rfl) ?_
            refine z_get hx hb hts (z_lay i_M) hown hK hw hmo rfl 29 (by decide) (z_in k_800 rfl) (fun _ h9 => h9) rfl d_M_isWord_39 ?_
            refine lv_iload hx hb d_M_isWord_42 (lv_at hl 4 rfl) ?_
            refine lv_iadd hx hb d_M_isWord_44 ?_
            refine z_topi (y := nI (p + k)) (nI_add p k) ?_
            refine z_iald hx hb hK hw htx 1 rfl (vp_in_nI (by omega) (by omega)) d_M_isWord_45 ?_
            refine z_topi (y := f (p + k)) (by rw [nI_clamp (by omega)]) ?_
            refine z_top (y := .int (nI (t (p + k)))) (by rw [(hf _ (by omega)).2]) ?_
            refine lv_i2l hx hb d_M_isWord_46 rfl ?_
            refine lv_lor hx hb d_M_isWord_47 ?_
            refine lv_lstore (lv' := [(4, .long (((pkL t p k) <<< ((8 : Int32).toInt64 &&& 63)) ||| ((nI (t (p + k)) : Int32).toInt64))), (0, .ref mo), (1, .long w9), (3, .int (nI (wl t n p))), (6, .int (nI k))]) hx hb d_M_isWord_48 hl (by decide) rfl (fun ls hl => ?_)
            refine lv_iinc (v := nI (k + 1)) (lv' := [(6, .int (nI (k + 1))), (4, .long (((pkL t p k) <<< ((8 : Int32).toInt64 &&& 63)) ||| ((nI (t (p + k)) : Int32).toInt64))), (0, .ref mo), (1, .long w9), (3, .int (nI (wl t n p)))]) hx hb d_M_isWord_50 hl (k := 4) rfl (nI_1 k) (by decide) rfl (fun ls hl => ?_)
            refine lv_goto (tgt := 23) hx hb d_M_isWord_53 (by decide) ?_
            refine ih_23 (k + 1) _ _ _ (by omega) ?_ hw (lv_sub hl [2, 3, 4, 1, 0] rfl)
            omega
      exact loop_23 (n - 0 + 1) 0  _ _ _  (by omega) (by omega) hw (lv_sub hl [3, 4, 2, 1, 0] rfl)
    · -- 12: False
      have c_12 : ¬ ((wl t n p) ≤ 8) := fun z => c_12 ((nI_leI (a := wl t n p) (b := 8) (by omega) (by omega)).mpr z)
      refine lv_iconst (v := 0) hx hb d_M_isWord_15 (by decide) ?_
      exact z_zret hx hb hr rfl hlocks hw (by refine ⟨congrArg some (congrArg Value.int ?_), rfl⟩; unfold mW; rw [decide_eq_false (show ¬ wl t n p ≤ 8 by omega), Bool.and_false]; rfl) (by decide) (by decide) d_M_isWord_16

set_option maxHeartbeats 300000 in
set_option maxRecDepth 100000 in
theorem m_takesWord (l : Launch) (g : z_G) (h : z_H) {mo : Nat} {ma : Nat → Nat} {cod tpd fls cls9 ffl fcl nds sai ous il : Int32} {n p : Nat} {f : Nat → Int32} {t : Nat → Nat} {i9 : Nat} (hmo : h mo = some ((20, 0), .inr (11, mF ma cod tpd (nI n) fls cls9 ffl fcl nds sai ous (nI p) il))) (htx : h (ma 1) = some ((22, 0), .inl (g.2.1 1, 4000, .inl f))) (hn : n ≤ 4000) (hf : ∀ k, k < n → t k < 256 ∧ f k = nI (t k)) (hp : p ≤ n) (hi9 : i9 < 10) : z_C l y_M_takesWord prog_13_method_12_code 3 (Option.some Jvm.ClassFile.FieldType.boolean) 3 100 0 0 g [.ref mo, .long (wc i9)] h (fun x h1 => if il = -1 ∧ iW t n p i9 = true then x = some (.int 1) ∧ z_put h mo (20, 0) (.inr (11, mF ma cod tpd (nI n) fls cls9 ffl fcl nds sai ous (nI (we t n p)) il)) = h1 else x = some (.int 0) ∧ h = h1) := by
  refine z_C.of (by decide) (Nat.le_of_ble_eq_true rfl) (fun pg en s m below meth cd A ls hx hb hml hr hts hown hlocks hnm hK hE hA hw hl => ?_)
  have hl : lv_has ls 3 [(0, .ref mo), (1, .long (wc i9))] := hl
  refine lv_aload_n hx hb d_M_takesWord_0 rfl (lv_at hl 0 rfl) ?_
  refine z_get hx hb hts (z_lay i_M) hown hK hw hmo rfl 30 (by decide) (z_in k_801 rfl) (fun _ h9 => h9) rfl d_M_takesWord_1 ?_
  refine lv_iconst (v := (-1)) hx hb d_M_takesWord_4 (by decide) ?_
  refine lv_icmp_ne (tgt := 16) hx hb d_M_takesWord_5 (by decide) (fun c_5 => ?_) (fun c_5 => ?_)
  · -- 5: True
    refine lv_iconst (v := 0) hx hb d_M_takesWord_16 (by decide) ?_
    exact z_zret hx hb hr rfl hlocks hw (by rw [if_neg (fun z => c_5 z.1)]; exact ⟨rfl, rfl⟩) (by decide) (by decide) d_M_takesWord_17
  · -- 5: False
    refine lv_aload_n hx hb d_M_takesWord_8 rfl (lv_at hl 0 rfl) ?_
    refine lv_lload_n hx hb d_M_takesWord_9 rfl (lv_at hl 1 rfl) ?_
    refine z_callV (n := 1) (As := [.long (wc i9)]) (rest := []) ⟨hx, hb, hml, hown, hts⟩ (m_isWord (t := t) l g h hmo htx hn hf hp) (z_in k_898 rfl) (z_in k_7 rfl) (z_in k_895 rfl) (z_in k_897 rfl) (z_in ks_30 rfl) (by decide +kernel) ⟨by first | exact Nat.le_of_ble_eq_true rfl | (dsimp only; omega) | omega, by first | exact Nat.le_of_ble_eq_true rfl | (dsimp only; omega) | omega⟩ hK hE hw hA rfl hmo rfl hl.1 (Nat.le_of_ble_eq_true rfl) d_M_takesWord_10 ⟨by first | exact Nat.le_of_ble_eq_true rfl | (dsimp only; omega) | omega, by first | exact Nat.le_of_ble_eq_true rfl | (dsimp only; omega) | omega⟩ rfl (fun r9 h9 H locs hp hw => ?_)
    obtain ⟨r8, h8⟩ := hp
    subst r8
    subst h8
    refine W.eq (g2 := F0 m 13 ls [.int (zb (mW t n p (wc i9)))]) rfl ?_
    refine lv_if_ne (tgt := 18) hx hb d_M_takesWord_13 (by decide) (fun c_13 => ?_) (fun c_13 => ?_)
    · -- 13: True
      have c_13 : (mW t n p (wc i9)) = true := zb_t c_13
      refine lv_aload_n hx hb d_M_takesWord_18 rfl (lv_at hl 0 rfl) ?_
      refine lv_dup hx hb d_M_takesWord_19 rfl ?_
      refine z_get hx hb hts (z_lay i_M) hown hK hw hmo rfl 29 (by decide) (z_in k_800 rfl) (fun _ h9 => h9) rfl d_M_takesWord_20 ?_
      refine lv_aload_n hx hb d_M_takesWord_23 rfl (lv_at hl 0 rfl) ?_
      refine z_callV (n := 0) (As := []) (rest := [.int (nI p), .ref mo]) ⟨hx, hb, hml, hown, hts⟩ (m_word (t := t) l g h hmo htx hn hf hp) (z_in k_902 rfl) (z_in k_7 rfl) (z_in k_899 rfl) (z_in k_901 rfl) (z_in ks_31 rfl) (by decide +kernel) ⟨by first | exact Nat.le_of_ble_eq_true rfl | (dsimp only; omega) | omega, by first | exact Nat.le_of_ble_eq_true rfl | (dsimp only; omega) | omega⟩ hK hE hw hA rfl hmo rfl hl.1 (Nat.le_of_ble_eq_true rfl) d_M_takesWord_24 ⟨by first | exact Nat.le_of_ble_eq_true rfl | (dsimp only; omega) | omega, by first | exact Nat.le_of_ble_eq_true rfl | (dsimp only; omega) | omega⟩ rfl (fun r9 h9 H locs hp hw => ?_)
      obtain ⟨r8, h8⟩ := hp
      subst r8
      subst h8
      refine W.eq (g2 := F0 m 27 ls [.int (nI (wl t n p)), .int (nI p), .ref mo]) rfl ?_
      refine lv_iadd hx hb d_M_takesWord_27 ?_
      refine z_topi (y := nI (p + (wl t n p))) (nI_add p (wl t n p)) ?_
      refine z_putf (ty := .int) hx hb hts (z_lay i_M) t_M t_M_ok n_M hown hK hw hmo rfl 29 (by decide) (z_in k_800 rfl) (fun _ h9 => h9) rfl (by decide +kernel) rfl rfl (Nat.le_of_ble_eq_true rfl) d_M_takesWord_28 (fun H locs hw => ?_)
      obtain ⟨h1, hh1⟩ : ∃ x9, z_put h mo (20, 0) (.inr (11, mF ma cod tpd (nI n) fls cls9 ffl fcl nds sai ous (nI (p + (wl t n p))) il)) = x9 := ⟨_, rfl⟩
      have hw : z_S g A s.heap h1 H locs := by rw [← hh1]; exact hw
      have f1_mo : h1 mo = some ((20, 0), .inr (11, mF ma cod tpd (nI n) fls cls9 ffl fcl nds sai ous (nI (p + (wl t n p))) il)) := by rw [← hh1]; exact z_put_eq
      have f1_ma_1 : h1 (ma 1) = some ((22, 0), .inl (g.2.1 1, 4000, .inl f)) := by rw [← hh1]; exact z_keep hmo htx (z_t1 (by decide))
      refine lv_iconst (v := 1) hx hb d_M_takesWord_31 (by decide) ?_
      exact z_zret hx hb hr rfl hlocks hw (by rw [mW_iW (fun k hk => (hf k hk).1) hi9] at c_13; rw [if_pos ⟨by simpa using c_5, c_13⟩]; refine ⟨rfl, ?_⟩; rw [← hh1]; have e9 : p + wl t n p = we t n p := (by unfold wl; have z := (Bool.and_eq_true_iff.mp c_13).1; rw [if_pos z]; have := we_ge t n p; omega); rw [e9]) (by decide) (by decide) d_M_takesWord_32
    · -- 13: False
      have c_13 : (mW t n p (wc i9)) = false := zb_f c_13
      refine lv_iconst (v := 0) hx hb d_M_takesWord_16 (by decide) ?_
      exact z_zret hx hb hr rfl hlocks hw (by rw [if_neg (fun z => by rw [← mW_iW (fun k hk => (hf k hk).1) hi9, c_13] at z; exact absurd z.2 (by decide))]; exact ⟨rfl, rfl⟩) (by decide) (by decide) d_M_takesWord_17

set_option maxHeartbeats 300000 in
set_option maxRecDepth 100000 in
theorem m_takesSign (l : Launch) (g : z_G) (h : z_H) {mo : Nat} {ma : Nat → Nat} {cod tpd fls cls9 ffl fcl nds sai ous il : Int32} {n p : Nat} {f : Nat → Int32} {t : Nat → Nat} {k : Int32} (hmo : h mo = some ((20, 0), .inr (11, mF ma cod tpd (nI n) fls cls9 ffl fcl nds sai ous (nI p) il))) (htx : h (ma 1) = some ((22, 0), .inl (g.2.1 1, 4000, .inl f))) (hn : n ≤ 4000) (hf : ∀ k, k < n → t k < 256 ∧ f k = nI (t k)) (hp : p ≤ n) : z_C l y_M_takesSign prog_13_method_13_code 2 (Option.some Jvm.ClassFile.FieldType.boolean) 2 60 0 0 g [.ref mo, .int k] h (fun x h1 => if il = -1 ∧ bt t n (sk t n p) = k then x = some (.int 1) ∧ z_put h mo (20, 0) (.inr (11, mF ma cod tpd (nI n) fls cls9 ffl fcl nds sai ous (nI (sk t n p + 1)) il)) = h1 else x = some (.int 0) ∧ z_put h mo (20, 0) (.inr (11, mF ma cod tpd (nI n) fls cls9 ffl fcl nds sai ous (nI (sk t n p)) il)) = h1) := by
  refine z_C.of (by decide) (Nat.le_of_ble_eq_true rfl) (fun pg en s m below meth cd A ls hx hb hml hr hts hown hlocks hnm hK hE hA hw hl => ?_)
  have hl : lv_has ls 2 [(0, .ref mo), (1, .int k)] := hl
  have sk1 := sk_le (t := t) hp
  have sk2 := sk_ge t n p
  refine lv_aload_n hx hb d_M_takesSign_0 rfl (lv_at hl 0 rfl) ?_
  refine z_callV (n := 0) (As := []) (rest := []) ⟨hx, hb, hml, hown, hts⟩ (m_blanks (t := t) l g h hmo htx hn hf (by omega)) (z_in k_885 rfl) (z_in k_7 rfl) (z_in k_882 rfl) (z_in k_884 rfl) (z_in ks_27 rfl) (by decide +kernel) ⟨by first | exact Nat.le_of_ble_eq_true rfl | (dsimp only; omega) | omega, by first | exact Nat.le_of_ble_eq_true rfl | (dsimp only; omega) | omega⟩ hK hE hw hA rfl hmo rfl hl.1 (Nat.le_of_ble_eq_true rfl) d_M_takesSign_1 ⟨by first | exact Nat.le_of_ble_eq_true rfl | (dsimp only; omega) | omega, by first | exact Nat.le_of_ble_eq_true rfl | (dsimp only; omega) | omega⟩ rfl (fun r9 h9 H locs hp hw => ?_)
  obtain ⟨r8, hh1⟩ := hp
  subst r8
  obtain ⟨h1, e8⟩ : ∃ x9, x9 = h9 := ⟨_, rfl⟩
  subst e8
  have f1_mo : h1 mo = some ((20, 0), .inr (11, mF ma cod tpd (nI n) fls cls9 ffl fcl nds sai ous (nI (sk t n p)) il)) := by rw [← hh1]; exact z_put_eq
  have f1_ma_1 : h1 (ma 1) = some ((22, 0), .inl (g.2.1 1, 4000, .inl f)) := by rw [← hh1]; exact z_keep hmo htx (z_t1 (by decide))
  refine W.eq (g2 := F0 m 4 ls []) rfl ?_
  refine lv_aload_n hx hb d_M_takesSign_4 rfl (lv_at hl 0 rfl) ?_
  refine z_get hx hb hts (z_lay i_M) hown hK hw f1_mo rfl 30 (by decide) (z_in k_801 rfl) (fun _ h9 => h9) rfl d_M_takesSign_5 ?_
  refine lv_iconst (v := (-1)) hx hb d_M_takesSign_8 (by decide) ?_
  refine lv_icmp_ne (tgt := 20) hx hb d_M_takesSign_9 (by decide) (fun c_9 => ?_) (fun c_9 => ?_)
  · -- 9: True
    refine lv_iconst (v := 0) hx hb d_M_takesSign_20 (by decide) ?_
    exact z_zret hx hb hr rfl hlocks hw (by rw [if_neg (fun z => c_9 z.1)]; exact ⟨rfl, by rw [← hh1]⟩) (by decide) (by decide) d_M_takesSign_21
  · -- 9: False
    refine lv_aload_n hx hb d_M_takesSign_12 rfl (lv_at hl 0 rfl) ?_
    refine z_callV (n := 0) (As := []) (rest := []) ⟨hx, hb, hml, hown, hts⟩ (m_look (t := t) l g h1 f1_mo f1_ma_1 hn hf (by omega)) (z_in k_889 rfl) (z_in k_7 rfl) (z_in k_886 rfl) (z_in k_888 rfl) (z_in ks_28 rfl) (by decide +kernel) ⟨by first | exact Nat.le_of_ble_eq_true rfl | (dsimp only; omega) | omega, by first | exact Nat.le_of_ble_eq_true rfl | (dsimp only; omega) | omega⟩ hK hE hw hA rfl f1_mo rfl hl.1 (Nat.le_of_ble_eq_true rfl) d_M_takesSign_13 ⟨by first | exact Nat.le_of_ble_eq_true rfl | (dsimp only; omega) | omega, by first | exact Nat.le_of_ble_eq_true rfl | (dsimp only; omega) | omega⟩ rfl (fun r9 h9 H locs hp hw => ?_)
    obtain ⟨r8, h8⟩ := hp
    subst r8
    subst h8
    refine W.eq (g2 := F0 m 16 ls [.int (bt t n (sk t n p))]) rfl ?_
    refine lv_iload_n hx hb d_M_takesSign_16 rfl (lv_at hl 1 rfl) ?_
    refine lv_icmp_eq (tgt := 22) hx hb d_M_takesSign_17 (by decide) (fun c_17 => ?_) (fun c_17 => ?_)
    · -- 17: True
      refine lv_aload_n hx hb d_M_takesSign_22 rfl (lv_at hl 0 rfl) ?_
      refine lv_dup hx hb d_M_takesSign_23 rfl ?_
      refine z_get hx hb hts (z_lay i_M) hown hK hw f1_mo rfl 29 (by decide) (z_in k_800 rfl) (fun _ h9 => h9) rfl d_M_takesSign_24 ?_
      refine lv_iconst (v := 1) hx hb d_M_takesSign_27 (by decide) ?_
      refine lv_iadd hx hb d_M_takesSign_28 ?_
      refine z_topi (y := nI ((sk t n p) + 1)) (nI_add (sk t n p) 1) ?_
      refine z_putf (ty := .int) hx hb hts (z_lay i_M) t_M t_M_ok n_M hown hK hw f1_mo rfl 29 (by decide) (z_in k_800 rfl) (fun _ h9 => h9) rfl (by decide +kernel) rfl rfl (Nat.le_of_ble_eq_true rfl) d_M_takesSign_29 (fun H locs hw => ?_)
      obtain ⟨h2, hh2⟩ : ∃ x9, z_put h1 mo (20, 0) (.inr (11, mF ma cod tpd (nI n) fls cls9 ffl fcl nds sai ous (nI ((sk t n p) + 1)) il)) = x9 := ⟨_, rfl⟩
      have hw : z_S g A s.heap h2 H locs := by rw [← hh2]; exact hw
      have f2_mo : h2 mo = some ((20, 0), .inr (11, mF ma cod tpd (nI n) fls cls9 ffl fcl nds sai ous (nI ((sk t n p) + 1)) il)) := by rw [← hh2]; exact z_put_eq
      have f2_ma_1 : h2 (ma 1) = some ((22, 0), .inl (g.2.1 1, 4000, .inl f)) := by rw [← hh2]; exact z_keep f1_mo f1_ma_1 (z_t1 (by decide))
      refine lv_iconst (v := 1) hx hb d_M_takesSign_32 (by decide) ?_
      exact z_zret hx hb hr rfl hlocks hw (by rw [if_pos ⟨by simpa using c_9, c_17⟩]; exact ⟨rfl, by rw [← hh2, ← hh1, z_put_put]⟩) (by decide) (by decide) d_M_takesSign_33
    · -- 17: False
      refine lv_iconst (v := 0) hx hb d_M_takesSign_20 (by decide) ?_
      exact z_zret hx hb hr rfl hlocks hw (by rw [if_neg (fun z => c_17 z.2)]; exact ⟨rfl, by rw [← hh1]⟩) (by decide) (by decide) d_M_takesSign_21

def wsP (il : Int32) (t : Nat → Nat) (n q : Nat) (k : Int32) : Nat := if il = -1 ∧ bt t n q = k then q + 1 else q
def wsI (il : Int32) (t : Nat → Nat) (n q : Nat) (k : Int32) : Int32 := if il = -1 then (if bt t n q = k then -1 else nI q) else il

set_option maxHeartbeats 300000 in
set_option maxRecDepth 100000 in
theorem m_wantSign0 (l : Launch) (g : z_G) (h : z_H) {mo : Nat} {ma : Nat → Nat} {cod tpd fls cls9 ffl fcl nds sai ous : Int32} {n p : Nat} {f : Nat → Int32} {t : Nat → Nat} {k : Int32} (hmo : h mo = some ((20, 0), .inr (11, mF ma cod tpd (nI n) fls cls9 ffl fcl nds sai ous (nI p) (-1)))) (htx : h (ma 1) = some ((22, 0), .inl (g.2.1 1, 4000, .inl f))) (hn : n ≤ 4000) (hf : ∀ k, k < n → t k < 256 ∧ f k = nI (t k)) (hp : p ≤ n) : z_C l y_M_wantSign prog_13_method_14_code 2 (Option.none : Option Jvm.ClassFile.FieldType) 3 90 0 0 g [.ref mo, .int k] h (fun x h1 => x = none ∧ z_put h mo (20, 0) (.inr (11, mF ma cod tpd (nI n) fls cls9 ffl fcl nds sai ous (nI (wsP (-1) t n (sk t n p) k)) (wsI (-1) t n (sk t n p) k))) = h1) := by
  refine z_C.of (by decide) (Nat.le_of_ble_eq_true rfl) (fun pg en s m below meth cd A ls hx hb hml hr hts hown hlocks hnm hK hE hA hw hl => ?_)
  have hl : lv_has ls 2 [(0, .ref mo), (1, .int k)] := hl
  have sk1 := sk_le (t := t) hp
  have sk2 := sk_ge t n p
  refine lv_aload_n hx hb d_M_wantSign_0 rfl (lv_at hl 0 rfl) ?_
  refine lv_iload_n hx hb d_M_wantSign_1 rfl (lv_at hl 1 rfl) ?_
  refine z_callV (n := 1) (As := [.int k]) (rest := []) ⟨hx, hb, hml, hown, hts⟩ (m_takesSign (t := t) l g h hmo htx hn hf (by omega)) (z_in k_927 rfl) (z_in k_7 rfl) (z_in k_924 rfl) (z_in k_926 rfl) (z_in ks_34 rfl) (by decide +kernel) ⟨by first | exact Nat.le_of_ble_eq_true rfl | (dsimp only; omega) | omega, by first | exact Nat.le_of_ble_eq_true rfl | (dsimp only; omega) | omega⟩ hK hE hw hA rfl hmo rfl hl.1 (Nat.le_of_ble_eq_true rfl) d_M_wantSign_2 ⟨by first | exact Nat.le_of_ble_eq_true rfl | (dsimp only; omega) | omega, by first | exact Nat.le_of_ble_eq_true rfl | (dsimp only; omega) | omega⟩ rfl (fun r9 h9 H locs hp hw => ?_)
  by_cases ts5 : ((-1) : Int32) = -1 ∧ bt t n (sk t n p) = k
  · -- sign True
    rw [if_pos ts5] at hp
    obtain ⟨r8, hh1⟩ := hp
    subst r8
    obtain ⟨h1, e8⟩ : ∃ x9, x9 = h9 := ⟨_, rfl⟩
    subst e8
    have f1_mo : h1 mo = some ((20, 0), .inr (11, mF ma cod tpd (nI n) fls cls9 ffl fcl nds sai ous (nI (sk t n p + 1)) (-1))) := by rw [← hh1]; exact z_put_eq
    have f1_ma_1 : h1 (ma 1) = some ((22, 0), .inl (g.2.1 1, 4000, .inl f)) := by rw [← hh1]; exact z_keep hmo htx (z_t1 (by decide))
    refine W.eq (g2 := F0 m 5 ls [.int 1]) rfl ?_
    refine lv_if_ne (tgt := 16) hx hb d_M_wantSign_5 (by decide) (fun c_5 => ?_) (fun c_5 => ?_)
    · -- 5: True
      exact z_vret hx hb hr hlocks hw (by unfold wsP wsI; rw [if_pos ts5, if_pos rfl, if_pos ts5.2]; exact ⟨rfl, by rw [← hh1]⟩) (by decide) (by decide) d_M_wantSign_16
    · -- 5: False
      exact absurd c_5 (by decide)
  · -- sign False
    rw [if_neg ts5] at hp
    obtain ⟨r8, hh2⟩ := hp
    subst r8
    obtain ⟨h2, e8⟩ : ∃ x9, x9 = h9 := ⟨_, rfl⟩
    subst e8
    have f2_mo : h2 mo = some ((20, 0), .inr (11, mF ma cod tpd (nI n) fls cls9 ffl fcl nds sai ous (nI (sk t n p)) (-1))) := by rw [← hh2]; exact z_put_eq
    have f2_ma_1 : h2 (ma 1) = some ((22, 0), .inl (g.2.1 1, 4000, .inl f)) := by rw [← hh2]; exact z_keep hmo htx (z_t1 (by decide))
    refine W.eq (g2 := F0 m 5 ls [.int 0]) rfl ?_
    refine lv_if_ne (tgt := 16) hx hb d_M_wantSign_5 (by decide) (fun c_5 => ?_) (fun c_5 => ?_)
    · -- 5: True
      exact absurd (by decide) c_5
    · -- 5: False
      refine lv_aload_n hx hb d_M_wantSign_8 rfl (lv_at hl 0 rfl) ?_
      refine lv_aload_n hx hb d_M_wantSign_9 rfl (lv_at hl 0 rfl) ?_
      refine z_get hx hb hts (z_lay i_M) hown hK hw f2_mo rfl 29 (by decide) (z_in k_800 rfl) (fun _ h9 => h9) rfl d_M_wantSign_10 ?_
      refine z_callV (n := 1) (As := [.int (nI (sk t n p))]) (rest := []) ⟨hx, hb, hml, hown, hts⟩ (m_fail l g h2 f2_mo) (z_in k_914 rfl) (z_in k_7 rfl) (z_in k_911 rfl) (z_in k_913 rfl) (z_in ks_32 rfl) (by decide +kernel) ⟨by first | exact Nat.le_of_ble_eq_true rfl | (dsimp only; omega) | omega, by first | exact Nat.le_of_ble_eq_true rfl | (dsimp only; omega) | omega⟩ hK hE hw hA rfl f2_mo rfl hl.1 (Nat.le_of_ble_eq_true rfl) d_M_wantSign_13 ⟨by first | exact Nat.le_of_ble_eq_true rfl | (dsimp only; omega) | omega, by first | exact Nat.le_of_ble_eq_true rfl | (dsimp only; omega) | omega⟩ rfl (fun r9 h9 H locs hp hw => ?_)
      obtain ⟨r8, hh3⟩ := hp
      subst r8
      obtain ⟨h3, e8⟩ : ∃ x9, x9 = h9 := ⟨_, rfl⟩
      subst e8
      have f3_mo : h3 mo = some ((20, 0), .inr (11, mF ma cod tpd (nI n) fls cls9 ffl fcl nds sai ous (nI (sk t n p)) (nI (sk t n p)))) := by rw [← hh3]; exact z_put_eq
      have f3_ma_1 : h3 (ma 1) = some ((22, 0), .inl (g.2.1 1, 4000, .inl f)) := by rw [← hh3]; exact z_keep f2_mo f2_ma_1 (z_t1 (by decide))
      refine W.eq (g2 := F0 m 16 ls []) rfl ?_
      exact z_vret hx hb hr hlocks hw (by unfold wsP wsI; rw [if_neg ts5, if_pos rfl, if_neg (fun z => ts5 ⟨rfl, z⟩)]; exact ⟨rfl, by rw [← hh3, ← hh2, z_put_put]⟩) (by decide) (by decide) d_M_wantSign_16

set_option maxHeartbeats 300000 in
set_option maxRecDepth 100000 in
theorem m_wantSign1 (l : Launch) (g : z_G) (h : z_H) {mo : Nat} {ma : Nat → Nat} {cod tpd fls cls9 ffl fcl nds sai ous il : Int32} {n p : Nat} {f : Nat → Int32} {t : Nat → Nat} {k : Int32} (hmo : h mo = some ((20, 0), .inr (11, mF ma cod tpd (nI n) fls cls9 ffl fcl nds sai ous (nI p) il))) (htx : h (ma 1) = some ((22, 0), .inl (g.2.1 1, 4000, .inl f))) (hn : n ≤ 4000) (hf : ∀ k, k < n → t k < 256 ∧ f k = nI (t k)) (hp : p ≤ n) (hil : ¬ il = -1) : z_C l y_M_wantSign prog_13_method_14_code 2 (Option.none : Option Jvm.ClassFile.FieldType) 3 90 0 0 g [.ref mo, .int k] h (fun x h1 => x = none ∧ z_put h mo (20, 0) (.inr (11, mF ma cod tpd (nI n) fls cls9 ffl fcl nds sai ous (nI (wsP il t n (sk t n p) k)) (wsI il t n (sk t n p) k))) = h1) := by
  refine z_C.of (by decide) (Nat.le_of_ble_eq_true rfl) (fun pg en s m below meth cd A ls hx hb hml hr hts hown hlocks hnm hK hE hA hw hl => ?_)
  have hl : lv_has ls 2 [(0, .ref mo), (1, .int k)] := hl
  have sk1 := sk_le (t := t) hp
  have sk2 := sk_ge t n p
  refine lv_aload_n hx hb d_M_wantSign_0 rfl (lv_at hl 0 rfl) ?_
  refine lv_iload_n hx hb d_M_wantSign_1 rfl (lv_at hl 1 rfl) ?_
  refine z_callV (n := 1) (As := [.int k]) (rest := []) ⟨hx, hb, hml, hown, hts⟩ (m_takesSign (t := t) l g h hmo htx hn hf (by omega)) (z_in k_927 rfl) (z_in k_7 rfl) (z_in k_924 rfl) (z_in k_926 rfl) (z_in ks_34 rfl) (by decide +kernel) ⟨by first | exact Nat.le_of_ble_eq_true rfl | (dsimp only; omega) | omega, by first | exact Nat.le_of_ble_eq_true rfl | (dsimp only; omega) | omega⟩ hK hE hw hA rfl hmo rfl hl.1 (Nat.le_of_ble_eq_true rfl) d_M_wantSign_2 ⟨by first | exact Nat.le_of_ble_eq_true rfl | (dsimp only; omega) | omega, by first | exact Nat.le_of_ble_eq_true rfl | (dsimp only; omega) | omega⟩ rfl (fun r9 h9 H locs hp hw => ?_)
  by_cases ts5 : (il : Int32) = -1 ∧ bt t n (sk t n p) = k
  · -- sign True
    rw [if_pos ts5] at hp
    obtain ⟨r8, hh1⟩ := hp
    subst r8
    obtain ⟨h1, e8⟩ : ∃ x9, x9 = h9 := ⟨_, rfl⟩
    subst e8
    have f1_mo : h1 mo = some ((20, 0), .inr (11, mF ma cod tpd (nI n) fls cls9 ffl fcl nds sai ous (nI (sk t n p + 1)) il)) := by rw [← hh1]; exact z_put_eq
    have f1_ma_1 : h1 (ma 1) = some ((22, 0), .inl (g.2.1 1, 4000, .inl f)) := by rw [← hh1]; exact z_keep hmo htx (z_t1 (by decide))
    refine W.eq (g2 := F0 m 5 ls [.int 1]) rfl ?_
    refine lv_if_ne (tgt := 16) hx hb d_M_wantSign_5 (by decide) (fun c_5 => ?_) (fun c_5 => ?_)
    · -- 5: True
      exact z_vret hx hb hr hlocks hw (absurd ts5.1 hil) (by decide) (by decide) d_M_wantSign_16
    · -- 5: False
      exact absurd c_5 (by decide)
  · -- sign False
    rw [if_neg ts5] at hp
    obtain ⟨r8, hh2⟩ := hp
    subst r8
    obtain ⟨h2, e8⟩ : ∃ x9, x9 = h9 := ⟨_, rfl⟩
    subst e8
    have f2_mo : h2 mo = some ((20, 0), .inr (11, mF ma cod tpd (nI n) fls cls9 ffl fcl nds sai ous (nI (sk t n p)) il)) := by rw [← hh2]; exact z_put_eq
    have f2_ma_1 : h2 (ma 1) = some ((22, 0), .inl (g.2.1 1, 4000, .inl f)) := by rw [← hh2]; exact z_keep hmo htx (z_t1 (by decide))
    refine W.eq (g2 := F0 m 5 ls [.int 0]) rfl ?_
    refine lv_if_ne (tgt := 16) hx hb d_M_wantSign_5 (by decide) (fun c_5 => ?_) (fun c_5 => ?_)
    · -- 5: True
      exact absurd (by decide) c_5
    · -- 5: False
      refine lv_aload_n hx hb d_M_wantSign_8 rfl (lv_at hl 0 rfl) ?_
      refine lv_aload_n hx hb d_M_wantSign_9 rfl (lv_at hl 0 rfl) ?_
      refine z_get hx hb hts (z_lay i_M) hown hK hw f2_mo rfl 29 (by decide) (z_in k_800 rfl) (fun _ h9 => h9) rfl d_M_wantSign_10 ?_
      refine z_callV (n := 1) (As := [.int (nI (sk t n p))]) (rest := []) ⟨hx, hb, hml, hown, hts⟩ (m_fail_no l g h2 f2_mo hil) (z_in k_914 rfl) (z_in k_7 rfl) (z_in k_911 rfl) (z_in k_913 rfl) (z_in ks_32 rfl) (by decide +kernel) ⟨by first | exact Nat.le_of_ble_eq_true rfl | (dsimp only; omega) | omega, by first | exact Nat.le_of_ble_eq_true rfl | (dsimp only; omega) | omega⟩ hK hE hw hA rfl f2_mo rfl hl.1 (Nat.le_of_ble_eq_true rfl) d_M_wantSign_13 ⟨by first | exact Nat.le_of_ble_eq_true rfl | (dsimp only; omega) | omega, by first | exact Nat.le_of_ble_eq_true rfl | (dsimp only; omega) | omega⟩ rfl (fun r9 h9 H locs hp hw => ?_)
      obtain ⟨r8, h8⟩ := hp
      subst r8
      subst h8
      refine W.eq (g2 := F0 m 16 ls []) rfl ?_
      exact z_vret hx hb hr hlocks hw (by unfold wsP wsI; rw [if_neg (fun z => hil z.1), if_neg hil]; exact ⟨rfl, by rw [← hh2]⟩) (by decide) (by decide) d_M_wantSign_16

theorem m_wantSign (l : Launch) (g : z_G) (h : z_H) {mo : Nat} {ma : Nat → Nat} {cod tpd fls cls9 ffl fcl nds sai ous il : Int32} {n p : Nat} {f : Nat → Int32} {t : Nat → Nat} {k : Int32} (hmo : h mo = some ((20, 0), .inr (11, mF ma cod tpd (nI n) fls cls9 ffl fcl nds sai ous (nI p) il))) (htx : h (ma 1) = some ((22, 0), .inl (g.2.1 1, 4000, .inl f))) (hn : n ≤ 4000) (hf : ∀ k, k < n → t k < 256 ∧ f k = nI (t k)) (hp : p ≤ n) : z_C l y_M_wantSign prog_13_method_14_code 2 (Option.none : Option Jvm.ClassFile.FieldType) 3 90 0 0 g [.ref mo, .int k] h (fun x h1 => x = none ∧ z_put h mo (20, 0) (.inr (11, mF ma cod tpd (nI n) fls cls9 ffl fcl nds sai ous (nI (wsP il t n (sk t n p) k)) (wsI il t n (sk t n p) k))) = h1) := by
  by_cases e : il = -1
  · subst e; exact m_wantSign0 l g h hmo htx hn hf hp
  · exact m_wantSign1 l g h hmo htx hn hf hp e
theorem ws_le {il : Int32} {t : Nat → Nat} {n p : Nat} {k : Int32} (hp : p ≤ n) (hk : ¬ k = -1) : wsP il t n (sk t n p) k ≤ n ∧ p ≤ wsP il t n (sk t n p) k := by
  have h1 := sk_le (t := t) hp
  have h2 := sk_ge t n p
  unfold wsP
  split
  · rename_i z
    by_cases h3 : sk t n p < n
    · omega
    · rw [bt_out h3] at z; exact absurd z.2.symm hk
  · omega

set_option maxHeartbeats 300000 in
set_option maxRecDepth 100000 in
theorem m_takes_few (l : Launch) (g : z_G) (h : z_H) {mo : Nat} {ma : Nat → Nat} {cod fls cls9 ffl fcl nds sai ous il : Int32} {siz at9 : Int32} {T : Nat} {k : Int32} (hmo : h mo = some ((20, 0), .inr (11, mF ma cod (nI T) siz fls cls9 ffl fcl nds sai ous at9 il))) (hT : T < 2 ^ 31) (ho : k < 0 ∨ nI T < k) : z_C l y_M_takes prog_13_method_4_code 3 (Option.some Jvm.ClassFile.FieldType.boolean) 0 0 0 0 g [.ref mo, .int k] h (fun x h1 => x = some (.int 0) ∧ h = h1) := by
  refine z_C.of (by decide) (Nat.le_of_ble_eq_true rfl) (fun pg en s m below meth cd A ls hx hb hml hr hts hown hlocks hnm hK hE hA hw hl => ?_)
  have hl : lv_has ls 3 [(0, .ref mo), (1, .int k)] := hl
  refine lv_iload_n hx hb d_M_takes_0 rfl (lv_at hl 1 rfl) ?_
  refine lv_if_lt (tgt := 12) hx hb d_M_takes_1 (by decide) (fun c_1 => ?_) (fun c_1 => ?_)
  · -- 1: True
    refine lv_iconst (v := 0) hx hb d_M_takes_12 (by decide) ?_
    exact z_zret hx hb hr rfl hlocks hw ⟨rfl, rfl⟩ (by decide) (by decide) d_M_takes_13
  · -- 1: False
    refine lv_iload_n hx hb d_M_takes_4 rfl (lv_at hl 1 rfl) ?_
    refine lv_aload_n hx hb d_M_takes_5 rfl (lv_at hl 0 rfl) ?_
    refine z_get hx hb hts (z_lay i_M) hown hK hw hmo rfl 3 (by decide) (z_in k_774 rfl) (fun _ h9 => h9) rfl d_M_takes_6 ?_
    refine lv_icmp_le (tgt := 14) hx hb d_M_takes_9 (by decide) (fun c_9 => ?_) (fun c_9 => ?_)
    · -- 9: True
      exact ho.elim (fun z => absurd z c_1) (fun z => absurd c_9 (by rw [Int32.lt_iff_toInt_lt] at z; rw [Int32.le_iff_toInt_le]; omega))
    · -- 9: False
      refine lv_iconst (v := 0) hx hb d_M_takes_12 (by decide) ?_
      exact z_zret hx hb hr rfl hlocks hw ⟨rfl, rfl⟩ (by decide) (by decide) d_M_takes_13

set_option maxHeartbeats 300000 in
set_option maxRecDepth 100000 in
theorem m_takes (l : Launch) (g : z_G) (h : z_H) {mo : Nat} {ma : Nat → Nat} {cod fls cls9 ffl fcl nds sai ous il : Int32} {siz at9 : Int32} {T n : Nat} {f ft : Nat → Int32} (hmo : h mo = some ((20, 0), .inr (11, mF ma cod (nI T) siz fls cls9 ffl fcl nds sai ous at9 il))) (htx : h (ma 1) = some ((22, 0), .inl (g.2.1 1, 4000, .inl f))) (htp : h (ma 0) = some ((21, 0), .inl (g.2.1 1, 4000, .inl ft))) (hT : T ≤ 4000) (hn : n ≤ T) : z_C l y_M_takes prog_13_method_4_code 3 (Option.some Jvm.ClassFile.FieldType.boolean) 0 0 0 0 g [.ref mo, .int (nI n)] h (fun x h1 => ∃ f2, x = some (.int 1) ∧ h1 mo = some ((20, 0), .inr (11, mF ma cod 0 (nI n) fls cls9 ffl fcl nds sai ous 0 (-1))) ∧ h1 (ma 1) = some ((22, 0), .inl (g.2.1 1, 4000, .inl f2)) ∧ (∀ j, j < n → f2 j = ft j) ∧ z_K (fun y => y = 20 ∨ y = 22) h h1) := by
  refine z_C.of (by decide) (Nat.le_of_ble_eq_true rfl) (fun pg en s m below meth cd A ls hx hb hml hr hts hown hlocks hnm hK hE hA hw hl => ?_)
  have hl : lv_has ls 3 [(0, .ref mo), (1, .int (nI n))] := hl
  have kk0 : z_K (fun y => y = 20 ∨ y = 22) h h := z_K.rf
  refine lv_iload_n hx hb d_M_takes_0 rfl (lv_at hl 1 rfl) ?_
  refine lv_if_lt (tgt := 12) hx hb d_M_takes_1 (by decide) (fun c_1 => ?_) (fun c_1 => ?_)
  · -- 1: True
    have c_1 : n < 0 := (nI_ltI (a := n) (b := 0) (by omega) (by omega)).mp c_1
    exact absurd c_1 (Nat.not_lt_zero _)
  · -- 1: False
    have c_1 : ¬ (n < 0) := fun z => c_1 ((nI_ltI (a := n) (b := 0) (by omega) (by omega)).mpr z)
    refine lv_iload_n hx hb d_M_takes_4 rfl (lv_at hl 1 rfl) ?_
    refine lv_aload_n hx hb d_M_takes_5 rfl (lv_at hl 0 rfl) ?_
    refine z_get hx hb hts (z_lay i_M) hown hK hw hmo rfl 3 (by decide) (z_in k_774 rfl) (fun _ h9 => h9) rfl d_M_takes_6 ?_
    refine lv_icmp_le (tgt := 14) hx hb d_M_takes_9 (by decide) (fun c_9 => ?_) (fun c_9 => ?_)
    · -- 9: True
      have c_9 : n ≤ T := (nI_leI (a := n) (b := T) (by omega) (by omega)).mp c_9
      refine lv_iconst (v := 0) hx hb d_M_takes_14 (by decide) ?_
      refine lv_istore_n (lv' := [(2, .int 0), (0, .ref mo), (1, .int (nI n))]) hx hb d_M_takes_15 rfl hl (by decide) rfl (fun ls hl => ?_)
      have loop_16 : ∀ (fuel : Nat) (k : Nat) (f2 : Nat → Int32) (hL : z_H) (H : Heap) (locs : List Loc) (ls : Array Slot) (L16_mo : hL mo = some ((20, 0), .inr (11, mF ma cod (nI T) siz fls cls9 ffl fcl nds sai ous at9 il))) (L16_ma_1 : hL (ma 1) = some ((22, 0), .inl (g.2.1 1, 4000, .inl f2))) (L16_ma_0 : hL (ma 0) = some ((21, 0), .inl (g.2.1 1, 4000, .inl ft))) (hle : k ≤ n) (hcp : ∀ j, j < k → f2 j = ft j) (kkL : z_K (fun y => y = 20 ∨ y = 22) h hL), (n - k) < fuel → z_S g A s.heap hL H locs → lv_has ls 3 [(0, .ref mo), (1, .int (nI n)), (2, .int (nI k))] → W pg l en { frames := 0, cells := 0, slots := 0, locals := 0 } s m [.ref mo, .int (nI n)].toArray below meth cd H locs 0 0 (MQ below (z_Q g A (fun x h1 => ∃ f2, x = some (.int 1) ∧ h1 mo = some ((20, 0), .inr (11, mF ma cod 0 (nI n) fls cls9 ffl fcl nds sai ous 0 (-1))) ∧ h1 (ma 1) = some ((22, 0), .inl (g.2.1 1, 4000, .inl f2)) ∧ (∀ j, j < n → f2 j = ft j) ∧ z_K (fun y => y = 20 ∨ y = 22) h h1)) [.ref mo, .int (nI n)].toArray s 0 0 A) (F0 m 16 ls []) := by
        intro fuel
        induction fuel with
        | zero => intro k f2 hL H locs ls L16_mo L16_ma_1 L16_ma_0 hle hcp kkL hm; exact absurd hm (Nat.not_lt_zero _)
        | succ fuel ih_16 =>
          intro k f2 hL H locs ls L16_mo L16_ma_1 L16_ma_0 hle hcp kkL hm hw hl
          refine lv_iload_n hx hb d_M_takes_16 rfl (lv_at hl 2 rfl) ?_
          refine lv_iload_n hx hb d_M_takes_17 rfl (lv_at hl 1 rfl) ?_
          refine lv_icmp_ge (tgt := 39) hx hb d_M_takes_18 (by decide) (fun c_18 => ?_) (fun c_18 => ?_)
          · -- 18: True
            have c_18 : n ≤ k := (nI_leI (a := n) (b := k) (by omega) (by omega)).mp c_18
            refine lv_aload_n hx hb d_M_takes_39 rfl (lv_at hl 0 rfl) ?_
            refine lv_iload_n hx hb d_M_takes_40 rfl (lv_at hl 1 rfl) ?_
            refine z_putf (ty := .int) hx hb hts (z_lay i_M) t_M t_M_ok n_M hown hK hw L16_mo rfl 4 (by decide) (z_in k_775 rfl) (fun _ h9 => h9) rfl (by decide +kernel) rfl rfl (Nat.le_of_ble_eq_true rfl) d_M_takes_41 (fun H locs hw => ?_)
            obtain ⟨h1, hh1⟩ : ∃ x9, z_put hL mo (20, 0) (.inr (11, mF ma cod (nI T) (nI n) fls cls9 ffl fcl nds sai ous at9 il)) = x9 := ⟨_, rfl⟩
            have hw : z_S g A s.heap h1 H locs := by rw [← hh1]; exact hw
            have f1_mo : h1 mo = some ((20, 0), .inr (11, mF ma cod (nI T) (nI n) fls cls9 ffl fcl nds sai ous at9 il)) := by rw [← hh1]; exact z_put_eq
            have f1_ma_1 : h1 (ma 1) = some ((22, 0), .inl (g.2.1 1, 4000, .inl f2)) := by rw [← hh1]; exact z_keep L16_mo L16_ma_1 (z_t1 (by decide))
            have f1_ma_0 : h1 (ma 0) = some ((21, 0), .inl (g.2.1 1, 4000, .inl ft)) := by rw [← hh1]; exact z_keep L16_mo L16_ma_0 (z_t1 (by decide))
            have kk1 : z_K (fun y => y = 20 ∨ y = 22) h h1 := kkL.tr (by rw [← hh1]; exact z_K.put L16_mo (by first | decide | simp | omega))
            refine lv_aload_n hx hb d_M_takes_44 rfl (lv_at hl 0 rfl) ?_
            refine lv_iconst (v := 0) hx hb d_M_takes_45 (by decide) ?_
            refine z_putf (ty := .int) hx hb hts (z_lay i_M) t_M t_M_ok n_M hown hK hw f1_mo rfl 3 (by decide) (z_in k_774 rfl) (fun _ h9 => h9) rfl (by decide +kernel) rfl rfl (Nat.le_of_ble_eq_true rfl) d_M_takes_46 (fun H locs hw => ?_)
            obtain ⟨h2, hh2⟩ : ∃ x9, z_put h1 mo (20, 0) (.inr (11, mF ma cod 0 (nI n) fls cls9 ffl fcl nds sai ous at9 il)) = x9 := ⟨_, rfl⟩
            have hw : z_S g A s.heap h2 H locs := by rw [← hh2]; exact hw
            have f2_mo : h2 mo = some ((20, 0), .inr (11, mF ma cod 0 (nI n) fls cls9 ffl fcl nds sai ous at9 il)) := by rw [← hh2]; exact z_put_eq
            have f2_ma_1 : h2 (ma 1) = some ((22, 0), .inl (g.2.1 1, 4000, .inl f2)) := by rw [← hh2]; exact z_keep f1_mo f1_ma_1 (z_t1 (by decide))
            have f2_ma_0 : h2 (ma 0) = some ((21, 0), .inl (g.2.1 1, 4000, .inl ft)) := by rw [← hh2]; exact z_keep f1_mo f1_ma_0 (z_t1 (by decide))
            have kk2 : z_K (fun y => y = 20 ∨ y = 22) h h2 := kk1.tr (by rw [← hh2]; exact z_K.put f1_mo (by first | decide | simp | omega))
            refine lv_aload_n hx hb d_M_takes_49 rfl (lv_at hl 0 rfl) ?_
            refine lv_iconst (v := 0) hx hb d_M_takes_50 (by decide) ?_
            refine z_putf (ty := .int) hx hb hts (z_lay i_M) t_M t_M_ok n_M hown hK hw f2_mo rfl 29 (by decide) (z_in k_800 rfl) (fun _ h9 => h9) rfl (by decide +kernel) rfl rfl (Nat.le_of_ble_eq_true rfl) d_M_takes_51 (fun H locs hw => ?_)
            obtain ⟨h3, hh3⟩ : ∃ x9, z_put h2 mo (20, 0) (.inr (11, mF ma cod 0 (nI n) fls cls9 ffl fcl nds sai ous 0 il)) = x9 := ⟨_, rfl⟩
            have hw : z_S g A s.heap h3 H locs := by rw [← hh3]; exact hw
            have f3_mo : h3 mo = some ((20, 0), .inr (11, mF ma cod 0 (nI n) fls cls9 ffl fcl nds sai ous 0 il)) := by rw [← hh3]; exact z_put_eq
            have f3_ma_1 : h3 (ma 1) = some ((22, 0), .inl (g.2.1 1, 4000, .inl f2)) := by rw [← hh3]; exact z_keep f2_mo f2_ma_1 (z_t1 (by decide))
            have f3_ma_0 : h3 (ma 0) = some ((21, 0), .inl (g.2.1 1, 4000, .inl ft)) := by rw [← hh3]; exact z_keep f2_mo f2_ma_0 (z_t1 (by decide))
            have kk3 : z_K (fun y => y = 20 ∨ y = 22) h h3 := kk2.tr (by rw [← hh3]; exact z_K.put f2_mo (by first | decide | simp | omega))
            refine lv_aload_n hx hb d_M_takes_54 rfl (lv_at hl 0 rfl) ?_
            refine lv_iconst (v := (-1)) hx hb d_M_takes_55 (by decide) ?_
            refine z_putf (ty := .int) hx hb hts (z_lay i_M) t_M t_M_ok n_M hown hK hw f3_mo rfl 30 (by decide) (z_in k_801 rfl) (fun _ h9 => h9) rfl (by decide +kernel) rfl rfl (Nat.le_of_ble_eq_true rfl) d_M_takes_56 (fun H locs hw => ?_)
            obtain ⟨h4, hh4⟩ : ∃ x9, z_put h3 mo (20, 0) (.inr (11, mF ma cod 0 (nI n) fls cls9 ffl fcl nds sai ous 0 (-1))) = x9 := ⟨_, rfl⟩
            have hw : z_S g A s.heap h4 H locs := by rw [← hh4]; exact hw
            have f4_mo : h4 mo = some ((20, 0), .inr (11, mF ma cod 0 (nI n) fls cls9 ffl fcl nds sai ous 0 (-1))) := by rw [← hh4]; exact z_put_eq
            have f4_ma_1 : h4 (ma 1) = some ((22, 0), .inl (g.2.1 1, 4000, .inl f2)) := by rw [← hh4]; exact z_keep f3_mo f3_ma_1 (z_t1 (by decide))
            have f4_ma_0 : h4 (ma 0) = some ((21, 0), .inl (g.2.1 1, 4000, .inl ft)) := by rw [← hh4]; exact z_keep f3_mo f3_ma_0 (z_t1 (by decide))
            have kk4 : z_K (fun y => y = 20 ∨ y = 22) h h4 := kk3.tr (by rw [← hh4]; exact z_K.put f3_mo (by first | decide | simp | omega))
            refine lv_iconst (v := 1) hx hb d_M_takes_59 (by decide) ?_
            exact z_zret hx hb hr rfl hlocks hw ⟨f2, rfl, f4_mo, f4_ma_1, fun j hj => hcp j (by omega), kk4⟩ (by decide) (by decide) d_M_takes_60
          · -- 18: False
            have c_18 : ¬ (n ≤ k) := fun z => c_18 ((nI_leI (a := n) (b := k) (by omega) (by omega)).mpr z)
            refine lv_aload_n hx hb d_M_takes_21 rfl (lv_at hl 0 rfl) ?_
            refine z_get hx hb hts (z_lay i_M) hown hK hw L16_mo rfl 2 (by decide) (z_in k_773 rfl) (fun _ h9 => h9) rfl d_M_takes_22 ?_
            refine lv_iload_n hx hb d_M_takes_25 rfl (lv_at hl 2 rfl) ?_
            refine lv_aload_n hx hb d_M_takes_26 rfl (lv_at hl 0 rfl) ?_
            refine z_get hx hb hts (z_lay i_M) hown hK hw L16_mo rfl 1 (by decide) (z_in k_772 rfl) (fun _ h9 => h9) rfl d_M_takes_27 ?_
            refine lv_iload_n hx hb d_M_takes_30 rfl (lv_at hl 2 rfl) ?_
            refine z_iald hx hb hK hw L16_ma_0 1 rfl (vp_in_nI (by omega) (by omega)) d_M_takes_31 ?_
            refine z_topi (y := ft k) (by rw [nI_clamp (by omega)]) ?_
            refine z_iast hx hb hK hw L16_ma_1 1 rfl (vp_in_nI (by omega) (by omega)) d_M_takes_32 (fun H locs hw => ?_)
            rw [nI_clamp (by omega)] at hw
            obtain ⟨h5, hh5⟩ : ∃ x9, z_put hL (ma 1) (22, 0) (.inl (g.2.1 1, 4000, .inl (upd f2 k (ft k)))) = x9 := ⟨_, rfl⟩
            have hw : z_S g A s.heap h5 H locs := by rw [← hh5]; exact hw
            have f5_mo : h5 mo = some ((20, 0), .inr (11, mF ma cod (nI T) siz fls cls9 ffl fcl nds sai ous at9 il)) := by rw [← hh5]; exact z_keep L16_ma_1 L16_mo (z_t1 (by decide))
            have f5_ma_1 : h5 (ma 1) = some ((22, 0), .inl (g.2.1 1, 4000, .inl (upd f2 k (ft k)))) := by rw [← hh5]; exact z_put_eq
            have f5_ma_0 : h5 (ma 0) = some ((21, 0), .inl (g.2.1 1, 4000, .inl ft)) := by rw [← hh5]; exact z_keep L16_ma_1 L16_ma_0 (z_t1 (by decide))
            have kk5 : z_K (fun y => y = 20 ∨ y = 22) h h5 := kkL.tr (by rw [← hh5]; exact z_K.put L16_ma_1 (by first | decide | simp | omega))
            refine lv_iinc (v := nI (k + 1)) (lv' := [(2, .int (nI (k + 1))), (0, .ref mo), (1, .int (nI n))]) hx hb d_M_takes_33 hl (k := 2) rfl (nI_1 k) (by decide) rfl (fun ls hl => ?_)
            refine lv_goto (tgt := 16) hx hb d_M_takes_36 (by decide) ?_
            refine ih_16 (k + 1) (upd f2 k (ft k)) h5 _ _ _ f5_mo f5_ma_1 f5_ma_0 (by omega) (fun j hj => (Nat.lt_succ_iff_lt_or_eq.mp hj).elim (fun z => by rw [pk_un (by omega)]; exact hcp j z) (fun z => by rw [z, pk_us])) kk5 ?_ hw (lv_sub hl [1, 2, 0] rfl)
            omega
      exact loop_16 (n - 0 + 1) 0 f h _ _ _ hmo htx htp (by omega) (fun j hj => absurd hj (Nat.not_lt_zero _)) z_K.rf (by omega) hw (lv_sub hl [1, 2, 0] rfl)
    · -- 9: False
      have c_9 : ¬ (n ≤ T) := fun z => c_9 ((nI_leI (a := n) (b := T) (by omega) (by omega)).mpr z)
      exact absurd hn c_9

set_option maxHeartbeats 300000 in
set_option maxRecDepth 100000 in
theorem m_empty (l : Launch) (g : z_G) (h : z_H) {mo : Nat} {ma : Nat → Nat} {cod tpd fls cls9 ffl fcl nds sai ous il : Int32} {siz at9 : Int32} (hmo : h mo = some ((20, 0), .inr (11, mF ma cod tpd siz fls cls9 ffl fcl nds sai ous at9 il)))  : z_C l y_M_empty prog_13_method_25_code 1 (Option.none : Option Jvm.ClassFile.FieldType) 0 0 0 0 g [.ref mo] h (fun x h1 => x = none ∧ z_put h mo (20, 0) (.inr (11, mF ma cod tpd siz fls cls9 ffl fcl 1 0 ous at9 il)) = h1) := by
  refine z_C.of (by decide) (Nat.le_of_ble_eq_true rfl) (fun pg en s m below meth cd A ls hx hb hml hr hts hown hlocks hnm hK hE hA hw hl => ?_)
  have hl : lv_has ls 1 [(0, .ref mo)] := hl
  refine lv_aload_n hx hb d_M_empty_0 rfl (lv_at hl 0 rfl) ?_
  refine lv_iconst (v := 1) hx hb d_M_empty_1 (by decide) ?_
  refine z_putf (ty := .int) hx hb hts (z_lay i_M) t_M t_M_ok n_M hown hK hw hmo rfl 18 (by decide) (z_in k_789 rfl) (fun _ h9 => h9) rfl (by decide +kernel) rfl rfl (Nat.le_of_ble_eq_true rfl) d_M_empty_2 (fun H locs hw => ?_)
  obtain ⟨h1, hh1⟩ : ∃ x9, z_put h mo (20, 0) (.inr (11, mF ma cod tpd siz fls cls9 ffl fcl 1 sai ous at9 il)) = x9 := ⟨_, rfl⟩
  have hw : z_S g A s.heap h1 H locs := by rw [← hh1]; exact hw
  have f1_mo : h1 mo = some ((20, 0), .inr (11, mF ma cod tpd siz fls cls9 ffl fcl 1 sai ous at9 il)) := by rw [← hh1]; exact z_put_eq
  refine lv_aload_n hx hb d_M_empty_5 rfl (lv_at hl 0 rfl) ?_
  refine lv_iconst (v := 0) hx hb d_M_empty_6 (by decide) ?_
  refine z_putf (ty := .int) hx hb hts (z_lay i_M) t_M t_M_ok n_M hown hK hw f1_mo rfl 19 (by decide) (z_in k_790 rfl) (fun _ h9 => h9) rfl (by decide +kernel) rfl rfl (Nat.le_of_ble_eq_true rfl) d_M_empty_7 (fun H locs hw => ?_)
  obtain ⟨h2, hh2⟩ : ∃ x9, z_put h1 mo (20, 0) (.inr (11, mF ma cod tpd siz fls cls9 ffl fcl 1 0 ous at9 il)) = x9 := ⟨_, rfl⟩
  have hw : z_S g A s.heap h2 H locs := by rw [← hh2]; exact hw
  have f2_mo : h2 mo = some ((20, 0), .inr (11, mF ma cod tpd siz fls cls9 ffl fcl 1 0 ous at9 il)) := by rw [← hh2]; exact z_put_eq
  exact z_vret hx hb hr hlocks hw ⟨rfl, by rw [← hh2, ← hh1, z_put_put]⟩ (by decide) (by decide) d_M_empty_10

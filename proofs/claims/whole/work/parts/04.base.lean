theorem ks_0 : Cond.selects "SchemaRecords$SchemaReader" y_SchemaReader_readField y_SchemaReader_readField ∈ lw_tbl := List.mem_append_left _ (List.mem_of_getElem? (i := 0) (by decide +kernel))
theorem ks_1 : Cond.selects "SchemaRecords$SchemaReader" y_SchemaReader_readKind y_SchemaReader_readKind ∈ lw_tbl := List.mem_append_left _ (List.mem_of_getElem? (i := 1) (by decide +kernel))
theorem ks_2 : Cond.selects "SchemaRecords$SchemaReader" y_SchemaReader_readType y_SchemaReader_readType ∈ lw_tbl := List.mem_append_left _ (List.mem_of_getElem? (i := 2) (by decide +kernel))
theorem ks_3 : Cond.selects "SchemaRecords$SchemaReader" y_SchemaReader_nameStands y_SchemaReader_nameStands ∈ lw_tbl := List.mem_append_left _ (List.mem_of_getElem? (i := 3) (by decide +kernel))
theorem ks_4 : Cond.selects "SchemaRecords$Schema" y_Schema_setLevels y_Schema_setLevels ∈ lw_tbl := List.mem_append_left _ (List.mem_of_getElem? (i := 4) (by decide +kernel))
theorem ks_5 : Cond.selects "SchemaRecords$SchemaReader" y_SchemaReader_readGroup y_SchemaReader_readGroup ∈ lw_tbl := List.mem_append_left _ (List.mem_of_getElem? (i := 5) (by decide +kernel))
theorem ks_6 : Cond.selects "SchemaRecords$RecordReader" y_RecordReader_readName y_RecordReader_readName ∈ lw_tbl := List.mem_append_left _ (List.mem_of_getElem? (i := 6) (by decide +kernel))
theorem ks_7 : Cond.selects "SchemaRecords$RecordReader" y_RecordReader_readField y_RecordReader_readField ∈ lw_tbl := List.mem_append_left _ (List.mem_of_getElem? (i := 7) (by decide +kernel))
theorem ks_8 : Cond.selects "SchemaRecords$RecordReader" y_RecordReader_readValue y_RecordReader_readValue ∈ lw_tbl := List.mem_append_left _ (List.mem_of_getElem? (i := 8) (by decide +kernel))
theorem ks_9 : Cond.selects "SchemaRecords$RecordReader" y_RecordReader_readBool y_RecordReader_readBool ∈ lw_tbl := List.mem_append_left _ (List.mem_of_getElem? (i := 9) (by decide +kernel))
theorem ks_10 : Cond.selects "SchemaRecords$RecordReader" y_RecordReader_keep y_RecordReader_keep ∈ lw_tbl := List.mem_append_left _ (List.mem_of_getElem? (i := 10) (by decide +kernel))
theorem ks_11 : Cond.selects "SchemaRecords$RecordReader" y_RecordReader_readNumber y_RecordReader_readNumber ∈ lw_tbl := List.mem_append_left _ (List.mem_of_getElem? (i := 11) (by decide +kernel))
theorem ks_12 : Cond.selects "SchemaRecords$RecordReader" y_RecordReader_readText y_RecordReader_readText ∈ lw_tbl := List.mem_append_left _ (List.mem_of_getElem? (i := 12) (by decide +kernel))
theorem ks_13 : Cond.selects "SchemaRecords$RecordReader" y_RecordReader_readEscape y_RecordReader_readEscape ∈ lw_tbl := List.mem_append_left _ (List.mem_of_getElem? (i := 13) (by decide +kernel))
theorem ks_14 : Cond.selects "SchemaRecords$RecordReader" y_RecordReader_failEscape y_RecordReader_failEscape ∈ lw_tbl := List.mem_append_left _ (List.mem_of_getElem? (i := 14) (by decide +kernel))
theorem ks_15 : Cond.selects "SchemaRecords$RecordReader" y_RecordReader_readPlain y_RecordReader_readPlain ∈ lw_tbl := List.mem_append_left _ (List.mem_of_getElem? (i := 15) (by decide +kernel))
theorem ks_16 : Cond.selects "SchemaRecords$NodeRow" y_NodeRow_isOpen y_NodeRow_isOpen ∈ lw_tbl := List.mem_append_left _ (List.mem_of_getElem? (i := 16) (by decide +kernel))
theorem ks_17 : Cond.selects "SchemaRecords$RecordWriter" y_RecordWriter_putBetween y_RecordWriter_putBetween ∈ lw_tbl := List.mem_append_left _ (List.mem_of_getElem? (i := 17) (by decide +kernel))
theorem ks_18 : Cond.selects "SchemaRecords$RecordWriter" y_RecordWriter_putClosing y_RecordWriter_putClosing ∈ lw_tbl := List.mem_append_left _ (List.mem_of_getElem? (i := 18) (by decide +kernel))
theorem ks_19 : Cond.selects "SchemaRecords$RecordWriter" y_RecordWriter_putBytes y_RecordWriter_putBytes ∈ lw_tbl := List.mem_append_left _ (List.mem_of_getElem? (i := 19) (by decide +kernel))
theorem ks_20 : Cond.selects "SchemaRecords$RecordWriter" y_RecordWriter_putLeaf y_RecordWriter_putLeaf ∈ lw_tbl := List.mem_append_left _ (List.mem_of_getElem? (i := 20) (by decide +kernel))
theorem ks_21 : Cond.selects "SchemaRecords$RecordWriter" y_RecordWriter_putText y_RecordWriter_putText ∈ lw_tbl := List.mem_append_left _ (List.mem_of_getElem? (i := 21) (by decide +kernel))
theorem ks_22 : Cond.selects "SchemaRecords$RecordWriter" y_RecordWriter_putTextByte y_RecordWriter_putTextByte ∈ lw_tbl := List.mem_append_left _ (List.mem_of_getElem? (i := 22) (by decide +kernel))
theorem ks_23 : Cond.selects "SchemaRecords$RecordWriter" y_RecordWriter_putWord y_RecordWriter_putWord ∈ lw_tbl := List.mem_append_left _ (List.mem_of_getElem? (i := 23) (by decide +kernel))
theorem ks_24 : Cond.selects "SchemaRecords$RecordWriter" y_RecordWriter_putNumber y_RecordWriter_putNumber ∈ lw_tbl := List.mem_append_left _ (List.mem_of_getElem? (i := 24) (by decide +kernel))
theorem ks_25 : Cond.selects "SchemaRecordsModel" y_M_takes y_M_takes ∈ lw_tbl := List.mem_append_left _ (List.mem_of_getElem? (i := 25) (by decide +kernel))
theorem ks_26 : Cond.selects "SchemaRecordsModel" y_M_readField y_M_readField ∈ lw_tbl := List.mem_append_left _ (List.mem_of_getElem? (i := 26) (by decide +kernel))
theorem ks_27 : Cond.selects "SchemaRecordsModel" y_M_blanks y_M_blanks ∈ lw_tbl := List.mem_append_left _ (List.mem_of_getElem? (i := 27) (by decide +kernel))
theorem ks_28 : Cond.selects "SchemaRecordsModel" y_M_look y_M_look ∈ lw_tbl := List.mem_append_left _ (List.mem_of_getElem? (i := 28) (by decide +kernel))
theorem ks_29 : Cond.selects "SchemaRecordsModel" y_M_takesWord y_M_takesWord ∈ lw_tbl := List.mem_append_left _ (List.mem_of_getElem? (i := 29) (by decide +kernel))
theorem ks_30 : Cond.selects "SchemaRecordsModel" y_M_isWord y_M_isWord ∈ lw_tbl := List.mem_append_left _ (List.mem_of_getElem? (i := 30) (by decide +kernel))
theorem ks_31 : Cond.selects "SchemaRecordsModel" y_M_word y_M_word ∈ lw_tbl := List.mem_append_left _ (List.mem_of_getElem? (i := 31) (by decide +kernel))
theorem ks_32 : Cond.selects "SchemaRecordsModel" y_M_fail y_M_fail ∈ lw_tbl := List.mem_append_left _ (List.mem_of_getElem? (i := 32) (by decide +kernel))
theorem ks_33 : Cond.selects "SchemaRecordsModel" y_M_wantSign y_M_wantSign ∈ lw_tbl := List.mem_append_left _ (List.mem_of_getElem? (i := 33) (by decide +kernel))
theorem ks_34 : Cond.selects "SchemaRecordsModel" y_M_takesSign y_M_takesSign ∈ lw_tbl := List.mem_append_left _ (List.mem_of_getElem? (i := 34) (by decide +kernel))
theorem ks_35 : Cond.selects "SchemaRecordsModel" y_M_empty y_M_empty ∈ lw_tbl := List.mem_append_left _ (List.mem_of_getElem? (i := 35) (by decide +kernel))
theorem ks_36 : Cond.selects "SchemaRecordsModel" y_M_isField y_M_isField ∈ lw_tbl := List.mem_append_left _ (List.mem_of_getElem? (i := 36) (by decide +kernel))
theorem ks_37 : Cond.selects "SchemaRecordsModel" y_M_level y_M_level ∈ lw_tbl := List.mem_append_left _ (List.mem_of_getElem? (i := 37) (by decide +kernel))
theorem ks_38 : Cond.selects "SchemaRecordsModel" y_M_named y_M_named ∈ lw_tbl := List.mem_append_left _ (List.mem_of_getElem? (i := 38) (by decide +kernel))
theorem ks_39 : Cond.selects "SchemaRecordsModel" y_M_readGroup y_M_readGroup ∈ lw_tbl := List.mem_append_left _ (List.mem_of_getElem? (i := 39) (by decide +kernel))
theorem ks_40 : Cond.selects "SchemaRecordsModel" y_M_end y_M_end ∈ lw_tbl := List.mem_append_left _ (List.mem_of_getElem? (i := 40) (by decide +kernel))
theorem ks_41 : Cond.selects "SchemaRecordsModel" y_M_misses y_M_misses ∈ lw_tbl := List.mem_append_left _ (List.mem_of_getElem? (i := 41) (by decide +kernel))
theorem ks_42 : Cond.selects "SchemaRecordsModel" y_M_readRow y_M_readRow ∈ lw_tbl := List.mem_append_left _ (List.mem_of_getElem? (i := 42) (by decide +kernel))
theorem ks_43 : Cond.selects "SchemaRecordsModel" y_M_readValue y_M_readValue ∈ lw_tbl := List.mem_append_left _ (List.mem_of_getElem? (i := 43) (by decide +kernel))
theorem ks_44 : Cond.selects "SchemaRecordsModel" y_M_node y_M_node ∈ lw_tbl := List.mem_append_left _ (List.mem_of_getElem? (i := 44) (by decide +kernel))
theorem ks_45 : Cond.selects "SchemaRecordsModel" y_M_readText y_M_readText ∈ lw_tbl := List.mem_append_left _ (List.mem_of_getElem? (i := 45) (by decide +kernel))
theorem ks_46 : Cond.selects "SchemaRecordsModel" y_M_behind y_M_behind ∈ lw_tbl := List.mem_append_left _ (List.mem_of_getElem? (i := 46) (by decide +kernel))
theorem ks_47 : Cond.selects "SchemaRecordsModel" y_M_say y_M_say ∈ lw_tbl := List.mem_append_left _ (List.mem_of_getElem? (i := 47) (by decide +kernel))
theorem ks_48 : Cond.selects "SchemaRecordsModel" y_M_readNumber y_M_readNumber ∈ lw_tbl := List.mem_append_left _ (List.mem_of_getElem? (i := 48) (by decide +kernel))
theorem ks_49 : Cond.selects "SchemaRecordsModel" y_M_may y_M_may ∈ lw_tbl := List.mem_append_left _ (List.mem_of_getElem? (i := 49) (by decide +kernel))
theorem ks_50 : Cond.selects "SchemaRecordsModel" y_M_isNode y_M_isNode ∈ lw_tbl := List.mem_append_left _ (List.mem_of_getElem? (i := 50) (by decide +kernel))
theorem ks_51 : Cond.selects "SchemaRecordsModel" y_M_whole y_M_whole ∈ lw_tbl := List.mem_append_left _ (List.mem_of_getElem? (i := 51) (by decide +kernel))
theorem ks_52 : Cond.selects "SchemaRecordsModel" y_M_putGroup y_M_putGroup ∈ lw_tbl := List.mem_append_left _ (List.mem_of_getElem? (i := 52) (by decide +kernel))
theorem ks_53 : Cond.selects "SchemaRecordsModel" y_M_put y_M_put ∈ lw_tbl := List.mem_append_left _ (List.mem_of_getElem? (i := 53) (by decide +kernel))
theorem ks_54 : Cond.selects "SchemaRecordsModel" y_M_putValue y_M_putValue ∈ lw_tbl := List.mem_append_left _ (List.mem_of_getElem? (i := 54) (by decide +kernel))
theorem ks_55 : Cond.selects "SchemaRecordsModel" y_M_putText y_M_putText ∈ lw_tbl := List.mem_append_left _ (List.mem_of_getElem? (i := 55) (by decide +kernel))
theorem ks_56 : Cond.selects "SchemaRecordsModel" y_M_putHex y_M_putHex ∈ lw_tbl := List.mem_append_left _ (List.mem_of_getElem? (i := 56) (by decide +kernel))
theorem ks_57 : Cond.selects "SchemaRecordsModel" y_M_putWord y_M_putWord ∈ lw_tbl := List.mem_append_left _ (List.mem_of_getElem? (i := 57) (by decide +kernel))
theorem ks_58 : Cond.selects "SchemaRecordsModel" y_M_putNumber y_M_putNumber ∈ lw_tbl := List.mem_append_left _ (List.mem_of_getElem? (i := 58) (by decide +kernel))
/-- booleans of the machine -/
def zb (b : Bool) : Int32 := if b = true then 1 else 0
theorem zb_f {b : Bool} (h : zb b = 0) : b = false := by
  cases b with
  | false => rfl
  | true => exact absurd h (by decide)
theorem zb_t {b : Bool} (h : ¬ zb b = 0) : b = true := by
  cases b with
  | false => exact absurd (by decide) h
  | true => rfl
theorem zb_n (b : Bool) : narrow .boolean (.int (zb b)) = .int (zb b) := by cases b <;> rfl
theorem zb_1 {b : Bool} (h : b = true) : zb b = 1 := by rw [h]; rfl
theorem zb_0 {b : Bool} (h : b = false) : zb b = 0 := by rw [h]; rfl
theorem z_sw (x : Int32) (n : Nat) (_ : 0 < n) : (x.toInt < 0 ∨ (n : Int) ≤ x.toInt) ∨ ∃ j : Nat, j < n ∧ x.toInt = (j : Int) := by
  by_cases h1 : x.toInt < 0
  · exact Or.inl (Or.inl h1)
  · by_cases h2 : (n : Int) ≤ x.toInt
    · exact Or.inl (Or.inr h2)
    · exact Or.inr ⟨x.toInt.toNat, by omega, by omega⟩
/-- the byte at p of a text of n bytes, -1 behind it -/
def bt (t : Nat → Nat) (n p : Nat) : Int32 := if p < n then nI (t p) else -1
theorem bt_in {t : Nat → Nat} {n p : Nat} (h : p < n) : bt t n p = nI (t p) := if_pos h
theorem bt_out {t : Nat → Nat} {n p : Nat} (h : ¬ p < n) : bt t n p = -1 := if_neg h
/-- the same at any int -/
def bz (t : Nat → Nat) (n : Nat) (k : Int32) : Int32 := if k < 0 then -1 else bt t n k.toNatClampNeg
theorem bz_n {t : Nat → Nat} {n k : Nat} (h : k < 2 ^ 31) : bz t n (nI k) = bt t n k := by
  unfold bz
  rw [if_neg (nI_pos h), nI_clamp h]
def isBl (b : Nat) : Bool := b == 32 || b == 10
def isLet (c : Int32) : Bool := (decide (97 ≤ c) && decide (c ≤ 122)) || (decide (65 ≤ c) && decide (c ≤ 90))
def isDig (c : Int32) : Bool := decide (48 ≤ c) && decide (c ≤ 57)
def isWd (c : Int32) : Bool := isLet c || isDig c || decide (c = 95)
def letN (b : Nat) : Bool := (decide (97 ≤ b) && decide (b ≤ 122)) || (decide (65 ≤ b) && decide (b ≤ 90))
def digN (b : Nat) : Bool := decide (48 ≤ b) && decide (b ≤ 57)
def wdN (b : Nat) : Bool := letN b || digN b || decide (b = 95)
theorem by_let : ∀ b, b < 256 → isLet (nI b) = letN b ∧ isLet (sb_b b) = letN b := by decide +kernel
theorem by_dig : ∀ b, b < 256 → isDig (nI b) = digN b ∧ isDig (sb_b b) = digN b := by decide +kernel
theorem by_wd : ∀ b, b < 256 → isWd (nI b) = wdN b ∧ isWd (sb_b b) = wdN b := by decide +kernel
theorem by_bl : ∀ b, b < 256 → ((decide (sb_b b = 32) || decide (sb_b b = 10)) = isBl b) := by decide +kernel
/-- over blanks -/
def skR (t : Nat → Nat) : Nat → Nat → Nat
  | 0, p => p
  | r + 1, p => if isBl (t p) = true then skR t r (p + 1) else p
def sk (t : Nat → Nat) (n p : Nat) : Nat := skR t (n - p) p
theorem sk_step {t : Nat → Nat} {n p : Nat} (h : p < n) (hb : isBl (t p) = true) : sk t n p = sk t n (p + 1) := by
  unfold sk
  rw [show n - p = (n - (p + 1)) + 1 by omega]
  simp only [skR, if_pos hb]
theorem sk_stop {t : Nat → Nat} {n p : Nat} (hb : p < n → isBl (t p) = false) : sk t n p = p := by
  unfold sk
  cases h : n - p with
  | zero => rfl
  | succ r => simp only [skR]; rw [if_neg (by rw [hb (by omega)]; decide)]
theorem skR_ge (t : Nat → Nat) : ∀ r p, p ≤ skR t r p ∧ skR t r p ≤ p + r := by
  intro r
  induction r with
  | zero => intro p; exact ⟨Nat.le_refl _, Nat.le_refl _⟩
  | succ r ih =>
    intro p
    simp only [skR]
    split
    · have := ih (p + 1); omega
    · omega
theorem sk_ge (t : Nat → Nat) (n p : Nat) : p ≤ sk t n p := (skR_ge t _ p).1
theorem sk_le {t : Nat → Nat} {n p : Nat} (h : p ≤ n) : sk t n p ≤ n := by
  have := (skR_ge t (n - p) p).2
  unfold sk
  omega
/-- the end of the word that p is in -/
def weR (t : Nat → Nat) : Nat → Nat → Nat
  | 0, p => p
  | r + 1, p => if wdN (t p) = true then weR t r (p + 1) else p
def we (t : Nat → Nat) (n p : Nat) : Nat := weR t (n - p) p
theorem we_step {t : Nat → Nat} {n p : Nat} (h : p < n) (hb : wdN (t p) = true) : we t n p = we t n (p + 1) := by
  unfold we
  rw [show n - p = (n - (p + 1)) + 1 by omega]
  simp only [weR, if_pos hb]
theorem we_stop {t : Nat → Nat} {n p : Nat} (hb : p < n → wdN (t p) = false) : we t n p = p := by
  unfold we
  cases h : n - p with
  | zero => rfl
  | succ r => simp only [weR]; rw [if_neg (by rw [hb (by omega)]; decide)]
theorem weR_ge (t : Nat → Nat) : ∀ r p, p ≤ weR t r p ∧ weR t r p ≤ p + r := by
  intro r
  induction r with
  | zero => intro p; exact ⟨Nat.le_refl _, Nat.le_refl _⟩
  | succ r ih =>
    intro p
    simp only [weR]
    split
    · have := ih (p + 1); omega
    · omega
theorem we_ge (t : Nat → Nat) (n p : Nat) : p ≤ we t n p := (weR_ge t _ p).1
theorem we_le {t : Nat → Nat} {n p : Nat} (h : p ≤ n) : we t n p ≤ n := by
  have := (weR_ge t (n - p) p).2
  unfold we
  omega

/-- the premises of the start, in a row -/
def n9_l : List Cond := flatC (Jvm.Cond.and given_1 narrow_1)
def n9_t : Nat → Term := fun k => match k with
  | 0 => .string "SchemaRecords$SchemaReader" 80
  | 1 => .string "SchemaRecords$SchemaReader" 86
  | 2 => .string "SchemaRecords$SchemaReader" 88
  | 3 => .string "SchemaRecords$SchemaReader" 90
  | 4 => .string "SchemaRecords$SchemaReader" 92
  | 5 => .string "SchemaRecords$SchemaReader" 94
  | 6 => .string "SchemaRecords$SchemaReader" 96
  | 7 => .string "SchemaRecords$SchemaReader" 97
  | 8 => .string "SchemaRecords$RecordReader" 133
  | 9 => .string "SchemaRecords$RecordReader" 139
  | _ => .string "SchemaRecords$RecordWriter" 119
theorem n9_ex {args : Array Value} {s : State} (hs : ∀ w ∈ n9_l, w.before args s = true) : ∀ i, i < 11 → (Cond.exactly (n9_t i) "java/lang/String").before args s = true := by
  intro i hi
  rcases (show i = 0 ∨ i = 1 ∨ i = 2 ∨ i = 3 ∨ i = 4 ∨ i = 5 ∨ i = 6 ∨ i = 7 ∨ i = 8 ∨ i = 9 ∨ i = 10 by omega) with rfl | rfl | rfl | rfl | rfl | rfl | rfl | rfl | rfl | rfl | rfl
  · exact hs _ (List.mem_of_getElem? (i := 12) (by decide +kernel))
  · exact hs _ (List.mem_of_getElem? (i := 24) (by decide +kernel))
  · exact hs _ (List.mem_of_getElem? (i := 37) (by decide +kernel))
  · exact hs _ (List.mem_of_getElem? (i := 51) (by decide +kernel))
  · exact hs _ (List.mem_of_getElem? (i := 62) (by decide +kernel))
  · exact hs _ (List.mem_of_getElem? (i := 73) (by decide +kernel))
  · exact hs _ (List.mem_of_getElem? (i := 86) (by decide +kernel))
  · exact hs _ (List.mem_of_getElem? (i := 100) (by decide +kernel))
  · exact hs _ (List.mem_of_getElem? (i := 116) (by decide +kernel))
  · exact hs _ (List.mem_of_getElem? (i := 132) (by decide +kernel))
  · exact hs _ (List.mem_of_getElem? (i := 150) (by decide +kernel))
theorem n9_co {args : Array Value} {s : State} (hs : ∀ w ∈ n9_l, w.before args s = true) : ∀ i, i < 11 → (Cond.eq (.field (n9_t i) "java/lang/String" "coder" "B") (.int 0)).before args s = true := by
  intro i hi
  rcases (show i = 0 ∨ i = 1 ∨ i = 2 ∨ i = 3 ∨ i = 4 ∨ i = 5 ∨ i = 6 ∨ i = 7 ∨ i = 8 ∨ i = 9 ∨ i = 10 by omega) with rfl | rfl | rfl | rfl | rfl | rfl | rfl | rfl | rfl | rfl | rfl
  · exact hs _ (List.mem_of_getElem? (i := 13) (by decide +kernel))
  · exact hs _ (List.mem_of_getElem? (i := 25) (by decide +kernel))
  · exact hs _ (List.mem_of_getElem? (i := 38) (by decide +kernel))
  · exact hs _ (List.mem_of_getElem? (i := 52) (by decide +kernel))
  · exact hs _ (List.mem_of_getElem? (i := 63) (by decide +kernel))
  · exact hs _ (List.mem_of_getElem? (i := 74) (by decide +kernel))
  · exact hs _ (List.mem_of_getElem? (i := 87) (by decide +kernel))
  · exact hs _ (List.mem_of_getElem? (i := 101) (by decide +kernel))
  · exact hs _ (List.mem_of_getElem? (i := 117) (by decide +kernel))
  · exact hs _ (List.mem_of_getElem? (i := 133) (by decide +kernel))
  · exact hs _ (List.mem_of_getElem? (i := 151) (by decide +kernel))
theorem n9_ar {args : Array Value} {s : State} (hs : ∀ w ∈ n9_l, w.before args s = true) : ∀ i, i < 11 → (Cond.arrayOf (.field (n9_t i) "java/lang/String" "value" "[B") .byte).before args s = true := by
  intro i hi
  rcases (show i = 0 ∨ i = 1 ∨ i = 2 ∨ i = 3 ∨ i = 4 ∨ i = 5 ∨ i = 6 ∨ i = 7 ∨ i = 8 ∨ i = 9 ∨ i = 10 by omega) with rfl | rfl | rfl | rfl | rfl | rfl | rfl | rfl | rfl | rfl | rfl
  · exact hs _ (List.mem_of_getElem? (i := 14) (by decide +kernel))
  · exact hs _ (List.mem_of_getElem? (i := 26) (by decide +kernel))
  · exact hs _ (List.mem_of_getElem? (i := 39) (by decide +kernel))
  · exact hs _ (List.mem_of_getElem? (i := 53) (by decide +kernel))
  · exact hs _ (List.mem_of_getElem? (i := 64) (by decide +kernel))
  · exact hs _ (List.mem_of_getElem? (i := 75) (by decide +kernel))
  · exact hs _ (List.mem_of_getElem? (i := 88) (by decide +kernel))
  · exact hs _ (List.mem_of_getElem? (i := 102) (by decide +kernel))
  · exact hs _ (List.mem_of_getElem? (i := 118) (by decide +kernel))
  · exact hs _ (List.mem_of_getElem? (i := 134) (by decide +kernel))
  · exact hs _ (List.mem_of_getElem? (i := 152) (by decide +kernel))
theorem n9_le {args : Array Value} {s : State} (hs : ∀ w ∈ n9_l, w.before args s = true) : ∀ i, i < 11 → (Cond.eq (.length (.field (n9_t i) "java/lang/String" "value" "[B")) (.int (Int32.ofNat (z_len.getD i 0)))).before args s = true := by
  intro i hi
  rcases (show i = 0 ∨ i = 1 ∨ i = 2 ∨ i = 3 ∨ i = 4 ∨ i = 5 ∨ i = 6 ∨ i = 7 ∨ i = 8 ∨ i = 9 ∨ i = 10 by omega) with rfl | rfl | rfl | rfl | rfl | rfl | rfl | rfl | rfl | rfl | rfl
  · exact hs _ (List.mem_of_getElem? (i := 15) (by decide +kernel))
  · exact hs _ (List.mem_of_getElem? (i := 27) (by decide +kernel))
  · exact hs _ (List.mem_of_getElem? (i := 40) (by decide +kernel))
  · exact hs _ (List.mem_of_getElem? (i := 54) (by decide +kernel))
  · exact hs _ (List.mem_of_getElem? (i := 65) (by decide +kernel))
  · exact hs _ (List.mem_of_getElem? (i := 76) (by decide +kernel))
  · exact hs _ (List.mem_of_getElem? (i := 89) (by decide +kernel))
  · exact hs _ (List.mem_of_getElem? (i := 103) (by decide +kernel))
  · exact hs _ (List.mem_of_getElem? (i := 119) (by decide +kernel))
  · exact hs _ (List.mem_of_getElem? (i := 135) (by decide +kernel))
  · exact hs _ (List.mem_of_getElem? (i := 153) (by decide +kernel))
theorem n9_el {args : Array Value} {s : State} (hs : ∀ w ∈ n9_l, w.before args s = true) : ∀ i, i < 11 → ∀ j, j < z_len.getD i 0 → (Cond.eq (.elem (.field (n9_t i) "java/lang/String" "value" "[B") (.int (Int32.ofNat j))) (.int ((z_byt.getD i []).getD j 0))).before args s = true := by
  intro i hi
  rcases (show i = 0 ∨ i = 1 ∨ i = 2 ∨ i = 3 ∨ i = 4 ∨ i = 5 ∨ i = 6 ∨ i = 7 ∨ i = 8 ∨ i = 9 ∨ i = 10 by omega) with rfl | rfl | rfl | rfl | rfl | rfl | rfl | rfl | rfl | rfl | rfl
  · intro j hj
    have hj : j < 8 := hj
    rcases (show j = 0 ∨ j = 1 ∨ j = 2 ∨ j = 3 ∨ j = 4 ∨ j = 5 ∨ j = 6 ∨ j = 7 by omega) with rfl | rfl | rfl | rfl | rfl | rfl | rfl | rfl
    · exact hs _ (List.mem_of_getElem? (i := 16) (by decide +kernel))
    · exact hs _ (List.mem_of_getElem? (i := 17) (by decide +kernel))
    · exact hs _ (List.mem_of_getElem? (i := 18) (by decide +kernel))
    · exact hs _ (List.mem_of_getElem? (i := 19) (by decide +kernel))
    · exact hs _ (List.mem_of_getElem? (i := 20) (by decide +kernel))
    · exact hs _ (List.mem_of_getElem? (i := 21) (by decide +kernel))
    · exact hs _ (List.mem_of_getElem? (i := 22) (by decide +kernel))
    · exact hs _ (List.mem_of_getElem? (i := 23) (by decide +kernel))
  · intro j hj
    have hj : j < 8 := hj
    rcases (show j = 0 ∨ j = 1 ∨ j = 2 ∨ j = 3 ∨ j = 4 ∨ j = 5 ∨ j = 6 ∨ j = 7 by omega) with rfl | rfl | rfl | rfl | rfl | rfl | rfl | rfl
    · exact hs _ (List.mem_of_getElem? (i := 28) (by decide +kernel))
    · exact hs _ (List.mem_of_getElem? (i := 29) (by decide +kernel))
    · exact hs _ (List.mem_of_getElem? (i := 30) (by decide +kernel))
    · exact hs _ (List.mem_of_getElem? (i := 31) (by decide +kernel))
    · exact hs _ (List.mem_of_getElem? (i := 32) (by decide +kernel))
    · exact hs _ (List.mem_of_getElem? (i := 33) (by decide +kernel))
    · exact hs _ (List.mem_of_getElem? (i := 34) (by decide +kernel))
    · exact hs _ (List.mem_of_getElem? (i := 35) (by decide +kernel))
  · intro j hj
    have hj : j < 8 := hj
    rcases (show j = 0 ∨ j = 1 ∨ j = 2 ∨ j = 3 ∨ j = 4 ∨ j = 5 ∨ j = 6 ∨ j = 7 by omega) with rfl | rfl | rfl | rfl | rfl | rfl | rfl | rfl
    · exact hs _ (List.mem_of_getElem? (i := 41) (by decide +kernel))
    · exact hs _ (List.mem_of_getElem? (i := 42) (by decide +kernel))
    · exact hs _ (List.mem_of_getElem? (i := 43) (by decide +kernel))
    · exact hs _ (List.mem_of_getElem? (i := 44) (by decide +kernel))
    · exact hs _ (List.mem_of_getElem? (i := 45) (by decide +kernel))
    · exact hs _ (List.mem_of_getElem? (i := 46) (by decide +kernel))
    · exact hs _ (List.mem_of_getElem? (i := 47) (by decide +kernel))
    · exact hs _ (List.mem_of_getElem? (i := 48) (by decide +kernel))
  · intro j hj
    have hj : j < 4 := hj
    rcases (show j = 0 ∨ j = 1 ∨ j = 2 ∨ j = 3 by omega) with rfl | rfl | rfl | rfl
    · exact hs _ (List.mem_of_getElem? (i := 55) (by decide +kernel))
    · exact hs _ (List.mem_of_getElem? (i := 56) (by decide +kernel))
    · exact hs _ (List.mem_of_getElem? (i := 57) (by decide +kernel))
    · exact hs _ (List.mem_of_getElem? (i := 58) (by decide +kernel))
  · intro j hj
    have hj : j < 3 := hj
    rcases (show j = 0 ∨ j = 1 ∨ j = 2 by omega) with rfl | rfl | rfl
    · exact hs _ (List.mem_of_getElem? (i := 66) (by decide +kernel))
    · exact hs _ (List.mem_of_getElem? (i := 67) (by decide +kernel))
    · exact hs _ (List.mem_of_getElem? (i := 68) (by decide +kernel))
  · intro j hj
    have hj : j < 4 := hj
    rcases (show j = 0 ∨ j = 1 ∨ j = 2 ∨ j = 3 by omega) with rfl | rfl | rfl | rfl
    · exact hs _ (List.mem_of_getElem? (i := 77) (by decide +kernel))
    · exact hs _ (List.mem_of_getElem? (i := 78) (by decide +kernel))
    · exact hs _ (List.mem_of_getElem? (i := 79) (by decide +kernel))
    · exact hs _ (List.mem_of_getElem? (i := 80) (by decide +kernel))
  · intro j hj
    have hj : j < 4 := hj
    rcases (show j = 0 ∨ j = 1 ∨ j = 2 ∨ j = 3 by omega) with rfl | rfl | rfl | rfl
    · exact hs _ (List.mem_of_getElem? (i := 90) (by decide +kernel))
    · exact hs _ (List.mem_of_getElem? (i := 91) (by decide +kernel))
    · exact hs _ (List.mem_of_getElem? (i := 92) (by decide +kernel))
    · exact hs _ (List.mem_of_getElem? (i := 93) (by decide +kernel))
  · intro j hj
    have hj : j < 5 := hj
    rcases (show j = 0 ∨ j = 1 ∨ j = 2 ∨ j = 3 ∨ j = 4 by omega) with rfl | rfl | rfl | rfl | rfl
    · exact hs _ (List.mem_of_getElem? (i := 104) (by decide +kernel))
    · exact hs _ (List.mem_of_getElem? (i := 105) (by decide +kernel))
    · exact hs _ (List.mem_of_getElem? (i := 106) (by decide +kernel))
    · exact hs _ (List.mem_of_getElem? (i := 107) (by decide +kernel))
    · exact hs _ (List.mem_of_getElem? (i := 108) (by decide +kernel))
  · intro j hj
    have hj : j < 4 := hj
    rcases (show j = 0 ∨ j = 1 ∨ j = 2 ∨ j = 3 by omega) with rfl | rfl | rfl | rfl
    · exact hs _ (List.mem_of_getElem? (i := 120) (by decide +kernel))
    · exact hs _ (List.mem_of_getElem? (i := 121) (by decide +kernel))
    · exact hs _ (List.mem_of_getElem? (i := 122) (by decide +kernel))
    · exact hs _ (List.mem_of_getElem? (i := 123) (by decide +kernel))
  · intro j hj
    have hj : j < 5 := hj
    rcases (show j = 0 ∨ j = 1 ∨ j = 2 ∨ j = 3 ∨ j = 4 by omega) with rfl | rfl | rfl | rfl | rfl
    · exact hs _ (List.mem_of_getElem? (i := 136) (by decide +kernel))
    · exact hs _ (List.mem_of_getElem? (i := 137) (by decide +kernel))
    · exact hs _ (List.mem_of_getElem? (i := 138) (by decide +kernel))
    · exact hs _ (List.mem_of_getElem? (i := 139) (by decide +kernel))
    · exact hs _ (List.mem_of_getElem? (i := 140) (by decide +kernel))
  · intro j hj
    have hj : j < 2 := hj
    rcases (show j = 0 ∨ j = 1 by omega) with rfl | rfl
    · exact hs _ (List.mem_of_getElem? (i := 154) (by decide +kernel))
    · exact hs _ (List.mem_of_getElem? (i := 155) (by decide +kernel))
theorem n9_lt {args : Array Value} {s : State} (hs : ∀ w ∈ n9_l, w.before args s = true) : ∀ j, j < 11 → ∀ i, i < j → (Cond.not (Cond.eq (n9_t i) (n9_t j))).before args s = true := by
  intro j hj
  rcases (show j = 0 ∨ j = 1 ∨ j = 2 ∨ j = 3 ∨ j = 4 ∨ j = 5 ∨ j = 6 ∨ j = 7 ∨ j = 8 ∨ j = 9 ∨ j = 10 by omega) with rfl | rfl | rfl | rfl | rfl | rfl | rfl | rfl | rfl | rfl | rfl
  · intro i hi
    exact absurd hi (Nat.not_lt_zero _)
  · intro i hi
    rcases (show i = 0 by omega) with rfl
    · exact hs _ (List.mem_of_getElem? (i := 36) (by decide +kernel))
  · intro i hi
    rcases (show i = 0 ∨ i = 1 by omega) with rfl | rfl
    · exact hs _ (List.mem_of_getElem? (i := 49) (by decide +kernel))
    · exact hs _ (List.mem_of_getElem? (i := 50) (by decide +kernel))
  · intro i hi
    rcases (show i = 0 ∨ i = 1 ∨ i = 2 by omega) with rfl | rfl | rfl
    · exact hs _ (List.mem_of_getElem? (i := 59) (by decide +kernel))
    · exact hs _ (List.mem_of_getElem? (i := 60) (by decide +kernel))
    · exact hs _ (List.mem_of_getElem? (i := 61) (by decide +kernel))
  · intro i hi
    rcases (show i = 0 ∨ i = 1 ∨ i = 2 ∨ i = 3 by omega) with rfl | rfl | rfl | rfl
    · exact hs _ (List.mem_of_getElem? (i := 69) (by decide +kernel))
    · exact hs _ (List.mem_of_getElem? (i := 70) (by decide +kernel))
    · exact hs _ (List.mem_of_getElem? (i := 71) (by decide +kernel))
    · exact hs _ (List.mem_of_getElem? (i := 72) (by decide +kernel))
  · intro i hi
    rcases (show i = 0 ∨ i = 1 ∨ i = 2 ∨ i = 3 ∨ i = 4 by omega) with rfl | rfl | rfl | rfl | rfl
    · exact hs _ (List.mem_of_getElem? (i := 81) (by decide +kernel))
    · exact hs _ (List.mem_of_getElem? (i := 82) (by decide +kernel))
    · exact hs _ (List.mem_of_getElem? (i := 83) (by decide +kernel))
    · exact hs _ (List.mem_of_getElem? (i := 84) (by decide +kernel))
    · exact hs _ (List.mem_of_getElem? (i := 85) (by decide +kernel))
  · intro i hi
    rcases (show i = 0 ∨ i = 1 ∨ i = 2 ∨ i = 3 ∨ i = 4 ∨ i = 5 by omega) with rfl | rfl | rfl | rfl | rfl | rfl
    · exact hs _ (List.mem_of_getElem? (i := 94) (by decide +kernel))
    · exact hs _ (List.mem_of_getElem? (i := 95) (by decide +kernel))
    · exact hs _ (List.mem_of_getElem? (i := 96) (by decide +kernel))
    · exact hs _ (List.mem_of_getElem? (i := 97) (by decide +kernel))
    · exact hs _ (List.mem_of_getElem? (i := 98) (by decide +kernel))
    · exact hs _ (List.mem_of_getElem? (i := 99) (by decide +kernel))
  · intro i hi
    rcases (show i = 0 ∨ i = 1 ∨ i = 2 ∨ i = 3 ∨ i = 4 ∨ i = 5 ∨ i = 6 by omega) with rfl | rfl | rfl | rfl | rfl | rfl | rfl
    · exact hs _ (List.mem_of_getElem? (i := 109) (by decide +kernel))
    · exact hs _ (List.mem_of_getElem? (i := 110) (by decide +kernel))
    · exact hs _ (List.mem_of_getElem? (i := 111) (by decide +kernel))
    · exact hs _ (List.mem_of_getElem? (i := 112) (by decide +kernel))
    · exact hs _ (List.mem_of_getElem? (i := 113) (by decide +kernel))
    · exact hs _ (List.mem_of_getElem? (i := 114) (by decide +kernel))
    · exact hs _ (List.mem_of_getElem? (i := 115) (by decide +kernel))
  · intro i hi
    rcases (show i = 0 ∨ i = 1 ∨ i = 2 ∨ i = 3 ∨ i = 4 ∨ i = 5 ∨ i = 6 ∨ i = 7 by omega) with rfl | rfl | rfl | rfl | rfl | rfl | rfl | rfl
    · exact hs _ (List.mem_of_getElem? (i := 124) (by decide +kernel))
    · exact hs _ (List.mem_of_getElem? (i := 125) (by decide +kernel))
    · exact hs _ (List.mem_of_getElem? (i := 126) (by decide +kernel))
    · exact hs _ (List.mem_of_getElem? (i := 127) (by decide +kernel))
    · exact hs _ (List.mem_of_getElem? (i := 128) (by decide +kernel))
    · exact hs _ (List.mem_of_getElem? (i := 129) (by decide +kernel))
    · exact hs _ (List.mem_of_getElem? (i := 130) (by decide +kernel))
    · exact hs _ (List.mem_of_getElem? (i := 131) (by decide +kernel))
  · intro i hi
    rcases (show i = 0 ∨ i = 1 ∨ i = 2 ∨ i = 3 ∨ i = 4 ∨ i = 5 ∨ i = 6 ∨ i = 7 ∨ i = 8 by omega) with rfl | rfl | rfl | rfl | rfl | rfl | rfl | rfl | rfl
    · exact hs _ (List.mem_of_getElem? (i := 141) (by decide +kernel))
    · exact hs _ (List.mem_of_getElem? (i := 142) (by decide +kernel))
    · exact hs _ (List.mem_of_getElem? (i := 143) (by decide +kernel))
    · exact hs _ (List.mem_of_getElem? (i := 144) (by decide +kernel))
    · exact hs _ (List.mem_of_getElem? (i := 145) (by decide +kernel))
    · exact hs _ (List.mem_of_getElem? (i := 146) (by decide +kernel))
    · exact hs _ (List.mem_of_getElem? (i := 147) (by decide +kernel))
    · exact hs _ (List.mem_of_getElem? (i := 148) (by decide +kernel))
    · exact hs _ (List.mem_of_getElem? (i := 149) (by decide +kernel))
  · intro i hi
    rcases (show i = 0 ∨ i = 1 ∨ i = 2 ∨ i = 3 ∨ i = 4 ∨ i = 5 ∨ i = 6 ∨ i = 7 ∨ i = 8 ∨ i = 9 by omega) with rfl | rfl | rfl | rfl | rfl | rfl | rfl | rfl | rfl | rfl
    · exact hs _ (List.mem_of_getElem? (i := 156) (by decide +kernel))
    · exact hs _ (List.mem_of_getElem? (i := 157) (by decide +kernel))
    · exact hs _ (List.mem_of_getElem? (i := 158) (by decide +kernel))
    · exact hs _ (List.mem_of_getElem? (i := 159) (by decide +kernel))
    · exact hs _ (List.mem_of_getElem? (i := 160) (by decide +kernel))
    · exact hs _ (List.mem_of_getElem? (i := 161) (by decide +kernel))
    · exact hs _ (List.mem_of_getElem? (i := 162) (by decide +kernel))
    · exact hs _ (List.mem_of_getElem? (i := 163) (by decide +kernel))
    · exact hs _ (List.mem_of_getElem? (i := 164) (by decide +kernel))
    · exact hs _ (List.mem_of_getElem? (i := 165) (by decide +kernel))
theorem n9_eqR {args : Array Value} {s : State} {t u : Term} {a : Nat} (h : (Cond.eq t u).before args s = true) (ht : t.eval args s none [] s = some (.ref a)) : u.eval args s none [] s = some (.ref a) := by
  cases hv : u.eval args s none [] s with
  | none => simp [Cond.before, Cond.holds, Cond.value, ht, hv] at h
  | some w => cases w <;> simp [Cond.before, Cond.holds, Cond.value, ht, hv] at h ⊢ <;> exact h.symm
theorem n9_ne {args : Array Value} {s : State} (hs : ∀ w ∈ n9_l, w.before args s = true) : ∀ i j : Nat, i < 11 → j < 11 → i ≠ j → (Cond.not (Cond.eq (n9_t i) (n9_t j))).before args s = true ∨ (Cond.not (Cond.eq (n9_t j) (n9_t i))).before args s = true := by
  intro i j hi hj h
  by_cases z : i < j
  · exact Or.inl (n9_lt hs j hj i z)
  · exact Or.inr (n9_lt hs i hi j (by omega))
theorem n9_arr {args : Array Value} {s : State} {ty : FieldType} (h : (Cond.arrayClass ty).before args s = true) : ∃ cA : ClassId, ArrOfT s cA ty ∧ s.vm.findClass ("[" ++ ty.toString) = some cA := by
  obtain ⟨cA, kA, comp, h1, h2, h3⟩ := Cond.arrayClass_spec h
  exact ⟨cA, fun n z => ⟨(fun k q => by cases q), kA, h2, comp, h3⟩, h1⟩
theorem n9_ovr {args : Array Value} {s : State} {C : String} (h : (Cond.arrayOver (.object C)).before args s = true) : ∃ cA : ClassId, ArrOfT s cA (.object C) ∧ va_RA s cA (.object C) := by
  obtain ⟨comp, c, k, h1, h2, h3, h4, h5⟩ := Cond.arrayOver_spec h
  exact ⟨c, fun n z => ⟨(fun k q => by cases q), k, h3, comp, h4⟩, k, comp, h3, h4, h1, h5⟩
theorem n9_ovA {args : Array Value} {s : State} (h : (Cond.arrayOver (.array .int)).before args s = true) : ∃ cA : ClassId, ArrOfT s cA (.array .int) ∧ va_RA s cA (.array .int) := by
  obtain ⟨comp, c, k, h1, h2, h3, h4, h5⟩ := arrayOverA_spec h
  exact ⟨c, fun n z => ⟨(fun k q => by cases q), k, h3, comp, h4⟩, h5⟩
set_option maxHeartbeats 4000000 in
/-- what stands at the law's entry: the classes' numbers, the constants -/
theorem st_all {p : Program} {s : State} {m : MethodId} {meth : Method} {c : Code} {b L : Nat} {xs : Nat → Int32} (C0 : lw_At p s m meth c b L xs) : ∃ g : z_G, va_K g.1 cls (ztys g) s ∧ z_E g (fun q : Nat => s.heap.size ≤ q) s s.heap := by
  obtain ⟨hx, hb, hr, hml, hown, hts, hX, hbl, hlocks, hgv⟩ := C0
  have hs : ∀ w ∈ n9_l, w.before #[Value.ref b] s = true := flat_of_before _ hgv
  have hA : ∀ a : Nat, a < s.heap.size → ¬ (fun q : Nat => s.heap.size ≤ q) a := fun a ha => Nat.not_le.mpr ha
  obtain ⟨c0, s0, kn0⟩ := u_known (C := R_X) (T := F_X) hts i_X (hts _ k_21)
  obtain ⟨c1, s1, kn1⟩ := u_known (C := R_Tape) (T := F_Tape) hts i_Tape (hts _ k_29)
  obtain ⟨c2, s2, kn2⟩ := u_known (C := R_ByteRow) (T := F_ByteRow) hts i_ByteRow (hts _ k_43)
  obtain ⟨c3, s3, kn3⟩ := u_known (C := R_Schema) (T := F_Schema) hts i_Schema (hts _ k_57)
  obtain ⟨c4, s4, kn4⟩ := u_known (C := R_Field) (T := F_Field) hts i_Field (hts _ k_394)
  obtain ⟨c5, s5, kn5⟩ := u_known (C := R_NodeRow) (T := F_NodeRow) hts i_NodeRow (hts _ k_84)
  obtain ⟨c6, s6, kn6⟩ := u_known (C := R_Node) (T := F_Node) hts i_Node (hts _ k_95)
  obtain ⟨c7, s7, kn7⟩ := u_known (C := R_Scanner) (T := F_Scanner) hts i_Scanner (hts _ k_183)
  obtain ⟨c8, s8, kn8⟩ := u_known (C := R_SchemaReader) (T := F_SchemaReader) hts i_SchemaReader (hts _ k_215)
  obtain ⟨c9, s9, kn9⟩ := u_known (C := R_RecordReader) (T := F_RecordReader) hts i_RecordReader (hts _ k_497)
  obtain ⟨c10, s10, kn10⟩ := u_known (C := R_RecordWriter) (T := F_RecordWriter) hts i_RecordWriter (hts _ k_684)
  obtain ⟨c11, s11, kn11⟩ := u_known (C := R_M) (T := F_M) hts i_M (hts _ k_763)
  obtain ⟨dC, dI, hKc⟩ : ∃ (dC : Nat → ClassId) (dI : Nat → Nat → Nat), ∀ (k : Nat) (q : vw_C), cls[k]? = some q → u_Kn s q.1 q.2.1 q.2.2 (dC k) (dI k) := by
    refine ⟨fun k => [c0, c1, c2, c3, c4, c5, c6, c7, c8, c9, c10, c11].getD k 0, fun k => [s0, s1, s2, s3, s4, s5, s6, s7, s8, s9, s10, s11].getD k (fun _ => 0), ?_⟩
    intro k q hq
    match k, hq with
    | 0, hq => cases hq; exact kn0
    | 1, hq => cases hq; exact kn1
    | 2, hq => cases hq; exact kn2
    | 3, hq => cases hq; exact kn3
    | 4, hq => cases hq; exact kn4
    | 5, hq => cases hq; exact kn5
    | 6, hq => cases hq; exact kn6
    | 7, hq => cases hq; exact kn7
    | 8, hq => cases hq; exact kn8
    | 9, hq => cases hq; exact kn9
    | 10, hq => cases hq; exact kn10
    | 11, hq => cases hq; exact kn11
    | k + 12, hq => simp [cls] at hq
  obtain ⟨a0, ar0, an0⟩ := n9_arr (hts _ k_41)
  obtain ⟨a1, ar1, an1⟩ := n9_arr (hts _ k_82)
  obtain ⟨a2, ar2, an2⟩ := n9_arr (hts _ k_865)
  obtain ⟨a3, ar3, an3⟩ := n9_ovr (hts _ k_63)
  obtain ⟨a4, ar4, an4⟩ := n9_ovr (hts _ k_90)
  obtain ⟨a5, ar5, an5⟩ := n9_ovA (hts _ k_769)
  obtain ⟨adK, adV, hS, hev⟩ := vk_Sof (N := 11) (tm := n9_t) (len := z_len) (byt := z_byt) (A := fun q : Nat => s.heap.size ≤ q) (by decide) (n9_ex hs) (n9_co hs) (n9_ar hs) (n9_le hs) (n9_el hs) (n9_ne hs) hA
  obtain ⟨t0, ht0, hT0⟩ := va_Tof (tm := .static "SchemaRecords" "NO_BYTES" "[B") (ty := .byte) (N := 0) (f := fun _ => .int 0) (A := fun q : Nat => s.heap.size ≤ q) (by decide) (hs _ (List.mem_of_getElem? (i := 5) (by decide +kernel))) (va_eqt (hs _ (List.mem_of_getElem? (i := 6) (by decide +kernel)))) (fun j hj => absurd hj (Nat.not_lt_zero _)) hA
  have e8 : (Term.string R_RecordWriter 94).eval #[Value.ref b] s none [] s = some (.ref (adK 8)) := n9_eqR (hs _ (List.mem_of_getElem? (i := 182) (by decide +kernel))) (hev 8 (by decide))
  have e9 : (Term.string R_RecordWriter 96).eval #[Value.ref b] s none [] s = some (.ref (adK 9)) := n9_eqR (hs _ (List.mem_of_getElem? (i := 203) (by decide +kernel))) (hev 9 (by decide))
  refine ⟨((dC, dI), (fun k => [a0, a1, a2, a3, a4, a5].getD k 0), fun k => if k = 0 then t0 else if k < 20 then adK (k - 1) else adV (k - 20)), ⟨hKc, fun k q hq => ?_⟩, ?_⟩
  · match k, hq with
    | 0, hq => cases hq; exact ⟨ar0, an0⟩
    | 1, hq => cases hq; exact ⟨ar1, an1⟩
    | 2, hq => cases hq; exact ⟨ar2, an2⟩
    | 3, hq => cases hq; exact ⟨ar3, an3⟩
    | 4, hq => cases hq; exact ⟨ar4, an4⟩
    | 5, hq => cases hq; exact ⟨ar5, an5⟩
    | k + 6, hq => simp [ztys] at hq
  · refine ⟨va_Zof (hts _ k_97) (hts _ k_1) ht0 hA, hT0, va_Zof (hts _ k_283) (hts _ k_10) (va_eqt (hs _ (List.mem_of_getElem? (i := 7) (by decide +kernel)))) hA, ?_, ⟨vk_R.of (hts _ k_269) (hev 0 (by decide)), vk_R.of (hts _ k_326) (hev 1 (by decide)), vk_R.of (hts _ k_327) (hev 2 (by decide)), vk_R.of (hts _ k_336) (hev 3 (by decide)), vk_R.of (hts _ k_337) (hev 4 (by decide)), vk_R.of (hts _ k_338) (hev 5 (by decide)), vk_R.of (hts _ k_339) (hev 6 (by decide)), vk_R.of (hts _ k_340) (hev 7 (by decide))⟩, ⟨vk_R.of (hts _ k_548) (hev 8 (by decide)), vk_R.of (hts _ k_550) (hev 9 (by decide)), vk_R.of (hts _ k_746) e8, vk_R.of (hts _ k_747) e9, vk_R.of (hts _ k_736) (hev 10 (by decide))⟩, fun w hw => ?_, va_AO.of (hts _ k_63), va_AO.of (hts _ k_90), va_Nw.of rfl (hts _ k_387), hts _ k_769, va_Zqof (hts _ k_303) (hts _ k_12) (hs _ (List.mem_of_getElem? (i := 8) (by decide +kernel))) hA⟩
    · refine ⟨fun i hi => ?_, fun i j hi hj e => hS.2 i j hi hj ?_⟩
      · have h9 := hS.1 i hi
        have e1 : (if 1 + i = 0 then t0 else if 1 + i < 20 then adK (1 + i - 1) else adV (1 + i - 20)) = adK i := by rw [if_neg (by omega), if_pos (by omega), show 1 + i - 1 = i by omega]
        have e2 : (if 20 + i = 0 then t0 else if 20 + i < 20 then adK (20 + i - 1) else adV (20 + i - 20)) = adV i := by rw [if_neg (by omega), if_neg (by omega), show 20 + i - 20 = i by omega]
        show va_O "java/lang/String" (if 1 + i = 0 then t0 else if 1 + i < 20 then adK (1 + i - 1) else adV (1 + i - 20)) _ _ _ ∧ va_OF "java/lang/String" "coder" "B" (.int 0) (if 1 + i = 0 then t0 else if 1 + i < 20 then adK (1 + i - 1) else adV (1 + i - 20)) _ _ _ ∧ va_OF "java/lang/String" "value" "[B" (.ref (if 20 + i = 0 then t0 else if 20 + i < 20 then adK (20 + i - 1) else adV (20 + i - 20))) (if 1 + i = 0 then t0 else if 1 + i < 20 then adK (1 + i - 1) else adV (1 + i - 20)) _ _ _ ∧ va_T .byte (if 20 + i = 0 then t0 else if 20 + i < 20 then adK (20 + i - 1) else adV (20 + i - 20)) _ _ _ _ _
        rw [e1, e2]
        exact h9
      · have e : (if 1 + i = 0 then t0 else if 1 + i < 20 then adK (1 + i - 1) else adV (1 + i - 20)) = (if 1 + j = 0 then t0 else if 1 + j < 20 then adK (1 + j - 1) else adV (1 + j - 20)) := e
        rw [if_neg (by omega), if_pos (by omega), if_neg (by omega), if_pos (by omega), show 1 + i - 1 = i by omega, show 1 + j - 1 = j by omega] at e
        exact e
    · have hw1 := List.mem_filter.mp hw
      have h1 := hts w hw1.1
      have h2 := hw1.2
      cases w with
      | fieldLinkNest a i b n d o => exact va_Nw.of rfl h1
      | methodLinkNest a i x o => exact va_Nw.of rfl h1
      | _ => exact absurd h2 (by simp [z_isN])
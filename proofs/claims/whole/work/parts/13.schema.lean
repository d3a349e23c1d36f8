/-- a field: kind, type, group, column, repetition, definition, name -/
abbrev Fld : Type := Int32 × Int32 × Int32 × Int32 × Int32 × Int32 × List Nat
abbrev fKi (F : Fld) : Int32 := F.1
abbrev fTy (F : Fld) : Int32 := F.2.1
abbrev fGr (F : Fld) : Int32 := F.2.2.1
abbrev fCo (F : Fld) : Int32 := F.2.2.2.1
abbrev fRe (F : Fld) : Int32 := F.2.2.2.2.1
abbrev fDe (F : Fld) : Int32 := F.2.2.2.2.2.1
abbrev fNm (F : Fld) : List Nat := F.2.2.2.2.2.2
/-- a schema: how many fields, the fields -/
abbrev Sch : Type := Nat × (Nat → Fld)
/-- how many required fields of a group there are among the first k -/
def rqC (F : Nat → Fld) (gr : Int32) : Nat → Nat
  | 0 => 0
  | k + 1 => rqC F gr k + (if fKi (F k) = 0 ∧ fGr (F k) = gr then 1 else 0)
def rq (S : Sch) (gr : Int32) : Nat := rqC S.2 gr S.1
/-- how many columns there are among the first k -/
def ccC (F : Nat → Fld) : Nat → Nat
  | 0 => 0
  | k + 1 => ccC F k + (if fTy (F k) = 4 then 0 else 1)
def cc (S : Sch) : Nat := ccC S.2 S.1
theorem rqC_le (F : Nat → Fld) (gr : Int32) : ∀ k, rqC F gr k ≤ k := by
  intro k
  induction k with
  | zero => exact Nat.le_refl _
  | succ k ih => simp only [rqC]; split <;> omega
theorem rq_le (S : Sch) (gr : Int32) : rq S gr ≤ S.1 := rqC_le _ _ _
/-- the cells of a schema of the role r at q -/
def SchP (g : z_G) (h : z_H) (r q : Nat) (S : Sch) (fa ca : Nat) (ad na : Nat → Nat) (ff : Nat → Option Nat) (cf : Nat → Int32) (nf : Nat → Nat → Int32) : Prop :=
  h q = some ((r, 0), .inr (3, [.ref fa, .ref ca, .int (nI S.1), .int (nI (cc S)), .int (nI (rq S (-1)))])) ∧
  h fa = some ((r, 1), .inl (g.2.1 3, 128, .inr (.inr (.inr (.inr ff))))) ∧
  h ca = some ((r, 2), .inl (g.2.1 1, 64, .inl cf)) ∧
  (∀ i, i < S.1 → ff i = some (ad i) ∧ h (ad i) = some ((r + 1, i), .inr (4, [.int (nI i), .int (fKi (S.2 i)), .int (fTy (S.2 i)), .int (fGr (S.2 i)), .ref (na i), .int (fCo (S.2 i)), .int (fRe (S.2 i)), .int (fDe (S.2 i)), .int (nI (rq S (nI i)))]))) ∧
  (∀ i, i < S.1 → h (na i) = some ((r + 2, i), .inl (g.2.1 0, (fNm (S.2 i)).length, .inl (nf i)))) ∧
  (∀ i, i < S.1 → (fNm (S.2 i)).length ≤ 16 ∧ ∀ k, k < (fNm (S.2 i)).length → (fNm (S.2 i)).getD k 0 < 128 ∧ nf i k = sb_b ((fNm (S.2 i)).getD k 0)) ∧
  (∀ i, i < S.1 → ¬ fTy (S.2 i) = 4 → fCo (S.2 i) = nI (ccC S.2 i) ∧ cf (ccC S.2 i) = nI i) ∧ S.1 ≤ 128 ∧ cc S ≤ 64
/-- the first place from f on, of r, where P holds -/
def fndR (P : Nat → Bool) : Nat → Nat → Int32
  | 0, _ => -1
  | r + 1, f => if P f = true then nI f else fndR P r (f + 1)
theorem fnd_step {P : Nat → Bool} {n f : Nat} (hf : f < n) (h : P f = false) : fndR P (n - f) f = fndR P (n - (f + 1)) (f + 1) := by
  rw [show n - f = (n - (f + 1)) + 1 by omega]
  simp only [fndR, h]
  rfl
theorem fnd_hit {P : Nat → Bool} {n f : Nat} (hf : f < n) (h : P f = true) : fndR P (n - f) f = nI f := by
  rw [show n - f = (n - (f + 1)) + 1 by omega]
  simp only [fndR, h]
  rfl
/-- the text's bytes from i to j are a field's name -/
def isNm (t : Nat → Nat) (i j : Nat) (F : Fld) : Bool := decide (j - i = (fNm F).length) && nmE t i (fun k => (fNm F).getD k 0) (fNm F).length
/-- the field of a group whose name the bytes are -/
def nmd (S : Sch) (gr : Int32) (t : Nat → Nat) (i j : Nat) : Int32 := fndR (fun f => decide (fGr (S.2 f) = gr) && isNm t i j (S.2 f)) (S.1 - 0) 0
/-- the field of a group, from f on, that a name means; none beyond a required one -/
def mntR (S : Sch) (gr : Int32) (t : Nat → Nat) (i j : Nat) : Nat → Nat → Int32
  | 0, _ => -1
  | r + 1, f => if fGr (S.2 f) = gr then (if isNm t i j (S.2 f) = true then nI f else if fKi (S.2 f) = 0 then -1 else mntR S gr t i j r (f + 1)) else mntR S gr t i j r (f + 1)
def mnt (S : Sch) (gr : Int32) (t : Nat → Nat) (i j first : Nat) : Int32 := mntR S gr t i j (S.1 - first) first
/-- whether a group has a required field from f on -/
def hrqR (S : Sch) (gr : Int32) : Nat → Nat → Bool
  | 0, _ => false
  | r + 1, f => (decide (fGr (S.2 f) = gr) && decide (fKi (S.2 f) = 0)) || hrqR S gr r (f + 1)
def hrq (S : Sch) (gr : Int32) (first : Nat) : Bool := hrqR S gr (S.1 - first) first

set_option maxHeartbeats 4000000 in
set_option maxRecDepth 100000 in
theorem c_Schema_fieldAt (l : Launch) (g : z_G) (h : z_H) {r q : Nat} {S : Sch} {fa ca : Nat} {ad na : Nat → Nat} {ff : Nat → Option Nat} {cf : Nat → Int32} {nf : Nat → Nat → Int32} {i : Nat}  (hS : SchP g h r q S fa ca ad na ff cf nf) (hi : i < S.1) : z_C l y_Schema_fieldAt prog_9_method_2_code 2 (Option.some (Jvm.ClassFile.FieldType.object "SchemaRecords$Field")) 0 0 0 0 g [.ref q, .int (nI i)] h (fun r h1 => r = some (.ref (ad i)) ∧ h = h1) := by
  refine z_C.of (by decide) (Nat.le_of_ble_eq_true rfl) (fun pg en s m below meth cd A ls hx hb hml hr hts hown hlocks hnm hK hE hA hw hl => ?_)
  have hl : lv_has ls 2 [(0, .ref q), (1, .int (nI i))] := hl
  obtain ⟨hq, hfa, hca, hfd, hnn, hnb, hcol, hsz, hcc⟩ := id hS
  have hrt := rq_le S (-1)
  refine lv_iload_n hx hb d_Schema_fieldAt_0 rfl (lv_at hl 1 rfl) ?_
  refine lv_if_lt (tgt := 21) hx hb d_Schema_fieldAt_1 (by decide) (fun c_1 => ?_) (fun c_1 => ?_)
  · -- 1: True
    have c_1 : i < 0 := (nI_ltI (a := i) (b := 0) (by omega) (by omega)).mp c_1
    omega
  · -- 1: False
    have c_1 : ¬ (i < 0) := fun z => c_1 ((nI_ltI (a := i) (b := 0) (by omega) (by omega)).mpr z)
    refine lv_iload_n hx hb d_Schema_fieldAt_4 rfl (lv_at hl 1 rfl) ?_
    refine lv_aload_n hx hb d_Schema_fieldAt_5 rfl (lv_at hl 0 rfl) ?_
    refine z_get hx hb hts (z_lay i_Schema) hown hK hw hq rfl 2 (by decide) (z_in k_66 rfl) (fun _ h9 => h9) rfl d_Schema_fieldAt_6 ?_
    refine lv_icmp_ge (tgt := 21) hx hb d_Schema_fieldAt_9 (by decide) (fun c_9 => ?_) (fun c_9 => ?_)
    · -- 9: True
      have c_9 : S.1 ≤ i := (nI_leI (a := S.1) (b := i) (by omega) (by omega)).mp c_9
      omega
    · -- 9: False
      have c_9 : ¬ (S.1 ≤ i) := fun z => c_9 ((nI_leI (a := S.1) (b := i) (by omega) (by omega)).mpr z)
      refine lv_iload_n hx hb d_Schema_fieldAt_12 rfl (lv_at hl 1 rfl) ?_
      refine lv_aload_n hx hb d_Schema_fieldAt_13 rfl (lv_at hl 0 rfl) ?_
      refine z_get hx hb hts (z_lay i_Schema) hown hK hw hq rfl 0 (by decide) (z_in k_64 rfl) (fun _ h9 => h9) rfl d_Schema_fieldAt_14 ?_
      refine z_alen hx hb hK hw hfa 3 rfl d_Schema_fieldAt_17 ?_
      refine lv_icmp_lt (tgt := 25) hx hb d_Schema_fieldAt_18 (by decide) (fun c_18 => ?_) (fun c_18 => ?_)
      · -- 18: True
        have c_18 : i < 128 := (nI_ltI (a := i) (b := 128) (by omega) (by omega)).mp c_18
        refine lv_aload_n hx hb d_Schema_fieldAt_25 rfl (lv_at hl 0 rfl) ?_
        refine z_get hx hb hts (z_lay i_Schema) hown hK hw hq rfl 0 (by decide) (z_in k_64 rfl) (fun _ h9 => h9) rfl d_Schema_fieldAt_26 ?_
        refine lv_iload_n hx hb d_Schema_fieldAt_29 rfl (lv_at hl 1 rfl) ?_
        refine z_aldq hx hb hK hw hfa 3 rfl (vp_in_nI (by omega) (by omega)) d_Schema_fieldAt_30 ?_
        refine z_top (y := va_rf (ff i)) (by rw [nI_clamp (by omega)]) ?_
        refine z_top (y := .ref (ad i)) (by rw [(hfd i hi).1]; rfl) ?_
        exact z_aret hx hb hr (Or.inl ⟨_, rfl⟩) (Or.inr ⟨_, rfl⟩) hlocks hw ⟨rfl, rfl⟩ (by decide) (by decide) d_Schema_fieldAt_31
      · -- 18: False
        have c_18 : ¬ (i < 128) := fun z => c_18 ((nI_ltI (a := i) (b := 128) (by omega) (by omega)).mpr z)
        omega

set_option maxHeartbeats 4000000 in
set_option maxRecDepth 100000 in
theorem c_Schema_fieldAt_no (l : Launch) (g : z_G) (h : z_H) {r q : Nat} {S : Sch} {fa ca : Nat} {ad na : Nat → Nat} {ff : Nat → Option Nat} {cf : Nat → Int32} {nf : Nat → Nat → Int32} {k : Int32}  (hS : SchP g h r q S fa ca ad na ff cf nf) (hk : k < 0 ∨ nI S.1 ≤ k) : z_C l y_Schema_fieldAt prog_9_method_2_code 2 (Option.some (Jvm.ClassFile.FieldType.object "SchemaRecords$Field")) 0 0 0 0 g [.ref q, .int k] h (fun r h1 => r = some .null ∧ h = h1) := by
  refine z_C.of (by decide) (Nat.le_of_ble_eq_true rfl) (fun pg en s m below meth cd A ls hx hb hml hr hts hown hlocks hnm hK hE hA hw hl => ?_)
  have hl : lv_has ls 2 [(0, .ref q), (1, .int k)] := hl
  obtain ⟨hq, hfa, hca, hfd, hnn, hnb, hcol, hsz, hcc⟩ := id hS
  have hrt := rq_le S (-1)
  refine lv_iload_n hx hb d_Schema_fieldAt_0 rfl (lv_at hl 1 rfl) ?_
  refine lv_if_lt (tgt := 21) hx hb d_Schema_fieldAt_1 (by decide) (fun c_1 => ?_) (fun c_1 => ?_)
  · -- 1: True
    refine lv_null hx hb d_Schema_fieldAt_21 ?_
    refine lv_goto (tgt := 31) hx hb d_Schema_fieldAt_22 (by decide) ?_
    exact z_aret hx hb hr (Or.inl ⟨_, rfl⟩) (Or.inl rfl) hlocks hw ⟨rfl, rfl⟩ (by decide) (by decide) d_Schema_fieldAt_31
  · -- 1: False
    refine lv_iload_n hx hb d_Schema_fieldAt_4 rfl (lv_at hl 1 rfl) ?_
    refine lv_aload_n hx hb d_Schema_fieldAt_5 rfl (lv_at hl 0 rfl) ?_
    refine z_get hx hb hts (z_lay i_Schema) hown hK hw hq rfl 2 (by decide) (z_in k_66 rfl) (fun _ h9 => h9) rfl d_Schema_fieldAt_6 ?_
    refine lv_icmp_ge (tgt := 21) hx hb d_Schema_fieldAt_9 (by decide) (fun c_9 => ?_) (fun c_9 => ?_)
    · -- 9: True
      refine lv_null hx hb d_Schema_fieldAt_21 ?_
      refine lv_goto (tgt := 31) hx hb d_Schema_fieldAt_22 (by decide) ?_
      exact z_aret hx hb hr (Or.inl ⟨_, rfl⟩) (Or.inl rfl) hlocks hw ⟨rfl, rfl⟩ (by decide) (by decide) d_Schema_fieldAt_31
    · -- 9: False
      rcases hk with z | z; exact absurd z c_1; exact absurd z c_9

set_option maxHeartbeats 4000000 in
set_option maxRecDepth 100000 in
theorem c_Schema_fieldOfColumn (l : Launch) (g : z_G) (h : z_H) {r q : Nat} {S : Sch} {fa ca : Nat} {ad na : Nat → Nat} {ff : Nat → Option Nat} {cf : Nat → Int32} {nf : Nat → Nat → Int32} {i : Nat}  (hS : SchP g h r q S fa ca ad na ff cf nf) (hi : i < cc S) : z_C l y_Schema_fieldOfColumn prog_9_method_3_code 2 (Option.some Jvm.ClassFile.FieldType.int) 0 0 0 0 g [.ref q, .int (nI i)] h (fun r h1 => r = some (.int (cf i)) ∧ h = h1) := by
  refine z_C.of (by decide) (Nat.le_of_ble_eq_true rfl) (fun pg en s m below meth cd A ls hx hb hml hr hts hown hlocks hnm hK hE hA hw hl => ?_)
  have hl : lv_has ls 2 [(0, .ref q), (1, .int (nI i))] := hl
  obtain ⟨hq, hfa, hca, hfd, hnn, hnb, hcol, hsz, hcc⟩ := id hS
  have hrt := rq_le S (-1)
  refine lv_iload_n hx hb d_Schema_fieldOfColumn_0 rfl (lv_at hl 1 rfl) ?_
  refine lv_if_lt (tgt := 21) hx hb d_Schema_fieldOfColumn_1 (by decide) (fun c_1 => ?_) (fun c_1 => ?_)
  · -- 1: True
    have c_1 : i < 0 := (nI_ltI (a := i) (b := 0) (by omega) (by omega)).mp c_1
    omega
  · -- 1: False
    have c_1 : ¬ (i < 0) := fun z => c_1 ((nI_ltI (a := i) (b := 0) (by omega) (by omega)).mpr z)
    refine lv_iload_n hx hb d_Schema_fieldOfColumn_4 rfl (lv_at hl 1 rfl) ?_
    refine lv_aload_n hx hb d_Schema_fieldOfColumn_5 rfl (lv_at hl 0 rfl) ?_
    refine z_get hx hb hts (z_lay i_Schema) hown hK hw hq rfl 3 (by decide) (z_in k_68 rfl) (fun _ h9 => h9) rfl d_Schema_fieldOfColumn_6 ?_
    refine lv_icmp_ge (tgt := 21) hx hb d_Schema_fieldOfColumn_9 (by decide) (fun c_9 => ?_) (fun c_9 => ?_)
    · -- 9: True
      have c_9 : (cc S) ≤ i := (nI_leI (a := cc S) (b := i) (by omega) (by omega)).mp c_9
      omega
    · -- 9: False
      have c_9 : ¬ ((cc S) ≤ i) := fun z => c_9 ((nI_leI (a := cc S) (b := i) (by omega) (by omega)).mpr z)
      refine lv_iload_n hx hb d_Schema_fieldOfColumn_12 rfl (lv_at hl 1 rfl) ?_
      refine lv_aload_n hx hb d_Schema_fieldOfColumn_13 rfl (lv_at hl 0 rfl) ?_
      refine z_get hx hb hts (z_lay i_Schema) hown hK hw hq rfl 1 (by decide) (z_in k_65 rfl) (fun _ h9 => h9) rfl d_Schema_fieldOfColumn_14 ?_
      refine z_alen hx hb hK hw hca 1 rfl d_Schema_fieldOfColumn_17 ?_
      refine lv_icmp_lt (tgt := 25) hx hb d_Schema_fieldOfColumn_18 (by decide) (fun c_18 => ?_) (fun c_18 => ?_)
      · -- 18: True
        have c_18 : i < 64 := (nI_ltI (a := i) (b := 64) (by omega) (by omega)).mp c_18
        refine lv_aload_n hx hb d_Schema_fieldOfColumn_25 rfl (lv_at hl 0 rfl) ?_
        refine z_get hx hb hts (z_lay i_Schema) hown hK hw hq rfl 1 (by decide) (z_in k_65 rfl) (fun _ h9 => h9) rfl d_Schema_fieldOfColumn_26 ?_
        refine lv_iload_n hx hb d_Schema_fieldOfColumn_29 rfl (lv_at hl 1 rfl) ?_
        refine z_iald hx hb hK hw hca 1 rfl (vp_in_nI (by omega) (by omega)) d_Schema_fieldOfColumn_30 ?_
        refine z_topi (y := cf i) (by rw [nI_clamp (by omega)]) ?_
        exact z_iret hx hb hr hlocks hw ⟨rfl, rfl⟩ (by decide) (by decide) d_Schema_fieldOfColumn_31
      · -- 18: False
        have c_18 : ¬ (i < 64) := fun z => c_18 ((nI_ltI (a := i) (b := 64) (by omega) (by omega)).mpr z)
        omega

set_option maxHeartbeats 4000000 in
set_option maxRecDepth 100000 in
theorem c_Schema_fieldOfColumn_no (l : Launch) (g : z_G) (h : z_H) {r q : Nat} {S : Sch} {fa ca : Nat} {ad na : Nat → Nat} {ff : Nat → Option Nat} {cf : Nat → Int32} {nf : Nat → Nat → Int32} {k : Int32}  (hS : SchP g h r q S fa ca ad na ff cf nf) (hk : k < 0 ∨ nI (cc S) ≤ k) : z_C l y_Schema_fieldOfColumn prog_9_method_3_code 2 (Option.some Jvm.ClassFile.FieldType.int) 0 0 0 0 g [.ref q, .int k] h (fun r h1 => r = some (.int (-1)) ∧ h = h1) := by
  refine z_C.of (by decide) (Nat.le_of_ble_eq_true rfl) (fun pg en s m below meth cd A ls hx hb hml hr hts hown hlocks hnm hK hE hA hw hl => ?_)
  have hl : lv_has ls 2 [(0, .ref q), (1, .int k)] := hl
  obtain ⟨hq, hfa, hca, hfd, hnn, hnb, hcol, hsz, hcc⟩ := id hS
  have hrt := rq_le S (-1)
  refine lv_iload_n hx hb d_Schema_fieldOfColumn_0 rfl (lv_at hl 1 rfl) ?_
  refine lv_if_lt (tgt := 21) hx hb d_Schema_fieldOfColumn_1 (by decide) (fun c_1 => ?_) (fun c_1 => ?_)
  · -- 1: True
    refine lv_iconst (v := (-1)) hx hb d_Schema_fieldOfColumn_21 (by decide) ?_
    refine lv_goto (tgt := 31) hx hb d_Schema_fieldOfColumn_22 (by decide) ?_
    exact z_iret hx hb hr hlocks hw ⟨rfl, rfl⟩ (by decide) (by decide) d_Schema_fieldOfColumn_31
  · -- 1: False
    refine lv_iload_n hx hb d_Schema_fieldOfColumn_4 rfl (lv_at hl 1 rfl) ?_
    refine lv_aload_n hx hb d_Schema_fieldOfColumn_5 rfl (lv_at hl 0 rfl) ?_
    refine z_get hx hb hts (z_lay i_Schema) hown hK hw hq rfl 3 (by decide) (z_in k_68 rfl) (fun _ h9 => h9) rfl d_Schema_fieldOfColumn_6 ?_
    refine lv_icmp_ge (tgt := 21) hx hb d_Schema_fieldOfColumn_9 (by decide) (fun c_9 => ?_) (fun c_9 => ?_)
    · -- 9: True
      refine lv_iconst (v := (-1)) hx hb d_Schema_fieldOfColumn_21 (by decide) ?_
      refine lv_goto (tgt := 31) hx hb d_Schema_fieldOfColumn_22 (by decide) ?_
      exact z_iret hx hb hr hlocks hw ⟨rfl, rfl⟩ (by decide) (by decide) d_Schema_fieldOfColumn_31
    · -- 9: False
      rcases hk with z | z; exact absurd z c_1; exact absurd z c_9

set_option maxHeartbeats 4000000 in
set_option maxRecDepth 100000 in
theorem c_Schema_hasRoomFor (l : Launch) (g : z_G) (h : z_H) {r q : Nat} {S : Sch} {fa ca : Nat} {ad na : Nat → Nat} {ff : Nat → Option Nat} {cf : Nat → Int32} {nf : Nat → Nat → Int32} {k : Int32}  (hS : SchP g h r q S fa ca ad na ff cf nf) : z_C l y_Schema_hasRoomFor prog_9_method_4_code 2 (Option.some Jvm.ClassFile.FieldType.boolean) 0 0 0 0 g [.ref q, .int k] h (fun r h1 => r = some (.int (zb (decide (S.1 < 128) && (decide (k = 4) || decide (cc S < 64))))) ∧ h = h1) := by
  refine z_C.of (by decide) (Nat.le_of_ble_eq_true rfl) (fun pg en s m below meth cd A ls hx hb hml hr hts hown hlocks hnm hK hE hA hw hl => ?_)
  have hl : lv_has ls 2 [(0, .ref q), (1, .int k)] := hl
  obtain ⟨hq, hfa, hca, hfd, hnn, hnb, hcol, hsz, hcc⟩ := id hS
  have hrt := rq_le S (-1)
  refine lv_aload_n hx hb d_Schema_hasRoomFor_0 rfl (lv_at hl 0 rfl) ?_
  refine z_get hx hb hts (z_lay i_Schema) hown hK hw hq rfl 2 (by decide) (z_in k_66 rfl) (fun _ h9 => h9) rfl d_Schema_hasRoomFor_1 ?_
  refine lv_aload_n hx hb d_Schema_hasRoomFor_4 rfl (lv_at hl 0 rfl) ?_
  refine z_get hx hb hts (z_lay i_Schema) hown hK hw hq rfl 0 (by decide) (z_in k_64 rfl) (fun _ h9 => h9) rfl d_Schema_hasRoomFor_5 ?_
  refine z_alen hx hb hK hw hfa 3 rfl d_Schema_hasRoomFor_8 ?_
  refine lv_icmp_ge (tgt := 33) hx hb d_Schema_hasRoomFor_9 (by decide) (fun c_9 => ?_) (fun c_9 => ?_)
  · -- 9: True
    have c_9 : 128 ≤ S.1 := (nI_leI (a := 128) (b := S.1) (by omega) (by omega)).mp c_9
    refine lv_iconst (v := 0) hx hb d_Schema_hasRoomFor_33 (by decide) ?_
    exact z_zret hx hb hr rfl hlocks hw (by refine ⟨congrArg some (congrArg Value.int ?_), rfl⟩; simp [zb, c_9]; try omega) (by decide) (by decide) d_Schema_hasRoomFor_34
  · -- 9: False
    have c_9 : ¬ (128 ≤ S.1) := fun z => c_9 ((nI_leI (a := 128) (b := S.1) (by omega) (by omega)).mpr z)
    refine lv_iload_n hx hb d_Schema_hasRoomFor_12 rfl (lv_at hl 1 rfl) ?_
    refine lv_iconst (v := 4) hx hb d_Schema_hasRoomFor_13 (by decide) ?_
    refine lv_icmp_eq (tgt := 29) hx hb d_Schema_hasRoomFor_14 (by decide) (fun c_14 => ?_) (fun c_14 => ?_)
    · -- 14: True
      refine lv_iconst (v := 1) hx hb d_Schema_hasRoomFor_29 (by decide) ?_
      refine lv_goto (tgt := 34) hx hb d_Schema_hasRoomFor_30 (by decide) ?_
      exact z_zret hx hb hr rfl hlocks hw (by refine ⟨congrArg some (congrArg Value.int ?_), rfl⟩; simp [zb, c_9, c_14]; try omega) (by decide) (by decide) d_Schema_hasRoomFor_34
    · -- 14: False
      refine lv_aload_n hx hb d_Schema_hasRoomFor_17 rfl (lv_at hl 0 rfl) ?_
      refine z_get hx hb hts (z_lay i_Schema) hown hK hw hq rfl 3 (by decide) (z_in k_68 rfl) (fun _ h9 => h9) rfl d_Schema_hasRoomFor_18 ?_
      refine lv_aload_n hx hb d_Schema_hasRoomFor_21 rfl (lv_at hl 0 rfl) ?_
      refine z_get hx hb hts (z_lay i_Schema) hown hK hw hq rfl 1 (by decide) (z_in k_65 rfl) (fun _ h9 => h9) rfl d_Schema_hasRoomFor_22 ?_
      refine z_alen hx hb hK hw hca 1 rfl d_Schema_hasRoomFor_25 ?_
      refine lv_icmp_ge (tgt := 33) hx hb d_Schema_hasRoomFor_26 (by decide) (fun c_26 => ?_) (fun c_26 => ?_)
      · -- 26: True
        have c_26 : 64 ≤ (cc S) := (nI_leI (a := 64) (b := cc S) (by omega) (by omega)).mp c_26
        refine lv_iconst (v := 0) hx hb d_Schema_hasRoomFor_33 (by decide) ?_
        exact z_zret hx hb hr rfl hlocks hw (by refine ⟨congrArg some (congrArg Value.int ?_), rfl⟩; simp [zb, c_9, c_14, c_26]; try omega) (by decide) (by decide) d_Schema_hasRoomFor_34
      · -- 26: False
        have c_26 : ¬ (64 ≤ (cc S)) := fun z => c_26 ((nI_leI (a := 64) (b := cc S) (by omega) (by omega)).mpr z)
        refine lv_iconst (v := 1) hx hb d_Schema_hasRoomFor_29 (by decide) ?_
        refine lv_goto (tgt := 34) hx hb d_Schema_hasRoomFor_30 (by decide) ?_
        exact z_zret hx hb hr rfl hlocks hw (by refine ⟨congrArg some (congrArg Value.int ?_), rfl⟩; simp [zb, c_9, c_14, c_26]; try omega) (by decide) (by decide) d_Schema_hasRoomFor_34

set_option maxHeartbeats 4000000 in
set_option maxRecDepth 100000 in
theorem c_Schema_requiredOf_top (l : Launch) (g : z_G) (h : z_H) {r q : Nat} {S : Sch} {fa ca : Nat} {ad na : Nat → Nat} {ff : Nat → Option Nat} {cf : Nat → Int32} {nf : Nat → Nat → Int32}  (hS : SchP g h r q S fa ca ad na ff cf nf) : z_C l y_Schema_requiredOf prog_9_method_7_code 3 (Option.some Jvm.ClassFile.FieldType.int) 1 40 0 0 g [.ref q, .int (-1)] h (fun r h1 => r = some (.int (nI (rq S (-1)))) ∧ h = h1) := by
  refine z_C.of (by decide) (Nat.le_of_ble_eq_true rfl) (fun pg en s m below meth cd A ls hx hb hml hr hts hown hlocks hnm hK hE hA hw hl => ?_)
  have hl : lv_has ls 3 [(0, .ref q), (1, .int (-1))] := hl
  obtain ⟨hq, hfa, hca, hfd, hnn, hnb, hcol, hsz, hcc⟩ := id hS
  have hrt := rq_le S (-1)
  refine lv_iload_n hx hb d_Schema_requiredOf_0 rfl (lv_at hl 1 rfl) ?_
  refine lv_iconst (v := (-1)) hx hb d_Schema_requiredOf_1 (by decide) ?_
  refine lv_icmp_ne (tgt := 10) hx hb d_Schema_requiredOf_2 (by decide) (fun c_2 => ?_) (fun c_2 => ?_)
  · -- 2: True
    exact absurd (by decide) c_2
  · -- 2: False
    refine lv_aload_n hx hb d_Schema_requiredOf_5 rfl (lv_at hl 0 rfl) ?_
    refine z_get hx hb hts (z_lay i_Schema) hown hK hw hq rfl 4 (by decide) (z_in k_70 rfl) (fun _ h9 => h9) rfl d_Schema_requiredOf_6 ?_
    exact z_iret hx hb hr hlocks hw ⟨rfl, rfl⟩ (by decide) (by decide) d_Schema_requiredOf_9

set_option maxHeartbeats 4000000 in
set_option maxRecDepth 100000 in
theorem c_Schema_requiredOf (l : Launch) (g : z_G) (h : z_H) {r q : Nat} {S : Sch} {fa ca : Nat} {ad na : Nat → Nat} {ff : Nat → Option Nat} {cf : Nat → Int32} {nf : Nat → Nat → Int32} {i : Nat}  (hS : SchP g h r q S fa ca ad na ff cf nf) (hi : i < S.1) : z_C l y_Schema_requiredOf prog_9_method_7_code 3 (Option.some Jvm.ClassFile.FieldType.int) 1 40 0 0 g [.ref q, .int (nI i)] h (fun r h1 => r = some (.int (nI (rq S (nI i)))) ∧ h = h1) := by
  refine z_C.of (by decide) (Nat.le_of_ble_eq_true rfl) (fun pg en s m below meth cd A ls hx hb hml hr hts hown hlocks hnm hK hE hA hw hl => ?_)
  have hl : lv_has ls 3 [(0, .ref q), (1, .int (nI i))] := hl
  obtain ⟨hq, hfa, hca, hfd, hnn, hnb, hcol, hsz, hcc⟩ := id hS
  have hrt := rq_le S (-1)
  have hfi := (hfd i hi).2
  refine lv_iload_n hx hb d_Schema_requiredOf_0 rfl (lv_at hl 1 rfl) ?_
  refine lv_iconst (v := (-1)) hx hb d_Schema_requiredOf_1 (by decide) ?_
  refine lv_icmp_ne (tgt := 10) hx hb d_Schema_requiredOf_2 (by decide) (fun c_2 => ?_) (fun c_2 => ?_)
  · -- 2: True
    refine lv_aload_n hx hb d_Schema_requiredOf_10 rfl (lv_at hl 0 rfl) ?_
    refine lv_iload_n hx hb d_Schema_requiredOf_11 rfl (lv_at hl 1 rfl) ?_
    refine z_callV (n := 1) (As := [.int (nI i)]) (rest := []) ⟨hx, hb, hml, hown, hts⟩ (c_Schema_fieldAt (i := i) l g h hS (by omega)) (z_in k_356 rfl) (z_in k_4 rfl) (z_in k_353 rfl) (z_in k_354 rfl) (z_in k_355 rfl) (by decide +kernel) ⟨by first | exact Nat.le_of_ble_eq_true rfl | (dsimp only; omega) | omega, by first | exact Nat.le_of_ble_eq_true rfl | (dsimp only; omega) | omega⟩ hK hE hw hA rfl hq rfl hl.1 (Nat.le_of_ble_eq_true rfl) d_Schema_requiredOf_12 ⟨by first | exact Nat.le_of_ble_eq_true rfl | (dsimp only; omega) | omega, by first | exact Nat.le_of_ble_eq_true rfl | (dsimp only; omega) | omega⟩ rfl (fun r9 h9 H locs hp hw => ?_)
    obtain ⟨r8, h8⟩ := hp
    subst r8
    subst h8
    refine W.eq (g2 := F0 m 15 ls [.ref (ad i)]) rfl ?_
    refine lv_astore_n (lv' := [(2, .ref (ad i)), (0, .ref q), (1, .int (nI i))]) hx hb d_Schema_requiredOf_15 rfl hl (by decide) rfl (fun ls hl => ?_)
    refine lv_aload_n hx hb d_Schema_requiredOf_16 rfl (lv_at hl 0 rfl) ?_
    refine lv_ifnonnull (tgt := 24) hx hb d_Schema_requiredOf_17 (by decide) ?_
    refine lv_aload_n hx hb d_Schema_requiredOf_24 rfl (lv_at hl 0 rfl) ?_
    refine z_getN hx hb hts (z_lay i_Field) hown hK hw hfi rfl 8 (by decide) hE.nest (z_inN k_425 rfl) (fun _ h9 => h9) rfl d_Schema_requiredOf_25 ?_
    exact z_iret hx hb hr hlocks hw ⟨rfl, rfl⟩ (by decide) (by decide) d_Schema_requiredOf_28
  · -- 2: False
    exact absurd c_2 (fun z => by have := congrArg Int32.toInt z; rw [nI_toInt (by omega)] at this; simp at this; try omega)

set_option maxHeartbeats 4000000 in
set_option maxRecDepth 100000 in
theorem c_Schema_named (l : Launch) (g : z_G) (h : z_H) {r q : Nat} {S : Sch} {fa ca : Nat} {ad na : Nat → Nat} {ff : Nat → Option Nat} {cf : Nat → Int32} {nf : Nat → Nat → Int32} {sc b len n p : Nat} {f : Nat → Int32} {fa2 ws we : Int32} {t : Nat → Nat} {k : Int32} {i j : Nat} (hsc : h sc = some ((6, 0), .inr (7, [.ref b, .int (nI n), .int (nI p), .int fa2, .int ws, .int we]))) (hb0 : h b = some ((3, 0), .inl (g.2.1 0, len, .inl f))) (hS : SchP g h r q S fa ca ad na ff cf nf) (hn : n ≤ len) (hlen : len < 2 ^ 31) (hf : ∀ k, k < n → t k < 256 ∧ f k = sb_b (t k)) (hij : i ≤ j) (hj : j ≤ n) : z_C l y_Schema_named prog_9_method_8_code 7 (Option.some Jvm.ClassFile.FieldType.int) 2 70 0 0 g [.ref q, .int k, .ref sc, .int (nI i), .int (nI j)] h (fun r h1 => r = some (.int (nmd S k t i j)) ∧ h = h1) := by
  refine z_C.of (by decide) (Nat.le_of_ble_eq_true rfl) (fun pg en s m below meth cd A ls hx hb hml hr hts hown hlocks hnm hK hE hA hw hl => ?_)
  have hl : lv_has ls 7 [(0, .ref q), (1, .int k), (2, .ref sc), (3, .int (nI i)), (4, .int (nI j))] := hl
  obtain ⟨hq, hfa, hca, hfd, hnn, hnb, hcol, hsz, hcc⟩ := id hS
  have hrt := rq_le S (-1)
  refine lv_iconst (v := 0) hx hb d_Schema_named_0 (by decide) ?_
  refine lv_istore (lv' := [(5, .int 0), (0, .ref q), (1, .int k), (2, .ref sc), (3, .int (nI i)), (4, .int (nI j))]) hx hb d_Schema_named_1 hl (by decide) rfl (fun ls hl => ?_)
  have loop_3 : ∀ (fuel : Nat) (f1 : Nat) (H : Heap) (locs : List Loc) (ls : Array Slot)  (hle : f1 ≤ S.1) (hR9 : fndR (fun f => decide (fGr (S.2 f) = k) && isNm t i j (S.2 f)) (S.1 - f1) f1 = fndR (fun f => decide (fGr (S.2 f) = k) && isNm t i j (S.2 f)) (S.1 - 0) 0), (S.1 - f1) < fuel → z_S g A s.heap h H locs → lv_has ls 7 [(0, .ref q), (1, .int k), (2, .ref sc), (3, .int (nI i)), (4, .int (nI j)), (5, .int (nI f1))] → W pg l en { frames := 2, cells := 0, slots := 0, locals := 70 } s m [.ref q, .int k, .ref sc, .int (nI i), .int (nI j)].toArray below meth cd H locs 0 0 (MQ below (z_Q g A (fun r h1 => r = some (.int (nmd S k t i j)) ∧ h = h1)) [.ref q, .int k, .ref sc, .int (nI i), .int (nI j)].toArray s 0 0 A) (F0 m 3 ls []) := by
    intro fuel
    induction fuel with
    | zero => intro f1 H locs ls hle hR9 hm; exact absurd hm (Nat.not_lt_zero _)
    | succ fuel ih_3 =>
      intro f1 H locs ls hle hR9 hm hw hl
      refine lv_iload hx hb d_Schema_named_3 (lv_at hl 5 rfl) ?_
      refine lv_aload_n hx hb d_Schema_named_5 rfl (lv_at hl 0 rfl) ?_
      refine z_get hx hb hts (z_lay i_Schema) hown hK hw hq rfl 2 (by decide) (z_in k_66 rfl) (fun _ h9 => h9) rfl d_Schema_named_6 ?_
      refine lv_icmp_ge (tgt := 55) hx hb d_Schema_named_9 (by decide) (fun c_9 => ?_) (fun c_9 => ?_)
      · -- 9: True
        have c_9 : S.1 ≤ f1 := (nI_leI (a := S.1) (b := f1) (by omega) (by omega)).mp c_9
        refine lv_iconst (v := (-1)) hx hb d_Schema_named_55 (by decide) ?_
        exact z_iret hx hb hr hlocks hw (by refine ⟨congrArg some (congrArg Value.int ?_), rfl⟩; unfold nmd; rw [← hR9, show S.1 - f1 = 0 by omega]; rfl) (by decide) (by decide) d_Schema_named_56
      · -- 9: False
        have c_9 : ¬ (S.1 ≤ f1) := fun z => c_9 ((nI_leI (a := S.1) (b := f1) (by omega) (by omega)).mpr z)
        have hfi := (hfd f1 (by omega)).2
        have hni := hnn f1 (by omega)
        refine lv_aload_n hx hb d_Schema_named_12 rfl (lv_at hl 0 rfl) ?_
        refine lv_iload hx hb d_Schema_named_13 (lv_at hl 5 rfl) ?_
        refine z_callV (n := 1) (As := [.int (nI f1)]) (rest := []) ⟨hx, hb, hml, hown, hts⟩ (c_Schema_fieldAt (i := f1) l g h hS (by omega)) (z_in k_356 rfl) (z_in k_4 rfl) (z_in k_353 rfl) (z_in k_354 rfl) (z_in k_355 rfl) (by decide +kernel) ⟨by first | exact Nat.le_of_ble_eq_true rfl | (dsimp only; omega) | omega, by first | exact Nat.le_of_ble_eq_true rfl | (dsimp only; omega) | omega⟩ hK hE hw hA rfl hq rfl hl.1 (Nat.le_of_ble_eq_true rfl) d_Schema_named_15 ⟨by first | exact Nat.le_of_ble_eq_true rfl | (dsimp only; omega) | omega, by first | exact Nat.le_of_ble_eq_true rfl | (dsimp only; omega) | omega⟩ rfl (fun r9 h9 H locs hp hw => ?_)
        obtain ⟨r8, h8⟩ := hp
        subst r8
        subst h8
        refine W.eq (g2 := F0 m 18 ls [.ref (ad f1)]) rfl ?_
        refine lv_astore (lv' := [(6, .ref (ad f1)), (0, .ref q), (1, .int k), (2, .ref sc), (3, .int (nI i)), (4, .int (nI j)), (5, .int (nI f1))]) hx hb d_Schema_named_18 hl (by decide) rfl (fun ls hl => ?_)
        refine lv_aload hx hb d_Schema_named_20 (lv_at hl 0 rfl) ?_
        refine lv_ifnull hx hb d_Schema_named_22 ?_
        refine lv_aload hx hb d_Schema_named_25 (lv_at hl 0 rfl) ?_
        refine z_getN hx hb hts (z_lay i_Field) hown hK hw hfi rfl 3 (by decide) hE.nest (z_inN k_415 rfl) (fun _ h9 => h9) rfl d_Schema_named_27 ?_
        refine lv_iload_n hx hb d_Schema_named_30 rfl (lv_at hl 2 rfl) ?_
        refine lv_icmp_ne (tgt := 49) hx hb d_Schema_named_31 (by decide) (fun c_31 => ?_) (fun c_31 => ?_)
        · -- 31: True
          refine lv_iinc (v := nI (f1 + 1)) (lv' := [(5, .int (nI (f1 + 1))), (6, .ref (ad f1)), (0, .ref q), (1, .int k), (2, .ref sc), (3, .int (nI i)), (4, .int (nI j))]) hx hb d_Schema_named_49 hl (k := 6) rfl (nI_1 f1) (by decide) rfl (fun ls hl => ?_)
          refine lv_goto (tgt := 3) hx hb d_Schema_named_52 (by decide) ?_
          refine ih_3 (f1 + 1) _ _ _ (by omega) ((fnd_step (by omega) (by rw [decide_eq_false c_31]; rfl)).symm.trans hR9) ?_ hw (lv_sub hl [2, 3, 4, 5, 6, 0] rfl)
          omega
        · -- 31: False
          refine lv_aload hx hb d_Schema_named_34 (lv_at hl 0 rfl) ?_
          refine lv_aload_n hx hb d_Schema_named_36 rfl (lv_at hl 3 rfl) ?_
          refine lv_iload_n hx hb d_Schema_named_37 rfl (lv_at hl 4 rfl) ?_
          refine lv_iload hx hb d_Schema_named_38 (lv_at hl 5 rfl) ?_
          refine z_callV (n := 3) (As := [.ref sc, .int (nI i), .int (nI j)]) (rest := []) ⟨hx, hb, hml, hown, hts⟩ (c_Field_isNamed (t := t) (nm := fun k => (fNm (S.2 f1)).getD k 0) l g h hfi hni hsc hb0 hn hlen hf hij hj (by have := (hnb f1 (by omega)).1; omega) (fun k hk => (hnb f1 (by omega)).2 k hk)) (z_in k_360 rfl) (z_in k_17 rfl) (z_in k_357 rfl) (z_in k_358 rfl) (z_in k_359 rfl) (by decide +kernel) ⟨by first | exact Nat.le_of_ble_eq_true rfl | (dsimp only; omega) | omega, by first | exact Nat.le_of_ble_eq_true rfl | (dsimp only; omega) | omega⟩ hK hE hw hA rfl hfi rfl hl.1 (Nat.le_of_ble_eq_true rfl) d_Schema_named_40 ⟨by first | exact Nat.le_of_ble_eq_true rfl | (dsimp only; omega) | omega, by first | exact Nat.le_of_ble_eq_true rfl | (dsimp only; omega) | omega⟩ rfl (fun r9 h9 H locs hp hw => ?_)
          obtain ⟨r8, h8⟩ := hp
          subst r8
          subst h8
          refine W.eq (g2 := F0 m 43 ls [.int (zb (isNm t i j (S.2 f1)))]) rfl ?_
          refine lv_if_eq (tgt := 49) hx hb d_Schema_named_43 (by decide) (fun c_43 => ?_) (fun c_43 => ?_)
          · -- 43: True
            have c_43 : (isNm t i j (S.2 f1)) = false := zb_f c_43
            refine lv_iinc (v := nI (f1 + 1)) (lv' := [(5, .int (nI (f1 + 1))), (6, .ref (ad f1)), (0, .ref q), (1, .int k), (2, .ref sc), (3, .int (nI i)), (4, .int (nI j))]) hx hb d_Schema_named_49 hl (k := 6) rfl (nI_1 f1) (by decide) rfl (fun ls hl => ?_)
            refine lv_goto (tgt := 3) hx hb d_Schema_named_52 (by decide) ?_
            refine ih_3 (f1 + 1) _ _ _ (by omega) ((fnd_step (by omega) (by rw [c_43, Bool.and_false])).symm.trans hR9) ?_ hw (lv_sub hl [2, 3, 4, 5, 6, 0] rfl)
            omega
          · -- 43: False
            have c_43 : (isNm t i j (S.2 f1)) = true := zb_t c_43
            refine lv_iload hx hb d_Schema_named_46 (lv_at hl 6 rfl) ?_
            exact z_iret hx hb hr hlocks hw (by refine ⟨congrArg some (congrArg Value.int ?_), rfl⟩; unfold nmd; rw [← hR9, fnd_hit (by omega) (by rw [decide_eq_true c_31, c_43]; rfl)]) (by decide) (by decide) d_Schema_named_48
  exact loop_3 (S.1 - 0 + 1) 0  _ _ _  (by omega) rfl (by omega) hw (lv_sub hl [1, 2, 3, 4, 5, 0] rfl)

theorem mnt_gr {S : Sch} {gr : Int32} {t : Nat → Nat} {i j n f : Nat} (hf : f < n) (h : ¬ fGr (S.2 f) = gr) : mntR S gr t i j (n - f) f = mntR S gr t i j (n - (f + 1)) (f + 1) := by
  rw [show n - f = (n - (f + 1)) + 1 by omega]
  simp only [mntR, if_neg h]
theorem mnt_opt {S : Sch} {gr : Int32} {t : Nat → Nat} {i j n f : Nat} (hf : f < n) (h : fGr (S.2 f) = gr) (h2 : isNm t i j (S.2 f) = false) (h3 : ¬ fKi (S.2 f) = 0) : mntR S gr t i j (n - f) f = mntR S gr t i j (n - (f + 1)) (f + 1) := by
  rw [show n - f = (n - (f + 1)) + 1 by omega]
  simp only [mntR, if_pos h, h2, if_neg h3]
  rfl
theorem mnt_hit {S : Sch} {gr : Int32} {t : Nat → Nat} {i j n f : Nat} (hf : f < n) (h : fGr (S.2 f) = gr) (h2 : isNm t i j (S.2 f) = true) : mntR S gr t i j (n - f) f = nI f := by
  rw [show n - f = (n - (f + 1)) + 1 by omega]
  simp only [mntR, if_pos h, h2]
  rfl
theorem mnt_req {S : Sch} {gr : Int32} {t : Nat → Nat} {i j n f : Nat} (hf : f < n) (h : fGr (S.2 f) = gr) (h2 : isNm t i j (S.2 f) = false) (h3 : fKi (S.2 f) = 0) : mntR S gr t i j (n - f) f = -1 := by
  rw [show n - f = (n - (f + 1)) + 1 by omega]
  simp only [mntR, if_pos h, h2, if_pos h3]
  rfl
theorem hrq_step {S : Sch} {gr : Int32} {n f : Nat} (hf : f < n) (h : (decide (fGr (S.2 f) = gr) && decide (fKi (S.2 f) = 0)) = false) : hrqR S gr (n - f) f = hrqR S gr (n - (f + 1)) (f + 1) := by
  rw [show n - f = (n - (f + 1)) + 1 by omega]
  simp only [hrqR]
  rw [h, Bool.false_or]
theorem hrq_hit {S : Sch} {gr : Int32} {n f : Nat} (hf : f < n) (h : (decide (fGr (S.2 f) = gr) && decide (fKi (S.2 f) = 0)) = true) : hrqR S gr (n - f) f = true := by
  rw [show n - f = (n - (f + 1)) + 1 by omega]
  simp only [hrqR]
  rw [h, Bool.true_or]

set_option maxHeartbeats 4000000 in
set_option maxRecDepth 100000 in
theorem c_Schema_meantFrom (l : Launch) (g : z_G) (h : z_H) {r q : Nat} {S : Sch} {fa ca : Nat} {ad na : Nat → Nat} {ff : Nat → Option Nat} {cf : Nat → Int32} {nf : Nat → Nat → Int32} {sc b len n p : Nat} {f : Nat → Int32} {fa2 : Int32} {i j : Nat} {t : Nat → Nat} {k : Int32} {st : Nat} (hsc : h sc = some ((6, 0), .inr (7, [.ref b, .int (nI n), .int (nI p), .int fa2, .int (nI i), .int (nI j)]))) (hb0 : h b = some ((3, 0), .inl (g.2.1 0, len, .inl f))) (hS : SchP g h r q S fa ca ad na ff cf nf) (hn : n ≤ len) (hlen : len < 2 ^ 31) (hf : ∀ k, k < n → t k < 256 ∧ f k = sb_b (t k)) (hij : i ≤ j) (hj : j ≤ n) (hst : st < 2 ^ 30) : z_C l y_Schema_meantFrom prog_9_method_9_code 6 (Option.some Jvm.ClassFile.FieldType.int) 2 70 0 0 g [.ref q, .int (nI st), .int k, .ref sc] h (fun r h1 => r = some (.int (mnt S k t i j st)) ∧ h = h1) := by
  refine z_C.of (by decide) (Nat.le_of_ble_eq_true rfl) (fun pg en s m below meth cd A ls hx hb hml hr hts hown hlocks hnm hK hE hA hw hl => ?_)
  have hl : lv_has ls 6 [(0, .ref q), (1, .int (nI st)), (2, .int k), (3, .ref sc)] := hl
  obtain ⟨hq, hfa, hca, hfd, hnn, hnb, hcol, hsz, hcc⟩ := id hS
  have hrt := rq_le S (-1)
  refine lv_iload_n hx hb d_Schema_meantFrom_0 rfl (lv_at hl 1 rfl) ?_
  refine lv_istore (lv' := [(4, .int (nI st)), (0, .ref q), (1, .int (nI st)), (2, .int k), (3, .ref sc)]) hx hb d_Schema_meantFrom_1 hl (by decide) rfl (fun ls hl => ?_)
  have loop_3 : ∀ (fuel : Nat) (f1 : Nat) (H : Heap) (locs : List Loc) (ls : Array Slot)  (hle : f1 ≤ S.1 ∨ f1 = st) (hR9 : mntR S k t i j (S.1 - f1) f1 = mntR S k t i j (S.1 - st) st), (S.1 - f1) < fuel → z_S g A s.heap h H locs → lv_has ls 6 [(0, .ref q), (1, .int (nI st)), (2, .int k), (3, .ref sc), (4, .int (nI f1))] → W pg l en { frames := 2, cells := 0, slots := 0, locals := 70 } s m [.ref q, .int (nI st), .int k, .ref sc].toArray below meth cd H locs 0 0 (MQ below (z_Q g A (fun r h1 => r = some (.int (mnt S k t i j st)) ∧ h = h1)) [.ref q, .int (nI st), .int k, .ref sc].toArray s 0 0 A) (F0 m 3 ls []) := by
    intro fuel
    induction fuel with
    | zero => intro f1 H locs ls hle hR9 hm; exact absurd hm (Nat.not_lt_zero _)
    | succ fuel ih_3 =>
      intro f1 H locs ls hle hR9 hm hw hl
      refine lv_iload hx hb d_Schema_meantFrom_3 (lv_at hl 4 rfl) ?_
      refine lv_aload_n hx hb d_Schema_meantFrom_5 rfl (lv_at hl 0 rfl) ?_
      refine z_get hx hb hts (z_lay i_Schema) hown hK hw hq rfl 2 (by decide) (z_in k_66 rfl) (fun _ h9 => h9) rfl d_Schema_meantFrom_6 ?_
      refine lv_icmp_ge (tgt := 70) hx hb d_Schema_meantFrom_9 (by decide) (fun c_9 => ?_) (fun c_9 => ?_)
      · -- 9: True
        have c_9 : S.1 ≤ f1 := (nI_leI (a := S.1) (b := f1) (by omega) (by omega)).mp c_9
        refine lv_iconst (v := (-1)) hx hb d_Schema_meantFrom_70 (by decide) ?_
        exact z_iret hx hb hr hlocks hw (by refine ⟨congrArg some (congrArg Value.int ?_), rfl⟩; unfold mnt; rw [← hR9, show S.1 - f1 = 0 by omega]; rfl) (by decide) (by decide) d_Schema_meantFrom_71
      · -- 9: False
        have c_9 : ¬ (S.1 ≤ f1) := fun z => c_9 ((nI_leI (a := S.1) (b := f1) (by omega) (by omega)).mpr z)
        have hfi := (hfd f1 (by omega)).2
        have hni := hnn f1 (by omega)
        refine lv_aload_n hx hb d_Schema_meantFrom_12 rfl (lv_at hl 0 rfl) ?_
        refine lv_iload hx hb d_Schema_meantFrom_13 (lv_at hl 4 rfl) ?_
        refine z_callV (n := 1) (As := [.int (nI f1)]) (rest := []) ⟨hx, hb, hml, hown, hts⟩ (c_Schema_fieldAt (i := f1) l g h hS (by omega)) (z_in k_356 rfl) (z_in k_4 rfl) (z_in k_353 rfl) (z_in k_354 rfl) (z_in k_355 rfl) (by decide +kernel) ⟨by first | exact Nat.le_of_ble_eq_true rfl | (dsimp only; omega) | omega, by first | exact Nat.le_of_ble_eq_true rfl | (dsimp only; omega) | omega⟩ hK hE hw hA rfl hq rfl hl.1 (Nat.le_of_ble_eq_true rfl) d_Schema_meantFrom_15 ⟨by first | exact Nat.le_of_ble_eq_true rfl | (dsimp only; omega) | omega, by first | exact Nat.le_of_ble_eq_true rfl | (dsimp only; omega) | omega⟩ rfl (fun r9 h9 H locs hp hw => ?_)
        obtain ⟨r8, h8⟩ := hp
        subst r8
        subst h8
        refine W.eq (g2 := F0 m 18 ls [.ref (ad f1)]) rfl ?_
        refine lv_astore (lv' := [(5, .ref (ad f1)), (0, .ref q), (1, .int (nI st)), (2, .int k), (3, .ref sc), (4, .int (nI f1))]) hx hb d_Schema_meantFrom_18 hl (by decide) rfl (fun ls hl => ?_)
        refine lv_aload hx hb d_Schema_meantFrom_20 (lv_at hl 0 rfl) ?_
        refine lv_ifnull hx hb d_Schema_meantFrom_22 ?_
        refine lv_aload hx hb d_Schema_meantFrom_25 (lv_at hl 0 rfl) ?_
        refine z_getN hx hb hts (z_lay i_Field) hown hK hw hfi rfl 3 (by decide) hE.nest (z_inN k_415 rfl) (fun _ h9 => h9) rfl d_Schema_meantFrom_27 ?_
        refine lv_iload_n hx hb d_Schema_meantFrom_30 rfl (lv_at hl 3 rfl) ?_
        refine lv_icmp_ne (tgt := 64) hx hb d_Schema_meantFrom_31 (by decide) (fun c_31 => ?_) (fun c_31 => ?_)
        · -- 31: True
          refine lv_iinc (v := nI (f1 + 1)) (lv' := [(4, .int (nI (f1 + 1))), (5, .ref (ad f1)), (0, .ref q), (1, .int (nI st)), (2, .int k), (3, .ref sc)]) hx hb d_Schema_meantFrom_64 hl (k := 5) rfl (nI_1 f1) (by decide) rfl (fun ls hl => ?_)
          refine lv_goto (tgt := 3) hx hb d_Schema_meantFrom_67 (by decide) ?_
          refine ih_3 (f1 + 1) _ _ _ (by omega) ((mnt_gr (by omega) c_31).symm.trans hR9) ?_ hw (lv_sub hl [2, 3, 4, 5, 0] rfl)
          omega
        · -- 31: False
          refine lv_aload hx hb d_Schema_meantFrom_34 (lv_at hl 0 rfl) ?_
          refine lv_aload_n hx hb d_Schema_meantFrom_36 rfl (lv_at hl 4 rfl) ?_
          refine lv_aload_n hx hb d_Schema_meantFrom_37 rfl (lv_at hl 4 rfl) ?_
          refine z_getN hx hb hts (z_lay i_Scanner) hown hK hw hsc rfl 4 (by decide) hE.nest (z_inN k_197 rfl) (fun _ h9 => h9) rfl d_Schema_meantFrom_38 ?_
          refine lv_aload_n hx hb d_Schema_meantFrom_41 rfl (lv_at hl 4 rfl) ?_
          refine z_getN hx hb hts (z_lay i_Scanner) hown hK hw hsc rfl 5 (by decide) hE.nest (z_inN k_199 rfl) (fun _ h9 => h9) rfl d_Schema_meantFrom_42 ?_
          refine z_callV (n := 3) (As := [.ref sc, .int (nI i), .int (nI j)]) (rest := []) ⟨hx, hb, hml, hown, hts⟩ (c_Field_isNamed (t := t) (nm := fun k => (fNm (S.2 f1)).getD k 0) l g h hfi hni hsc hb0 hn hlen hf hij hj (by have := (hnb f1 (by omega)).1; omega) (fun k hk => (hnb f1 (by omega)).2 k hk)) (z_in k_360 rfl) (z_in k_17 rfl) (z_in k_357 rfl) (z_in k_358 rfl) (z_in k_359 rfl) (by decide +kernel) ⟨by first | exact Nat.le_of_ble_eq_true rfl | (dsimp only; omega) | omega, by first | exact Nat.le_of_ble_eq_true rfl | (dsimp only; omega) | omega⟩ hK hE hw hA rfl hfi rfl hl.1 (Nat.le_of_ble_eq_true rfl) d_Schema_meantFrom_45 ⟨by first | exact Nat.le_of_ble_eq_true rfl | (dsimp only; omega) | omega, by first | exact Nat.le_of_ble_eq_true rfl | (dsimp only; omega) | omega⟩ rfl (fun r9 h9 H locs hp hw => ?_)
          obtain ⟨r8, h8⟩ := hp
          subst r8
          subst h8
          refine W.eq (g2 := F0 m 48 ls [.int (zb (isNm t i j (S.2 f1)))]) rfl ?_
          refine lv_if_eq (tgt := 54) hx hb d_Schema_meantFrom_48 (by decide) (fun c_48 => ?_) (fun c_48 => ?_)
          · -- 48: True
            have c_48 : (isNm t i j (S.2 f1)) = false := zb_f c_48
            refine lv_aload hx hb d_Schema_meantFrom_54 (lv_at hl 0 rfl) ?_
            refine z_getN hx hb hts (z_lay i_Field) hown hK hw hfi rfl 1 (by decide) hE.nest (z_inN k_408 rfl) (fun _ h9 => h9) rfl d_Schema_meantFrom_56 ?_
            refine lv_if_ne (tgt := 64) hx hb d_Schema_meantFrom_59 (by decide) (fun c_59 => ?_) (fun c_59 => ?_)
            · -- 59: True
              refine lv_iinc (v := nI (f1 + 1)) (lv' := [(4, .int (nI (f1 + 1))), (5, .ref (ad f1)), (0, .ref q), (1, .int (nI st)), (2, .int k), (3, .ref sc)]) hx hb d_Schema_meantFrom_64 hl (k := 5) rfl (nI_1 f1) (by decide) rfl (fun ls hl => ?_)
              refine lv_goto (tgt := 3) hx hb d_Schema_meantFrom_67 (by decide) ?_
              refine ih_3 (f1 + 1) _ _ _ (by omega) ((mnt_opt (by omega) c_31 c_48 c_59).symm.trans hR9) ?_ hw (lv_sub hl [2, 3, 4, 5, 0] rfl)
              omega
            · -- 59: False
              refine lv_iconst (v := (-1)) hx hb d_Schema_meantFrom_62 (by decide) ?_
              exact z_iret hx hb hr hlocks hw (by refine ⟨congrArg some (congrArg Value.int ?_), rfl⟩; unfold mnt; rw [← hR9, mnt_req (by omega) c_31 c_48 c_59]) (by decide) (by decide) d_Schema_meantFrom_63
          · -- 48: False
            have c_48 : (isNm t i j (S.2 f1)) = true := zb_t c_48
            refine lv_iload hx hb d_Schema_meantFrom_51 (lv_at hl 5 rfl) ?_
            exact z_iret hx hb hr hlocks hw (by refine ⟨congrArg some (congrArg Value.int ?_), rfl⟩; unfold mnt; rw [← hR9, mnt_hit (by omega) c_31 c_48]) (by decide) (by decide) d_Schema_meantFrom_53
  exact loop_3 (S.1 - st + 1) st  _ _ _  (by omega) rfl (by omega) hw (lv_sub hl [1, 2, 3, 4, 0] rfl)

set_option maxHeartbeats 4000000 in
set_option maxRecDepth 100000 in
theorem c_Schema_hasRequiredFrom (l : Launch) (g : z_G) (h : z_H) {r q : Nat} {S : Sch} {fa ca : Nat} {ad na : Nat → Nat} {ff : Nat → Option Nat} {cf : Nat → Int32} {nf : Nat → Nat → Int32} {k : Int32} {st : Nat}  (hS : SchP g h r q S fa ca ad na ff cf nf) (hst : st < 2 ^ 30) : z_C l y_Schema_hasRequiredFrom prog_9_method_10_code 5 (Option.some Jvm.ClassFile.FieldType.boolean) 1 40 0 0 g [.ref q, .int (nI st), .int k] h (fun r h1 => r = some (.int (zb (hrq S k st))) ∧ h = h1) := by
  refine z_C.of (by decide) (Nat.le_of_ble_eq_true rfl) (fun pg en s m below meth cd A ls hx hb hml hr hts hown hlocks hnm hK hE hA hw hl => ?_)
  have hl : lv_has ls 5 [(0, .ref q), (1, .int (nI st)), (2, .int k)] := hl
  obtain ⟨hq, hfa, hca, hfd, hnn, hnb, hcol, hsz, hcc⟩ := id hS
  have hrt := rq_le S (-1)
  refine lv_iload_n hx hb d_Schema_hasRequiredFrom_0 rfl (lv_at hl 1 rfl) ?_
  refine lv_istore_n (lv' := [(3, .int (nI st)), (0, .ref q), (1, .int (nI st)), (2, .int k)]) hx hb d_Schema_hasRequiredFrom_1 rfl hl (by decide) rfl (fun ls hl => ?_)
  have loop_2 : ∀ (fuel : Nat) (f1 : Nat) (H : Heap) (locs : List Loc) (ls : Array Slot)  (hle : f1 ≤ S.1 ∨ f1 = st) (hR9 : hrqR S k (S.1 - f1) f1 = hrqR S k (S.1 - st) st), (S.1 - f1) < fuel → z_S g A s.heap h H locs → lv_has ls 5 [(0, .ref q), (1, .int (nI st)), (2, .int k), (3, .int (nI f1))] → W pg l en { frames := 1, cells := 0, slots := 0, locals := 40 } s m [.ref q, .int (nI st), .int k].toArray below meth cd H locs 0 0 (MQ below (z_Q g A (fun r h1 => r = some (.int (zb (hrq S k st))) ∧ h = h1)) [.ref q, .int (nI st), .int k].toArray s 0 0 A) (F0 m 2 ls []) := by
    intro fuel
    induction fuel with
    | zero => intro f1 H locs ls hle hR9 hm; exact absurd hm (Nat.not_lt_zero _)
    | succ fuel ih_2 =>
      intro f1 H locs ls hle hR9 hm hw hl
      refine lv_iload_n hx hb d_Schema_hasRequiredFrom_2 rfl (lv_at hl 3 rfl) ?_
      refine lv_aload_n hx hb d_Schema_hasRequiredFrom_3 rfl (lv_at hl 0 rfl) ?_
      refine z_get hx hb hts (z_lay i_Schema) hown hK hw hq rfl 2 (by decide) (z_in k_66 rfl) (fun _ h9 => h9) rfl d_Schema_hasRequiredFrom_4 ?_
      refine lv_icmp_ge (tgt := 47) hx hb d_Schema_hasRequiredFrom_7 (by decide) (fun c_7 => ?_) (fun c_7 => ?_)
      · -- 7: True
        have c_7 : S.1 ≤ f1 := (nI_leI (a := S.1) (b := f1) (by omega) (by omega)).mp c_7
        refine lv_iconst (v := 0) hx hb d_Schema_hasRequiredFrom_47 (by decide) ?_
        exact z_zret hx hb hr rfl hlocks hw (by refine ⟨congrArg some (congrArg Value.int ?_), rfl⟩; unfold hrq; rw [← hR9, show S.1 - f1 = 0 by omega]; rfl) (by decide) (by decide) d_Schema_hasRequiredFrom_48
      · -- 7: False
        have c_7 : ¬ (S.1 ≤ f1) := fun z => c_7 ((nI_leI (a := S.1) (b := f1) (by omega) (by omega)).mpr z)
        have hfi := (hfd f1 (by omega)).2
        have hni := hnn f1 (by omega)
        refine lv_aload_n hx hb d_Schema_hasRequiredFrom_10 rfl (lv_at hl 0 rfl) ?_
        refine lv_iload_n hx hb d_Schema_hasRequiredFrom_11 rfl (lv_at hl 3 rfl) ?_
        refine z_callV (n := 1) (As := [.int (nI f1)]) (rest := []) ⟨hx, hb, hml, hown, hts⟩ (c_Schema_fieldAt (i := f1) l g h hS (by omega)) (z_in k_356 rfl) (z_in k_4 rfl) (z_in k_353 rfl) (z_in k_354 rfl) (z_in k_355 rfl) (by decide +kernel) ⟨by first | exact Nat.le_of_ble_eq_true rfl | (dsimp only; omega) | omega, by first | exact Nat.le_of_ble_eq_true rfl | (dsimp only; omega) | omega⟩ hK hE hw hA rfl hq rfl hl.1 (Nat.le_of_ble_eq_true rfl) d_Schema_hasRequiredFrom_12 ⟨by first | exact Nat.le_of_ble_eq_true rfl | (dsimp only; omega) | omega, by first | exact Nat.le_of_ble_eq_true rfl | (dsimp only; omega) | omega⟩ rfl (fun r9 h9 H locs hp hw => ?_)
        obtain ⟨r8, h8⟩ := hp
        subst r8
        subst h8
        refine W.eq (g2 := F0 m 15 ls [.ref (ad f1)]) rfl ?_
        refine lv_astore (lv' := [(4, .ref (ad f1)), (0, .ref q), (1, .int (nI st)), (2, .int k), (3, .int (nI f1))]) hx hb d_Schema_hasRequiredFrom_15 hl (by decide) rfl (fun ls hl => ?_)
        refine lv_aload hx hb d_Schema_hasRequiredFrom_17 (lv_at hl 0 rfl) ?_
        refine lv_ifnull hx hb d_Schema_hasRequiredFrom_19 ?_
        refine lv_aload hx hb d_Schema_hasRequiredFrom_22 (lv_at hl 0 rfl) ?_
        refine z_getN hx hb hts (z_lay i_Field) hown hK hw hfi rfl 3 (by decide) hE.nest (z_inN k_415 rfl) (fun _ h9 => h9) rfl d_Schema_hasRequiredFrom_24 ?_
        refine lv_iload_n hx hb d_Schema_hasRequiredFrom_27 rfl (lv_at hl 3 rfl) ?_
        refine lv_icmp_ne (tgt := 41) hx hb d_Schema_hasRequiredFrom_28 (by decide) (fun c_28 => ?_) (fun c_28 => ?_)
        · -- 28: True
          refine lv_iinc (v := nI (f1 + 1)) (lv' := [(3, .int (nI (f1 + 1))), (4, .ref (ad f1)), (0, .ref q), (1, .int (nI st)), (2, .int k)]) hx hb d_Schema_hasRequiredFrom_41 hl (k := 4) rfl (nI_1 f1) (by decide) rfl (fun ls hl => ?_)
          refine lv_goto (tgt := 2) hx hb d_Schema_hasRequiredFrom_44 (by decide) ?_
          refine ih_2 (f1 + 1) _ _ _ (by omega) ((hrq_step (by omega) (by rw [decide_eq_false c_28]; rfl)).symm.trans hR9) ?_ hw (lv_sub hl [2, 3, 4, 0] rfl)
          omega
        · -- 28: False
          refine lv_aload hx hb d_Schema_hasRequiredFrom_31 (lv_at hl 0 rfl) ?_
          refine z_getN hx hb hts (z_lay i_Field) hown hK hw hfi rfl 1 (by decide) hE.nest (z_inN k_408 rfl) (fun _ h9 => h9) rfl d_Schema_hasRequiredFrom_33 ?_
          refine lv_if_ne (tgt := 41) hx hb d_Schema_hasRequiredFrom_36 (by decide) (fun c_36 => ?_) (fun c_36 => ?_)
          · -- 36: True
            refine lv_iinc (v := nI (f1 + 1)) (lv' := [(3, .int (nI (f1 + 1))), (4, .ref (ad f1)), (0, .ref q), (1, .int (nI st)), (2, .int k)]) hx hb d_Schema_hasRequiredFrom_41 hl (k := 4) rfl (nI_1 f1) (by decide) rfl (fun ls hl => ?_)
            refine lv_goto (tgt := 2) hx hb d_Schema_hasRequiredFrom_44 (by decide) ?_
            refine ih_2 (f1 + 1) _ _ _ (by omega) ((hrq_step (by omega) (by rw [decide_eq_false c_36, Bool.and_false])).symm.trans hR9) ?_ hw (lv_sub hl [2, 3, 4, 0] rfl)
            omega
          · -- 36: False
            refine lv_iconst (v := 1) hx hb d_Schema_hasRequiredFrom_39 (by decide) ?_
            exact z_zret hx hb hr rfl hlocks hw (by refine ⟨congrArg some (congrArg Value.int ?_), rfl⟩; unfold hrq; rw [← hR9, hrq_hit (by omega) (by rw [decide_eq_true c_28, decide_eq_true c_36]; rfl)]; rfl) (by decide) (by decide) d_Schema_hasRequiredFrom_40
  exact loop_2 (S.1 - st + 1) st  _ _ _  (by omega) rfl (by omega) hw (lv_sub hl [1, 2, 3, 0] rfl)

set_option maxHeartbeats 4000000 in
set_option maxRecDepth 100000 in
theorem c_Schema_init (l : Launch) (g : z_G) (h : z_H) {q r : Nat} (hq : h q = some ((r, 0), .inr (3, [.null, .null, .int 0, .int 0, .int 0])))  : z_C l y_Schema_init prog_9_method_1_code 1 (Option.none : Option Jvm.ClassFile.FieldType) 1 14 2 192 g [.ref q] h (fun x h1 => ∃ fa ca, x = none ∧ h1 q = some ((r, 0), .inr (3, [.ref fa, .ref ca, .int 0, .int 0, .int 0])) ∧ h1 fa = some ((r, 1), .inl (g.2.1 3, 128, .inr (.inr (.inr (.inr (fun _ => none)))))) ∧ h1 ca = some ((r, 2), .inl (g.2.1 1, 64, .inl (fun _ => 0))) ∧ z_K (fun x => x = r) h h1) := by
  refine z_C.of (by decide) (Nat.le_of_ble_eq_true rfl) (fun pg en s m below meth cd A ls hx hb hml hr hts hown hlocks hnm hK hE hA hw hl => ?_)
  have hl : lv_has ls 1 [(0, .ref q)] := hl
  have kk0 : z_K (fun x => x = r) h h := z_K.rf
  refine lv_aload_n hx hb d_Schema_init_0 rfl (lv_at hl 0 rfl) ?_
  refine W.objInit hx hb hown (hts _ (z_in k_61 rfl)) (hts _ (z_in k_26 rfl)) (hts _ (z_in k_27 rfl)) rfl (by rw [hml]; exact hl.1) rfl d_Schema_init_1 (Nat.le_of_ble_eq_true rfl) (Nat.le_of_ble_eq_true rfl) ?_
  refine W.eq (g2 := F0 m 4 ls []) rfl ?_
  refine lv_aload_n hx hb d_Schema_init_4 rfl (lv_at hl 0 rfl) ?_
  refine lv_sipush (v := 128) hx hb d_Schema_init_5 (by decide) ?_
  refine z_newq (N' := 128) hx hb hown hts (z_in k_62 rfl) hE.2.2.2.2.2.2.2.1 hK hw hA 3 rfl (by decide) (by rfl) (by decide) (by first | exact Nat.le_of_ble_eq_true rfl | (dsimp only; omega) | omega) (by first | exact Nat.le_of_ble_eq_true rfl | (dsimp only; omega) | omega) d_Schema_init_8 (r, 1) (fun fa H n_fa hw => ?_)
  obtain ⟨h1, hh1⟩ : ∃ x9, z_put h fa (r, 1) (.inl (g.2.1 3, 128, .inr (.inr (.inr (.inr (fun _ => none)))))) = x9 := ⟨_, rfl⟩
  have hw : z_S g A s.heap h1 H [] := by rw [← hh1]; exact hw
  have ne_q_fa : q ≠ fa := fun z => by have z2 := hq; rw [z, n_fa] at z2; cases z2
  have f1_q : h1 q = some ((r, 0), .inr (3, [.null, .null, .int 0, .int 0, .int 0])) := by rw [← hh1]; exact z_keepN n_fa hq
  have f1_fa : h1 fa = some ((r, 1), .inl (g.2.1 3, 128, .inr (.inr (.inr (.inr (fun _ => none)))))) := by rw [← hh1]; exact z_put_eq
  have kk1 : z_K (fun x => x = r) h h1 := kk0.tr (by rw [← hh1]; exact z_K.new n_fa)
  refine z_putF (ty := .array (.object "SchemaRecords$Field")) hx hb hts (z_lay i_Schema) t_Schema t_Schema_ok n_Schema hown hK hw f1_q rfl 0 (by decide) (z_in k_64 rfl) (fun _ h9 => h9) rfl hnm rfl (by decide +kernel) rfl rfl (Nat.le_of_ble_eq_true rfl) d_Schema_init_11 (fun H locs hw => ?_)
  obtain ⟨h2, hh2⟩ : ∃ x9, z_put h1 q (r, 0) (.inr (3, [.ref fa, .null, .int 0, .int 0, .int 0])) = x9 := ⟨_, rfl⟩
  have hw : z_S g A s.heap h2 H locs := by rw [← hh2]; exact hw
  have f2_q : h2 q = some ((r, 0), .inr (3, [.ref fa, .null, .int 0, .int 0, .int 0])) := by rw [← hh2]; exact z_put_eq
  have f2_fa : h2 fa = some ((r, 1), .inl (g.2.1 3, 128, .inr (.inr (.inr (.inr (fun _ => none)))))) := by rw [← hh2]; exact (z_put_ne (Ne.symm ne_q_fa)).trans f1_fa
  have kk2 : z_K (fun x => x = r) h h2 := kk1.tr (by rw [← hh2]; exact z_K.put f1_q (by first | decide | simp | omega))
  refine lv_aload_n hx hb d_Schema_init_14 rfl (lv_at hl 0 rfl) ?_
  refine lv_bipush (v := 64) hx hb d_Schema_init_15 (by decide) ?_
  refine z_newa (atype := .int) (N' := 64) (a0 := (64, .inl (fun _ => 0))) hx hb hts (z_in k_82 rfl) hK hw hA 1 rfl rfl (fun C z => by cases z) (fun cA => rfl) (by decide) (by rfl) (by show _ ≤ _; simp [componentBytes]; try omega) (by first | exact Nat.le_of_ble_eq_true rfl | (dsimp only; omega) | omega) (by first | exact Nat.le_of_ble_eq_true rfl | (dsimp only; omega) | omega) d_Schema_init_17 (r, 2) (fun ca H n_ca hw => ?_)
  obtain ⟨h3, hh3⟩ : ∃ x9, z_put h2 ca (r, 2) (.inl (g.2.1 1, 64, .inl (fun _ => 0))) = x9 := ⟨_, rfl⟩
  have hw : z_S g A s.heap h3 H locs := by rw [← hh3]; exact hw
  have ne_q_ca : q ≠ ca := fun z => by have z2 := f2_q; rw [z, n_ca] at z2; cases z2
  have ne_fa_ca : fa ≠ ca := fun z => by have z2 := f2_fa; rw [z, n_ca] at z2; cases z2
  have f3_q : h3 q = some ((r, 0), .inr (3, [.ref fa, .null, .int 0, .int 0, .int 0])) := by rw [← hh3]; exact z_keepN n_ca f2_q
  have f3_fa : h3 fa = some ((r, 1), .inl (g.2.1 3, 128, .inr (.inr (.inr (.inr (fun _ => none)))))) := by rw [← hh3]; exact z_keepN n_ca f2_fa
  have f3_ca : h3 ca = some ((r, 2), .inl (g.2.1 1, 64, .inl (fun _ => 0))) := by rw [← hh3]; exact z_put_eq
  have kk3 : z_K (fun x => x = r) h h3 := kk2.tr (by rw [← hh3]; exact z_K.new n_ca)
  refine z_putF (ty := .array .int) hx hb hts (z_lay i_Schema) t_Schema t_Schema_ok n_Schema hown hK hw f3_q rfl 1 (by decide) (z_in k_65 rfl) (fun _ h9 => h9) rfl hnm rfl (by decide +kernel) rfl rfl (Nat.le_of_ble_eq_true rfl) d_Schema_init_19 (fun H locs hw => ?_)
  obtain ⟨h4, hh4⟩ : ∃ x9, z_put h3 q (r, 0) (.inr (3, [.ref fa, .ref ca, .int 0, .int 0, .int 0])) = x9 := ⟨_, rfl⟩
  have hw : z_S g A s.heap h4 H locs := by rw [← hh4]; exact hw
  have f4_q : h4 q = some ((r, 0), .inr (3, [.ref fa, .ref ca, .int 0, .int 0, .int 0])) := by rw [← hh4]; exact z_put_eq
  have f4_fa : h4 fa = some ((r, 1), .inl (g.2.1 3, 128, .inr (.inr (.inr (.inr (fun _ => none)))))) := by rw [← hh4]; exact (z_put_ne (Ne.symm ne_q_fa)).trans f3_fa
  have f4_ca : h4 ca = some ((r, 2), .inl (g.2.1 1, 64, .inl (fun _ => 0))) := by rw [← hh4]; exact (z_put_ne (Ne.symm ne_q_ca)).trans f3_ca
  have kk4 : z_K (fun x => x = r) h h4 := kk3.tr (by rw [← hh4]; exact z_K.put f3_q (by first | decide | simp | omega))
  exact z_vret hx hb hr hlocks hw ⟨fa, ca, rfl, f4_q, f4_fa, f4_ca, kk4⟩ (by decide) (by decide) d_Schema_init_22

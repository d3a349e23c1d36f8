/-- one of a few by a number -/
def swN (k : Int32) : List Int32 → Nat → Int32
  | [], _ => -1
  | a :: l, j => if k = nI j then a else swN k l (j + 1)
theorem i_of {k : Int32} {n : Nat} (h : k.toInt = (n : Int)) (hn : n < 2 ^ 31) : k = nI n := Int32.toInt_inj.mp (by rw [h, nI_toInt hn])
theorem i_ne {k : Int32} {n m : Nat} (h : k.toInt < 0 ∨ (m : Int) ≤ k.toInt) (hn : n < m) (hm : m < 2 ^ 31) : ¬ k = nI n := fun e => by
  rw [e, nI_toInt (by omega)] at h
  omega
theorem swN_out {k : Int32} {m : Nat} (h : k.toInt < 0 ∨ (m : Int) ≤ k.toInt) (hm : m < 2 ^ 31) : ∀ (l : List Int32) (j : Nat), j + l.length ≤ m → swN k l j = -1 := by
  intro l
  induction l with
  | nil => intro j _; rfl
  | cons a l ih =>
    intro j hj
    simp only [List.length_cons] at hj
    simp only [swN]
    rw [if_neg (i_ne h (by omega) hm)]
    exact ih (j + 1) (by omega)
theorem swN_in {k : Int32} {n : Nat} (h : k.toInt = (n : Int)) : ∀ (l : List Int32) (j : Nat), j ≤ n → j + l.length < 2 ^ 31 → n < j + l.length → swN k l j = l.getD (n - j) 0 := by
  intro l
  induction l with
  | nil => intro j h1 _ h3; simp only [List.length_nil] at h3; omega
  | cons a l ih =>
    intro j h1 h2 h3
    simp only [List.length_cons] at h2 h3
    simp only [swN]
    by_cases e : n = j
    · subst e
      rw [if_pos (i_of h (by omega)), Nat.sub_self]
      rfl
    · rw [if_neg (fun z => e (by rw [z, nI_toInt (by omega)] at h; omega)), ih (j + 1) (by omega) (by omega) (by omega)]
      rw [show n - j = (n - (j + 1)) + 1 by omega]
      rfl
/-- the bytes from i on are the name's first k -/
def nmE (t : Nat → Nat) (i : Nat) (nm : Nat → Nat) : Nat → Bool
  | 0 => true
  | k + 1 => nmE t i nm k && (t (i + k) == nm k)
theorem nmE_no {t nm : Nat → Nat} {i k : Nat} (h : ¬ t (i + k) = nm k) : ∀ n, k < n → nmE t i nm n = false := by
  intro n
  induction n with
  | zero => intro z; omega
  | succ n ih =>
    intro z
    simp only [nmE]
    by_cases e : k = n
    · subst e; simp [h]
    · rw [ih (by omega), Bool.false_and]
theorem sb_small : ∀ c, c < 128 → sb_b c = nI c := by decide +kernel

set_option maxHeartbeats 4000000 in
set_option maxRecDepth 100000 in
theorem c_Node_property (l : Launch) (g : z_G) (h : z_H) {nd : Nat} {tg : Nat × Nat} {fl pa ch la rq : Int32} {nu : Int64} {tx len : Nat} {tt : Nat × Nat} {f : Nat → Int32} {k : Int32} (hnd : h nd = some (tg, .inr (6, [.int fl, .int pa, .long nu, .ref tx, .int ch, .int la, .int rq]))) (htx : h tx = some (tt, .inl (g.2.1 0, len, .inl f)))  : z_C l y_Node_property prog_4_method_2_code 2 (Option.some Jvm.ClassFile.FieldType.int) 0 0 0 0 g [.ref nd, .int k] h (fun r h1 => r = some (.int (swN k [fl, pa, ch, nI len] 0)) ∧ h = h1) := by
  refine z_C.of (by decide) (Nat.le_of_ble_eq_true rfl) (fun pg en s m below meth cd A ls hx hb hml hr hts hown hlocks hnm hK hE hA hw hl => ?_)
  have hl : lv_has ls 2 [(0, .ref nd), (1, .int k)] := hl
  refine lv_iload_n hx hb d_Node_property_0 rfl (lv_at hl 1 rfl) ?_
  rcases z_sw k 4 (by decide) with c_1 | ⟨j_1, c_1, d_1⟩
  · refine lv_tableOut (tgt := 53) hx hb d_Node_property_1 (by rcases c_1 with z | z <;> first | exact Or.inl (by omega) | exact Or.inr (by omega)) (by decide) ?_
    refine lv_iconst (v := (-1)) hx hb d_Node_property_53 (by decide) ?_
    exact z_iret hx hb hr hlocks hw (by refine ⟨congrArg some (congrArg Value.int ?_), rfl⟩; refine (swN_out c_1 (by decide) _ 0 ?_).symm; simp) (by decide) (by decide) d_Node_property_54
  · match j_1, c_1, d_1 with
    | 0, c_1, d_1 =>
      refine lv_tableIn (tgt := 32) (off := 31) hx hb d_Node_property_1 (by rw [d_1]; decide) (by rw [d_1]; decide) (by rw [d_1]; rfl) (by decide) ?_
      refine lv_aload_n hx hb d_Node_property_32 rfl (lv_at hl 0 rfl) ?_
      refine z_get hx hb hts (z_lay i_Node) hown hK hw hnd rfl 0 (by decide) (z_in k_102 rfl) (fun _ h9 => h9) rfl d_Node_property_33 ?_
      exact z_iret hx hb hr hlocks hw (by refine ⟨congrArg some (congrArg Value.int ?_), rfl⟩; refine ((swN_in (n := 0) d_1 _ 0 ?_ ?_ ?_).trans ?_).symm <;> first | rfl | omega | simp) (by decide) (by decide) d_Node_property_36
    | 1, c_1, d_1 =>
      refine lv_tableIn (tgt := 37) (off := 36) hx hb d_Node_property_1 (by rw [d_1]; decide) (by rw [d_1]; decide) (by rw [d_1]; rfl) (by decide) ?_
      refine lv_aload_n hx hb d_Node_property_37 rfl (lv_at hl 0 rfl) ?_
      refine z_get hx hb hts (z_lay i_Node) hown hK hw hnd rfl 1 (by decide) (z_in k_105 rfl) (fun _ h9 => h9) rfl d_Node_property_38 ?_
      exact z_iret hx hb hr hlocks hw (by refine ⟨congrArg some (congrArg Value.int ?_), rfl⟩; refine ((swN_in (n := 1) d_1 _ 0 ?_ ?_ ?_).trans ?_).symm <;> first | rfl | omega | simp) (by decide) (by decide) d_Node_property_41
    | 2, c_1, d_1 =>
      refine lv_tableIn (tgt := 42) (off := 41) hx hb d_Node_property_1 (by rw [d_1]; decide) (by rw [d_1]; decide) (by rw [d_1]; rfl) (by decide) ?_
      refine lv_aload_n hx hb d_Node_property_42 rfl (lv_at hl 0 rfl) ?_
      refine z_get hx hb hts (z_lay i_Node) hown hK hw hnd rfl 4 (by decide) (z_in k_113 rfl) (fun _ h9 => h9) rfl d_Node_property_43 ?_
      exact z_iret hx hb hr hlocks hw (by refine ⟨congrArg some (congrArg Value.int ?_), rfl⟩; refine ((swN_in (n := 2) d_1 _ 0 ?_ ?_ ?_).trans ?_).symm <;> first | rfl | omega | simp) (by decide) (by decide) d_Node_property_46
    | 3, c_1, d_1 =>
      refine lv_tableIn (tgt := 47) (off := 46) hx hb d_Node_property_1 (by rw [d_1]; decide) (by rw [d_1]; decide) (by rw [d_1]; rfl) (by decide) ?_
      refine lv_aload_n hx hb d_Node_property_47 rfl (lv_at hl 0 rfl) ?_
      refine z_get hx hb hts (z_lay i_Node) hown hK hw hnd rfl 3 (by decide) (z_in k_110 rfl) (fun _ h9 => h9) rfl d_Node_property_48 ?_
      refine z_alen hx hb hK hw htx 0 rfl d_Node_property_51 ?_
      exact z_iret hx hb hr hlocks hw (by refine ⟨congrArg some (congrArg Value.int ?_), rfl⟩; refine ((swN_in (n := 3) d_1 _ 0 ?_ ?_ ?_).trans ?_).symm <;> first | rfl | omega | simp) (by decide) (by decide) d_Node_property_52
    | k + 4, c_1, d_1 => exact absurd c_1 (by omega)

set_option maxHeartbeats 4000000 in
set_option maxRecDepth 100000 in
theorem c_Node_property0 (l : Launch) (g : z_G) (h : z_H) {nd : Nat} {tg : Nat × Nat} {fl pa ch la rq : Int32} {nu : Int64} {k : Int32} (hnd : h nd = some (tg, .inr (6, [.int fl, .int pa, .long nu, .ref (g.2.2 0), .int ch, .int la, .int rq])))  : z_C l y_Node_property prog_4_method_2_code 2 (Option.some Jvm.ClassFile.FieldType.int) 0 0 0 0 g [.ref nd, .int k] h (fun r h1 => r = some (.int (swN k [fl, pa, ch, nI 0] 0)) ∧ h = h1) := by
  refine z_C.of (by decide) (Nat.le_of_ble_eq_true rfl) (fun pg en s m below meth cd A ls hx hb hml hr hts hown hlocks hnm hK hE hA hw hl => ?_)
  have hl : lv_has ls 2 [(0, .ref nd), (1, .int k)] := hl
  refine lv_iload_n hx hb d_Node_property_0 rfl (lv_at hl 1 rfl) ?_
  rcases z_sw k 4 (by decide) with c_1 | ⟨j_1, c_1, d_1⟩
  · refine lv_tableOut (tgt := 53) hx hb d_Node_property_1 (by rcases c_1 with z | z <;> first | exact Or.inl (by omega) | exact Or.inr (by omega)) (by decide) ?_
    refine lv_iconst (v := (-1)) hx hb d_Node_property_53 (by decide) ?_
    exact z_iret hx hb hr hlocks hw (by refine ⟨congrArg some (congrArg Value.int ?_), rfl⟩; refine (swN_out c_1 (by decide) _ 0 ?_).symm; simp) (by decide) (by decide) d_Node_property_54
  · match j_1, c_1, d_1 with
    | 0, c_1, d_1 =>
      refine lv_tableIn (tgt := 32) (off := 31) hx hb d_Node_property_1 (by rw [d_1]; decide) (by rw [d_1]; decide) (by rw [d_1]; rfl) (by decide) ?_
      refine lv_aload_n hx hb d_Node_property_32 rfl (lv_at hl 0 rfl) ?_
      refine z_get hx hb hts (z_lay i_Node) hown hK hw hnd rfl 0 (by decide) (z_in k_102 rfl) (fun _ h9 => h9) rfl d_Node_property_33 ?_
      exact z_iret hx hb hr hlocks hw (by refine ⟨congrArg some (congrArg Value.int ?_), rfl⟩; refine ((swN_in (n := 0) d_1 _ 0 ?_ ?_ ?_).trans ?_).symm <;> first | rfl | omega | simp) (by decide) (by decide) d_Node_property_36
    | 1, c_1, d_1 =>
      refine lv_tableIn (tgt := 37) (off := 36) hx hb d_Node_property_1 (by rw [d_1]; decide) (by rw [d_1]; decide) (by rw [d_1]; rfl) (by decide) ?_
      refine lv_aload_n hx hb d_Node_property_37 rfl (lv_at hl 0 rfl) ?_
      refine z_get hx hb hts (z_lay i_Node) hown hK hw hnd rfl 1 (by decide) (z_in k_105 rfl) (fun _ h9 => h9) rfl d_Node_property_38 ?_
      exact z_iret hx hb hr hlocks hw (by refine ⟨congrArg some (congrArg Value.int ?_), rfl⟩; refine ((swN_in (n := 1) d_1 _ 0 ?_ ?_ ?_).trans ?_).symm <;> first | rfl | omega | simp) (by decide) (by decide) d_Node_property_41
    | 2, c_1, d_1 =>
      refine lv_tableIn (tgt := 42) (off := 41) hx hb d_Node_property_1 (by rw [d_1]; decide) (by rw [d_1]; decide) (by rw [d_1]; rfl) (by decide) ?_
      refine lv_aload_n hx hb d_Node_property_42 rfl (lv_at hl 0 rfl) ?_
      refine z_get hx hb hts (z_lay i_Node) hown hK hw hnd rfl 4 (by decide) (z_in k_113 rfl) (fun _ h9 => h9) rfl d_Node_property_43 ?_
      exact z_iret hx hb hr hlocks hw (by refine ⟨congrArg some (congrArg Value.int ?_), rfl⟩; refine ((swN_in (n := 2) d_1 _ 0 ?_ ?_ ?_).trans ?_).symm <;> first | rfl | omega | simp) (by decide) (by decide) d_Node_property_46
    | 3, c_1, d_1 =>
      refine lv_tableIn (tgt := 47) (off := 46) hx hb d_Node_property_1 (by rw [d_1]; decide) (by rw [d_1]; decide) (by rw [d_1]; rfl) (by decide) ?_
      refine lv_aload_n hx hb d_Node_property_47 rfl (lv_at hl 0 rfl) ?_
      refine z_get hx hb hts (z_lay i_Node) hown hK hw hnd rfl 3 (by decide) (z_in k_110 rfl) (fun _ h9 => h9) rfl d_Node_property_48 ?_
      refine z_noblen hx hb hE hw d_Node_property_51 ?_
      exact z_iret hx hb hr hlocks hw (by refine ⟨congrArg some (congrArg Value.int ?_), rfl⟩; refine ((swN_in (n := 3) d_1 _ 0 ?_ ?_ ?_).trans ?_).symm <;> first | rfl | omega | simp) (by decide) (by decide) d_Node_property_52
    | k + 4, c_1, d_1 => exact absurd c_1 (by omega)

set_option maxHeartbeats 4000000 in
set_option maxRecDepth 100000 in
theorem c_Node_init (l : Launch) (g : z_G) (h : z_H) {nd tx : Nat} {tg : Nat × Nat} {fl pa : Int32} {nu : Int64} (hnd : h nd = some (tg, .inr (6, [.int 0, .int 0, .long 0, .null, .int 0, .int 0, .int 0])))  : z_C l y_Node_init prog_4_method_1_code 6 (Option.none : Option Jvm.ClassFile.FieldType) 1 12 0 0 g [.ref nd, .int fl, .int pa, .long nu, .ref tx] h (fun r h1 => r = none ∧ z_put h nd tg (.inr (6, [.int fl, .int pa, .long nu, .ref tx, .int 0, .int (-1), .int 0])) = h1) := by
  refine z_C.of (by decide) (Nat.le_of_ble_eq_true rfl) (fun pg en s m below meth cd A ls hx hb hml hr hts hown hlocks hnm hK hE hA hw hl => ?_)
  have hl : lv_has ls 6 [(0, .ref nd), (1, .int fl), (2, .int pa), (3, .long nu), (5, .ref tx)] := hl
  refine lv_aload_n hx hb d_Node_init_0 rfl (lv_at hl 0 rfl) ?_
  refine W.objInit hx hb hown (hts _ (z_in k_101 rfl)) (hts _ (z_in k_26 rfl)) (hts _ (z_in k_27 rfl)) rfl (by rw [hml]; exact hl.1) rfl d_Node_init_1 (Nat.le_of_ble_eq_true rfl) (Nat.le_of_ble_eq_true rfl) ?_
  refine W.eq (g2 := F0 m 4 ls []) rfl ?_
  refine lv_aload_n hx hb d_Node_init_4 rfl (lv_at hl 0 rfl) ?_
  refine lv_iload_n hx hb d_Node_init_5 rfl (lv_at hl 1 rfl) ?_
  refine z_putF (ty := .int) hx hb hts (z_lay i_Node) t_Node t_Node_ok n_Node hown hK hw hnd rfl 0 (by decide) (z_in k_102 rfl) (fun _ h9 => h9) rfl hnm rfl (by decide +kernel) rfl rfl (Nat.le_of_ble_eq_true rfl) d_Node_init_6 (fun H locs hw => ?_)
  obtain ⟨h1, hh1⟩ : ∃ x9, z_put h nd tg (.inr (6, [.int fl, .int 0, .long 0, .null, .int 0, .int 0, .int 0])) = x9 := ⟨_, rfl⟩
  have hw : z_S g A s.heap h1 H locs := by rw [← hh1]; exact hw
  have f1_nd : h1 nd = some (tg, .inr (6, [.int fl, .int 0, .long 0, .null, .int 0, .int 0, .int 0])) := by rw [← hh1]; exact z_put_eq
  refine lv_aload_n hx hb d_Node_init_9 rfl (lv_at hl 0 rfl) ?_
  refine lv_iload_n hx hb d_Node_init_10 rfl (lv_at hl 2 rfl) ?_
  refine z_putF (ty := .int) hx hb hts (z_lay i_Node) t_Node t_Node_ok n_Node hown hK hw f1_nd rfl 1 (by decide) (z_in k_105 rfl) (fun _ h9 => h9) rfl hnm rfl (by decide +kernel) rfl rfl (Nat.le_of_ble_eq_true rfl) d_Node_init_11 (fun H locs hw => ?_)
  obtain ⟨h2, hh2⟩ : ∃ x9, z_put h1 nd tg (.inr (6, [.int fl, .int pa, .long 0, .null, .int 0, .int 0, .int 0])) = x9 := ⟨_, rfl⟩
  have hw : z_S g A s.heap h2 H locs := by rw [← hh2]; exact hw
  have f2_nd : h2 nd = some (tg, .inr (6, [.int fl, .int pa, .long 0, .null, .int 0, .int 0, .int 0])) := by rw [← hh2]; exact z_put_eq
  refine lv_aload_n hx hb d_Node_init_14 rfl (lv_at hl 0 rfl) ?_
  refine lv_lload_n hx hb d_Node_init_15 rfl (lv_at hl 3 rfl) ?_
  refine z_putF (ty := .long) hx hb hts (z_lay i_Node) t_Node t_Node_ok n_Node hown hK hw f2_nd rfl 2 (by decide) (z_in k_107 rfl) (fun _ h9 => h9) rfl hnm rfl (by decide +kernel) rfl rfl (Nat.le_of_ble_eq_true rfl) d_Node_init_16 (fun H locs hw => ?_)
  obtain ⟨h3, hh3⟩ : ∃ x9, z_put h2 nd tg (.inr (6, [.int fl, .int pa, .long nu, .null, .int 0, .int 0, .int 0])) = x9 := ⟨_, rfl⟩
  have hw : z_S g A s.heap h3 H locs := by rw [← hh3]; exact hw
  have f3_nd : h3 nd = some (tg, .inr (6, [.int fl, .int pa, .long nu, .null, .int 0, .int 0, .int 0])) := by rw [← hh3]; exact z_put_eq
  refine lv_aload_n hx hb d_Node_init_19 rfl (lv_at hl 0 rfl) ?_
  refine lv_aload hx hb d_Node_init_20 (lv_at hl 4 rfl) ?_
  refine z_putF (ty := .array .byte) hx hb hts (z_lay i_Node) t_Node t_Node_ok n_Node hown hK hw f3_nd rfl 3 (by decide) (z_in k_110 rfl) (fun _ h9 => h9) rfl hnm rfl (by decide +kernel) rfl rfl (Nat.le_of_ble_eq_true rfl) d_Node_init_22 (fun H locs hw => ?_)
  obtain ⟨h4, hh4⟩ : ∃ x9, z_put h3 nd tg (.inr (6, [.int fl, .int pa, .long nu, .ref tx, .int 0, .int 0, .int 0])) = x9 := ⟨_, rfl⟩
  have hw : z_S g A s.heap h4 H locs := by rw [← hh4]; exact hw
  have f4_nd : h4 nd = some (tg, .inr (6, [.int fl, .int pa, .long nu, .ref tx, .int 0, .int 0, .int 0])) := by rw [← hh4]; exact z_put_eq
  refine lv_aload_n hx hb d_Node_init_25 rfl (lv_at hl 0 rfl) ?_
  refine lv_iconst (v := (-1)) hx hb d_Node_init_26 (by decide) ?_
  refine z_putf (ty := .int) hx hb hts (z_lay i_Node) t_Node t_Node_ok n_Node hown hK hw f4_nd rfl 5 (by decide) (z_in k_116 rfl) (fun _ h9 => h9) rfl (by decide +kernel) rfl rfl (Nat.le_of_ble_eq_true rfl) d_Node_init_27 (fun H locs hw => ?_)
  obtain ⟨h5, hh5⟩ : ∃ x9, z_put h4 nd tg (.inr (6, [.int fl, .int pa, .long nu, .ref tx, .int 0, .int (-1), .int 0])) = x9 := ⟨_, rfl⟩
  have hw : z_S g A s.heap h5 H locs := by rw [← hh5]; exact hw
  have f5_nd : h5 nd = some (tg, .inr (6, [.int fl, .int pa, .long nu, .ref tx, .int 0, .int (-1), .int 0])) := by rw [← hh5]; exact z_put_eq
  exact z_vret hx hb hr hlocks hw ⟨rfl, by rw [← hh5, ← hh4, ← hh3, ← hh2, ← hh1, z_put_put, z_put_put, z_put_put, z_put_put]⟩ (by decide) (by decide) d_Node_init_30

set_option maxHeartbeats 4000000 in
set_option maxRecDepth 100000 in
theorem c_Field_property (l : Launch) (g : z_G) (h : z_H) {fd na len : Nat} {tg tn : Nat × Nat} {nu ki ty gr co re de rq : Int32} {f : Nat → Int32} {k : Int32} (hfd : h fd = some (tg, .inr (4, [.int nu, .int ki, .int ty, .int gr, .ref na, .int co, .int re, .int de, .int rq]))) (hna : h na = some (tn, .inl (g.2.1 0, len, .inl f)))  : z_C l y_Field_property prog_3_method_2_code 2 (Option.some Jvm.ClassFile.FieldType.int) 0 0 0 0 g [.ref fd, .int k] h (fun r h1 => r = some (.int (swN k [ki, ty, gr, co, nI len, re, de] 0)) ∧ h = h1) := by
  refine z_C.of (by decide) (Nat.le_of_ble_eq_true rfl) (fun pg en s m below meth cd A ls hx hb hml hr hts hown hlocks hnm hK hE hA hw hl => ?_)
  have hl : lv_has ls 2 [(0, .ref fd), (1, .int k)] := hl
  refine lv_iload_n hx hb d_Field_property_0 rfl (lv_at hl 1 rfl) ?_
  rcases z_sw k 7 (by decide) with c_1 | ⟨j_1, c_1, d_1⟩
  · refine lv_tableOut (tgt := 80) hx hb d_Field_property_1 (by rcases c_1 with z | z <;> first | exact Or.inl (by omega) | exact Or.inr (by omega)) (by decide) ?_
    refine lv_iconst (v := (-1)) hx hb d_Field_property_80 (by decide) ?_
    exact z_iret hx hb hr hlocks hw (by refine ⟨congrArg some (congrArg Value.int ?_), rfl⟩; refine (swN_out c_1 (by decide) _ 0 ?_).symm; simp) (by decide) (by decide) d_Field_property_81
  · match j_1, c_1, d_1 with
    | 0, c_1, d_1 =>
      refine lv_tableIn (tgt := 44) (off := 43) hx hb d_Field_property_1 (by rw [d_1]; decide) (by rw [d_1]; decide) (by rw [d_1]; rfl) (by decide) ?_
      refine lv_aload_n hx hb d_Field_property_44 rfl (lv_at hl 0 rfl) ?_
      refine z_get hx hb hts (z_lay i_Field) hown hK hw hfd rfl 1 (by decide) (z_in k_404 rfl) (fun _ h9 => h9) rfl d_Field_property_45 ?_
      exact z_iret hx hb hr hlocks hw (by refine ⟨congrArg some (congrArg Value.int ?_), rfl⟩; refine ((swN_in (n := 0) d_1 _ 0 ?_ ?_ ?_).trans ?_).symm <;> first | rfl | omega | simp) (by decide) (by decide) d_Field_property_48
    | 1, c_1, d_1 =>
      refine lv_tableIn (tgt := 49) (off := 48) hx hb d_Field_property_1 (by rw [d_1]; decide) (by rw [d_1]; decide) (by rw [d_1]; rfl) (by decide) ?_
      refine lv_aload_n hx hb d_Field_property_49 rfl (lv_at hl 0 rfl) ?_
      refine z_get hx hb hts (z_lay i_Field) hown hK hw hfd rfl 2 (by decide) (z_in k_409 rfl) (fun _ h9 => h9) rfl d_Field_property_50 ?_
      exact z_iret hx hb hr hlocks hw (by refine ⟨congrArg some (congrArg Value.int ?_), rfl⟩; refine ((swN_in (n := 1) d_1 _ 0 ?_ ?_ ?_).trans ?_).symm <;> first | rfl | omega | simp) (by decide) (by decide) d_Field_property_53
    | 2, c_1, d_1 =>
      refine lv_tableIn (tgt := 54) (off := 53) hx hb d_Field_property_1 (by rw [d_1]; decide) (by rw [d_1]; decide) (by rw [d_1]; rfl) (by decide) ?_
      refine lv_aload_n hx hb d_Field_property_54 rfl (lv_at hl 0 rfl) ?_
      refine z_get hx hb hts (z_lay i_Field) hown hK hw hfd rfl 3 (by decide) (z_in k_413 rfl) (fun _ h9 => h9) rfl d_Field_property_55 ?_
      exact z_iret hx hb hr hlocks hw (by refine ⟨congrArg some (congrArg Value.int ?_), rfl⟩; refine ((swN_in (n := 2) d_1 _ 0 ?_ ?_ ?_).trans ?_).symm <;> first | rfl | omega | simp) (by decide) (by decide) d_Field_property_58
    | 3, c_1, d_1 =>
      refine lv_tableIn (tgt := 59) (off := 58) hx hb d_Field_property_1 (by rw [d_1]; decide) (by rw [d_1]; decide) (by rw [d_1]; rfl) (by decide) ?_
      refine lv_aload_n hx hb d_Field_property_59 rfl (lv_at hl 0 rfl) ?_
      refine z_get hx hb hts (z_lay i_Field) hown hK hw hfd rfl 5 (by decide) (z_in k_419 rfl) (fun _ h9 => h9) rfl d_Field_property_60 ?_
      exact z_iret hx hb hr hlocks hw (by refine ⟨congrArg some (congrArg Value.int ?_), rfl⟩; refine ((swN_in (n := 3) d_1 _ 0 ?_ ?_ ?_).trans ?_).symm <;> first | rfl | omega | simp) (by decide) (by decide) d_Field_property_63
    | 4, c_1, d_1 =>
      refine lv_tableIn (tgt := 64) (off := 63) hx hb d_Field_property_1 (by rw [d_1]; decide) (by rw [d_1]; decide) (by rw [d_1]; rfl) (by decide) ?_
      refine lv_aload_n hx hb d_Field_property_64 rfl (lv_at hl 0 rfl) ?_
      refine z_get hx hb hts (z_lay i_Field) hown hK hw hfd rfl 4 (by decide) (z_in k_416 rfl) (fun _ h9 => h9) rfl d_Field_property_65 ?_
      refine z_alen hx hb hK hw hna 0 rfl d_Field_property_68 ?_
      exact z_iret hx hb hr hlocks hw (by refine ⟨congrArg some (congrArg Value.int ?_), rfl⟩; refine ((swN_in (n := 4) d_1 _ 0 ?_ ?_ ?_).trans ?_).symm <;> first | rfl | omega | simp) (by decide) (by decide) d_Field_property_69
    | 5, c_1, d_1 =>
      refine lv_tableIn (tgt := 70) (off := 69) hx hb d_Field_property_1 (by rw [d_1]; decide) (by rw [d_1]; decide) (by rw [d_1]; rfl) (by decide) ?_
      refine lv_aload_n hx hb d_Field_property_70 rfl (lv_at hl 0 rfl) ?_
      refine z_get hx hb hts (z_lay i_Field) hown hK hw hfd rfl 6 (by decide) (z_in k_421 rfl) (fun _ h9 => h9) rfl d_Field_property_71 ?_
      exact z_iret hx hb hr hlocks hw (by refine ⟨congrArg some (congrArg Value.int ?_), rfl⟩; refine ((swN_in (n := 5) d_1 _ 0 ?_ ?_ ?_).trans ?_).symm <;> first | rfl | omega | simp) (by decide) (by decide) d_Field_property_74
    | 6, c_1, d_1 =>
      refine lv_tableIn (tgt := 75) (off := 74) hx hb d_Field_property_1 (by rw [d_1]; decide) (by rw [d_1]; decide) (by rw [d_1]; rfl) (by decide) ?_
      refine lv_aload_n hx hb d_Field_property_75 rfl (lv_at hl 0 rfl) ?_
      refine z_get hx hb hts (z_lay i_Field) hown hK hw hfd rfl 7 (by decide) (z_in k_423 rfl) (fun _ h9 => h9) rfl d_Field_property_76 ?_
      exact z_iret hx hb hr hlocks hw (by refine ⟨congrArg some (congrArg Value.int ?_), rfl⟩; refine ((swN_in (n := 6) d_1 _ 0 ?_ ?_ ?_).trans ?_).symm <;> first | rfl | omega | simp) (by decide) (by decide) d_Field_property_79
    | k + 7, c_1, d_1 => exact absurd c_1 (by omega)

set_option maxHeartbeats 4000000 in
set_option maxRecDepth 100000 in
theorem c_Field_init (l : Launch) (g : z_G) (h : z_H) {fd na : Nat} {tg : Nat × Nat} {nu ki ty gr : Int32} (hfd : h fd = some (tg, .inr (4, [.int 0, .int 0, .int 0, .int 0, .null, .int 0, .int 0, .int 0, .int 0])))  : z_C l y_Field_init prog_3_method_1_code 6 (Option.none : Option Jvm.ClassFile.FieldType) 1 12 0 0 g [.ref fd, .int nu, .int ki, .int ty, .int gr, .ref na] h (fun r h1 => r = none ∧ z_put h fd tg (.inr (4, [.int nu, .int ki, .int ty, .int gr, .ref na, .int (-1), .int 0, .int 0, .int 0])) = h1) := by
  refine z_C.of (by decide) (Nat.le_of_ble_eq_true rfl) (fun pg en s m below meth cd A ls hx hb hml hr hts hown hlocks hnm hK hE hA hw hl => ?_)
  have hl : lv_has ls 6 [(0, .ref fd), (1, .int nu), (2, .int ki), (3, .int ty), (4, .int gr), (5, .ref na)] := hl
  refine lv_aload_n hx hb d_Field_init_0 rfl (lv_at hl 0 rfl) ?_
  refine W.objInit hx hb hown (hts _ (z_in k_398 rfl)) (hts _ (z_in k_26 rfl)) (hts _ (z_in k_27 rfl)) rfl (by rw [hml]; exact hl.1) rfl d_Field_init_1 (Nat.le_of_ble_eq_true rfl) (Nat.le_of_ble_eq_true rfl) ?_
  refine W.eq (g2 := F0 m 4 ls []) rfl ?_
  refine lv_aload_n hx hb d_Field_init_4 rfl (lv_at hl 0 rfl) ?_
  refine lv_iload_n hx hb d_Field_init_5 rfl (lv_at hl 1 rfl) ?_
  refine z_putF (ty := .int) hx hb hts (z_lay i_Field) t_Field t_Field_ok n_Field hown hK hw hfd rfl 0 (by decide) (z_in k_399 rfl) (fun _ h9 => h9) rfl hnm rfl (by decide +kernel) rfl rfl (Nat.le_of_ble_eq_true rfl) d_Field_init_6 (fun H locs hw => ?_)
  obtain ⟨h1, hh1⟩ : ∃ x9, z_put h fd tg (.inr (4, [.int nu, .int 0, .int 0, .int 0, .null, .int 0, .int 0, .int 0, .int 0])) = x9 := ⟨_, rfl⟩
  have hw : z_S g A s.heap h1 H locs := by rw [← hh1]; exact hw
  have f1_fd : h1 fd = some (tg, .inr (4, [.int nu, .int 0, .int 0, .int 0, .null, .int 0, .int 0, .int 0, .int 0])) := by rw [← hh1]; exact z_put_eq
  refine lv_aload_n hx hb d_Field_init_9 rfl (lv_at hl 0 rfl) ?_
  refine lv_iload_n hx hb d_Field_init_10 rfl (lv_at hl 2 rfl) ?_
  refine z_putF (ty := .int) hx hb hts (z_lay i_Field) t_Field t_Field_ok n_Field hown hK hw f1_fd rfl 1 (by decide) (z_in k_404 rfl) (fun _ h9 => h9) rfl hnm rfl (by decide +kernel) rfl rfl (Nat.le_of_ble_eq_true rfl) d_Field_init_11 (fun H locs hw => ?_)
  obtain ⟨h2, hh2⟩ : ∃ x9, z_put h1 fd tg (.inr (4, [.int nu, .int ki, .int 0, .int 0, .null, .int 0, .int 0, .int 0, .int 0])) = x9 := ⟨_, rfl⟩
  have hw : z_S g A s.heap h2 H locs := by rw [← hh2]; exact hw
  have f2_fd : h2 fd = some (tg, .inr (4, [.int nu, .int ki, .int 0, .int 0, .null, .int 0, .int 0, .int 0, .int 0])) := by rw [← hh2]; exact z_put_eq
  refine lv_aload_n hx hb d_Field_init_14 rfl (lv_at hl 0 rfl) ?_
  refine lv_iload_n hx hb d_Field_init_15 rfl (lv_at hl 3 rfl) ?_
  refine z_putF (ty := .int) hx hb hts (z_lay i_Field) t_Field t_Field_ok n_Field hown hK hw f2_fd rfl 2 (by decide) (z_in k_409 rfl) (fun _ h9 => h9) rfl hnm rfl (by decide +kernel) rfl rfl (Nat.le_of_ble_eq_true rfl) d_Field_init_16 (fun H locs hw => ?_)
  obtain ⟨h3, hh3⟩ : ∃ x9, z_put h2 fd tg (.inr (4, [.int nu, .int ki, .int ty, .int 0, .null, .int 0, .int 0, .int 0, .int 0])) = x9 := ⟨_, rfl⟩
  have hw : z_S g A s.heap h3 H locs := by rw [← hh3]; exact hw
  have f3_fd : h3 fd = some (tg, .inr (4, [.int nu, .int ki, .int ty, .int 0, .null, .int 0, .int 0, .int 0, .int 0])) := by rw [← hh3]; exact z_put_eq
  refine lv_aload_n hx hb d_Field_init_19 rfl (lv_at hl 0 rfl) ?_
  refine lv_iload hx hb d_Field_init_20 (lv_at hl 4 rfl) ?_
  refine z_putF (ty := .int) hx hb hts (z_lay i_Field) t_Field t_Field_ok n_Field hown hK hw f3_fd rfl 3 (by decide) (z_in k_413 rfl) (fun _ h9 => h9) rfl hnm rfl (by decide +kernel) rfl rfl (Nat.le_of_ble_eq_true rfl) d_Field_init_22 (fun H locs hw => ?_)
  obtain ⟨h4, hh4⟩ : ∃ x9, z_put h3 fd tg (.inr (4, [.int nu, .int ki, .int ty, .int gr, .null, .int 0, .int 0, .int 0, .int 0])) = x9 := ⟨_, rfl⟩
  have hw : z_S g A s.heap h4 H locs := by rw [← hh4]; exact hw
  have f4_fd : h4 fd = some (tg, .inr (4, [.int nu, .int ki, .int ty, .int gr, .null, .int 0, .int 0, .int 0, .int 0])) := by rw [← hh4]; exact z_put_eq
  refine lv_aload_n hx hb d_Field_init_25 rfl (lv_at hl 0 rfl) ?_
  refine lv_aload hx hb d_Field_init_26 (lv_at hl 5 rfl) ?_
  refine z_putF (ty := .array .byte) hx hb hts (z_lay i_Field) t_Field t_Field_ok n_Field hown hK hw f4_fd rfl 4 (by decide) (z_in k_416 rfl) (fun _ h9 => h9) rfl hnm rfl (by decide +kernel) rfl rfl (Nat.le_of_ble_eq_true rfl) d_Field_init_28 (fun H locs hw => ?_)
  obtain ⟨h5, hh5⟩ : ∃ x9, z_put h4 fd tg (.inr (4, [.int nu, .int ki, .int ty, .int gr, .ref na, .int 0, .int 0, .int 0, .int 0])) = x9 := ⟨_, rfl⟩
  have hw : z_S g A s.heap h5 H locs := by rw [← hh5]; exact hw
  have f5_fd : h5 fd = some (tg, .inr (4, [.int nu, .int ki, .int ty, .int gr, .ref na, .int 0, .int 0, .int 0, .int 0])) := by rw [← hh5]; exact z_put_eq
  refine lv_aload_n hx hb d_Field_init_31 rfl (lv_at hl 0 rfl) ?_
  refine lv_iconst (v := (-1)) hx hb d_Field_init_32 (by decide) ?_
  refine z_putf (ty := .int) hx hb hts (z_lay i_Field) t_Field t_Field_ok n_Field hown hK hw f5_fd rfl 5 (by decide) (z_in k_419 rfl) (fun _ h9 => h9) rfl (by decide +kernel) rfl rfl (Nat.le_of_ble_eq_true rfl) d_Field_init_33 (fun H locs hw => ?_)
  obtain ⟨h6, hh6⟩ : ∃ x9, z_put h5 fd tg (.inr (4, [.int nu, .int ki, .int ty, .int gr, .ref na, .int (-1), .int 0, .int 0, .int 0])) = x9 := ⟨_, rfl⟩
  have hw : z_S g A s.heap h6 H locs := by rw [← hh6]; exact hw
  have f6_fd : h6 fd = some (tg, .inr (4, [.int nu, .int ki, .int ty, .int gr, .ref na, .int (-1), .int 0, .int 0, .int 0])) := by rw [← hh6]; exact z_put_eq
  exact z_vret hx hb hr hlocks hw ⟨rfl, by rw [← hh6, ← hh5, ← hh4, ← hh3, ← hh2, ← hh1, z_put_put, z_put_put, z_put_put, z_put_put, z_put_put]⟩ (by decide) (by decide) d_Field_init_36

set_option maxHeartbeats 4000000 in
set_option maxRecDepth 100000 in
theorem c_Field_hasInRange (l : Launch) (g : z_G) (h : z_H) {fd na : Nat} {tg : Nat × Nat} {nu ki ty gr co re de rq : Int32} {v : Int64} (hfd : h fd = some (tg, .inr (4, [.int nu, .int ki, .int ty, .int gr, .ref na, .int co, .int re, .int de, .int rq])))  : z_C l y_Field_hasInRange prog_3_method_4_code 3 (Option.some Jvm.ClassFile.FieldType.boolean) 0 0 0 0 g [.ref fd, .long v] h (fun r h1 => r = some (.int (zb (!decide (ty = 1) || decide (v = v.toInt32.toInt64)))) ∧ h = h1) := by
  refine z_C.of (by decide) (Nat.le_of_ble_eq_true rfl) (fun pg en s m below meth cd A ls hx hb hml hr hts hown hlocks hnm hK hE hA hw hl => ?_)
  have hl : lv_has ls 3 [(0, .ref fd), (1, .long v)] := hl
  refine lv_aload_n hx hb d_Field_hasInRange_0 rfl (lv_at hl 0 rfl) ?_
  refine z_get hx hb hts (z_lay i_Field) hown hK hw hfd rfl 2 (by decide) (z_in k_409 rfl) (fun _ h9 => h9) rfl d_Field_hasInRange_1 ?_
  refine lv_iconst (v := 1) hx hb d_Field_hasInRange_4 (by decide) ?_
  refine lv_icmp_ne (tgt := 16) hx hb d_Field_hasInRange_5 (by decide) (fun c_5 => ?_) (fun c_5 => ?_)
  · -- 5: True
    refine lv_iconst (v := 1) hx hb d_Field_hasInRange_16 (by decide) ?_
    refine lv_goto (tgt := 21) hx hb d_Field_hasInRange_17 (by decide) ?_
    exact z_zret hx hb hr rfl hlocks hw (by refine ⟨congrArg some (congrArg Value.int ?_), rfl⟩; rw [zb_1 (by rw [decide_eq_false c_5]; rfl)]) (by decide) (by decide) d_Field_hasInRange_21
  · -- 5: False
    refine lv_lload_n hx hb d_Field_hasInRange_8 rfl (lv_at hl 1 rfl) ?_
    refine lv_lload_n hx hb d_Field_hasInRange_9 rfl (lv_at hl 1 rfl) ?_
    refine lv_l2i hx hb d_Field_hasInRange_10 rfl ?_
    refine lv_i2l hx hb d_Field_hasInRange_11 rfl ?_
    refine W.lcmp hx hb d_Field_hasInRange_12 ?_
    refine lv_if_ne (tgt := 20) hx hb d_Field_hasInRange_13 (by decide) (fun c_13 => ?_) (fun c_13 => ?_)
    · -- 13: True
      have c_13 : ¬ ((v : Int64) = ((v.toInt32 : Int32).toInt64)) := fun z => c_13 ((lg_cmp_eq _ _).mpr z)
      refine lv_iconst (v := 0) hx hb d_Field_hasInRange_20 (by decide) ?_
      exact z_zret hx hb hr rfl hlocks hw (by refine ⟨congrArg some (congrArg Value.int ?_), rfl⟩; rw [zb_0 (by rw [decide_eq_true c_5, decide_eq_false c_13]; rfl)]) (by decide) (by decide) d_Field_hasInRange_21
    · -- 13: False
      have c_13 : (v : Int64) = ((v.toInt32 : Int32).toInt64) := (lg_cmp_eq _ _).mp c_13
      refine lv_iconst (v := 1) hx hb d_Field_hasInRange_16 (by decide) ?_
      refine lv_goto (tgt := 21) hx hb d_Field_hasInRange_17 (by decide) ?_
      exact z_zret hx hb hr rfl hlocks hw (by refine ⟨congrArg some (congrArg Value.int ?_), rfl⟩; rw [zb_1 (by rw [decide_eq_true c_13, Bool.or_true])]) (by decide) (by decide) d_Field_hasInRange_21

/-- what a node keeps of a number that comes by hand -/
def keptN (ty : Int32) (v : Int64) : Int64 := if ty = 0 then (if v = 0 then 0 else 1) else if ty = 4 then 0 else v

set_option maxHeartbeats 4000000 in
set_option maxRecDepth 100000 in
theorem c_Field_kept (l : Launch) (g : z_G) (h : z_H) {fd na : Nat} {tg : Nat × Nat} {nu ki ty gr co re de rq : Int32} {v : Int64} (hfd : h fd = some (tg, .inr (4, [.int nu, .int ki, .int ty, .int gr, .ref na, .int co, .int re, .int de, .int rq])))  : z_C l y_Field_kept prog_3_method_5_code 3 (Option.some Jvm.ClassFile.FieldType.long) 0 0 0 0 g [.ref fd, .long v] h (fun r h1 => r = some (.long (keptN ty v)) ∧ h = h1) := by
  refine z_C.of (by decide) (Nat.le_of_ble_eq_true rfl) (fun pg en s m below meth cd A ls hx hb hml hr hts hown hlocks hnm hK hE hA hw hl => ?_)
  have hl : lv_has ls 3 [(0, .ref fd), (1, .long v)] := hl
  refine lv_aload_n hx hb d_Field_kept_0 rfl (lv_at hl 0 rfl) ?_
  refine z_get hx hb hts (z_lay i_Field) hown hK hw hfd rfl 2 (by decide) (z_in k_409 rfl) (fun _ h9 => h9) rfl d_Field_kept_1 ?_
  refine lv_if_ne (tgt := 19) hx hb d_Field_kept_4 (by decide) (fun c_4 => ?_) (fun c_4 => ?_)
  · -- 4: True
    refine lv_aload_n hx hb d_Field_kept_19 rfl (lv_at hl 0 rfl) ?_
    refine z_get hx hb hts (z_lay i_Field) hown hK hw hfd rfl 2 (by decide) (z_in k_409 rfl) (fun _ h9 => h9) rfl d_Field_kept_20 ?_
    refine lv_iconst (v := 4) hx hb d_Field_kept_23 (by decide) ?_
    refine lv_icmp_ne (tgt := 31) hx hb d_Field_kept_24 (by decide) (fun c_24 => ?_) (fun c_24 => ?_)
    · -- 24: True
      refine lv_lload_n hx hb d_Field_kept_31 rfl (lv_at hl 1 rfl) ?_
      exact z_lret hx hb hr hlocks hw (by refine ⟨congrArg some (congrArg Value.long ?_), rfl⟩; simp [keptN, c_4, c_24]) (by decide) (by decide) d_Field_kept_32
    · -- 24: False
      refine lv_lconst (v := 0) hx hb d_Field_kept_27 (by decide) ?_
      refine lv_goto (tgt := 32) hx hb d_Field_kept_28 (by decide) ?_
      exact z_lret hx hb hr hlocks hw (by refine ⟨congrArg some (congrArg Value.long ?_), rfl⟩; simp [keptN, c_4, c_24]) (by decide) (by decide) d_Field_kept_32
  · -- 4: False
    refine lv_lload_n hx hb d_Field_kept_7 rfl (lv_at hl 1 rfl) ?_
    refine lv_lconst (v := 0) hx hb d_Field_kept_8 (by decide) ?_
    refine W.lcmp hx hb d_Field_kept_9 ?_
    refine lv_if_eq (tgt := 17) hx hb d_Field_kept_10 (by decide) (fun c_10 => ?_) (fun c_10 => ?_)
    · -- 10: True
      have c_10 : (v : Int64) = 0 := (lg_cmp_eq _ _).mp c_10
      refine lv_lconst (v := 0) hx hb d_Field_kept_17 (by decide) ?_
      exact z_lret hx hb hr hlocks hw (by refine ⟨congrArg some (congrArg Value.long ?_), rfl⟩; simp [keptN, c_4, c_10]) (by decide) (by decide) d_Field_kept_18
    · -- 10: False
      have c_10 : ¬ ((v : Int64) = 0) := fun z => c_10 ((lg_cmp_eq _ _).mpr z)
      refine lv_lconst (v := 1) hx hb d_Field_kept_13 (by decide) ?_
      refine lv_goto (tgt := 18) hx hb d_Field_kept_14 (by decide) ?_
      exact z_lret hx hb hr hlocks hw (by refine ⟨congrArg some (congrArg Value.long ?_), rfl⟩; simp [keptN, c_4, c_10]) (by decide) (by decide) d_Field_kept_18

set_option maxHeartbeats 4000000 in
set_option maxRecDepth 100000 in
theorem c_Field_isNamed (l : Launch) (g : z_G) (h : z_H) {fd na : Nat} {tg : Nat × Nat} {nu ki ty gr co re de rq : Int32} {sc b ln n p len i j : Nat} {tn : Nat × Nat} {f fn : Nat → Int32} {fa ws we : Int32} {t nm : Nat → Nat} (hfd : h fd = some (tg, .inr (4, [.int nu, .int ki, .int ty, .int gr, .ref na, .int co, .int re, .int de, .int rq]))) (hna : h na = some (tn, .inl (g.2.1 0, len, .inl fn))) (hsc : h sc = some ((6, 0), .inr (7, [.ref b, .int (nI n), .int (nI p), .int fa, .int ws, .int we]))) (hb0 : h b = some ((3, 0), .inl (g.2.1 0, ln, .inl f))) (hn : n ≤ ln) (hlen : ln < 2 ^ 31) (hf : ∀ k, k < n → t k < 256 ∧ f k = sb_b (t k)) (hij : i ≤ j) (hj : j ≤ n) (hl8 : len < 2 ^ 30) (hnam : ∀ k, k < len → nm k < 128 ∧ fn k = sb_b (nm k)) : z_C l y_Field_isNamed prog_3_method_3_code 5 (Option.some Jvm.ClassFile.FieldType.boolean) 1 40 0 0 g [.ref fd, .ref sc, .int (nI i), .int (nI j)] h (fun r h1 => r = some (.int (zb (decide (j - i = len) && nmE t i nm len))) ∧ h = h1) := by
  refine z_C.of (by decide) (Nat.le_of_ble_eq_true rfl) (fun pg en s m below meth cd A ls hx hb hml hr hts hown hlocks hnm hK hE hA hw hl => ?_)
  have hl : lv_has ls 5 [(0, .ref fd), (1, .ref sc), (2, .int (nI i)), (3, .int (nI j))] := hl
  refine lv_iload_n hx hb d_Field_isNamed_0 rfl (lv_at hl 3 rfl) ?_
  refine lv_iload_n hx hb d_Field_isNamed_1 rfl (lv_at hl 2 rfl) ?_
  refine lv_isub hx hb d_Field_isNamed_2 ?_
  refine z_topi (y := nI (j - i)) (pk_sub (a := j) (b := i) (by omega)) ?_
  refine lv_aload_n hx hb d_Field_isNamed_3 rfl (lv_at hl 0 rfl) ?_
  refine z_get hx hb hts (z_lay i_Field) hown hK hw hfd rfl 4 (by decide) (z_in k_416 rfl) (fun _ h9 => h9) rfl d_Field_isNamed_4 ?_
  refine z_alen hx hb hK hw hna 0 rfl d_Field_isNamed_7 ?_
  refine lv_icmp_eq (tgt := 13) hx hb d_Field_isNamed_8 (by decide) (fun c_8 => ?_) (fun c_8 => ?_)
  · -- 8: True
    have c_8 : (j - i) = len := (nI_eq (a := j - i) (b := len) (by omega) (by omega)).mp c_8
    refine lv_iconst (v := 0) hx hb d_Field_isNamed_13 (by decide) ?_
    refine lv_istore (lv' := [(4, .int 0), (0, .ref fd), (1, .ref sc), (2, .int (nI i)), (3, .int (nI j))]) hx hb d_Field_isNamed_14 hl (by decide) rfl (fun ls hl => ?_)
    have loop_16 : ∀ (fuel : Nat) (k : Nat) (hL : z_H) (H : Heap) (locs : List Loc) (ls : Array Slot) (L16_fd : hL fd = some (tg, .inr (4, [.int nu, .int ki, .int ty, .int gr, .ref na, .int co, .int re, .int de, .int rq]))) (L16_na : hL na = some (tn, .inl (g.2.1 0, len, .inl fn))) (L16_sc : hL sc = some ((6, 0), .inr (7, [.ref b, .int (nI n), .int (nI p), .int fa, .int ws, .int we]))) (L16_b : hL b = some ((3, 0), .inl (g.2.1 0, ln, .inl f))) (hk : k ≤ len) (hE9 : nmE t i nm k = true) (hL9 : hL = h), (len - k) < fuel → z_S g A s.heap hL H locs → lv_has ls 5 [(0, .ref fd), (1, .ref sc), (2, .int (nI i)), (3, .int (nI j)), (4, .int (nI k))] → W pg l en { frames := 1, cells := 0, slots := 0, locals := 40 } s m [.ref fd, .ref sc, .int (nI i), .int (nI j)].toArray below meth cd H locs 0 0 (MQ below (z_Q g A (fun r h1 => r = some (.int (zb (decide (j - i = len) && nmE t i nm len))) ∧ h = h1)) [.ref fd, .ref sc, .int (nI i), .int (nI j)].toArray s 0 0 A) (F0 m 16 ls []) := by
      intro fuel
      induction fuel with
      | zero => intro k hL H locs ls L16_fd L16_na L16_sc L16_b hk hE9 hL9 hm; exact absurd hm (Nat.not_lt_zero _)
      | succ fuel ih_16 =>
        intro k hL H locs ls L16_fd L16_na L16_sc L16_b hk hE9 hL9 hm hw hl
        refine lv_iload hx hb d_Field_isNamed_16 (lv_at hl 4 rfl) ?_
        refine lv_aload_n hx hb d_Field_isNamed_18 rfl (lv_at hl 0 rfl) ?_
        refine z_get hx hb hts (z_lay i_Field) hown hK hw L16_fd rfl 4 (by decide) (z_in k_416 rfl) (fun _ h9 => h9) rfl d_Field_isNamed_19 ?_
        refine z_alen hx hb hK hw L16_na 0 rfl d_Field_isNamed_22 ?_
        refine lv_icmp_ge (tgt := 52) hx hb d_Field_isNamed_23 (by decide) (fun c_23 => ?_) (fun c_23 => ?_)
        · -- 23: True
          have c_23 : len ≤ k := (nI_leI (a := len) (b := k) (by omega) (by omega)).mp c_23
          refine lv_iconst (v := 1) hx hb d_Field_isNamed_52 (by decide) ?_
          exact z_zret hx hb hr rfl hlocks hw (by refine ⟨congrArg some (congrArg Value.int ?_), hL9.symm⟩; rw [zb_1 (by rw [show len = k by omega, hE9, decide_eq_true (by omega)]; rfl)]) (by decide) (by decide) d_Field_isNamed_53
        · -- 23: False
          have c_23 : ¬ (len ≤ k) := fun z => c_23 ((nI_leI (a := len) (b := k) (by omega) (by omega)).mpr z)
          refine lv_aload_n hx hb d_Field_isNamed_26 rfl (lv_at hl 1 rfl) ?_
          refine lv_iload_n hx hb d_Field_isNamed_27 rfl (lv_at hl 2 rfl) ?_
          refine lv_iload hx hb d_Field_isNamed_28 (lv_at hl 4 rfl) ?_
          refine lv_iadd hx hb d_Field_isNamed_30 ?_
          refine z_topi (y := nI (i + k)) (nI_add i k) ?_
          refine z_callV (n := 1) (As := [.int (nI (i + k))]) (rest := []) ⟨hx, hb, hml, hown, hts⟩ (c_Scanner_byteAt l g hL L16_sc L16_b hn hlen hf) (z_in k_287 rfl) (z_in k_8 rfl) (z_in k_361 rfl) (z_in k_285 rfl) (z_in k_286 rfl) (by decide +kernel) ⟨by first | exact Nat.le_of_ble_eq_true rfl | (dsimp only; omega) | omega, by first | exact Nat.le_of_ble_eq_true rfl | (dsimp only; omega) | omega⟩ hK hE hw hA rfl L16_sc rfl hl.1 (Nat.le_of_ble_eq_true rfl) d_Field_isNamed_31 ⟨by first | exact Nat.le_of_ble_eq_true rfl | (dsimp only; omega) | omega, by first | exact Nat.le_of_ble_eq_true rfl | (dsimp only; omega) | omega⟩ rfl (fun r9 h9 H locs hp hw => ?_)
          obtain ⟨r8, h8⟩ := hp
          subst r8
          subst h8
          refine W.eq (g2 := F0 m 34 ls [.int (bz t n (nI (i + k)))]) rfl ?_
          refine lv_aload_n hx hb d_Field_isNamed_34 rfl (lv_at hl 0 rfl) ?_
          refine z_get hx hb hts (z_lay i_Field) hown hK hw L16_fd rfl 4 (by decide) (z_in k_416 rfl) (fun _ h9 => h9) rfl d_Field_isNamed_35 ?_
          refine lv_iload hx hb d_Field_isNamed_38 (lv_at hl 4 rfl) ?_
          refine z_bald hx hb hK hw L16_na 0 rfl (vp_in_nI (by omega) (by omega)) d_Field_isNamed_40 ?_
          refine z_topi (y := fn k) (by rw [nI_clamp (by omega)]) ?_
          have bk : bz t n (nI (i + k)) = nI (t (i + k)) := by rw [bz_n (by omega), bt_in (by omega)]
          have nk : fn k = nI (nm k) := by rw [(hnam k (by omega)).2, sb_small _ (hnam k (by omega)).1]
          refine lv_icmp_eq (tgt := 46) hx hb d_Field_isNamed_41 (by decide) (fun c_41 => ?_) (fun c_41 => ?_)
          · -- 41: True
            refine lv_iinc (v := nI (k + 1)) (lv' := [(4, .int (nI (k + 1))), (0, .ref fd), (1, .ref sc), (2, .int (nI i)), (3, .int (nI j))]) hx hb d_Field_isNamed_46 hl (k := 4) rfl (nI_1 k) (by decide) rfl (fun ls hl => ?_)
            refine lv_goto (tgt := 16) hx hb d_Field_isNamed_49 (by decide) ?_
            refine ih_16 (k + 1) hL _ _ _ L16_fd L16_na L16_sc L16_b (by omega) (by simp only [nmE]; rw [hE9]; simp; have z := c_41; rw [bk, nk] at z; exact (nI_eq (by have := (hf (i + k) (by omega)).1; omega) (by have := (hnam k (by omega)).1; omega)).mp z) hL9 ?_ hw (lv_sub hl [1, 2, 3, 4, 0] rfl)
            omega
          · -- 41: False
            refine lv_iconst (v := 0) hx hb d_Field_isNamed_44 (by decide) ?_
            exact z_zret hx hb hr rfl hlocks hw (by refine ⟨congrArg some (congrArg Value.int ?_), hL9.symm⟩; rw [zb_0 (by rw [nmE_no (k := k) (fun z => c_41 (by rw [bk, nk, z])) len (by omega), Bool.and_false])]) (by decide) (by decide) d_Field_isNamed_45
    exact loop_16 (len - 0 + 1) 0 h _ _ _ hfd hna hsc hb0 (by omega) rfl rfl (by omega) hw (lv_sub hl [1, 2, 3, 4, 0] rfl)
  · -- 8: False
    have c_8 : ¬ ((j - i) = len) := fun z => c_8 ((nI_eq (a := j - i) (b := len) (by omega) (by omega)).mpr z)
    refine lv_iconst (v := 0) hx hb d_Field_isNamed_11 (by decide) ?_
    exact z_zret hx hb hr rfl hlocks hw (by refine ⟨congrArg some (congrArg Value.int ?_), rfl⟩; rw [zb_0 (by rw [decide_eq_false c_8, Bool.false_and])]) (by decide) (by decide) d_Field_isNamed_12

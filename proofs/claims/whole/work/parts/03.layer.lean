/-! The layer: the heap that a method works on is pictured by a function from addresses to tagged cells. A tag is a ghost: two addresses with different tags differ. -/
abbrev z_G : Type := va_G × (Nat → ClassId) × (Nat → Nat)
abbrev ztys (g : z_G) : List (ClassId × FieldType) := [(g.2.1 0, .byte), (g.2.1 1, .int), (g.2.1 2, .long), (g.2.1 3, .object R_Field), (g.2.1 4, .object R_Node), (g.2.1 5, .array .int)]
def z_isN : Cond → Bool
  | .fieldLinkNest .. => true
  | .methodLinkNest .. => true
  | _ => false
/-- the words that go from caller to callee; and those of nest mates, that go with the state -/
def z_tbl : List Cond := lw_tbl.filter goodWord
def z_nest : List Cond := lw_tbl.filter z_isN
theorem z_in {w : Cond} (h : w ∈ lw_tbl) (hg : goodWord w = true) : w ∈ z_tbl := List.mem_filter.mpr ⟨h, hg⟩
theorem z_inN {w : Cond} (h : w ∈ lw_tbl) (hg : z_isN w = true) : w ∈ z_nest := List.mem_filter.mpr ⟨h, hg⟩
theorem z_lay {C : String} {T : u_T} {N : Nat} (h : ∀ w ∈ u_ws C T N, w ∈ lw_tbl) : ∀ w ∈ u_ws C T N, w ∈ z_tbl := fun w hw => z_in (h w hw) (by
  obtain ⟨k, -, rfl⟩ := List.mem_map.mp hw
  unfold u_lay
  split <;> rfl)
theorem z_good {y : MethodName} {cc : ByteArray} {n : Nat} {r : Option FieldType} (h : Cond.code y cc n r ∈ z_tbl) : GoodIn z_tbl (Cond.code y cc n r :: z_tbl) := by
  intro w hw
  have hm : w ∈ z_tbl := by
    rcases List.mem_cons.mp hw with e | e
    · rw [e]; exact h
    · exact e
  exact ⟨hm, good_of_word (List.mem_filter.mp hm).2⟩
theorem z_nw {s U : State} (hW : s.WarmedH U.vm) (h : ∀ w ∈ z_nest, va_Nw w s) : ∀ w ∈ z_nest, va_Nw w U := by
  intro w hw
  have h1 := (List.mem_filter.mp hw).2
  have h2 := h w hw
  cases w with
  | fieldLinkNest a i b n d o => exact h2.warmF hW
  | methodLinkNest a i x o => exact h2.warmM hW
  | _ => exact absurd h1 (by simp [z_isN])
theorem z_AI {u U : State} (hvm : u.vm.Alike U.vm) (h : (Cond.arrayOver (.array .int)).before #[] u = true) : (Cond.arrayOver (.array .int)).before #[] U = true := by
  obtain ⟨comp, c, k, h1, h2, h3, h4, h5⟩ := arrayOverA_spec h
  obtain ⟨k', hk', he⟩ := hvm.2.2 _ _ h3
  have hi : (U.vm.classes.findIdx? fun (x : Class) => match x.kind with | .array component _ => component == comp | _ => false) = some c := by
    have e1 := va_idx_bare U.vm comp
    have e2 := va_idx_bare u.vm comp
    have e3 : U.vm.bare = u.vm.bare := by first | exact hvm.bare_eq | exact hvm.bare_eq.symm
    rw [e3] at e1
    exact (e1.symm.trans e2).trans h2
  have hkind : k'.kind = .array comp (.array .int) := by rw [he]; exact h4
  have f1 : U.vm.findClass (FieldType.array .int).toString = some comp := by rw [hvm.findClass]; exact h1
  have f2 : U.vm.findClass ("[" ++ (FieldType.array .int).toString) = some c := by rw [hvm.findClass]; exact h5
  unfold Cond.before Cond.holds
  simp only [Cond.value]
  rw [f1, Option.bind_some]
  refine (congrArg (fun o : Option Nat => (o.bind (fun c => (U.vm.classes[c]?).map fun (k : Class) => match k.kind with | .array _ ty => decide (ty = FieldType.array .int) && decide (U.vm.findClass ("[" ++ (FieldType.array .int).toString) = some c) | _ => false) == some true)) hi).trans ?_
  simp [hk', hkind, f2]
theorem z_nwS {s U : State} (hv : U.vm = s.vm) (h : ∀ w ∈ z_nest, va_Nw w s) : ∀ w ∈ z_nest, va_Nw w U := by
  intro w hw
  have h1 := (List.mem_filter.mp hw).2
  have h2 := h w hw
  cases w with
  | fieldLinkNest a i b n d o => exact va_Nw.same rfl hv.symm h2
  | methodLinkNest a i x o => exact va_Nw.same rfl hv.symm h2
  | _ => exact absurd h1 (by simp [z_isN])
/-- the string constants: their lengths and bytes -/
def z_len : List Nat := [8, 8, 8, 4, 3, 4, 4, 5, 4, 5, 2]
def z_byt : List (List Int32) := [[114, 101, 113, 117, 105, 114, 101, 100], [111, 112, 116, 105, 111, 110, 97, 108], [114, 101, 112, 101, 97, 116, 101, 100], [98, 111, 111, 108], [105, 110, 116], [108, 111, 110, 103], [116, 101, 120, 116], [103, 114, 111, 117, 112], [116, 114, 117, 101], [102, 97, 108, 115, 101], [92, 120]]
/-- what the constants of the classes are, and hold: no method changes them. cn 0: NO_BYTES; cn (1 + i): the i-th string; cn (20 + i): its bytes -/
def z_E (g : z_G) (A : Nat → Prop) (U : State) (H : Heap) : Prop :=
  va_Z "SchemaRecords" "NO_BYTES" "[B" (.ref (g.2.2 0)) A U H ∧ va_T .byte (g.2.2 0) 0 (fun _ => .int 0) A U H ∧ va_Z "java/lang/String" "COMPACT_STRINGS" "Z" (.int 1) A U H ∧ vk_S 11 z_len z_byt (fun i => g.2.2 (1 + i)) (fun i => g.2.2 (20 + i)) A U H ∧
  (vk_R R_SchemaReader 80 "required" (g.2.2 1) U ∧ vk_R R_SchemaReader 86 "optional" (g.2.2 2) U ∧ vk_R R_SchemaReader 88 "repeated" (g.2.2 3) U ∧ vk_R R_SchemaReader 90 "bool" (g.2.2 4) U ∧ vk_R R_SchemaReader 92 "int" (g.2.2 5) U ∧ vk_R R_SchemaReader 94 "long" (g.2.2 6) U ∧ vk_R R_SchemaReader 96 "text" (g.2.2 7) U ∧ vk_R R_SchemaReader 97 "group" (g.2.2 8) U) ∧
  (vk_R R_RecordReader 133 "true" (g.2.2 9) U ∧ vk_R R_RecordReader 139 "false" (g.2.2 10) U ∧ vk_R R_RecordWriter 94 "true" (g.2.2 9) U ∧ vk_R R_RecordWriter 96 "false" (g.2.2 10) U ∧ vk_R R_RecordWriter 119 "\\x" (g.2.2 11) U) ∧ (∀ w ∈ z_nest, va_Nw w U) ∧ va_AO R_Field U ∧ va_AO R_Node U ∧ va_Nw (.castable "[B" "java/lang/Cloneable") U ∧ (Cond.arrayOver (.array .int)).before #[] U = true ∧ va_Zq "jdk/internal/util/Preconditions" "SIOOBE_FORMATTER" "Ljava/util/function/BiFunction;" A U H
theorem z_E.warm {g : z_G} {A : Nat → Prop} {s U : State} {H : Heap} (hW : s.WarmedH U.vm) (h : z_E g A s H) : z_E g A U H := by
  obtain ⟨h1, h2, h3, h4, ⟨a1, a2, a3, a4, a5, a6, a7, a8⟩, ⟨b1, b2, b3, b4, b5⟩, d1, d2, d3, d4, d5, d6⟩ := h
  exact ⟨va_Z.moved hW.alike h1, va_T.moved hW.alike h2, va_Z.moved hW.alike h3, vk_S.moved hW.alike h4, ⟨a1.warm hW, a2.warm hW, a3.warm hW, a4.warm hW, a5.warm hW, a6.warm hW, a7.warm hW, a8.warm hW⟩, ⟨b1.warm hW, b2.warm hW, b3.warm hW, b4.warm hW, b5.warm hW⟩, z_nw hW d1, d2.moved hW.alike, d3.moved hW.alike, d4.warmC hW, z_AI hW.alike d5, d6.moved hW.alike⟩
theorem z_E.same {g : z_G} {A : Nat → Prop} {s U : State} {H : Heap} (hv : U.vm = s.vm) (h : z_E g A s H) : z_E g A U H := by
  have hal : s.vm.Alike U.vm := by rw [hv]; exact Vm.Alike.refl _
  obtain ⟨h1, h2, h3, h4, ⟨a1, a2, a3, a4, a5, a6, a7, a8⟩, ⟨b1, b2, b3, b4, b5⟩, d1, d2, d3, d4, d5, d6⟩ := h
  exact ⟨va_Z.moved hal h1, va_T.moved hal h2, va_Z.moved hal h3, vk_S.moved hal h4, ⟨a1.same hv, a2.same hv, a3.same hv, a4.same hv, a5.same hv, a6.same hv, a7.same hv, a8.same hv⟩, ⟨b1.same hv, b2.same hv, b3.same hv, b4.same hv, b5.same hv⟩, z_nwS hv d1, d2.moved hal, d3.moved hal, va_Nw.same rfl hv.symm d4, z_AI hal d5, d6.moved hal⟩
theorem z_E.kept {g : z_G} {A : Nat → Prop} {U : State} {H H1 : Heap} (hq : ∀ a : Nat, a < H.size → ¬ A a → H1[a]? = H[a]?) (h : z_E g A U H) : z_E g A U H1 := by
  obtain ⟨h1, h2, h3, h4, h5, h6, h7, h8, h9, h10, h11, h12⟩ := h
  exact ⟨h1.kept hq, h2.kept hq, h3.kept hq, h4.kept hq, h5, h6, h7, h8, h9, h10, h11, h12.kept hq⟩
theorem z_E.narrow {g : z_G} {A B : Nat → Prop} {U : State} {H : Heap} (hAB : ∀ q, B q → A q) (h : z_E g A U H) : z_E g B U H := by
  obtain ⟨h1, h2, h3, h4, h5, h6, h7, h8, h9, h10, h11, h12⟩ := h
  exact ⟨h1.narrow hAB, h2.narrow hAB, h3.narrow hAB, h4.narrow hAB, h5, h6, h7, h8, h9, h10, h11, h12.narrow hAB⟩
abbrev z_H : Type := Nat → Option ((Nat × Nat) × va_E)
def z_put (h : z_H) (q : Nat) (t : Nat × Nat) (e : va_E) : z_H := fun x => if x = q then some (t, e) else h x
theorem z_put_eq {h : z_H} {q : Nat} {t : Nat × Nat} {e : va_E} : z_put h q t e q = some (t, e) := if_pos rfl
theorem z_put_ne {h : z_H} {q x : Nat} {t : Nat × Nat} {e : va_E} (hx : x ≠ q) : z_put h q t e x = h x := if_neg hx
theorem z_put_put {h : z_H} {q : Nat} {t t' : Nat × Nat} {e e' : va_E} : z_put (z_put h q t e) q t' e' = z_put h q t' e' := by
  funext x
  by_cases hx : x = q
  · subst hx; rw [z_put_eq, z_put_eq]
  · rw [z_put_ne hx, z_put_ne hx, z_put_ne hx]
theorem z_put_self {h : z_H} {q : Nat} {t : Nat × Nat} {e : va_E} (hq : h q = some (t, e)) : z_put h q t e = h := by
  funext x
  by_cases hx : x = q
  · subst hx; rw [z_put_eq, hq]
  · rw [z_put_ne hx]
theorem z_ne {h : z_H} {x y : Nat} {t1 t2 : Nat × Nat} {e1 e2 : va_E} (h1 : h x = some (t1, e1)) (h2 : h y = some (t2, e2)) (ht : t1 ≠ t2) : x ≠ y := fun e => by
  subst e
  rw [h1] at h2
  cases h2
  exact ht rfl
theorem z_keep {h : z_H} {q x : Nat} {t t' : Nat × Nat} {e e0 e' : va_E} (hq : h q = some (t, e0)) (hx : h x = some (t', e')) (ht : t' ≠ t) : z_put h q t e x = some (t', e') := (z_put_ne (z_ne hx hq ht)).trans hx
theorem z_keepN {h : z_H} {q x : Nat} {t t' : Nat × Nat} {e e' : va_E} (hq : h q = none) (hx : h x = some (t', e')) : z_put h q t e x = some (t', e') := (z_put_ne (fun z => by rw [z, hq] at hx; cases hx)).trans hx
theorem z_t1 {a b c d : Nat} (h : a ≠ c) : ((a, b) : Nat × Nat) ≠ (c, d) := fun e => h (congrArg Prod.fst e)
theorem z_t2 {a b c d : Nat} (h : b ≠ d) : ((a, b) : Nat × Nat) ≠ (c, d) := fun e => h (congrArg Prod.snd e)
def z_W (g : z_G) (h : z_H) (H : Heap) : Prop := ∀ (q : Nat) (t : Nat × Nat) (e : va_E), h q = some (t, e) → va_at g.1 cls (q, e) H
def z_S (g : z_G) (A : Nat → Prop) (H0 : Heap) (h : z_H) (H : Heap) (locs : List Loc) : Prop := z_W g h H ∧ (∀ (q : Nat) (t : Nat × Nat) (e : va_E), h q = some (t, e) → A q) ∧ va_S A H0 H locs
def z_A (h : z_H) (sz : Nat) : Nat → Prop := fun q => (∃ (t : Nat × Nat) (e : va_E), h q = some (t, e)) ∨ sz ≤ q
def z_Pc (g : z_G) (av : List Value) (h : z_H) (sz : Nat) : Array Value → State → Prop := va_Pc av (fun U => U.heap.size = sz ∧ z_W g h U.heap ∧ va_K g.1 cls (ztys g) U ∧ z_E g (z_A h sz) U U.heap)
def z_Q (g : z_G) (A : Nat → Prop) (post : Option Value → z_H → Prop) : Array Value → State → Outcome → State → Prop := fun _ st oc t => (∃ (r : Option Value) (h' : z_H), oc = .returned r ∧ post r h' ∧ z_W g h' t.heap ∧ ∀ (q : Nat) (t : Nat × Nat) (e : va_E), h' q = some (t, e) → A q) ∧ va_F A st t
/-- a method's contract: with the arguments av, in any heap that the picture h is of, it returns, and post holds of the answer and of the heap's picture behind it -/
def z_C (l : Launch) (y : MethodName) (cc : ByteArray) (maxL : Nat) (ret : Option FieldType) (fr lo mc ms : Nat) (g : z_G) (av : List Value) (h : z_H) (post : Option Value → z_H → Prop) : Prop :=
  ∀ sz : Nat, Met l y (Cond.code y cc maxL ret :: z_tbl) { frames := fr, cells := mc, slots := ms, locals := lo } (z_Pc g av h sz) (z_Q g (z_A h sz) post) mc ms (z_A h sz)
theorem z_P1 {D : va_G} {cl : List vw_C} {a : Nat} {e : va_E} {H : Heap} (h : va_at D cl (a, e) H) : va_P D cl [(a, e)] H := fun k q hk => by
  have hz : k < 1 := (List.getElem?_eq_some_iff.mp hk).1
  rw [show k = 0 by omega] at hk
  cases hk
  exact h
theorem z_S.upd {g : z_G} {A : Nat → Prop} {H0 H H1 : Heap} {h : z_H} {locs : List Loc} {a k : Nat} {t : Nat × Nat} {e0 e : va_E} (hw : z_S g A H0 h H locs) (hq : h a = some (t, e0)) (he : va_at g.1 cls (a, e) H1) (z : H1.size = H.size) (oq : ∀ q : Nat, q ≠ a → H1[q]? = H[q]?) : z_S g A H0 (z_put h a t e) H1 (locs ++ [⟨a, k⟩]) := by
  refine ⟨fun q t' e' hx => ?_, fun q t' e' hx => ?_, hw.2.2.put z oq (hw.2.1 _ _ _ hq)⟩
  · by_cases hqa : q = a
    · subst hqa
      rw [z_put_eq] at hx
      cases hx
      exact he
    · rw [z_put_ne hqa] at hx
      exact (hw.1 _ _ _ hx).kept (oq q hqa)
  · by_cases hqa : q = a
    · subst hqa
      exact hw.2.1 _ _ _ hq
    · rw [z_put_ne hqa] at hx
      exact hw.2.1 _ _ _ hx
theorem z_S.fresh {g : z_G} {A : Nat → Prop} {H0 H : Heap} {h : z_H} {locs : List Loc} (hw : z_S g A H0 h H locs) : h H.size = none := by
  cases hq : h H.size with
  | none => rfl
  | some te =>
    obtain ⟨t, e⟩ := te
    exact absurd (hw.1 _ _ _ hq).lt (Nat.lt_irrefl _)
theorem z_S.born {g : z_G} {A : Nat → Prop} {H0 H H1 : Heap} {h : z_H} {locs : List Loc} {t : Nat × Nat} {e : va_E} (hw : z_S g A H0 h H locs) (hA : ∀ q, H0.size ≤ q → A q) (he : va_at g.1 cls (H.size, e) H1) (z : H1.size = H.size + 1) (oq : ∀ q : Nat, q < H.size → H1[q]? = H[q]?) : z_S g A H0 (z_put h H.size t e) H1 locs := by
  have hS := hw.2.2
  refine ⟨fun q t' e' hx => ?_, fun q t' e' hx => ?_, ⟨Nat.le_trans hS.1 (by omega), fun x h1 h2 => (oq x (Nat.lt_of_lt_of_le h1 hS.1)).trans (hS.2.1 x h1 h2), hS.2.2⟩⟩
  · by_cases hqa : q = H.size
    · subst hqa
      rw [z_put_eq] at hx
      cases hx
      exact he
    · rw [z_put_ne hqa] at hx
      exact (hw.1 _ _ _ hx).kept (oq q (hw.1 _ _ _ hx).lt)
  · by_cases hqa : q = H.size
    · subst hqa
      exact hA _ hS.1
    · rw [z_put_ne hqa] at hx
      exact hw.2.1 _ _ _ hx
theorem z_blind {g : z_G} {av : List Value} {h : z_H} {sz : Nat} : FrameBlind (z_Pc g av h sz) := fun a U f mk q => ⟨q.1, q.2.1, q.2.2.1, va_K.moved (u := U) (U := U.calling f mk a) (Vm.Alike.refl U.vm) q.2.2.2.1, z_E.same (s := U) (U := U.calling f mk a) rfl q.2.2.2.2⟩
/-- all cells but those of the roles R stay as they are -/
def z_K (R : Nat → Prop) (h h1 : z_H) : Prop := ∀ (q : Nat) (t : Nat × Nat) (e : va_E), h q = some (t, e) → ¬ R t.1 → h1 q = some (t, e)
theorem z_K.rf {R : Nat → Prop} {h : z_H} : z_K R h h := fun _ _ _ a _ => a
theorem z_K.tr {R : Nat → Prop} {h h1 h2 : z_H} (a : z_K R h h1) (b : z_K R h1 h2) : z_K R h h2 := fun q t e x y => b q t e (a q t e x y) y
theorem z_K.mono {R R' : Nat → Prop} {h h1 : z_H} (a : z_K R h h1) (hR : ∀ r, R r → R' r) : z_K R' h h1 := fun q t e x y => a q t e x (fun z => y (hR _ z))
theorem z_K.put {R : Nat → Prop} {h : z_H} {q : Nat} {t : Nat × Nat} {e0 e : va_E} (hq : h q = some (t, e0)) (hR : R t.1) : z_K R h (z_put h q t e) := fun x t' e' hx hn => z_keep hq hx (fun z => hn (by rw [z]; exact hR))
theorem z_K.new {R : Nat → Prop} {h : z_H} {q : Nat} {t : Nat × Nat} {e : va_E} (hq : h q = none) : z_K R h (z_put h q t e) := fun x t' e' hx _ => z_keepN hq hx
theorem z_E.nest {g : z_G} {A : Nat → Prop} {U : State} {H : Heap} (h : z_E g A U H) : ∀ w ∈ z_nest, va_Nw w U := h.2.2.2.2.2.2.1
section ZR
variable {p : Program} {l : Launch} {e : Env} {R : Room} {s : State} {m : MethodId} {args : Array Value} {below : List Frame} {meth : Method} {c : Code} {H : Heap} {locs : List Loc} {cells slots : Nat} {Q : State → Prop}
variable {cc : ByteArray} {pc : Nat} {ls : Array Slot} {rest st0 : List Value} {g : z_G} {A : Nat → Prop} {a : Nat} {H0 : Heap} {h : z_H} {t : Nat × Nat} {mc ms : Nat}
theorem z_EA (hE : z_E g A s H0) (hw : z_S g A H0 h H locs) (hA : ∀ q, H0.size ≤ q → A q) : z_E g (z_A h H.size) s H :=
  (hE.kept hw.2.2.2.1).narrow (fun q hq => by
    rcases hq with ⟨t, e, hq⟩ | hq
    · exact hw.2.1 _ _ _ hq
    · exact hA q (Nat.le_trans hw.2.2.1 hq))
theorem z_preV {ci : Nat} {q : vw_C} {fs As : List Value} {b : Nat} (hK : va_K g.1 cls (ztys g) s) (hE : z_E g A s H0) (hw : z_S g A H0 h H locs) (hA : ∀ q, H0.size ≤ q → A q) (hc : cls[ci]? = some q) (he : h b = some (t, .inr (ci, fs))) : PreV s H q.1 b (z_Pc g (.ref b :: As) h H.size) As :=
  ⟨z_blind, va_recv hK (z_P1 (hw.1 _ _ _ he)) hc (q0 := 0) rfl, fun U hU hW => ⟨rfl, by rw [hU], by rw [hU]; exact hw.1, va_K.moved hW.alike hK, by rw [hU]; exact (z_EA hE hw hA).warm hW⟩⟩
theorem z_preS {As : List Value} (hK : va_K g.1 cls (ztys g) s) (hE : z_E g A s H0) (hw : z_S g A H0 h H locs) (hA : ∀ q, H0.size ≤ q → A q) : PreS s H (z_Pc g As h H.size) As :=
  ⟨z_blind, fun U hU hW => ⟨rfl, by rw [hU], by rw [hU]; exact hw.1, va_K.moved hW.alike hK, by rw [hU]; exact (z_EA hE hw hA).warm hW⟩⟩
theorem z_call {post : Option Value → z_H → Prop} {av : Array Value} (hr : va_Run p l e R s m args below meth c H locs cells slots mc ms (F0 m pc ls st0) rest (z_Q g (z_A h H.size) post av) (z_A h H.size)) (hw : z_S g A H0 h H locs) (hA : ∀ q, H0.size ≤ q → A q)
    (kk : ∀ (r : Option Value) (h1 : z_H) (H1 : Heap) (locs1 : List Loc), post r h1 → z_S g A H0 h1 H1 locs1 → W p l e R s m args below meth c H1 locs1 (cells + mc) (slots + ms) Q (F0 m (pc + 3) ls (r.toList ++ rest))) : W p l e R s m args below meth c H locs cells slots Q (F0 m pc ls st0) := by
  have hS := hw.2.2
  have hAA : ∀ q, z_A h H.size q → A q := fun q hq => by
    rcases hq with ⟨t, e, hq⟩ | hq
    · exact hw.2.1 _ _ _ hq
    · exact hA q (Nat.le_trans hS.1 hq)
  intro T hT X
  obtain ⟨v, st₀, t, T', L, h0, X', hL, e1, e2, ⟨⟨r, h1, hv, hp, hb, hd⟩, hz, hk⟩, st⟩ := hr T hT X
  cases hv
  rw [h0] at hz hk
  obtain ⟨t2, a1, b1⟩ := kk v h1 T'.heap (locs ++ L) hp ⟨by rw [e1]; exact hb, fun q t e hq => hAA q (hd q t e hq), Nat.le_trans hS.1 (by rw [e1]; exact hz), fun q g1 g2 => by rw [e1, hk q (Nat.lt_of_lt_of_le g1 hS.1) (fun z => g2 (hAA q z))]; exact hS.2.1 q g1 g2, fun q hq => by
      rcases List.mem_append.mp hq with g | g
      · exact hS.2.2 q g
      · exact hAA _ (hL q g)⟩ T' rfl X'
  exact ⟨t2, st t2 a1, b1⟩
theorem z_get (hexec : p.tables.exec = Jvm.exec) (hb : c.code = cc) {own ref C : String} {T : u_T} {N ci index : Nat} (hts : ∀ w ∈ z_tbl, w.before args s = true) (hin : ∀ w ∈ u_ws C T N, w ∈ z_tbl) (hown : s.vm.findClass own = some m.cls) (hK : va_K g.1 cls (ztys g) s) (hw : z_S g A H0 h H locs) {fs : List Value} (he : h a = some (t, .inr (ci, fs))) (hc : cls[ci]? = some (C, T, N)) (k : Nat) (hk : k < N) (hlink : Cond.fieldLink own index ref (T k).2.1 (T k).2.2.1 ∈ z_tbl) (hsame : ∀ x, s.fieldFound? (T k).1 (T k).2.1 (T k).2.2.1 = some x → s.fieldFound? ref (T k).2.1 (T k).2.2.1 = some x) {v : Value} (hv : fs[k]? = some v) (hdg : decode cc pc = .ok (.getfield index, 3))
    (kk : W p l e R s m args below meth c H locs cells slots Q (F0 m (pc + 3) ls (v :: rest))) : W p l e R s m args below meth c H locs cells slots Q (F0 m pc ls (.ref a :: rest)) :=
  va_get hexec hb hts hin hown hK (z_P1 (hw.1 _ _ _ he)) 0 rfl hc k hk (hts _ hlink) hsame hv hdg kk
theorem z_getN (hexec : p.tables.exec = Jvm.exec) (hb : c.code = cc) {own ref C host : String} {T : u_T} {N ci index : Nat} (hts : ∀ w ∈ z_tbl, w.before args s = true) (hin : ∀ w ∈ u_ws C T N, w ∈ z_tbl) (hown : s.vm.findClass own = some m.cls) (hK : va_K g.1 cls (ztys g) s) (hw : z_S g A H0 h H locs) {fs : List Value} (he : h a = some (t, .inr (ci, fs))) (hc : cls[ci]? = some (C, T, N)) (k : Nat) (hk : k < N) (hN : ∀ w ∈ z_nest, va_Nw w s) (hlink : Cond.fieldLinkNest own index ref (T k).2.1 (T k).2.2.1 host ∈ z_nest) (hsame : ∀ x, s.fieldFound? (T k).1 (T k).2.1 (T k).2.2.1 = some x → s.fieldFound? ref (T k).2.1 (T k).2.2.1 = some x) {v : Value} (hv : fs[k]? = some v) (hdg : decode cc pc = .ok (.getfield index, 3))
    (kk : W p l e R s m args below meth c H locs cells slots Q (F0 m (pc + 3) ls (v :: rest))) : W p l e R s m args below meth c H locs cells slots Q (F0 m pc ls (.ref a :: rest)) :=
  va_getN hexec hb hts hin hown hK (z_P1 (hw.1 _ _ _ he)) 0 rfl hc k hk (va_Nw.use rfl (hN _ hlink)) hsame hv hdg kk
theorem z_bald (hexec : p.tables.exec = Jvm.exec) (hb : c.code = cc) (hK : va_K g.1 cls (ztys g) s) (hw : z_S g A H0 h H locs) {cA : ClassId} {n : Nat} {f : Nat → Int32} (ha : h a = some (t, .inl (cA, n, .inl f))) (t0 : Nat) (ht : (ztys g)[t0]? = some (cA, .byte)) {i : Int32} (hin : vp_in i n) (hdg : decode cc pc = .ok (.baload, 1))
    (kk : W p l e R s m args below meth c H locs cells slots Q (F0 m (pc + 1) ls (.int (f i.toNatClampNeg) :: rest))) : W p l e R s m args below meth c H locs cells slots Q (F0 m pc ls (.int i :: .ref a :: rest)) :=
  va_bald hexec hb hK (z_P1 (hw.1 _ _ _ ha)) 0 t0 rfl ht hin hdg kk
theorem z_iald (hexec : p.tables.exec = Jvm.exec) (hb : c.code = cc) (hK : va_K g.1 cls (ztys g) s) (hw : z_S g A H0 h H locs) {cA : ClassId} {n : Nat} {f : Nat → Int32} (ha : h a = some (t, .inl (cA, n, .inl f))) (t0 : Nat) (ht : (ztys g)[t0]? = some (cA, .int)) {i : Int32} (hin : vp_in i n) (hdg : decode cc pc = .ok (.iaload, 1))
    (kk : W p l e R s m args below meth c H locs cells slots Q (F0 m (pc + 1) ls (.int (f i.toNatClampNeg) :: rest))) : W p l e R s m args below meth c H locs cells slots Q (F0 m pc ls (.int i :: .ref a :: rest)) :=
  va_iald hexec hb hK (z_P1 (hw.1 _ _ _ ha)) 0 t0 rfl ht hin hdg kk
theorem z_lald (hexec : p.tables.exec = Jvm.exec) (hb : c.code = cc) (hK : va_K g.1 cls (ztys g) s) (hw : z_S g A H0 h H locs) {cA : ClassId} {n : Nat} {f : Nat → Int64} (ha : h a = some (t, .inl (cA, n, .inr (.inl f)))) (t0 : Nat) (ht : (ztys g)[t0]? = some (cA, .long)) {i : Int32} (hin : vp_in i n) (hdg : decode cc pc = .ok (.laload, 1))
    (kk : W p l e R s m args below meth c H locs cells slots Q (F0 m (pc + 1) ls (.long (f i.toNatClampNeg) :: rest))) : W p l e R s m args below meth c H locs cells slots Q (F0 m pc ls (.int i :: .ref a :: rest)) :=
  va_lald hexec hb hK (z_P1 (hw.1 _ _ _ ha)) 0 t0 rfl ht hin hdg kk
theorem z_aldq (hexec : p.tables.exec = Jvm.exec) (hb : c.code = cc) (hK : va_K g.1 cls (ztys g) s) (hw : z_S g A H0 h H locs) {cA : ClassId} {C : String} {n : Nat} {f : Nat → Option Nat} (ha : h a = some (t, .inl (cA, n, .inr (.inr (.inr (.inr f)))))) (t0 : Nat) (ht : (ztys g)[t0]? = some (cA, .object C)) {i : Int32} (hin : vp_in i n) (hdg : decode cc pc = .ok (.aaload, 1))
    (kk : W p l e R s m args below meth c H locs cells slots Q (F0 m (pc + 1) ls (va_rf (f i.toNatClampNeg) :: rest))) : W p l e R s m args below meth c H locs cells slots Q (F0 m pc ls (.int i :: .ref a :: rest)) :=
  va_aldq hexec hb hK (z_P1 (hw.1 _ _ _ ha)) 0 t0 rfl ht hin hdg kk
theorem z_alen (hexec : p.tables.exec = Jvm.exec) (hb : c.code = cc) (hK : va_K g.1 cls (ztys g) s) (hw : z_S g A H0 h H locs) {cA : ClassId} {x : vp_A} (ha : h a = some (t, .inl (cA, x))) (t0 : Nat) {ty : FieldType} (ht : (ztys g)[t0]? = some (cA, ty)) (hdg : decode cc pc = .ok (.arraylength, 1))
    (kk : W p l e R s m args below meth c H locs cells slots Q (F0 m (pc + 1) ls (.int (nI x.1) :: rest))) : W p l e R s m args below meth c H locs cells slots Q (F0 m pc ls (.ref a :: rest)) :=
  va_alen hexec hb hK (z_P1 (hw.1 _ _ _ ha)) 0 t0 rfl ht rfl hdg kk
theorem z_putf (hexec : p.tables.exec = Jvm.exec) (hb : c.code = cc) {own ref C : String} {T : u_T} {N ci index : Nat} (hts : ∀ w ∈ z_tbl, w.before args s = true) (hin : ∀ w ∈ u_ws C T N, w ∈ z_tbl) (ty0 : Nat → FieldType) (hty : ∀ k, k < N → parseFieldDescriptor (T k).2.2.1 = some (ty0 k)) (hnm : ∀ a, a < N → ∀ b, b < N → a ≠ b → (T a).2.1 ≠ (T b).2.1) (hown : s.vm.findClass own = some m.cls) (hK : va_K g.1 cls (ztys g) s) (hw : z_S g A H0 h H locs) {fs : List Value} (he : h a = some (t, .inr (ci, fs))) (hc : cls[ci]? = some (C, T, N)) (k : Nat) (hk : k < N) (hlink : Cond.fieldLink own index ref (T k).2.1 (T k).2.2.1 ∈ z_tbl) (hsame : ∀ x, s.fieldFound? (T k).1 (T k).2.1 (T k).2.2.1 = some x → s.fieldFound? ref (T k).2.1 (T k).2.2.1 = some x) (hfin : (T k).2.2.2 = false) {ty : FieldType} {v : Value} (hd : parseFieldDescriptor (T k).2.2.1 = some ty) (hn : narrow ty v = v) (hfit : fits ty v = true) (hl : k < fs.length)
    (hdg : decode cc pc = .ok (.putfield index, 3)) (kk : ∀ (H1 : Heap) (locs1 : List Loc), z_S g A H0 (z_put h a t (.inr (ci, fs.set k v))) H1 locs1 → W p l e R s m args below meth c H1 locs1 cells slots Q (F0 m (pc + 3) ls rest)) : W p l e R s m args below meth c H locs cells slots Q (F0 m pc ls (v :: .ref a :: rest)) := by
  have hap := va_apart (own := own) hts hin ty0 hty hnm hK hc
  obtain ⟨r, h1, cell, q1, q2, q3, q4⟩ := hw.1 _ _ _ he
  have hr : r = (C, T, N) := Option.some.inj (h1.symm.trans hc)
  subst hr
  obtain ⟨hS, hfc, kC, hkC, hkind⟩ := hK.1 ci _ hc
  obtain ⟨cf, kf, fi, f, hi, hsl⟩ := hS k hk
  have hlay := hts _ (hin _ (u_in_lay hk))
  unfold u_lay at hlay
  rw [if_neg (by rw [hfin]; decide)] at hlay
  have hst := (u_facts hfc hkC (u_lays hts hin hk) hi).1
  have h6 := u_store hfc hkC hkind hlay hi hd hn hfit
  refine W.putK hexec hb (f := f) ⟨hown, hts _ hlink, ⟨_, _, _, hsame _ hi⟩, hst⟩ (by rw [q2]; exact h6) q1 q3 (by rw [hsl]; exact k2_hasslot (q4 k hk)) rfl rfl hdg fun H' e1 e2 e3 => ?_
  rw [hsl] at e1 ⊢
  exact kk H' _ (hw.upd he ⟨_, hc, t_OB.to (V := updV (vp_V fs) k v) ⟨_, e1, q2, q3, t_set q4 hap hk v⟩ (fun j _ => vp_updV_set hl v j)⟩ e2 e3)
theorem z_putN (hexec : p.tables.exec = Jvm.exec) (hb : c.code = cc) {own ref C host : String} {T : u_T} {N ci index : Nat} (hts : ∀ w ∈ z_tbl, w.before args s = true) (hin : ∀ w ∈ u_ws C T N, w ∈ z_tbl) (ty0 : Nat → FieldType) (hty : ∀ k, k < N → parseFieldDescriptor (T k).2.2.1 = some (ty0 k)) (hnm : ∀ a, a < N → ∀ b, b < N → a ≠ b → (T a).2.1 ≠ (T b).2.1) (hown : s.vm.findClass own = some m.cls) (hK : va_K g.1 cls (ztys g) s) (hw : z_S g A H0 h H locs) {fs : List Value} (he : h a = some (t, .inr (ci, fs))) (hc : cls[ci]? = some (C, T, N)) (k : Nat) (hk : k < N) (hN : ∀ w ∈ z_nest, va_Nw w s) (hlink : Cond.fieldLinkNest own index ref (T k).2.1 (T k).2.2.1 host ∈ z_nest) (hsame : ∀ x, s.fieldFound? (T k).1 (T k).2.1 (T k).2.2.1 = some x → s.fieldFound? ref (T k).2.1 (T k).2.2.1 = some x) (hfin : (T k).2.2.2 = false) {ty : FieldType} {v : Value} (hd : parseFieldDescriptor (T k).2.2.1 = some ty) (hn : narrow ty v = v) (hfit : fits ty v = true) (hl : k < fs.length)
    (hdg : decode cc pc = .ok (.putfield index, 3)) (kk : ∀ (H1 : Heap) (locs1 : List Loc), z_S g A H0 (z_put h a t (.inr (ci, fs.set k v))) H1 locs1 → W p l e R s m args below meth c H1 locs1 cells slots Q (F0 m (pc + 3) ls rest)) : W p l e R s m args below meth c H locs cells slots Q (F0 m pc ls (v :: .ref a :: rest)) := by
  have hap := va_apart (own := own) hts hin ty0 hty hnm hK hc
  obtain ⟨r, h1, cell, q1, q2, q3, q4⟩ := hw.1 _ _ _ he
  have hr : r = (C, T, N) := Option.some.inj (h1.symm.trans hc)
  subst hr
  obtain ⟨hS, hfc, kC, hkC, hkind⟩ := hK.1 ci _ hc
  obtain ⟨cf, kf, fi, f, hi, hsl⟩ := hS k hk
  have hlay := hts _ (hin _ (u_in_lay hk))
  unfold u_lay at hlay
  rw [if_neg (by rw [hfin]; decide)] at hlay
  have hst := (u_facts hfc hkC (u_lays hts hin hk) hi).1
  have h6 := u_store hfc hkC hkind hlay hi hd hn hfit
  refine va_WputK hexec hb (f := f) hown (va_Nw.use rfl (hN _ hlink)) (hsame _ hi) hst (by rw [q2]; exact h6) q1 q3 (by rw [hsl]; exact k2_hasslot (q4 k hk)) rfl rfl hdg fun H' e1 e2 e3 => ?_
  rw [hsl] at e1 ⊢
  exact kk H' _ (hw.upd he ⟨_, hc, t_OB.to (V := updV (vp_V fs) k v) ⟨_, e1, q2, q3, t_set q4 hap hk v⟩ (fun j _ => vp_updV_set hl v j)⟩ e2 e3)
theorem z_putF (hexec : p.tables.exec = Jvm.exec) (hb : c.code = cc) {own ref C : String} {T : u_T} {N ci index : Nat} (hts : ∀ w ∈ z_tbl, w.before args s = true) (hin : ∀ w ∈ u_ws C T N, w ∈ z_tbl) (ty0 : Nat → FieldType) (hty : ∀ k, k < N → parseFieldDescriptor (T k).2.2.1 = some (ty0 k)) (hnm : ∀ a, a < N → ∀ b, b < N → a ≠ b → (T a).2.1 ≠ (T b).2.1) (hown : s.vm.findClass own = some m.cls) (hK : va_K g.1 cls (ztys g) s) (hw : z_S g A H0 h H locs) {fs : List Value} (he : h a = some (t, .inr (ci, fs))) (hc : cls[ci]? = some (C, T, N)) (k : Nat) (hk : k < N) (hlink : Cond.fieldLink own index ref (T k).2.1 (T k).2.2.1 ∈ z_tbl) (hsame : ∀ x, s.fieldFound? (T k).1 (T k).2.1 (T k).2.2.1 = some x → s.fieldFound? ref (T k).2.1 (T k).2.2.1 = some x) (hfin : (T k).2.2.2 = true) (hin2 : meth.name = "<init>") (hdecl : (T k).1 = own) {ty : FieldType} {v : Value} (hd : parseFieldDescriptor (T k).2.2.1 = some ty) (hn : narrow ty v = v) (hfit : fits ty v = true) (hl : k < fs.length)
    (hdg : decode cc pc = .ok (.putfield index, 3)) (kk : ∀ (H1 : Heap) (locs1 : List Loc), z_S g A H0 (z_put h a t (.inr (ci, fs.set k v))) H1 locs1 → W p l e R s m args below meth c H1 locs1 cells slots Q (F0 m (pc + 3) ls rest)) : W p l e R s m args below meth c H locs cells slots Q (F0 m pc ls (v :: .ref a :: rest)) := by
  have hap := va_apart (own := own) hts hin ty0 hty hnm hK hc
  obtain ⟨r, h1, cell, q1, q2, q3, q4⟩ := hw.1 _ _ _ he
  have hr : r = (C, T, N) := Option.some.inj (h1.symm.trans hc)
  subst hr
  obtain ⟨hS, hfc, kC, hkC, hkind⟩ := hK.1 ci _ hc
  obtain ⟨cf, kf, fi, f, hi, hsl⟩ := hS k hk
  have hlay := hts _ (hin _ (u_in_lay hk))
  unfold u_lay at hlay
  rw [if_pos hfin] at hlay
  have hst := (u_facts hfc hkC (u_lays hts hin hk) hi).1
  have hcf : m.cls = cf := by
    obtain ⟨_, _, c', _, _, _, -, -, hf', -, -, -, hown2, -⟩ := Cond.laysFinal_spec hlay
    have e1 : c' = cf := by have := hi.symm.trans hf'; simp at this; exact this.1.symm
    rw [hdecl] at hown2
    rw [← e1]; exact Option.some.inj (hown.symm.trans hown2)
  have h6 := u_fits hfc hkC hkind (Or.inr hlay) hi hd hn hfit
  refine W.putFinK hexec hb hown (hts _ hlink) (hsame _ hi) hst hcf hin2 (by rw [q2]; exact h6) q1 q3 (by rw [hsl]; exact k2_hasslot (q4 k hk)) rfl rfl hdg fun H' e1 e2 e3 => ?_
  rw [hsl] at e1 ⊢
  exact kk H' _ (hw.upd he ⟨_, hc, t_OB.to (V := updV (vp_V fs) k v) ⟨_, e1, q2, q3, t_set q4 hap hk v⟩ (fun j _ => vp_updV_set hl v j)⟩ e2 e3)
theorem z_iast (hexec : p.tables.exec = Jvm.exec) (hb : c.code = cc) (hK : va_K g.1 cls (ztys g) s) (hw : z_S g A H0 h H locs) {cA : ClassId} {n : Nat} {f : Nat → Int32} (ha : h a = some (t, .inl (cA, n, .inl f))) (t0 : Nat) (ht : (ztys g)[t0]? = some (cA, .int)) {i : Int32} {x : Int32} (hin : vp_in i n) (hdg : decode cc pc = .ok (.iastore, 1))
    (kk : ∀ (H1 : Heap) (locs1 : List Loc), z_S g A H0 (z_put h a t (.inl (cA, n, .inl (upd f i.toNatClampNeg x)))) H1 locs1 → W p l e R s m args below meth c H1 locs1 cells slots Q (F0 m (pc + 1) ls rest)) : W p l e R s m args below meth c H locs cells slots Q (F0 m pc ls (.int x :: .int i :: .ref a :: rest)) := by
  refine W.iast hexec hb (hw.1 _ _ _ ha) ((hK.2 t0 _ ht).1 n (fun j => .int (f j))) (fun q => by cases q) (by show ¬ (i < 0 ∨ (arrV _ _ _).slots.size ≤ _); rw [arrV_size]; exact hin) rfl rfl hdg fun H1 e z oq => ?_
  refine kk H1 _ (hw.upd ha ?_ z oq)
  show H1[a]? = some (vp_cell _ _)
  rw [e]
  rw [vp_cell_i, vp_cell_i, arrV_store]
  congr 2
  funext q
  by_cases hq : q = i.toNatClampNeg
  · subst hq
    simp [updV, upd]
  · simp [updV, upd, hq]
theorem z_bast (hexec : p.tables.exec = Jvm.exec) (hb : c.code = cc) (hK : va_K g.1 cls (ztys g) s) (hw : z_S g A H0 h H locs) {cA : ClassId} {n : Nat} {f : Nat → Int32} (ha : h a = some (t, .inl (cA, n, .inl f))) (t0 : Nat) (ht : (ztys g)[t0]? = some (cA, .byte)) {i : Int32} {x : Int32} (hin : vp_in i n) (hdg : decode cc pc = .ok (.bastore, 1))
    (kk : ∀ (H1 : Heap) (locs1 : List Loc), z_S g A H0 (z_put h a t (.inl (cA, n, .inl (upd f i.toNatClampNeg (vp_nar .byte x))))) H1 locs1 → W p l e R s m args below meth c H1 locs1 cells slots Q (F0 m (pc + 1) ls rest)) : W p l e R s m args below meth c H locs cells slots Q (F0 m pc ls (.int x :: .int i :: .ref a :: rest)) := by
  refine W.bast hexec hb (hw.1 _ _ _ ha) ((hK.2 t0 _ ht).1 n (fun j => .int (f j))) (fun q => by cases q) (by show ¬ (i < 0 ∨ (arrV _ _ _).slots.size ≤ _); rw [arrV_size]; exact hin) rfl rfl hdg fun H1 e z oq => ?_
  refine kk H1 _ (hw.upd ha ?_ z oq)
  show H1[a]? = some (vp_cell _ _)
  rw [e]
  rw [vp_cell_i, vp_cell_i, arrV_store]
  congr 2
  funext q
  by_cases hq : q = i.toNatClampNeg
  · subst hq
    simp [updV, upd, vp_nar]
    try rfl
  · simp [updV, upd, hq]
theorem z_astq (hexec : p.tables.exec = Jvm.exec) (hb : c.code = cc) (hK : va_K g.1 cls (ztys g) s) (hw : z_S g A H0 h H locs) {ci : Nat} {cA : ClassId} {r : vw_C} {n v : Nat} {vs : List Value} {tv : Nat × Nat} {f : Nat → Option Nat} (ha : h a = some (t, .inl (cA, n, .inr (.inr (.inr (.inr f)))))) (t0 : Nat) (ht : (ztys g)[t0]? = some (cA, .object r.1)) (hv : h v = some (tv, .inr (ci, vs))) (hc : cls[ci]? = some r) {i : Int32} (hin : vp_in i n) (hdg : decode cc pc = .ok (.aastore, 1))
    (kk : ∀ (H1 : Heap) (locs1 : List Loc), z_S g A H0 (z_put h a t (.inl (cA, n, .inr (.inr (.inr (.inr (va_up f i.toNatClampNeg (some v)))))))) H1 locs1 → W p l e R s m args below meth c H1 locs1 cells slots Q (F0 m (pc + 1) ls rest)) : W p l e R s m args below meth c H locs cells slots Q (F0 m pc ls (.ref v :: .int i :: .ref a :: rest)) := by
  have hlt : i.toNatClampNeg < n := Nat.not_le.mp fun q => hin (Or.inr q)
  have h0 : ¬ i < 0 := fun q => hin (Or.inl q)
  obtain ⟨r', hr', cellV, g1, g2, g3, -⟩ := hw.1 _ _ _ hv
  have hcls := (hK.1 ci r hc).2
  obtain ⟨kA, comp, k1, k2, k3, -⟩ := (hK.2 t0 _ ht).2
  have hcomp : comp = g.1.1 ci := Option.some.inj (k3.symm.trans hcls.1)
  subst hcomp
  obtain ⟨kC, hkC, -⟩ := hcls.2
  refine W.aast hexec hb (hw.1 _ _ _ ha) (fun q h => by cases h) (fun h => by cases h) k1 k2 rfl hkC ⟨h0, by show _ < (arrV _ _ _).slots.size; rw [arrV_size]; exact hlt⟩ g1 (fun q h => by rw [g3] at h; cases h) (by rw [g2]; exact hkC) (by rw [g2]; exact va_assign hcls) rfl rfl hdg fun H1 e z oq => ?_
  refine kk H1 _ (hw.upd ha ?_ z oq)
  show H1[a]? = some (vp_cell _ _)
  rw [e]
  rw [vp_cell_q, vp_cell_q, arrV_store]
  congr 2
  funext q
  by_cases hq : q = i.toNatClampNeg
  · subst hq
    simp [updV, va_up, va_rf]
  · simp [updV, va_up, hq]
theorem z_new {own C : String} {T : u_T} {N ci index : Nat} (hexec : p.tables.exec = Jvm.exec) (hb : c.code = cc) (hts : ∀ w ∈ z_tbl, w.before args s = true) (hin : ∀ w ∈ u_ws C T N, w ∈ z_tbl) (ty : Nat → FieldType) (hty : ∀ k, k < N → parseFieldDescriptor (T k).2.2.1 = some (ty k)) (hown : s.vm.findClass own = some m.cls) (hcl : Cond.classLink own index C ∈ z_tbl) (hinst : Cond.instantiable C N ∈ z_tbl) (hini : Cond.initialized C ∈ z_tbl)
    (hK : va_K g.1 cls (ztys g) s) (hw : z_S g A H0 h H locs) (hA : ∀ q, H0.size ≤ q → A q) (hc : cls[ci]? = some (C, T, N)) {fs : List Value} (hfs : ∀ j, j < N → defaultValue (ty j) = vp_V fs j) (hcells : cells + 1 ≤ R.cells) (hslots : slots + N ≤ R.slots) (hdg : decode cc pc = .ok (.new index, 3)) (t : Nat × Nat)
    (kk : ∀ (q : Nat) (H1 : Heap), h q = none → z_S g A H0 (z_put h q t (.inr (ci, fs))) H1 locs →
      W p l e R s m args below meth c H1 locs (cells + 1) (slots + N) Q (F0 m (pc + 3) ls (.ref q :: rest))) : W p l e R s m args below meth c H locs cells slots Q (F0 m pc ls rest) := by
  have hKn := hK.1 ci _ hc
  refine W.newcK hexec hb hown (hts _ hcl) (hts _ hinst) (hts _ hini) rfl hdg hcells hslots hKn.2.1 rfl fun H1 kC hkC e1 z1 o1 => ?_
  exact kk H.size H1 hw.fresh (hw.born hA ⟨_, hc, (u_born ty hts hin hKn hkC e1 hty).to hfs⟩ z1 o1)
theorem z_newa (hexec : p.tables.exec = Jvm.exec) (hb : c.code = cc) {atype : ArrayType} (hts : ∀ w ∈ z_tbl, w.before args s = true) (harr : Cond.arrayClass (newarray.typeOf atype) ∈ z_tbl) (hK : va_K g.1 cls (ztys g) s) (hw : z_S g A H0 h H locs) (hA : ∀ q, H0.size ≤ q → A q)
    {n : Int32} {N' : Nat} {a0 : vp_A} (t0 : Nat) {cA : ClassId} {ty : FieldType} (ht : (ztys g)[t0]? = some (cA, ty)) (hty : newarray.typeOf atype = ty) (hno : ∀ C, ty ≠ .object C) (ha : ∀ cA : ClassId, vp_cell cA a0 = arrV cA N' (fun _ => defaultValue ty)) (hn : ¬ n < 0) (hN : n.toNatClampNeg = N') (hbytes : N' * componentBytes ty ≤ 536870912) (hcells : cells + 1 ≤ R.cells) (hslots : slots + N' ≤ R.slots) (hdg : decode cc pc = .ok (.newarray atype, 2)) (t : Nat × Nat)
    (kk : ∀ (q : Nat) (H1 : Heap), h q = none → z_S g A H0 (z_put h q t (.inl (cA, a0))) H1 locs →
      W p l e R s m args below meth c H1 locs (cells + 1) (slots + N') Q (F0 m (pc + 2) ls (.ref q :: rest))) : W p l e R s m args below meth c H locs cells slots Q (F0 m pc ls (.int n :: rest)) := by
  subst hty
  refine va_newaK hexec hb (hts _ harr) rfl hdg rfl hn hN hbytes hcells hslots rfl fun H1 cB e1 z1 o1 hAr hNm => ?_
  have hRA := (hK.2 t0 _ ht).2
  have hcc : cB = cA := by
    have h2 : s.vm.findClass ("[" ++ (newarray.typeOf atype).toString) = some cA := by
      cases hty : newarray.typeOf atype with
      | object C => exact absurd hty (hno C)
      | _ => rw [hty] at hRA; exact hRA
    exact Option.some.inj (hNm.symm.trans h2)
  subst hcc
  refine kk H.size H1 hw.fresh (hw.born hA ?_ z1 o1)
  show H1[H.size]? = some (vp_cell _ _)
  rw [ha]
  exact e1
theorem z_iret {post : Option Value → z_H → Prop} {v : Int32} (hexec : p.tables.exec = Jvm.exec) (hb : c.code = cc) (hr : meth.sig.returnType = some .int) (hlocks : meth.locks = false) (hw : z_S g A s.heap h H locs) (hp : post (some (.int v)) h) (hc : cells ≤ mc) (hs : slots ≤ ms) (hdg : decode cc pc = .ok (.ireturn, 1)) : W p l e R s m args below meth c H locs cells slots (MQ below (z_Q g A post) args s mc ms A) (F0 m pc ls [.int v]) :=
  W.widen hc hs (W.iret hexec hb hr (fun t ht hW => ⟨⟨_, h, rfl, hp, by rw [ht]; exact hw.1, fun q t e hq => hw.2.1 q t e hq⟩, hw.2.2.F ht⟩) hw.2.2.2.2 hdg hlocks)
theorem z_zret {post : Option Value → z_H → Prop} {v : Int32} {ty : FieldType} (hexec : p.tables.exec = Jvm.exec) (hb : c.code = cc) (hr : meth.sig.returnType = some ty) (hn : narrow ty (.int v) = .int v) (hlocks : meth.locks = false) (hw : z_S g A s.heap h H locs) (hp : post (some (.int v)) h) (hc : cells ≤ mc) (hs : slots ≤ ms) (hdg : decode cc pc = .ok (.ireturn, 1)) : W p l e R s m args below meth c H locs cells slots (MQ below (z_Q g A post) args s mc ms A) (F0 m pc ls [.int v]) :=
  W.widen hc hs (W.zret hexec hb hr hn (fun t ht hW => ⟨⟨_, h, rfl, hp, by rw [ht]; exact hw.1, fun q t e hq => hw.2.1 q t e hq⟩, hw.2.2.F ht⟩) hw.2.2.2.2 hdg hlocks)
theorem z_lret {post : Option Value → z_H → Prop} {v : Int64} (hexec : p.tables.exec = Jvm.exec) (hb : c.code = cc) (hr : meth.sig.returnType = some .long) (hlocks : meth.locks = false) (hw : z_S g A s.heap h H locs) (hp : post (some (.long v)) h) (hc : cells ≤ mc) (hs : slots ≤ ms) (hdg : decode cc pc = .ok (.lreturn, 1)) : W p l e R s m args below meth c H locs cells slots (MQ below (z_Q g A post) args s mc ms A) (F0 m pc ls [.long v]) :=
  W.widen hc hs (W.lret hexec hb hr (fun t ht hW => ⟨⟨_, h, rfl, hp, by rw [ht]; exact hw.1, fun q t e hq => hw.2.1 q t e hq⟩, hw.2.2.F ht⟩) hw.2.2.2.2 hdg hlocks)
theorem z_vret {post : Option Value → z_H → Prop} (hexec : p.tables.exec = Jvm.exec) (hb : c.code = cc) (hr : meth.sig.returnType = none) (hlocks : meth.locks = false) (hw : z_S g A s.heap h H locs) (hp : post none h) (hc : cells ≤ mc) (hs : slots ≤ ms) (hdg : decode cc pc = .ok (.return_, 1)) : W p l e R s m args below meth c H locs cells slots (MQ below (z_Q g A post) args s mc ms A) (F0 m pc ls []) :=
  W.widen hc hs (W.vret hexec hb hr (fun t ht hW => ⟨⟨_, h, rfl, hp, by rw [ht]; exact hw.1, fun q t e hq => hw.2.1 q t e hq⟩, hw.2.2.F ht⟩) hw.2.2.2.2 hdg hlocks)
theorem z_aret {post : Option Value → z_H → Prop} {v : Value} {rt : FieldType} (hexec : p.tables.exec = Jvm.exec) (hb : c.code = cc) (hr : meth.sig.returnType = some rt) (hrt : (∃ n, rt = .object n) ∨ ∃ t, rt = .array t) (hv : v = .null ∨ ∃ a, v = .ref a) (hlocks : meth.locks = false) (hw : z_S g A s.heap h H locs) (hp : post (some v) h) (hc : cells ≤ mc) (hs : slots ≤ ms) (hdg : decode cc pc = .ok (.areturn, 1)) : W p l e R s m args below meth c H locs cells slots (MQ below (z_Q g A post) args s mc ms A) (F0 m pc ls [v]) :=
  W.widen hc hs (W.aret hexec hb hr hrt hv (fun t ht hW => ⟨⟨_, h, rfl, hp, by rw [ht]; exact hw.1, fun q t e hq => hw.2.1 q t e hq⟩, hw.2.2.F ht⟩) hw.2.2.2.2 hdg hlocks)
theorem z_cB {own : String} {index n maxL fr lo : Nat} {y : MethodName} {bytes : ByteArray} {ret : Option FieldType} (hts : ∀ w ∈ z_tbl, w.before args s = true) (hcode : Cond.code y bytes maxL ret ∈ z_tbl) (hini : Cond.initialized y.cls ∈ z_tbl) (hlink : Cond.methodLink own index y ∈ z_tbl) (hd : y.cls ≠ "java/lang/invoke/MethodHandle" ∧ y.cls ≠ "java/lang/invoke/VarHandle" ∧ (parseMethodDescriptor y.desc).map (fun d => d.parameters.length) = some n) (hR : fr + 1 ≤ R.frames ∧ 8 + (maxL + 11) + lo ≤ R.locals) :
    CallB R s args own index y bytes maxL ret (Cond.code y bytes maxL ret :: z_tbl) { frames := fr, cells := mc, slots := ms, locals := lo } mc ms n :=
  callB_of n hts (z_good hcode) rfl rfl rfl (hts _ hini) (hts _ hlink) hd hR
theorem z_callV {own : String} {index n maxL nL fr lo ci b : Nat} {y : MethodName} {bytes : ByteArray} {ret : Option FieldType} {q : vw_C} {fs As : List Value} {post : Option Value → z_H → Prop}
    (S : CallFix p m c cc nL s args z_tbl own) (hM : z_C l y bytes maxL ret fr lo mc ms g (.ref b :: As) h post) (hcode : Cond.code y bytes maxL ret ∈ z_tbl) (hini : Cond.initialized y.cls ∈ z_tbl) (hlink : Cond.methodLink own index y ∈ z_tbl) (hinst : Cond.instanceMethod y ∈ z_tbl) (hsel : Cond.selects q.1 y y ∈ z_tbl)
    (hd : y.cls ≠ "java/lang/invoke/MethodHandle" ∧ y.cls ≠ "java/lang/invoke/VarHandle" ∧ (parseMethodDescriptor y.desc).map (fun d => d.parameters.length) = some n) (hR : fr + 1 ≤ R.frames ∧ 8 + (maxL + 11) + lo ≤ R.locals)
    (hK : va_K g.1 cls (ztys g) s) (hE : z_E g A s H0) (hw : z_S g A H0 h H locs) (hA : ∀ q, H0.size ≤ q → A q) (hc : cls[ci]? = some q) (he : h b = some (t, .inr (ci, fs))) (hn : As.length = n) (hsize : ls.size = nL) (hrm : (rest.map fun v => v.category).sum ≤ 8) (hdg : decode cc pc = .ok (.invokevirtual index, 3)) (hf : cells + mc ≤ R.cells ∧ slots + ms ≤ R.slots)
    (hst : st0 = As.reverse ++ .ref b :: rest)
    (kk : ∀ (r : Option Value) (h1 : z_H) (H1 : Heap) (locs1 : List Loc), post r h1 → z_S g A H0 h1 H1 locs1 → W p l e R s m args below meth c H1 locs1 (cells + mc) (slots + ms) Q (F0 m (pc + 3) ls (r.toList ++ rest))) : W p l e R s m args below meth c H locs cells slots Q (F0 m pc ls st0) :=
  z_call (va_runV (C := q.1) S (hM H.size) ⟨z_cB S.2.2.2.2 hcode hini hlink hd hR, S.2.2.2.2 _ hinst, S.2.2.2.2 _ hsel⟩ (z_preV hK hE hw hA hc he) rfl hn hsize hst (lv_room hrm) hdg hf) hw hA kk
theorem z_callS {own : String} {index n maxL nL fr lo : Nat} {y : MethodName} {bytes : ByteArray} {ret : Option FieldType} {As : List Value} {post : Option Value → z_H → Prop}
    (S : CallFix p m c cc nL s args z_tbl own) (hM : z_C l y bytes maxL ret fr lo mc ms g As h post) (hcode : Cond.code y bytes maxL ret ∈ z_tbl) (hini : Cond.initialized y.cls ∈ z_tbl) (hlink : Cond.methodLink own index y ∈ z_tbl) (hinst : Cond.static y ∈ z_tbl)
    (hd : y.cls ≠ "java/lang/invoke/MethodHandle" ∧ y.cls ≠ "java/lang/invoke/VarHandle" ∧ (parseMethodDescriptor y.desc).map (fun d => d.parameters.length) = some n) (hR : fr + 1 ≤ R.frames ∧ 8 + (maxL + 11) + lo ≤ R.locals)
    (hK : va_K g.1 cls (ztys g) s) (hE : z_E g A s H0) (hw : z_S g A H0 h H locs) (hA : ∀ q, H0.size ≤ q → A q) (hn : As.length = n) (hsize : ls.size = nL) (hrm : (rest.map fun v => v.category).sum ≤ 8) (hdg : decode cc pc = .ok (.invokestatic index, 3)) (hf : cells + mc ≤ R.cells ∧ slots + ms ≤ R.slots)
    (hst : st0 = As.reverse ++ rest)
    (kk : ∀ (r : Option Value) (h1 : z_H) (H1 : Heap) (locs1 : List Loc), post r h1 → z_S g A H0 h1 H1 locs1 → W p l e R s m args below meth c H1 locs1 (cells + mc) (slots + ms) Q (F0 m (pc + 3) ls (r.toList ++ rest))) : W p l e R s m args below meth c H locs cells slots Q (F0 m pc ls st0) :=
  z_call (va_runS S (hM H.size) ⟨z_cB S.2.2.2.2 hcode hini hlink hd hR, S.2.2.2.2 _ hinst⟩ (z_preS hK hE hw hA) rfl hn hsize hst (lv_room hrm) hdg hf) hw hA kk
theorem z_callI {own : String} {index n maxL nL fr lo b : Nat} {y : MethodName} {bytes : ByteArray} {As : List Value} {post : Option Value → z_H → Prop}
    (S : CallFix p m c cc nL s args z_tbl own) (hM : z_C l y bytes maxL none fr lo mc ms g (.ref b :: As) h post) (hcode : Cond.code y bytes maxL none ∈ z_tbl) (hini : Cond.initialized y.cls ∈ z_tbl) (hlink : Cond.methodLink own index y ∈ z_tbl) (hinst : Cond.instanceMethod y ∈ z_tbl) (hy1 : y.name = "<init>")
    (hd : y.cls ≠ "java/lang/invoke/MethodHandle" ∧ y.cls ≠ "java/lang/invoke/VarHandle" ∧ (parseMethodDescriptor y.desc).map (fun d => d.parameters.length) = some n) (hR : fr + 1 ≤ R.frames ∧ 8 + (maxL + 11) + lo ≤ R.locals)
    (hK : va_K g.1 cls (ztys g) s) (hE : z_E g A s H0) (hw : z_S g A H0 h H locs) (hA : ∀ q, H0.size ≤ q → A q) (hn : As.length = n) (hsize : ls.size = nL) (hrm : (rest.map fun v => v.category).sum ≤ 8) (hdg : decode cc pc = .ok (.invokespecial index, 3)) (hf : cells + mc ≤ R.cells ∧ slots + ms ≤ R.slots)
    (hst : st0 = As.reverse ++ .ref b :: rest)
    (kk : ∀ (r : Option Value) (h1 : z_H) (H1 : Heap) (locs1 : List Loc), post r h1 → z_S g A H0 h1 H1 locs1 → W p l e R s m args below meth c H1 locs1 (cells + mc) (slots + ms) Q (F0 m (pc + 3) ls (r.toList ++ rest))) : W p l e R s m args below meth c H locs cells slots Q (F0 m pc ls st0) :=
  z_call (va_runI S (hM H.size) ⟨z_cB S.2.2.2.2 hcode hini hlink hd hR, hy1, S.2.2.2.2 _ hinst⟩ (z_preS hK hE hw hA) rfl hn hsize hst (lv_room hrm) hdg hf) hw hA kk
theorem z_callIN {own host : String} {index n maxL nL fr lo b : Nat} {y : MethodName} {bytes : ByteArray} {As : List Value} {post : Option Value → z_H → Prop}
    (S : CallFix p m c cc nL s args z_tbl own) (hM : z_C l y bytes maxL none fr lo mc ms g (.ref b :: As) h post) (hcode : Cond.code y bytes maxL none ∈ z_tbl) (hini : Cond.initialized y.cls ∈ z_tbl) (hN : ∀ w ∈ z_nest, va_Nw w s) (hlink : Cond.methodLinkNest own index y host ∈ z_nest) (hinst : Cond.instanceMethod y ∈ z_tbl) (hy1 : y.name = "<init>")
    (hd : y.cls ≠ "java/lang/invoke/MethodHandle" ∧ y.cls ≠ "java/lang/invoke/VarHandle" ∧ (parseMethodDescriptor y.desc).map (fun d => d.parameters.length) = some n) (hR : fr + 1 ≤ R.frames ∧ 8 + (maxL + 11) + lo ≤ R.locals)
    (hK : va_K g.1 cls (ztys g) s) (hE : z_E g A s H0) (hw : z_S g A H0 h H locs) (hA : ∀ q, H0.size ≤ q → A q) (hn : As.length = n) (hsize : ls.size = nL) (hrm : (rest.map fun v => v.category).sum ≤ 8) (hdg : decode cc pc = .ok (.invokespecial index, 3)) (hf : cells + mc ≤ R.cells ∧ slots + ms ≤ R.slots)
    (hst : st0 = As.reverse ++ .ref b :: rest)
    (kk : ∀ (r : Option Value) (h1 : z_H) (H1 : Heap) (locs1 : List Loc), post r h1 → z_S g A H0 h1 H1 locs1 → W p l e R s m args below meth c H1 locs1 (cells + mc) (slots + ms) Q (F0 m (pc + 3) ls (r.toList ++ rest))) : W p l e R s m args below meth c H locs cells slots Q (F0 m pc ls st0) :=
  z_call (va_runIN S (hM H.size) ⟨va_cnB n S.2.2.2.2 (z_good hcode) rfl rfl rfl (hN _ hlink) (S.2.2.2.2 _ hini) hd hR, hy1, S.2.2.2.2 _ hinst⟩ (z_preS hK hE hw hA) rfl hn hsize hst (lv_room hrm) hdg hf) hw hA kk
theorem z_topi {x y : Int32} (hxy : x = y) (k : W p l e R s m args below meth c H locs cells slots Q (F0 m pc ls (.int y :: rest))) : W p l e R s m args below meth c H locs cells slots Q (F0 m pc ls (.int x :: rest)) := by
  subst hxy
  exact k
theorem z_topl {x y : Int64} (hxy : x = y) (k : W p l e R s m args below meth c H locs cells slots Q (F0 m pc ls (.long y :: rest))) : W p l e R s m args below meth c H locs cells slots Q (F0 m pc ls (.long x :: rest)) := by
  subst hxy
  exact k
theorem z_top {x y : Value} (hxy : x = y) (k : W p l e R s m args below meth c H locs cells slots Q (F0 m pc ls (y :: rest))) : W p l e R s m args below meth c H locs cells slots Q (F0 m pc ls (x :: rest)) := by
  subst hxy
  exact k
end ZR
theorem z_C.of {l : Launch} {y : MethodName} {fr lo mc ms : Nat} {g : z_G} {av : List Value} {h : z_H} {post : Option Value → z_H → Prop} {cc : ByteArray} {maxL : Nat} {ret : Option FieldType} (hy : plainName y.cls = true) (hn : (lg_sl av).length ≤ maxL)
    (body : ∀ (p : Program) (e : Env) (s : State) (m : MethodId) (below : List Frame) (meth : Method) (c : Code) (A : Nat → Prop) (ls : Array Slot), p.tables.exec = Jvm.exec → c.code = cc → c.maxLocals = maxL → meth.sig.returnType = ret → (∀ w ∈ z_tbl, w.before av.toArray s = true) → s.vm.findClass y.cls = some m.cls → meth.locks = false → meth.name = y.name → va_K g.1 cls (ztys g) s → z_E g A s s.heap → (∀ q, s.heap.size ≤ q → A q) → z_S g A s.heap h s.heap [] → lv_has ls maxL (lv_args 0 av) →
      W p l e { frames := fr, cells := mc, slots := ms, locals := lo } s m av.toArray below meth c s.heap [] 0 0 (MQ below (z_Q g A post) av.toArray s mc ms A) (F0 m 0 ls [])) : z_C l y cc maxL ret fr lo mc ms g av h post := by
  intro sz
  refine Met.ofW (cc := cc) (maxL := maxL) (ret := ret) hy rfl ?_
  intro p e s m args below meth c s₁ B hml hv
  obtain ⟨rfl, hsz, hP, hK, hE⟩ := hv
  subst hsz
  have hl := lv_entry av hn
  rw [lg_entry_eq]
  exact body p e s m below meth c (z_A h s.heap.size) _ B.exec B.bytes hml B.returns (fun w hw => atoms_spec (ws := Cond.code y cc maxL ret :: z_tbl) B.pre w (List.mem_cons_of_mem _ hw)) (findClass_of_methodNamed B.named) B.notSynchronized (name_of_methodNamed B.named B.method).1 hK hE (fun q hq => Or.inr hq) ⟨hP, fun q t e hq => Or.inl ⟨t, e, hq⟩, va_S.rf⟩ hl

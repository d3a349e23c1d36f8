section ZR2
variable {p : Program} {l : Launch} {e : Env} {R : Room} {s : State} {m : MethodId} {args : Array Value} {below : List Frame} {meth : Method} {c : Code} {H : Heap} {locs : List Loc} {cells slots : Nat} {Q : State → Prop}
variable {cc : ByteArray} {pc : Nat} {ls : Array Slot} {rest st0 : List Value} {g : z_G} {A : Nat → Prop} {a : Nat} {H0 : Heap} {h : z_H} {t : Nat × Nat} {mc ms : Nat}
theorem z_last (hexec : p.tables.exec = Jvm.exec) (hb : c.code = cc) (hK : va_K g.1 cls (ztys g) s) (hw : z_S g A H0 h H locs) {cA : ClassId} {n : Nat} {f : Nat → Int64} (ha : h a = some (t, .inl (cA, n, .inr (.inl f)))) (t0 : Nat) (ht : (ztys g)[t0]? = some (cA, .long)) {i : Int32} {x : Int64} (hin : vp_in i n) (hdg : decode cc pc = .ok (.lastore, 1))
    (kk : ∀ (H1 : Heap) (locs1 : List Loc), z_S g A H0 (z_put h a t (.inl (cA, n, .inr (.inl (vp_updL f i.toNatClampNeg x))))) H1 locs1 → W p l e R s m args below meth c H1 locs1 cells slots Q (F0 m (pc + 1) ls rest)) : W p l e R s m args below meth c H locs cells slots Q (F0 m pc ls (.long x :: .int i :: .ref a :: rest)) := by
  refine W.last hexec hb (hw.1 _ _ _ ha) ((hK.2 t0 _ ht).1 n (fun j => .long (f j))) (fun q => by cases q) (by show ¬ (i < 0 ∨ (arrV _ _ _).slots.size ≤ _); rw [arrV_size]; exact hin) rfl rfl hdg fun H1 e z oq => ?_
  refine kk H1 _ (hw.upd ha ?_ z oq)
  show H1[a]? = some (vp_cell _ _)
  rw [e]
  rw [vp_cell_l, vp_cell_l, arrV_store]
  congr 2
  funext q
  by_cases hq : q = i.toNatClampNeg
  · subst hq
    simp [updV, vp_updL]
  · simp [updV, vp_updL, hq]
theorem z_copyb (hexec : p.tables.exec = Jvm.exec) (hb : c.code = cc) (hml : c.maxLocals = ls.size) {own : String} {index : Nat} (hown : s.vm.findClass own = some m.cls) (hts : ∀ w ∈ z_tbl, w.before args s = true) (hlink : Cond.methodLink own index arraycopyName ∈ z_tbl) (hnat : Cond.native arraycopyName ∈ z_tbl) (hstat : Cond.static arraycopyName ∈ z_tbl) (hini : Cond.initialized "java/lang/System" ∈ z_tbl)
    (hK : va_K g.1 cls (ztys g) s) (hw : z_S g A H0 h H locs) {a0 : Nat} {t0 : Nat × Nat} {n0 n1 : Nat} {f f1 : Nat → Int32} (ha0 : h a0 = some (t0, .inl (g.2.1 0, n0, .inl f))) (ha1 : h a = some (t, .inl (g.2.1 0, n1, .inl f1)))
    {sp dp n : Nat} (hs : sp + n < 2 ^ 31) (hd : dp + n < 2 ^ 31) (h4 : sp + n ≤ n0) (h5 : dp + n ≤ n1) (hfit : ∀ i, i < n → fits .byte (.int (f (sp + i))) = true)
    (hframes : 1 ≤ R.frames) (hlocals : (rest.map fun v => v.category).sum + (nativeFrameWords "java/lang/System" "arraycopy" 5 + 11) ≤ R.locals) (hdg : decode cc pc = .ok (.invokestatic index, 3))
    (kk : ∀ (H1 : Heap) (locs1 : List Loc), z_S g A H0 (z_put h a t (.inl (g.2.1 0, n1, .inl (va_cpy f f1 sp dp n)))) H1 locs1 → W p l e R s m args below meth c H1 locs1 cells slots Q (F0 m (pc + 3) ls rest)) : W p l e R s m args below meth c H locs cells slots Q (F0 m pc ls (.int (nI n) :: .int (nI dp) :: .ref a :: .int (nI sp) :: .ref a0 :: rest)) := by
  have nn : ∀ z : Nat, z < 2 ^ 31 → (nI z).toInt = (z : Int) := fun z hz => nI_toInt hz
  have ht : (ztys g)[0]? = some (g.2.1 0, .byte) := rfl
  have hS := hw.2.2
  intro T hT X
  have hc0 : H[a0]? = some (vp_cell (g.2.1 0) (n0, .inl f)) := hw.1 _ _ _ ha0
  have hc1 : H[a]? = some (vp_cell (g.2.1 0) (n1, .inl f1)) := hw.1 _ _ _ ha1
  obtain ⟨-, k0, hk0, cm0, hkk0⟩ := (hK.2 0 _ ht).1 n0 (fun j => .int (f j))
  obtain ⟨-, k1, hk1, cm1, hkk1⟩ := (hK.2 0 _ ht).1 n1 (fun j => .int (f1 j))
  obtain ⟨vm', X', step⟩ := X.arraycopy hexec hown (hts _ hlink) (hts _ hnat) (hts _ hstat) (hts _ hini) (src := a0) (dst := a) (cs := vp_cell (g.2.1 0) (n0, .inl f)) (cd := vp_cell (g.2.1 0) (n1, .inl f1)) (srcPos := nI sp) (destPos := nI dp) (n := nI n) (by rw [hT]; exact hc0) (by rw [hT]; exact hc1)
    (fun _ h => by cases h) (fun _ h => by cases h) (fun h => by cases h) (fun h => by cases h) hk0 hk1 hkk0 hkk1 (by simp [refKind]) (nI_pos (by omega)) (nI_pos (by omega)) (nI_pos (by omega))
    (by rw [nn sp (by omega), nn n (by omega)]; show ¬ _ > ((arrV (g.2.1 0) n0 (fun j => .int (f j))).slots.size : Int); rw [arrV_size]; omega)
    (by rw [nn dp (by omega), nn n (by omega)]; show ¬ _ > ((arrV (g.2.1 0) n1 (fun j => .int (f1 j))).slots.size : Int); rw [arrV_size]; omega)
    (fun vm₁ _ i hi => by
      rw [nI_clamp (by omega)] at hi
      rw [nI_clamp (by omega)]
      have e : (vp_cell (g.2.1 0) (n0, .inl f)).slots.getD (sp + i) .null = .int (f (sp + i)) := by
        show (arrV (g.2.1 0) n0 (fun j => .int (f j))).slots.getD _ _ = _
        rw [Array.getD_eq_getD_getElem?, arrV_read _ _ (by omega)]
        rfl
      refine ⟨?_, ?_⟩
      · rw [e]
        exact hfit i hi
      · rw [e]
        exact trivial)
    (g := F0 m pc ls (.int (nI n) :: .int (nI dp) :: .ref a :: .int (nI sp) :: .ref a0 :: rest)) rfl (by rw [hml]) (rest := rest) rfl (by rw [hb]; exact hdg) hframes (by show 2 * 0 + _ + _ ≤ _; omega)
  have e1 : copied (vp_cell (g.2.1 0) (n0, .inl f)) (vp_cell (g.2.1 0) (n1, .inl f1)) (nI sp) (nI dp) (nI n) = vp_cell (g.2.1 0) (n1, .inl (va_cpy f f1 sp dp n)) := by
    have e2 : copied (vp_cell (g.2.1 0) (n0, .inl f)) (vp_cell (g.2.1 0) (n1, .inl f1)) (nI sp) (nI dp) (nI n) = vp_cell (g.2.1 0) (n1, .inl (va_cpy f f1 (nI sp).toNatClampNeg (nI dp).toNatClampNeg (nI n).toNatClampNeg)) := va_copied (fun z => .int z) (g.2.1 0) (g.2.1 0) f f1 (by rw [nI_clamp (by omega), nI_clamp (by omega)]; exact h4)
    rw [nI_clamp (by omega), nI_clamp (by omega), nI_clamp (by omega)] at e2
    exact e2
  rw [e1] at X' step
  have hl : a < H.size := (Array.getElem?_eq_some_iff.mp hc1).1
  have hheap : ((T.setVm vm').setCell a (vp_cell (g.2.1 0) (n1, .inl (va_cpy f f1 sp dp n)))).heap = H.setIfInBounds a (vp_cell (g.2.1 0) (n1, .inl (va_cpy f f1 sp dp n))) := by rw [← hT]; rfl
  have oq : ∀ q : Nat, q ≠ a → (H.setIfInBounds a (vp_cell (g.2.1 0) (n1, .inl (va_cpy f f1 sp dp n))))[q]? = H[q]? := fun q hq => by simp [Array.getElem?_setIfInBounds, Ne.symm hq]
  have hA0 : A a := hw.2.1 _ _ _ ha1
  have hz := hw.upd (k := 0) (e := .inl (g.2.1 0, n1, .inl (va_cpy f f1 sp dp n))) ha1 (show (H.setIfInBounds a (vp_cell (g.2.1 0) (n1, .inl (va_cpy f f1 sp dp n))))[a]? = some (vp_cell (g.2.1 0) (n1, .inl (va_cpy f f1 sp dp n))) by simp [Array.getElem?_setIfInBounds, hl]) (by simp) oq
  obtain ⟨t, a1, b1⟩ := kk _ _ ⟨hz.1, hz.2.1, hz.2.2.1, hz.2.2.2.1, fun q hq => by
      rcases List.mem_append.mp hq with h | h
      · exact hS.2.2 q h
      · obtain ⟨z, -, hz⟩ := List.mem_map.mp h
        rw [← hz]
        exact hA0⟩ _ hheap X'
  exact ⟨t, step t a1, b1⟩
theorem z_newq (hexec : p.tables.exec = Jvm.exec) (hb : c.code = cc) {own C : String} {index : Nat} (hown : s.vm.findClass own = some m.cls) (hts : ∀ w ∈ z_tbl, w.before args s = true) (hclink : Cond.classLink own index C ∈ z_tbl) (hover : va_AO C s) (hK : va_K g.1 cls (ztys g) s) (hw : z_S g A H0 h H locs) (hA : ∀ q, H0.size ≤ q → A q) (t0 : Nat) {cA : ClassId} (ht : (ztys g)[t0]? = some (cA, .object C))
    {n : Int32} {N' : Nat} (hn : ¬ n < 0) (hN : n.toNatClampNeg = N') (hbytes : N' * 4 ≤ 536870912) (hcells : cells + 1 ≤ R.cells) (hslots : slots + N' ≤ R.slots) (hdg : decode cc pc = .ok (.anewarray index, 3)) (t : Nat × Nat)
    (kk : ∀ (q : Nat) (H1 : Heap), h q = none → z_S g A H0 (z_put h q t (.inl (cA, N', .inr (.inr (.inr (.inr (fun _ => none))))))) H1 locs →
      W p l e R s m args below meth c H1 locs (cells + 1) (slots + N') Q (F0 m (pc + 3) ls (.ref q :: rest))) : W p l e R s m args below meth c H locs cells slots Q (F0 m pc ls (.int n :: rest)) := by
  subst hN
  refine W.anew hexec hb hown (hts _ hclink) (va_AO.use hover) rfl hdg rfl hn hbytes hcells hslots fun cB kA comp f1 f2 f3 f4 => ?_
  obtain ⟨kA', comp', k1, k2, k3, k4⟩ := (hK.2 t0 _ ht).2
  have hcc : cB = cA := Option.some.inj (f1.symm.trans k4)
  subst hcc
  generalize hH1 : H.push ({ cls := cB, slots := Array.replicate n.toNatClampNeg .null, vm := .none } : Cell) = H1
  have z1 : H1.size = H.size + 1 := by rw [← hH1, Array.size_push]
  have e1 : H1[H.size]? = some (arrV cB n.toNatClampNeg (fun _ => .null)) := by rw [← hH1, Array.getElem?_push_size, ← arrV_new]
  have o1 : ∀ q : Nat, q < H.size → H1[q]? = H[q]? := fun q hq => by rw [← hH1, Array.getElem?_push, if_neg (Nat.ne_of_lt hq)]
  refine kk H.size H1 hw.fresh (hw.born hA ?_ z1 o1)
  show H1[H.size]? = some (vp_cell _ _)
  rw [vp_cell_q]
  exact e1
/-- an array of bytes is cloned -/
theorem z_clone (hexec : p.tables.exec = Jvm.exec) (hb : c.code = cc) (hml : c.maxLocals = ls.size) {own : String} {index : Nat} (hown : s.vm.findClass own = some m.cls) (hts : ∀ w ∈ z_tbl, w.before args s = true)
    (hlink : Cond.methodLink own index ⟨"[B", "clone", "()Ljava/lang/Object;"⟩ ∈ z_tbl) (hsame : (Cond.sameMethod "[B" "java/lang/Object" "clone" "()Ljava/lang/Object;") ∈ z_tbl)
    (hnat : Cond.native ⟨"java/lang/Object", "clone", "()Ljava/lang/Object;"⟩ ∈ z_tbl) (hinst : Cond.instanceMethod ⟨"java/lang/Object", "clone", "()Ljava/lang/Object;"⟩ ∈ z_tbl)
    (hsel : Cond.selects "[B" ⟨"[B", "clone", "()Ljava/lang/Object;"⟩ ⟨"java/lang/Object", "clone", "()Ljava/lang/Object;"⟩ ∈ z_tbl) (hcl : va_Nw (.castable "[B" "java/lang/Cloneable") s)
    (hK : va_K g.1 cls (ztys g) s) (hw : z_S g A H0 h H locs) (hA : ∀ q, H0.size ≤ q → A q) {n : Nat} {f : Nat → Int32} (ha : h a = some (t, .inl (g.2.1 0, n, .inl f)))
    (hfit : ∀ i, i < n → fits .byte (.int (f i)) = true)
    (hframes : 1 ≤ R.frames) (hlocals : (rest.map fun v => v.category).sum + 14 ≤ R.locals) (hcells : cells + 1 ≤ R.cells) (hslots : slots + n ≤ R.slots) (hdg : decode cc pc = .ok (.invokevirtual index, 3)) (t1 : Nat × Nat)
    (kk : ∀ (q : Nat) (H1 : Heap), h q = none → z_S g A H0 (z_put h q t1 (.inl (g.2.1 0, n, .inl f))) H1 locs →
      W p l e R s m args below meth c H1 locs (cells + 1) (slots + n) Q (F0 m (pc + 3) ls (.ref q :: rest))) : W p l e R s m args below meth c H locs cells slots Q (F0 m pc ls (.ref a :: rest)) := by
  have ht : (ztys g)[0]? = some (g.2.1 0, .byte) := rfl
  have hnm : s.vm.findClass "[B" = some (g.2.1 0) := (hK.2 0 _ ht).2
  have hsz : (vp_cell (g.2.1 0) (n, .inl f)).slots.size = n := arrV_size _ _ _
  have hcellE : ({ cls := (vp_cell (g.2.1 0) (n, .inl f)).cls, slots := (vp_cell (g.2.1 0) (n, .inl f)).slots } : Cell) = vp_cell (g.2.1 0) (n, .inl f) := rfl
  obtain ⟨c0, t0', f1, f2, f3⟩ := Cond.castable_spec (va_Nw.use (A := args) rfl hcl)
  cases hnm.symm.trans f1
  intro T hT X
  have hcellT : T.heap[a]? = some (vp_cell (g.2.1 0) (n, .inl f)) := by rw [hT]; exact hw.1 _ _ _ ha
  obtain ⟨-, kA, hkA, comp, hkind⟩ := State.isArrayOf_alike X.warmed.alike ((hK.2 0 _ ht).1 0 (fun _ => .null))
  obtain ⟨-, kS, hkS, compS, hkindS⟩ := (hK.2 0 _ ht).1 0 (fun _ => .null)
  obtain ⟨vm', X', st⟩ := X.cloneArray hexec hown (hts _ hlink) (hts _ hsame) (hts _ hnat) (hts _ hinst) (hts _ hsel) (a := a) (cell := vp_cell (g.2.1 0) (n, .inl f)) hcellT (fun k h => by cases h) (fun h => by cases h) hnm f2 f3
    (fun i v hv => by
      have hk' : T.vm.classes[g.2.1 0]? = some kA := hkA
      have hfv : fits .byte v = true := by
        by_cases hi : i < n
        · have h2 : (arrV (g.2.1 0) n (fun j => .int (f j))).slots[i]? = some v := hv
          rw [arrV_read _ _ hi] at h2
          cases h2
          exact hfit i hi
        · have h2 := (Array.getElem?_eq_some_iff.mp hv).1
          rw [hsz] at h2
          exact absurd h2 hi
      simpa [State.fitsSlot, State.slotType?, hk', hkind, vp_cell, arrV] using hfv)
    (g := F0 m pc ls (.ref a :: rest)) rfl (by rw [hml]) rfl (by rw [hb]; exact hdg) hframes (by show 2 * 0 + _ + 14 ≤ _; omega) hcells (by rw [hsz]; exact hslots) (hloader := Vm.clonesLoader_of_array hkS hkindS)
  rw [hcellE, hsz] at X'
  generalize hH1 : H.push (vp_cell (g.2.1 0) (n, .inl f)) = H1
  have z1 : H1.size = H.size + 1 := by rw [← hH1, Array.size_push]
  have e1 : H1[H.size]? = some (vp_cell (g.2.1 0) (n, .inl f)) := by rw [← hH1, Array.getElem?_push_size]
  have o1 : ∀ q : Nat, q < H.size → H1[q]? = H[q]? := fun q hq => by rw [← hH1, Array.getElem?_push, if_neg (Nat.ne_of_lt hq)]
  obtain ⟨t, b1, b2⟩ := kk H.size H1 hw.fresh (hw.born hA e1 z1 o1) ((T.setVm vm').pushCell (vp_cell (g.2.1 0) (n, .inl f))) (by rw [← hH1, ← hT]; rfl) X'
  refine ⟨t, st t ?_, b2⟩
  rw [hcellE, hT]
  exact b1
theorem z_castB (hexec : p.tables.exec = Jvm.exec) (hb : c.code = cc) {own : String} {index : Nat} (hown : s.vm.findClass own = some m.cls) (hts : ∀ w ∈ z_tbl, w.before args s = true) (hlink : Cond.classLink own index "[B" ∈ z_tbl) (hK : va_K g.1 cls (ztys g) s) (hw : z_S g A H0 h H locs) {x : vp_A} (ha : h a = some (t, .inl (g.2.1 0, x))) (hdg : decode cc pc = .ok (.checkcast index, 3))
    (k : W p l e R s m args below meth c H locs cells slots Q (F0 m (pc + 3) ls (.ref a :: rest))) : W p l e R s m args below meth c H locs cells slots Q (F0 m pc ls (.ref a :: rest)) :=
  va_castA hexec hb hown (hts _ hlink) (z_P1 (hw.1 _ _ _ ha)) 0 rfl ((hK.2 0 (g.2.1 0, .byte) rfl).2 : s.vm.findClass "[B" = some (g.2.1 0)) hdg k
/-- an array of arrays of ints is read -/
theorem z_aldA (hexec : p.tables.exec = Jvm.exec) (hb : c.code = cc) (hK : va_K g.1 cls (ztys g) s) (hw : z_S g A H0 h H locs) {n : Nat} {f : Nat → Option Nat} (ha : h a = some (t, .inl (g.2.1 5, n, .inr (.inr (.inr (.inr f)))))) {i : Int32} (hin : vp_in i n) (hdg : decode cc pc = .ok (.aaload, 1))
    (kk : W p l e R s m args below meth c H locs cells slots Q (F0 m (pc + 1) ls (va_rf (f i.toNatClampNeg) :: rest))) : W p l e R s m args below meth c H locs cells slots Q (F0 m pc ls (.int i :: .ref a :: rest)) := by
  have hlt : i.toNatClampNeg < n := Nat.not_le.mp fun q => hin (Or.inr q)
  have ht : (ztys g)[5]? = some (g.2.1 5, .array .int) := rfl
  exact W.aald (v := va_rf (f i.toNatClampNeg)) hexec hb (hw.1 _ _ _ ha) ((hK.2 5 _ ht).1 n (fun j => va_rf (f j))) rfl (fun q => by cases q) (by show ¬ (i < 0 ∨ (arrV _ _ _).slots.size ≤ _); rw [arrV_size]; exact hin) (by show (arrV _ _ _).slots[_]? = _; rw [arrV_read _ _ hlt]) rfl rfl hdg kk
/-- NO_BYTES -/
theorem z_nob (hexec : p.tables.exec = Jvm.exec) (hb : c.code = cc) {own ref : String} {index : Nat} (hE : z_E g A s s.heap) (hw : z_S g A s.heap h H locs) (hown : s.vm.findClass own = some m.cls) (hlink : Cond.fieldLinkNest own index "SchemaRecords" "NO_BYTES" "[B" "SchemaRecords" ∈ z_nest) (hdg : decode cc pc = .ok (.getstatic index, 3))
    (kk : W p l e R s m args below meth c H locs cells slots Q (F0 m (pc + 3) ls (.ref (g.2.2 0) :: rest))) : W p l e R s m args below meth c H locs cells slots Q (F0 m pc ls rest) :=
  va_getsN hexec hb hE.1 hw.2.2 hown (va_Nw.use rfl (hE.nest _ hlink)) (fun _ h9 => h9) hdg kk
theorem z_nobX (hexec : p.tables.exec = Jvm.exec) (hb : c.code = cc) {own : String} {index : Nat} (hE : z_E g A s s.heap) (hw : z_S g A s.heap h H locs) (hown : s.vm.findClass own = some m.cls) (hts : ∀ w ∈ z_tbl, w.before args s = true) (hlink : Cond.fieldLink own index "SchemaRecords" "NO_BYTES" "[B" ∈ z_tbl) (hdg : decode cc pc = .ok (.getstatic index, 3))
    (kk : W p l e R s m args below meth c H locs cells slots Q (F0 m (pc + 3) ls (.ref (g.2.2 0) :: rest))) : W p l e R s m args below meth c H locs cells slots Q (F0 m pc ls rest) :=
  va_gets hexec hb hE.1 hw.2.2 hown (hts _ hlink) (fun _ h9 => h9) hdg kk
theorem z_noblen (hexec : p.tables.exec = Jvm.exec) (hb : c.code = cc) (hE : z_E g A s s.heap) (hw : z_S g A s.heap h H locs) (hdg : decode cc pc = .ok (.arraylength, 1))
    (kk : W p l e R s m args below meth c H locs cells slots Q (F0 m (pc + 1) ls (.int (nI 0) :: rest))) : W p l e R s m args below meth c H locs cells slots Q (F0 m pc ls (.ref (g.2.2 0) :: rest)) :=
  va_tlen hexec hb hE.2.1 hw.2.2 rfl hdg kk
theorem z_nobne (hE : z_E g A s H0) (hw : z_S g A H0 h H locs) : h (g.2.2 0) = none := by
  cases hq : h (g.2.2 0) with
  | none => rfl
  | some te => exact absurd (hw.2.1 _ te.1 te.2 hq) hE.2.1.choose_spec.2.2.2.2.2.2
/-- a call of a method of an object that is none of the picture's cells -/
theorem z_callR {own C : String} {index n maxL nL fr lo b : Nat} {y : MethodName} {bytes : ByteArray} {ret : Option FieldType} {As : List Value} {post : Option Value → z_H → Prop}
    (S : CallFix p m c cc nL s args z_tbl own) (hM : z_C l y bytes maxL ret fr lo mc ms g (.ref b :: As) h post) (hcode : Cond.code y bytes maxL ret ∈ z_tbl) (hini : Cond.initialized y.cls ∈ z_tbl) (hlink : Cond.methodLink own index y ∈ z_tbl) (hinst : Cond.instanceMethod y ∈ z_tbl) (hsel : Cond.selects C y y ∈ z_tbl)
    (hd : y.cls ≠ "java/lang/invoke/MethodHandle" ∧ y.cls ≠ "java/lang/invoke/VarHandle" ∧ (parseMethodDescriptor y.desc).map (fun d => d.parameters.length) = some n) (hR : fr + 1 ≤ R.frames ∧ 8 + (maxL + 11) + lo ≤ R.locals)
    (hK : va_K g.1 cls (ztys g) s) (hE : z_E g A s H0) (hw : z_S g A H0 h H locs) (hA : ∀ q, H0.size ≤ q → A q) (hrec : ∃ cellB : Cell, H[b]? = some cellB ∧ cellB.vm.isStatics = false ∧ s.vm.findClass C = some cellB.cls) (hn : As.length = n) (hsize : ls.size = nL) (hrm : (rest.map fun v => v.category).sum ≤ 8) (hdg : decode cc pc = .ok (.invokevirtual index, 3)) (hf : cells + mc ≤ R.cells ∧ slots + ms ≤ R.slots)
    (hst : st0 = As.reverse ++ .ref b :: rest)
    (kk : ∀ (r : Option Value) (h1 : z_H) (H1 : Heap) (locs1 : List Loc), post r h1 → z_S g A H0 h1 H1 locs1 → W p l e R s m args below meth c H1 locs1 (cells + mc) (slots + ms) Q (F0 m (pc + 3) ls (r.toList ++ rest))) : W p l e R s m args below meth c H locs cells slots Q (F0 m pc ls st0) :=
  z_call (va_runV (C := C) S (hM H.size) ⟨z_cB S.2.2.2.2 hcode hini hlink hd hR, S.2.2.2.2 _ hinst, S.2.2.2.2 _ hsel⟩ ⟨z_blind, hrec, fun U hU hW => ⟨rfl, by rw [hU], by rw [hU]; exact hw.1, va_K.moved hW.alike hK, by rw [hU]; exact (z_EA hE hw hA).warm hW⟩⟩ rfl hn hsize hst (lv_room hrm) hdg hf) hw hA kk
end ZR2

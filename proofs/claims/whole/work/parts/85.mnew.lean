section MNEW
variable {p : Program} {l : Launch} {e : Env} {R : Room} {s : State} {m : MethodId} {args : Array Value} {below : List Frame} {meth : Method} {c : Code} {H : Heap} {locs : List Loc} {cells slots : Nat} {Q : State → Prop}
variable {cc : ByteArray} {pc : Nat} {ls : Array Slot} {rest st0 : List Value} {g : z_G} {A : Nat → Prop} {a : Nat} {H0 : Heap} {h : z_H} {t : Nat × Nat} {mc ms : Nat}
abbrev mnI (cI : ClassId) (k : Nat) : Cell := { cls := cI, slots := Array.replicate k (.int 0), vm := .none }
/-- U is T with a new row of n rows, i of them made -/
def MN (T : State) (cA cI : ClassId) (n k : Nat) : Nat → State → Prop
  | 0, U => U = T.pushCell { cls := cA, slots := Array.replicate n .null, vm := .none }
  | i + 1, U => ∃ (V : State) (o : Cell), MN T cA cI n k i V ∧ (V.pushCell (mnI cI k)).heap[T.heap.size]? = some o ∧ U = (V.pushCell (mnI cI k)).setCell T.heap.size (o.setSlot i (.ref V.heap.size))
abbrev mnO (q i : Nat) : Nat → Value := fun j => if j < i then .ref (q + 1 + j) else .null
theorem MN.facts {T : State} {cA cI : ClassId} {n k : Nat} : ∀ i U, MN T cA cI n k i U → U.heap.size = T.heap.size + 1 + i ∧ U.vm = T.vm ∧ U.slotsUsed = T.slotsUsed + n + i * k ∧ (∀ q, q < T.heap.size → U.heap[q]? = T.heap[q]?) ∧ (∀ j, j < i → U.heap[T.heap.size + 1 + j]? = some (mnI cI k)) ∧ U.heap[T.heap.size]? = some (arrV cA n (mnO T.heap.size i)) := by
  intro i
  induction i with
  | zero =>
    intro U hU
    have hU : U = T.pushCell { cls := cA, slots := Array.replicate n .null, vm := .none } := hU
    subst hU
    refine ⟨by simp, rfl, by simp, fun q hq => State.heap_pushCell_of_lt _ _ hq, fun j hj => absurd hj (Nat.not_lt_zero _), ?_⟩
    rw [State.heap_pushCell_size, arrV_new]
    rfl
  | succ i ih =>
    intro U hU
    obtain ⟨V, o, hV, ho, hU⟩ := hU
    obtain ⟨v1, v2, v3, v4, v5, w1⟩ := ih V hV
    have hlt : T.heap.size < V.heap.size := by omega
    rw [State.heap_pushCell_of_lt (h := hlt), w1] at ho
    have ho : arrV cA n (mnO T.heap.size i) = o := Option.some.inj ho
    subst ho
    have hself : (V.pushCell (mnI cI k)).heap[T.heap.size]? = some (arrV cA n (mnO T.heap.size i)) := by rw [State.heap_pushCell_of_lt (h := hlt)]; exact w1
    subst hU
    refine ⟨?_, ?_, ?_, fun q hq => ?_, fun j hj => ?_, ?_⟩
    · simp [State.setCell, v1]; omega
    · exact v2
    · simp [v3, Nat.succ_mul]; omega
    · rw [State.heap_setCell_other (show T.heap.size ≠ q by omega), State.heap_pushCell_of_lt (h := show q < V.heap.size by omega)]; exact v4 q hq
    · rw [State.heap_setCell_other (show T.heap.size ≠ T.heap.size + 1 + j by omega)]
      by_cases z : j < i
      · rw [State.heap_pushCell_of_lt (h := show T.heap.size + 1 + j < V.heap.size by omega)]; exact v5 j z
      · rw [show T.heap.size + 1 + j = V.heap.size by omega]; exact State.heap_pushCell_size _ _
    · rw [State.heap_setCell_self hself, arrV_store]
      congr 2
      funext j
      unfold updV mnO
      by_cases z : j = i
      · subst z; rw [if_pos rfl, if_pos (by omega), v1]
      · rw [if_neg z]
        by_cases y : j < i
        · rw [if_pos y, if_pos (by omega)]
        · rw [if_neg y, if_neg (by omega)]
theorem MN.ex (T : State) (cA cI : ClassId) (n k : Nat) : ∀ i, ∃ U, MN T cA cI n k i U := by
  intro i
  induction i with
  | zero => exact ⟨_, rfl⟩
  | succ i ih =>
    obtain ⟨V, hV⟩ := ih
    obtain ⟨v1, v2, v3, v4, v5, w1⟩ := hV.facts
    exact ⟨_, V, _, hV, by rw [State.heap_pushCell_of_lt (h := show T.heap.size < V.heap.size by omega)]; exact w1, rfl⟩
theorem MN.uniq {T : State} {cA cI : ClassId} {n k : Nat} : ∀ i U U2, MN T cA cI n k i U → MN T cA cI n k i U2 → U = U2 := by
  intro i
  induction i with
  | zero => intro U U2 h1 h2; exact (show U = _ from h1).trans (show U2 = _ from h2).symm
  | succ i ih =>
    intro U U2 h1 h2
    obtain ⟨V, o, a1, a2, a3⟩ := h1
    obtain ⟨V2, o2, b1, b2, b3⟩ := h2
    have e := ih V V2 a1 b1
    subst e
    rw [a2] at b2
    have e2 := Option.some.inj b2
    subst e2
    rw [a3, b3]
theorem MN.stand {T : State} {cA cI : ClassId} {n k : Nat} (X : Stand p l e R s m args below meth c T locs cells slots) : ∀ i U, MN T cA cI n k i U → ∃ locs2, Stand p l e R s m args below meth c U locs2 (cells + 1 + i) (slots + n + i * k) ∧ ∀ q ∈ locs2, q ∈ locs ∨ q.base = T.heap.size := by
  intro i
  induction i with
  | zero =>
    intro U hU
    have hU : U = T.pushCell { cls := cA, slots := Array.replicate n .null, vm := .none } := hU
    subst hU
    have := X.pushed { cls := cA, slots := Array.replicate n .null, vm := .none }
    refine ⟨locs, ?_, fun q hq => Or.inl hq⟩
    simpa using this
  | succ i ih =>
    intro U hU
    obtain ⟨V, o, hV, ho, hU⟩ := hU
    obtain ⟨locs2, Y, hl⟩ := ih V hV
    have Y2 := (Y.pushed (mnI cI k)).stored ho i (.ref V.heap.size)
    subst hU
    refine ⟨locs2 ++ [⟨T.heap.size, i⟩], ?_, fun q hq => ?_⟩
    · have e1 : slots + n + i * k + (mnI cI k).slots.size = slots + n + (i + 1) * k := by
        rw [show (mnI cI k).slots.size = k by simp, Nat.succ_mul]; omega
      rw [e1] at Y2
      exact Y2
    · rcases List.mem_append.mp hq with z | z
      · exact hl q z
      · right; rw [List.mem_singleton.mp z]
theorem mn_make1 {E : CtlPost} {d : Bool} {acts : List Action} {U : State} {cI ci : ClassId} {kI : Class} {k : Int32} (hk1 : U.vm.classes[cI]? = some kI) (hk2 : kI.kind = .array ci .int) (hk : ¬ k < 0) (hl : ¬ k.toNatClampNeg > e.platform.arrayLengthLimit) (hh : ¬ k.toNatClampNeg * componentBytes .int > e.platform.maxHeapBytes) (h1 : U.heap.size < e.platform.maxCells) (h2 : U.slotsUsed + k.toNatClampNeg ≤ e.platform.maxSlots) {Q : Addr → Pre} (hq : ∀ acts', Q U.heap.size d acts' (U.pushCell (mnI cI k.toNatClampNeg))) : wp (Op.multianewarray.make cI [k]) Q E e d acts U := by
  rw [Op.multianewarray.make]
  simp only [wp_bind', W.ite, hk, if_false, wp_pure', W.theClass, hk1, hk2, Option.some.injEq, exists_eq_left']
  exact W.newArray_of hk1 hk2 hl hh h1 h2 rfl (fun acts' => hq acts')
theorem mn_make2 {E : CtlPost} {d : Bool} {acts : List Action} {T : State} {cA cI ci : ClassId} {kA kI : Class} {n k : Int32} (ha1 : T.vm.classes[cA]? = some kA) (ha2 : kA.kind = .array cI (.array .int)) (hk1 : T.vm.classes[cI]? = some kI) (hk2 : kI.kind = .array ci .int) (hn : ¬ n < 0) (hk : ¬ k < 0) (hl1 : ¬ n.toNatClampNeg > e.platform.arrayLengthLimit) (hh1 : ¬ n.toNatClampNeg * componentBytes (.array .int) > e.platform.maxHeapBytes) (hl : ¬ k.toNatClampNeg > e.platform.arrayLengthLimit) (hh : ¬ k.toNatClampNeg * componentBytes .int > e.platform.maxHeapBytes) (h1 : T.heap.size + 1 + n.toNatClampNeg ≤ e.platform.maxCells) (h2 : T.slotsUsed + n.toNatClampNeg + n.toNatClampNeg * k.toNatClampNeg ≤ e.platform.maxSlots) {Q : Addr → Pre} (hq : ∀ d' acts' U, MN T cA cI n.toNatClampNeg k.toNatClampNeg n.toNatClampNeg U → Q T.heap.size d' acts' U) : wp (Op.multianewarray.make cA [n, k]) Q E e d acts T := by
  have hfnd : ([k].find? (· < 0)) = none := by simp [hk]
  rw [Op.multianewarray.make]
  simp only [wp_bind', W.ite, hn, if_false, wp_pure', W.theClass, ha1, ha2, Option.some.injEq, exists_eq_left']
  have hz : 0 ≤ n.toNatClampNeg * k.toNatClampNeg := Nat.zero_le _
  refine W.newArray_of ha1 ha2 hl1 hh1 (by omega) (by omega) rfl (fun acts' => ?_)
  simp only [hfnd]
  rw [ite_self, wp_bind', Std.Legacy.Range.forIn_eq_forIn_range']
  have hsz : ([:n.toNatClampNeg] : Std.Legacy.Range).size = n.toNatClampNeg := by simp [Std.Legacy.Range.size]
  rw [hsz]
  refine wp_forIn_inv (fun rest U => ∃ i, i ≤ n.toNatClampNeg ∧ rest = List.range' i (n.toNatClampNeg - i) ∧ MN T cA cI n.toNatClampNeg k.toNatClampNeg i U) _ _ ⟨0, Nat.zero_le _, rfl, rfl⟩ ?_ ?_
  · intro x rest V d2 acts2 Q2 hI hnext
    obtain ⟨i, hi, hr, hV⟩ := hI
    have hlt : i < n.toNatClampNeg := by
      apply Classical.byContradiction
      intro z
      rw [show n.toNatClampNeg - i = 0 by omega] at hr
      cases hr
    rw [show n.toNatClampNeg - i = (n.toNatClampNeg - (i + 1)) + 1 by omega, List.range'_succ] at hr
    injection hr with hr1 hr2
    subst hr1
    obtain ⟨v1, v2, v3, v4, v5, w1⟩ := hV.facts
    obtain ⟨o, eo⟩ : ∃ o, o = arrV cA n.toNatClampNeg (mnO T.heap.size x) := ⟨_, rfl⟩
    rw [← eo] at w1
    have w2 : o.cls = cA := by rw [eo]; rfl
    have w3 : o.vm = .none := by rw [eo]; rfl
    have w4 : o.slots.size = n.toNatClampNeg := by rw [eo]; exact arrV_size _ _ _
    have hm : x * k.toNatClampNeg + k.toNatClampNeg ≤ n.toNatClampNeg * k.toNatClampNeg := by
      have := Nat.mul_le_mul_right k.toNatClampNeg (show x + 1 ≤ n.toNatClampNeg from hlt)
      rw [Nat.succ_mul] at this; exact this
    simp only [wp_bind']
    refine mn_make1 (by rw [v2]; exact hk1) hk2 hk hl hh (by omega) (by omega) (fun acts3 => ?_)
    have hcell : (V.pushCell (mnI cI k.toNatClampNeg)).heap[T.heap.size]? = some o := by rw [State.heap_pushCell_of_lt (h := show T.heap.size < V.heap.size by omega)]; exact w1
    simp only [W.writeLoc, wp_bind', wp_pure']
    refine ⟨o, hcell, by rw [w3]; simp, by omega, ?_, hnext _ _ _ ⟨x + 1, hlt, hr2, V, o, hV, hcell, rfl⟩⟩
    rw [w2, w3]
    simp [State.fitsSlot, State.slotType?, v2, ha1, ha2, fits]
  · intro U d2 acts2 hI
    obtain ⟨i, hi, hr, hU⟩ := hI
    have e : i = n.toNatClampNeg := by
      apply Classical.byContradiction
      intro z
      rw [show n.toNatClampNeg - i = (n.toNatClampNeg - (i + 1)) + 1 by omega, List.range'_succ] at hr
      cases hr
    subst e
    simp only [wp_pure']
    exact hq _ _ _ hU
theorem MN.top {T : State} {cA cI : ClassId} {n k : Nat} {f : JFrame} : ∀ i U, MN (T.setTop f) cA cI n k i U → ∃ V, MN T cA cI n k i V ∧ U = V.setTop f := by
  intro i
  induction i with
  | zero =>
    intro U hU
    exact ⟨_, rfl, by rw [show U = (T.setTop f).pushCell { cls := cA, slots := Array.replicate n .null, vm := .none } from hU, State.pushCell_setTop]⟩
  | succ i ih =>
    intro U hU
    obtain ⟨V, o, hV, ho, hU⟩ := hU
    obtain ⟨V2, hV2, e⟩ := ih V hV
    subst e
    rw [State.pushCell_setTop] at ho hU
    rw [State.heap_setTop, State.heap_setTop] at ho
    rw [State.heap_setTop, State.heap_setTop, State.setCell_setTop] at hU
    exact ⟨_, ⟨V2, o, hV2, ho, rfl⟩, hU⟩
theorem W.mnew {cc : ByteArray} (hexec : p.tables.exec = Jvm.exec) (hb : c.code = cc) {own : String} {index : Nat} (hown : s.vm.findClass own = some m.cls) (hclink : (Cond.classLink own index "[[I").before args s = true) {cA cI ci : ClassId} {kA kI : Class} (hnA : s.vm.findClass "[[I" = some cA) (ha1 : s.vm.classes[cA]? = some kA) (ha2 : kA.kind = .array cI (.array .int)) (hk1 : s.vm.classes[cI]? = some kI) (hk2 : kI.kind = .array ci .int)
    {gf : JFrame} (hg : gf.method = m) (hdg : decode cc gf.pc = .ok (.multianewarray index 2, 4)) {n k : Int32} {rest : List Value} (hstack : gf.stack = .int k :: .int n :: rest) (hn : ¬ n < 0) (hk : ¬ k < 0) (hb1 : n.toNatClampNeg ≤ 1000) (hb2 : k.toNatClampNeg ≤ 1000) (hcells : cells + (1 + n.toNatClampNeg) ≤ R.cells) (hslots : slots + (n.toNatClampNeg + n.toNatClampNeg * k.toNatClampNeg) ≤ R.slots)
    (kk : ∀ (H1 : Heap) (locs1 : List Loc), H1.size = H.size + 1 + n.toNatClampNeg → (∀ q, q < H.size → H1[q]? = H[q]?) → (∀ j, j < n.toNatClampNeg → H1[H.size + 1 + j]? = some (mnI cI k.toNatClampNeg)) → H1[H.size]? = some (arrV cA n.toNatClampNeg (mnO H.size n.toNatClampNeg)) → (∀ q ∈ locs1, q ∈ locs ∨ q.base = H.size) →
      W p l e R s m args below meth c H1 locs1 (cells + 1 + n.toNatClampNeg) (slots + n.toNatClampNeg + n.toNatClampNeg * k.toNatClampNeg) Q { gf with pc := gf.pc + 4, stack := .ref H.size :: rest }) : W p l e R s m args below meth c H locs cells slots Q gf := by
  intro T hT X
  subst hT; subst hb; subst hg
  have hpl : e.platform.magicAccessors = ({} : Platform).magicAccessors := by rw [X.admits.platform]
  obtain ⟨cc', hfcc, hcl⟩ := Cond.classLink_spec hown hclink e.platform hpl
  cases hnA.symm.trans hfcc
  obtain ⟨hg₁, hwarm₁, hready₁⟩ := State.classEntry (e := e) X.warmed hcl
  generalize T.vm.noted gf.method.cls index (.cls cA) = vm₁ at hg₁ hwarm₁ hready₁
  have hal : s.vm.Alike vm₁ := hwarm₁.alike
  obtain ⟨kA₁, hkA₁, heA⟩ := hal.2.2 _ _ ha1
  obtain ⟨kI₁, hkI₁, heI⟩ := hal.2.2 _ _ hk1
  have hkindA₁ : kA₁.kind = .array cI (.array .int) := by rw [heA]; exact ha2
  have hkindI₁ : kI₁.kind = .array ci .int := by rw [heI]; exact hk2
  have X₁ := X.noted hwarm₁
  obtain ⟨hr1, hr2⟩ := X.roomAbove hcells hslots
  have hlim : e.platform.arrayLengthLimit = 2147483645 := by rw [Launch.admits_arrayLengthLimit X.admits]
  have hmax : e.platform.maxHeapBytes = 536870912 := Launch.admits_maxHeapBytes X.admits
  obtain ⟨U, hU⟩ := MN.ex (T.setVm vm₁) cA cI n.toNatClampNeg k.toNatClampNeg n.toNatClampNeg
  obtain ⟨locs2, Y, hl⟩ := hU.stand X₁
  obtain ⟨u1, u2, u3, u4, u5, u6⟩ := hU.facts
  obtain ⟨t', a1, b1⟩ := kk U.heap locs2 u1 u4 u5 u6 hl U rfl Y
  refine ⟨t', ?_, b1⟩
  jvm_step X.here [hexec, hdg]
  have hs : T.topJava?.isSome := X.here.top
  have hs1 : (T.setVm vm₁).topJava?.isSome := hs
  simp only [multianewarray.sem, wp_bind']
  refine (W.resolveClassAt_transfer (s := T.setTop gf) (State.method?_setTop gf hs) hg₁ hready₁).mpr ?_
  show wp _ _ _ e false [] ((T.setVm vm₁).setTop gf)
  rw [W.resolveClassAt_ready (State.method?_setTop gf hs1) hready₁]
  have hpop := fun Q E d acts => popN_top (s := T.setVm vm₁) (f := gf) (Q := Q) (E := E) (e := e) (d := d) (acts := acts) hs1 (args := [.int n, .int k]) (rest := rest) hstack
  simp only [wp_bind']
  refine (hpop _ _ _ _).mpr ?_
  simp only [List.mapM_cons, List.mapM_nil, wp_bind', wp_pure']
  refine mn_make2 (T := (T.setVm vm₁).setTop { gf with stack := rest }) hkA₁ hkindA₁ hkI₁ hkindI₁ hn hk (by rw [hlim]; omega) (by rw [hmax]; show ¬ n.toNatClampNeg * 4 > 536870912; omega) (by rw [hlim]; omega) (by rw [hmax]; show ¬ k.toNatClampNeg * 4 > 536870912; omega) (by show T.heap.size + 1 + _ ≤ _; omega) (by show T.slotsUsed + _ + _ ≤ _; omega) ?_
  intro d' acts' U2 hU2
  obtain ⟨V, hV, e2⟩ := hU2.top
  cases MN.uniq _ _ _ hU hV
  subst e2
  simp only [wp_bind', W.mark, W.pushRef]
  have hsU : U.topJava?.isSome := Y.here.top
  refine ⟨_, State.topJava?_setTop' _ hsU, fun acts => ?_⟩
  rw [State.setTop_setTop]
  simp [jvm, hsU]
  exact a1
/-- the picture with a new row of 6 rows of 128 ints, from q on -/
def mnP (g : z_G) (h : z_H) (q tr : Nat) : z_H := fun x => if x = q then some ((tr, 0), .inl (g.2.1 5, 6, .inr (.inr (.inr (.inr (fun k => some (q + 1 + k))))))) else if q < x ∧ x < q + 7 then some ((tr + 1, x - q - 1), .inl (g.2.1 1, 128, .inl (fun _ => 0))) else h x
theorem mnP_o {q tr : Nat} : mnP g h q tr q = some ((tr, 0), .inl (g.2.1 5, 6, .inr (.inr (.inr (.inr (fun k => some (q + 1 + k))))))) := if_pos rfl
theorem mnP_r {q tr k : Nat} (hk : k < 6) : mnP g h q tr (q + 1 + k) = some ((tr + 1, k), .inl (g.2.1 1, 128, .inl (fun _ => 0))) := by
  unfold mnP
  rw [if_neg (by omega), if_pos (by omega), show q + 1 + k - q - 1 = k by omega]
theorem mnP_K {q tr : Nat} {R : Nat → Prop} (hq : ∀ x, q ≤ x → h x = none) : z_K R h (mnP g h q tr) := fun x t e hx _ => by
  have : x < q := by
    apply Classical.byContradiction
    intro z
    rw [hq x (by omega)] at hx
    cases hx
  unfold mnP
  rw [if_neg (by omega), if_neg (by omega)]
  exact hx
theorem z_mnew {cc : ByteArray} (hexec : p.tables.exec = Jvm.exec) (hb : c.code = cc) {own : String} {index : Nat} (hown : s.vm.findClass own = some m.cls) (hts : ∀ w ∈ z_tbl, w.before args s = true) (hclink : Cond.classLink own index "[[I" ∈ z_tbl) (hE : z_E g A s s.heap) (hK : va_K g.1 cls (ztys g) s) (hw : z_S g A H0 h H locs) (hA : ∀ q, H0.size ≤ q → A q)
    (hcells : cells + 7 ≤ R.cells) (hslots : slots + 774 ≤ R.slots) (hdg : decode cc pc = .ok (.multianewarray index 2, 4)) (tr : Nat)
    (kk : ∀ (q : Nat) (H1 : Heap) (locs1 : List Loc), (∀ x, q ≤ x → h x = none) → z_S g A H0 (mnP g h q tr) H1 locs1 →
      W p l e R s m args below meth c H1 locs1 (cells + 7) (slots + 774) Q (F0 m (pc + 4) ls (.ref q :: rest))) : W p l e R s m args below meth c H locs cells slots Q (F0 m pc ls (.int 128 :: .int 6 :: rest)) := by
  obtain ⟨comp, cA, kA, f1, f2, f3, f4, f5⟩ := arrayOverA_spec (show (Cond.arrayOver (.array .int)).holds #[] s none s [] = true from hE.2.2.2.2.2.2.2.2.2.2.1)
  have hnA : s.vm.findClass "[[I" = some (g.2.1 5) := (hK.2 5 _ rfl).2
  have hnI : s.vm.findClass "[I" = some (g.2.1 1) := (hK.2 1 _ rfl).2
  have e1 : cA = g.2.1 5 := Option.some.inj (f5.symm.trans hnA)
  have e2 : comp = g.2.1 1 := Option.some.inj (f1.symm.trans hnI)
  subst e1; subst e2
  obtain ⟨-, kI, hkI, ci, hkindI⟩ := (hK.2 1 _ rfl).1 0 (fun _ => .null)
  have n6 : (6 : Int32).toNatClampNeg = 6 := by decide
  have n128 : (128 : Int32).toNatClampNeg = 128 := by decide
  refine W.mnew hexec hb hown (hts _ hclink) hnA f3 f4 hkI hkindI rfl hdg (n := 6) (k := 128) rfl (by decide) (by decide) (by rw [n6]; omega) (by rw [n128]; omega) (by rw [n6]; omega) (by rw [n6, n128]; omega) ?_
  rw [n6, n128]
  intro H1 locs1 z1 o1 r1 r2 hl
  have hfr : ∀ x, H.size ≤ x → h x = none := fun x hx => by
    cases hq : h x with
    | none => rfl
    | some te =>
      obtain ⟨t, e⟩ := te
      exact absurd (hw.1 _ _ _ hq).lt (Nat.not_lt.mpr hx)
  have hS := hw.2.2
  refine kk H.size H1 locs1 hfr ⟨fun q t e hx => ?_, fun q t e hx => ?_, Nat.le_trans hS.1 (by omega), fun x h1 h2 => (o1 x (Nat.lt_of_lt_of_le h1 hS.1)).trans (hS.2.1 x h1 h2), fun q hq => ?_⟩
  · unfold mnP at hx
    by_cases a1 : q = H.size
    · subst a1
      rw [if_pos rfl] at hx
      cases hx
      show H1[H.size]? = some (vp_cell _ _)
      rw [r2, vp_cell_q]
      congr 1
    · rw [if_neg a1] at hx
      by_cases a2 : H.size < q ∧ q < H.size + 7
      · rw [if_pos a2] at hx
        cases hx
        show H1[q]? = some (vp_cell _ _)
        have := r1 (q - H.size - 1) (by omega)
        rw [show H.size + 1 + (q - H.size - 1) = q by omega] at this
        rw [this, vp_cell_i]
        exact congrArg some (arrV_new _ _ _)
      · rw [if_neg a2] at hx
        exact (hw.1 _ _ _ hx).kept (o1 q (hw.1 _ _ _ hx).lt)
  · by_cases a1 : q < H.size
    · unfold mnP at hx
      rw [if_neg (by omega), if_neg (by omega)] at hx
      exact hw.2.1 _ _ _ hx
    · exact hA _ (Nat.le_trans hS.1 (by omega))
  · rcases hl q hq with z | z
    · exact hS.2.2 q z
    · rw [z]; exact hA _ hS.1
end MNEW

/-- the rows of a schema as the reference has them -/
def MSp (g : z_G) (h : z_H) (ra le tr lr : Nat) (S : Sch) (rw9 : Nat → Nat) (rf : Nat → Nat → Int32) (lf : Nat → Int32) : Prop :=
  h ra = some ((tr, 0), .inl (g.2.1 5, 6, .inr (.inr (.inr (.inr (fun k => some (rw9 k))))))) ∧ (∀ k, k < 6 → h (rw9 k) = some ((tr + 1, k), .inl (g.2.1 1, 128, .inl (rf k)))) ∧ h le = some ((lr, 0), .inl (g.2.1 1, 2048, .inl lf)) ∧
  ∀ i, i < S.1 → rf 0 i = fKi (S.2 i) ∧ rf 1 i = fTy (S.2 i) ∧ rf 2 i = fGr (S.2 i) ∧ rf 3 i = fCo (S.2 i) ∧ rf 4 i = nI (fNm (S.2 i)).length ∧ ∀ k, k < (fNm (S.2 i)).length → lf (16 * i + k) = nI ((fNm (S.2 i)).getD k 0)
theorem MSp.k {g : z_G} {h h1 : z_H} {ra le tr lr : Nat} {S : Sch} {rw9 : Nat → Nat} {rf : Nat → Nat → Int32} {lf : Nat → Int32} {Ro : Nat → Prop} (x : MSp g h ra le tr lr S rw9 rf lf) (hk : z_K Ro h h1) (a1 : ¬ Ro tr) (a2 : ¬ Ro (tr + 1)) (a3 : ¬ Ro lr) : MSp g h1 ra le tr lr S rw9 rf lf :=
  ⟨hk _ _ _ x.1 a1, fun k hk2 => hk _ _ _ (x.2.1 k hk2) a2, hk _ _ _ x.2.2.1 a3, x.2.2.2⟩
def MSc (g : z_G) (h : z_H) (ra le tr lr : Nat) (S : Sch) : Prop := ∃ rw9 rf lf, MSp g h ra le tr lr S rw9 rf lf
theorem MSc.k {g : z_G} {h h1 : z_H} {ra le tr lr : Nat} {S : Sch} {Ro : Nat → Prop} (x : MSc g h ra le tr lr S) (hk : z_K Ro h h1) (a1 : ¬ Ro tr) (a2 : ¬ Ro (tr + 1)) (a3 : ¬ Ro lr) : MSc g h1 ra le tr lr S := by
  obtain ⟨a, b, c, d⟩ := x
  exact ⟨a, b, c, d.k hk a1 a2 a3⟩
/-- the nodes as the reference has them -/
def MNp (g : z_G) (h : z_H) (ma : Nat → Nat) (R : Rec) (nf np nr ns : Nat → Int32) (nv : Nat → Int64) (tx : Nat → Int32) : Prop :=
  (h (ma 6) = some ((29, 0), .inl (g.2.1 1, 2000, .inl nf))) ∧ (h (ma 7) = some ((29, 1), .inl (g.2.1 1, 2000, .inl np))) ∧ (h (ma 8) = some ((29, 2), .inl (g.2.1 1, 2000, .inl nr))) ∧ (h (ma 9) = some ((29, 3), .inl (g.2.1 1, 2000, .inl ns))) ∧ (h (ma 10) = some ((30, 0), .inl (g.2.1 2, 2000, .inr (.inl nv)))) ∧ (h (ma 11) = some ((31, 0), .inl (g.2.1 1, 16000, .inl tx))) ∧
  ∀ i, i < R.1 → nf i = ndFi (R.2 i) ∧ np i = ndPa (R.2 i) ∧ (0 < i → nr i = nI (tbC R.2 i) ∧ ns i = nI (ndTx (R.2 i)).length ∧ nv i = ndNu (R.2 i) ∧ ∀ k, k < (ndTx (R.2 i)).length → tx (tbC R.2 i + k) = nI ((ndTx (R.2 i)).getD k 0))
theorem MNp.k {g : z_G} {h h1 : z_H} {ma : Nat → Nat} {R : Rec} {nf np nr ns : Nat → Int32} {nv : Nat → Int64} {tx : Nat → Int32} {Ro : Nat → Prop} (x : MNp g h ma R nf np nr ns nv tx) (hk : z_K Ro h h1) (a1 : ¬ Ro 29) (a2 : ¬ Ro 30) (a3 : ¬ Ro 31) : MNp g h1 ma R nf np nr ns nv tx :=
  ⟨hk _ _ _ x.1 a1, hk _ _ _ x.2.1 a1, hk _ _ _ x.2.2.1 a1, hk _ _ _ x.2.2.2.1 a1, hk _ _ _ x.2.2.2.2.1 a2, hk _ _ _ x.2.2.2.2.2.1 a3, x.2.2.2.2.2.2⟩
def MNd (g : z_G) (h : z_H) (ma : Nat → Nat) (R : Rec) : Prop := ∃ nf np nr ns nv tx, MNp g h ma R nf np nr ns nv tx
theorem MNd.k {g : z_G} {h h1 : z_H} {ma : Nat → Nat} {R : Rec} {Ro : Nat → Prop} (x : MNd g h ma R) (hk : z_K Ro h h1) (a1 : ¬ Ro 29) (a2 : ¬ Ro 30) (a3 : ¬ Ro 31) : MNd g h1 ma R := by
  obtain ⟨a, b, c, d, e, f, q⟩ := x
  exact ⟨a, b, c, d, e, f, q.k hk a1 a2 a3⟩

def MTp (g : z_G) (h : z_H) (ma : Nat → Nat) (T : List Nat) : Prop := ∃ f, h (ma 0) = some ((21, 0), .inl (g.2.1 1, 4000, .inl f)) ∧ T.length ≤ 4000 ∧ ∀ k, k < T.length → T.getD k 0 < 256 ∧ f k = nI (T.getD k 0)
theorem MTp.k {g : z_G} {h h1 : z_H} {ma : Nat → Nat} {T : List Nat} {Ro : Nat → Prop} (x : MTp g h ma T) (hk : z_K Ro h h1) (a1 : ¬ Ro 21) : MTp g h1 ma T := by
  obtain ⟨f, a, b⟩ := x
  exact ⟨f, hk _ _ _ a a1, b⟩
def MTx (g : z_G) (h : z_H) (ma : Nat → Nat) : Prop := ∃ f, h (ma 1) = some ((22, 0), .inl (g.2.1 1, 4000, .inl f))
theorem MTx.k {g : z_G} {h h1 : z_H} {ma : Nat → Nat} {Ro : Nat → Prop} (x : MTx g h ma) (hk : z_K Ro h h1) (a1 : ¬ Ro 22) : MTx g h1 ma := by
  obtain ⟨f, a⟩ := x
  exact ⟨f, hk _ _ _ a a1⟩
def MOl (g : z_G) (h : z_H) (ma : Nat → Nat) : Prop := ∃ of op or9 os : Nat → Int32, ∃ ov : Nat → Int64, ∃ ox : Nat → Int32, (h (ma 12) = some ((32, 0), .inl (g.2.1 1, 2000, .inl of))) ∧ (h (ma 13) = some ((32, 1), .inl (g.2.1 1, 2000, .inl op))) ∧ (h (ma 14) = some ((32, 2), .inl (g.2.1 1, 2000, .inl or9))) ∧ (h (ma 15) = some ((32, 3), .inl (g.2.1 1, 2000, .inl os))) ∧ (h (ma 16) = some ((33, 0), .inl (g.2.1 2, 2000, .inr (.inl ov)))) ∧ (h (ma 17) = some ((34, 0), .inl (g.2.1 1, 16000, .inl ox)))
theorem MOl.k {g : z_G} {h h1 : z_H} {ma : Nat → Nat} {Ro : Nat → Prop} (x : MOl g h ma) (hk : z_K Ro h h1) (a1 : ¬ Ro 32) (a2 : ¬ Ro 33) (a3 : ¬ Ro 34) : MOl g h1 ma := by
  obtain ⟨a, b, c, d, e, f, q1, q2, q3, q4, q5, q6⟩ := x
  exact ⟨a, b, c, d, e, f, hk _ _ _ q1 a1, hk _ _ _ q2 a1, hk _ _ _ q3 a1, hk _ _ _ q4 a1, hk _ _ _ q5 a2, hk _ _ _ q6 a3⟩
def MOu (g : z_G) (h : z_H) (ma : Nat → Nat) (O : List Nat) : Prop := ∃ f, h (ma 18) = some ((35, 0), .inl (g.2.1 1, 160000, .inl f)) ∧ O.length ≤ 160000 ∧ ∀ k, k < O.length → O.getD k 0 < 256 ∧ f k = nI (O.getD k 0)
theorem MOu.k {g : z_G} {h h1 : z_H} {ma : Nat → Nat} {O : List Nat} {Ro : Nat → Prop} (x : MOu g h ma O) (hk : z_K Ro h h1) (a1 : ¬ Ro 35) : MOu g h1 ma O := by
  obtain ⟨f, a, b⟩ := x
  exact ⟨f, hk _ _ _ a a1, b⟩
def KMr (y : Nat) : Prop := 20 ≤ y ∧ y < 40
/-- the reference's object mo: the tape T, the schema S, the record R, the output O -/
def MAt (g : z_G) (h : z_H) (mo : Nat) (T : List Nat) (S : Sch) (R : Rec) (O : List Nat) : Prop := ∃ (ma : Nat → Nat) (cod siz ffl fcl at9 il : Int32), h mo = some ((20, 0), .inr (11, mF ma cod (nI T.length) siz (nI S.1) (nI (cc S)) ffl fcl (nI R.1) (nI (tbC R.2 R.1)) (nI O.length) at9 il)) ∧ MTp g h ma T ∧ MTx g h ma ∧ MSc g h (ma 2) (ma 4) 23 27 S ∧ MSc g h (ma 3) (ma 5) 25 28 sch0 ∧ MNd g h ma R ∧ MOl g h ma ∧ MOu g h ma O
def MPt (g : z_G) (h : z_H) (x : Option Value) (v : Value) (h1 : z_H) (mo : Nat) (T : List Nat) (S : Sch) (R : Rec) (O : List Nat) : Prop := x = some v ∧ MAt g h1 mo T S R O ∧ z_K KMr h h1

set_option maxHeartbeats 300000 in
set_option maxRecDepth 100000 in
theorem m_count (l : Launch) (g : z_G) (h : z_H) {mo : Nat} {T : List Nat} {S : Sch} {R : Rec} {O : List Nat} {k : Int32}  (hM : MAt g h mo T S R O)  : z_C l y_M_count prog_13_method_17_code 2 (Option.some Jvm.ClassFile.FieldType.int) 0 0 0 0 g [.ref mo, .int k] h (fun x h1 => MPt g h x (.int (oCount S k)) h1 mo T S R O) := by
  refine z_C.of (by decide) (Nat.le_of_ble_eq_true rfl) (fun pg en s m below meth cd A ls hx hb hml hr hts hown hlocks hnm hK hE hA hw hl => ?_)
  have hl : lv_has ls 2 [(0, .ref mo), (1, .int k)] := hl
  obtain ⟨ma, cod, siz, ffl, fcl, at9, il, hmo, hTp, hTx, ⟨rw9, rf, lf, hSc⟩, hSf, ⟨nf, np, nr, ns, nv, tx, hNd⟩, hOl, hOu⟩ := id hM
  obtain ⟨ftp, htp, hT4, hTv⟩ := id hTp
  obtain ⟨fou, hou, hO6, hOv⟩ := id hOu
  have kk0 : z_K (fun y => y = 20) h h := z_K.rf
  refine lv_aload_n hx hb d_M_count_0 rfl (lv_at hl 0 rfl) ?_
  refine lv_iconst (v := 0) hx hb d_M_count_1 (by decide) ?_
  refine z_putf (ty := .int) hx hb hts (z_lay i_M) t_M t_M_ok n_M hown hK hw hmo rfl 0 (by decide) (z_in k_771 rfl) (fun _ h9 => h9) rfl (by decide +kernel) rfl rfl (Nat.le_of_ble_eq_true rfl) d_M_count_2 (fun H locs hw => ?_)
  obtain ⟨h1, hh1⟩ : ∃ x9, z_put h mo (20, 0) (.inr (11, mF ma 0 (nI T.length) siz (nI S.1) (nI (cc S)) ffl fcl (nI R.1) (nI (tbC R.2 R.1)) (nI O.length) at9 il)) = x9 := ⟨_, rfl⟩
  have hw : z_S g A s.heap h1 H locs := by rw [← hh1]; exact hw
  have f1_mo : h1 mo = some ((20, 0), .inr (11, mF ma 0 (nI T.length) siz (nI S.1) (nI (cc S)) ffl fcl (nI R.1) (nI (tbC R.2 R.1)) (nI O.length) at9 il)) := by rw [← hh1]; exact z_put_eq
  have kk1 : z_K (fun y => y = 20) h h1 := kk0.tr (by rw [← hh1]; exact z_K.put hmo (by first | decide | simp | omega))
  refine lv_iload_n hx hb d_M_count_5 rfl (lv_at hl 1 rfl) ?_
  refine lv_if_ne (tgt := 16) hx hb d_M_count_6 (by decide) (fun c_6 => ?_) (fun c_6 => ?_)
  · -- 6: True
    refine lv_iload_n hx hb d_M_count_16 rfl (lv_at hl 1 rfl) ?_
    refine lv_iconst (v := 1) hx hb d_M_count_17 (by decide) ?_
    refine lv_icmp_ne (tgt := 28) hx hb d_M_count_18 (by decide) (fun c_18 => ?_) (fun c_18 => ?_)
    · -- 18: True
      refine lv_iconst (v := (-1)) hx hb d_M_count_28 (by decide) ?_
      exact z_iret hx hb hr hlocks hw (by refine ⟨congrArg some (congrArg Value.int ?_), ⟨ma, _, _, _, _, _, _, f1_mo, hTp.k kk1 (by omega), hTx.k kk1 (by omega), ⟨_, _, _, hSc.k kk1 (by omega) (by omega) (by omega)⟩, hSf.k kk1 (by omega) (by omega) (by omega), ⟨_, _, _, _, _, _, hNd.k kk1 (by omega) (by omega) (by omega)⟩, hOl.k kk1 (by omega) (by omega) (by omega), hOu.k kk1 (by omega)⟩, kk1.mono (fun y z => by unfold KMr; omega)⟩; unfold oCount; rw [if_neg c_6, if_neg c_18]) (by decide) (by decide) d_M_count_29
    · -- 18: False
      refine lv_aload_n hx hb d_M_count_21 rfl (lv_at hl 0 rfl) ?_
      refine z_get hx hb hts (z_lay i_M) hown hK hw f1_mo rfl 10 (by decide) (z_in k_781 rfl) (fun _ h9 => h9) rfl d_M_count_22 ?_
      refine lv_goto (tgt := 29) hx hb d_M_count_25 (by decide) ?_
      exact z_iret hx hb hr hlocks hw (by refine ⟨congrArg some (congrArg Value.int ?_), ⟨ma, _, _, _, _, _, _, f1_mo, hTp.k kk1 (by omega), hTx.k kk1 (by omega), ⟨_, _, _, hSc.k kk1 (by omega) (by omega) (by omega)⟩, hSf.k kk1 (by omega) (by omega) (by omega), ⟨_, _, _, _, _, _, hNd.k kk1 (by omega) (by omega) (by omega)⟩, hOl.k kk1 (by omega) (by omega) (by omega), hOu.k kk1 (by omega)⟩, kk1.mono (fun y z => by unfold KMr; omega)⟩; unfold oCount; rw [if_neg c_6, if_pos (by simpa using c_18)]) (by decide) (by decide) d_M_count_29
  · -- 6: False
    refine lv_aload_n hx hb d_M_count_9 rfl (lv_at hl 0 rfl) ?_
    refine z_get hx hb hts (z_lay i_M) hown hK hw f1_mo rfl 9 (by decide) (z_in k_780 rfl) (fun _ h9 => h9) rfl d_M_count_10 ?_
    refine lv_goto (tgt := 29) hx hb d_M_count_13 (by decide) ?_
    exact z_iret hx hb hr hlocks hw (by refine ⟨congrArg some (congrArg Value.int ?_), ⟨ma, _, _, _, _, _, _, f1_mo, hTp.k kk1 (by omega), hTx.k kk1 (by omega), ⟨_, _, _, hSc.k kk1 (by omega) (by omega) (by omega)⟩, hSf.k kk1 (by omega) (by omega) (by omega), ⟨_, _, _, _, _, _, hNd.k kk1 (by omega) (by omega) (by omega)⟩, hOl.k kk1 (by omega) (by omega) (by omega), hOu.k kk1 (by omega)⟩, kk1.mono (fun y z => by unfold KMr; omega)⟩; unfold oCount; rw [if_pos (by simpa using c_6)]) (by decide) (by decide) d_M_count_29

set_option maxHeartbeats 300000 in
set_option maxRecDepth 100000 in
theorem m_nodes (l : Launch) (g : z_G) (h : z_H) {mo : Nat} {T : List Nat} {S : Sch} {R : Rec} {O : List Nat}   (hM : MAt g h mo T S R O)  : z_C l y_M_nodes prog_13_method_41_code 1 (Option.some Jvm.ClassFile.FieldType.int) 0 0 0 0 g [.ref mo] h (fun x h1 => MPt g h x (.int (nI R.1)) h1 mo T S R O) := by
  refine z_C.of (by decide) (Nat.le_of_ble_eq_true rfl) (fun pg en s m below meth cd A ls hx hb hml hr hts hown hlocks hnm hK hE hA hw hl => ?_)
  have hl : lv_has ls 1 [(0, .ref mo)] := hl
  obtain ⟨ma, cod, siz, ffl, fcl, at9, il, hmo, hTp, hTx, ⟨rw9, rf, lf, hSc⟩, hSf, ⟨nf, np, nr, ns, nv, tx, hNd⟩, hOl, hOu⟩ := id hM
  obtain ⟨ftp, htp, hT4, hTv⟩ := id hTp
  obtain ⟨fou, hou, hO6, hOv⟩ := id hOu
  have kk0 : z_K (fun y => y = 20) h h := z_K.rf
  refine lv_aload_n hx hb d_M_nodes_0 rfl (lv_at hl 0 rfl) ?_
  refine lv_iconst (v := 0) hx hb d_M_nodes_1 (by decide) ?_
  refine z_putf (ty := .int) hx hb hts (z_lay i_M) t_M t_M_ok n_M hown hK hw hmo rfl 0 (by decide) (z_in k_771 rfl) (fun _ h9 => h9) rfl (by decide +kernel) rfl rfl (Nat.le_of_ble_eq_true rfl) d_M_nodes_2 (fun H locs hw => ?_)
  obtain ⟨h1, hh1⟩ : ∃ x9, z_put h mo (20, 0) (.inr (11, mF ma 0 (nI T.length) siz (nI S.1) (nI (cc S)) ffl fcl (nI R.1) (nI (tbC R.2 R.1)) (nI O.length) at9 il)) = x9 := ⟨_, rfl⟩
  have hw : z_S g A s.heap h1 H locs := by rw [← hh1]; exact hw
  have f1_mo : h1 mo = some ((20, 0), .inr (11, mF ma 0 (nI T.length) siz (nI S.1) (nI (cc S)) ffl fcl (nI R.1) (nI (tbC R.2 R.1)) (nI O.length) at9 il)) := by rw [← hh1]; exact z_put_eq
  have kk1 : z_K (fun y => y = 20) h h1 := kk0.tr (by rw [← hh1]; exact z_K.put hmo (by first | decide | simp | omega))
  refine lv_aload_n hx hb d_M_nodes_5 rfl (lv_at hl 0 rfl) ?_
  refine z_get hx hb hts (z_lay i_M) hown hK hw f1_mo rfl 18 (by decide) (z_in k_789 rfl) (fun _ h9 => h9) rfl d_M_nodes_6 ?_
  exact z_iret hx hb hr hlocks hw (by refine ⟨congrArg some (congrArg Value.int ?_), ⟨ma, _, _, _, _, _, _, f1_mo, hTp.k kk1 (by omega), hTx.k kk1 (by omega), ⟨_, _, _, hSc.k kk1 (by omega) (by omega) (by omega)⟩, hSf.k kk1 (by omega) (by omega) (by omega), ⟨_, _, _, _, _, _, hNd.k kk1 (by omega) (by omega) (by omega)⟩, hOl.k kk1 (by omega) (by omega) (by omega), hOu.k kk1 (by omega)⟩, kk1.mono (fun y z => by unfold KMr; omega)⟩; rfl) (by decide) (by decide) d_M_nodes_9

theorem MNp.zero {g : z_G} {h : z_H} {ma : Nat → Nat} {R : Rec} {nf np nr ns : Nat → Int32} {nv : Nat → Int64} {tx : Nat → Int32} (x : MNp g h ma R nf np nr ns nv tx) (h0 : nf 0 = -1 ∧ np 0 = -1) : MNp g h ma rec0 nf np nr ns nv tx := by
  refine ⟨x.1, x.2.1, x.2.2.1, x.2.2.2.1, x.2.2.2.2.1, x.2.2.2.2.2.1, fun i hi => ?_⟩
  have e : i = 0 := Nat.lt_one_iff.mp hi
  subst e
  exact ⟨h0.1, h0.2, fun z => absurd z (Nat.lt_irrefl _)⟩

set_option maxHeartbeats 300000 in
set_option maxRecDepth 100000 in
theorem m_begin (l : Launch) (g : z_G) (h : z_H) {mo : Nat} {T : List Nat} {S : Sch} {R : Rec} {O : List Nat}   (hM : MAt g h mo T S R O) (hR0 : 0 < R.1 ∧ ndFi (R.2 0) = -1 ∧ ndPa (R.2 0) = -1) : z_C l y_M_begin prog_13_method_37_code 1 (Option.none : Option Jvm.ClassFile.FieldType) 1 20 0 0 g [.ref mo] h (fun x h1 => x = none ∧ MAt g h1 mo T S rec0 O ∧ z_K KMr h h1) := by
  refine z_C.of (by decide) (Nat.le_of_ble_eq_true rfl) (fun pg en s m below meth cd A ls hx hb hml hr hts hown hlocks hnm hK hE hA hw hl => ?_)
  have hl : lv_has ls 1 [(0, .ref mo)] := hl
  obtain ⟨ma, cod, siz, ffl, fcl, at9, il, hmo, hTp, hTx, ⟨rw9, rf, lf, hSc⟩, hSf, ⟨nf, np, nr, ns, nv, tx, hNd⟩, hOl, hOu⟩ := id hM
  obtain ⟨ftp, htp, hT4, hTv⟩ := id hTp
  obtain ⟨fou, hou, hO6, hOv⟩ := id hOu
  have hN0 := hNd.2.2.2.2.2.2 0 hR0.1
  have kk0 : z_K (fun y => y = 20) h h := z_K.rf
  refine lv_aload_n hx hb d_M_begin_0 rfl (lv_at hl 0 rfl) ?_
  refine lv_iconst (v := 0) hx hb d_M_begin_1 (by decide) ?_
  refine z_putf (ty := .int) hx hb hts (z_lay i_M) t_M t_M_ok n_M hown hK hw hmo rfl 0 (by decide) (z_in k_771 rfl) (fun _ h9 => h9) rfl (by decide +kernel) rfl rfl (Nat.le_of_ble_eq_true rfl) d_M_begin_2 (fun H locs hw => ?_)
  obtain ⟨h1, hh1⟩ : ∃ x9, z_put h mo (20, 0) (.inr (11, mF ma 0 (nI T.length) siz (nI S.1) (nI (cc S)) ffl fcl (nI R.1) (nI (tbC R.2 R.1)) (nI O.length) at9 il)) = x9 := ⟨_, rfl⟩
  have hw : z_S g A s.heap h1 H locs := by rw [← hh1]; exact hw
  have f1_mo : h1 mo = some ((20, 0), .inr (11, mF ma 0 (nI T.length) siz (nI S.1) (nI (cc S)) ffl fcl (nI R.1) (nI (tbC R.2 R.1)) (nI O.length) at9 il)) := by rw [← hh1]; exact z_put_eq
  have kk1 : z_K (fun y => y = 20) h h1 := kk0.tr (by rw [← hh1]; exact z_K.put hmo (by first | decide | simp | omega))
  refine lv_aload_n hx hb d_M_begin_5 rfl (lv_at hl 0 rfl) ?_
  refine z_callV (n := 0) (As := []) (rest := []) ⟨hx, hb, hml, hown, hts⟩ (m_empty l g h1 f1_mo) (z_in k_931 rfl) (z_in k_7 rfl) (z_in k_928 rfl) (z_in k_930 rfl) (z_in ks_35 rfl) (by decide +kernel) ⟨by first | exact Nat.le_of_ble_eq_true rfl | (dsimp only; omega) | omega, by first | exact Nat.le_of_ble_eq_true rfl | (dsimp only; omega) | omega⟩ hK hE hw hA rfl f1_mo rfl hl.1 (Nat.le_of_ble_eq_true rfl) d_M_begin_6 ⟨by first | exact Nat.le_of_ble_eq_true rfl | (dsimp only; omega) | omega, by first | exact Nat.le_of_ble_eq_true rfl | (dsimp only; omega) | omega⟩ rfl (fun r9 h9 H locs hp hw => ?_)
  obtain ⟨r8, hh2⟩ := hp
  subst r8
  obtain ⟨h2, e8⟩ : ∃ x9, x9 = h9 := ⟨_, rfl⟩
  subst e8
  have f2_mo : h2 mo = some ((20, 0), .inr (11, mF ma 0 (nI T.length) siz (nI S.1) (nI (cc S)) ffl fcl 1 0 (nI O.length) at9 il)) := by rw [← hh2]; exact z_put_eq
  have kk2 : z_K (fun y => y = 20) h h2 := kk1.tr (by rw [← hh2]; exact z_K.put f1_mo (by first | decide | simp | omega))
  refine W.eq (g2 := F0 m 9 ls []) rfl ?_
  exact z_vret hx hb hr hlocks hw ⟨rfl, ⟨ma, _, _, _, _, _, _, f2_mo, hTp.k kk2 (by omega), hTx.k kk2 (by omega), ⟨_, _, _, hSc.k kk2 (by omega) (by omega) (by omega)⟩, hSf.k kk2 (by omega) (by omega) (by omega), ⟨_, _, _, _, _, _, (hNd.k kk2 (by omega) (by omega) (by omega)).zero ⟨hN0.1.trans hR0.2.1, hN0.2.1.trans hR0.2.2⟩⟩, hOl.k kk2 (by omega) (by omega) (by omega), hOu.k kk2 (by omega)⟩, kk2.mono (fun y z => by unfold KMr; omega)⟩ (by decide) (by decide) d_M_begin_9

set_option maxHeartbeats 300000 in
set_option maxRecDepth 100000 in
theorem m_output (l : Launch) (g : z_G) (h : z_H) {mo : Nat} {T : List Nat} {S : Sch} {R : Rec} {O : List Nat} {k : Int32}  (hM : MAt g h mo T S R O)  : z_C l y_M_output prog_13_method_56_code 2 (Option.some Jvm.ClassFile.FieldType.int) 0 0 0 0 g [.ref mo, .int k] h (fun x h1 => MPt g h x (.int (lbz O k)) h1 mo T S R O) := by
  refine z_C.of (by decide) (Nat.le_of_ble_eq_true rfl) (fun pg en s m below meth cd A ls hx hb hml hr hts hown hlocks hnm hK hE hA hw hl => ?_)
  have hl : lv_has ls 2 [(0, .ref mo), (1, .int k)] := hl
  obtain ⟨ma, cod, siz, ffl, fcl, at9, il, hmo, hTp, hTx, ⟨rw9, rf, lf, hSc⟩, hSf, ⟨nf, np, nr, ns, nv, tx, hNd⟩, hOl, hOu⟩ := id hM
  obtain ⟨ftp, htp, hT4, hTv⟩ := id hTp
  obtain ⟨fou, hou, hO6, hOv⟩ := id hOu
  have kk0 : z_K (fun y => y = 20) h h := z_K.rf
  refine lv_aload_n hx hb d_M_output_0 rfl (lv_at hl 0 rfl) ?_
  refine lv_iconst (v := 0) hx hb d_M_output_1 (by decide) ?_
  refine z_putf (ty := .int) hx hb hts (z_lay i_M) t_M t_M_ok n_M hown hK hw hmo rfl 0 (by decide) (z_in k_771 rfl) (fun _ h9 => h9) rfl (by decide +kernel) rfl rfl (Nat.le_of_ble_eq_true rfl) d_M_output_2 (fun H locs hw => ?_)
  obtain ⟨h1, hh1⟩ : ∃ x9, z_put h mo (20, 0) (.inr (11, mF ma 0 (nI T.length) siz (nI S.1) (nI (cc S)) ffl fcl (nI R.1) (nI (tbC R.2 R.1)) (nI O.length) at9 il)) = x9 := ⟨_, rfl⟩
  have hw : z_S g A s.heap h1 H locs := by rw [← hh1]; exact hw
  have f1_mo : h1 mo = some ((20, 0), .inr (11, mF ma 0 (nI T.length) siz (nI S.1) (nI (cc S)) ffl fcl (nI R.1) (nI (tbC R.2 R.1)) (nI O.length) at9 il)) := by rw [← hh1]; exact z_put_eq
  have f1_ma_18 : h1 (ma 18) = some ((35, 0), .inl (g.2.1 1, 160000, .inl fou)) := by rw [← hh1]; exact z_keep hmo hou (z_t1 (by decide))
  have kk1 : z_K (fun y => y = 20) h h1 := kk0.tr (by rw [← hh1]; exact z_K.put hmo (by first | decide | simp | omega))
  refine lv_iload_n hx hb d_M_output_5 rfl (lv_at hl 1 rfl) ?_
  refine lv_if_lt (tgt := 17) hx hb d_M_output_6 (by decide) (fun c_6 => ?_) (fun c_6 => ?_)
  · -- 6: True
    refine lv_iconst (v := (-1)) hx hb d_M_output_17 (by decide) ?_
    refine lv_goto (tgt := 27) hx hb d_M_output_18 (by decide) ?_
    exact z_iret hx hb hr hlocks hw (by refine ⟨congrArg some (congrArg Value.int ?_), ⟨ma, _, _, _, _, _, _, f1_mo, hTp.k kk1 (by omega), hTx.k kk1 (by omega), ⟨_, _, _, hSc.k kk1 (by omega) (by omega) (by omega)⟩, hSf.k kk1 (by omega) (by omega) (by omega), ⟨_, _, _, _, _, _, hNd.k kk1 (by omega) (by omega) (by omega)⟩, hOl.k kk1 (by omega) (by omega) (by omega), hOu.k kk1 (by omega)⟩, kk1.mono (fun y z => by unfold KMr; omega)⟩; unfold lbz bz; rw [if_pos c_6]) (by decide) (by decide) d_M_output_27
  · -- 6: False
    obtain ⟨j, hj, rfl⟩ := nI_of c_6
    have hl : lv_has ls 2 [(0, .ref mo), (1, .int (nI j))] := hl
    refine lv_iload_n hx hb d_M_output_9 rfl (lv_at hl 1 rfl) ?_
    refine lv_aload_n hx hb d_M_output_10 rfl (lv_at hl 0 rfl) ?_
    refine z_get hx hb hts (z_lay i_M) hown hK hw f1_mo rfl 28 (by decide) (z_in k_799 rfl) (fun _ h9 => h9) rfl d_M_output_11 ?_
    refine lv_icmp_lt (tgt := 21) hx hb d_M_output_14 (by decide) (fun c_14 => ?_) (fun c_14 => ?_)
    · -- 14: True
      have c_14 : j < O.length := (nI_ltI (a := j) (b := O.length) (by omega) (by omega)).mp c_14
      refine lv_aload_n hx hb d_M_output_21 rfl (lv_at hl 0 rfl) ?_
      refine z_get hx hb hts (z_lay i_M) hown hK hw f1_mo rfl 27 (by decide) (z_in k_798 rfl) (fun _ h9 => h9) rfl d_M_output_22 ?_
      refine lv_iload_n hx hb d_M_output_25 rfl (lv_at hl 1 rfl) ?_
      refine z_iald hx hb hK hw f1_ma_18 1 rfl (vp_in_nI (by omega) (by omega)) d_M_output_26 ?_
      refine z_topi (y := fou j) (by rw [nI_clamp (by omega)]) ?_
      exact z_iret hx hb hr hlocks hw (by refine ⟨congrArg some (congrArg Value.int ?_), ⟨ma, _, _, _, _, _, _, f1_mo, hTp.k kk1 (by omega), hTx.k kk1 (by omega), ⟨_, _, _, hSc.k kk1 (by omega) (by omega) (by omega)⟩, hSf.k kk1 (by omega) (by omega) (by omega), ⟨_, _, _, _, _, _, hNd.k kk1 (by omega) (by omega) (by omega)⟩, hOl.k kk1 (by omega) (by omega) (by omega), hOu.k kk1 (by omega)⟩, kk1.mono (fun y z => by unfold KMr; omega)⟩; unfold lbz; rw [bz_n hj, bt_in (by omega), (hOv j (by omega)).2]) (by decide) (by decide) d_M_output_27
    · -- 14: False
      have c_14 : ¬ (j < O.length) := fun z => c_14 ((nI_ltI (a := j) (b := O.length) (by omega) (by omega)).mpr z)
      refine lv_iconst (v := (-1)) hx hb d_M_output_17 (by decide) ?_
      refine lv_goto (tgt := 27) hx hb d_M_output_18 (by decide) ?_
      exact z_iret hx hb hr hlocks hw (by refine ⟨congrArg some (congrArg Value.int ?_), ⟨ma, _, _, _, _, _, _, f1_mo, hTp.k kk1 (by omega), hTx.k kk1 (by omega), ⟨_, _, _, hSc.k kk1 (by omega) (by omega) (by omega)⟩, hSf.k kk1 (by omega) (by omega) (by omega), ⟨_, _, _, _, _, _, hNd.k kk1 (by omega) (by omega) (by omega)⟩, hOl.k kk1 (by omega) (by omega) (by omega), hOu.k kk1 (by omega)⟩, kk1.mono (fun y z => by unfold KMr; omega)⟩; unfold lbz; rw [bz_n hj, bt_out (by omega)]) (by decide) (by decide) d_M_output_27

set_option maxHeartbeats 300000 in
set_option maxRecDepth 100000 in
theorem m_isField (l : Launch) (g : z_G) (h : z_H) {mo : Nat} {ma : Nat → Nat} {cod tpd cls9 ffl fcl nds sai ous il : Int32} {siz at9 : Int32} {k : Int32} {F : Nat} (hmo : h mo = some ((20, 0), .inr (11, mF ma cod tpd siz (nI F) cls9 ffl fcl nds sai ous at9 il))) (hv : F < 2 ^ 31) : z_C l y_M_isField prog_13_method_19_code 2 (Option.some Jvm.ClassFile.FieldType.boolean) 0 0 0 0 g [.ref mo, .int k] h (fun x h1 => x = some (.int (zb (isIx k F))) ∧ h = h1) := by
  refine z_C.of (by decide) (Nat.le_of_ble_eq_true rfl) (fun pg en s m below meth cd A ls hx hb hml hr hts hown hlocks hnm hK hE hA hw hl => ?_)
  have hl : lv_has ls 2 [(0, .ref mo), (1, .int k)] := hl
  refine lv_iload_n hx hb d_M_isField_0 rfl (lv_at hl 1 rfl) ?_
  refine lv_if_lt (tgt := 16) hx hb d_M_isField_1 (by decide) (fun c_1 => ?_) (fun c_1 => ?_)
  · -- 1: True
    refine lv_iconst (v := 0) hx hb d_M_isField_16 (by decide) ?_
    exact z_zret hx hb hr rfl hlocks hw (by refine ⟨congrArg some (congrArg Value.int ?_), rfl⟩; rw [isIx_no (Or.inl c_1)]; rfl) (by decide) (by decide) d_M_isField_17
  · -- 1: False
    refine lv_iload_n hx hb d_M_isField_4 rfl (lv_at hl 1 rfl) ?_
    refine lv_aload_n hx hb d_M_isField_5 rfl (lv_at hl 0 rfl) ?_
    refine z_get hx hb hts (z_lay i_M) hown hK hw hmo rfl 9 (by decide) (z_in k_780 rfl) (fun _ h9 => h9) rfl d_M_isField_6 ?_
    refine lv_icmp_ge (tgt := 16) hx hb d_M_isField_9 (by decide) (fun c_9 => ?_) (fun c_9 => ?_)
    · -- 9: True
      refine lv_iconst (v := 0) hx hb d_M_isField_16 (by decide) ?_
      exact z_zret hx hb hr rfl hlocks hw (by refine ⟨congrArg some (congrArg Value.int ?_), rfl⟩; rw [isIx_no (Or.inr c_9)]; rfl) (by decide) (by decide) d_M_isField_17
    · -- 9: False
      refine lv_iconst (v := 1) hx hb d_M_isField_12 (by decide) ?_
      refine lv_goto (tgt := 17) hx hb d_M_isField_13 (by decide) ?_
      exact z_zret hx hb hr rfl hlocks hw (by refine ⟨congrArg some (congrArg Value.int ?_), rfl⟩; unfold isIx; rw [decide_eq_true (show (0 : Int32) ≤ k by rw [Int32.lt_iff_toInt_lt] at c_1; rw [Int32.le_iff_toInt_le]; have e0 : (0 : Int32).toInt = 0 := rfl; omega), decide_eq_true (show k < nI F by rw [Int32.lt_iff_toInt_lt]; have z := c_9; simp only [ge_iff_le, Int32.le_iff_toInt_le] at z; omega)]; rfl) (by decide) (by decide) d_M_isField_17

set_option maxHeartbeats 300000 in
set_option maxRecDepth 100000 in
theorem m_isNode (l : Launch) (g : z_G) (h : z_H) {mo : Nat} {ma : Nat → Nat} {cod tpd fls cls9 ffl fcl sai ous il : Int32} {siz at9 : Int32} {k : Int32} {F : Nat} (hmo : h mo = some ((20, 0), .inr (11, mF ma cod tpd siz fls cls9 ffl fcl (nI F) sai ous at9 il))) (hv : F < 2 ^ 31) : z_C l y_M_isNode prog_13_method_42_code 2 (Option.some Jvm.ClassFile.FieldType.boolean) 0 0 0 0 g [.ref mo, .int k] h (fun x h1 => x = some (.int (zb (isIx k F))) ∧ h = h1) := by
  refine z_C.of (by decide) (Nat.le_of_ble_eq_true rfl) (fun pg en s m below meth cd A ls hx hb hml hr hts hown hlocks hnm hK hE hA hw hl => ?_)
  have hl : lv_has ls 2 [(0, .ref mo), (1, .int k)] := hl
  refine lv_iload_n hx hb d_M_isNode_0 rfl (lv_at hl 1 rfl) ?_
  refine lv_if_lt (tgt := 16) hx hb d_M_isNode_1 (by decide) (fun c_1 => ?_) (fun c_1 => ?_)
  · -- 1: True
    refine lv_iconst (v := 0) hx hb d_M_isNode_16 (by decide) ?_
    exact z_zret hx hb hr rfl hlocks hw (by refine ⟨congrArg some (congrArg Value.int ?_), rfl⟩; rw [isIx_no (Or.inl c_1)]; rfl) (by decide) (by decide) d_M_isNode_17
  · -- 1: False
    refine lv_iload_n hx hb d_M_isNode_4 rfl (lv_at hl 1 rfl) ?_
    refine lv_aload_n hx hb d_M_isNode_5 rfl (lv_at hl 0 rfl) ?_
    refine z_get hx hb hts (z_lay i_M) hown hK hw hmo rfl 18 (by decide) (z_in k_789 rfl) (fun _ h9 => h9) rfl d_M_isNode_6 ?_
    refine lv_icmp_ge (tgt := 16) hx hb d_M_isNode_9 (by decide) (fun c_9 => ?_) (fun c_9 => ?_)
    · -- 9: True
      refine lv_iconst (v := 0) hx hb d_M_isNode_16 (by decide) ?_
      exact z_zret hx hb hr rfl hlocks hw (by refine ⟨congrArg some (congrArg Value.int ?_), rfl⟩; rw [isIx_no (Or.inr c_9)]; rfl) (by decide) (by decide) d_M_isNode_17
    · -- 9: False
      refine lv_iconst (v := 1) hx hb d_M_isNode_12 (by decide) ?_
      refine lv_goto (tgt := 17) hx hb d_M_isNode_13 (by decide) ?_
      exact z_zret hx hb hr rfl hlocks hw (by refine ⟨congrArg some (congrArg Value.int ?_), rfl⟩; unfold isIx; rw [decide_eq_true (show (0 : Int32) ≤ k by rw [Int32.lt_iff_toInt_lt] at c_1; rw [Int32.le_iff_toInt_le]; have e0 : (0 : Int32).toInt = 0 := rfl; omega), decide_eq_true (show k < nI F by rw [Int32.lt_iff_toInt_lt]; have z := c_9; simp only [ge_iff_le, Int32.le_iff_toInt_le] at z; omega)]; rfl) (by decide) (by decide) d_M_isNode_17

theorem isIx_ex {k : Int32} {n : Nat} (h : isIx k n = true) (hn : n < 2 ^ 31) : ∃ i, i < n ∧ k = nI i := by
  rcases ix_cases k hn with z | z
  · rw [isIx_no z] at h; cases h
  · exact z

set_option maxHeartbeats 300000 in
set_option maxRecDepth 100000 in
theorem m_value (l : Launch) (g : z_G) (h : z_H) {mo : Nat} {T : List Nat} {S : Sch} {R : Rec} {O : List Nat} {a : Int32}  (hM : MAt g h mo T S R O) (hR2 : R.1 ≤ 2000) (hv0 : ndNu (R.2 0) = 0) : z_C l y_M_value prog_13_method_44_code 2 (Option.some Jvm.ClassFile.FieldType.long) 1 60 0 0 g [.ref mo, .int a] h (fun x h1 => MPt g h x (.long (oValue R a)) h1 mo T S R O) := by
  refine z_C.of (by decide) (Nat.le_of_ble_eq_true rfl) (fun pg en s m below meth cd A ls hx hb hml hr hts hown hlocks hnm hK hE hA hw hl => ?_)
  have hl : lv_has ls 2 [(0, .ref mo), (1, .int a)] := hl
  obtain ⟨ma, cod, siz, ffl, fcl, at9, il, hmo, hTp, hTx, ⟨rw9, rf, lf, hSc⟩, hSf, ⟨nf, np, nr, ns, nv, tx, hNd⟩, hOl, hOu⟩ := id hM
  obtain ⟨ftp, htp, hT4, hTv⟩ := id hTp
  obtain ⟨fou, hou, hO6, hOv⟩ := id hOu
  have kk0 : z_K (fun y => y = 20) h h := z_K.rf
  refine lv_aload_n hx hb d_M_value_0 rfl (lv_at hl 0 rfl) ?_
  refine lv_iconst (v := 0) hx hb d_M_value_1 (by decide) ?_
  refine z_putf (ty := .int) hx hb hts (z_lay i_M) t_M t_M_ok n_M hown hK hw hmo rfl 0 (by decide) (z_in k_771 rfl) (fun _ h9 => h9) rfl (by decide +kernel) rfl rfl (Nat.le_of_ble_eq_true rfl) d_M_value_2 (fun H locs hw => ?_)
  obtain ⟨h1, hh1⟩ : ∃ x9, z_put h mo (20, 0) (.inr (11, mF ma 0 (nI T.length) siz (nI S.1) (nI (cc S)) ffl fcl (nI R.1) (nI (tbC R.2 R.1)) (nI O.length) at9 il)) = x9 := ⟨_, rfl⟩
  have hw : z_S g A s.heap h1 H locs := by rw [← hh1]; exact hw
  have f1_mo : h1 mo = some ((20, 0), .inr (11, mF ma 0 (nI T.length) siz (nI S.1) (nI (cc S)) ffl fcl (nI R.1) (nI (tbC R.2 R.1)) (nI O.length) at9 il)) := by rw [← hh1]; exact z_put_eq
  have f1_ma_10 : h1 (ma 10) = some ((30, 0), .inl (g.2.1 2, 2000, .inr (.inl nv))) := by rw [← hh1]; exact z_keep hmo hNd.2.2.2.2.1 (z_t1 (by decide))
  have kk1 : z_K (fun y => y = 20) h h1 := kk0.tr (by rw [← hh1]; exact z_K.put hmo (by first | decide | simp | omega))
  refine lv_aload_n hx hb d_M_value_5 rfl (lv_at hl 0 rfl) ?_
  refine lv_iload_n hx hb d_M_value_6 rfl (lv_at hl 1 rfl) ?_
  refine z_callV (n := 1) (As := [.int a]) (rest := []) ⟨hx, hb, hml, hown, hts⟩ (m_isNode (F := R.1) l g h1 f1_mo (by omega)) (z_in k_1041 rfl) (z_in k_7 rfl) (z_in k_1038 rfl) (z_in k_1040 rfl) (z_in ks_50 rfl) (by decide +kernel) ⟨by first | exact Nat.le_of_ble_eq_true rfl | (dsimp only; omega) | omega, by first | exact Nat.le_of_ble_eq_true rfl | (dsimp only; omega) | omega⟩ hK hE hw hA rfl f1_mo rfl hl.1 (Nat.le_of_ble_eq_true rfl) d_M_value_7 ⟨by first | exact Nat.le_of_ble_eq_true rfl | (dsimp only; omega) | omega, by first | exact Nat.le_of_ble_eq_true rfl | (dsimp only; omega) | omega⟩ rfl (fun r9 h9 H locs hp hw => ?_)
  obtain ⟨r8, h8⟩ := hp
  subst r8
  subst h8
  refine W.eq (g2 := F0 m 10 ls [.int (zb (isIx a R.1))]) rfl ?_
  refine lv_if_eq (tgt := 26) hx hb d_M_value_10 (by decide) (fun c_10 => ?_) (fun c_10 => ?_)
  · -- 10: True
    have c_10 : (isIx a R.1) = false := zb_f c_10
    refine lv_lconst (v := 0) hx hb d_M_value_26 (by decide) ?_
    exact z_lret hx hb hr hlocks hw (by refine ⟨congrArg some (congrArg Value.long ?_), ⟨ma, _, _, _, _, _, _, f1_mo, hTp.k kk1 (by omega), hTx.k kk1 (by omega), ⟨_, _, _, hSc.k kk1 (by omega) (by omega) (by omega)⟩, hSf.k kk1 (by omega) (by omega) (by omega), ⟨_, _, _, _, _, _, hNd.k kk1 (by omega) (by omega) (by omega)⟩, hOl.k kk1 (by omega) (by omega) (by omega), hOu.k kk1 (by omega)⟩, kk1.mono (fun y z => by unfold KMr; omega)⟩; unfold oValue; rw [c_10]; rfl) (by decide) (by decide) d_M_value_27
  · -- 10: False
    have c_10 : (isIx a R.1) = true := zb_t c_10
    obtain ⟨i, hi, rfl⟩ := isIx_ex (show isIx a R.1 = true from c_10) (by omega)
    have hl : lv_has ls 2 [(0, .ref mo), (1, .int (nI i))] := hl
    refine lv_iload_n hx hb d_M_value_13 rfl (lv_at hl 1 rfl) ?_
    refine lv_if_le (tgt := 26) hx hb d_M_value_14 (by decide) (fun c_14 => ?_) (fun c_14 => ?_)
    · -- 14: True
      have c_14 : i ≤ 0 := (nI_leI (a := i) (b := 0) (by omega) (by omega)).mp c_14
      refine lv_lconst (v := 0) hx hb d_M_value_26 (by decide) ?_
      exact z_lret hx hb hr hlocks hw (by refine ⟨congrArg some (congrArg Value.long ?_), ⟨ma, _, _, _, _, _, _, f1_mo, hTp.k kk1 (by omega), hTx.k kk1 (by omega), ⟨_, _, _, hSc.k kk1 (by omega) (by omega) (by omega)⟩, hSf.k kk1 (by omega) (by omega) (by omega), ⟨_, _, _, _, _, _, hNd.k kk1 (by omega) (by omega) (by omega)⟩, hOl.k kk1 (by omega) (by omega) (by omega), hOu.k kk1 (by omega)⟩, kk1.mono (fun y z => by unfold KMr; omega)⟩; unfold oValue; rw [c_10, if_pos rfl, nI_clamp (by omega), show i = 0 by omega]; exact hv0.symm) (by decide) (by decide) d_M_value_27
    · -- 14: False
      have c_14 : ¬ (i ≤ 0) := fun z => c_14 ((nI_leI (a := i) (b := 0) (by omega) (by omega)).mpr z)
      refine lv_aload_n hx hb d_M_value_17 rfl (lv_at hl 0 rfl) ?_
      refine z_get hx hb hts (z_lay i_M) hown hK hw f1_mo rfl 17 (by decide) (z_in k_788 rfl) (fun _ h9 => h9) rfl d_M_value_18 ?_
      refine lv_iload_n hx hb d_M_value_21 rfl (lv_at hl 1 rfl) ?_
      refine z_lald hx hb hK hw f1_ma_10 2 rfl (vp_in_nI (by omega) (by omega)) d_M_value_22 ?_
      refine z_topl (y := nv i) (by rw [nI_clamp (by omega)]) ?_
      refine lv_goto (tgt := 27) hx hb d_M_value_23 (by decide) ?_
      exact z_lret hx hb hr hlocks hw (by refine ⟨congrArg some (congrArg Value.long ?_), ⟨ma, _, _, _, _, _, _, f1_mo, hTp.k kk1 (by omega), hTx.k kk1 (by omega), ⟨_, _, _, hSc.k kk1 (by omega) (by omega) (by omega)⟩, hSf.k kk1 (by omega) (by omega) (by omega), ⟨_, _, _, _, _, _, hNd.k kk1 (by omega) (by omega) (by omega)⟩, hOl.k kk1 (by omega) (by omega) (by omega), hOu.k kk1 (by omega)⟩, kk1.mono (fun y z => by unfold KMr; omega)⟩; unfold oValue; rw [c_10, if_pos rfl, nI_clamp (by omega)]; exact (((hNd.2.2.2.2.2.2 i hi).2.2 (by omega)).2.2.1)) (by decide) (by decide) d_M_value_27

theorem chC_b {N : Nat → Nod} {x : Int32} : ∀ n, chC N x n ≤ n := by
  intro n
  induction n with
  | zero => exact Nat.le_refl _
  | succ n ih => simp only [chC]; split <;> omega

set_option maxHeartbeats 300000 in
set_option maxRecDepth 100000 in
theorem m_node2 (l : Launch) (g : z_G) (h : z_H) {mo : Nat} {T : List Nat} {S : Sch} {R : Rec} {O : List Nat} {a k : Int32}  (hM : MAt g h mo T S R O) (hR2 : R.1 ≤ 2000) (hR1 : 1 ≤ R.1) (ht0 : ndTx (R.2 0) = []) (hpa0 : ndPa (R.2 0) = -1) : z_C l y_M_node2 prog_13_method_43_code 5 (Option.some Jvm.ClassFile.FieldType.int) 1 60 0 0 g [.ref mo, .int a, .int k] h (fun x h1 => MPt g h x (.int (oNode R a k)) h1 mo T S R O) := by
  refine z_C.of (by decide) (Nat.le_of_ble_eq_true rfl) (fun pg en s m below meth cd A ls hx hb hml hr hts hown hlocks hnm hK hE hA hw hl => ?_)
  have hl : lv_has ls 5 [(0, .ref mo), (1, .int a), (2, .int k)] := hl
  obtain ⟨ma, cod, siz, ffl, fcl, at9, il, hmo, hTp, hTx, ⟨rw9, rf, lf, hSc⟩, hSf, ⟨nf, np, nr, ns, nv, tx, hNd⟩, hOl, hOu⟩ := id hM
  obtain ⟨ftp, htp, hT4, hTv⟩ := id hTp
  obtain ⟨fou, hou, hO6, hOv⟩ := id hOu
  have kk0 : z_K (fun y => y = 20) h h := z_K.rf
  refine lv_aload_n hx hb d_M_node2_0 rfl (lv_at hl 0 rfl) ?_
  refine lv_iconst (v := 0) hx hb d_M_node2_1 (by decide) ?_
  refine z_putf (ty := .int) hx hb hts (z_lay i_M) t_M t_M_ok n_M hown hK hw hmo rfl 0 (by decide) (z_in k_771 rfl) (fun _ h9 => h9) rfl (by decide +kernel) rfl rfl (Nat.le_of_ble_eq_true rfl) d_M_node2_2 (fun H locs hw => ?_)
  obtain ⟨h1, hh1⟩ : ∃ x9, z_put h mo (20, 0) (.inr (11, mF ma 0 (nI T.length) siz (nI S.1) (nI (cc S)) ffl fcl (nI R.1) (nI (tbC R.2 R.1)) (nI O.length) at9 il)) = x9 := ⟨_, rfl⟩
  have hw : z_S g A s.heap h1 H locs := by rw [← hh1]; exact hw
  have f1_mo : h1 mo = some ((20, 0), .inr (11, mF ma 0 (nI T.length) siz (nI S.1) (nI (cc S)) ffl fcl (nI R.1) (nI (tbC R.2 R.1)) (nI O.length) at9 il)) := by rw [← hh1]; exact z_put_eq
  have f1_ma_6 : h1 (ma 6) = some ((29, 0), .inl (g.2.1 1, 2000, .inl nf)) := by rw [← hh1]; exact z_keep hmo hNd.1 (z_t1 (by decide))
  have f1_ma_7 : h1 (ma 7) = some ((29, 1), .inl (g.2.1 1, 2000, .inl np)) := by rw [← hh1]; exact z_keep hmo hNd.2.1 (z_t1 (by decide))
  have f1_ma_9 : h1 (ma 9) = some ((29, 3), .inl (g.2.1 1, 2000, .inl ns)) := by rw [← hh1]; exact z_keep hmo hNd.2.2.2.1 (z_t1 (by decide))
  have kk1 : z_K (fun y => y = 20) h h1 := kk0.tr (by rw [← hh1]; exact z_K.put hmo (by first | decide | simp | omega))
  refine lv_aload_n hx hb d_M_node2_5 rfl (lv_at hl 0 rfl) ?_
  refine lv_iload_n hx hb d_M_node2_6 rfl (lv_at hl 1 rfl) ?_
  refine z_callV (n := 1) (As := [.int a]) (rest := []) ⟨hx, hb, hml, hown, hts⟩ (m_isNode (F := R.1) l g h1 f1_mo (by omega)) (z_in k_1041 rfl) (z_in k_7 rfl) (z_in k_1038 rfl) (z_in k_1040 rfl) (z_in ks_50 rfl) (by decide +kernel) ⟨by first | exact Nat.le_of_ble_eq_true rfl | (dsimp only; omega) | omega, by first | exact Nat.le_of_ble_eq_true rfl | (dsimp only; omega) | omega⟩ hK hE hw hA rfl f1_mo rfl hl.1 (Nat.le_of_ble_eq_true rfl) d_M_node2_7 ⟨by first | exact Nat.le_of_ble_eq_true rfl | (dsimp only; omega) | omega, by first | exact Nat.le_of_ble_eq_true rfl | (dsimp only; omega) | omega⟩ rfl (fun r9 h9 H locs hp hw => ?_)
  obtain ⟨r8, h8⟩ := hp
  subst r8
  subst h8
  refine W.eq (g2 := F0 m 10 ls [.int (zb (isIx a R.1))]) rfl ?_
  refine lv_if_ne (tgt := 15) hx hb d_M_node2_10 (by decide) (fun c_10 => ?_) (fun c_10 => ?_)
  · -- 10: True
    have c_10 : (isIx a R.1) = true := zb_t c_10
    obtain ⟨i, hi, ea_i⟩ := isIx_ex (show isIx a R.1 = true from c_10) (by omega)
    have hl : lv_has ls 5 [(0, .ref mo), (1, .int (nI i)), (2, .int k)] := by rw [← ea_i]; exact hl
    refine lv_iload_n hx hb d_M_node2_15 rfl (lv_at hl 2 rfl) ?_
    refine lv_if_ne (tgt := 26) hx hb d_M_node2_16 (by decide) (fun c_16 => ?_) (fun c_16 => ?_)
    · -- 16: True
      refine lv_iload_n hx hb d_M_node2_26 rfl (lv_at hl 2 rfl) ?_
      refine lv_iconst (v := 1) hx hb d_M_node2_27 (by decide) ?_
      refine lv_icmp_ne (tgt := 38) hx hb d_M_node2_28 (by decide) (fun c_28 => ?_) (fun c_28 => ?_)
      · -- 28: True
        refine lv_iload_n hx hb d_M_node2_38 rfl (lv_at hl 2 rfl) ?_
        refine lv_iconst (v := 3) hx hb d_M_node2_39 (by decide) ?_
        refine lv_icmp_ne (tgt := 58) hx hb d_M_node2_40 (by decide) (fun c_40 => ?_) (fun c_40 => ?_)
        · -- 40: True
          refine lv_iload_n hx hb d_M_node2_58 rfl (lv_at hl 2 rfl) ?_
          refine lv_iconst (v := 2) hx hb d_M_node2_59 (by decide) ?_
          refine lv_icmp_eq (tgt := 65) hx hb d_M_node2_60 (by decide) (fun c_60 => ?_) (fun c_60 => ?_)
          · -- 60: True
            refine lv_iconst (v := 0) hx hb d_M_node2_65 (by decide) ?_
            refine lv_istore_n (lv' := [(3, .int 0), (0, .ref mo), (1, .int (nI i)), (2, .int k)]) hx hb d_M_node2_66 rfl hl (by decide) rfl (fun ls hl => ?_)
            refine lv_iconst (v := 1) hx hb d_M_node2_67 (by decide) ?_
            refine lv_istore (lv' := [(4, .int 1), (3, .int 0), (0, .ref mo), (1, .int (nI i)), (2, .int k)]) hx hb d_M_node2_68 hl (by decide) rfl (fun ls hl => ?_)
            have loop_70 : ∀ (fuel : Nat) (j : Nat) (c9 : Nat) (H : Heap) (locs : List Loc) (ls : Array Slot)  (hj9 : 1 ≤ j ∧ j ≤ R.1) (hcn : c9 = chC R.2 (nI i) j), (R.1 - j) < fuel → z_S g A s.heap h1 H locs → lv_has ls 5 [(0, .ref mo), (1, .int (nI i)), (3, .int (nI c9)), (4, .int (nI j))] → W pg l en { frames := 1, cells := 0, slots := 0, locals := 60 } s m [.ref mo, .int a, .int k].toArray below meth cd H locs 0 0 (MQ below (z_Q g A (fun x h1 => MPt g h x (.int (oNode R a k)) h1 mo T S R O)) [.ref mo, .int a, .int k].toArray s 0 0 A) (F0 m 70 ls []) := by
              intro fuel
              induction fuel with
              | zero => intro j c9 H locs ls hj9 hcn hm; exact absurd hm (Nat.not_lt_zero _)
              | succ fuel ih_70 =>
                intro j c9 H locs ls hj9 hcn hm hw hl
                refine lv_iload hx hb d_M_node2_70 (lv_at hl 3 rfl) ?_
                refine lv_aload_n hx hb d_M_node2_72 rfl (lv_at hl 0 rfl) ?_
                refine z_get hx hb hts (z_lay i_M) hown hK hw f1_mo rfl 18 (by decide) (z_in k_789 rfl) (fun _ h9 => h9) rfl d_M_node2_73 ?_
                refine lv_icmp_ge (tgt := 104) hx hb d_M_node2_76 (by decide) (fun c_76 => ?_) (fun c_76 => ?_)
                · -- 76: True
                  have c_76 : R.1 ≤ j := (nI_leI (a := R.1) (b := j) (by omega) (by omega)).mp c_76
                  refine lv_iload_n hx hb d_M_node2_104 rfl (lv_at hl 2 rfl) ?_
                  exact z_iret hx hb hr hlocks hw (by refine ⟨congrArg some (congrArg Value.int ?_), ⟨ma, _, _, _, _, _, _, f1_mo, hTp.k kk1 (by omega), hTx.k kk1 (by omega), ⟨_, _, _, hSc.k kk1 (by omega) (by omega) (by omega)⟩, hSf.k kk1 (by omega) (by omega) (by omega), ⟨_, _, _, _, _, _, hNd.k kk1 (by omega) (by omega) (by omega)⟩, hOl.k kk1 (by omega) (by omega) (by omega), hOu.k kk1 (by omega)⟩, kk1.mono (fun y z => by unfold KMr; omega)⟩; unfold oNode; rw [c_10, if_pos rfl, ea_i, nI_clamp (by omega)]; have z : k = 2 := c_60; rw [z]; show _ = nI (chC R.2 (nI i) R.1); rw [hcn, show j = R.1 by omega]) (by decide) (by decide) d_M_node2_105
                · -- 76: False
                  have c_76 : ¬ (R.1 ≤ j) := fun z => c_76 ((nI_leI (a := R.1) (b := j) (by omega) (by omega)).mpr z)
                  refine lv_iload_n hx hb d_M_node2_79 rfl (lv_at hl 2 rfl) ?_
                  refine lv_aload_n hx hb d_M_node2_80 rfl (lv_at hl 0 rfl) ?_
                  refine z_get hx hb hts (z_lay i_M) hown hK hw f1_mo rfl 14 (by decide) (z_in k_785 rfl) (fun _ h9 => h9) rfl d_M_node2_81 ?_
                  refine lv_iload hx hb d_M_node2_84 (lv_at hl 3 rfl) ?_
                  refine z_iald hx hb hK hw f1_ma_7 1 rfl (vp_in_nI (by omega) (by omega)) d_M_node2_86 ?_
                  refine z_topi (y := np j) (by rw [nI_clamp (by omega)]) ?_
                  refine lv_iload_n hx hb d_M_node2_87 rfl (lv_at hl 1 rfl) ?_
                  refine lv_icmp_ne (tgt := 95) hx hb d_M_node2_88 (by decide) (fun c_88 => ?_) (fun c_88 => ?_)
                  · -- 88: True
                    have cj : ¬ ndPa (R.2 j) = nI i := by rw [(hNd.2.2.2.2.2.2 j (by omega)).2.1] at c_88; exact c_88
                    refine lv_iconst (v := 0) hx hb d_M_node2_95 (by decide) ?_
                    refine lv_iadd hx hb d_M_node2_96 ?_
                    refine z_topi (y := nI (c9 + 0)) (nI_add c9 0) ?_
                    refine lv_istore_n (lv' := [(3, .int (nI (c9 + 0))), (0, .ref mo), (1, .int (nI i)), (4, .int (nI j))]) hx hb d_M_node2_97 rfl hl (by decide) rfl (fun ls hl => ?_)
                    refine lv_iinc (v := nI (j + 1)) (lv' := [(4, .int (nI (j + 1))), (3, .int (nI (c9 + 0))), (0, .ref mo), (1, .int (nI i))]) hx hb d_M_node2_98 hl (k := 3) rfl (nI_1 j) (by decide) rfl (fun ls hl => ?_)
                    refine lv_goto (tgt := 70) hx hb d_M_node2_101 (by decide) ?_
                    refine ih_70 (j + 1) (c9 + 0) _ _ _ (⟨by omega, by omega⟩) (by simp only [chC]; rw [hcn, if_neg cj]) ?_ hw (lv_sub hl [2, 3, 1, 0] rfl)
                    omega
                  · -- 88: False
                    have cj :  ndPa (R.2 j) = nI i := by rw [(hNd.2.2.2.2.2.2 j (by omega)).2.1] at c_88; simpa using c_88
                    refine lv_iconst (v := 1) hx hb d_M_node2_91 (by decide) ?_
                    refine lv_goto (tgt := 96) hx hb d_M_node2_92 (by decide) ?_
                    refine lv_iadd hx hb d_M_node2_96 ?_
                    refine z_topi (y := nI (c9 + 1)) (nI_add c9 1) ?_
                    refine lv_istore_n (lv' := [(3, .int (nI (c9 + 1))), (0, .ref mo), (1, .int (nI i)), (4, .int (nI j))]) hx hb d_M_node2_97 rfl hl (by decide) rfl (fun ls hl => ?_)
                    refine lv_iinc (v := nI (j + 1)) (lv' := [(4, .int (nI (j + 1))), (3, .int (nI (c9 + 1))), (0, .ref mo), (1, .int (nI i))]) hx hb d_M_node2_98 hl (k := 3) rfl (nI_1 j) (by decide) rfl (fun ls hl => ?_)
                    refine lv_goto (tgt := 70) hx hb d_M_node2_101 (by decide) ?_
                    refine ih_70 (j + 1) (c9 + 1) _ _ _ (⟨by omega, by omega⟩) (by simp only [chC]; rw [hcn, if_pos cj]) ?_ hw (lv_sub hl [2, 3, 1, 0] rfl)
                    omega
            exact loop_70 (R.1 - 1 + 1) 1 0  _ _ _  (⟨by omega, hR1⟩) (by simp only [chC]; rw [hpa0, if_neg (fun z => by have := congrArg Int32.toInt z; rw [nI_toInt (by omega)] at this; have e1 : (-1 : Int32).toInt = -1 := rfl; omega)]) (by omega) hw (lv_sub hl [2, 3, 1, 0] rfl)
          · -- 60: False
            refine lv_iconst (v := (-1)) hx hb d_M_node2_63 (by decide) ?_
            exact z_iret hx hb hr hlocks hw (by refine ⟨congrArg some (congrArg Value.int ?_), ⟨ma, _, _, _, _, _, _, f1_mo, hTp.k kk1 (by omega), hTx.k kk1 (by omega), ⟨_, _, _, hSc.k kk1 (by omega) (by omega) (by omega)⟩, hSf.k kk1 (by omega) (by omega) (by omega), ⟨_, _, _, _, _, _, hNd.k kk1 (by omega) (by omega) (by omega)⟩, hOl.k kk1 (by omega) (by omega) (by omega), hOu.k kk1 (by omega)⟩, kk1.mono (fun y z => by unfold KMr; omega)⟩; unfold oNode; rw [c_10, if_pos rfl, ea_i, nI_clamp (by omega)]; simp only [swN]; rw [if_neg (show ¬ k = nI 0 from c_16), if_neg (show ¬ k = nI (0 + 1) from c_28), if_neg (show ¬ k = nI (0 + 1 + 1) from c_60), if_neg (show ¬ k = nI (0 + 1 + 1 + 1) from c_40)]) (by decide) (by decide) d_M_node2_64
        · -- 40: False
          refine lv_iload_n hx hb d_M_node2_43 rfl (lv_at hl 1 rfl) ?_
          refine lv_if_ne (tgt := 51) hx hb d_M_node2_44 (by decide) (fun c_44 => ?_) (fun c_44 => ?_)
          · -- 44: True
            have c_44 : ¬ (i = 0) := fun z => c_44 ((nI_eq (a := i) (b := 0) (by omega) (by omega)).mpr z)
            refine lv_aload_n hx hb d_M_node2_51 rfl (lv_at hl 0 rfl) ?_
            refine z_get hx hb hts (z_lay i_M) hown hK hw f1_mo rfl 16 (by decide) (z_in k_787 rfl) (fun _ h9 => h9) rfl d_M_node2_52 ?_
            refine lv_iload_n hx hb d_M_node2_55 rfl (lv_at hl 1 rfl) ?_
            refine z_iald hx hb hK hw f1_ma_9 1 rfl (vp_in_nI (by omega) (by omega)) d_M_node2_56 ?_
            refine z_topi (y := ns i) (by rw [nI_clamp (by omega)]) ?_
            exact z_iret hx hb hr hlocks hw (by refine ⟨congrArg some (congrArg Value.int ?_), ⟨ma, _, _, _, _, _, _, f1_mo, hTp.k kk1 (by omega), hTx.k kk1 (by omega), ⟨_, _, _, hSc.k kk1 (by omega) (by omega) (by omega)⟩, hSf.k kk1 (by omega) (by omega) (by omega), ⟨_, _, _, _, _, _, hNd.k kk1 (by omega) (by omega) (by omega)⟩, hOl.k kk1 (by omega) (by omega) (by omega), hOu.k kk1 (by omega)⟩, kk1.mono (fun y z => by unfold KMr; omega)⟩; unfold oNode; rw [c_10, if_pos rfl, ea_i, nI_clamp (by omega)]; have z : k = 3 := (by simpa using c_40); rw [z]; exact ((hNd.2.2.2.2.2.2 i hi).2.2 (by omega)).2.1) (by decide) (by decide) d_M_node2_57
          · -- 44: False
            have c_44 : i = 0 := (nI_eq (a := i) (b := 0) (by omega) (by omega)).mp c_44
            refine lv_iconst (v := 0) hx hb d_M_node2_47 (by decide) ?_
            refine lv_goto (tgt := 57) hx hb d_M_node2_48 (by decide) ?_
            exact z_iret hx hb hr hlocks hw (by refine ⟨congrArg some (congrArg Value.int ?_), ⟨ma, _, _, _, _, _, _, f1_mo, hTp.k kk1 (by omega), hTx.k kk1 (by omega), ⟨_, _, _, hSc.k kk1 (by omega) (by omega) (by omega)⟩, hSf.k kk1 (by omega) (by omega) (by omega), ⟨_, _, _, _, _, _, hNd.k kk1 (by omega) (by omega) (by omega)⟩, hOl.k kk1 (by omega) (by omega) (by omega), hOu.k kk1 (by omega)⟩, kk1.mono (fun y z => by unfold KMr; omega)⟩; unfold oNode; rw [c_10, if_pos rfl, ea_i, nI_clamp (by omega)]; have z : k = 3 := (by simpa using c_40); rw [z]; show _ = nI (ndTx (R.2 i)).length; rw [show i = 0 by omega, ht0]; rfl) (by decide) (by decide) d_M_node2_57
      · -- 28: False
        refine lv_aload_n hx hb d_M_node2_31 rfl (lv_at hl 0 rfl) ?_
        refine z_get hx hb hts (z_lay i_M) hown hK hw f1_mo rfl 14 (by decide) (z_in k_785 rfl) (fun _ h9 => h9) rfl d_M_node2_32 ?_
        refine lv_iload_n hx hb d_M_node2_35 rfl (lv_at hl 1 rfl) ?_
        refine z_iald hx hb hK hw f1_ma_7 1 rfl (vp_in_nI (by omega) (by omega)) d_M_node2_36 ?_
        refine z_topi (y := np i) (by rw [nI_clamp (by omega)]) ?_
        exact z_iret hx hb hr hlocks hw (by refine ⟨congrArg some (congrArg Value.int ?_), ⟨ma, _, _, _, _, _, _, f1_mo, hTp.k kk1 (by omega), hTx.k kk1 (by omega), ⟨_, _, _, hSc.k kk1 (by omega) (by omega) (by omega)⟩, hSf.k kk1 (by omega) (by omega) (by omega), ⟨_, _, _, _, _, _, hNd.k kk1 (by omega) (by omega) (by omega)⟩, hOl.k kk1 (by omega) (by omega) (by omega), hOu.k kk1 (by omega)⟩, kk1.mono (fun y z => by unfold KMr; omega)⟩; unfold oNode; rw [c_10, if_pos rfl, ea_i, nI_clamp (by omega)]; have z : k = 1 := (by simpa using c_28); rw [z]; exact (hNd.2.2.2.2.2.2 i hi).2.1) (by decide) (by decide) d_M_node2_37
    · -- 16: False
      refine lv_aload_n hx hb d_M_node2_19 rfl (lv_at hl 0 rfl) ?_
      refine z_get hx hb hts (z_lay i_M) hown hK hw f1_mo rfl 13 (by decide) (z_in k_784 rfl) (fun _ h9 => h9) rfl d_M_node2_20 ?_
      refine lv_iload_n hx hb d_M_node2_23 rfl (lv_at hl 1 rfl) ?_
      refine z_iald hx hb hK hw f1_ma_6 1 rfl (vp_in_nI (by omega) (by omega)) d_M_node2_24 ?_
      refine z_topi (y := nf i) (by rw [nI_clamp (by omega)]) ?_
      exact z_iret hx hb hr hlocks hw (by refine ⟨congrArg some (congrArg Value.int ?_), ⟨ma, _, _, _, _, _, _, f1_mo, hTp.k kk1 (by omega), hTx.k kk1 (by omega), ⟨_, _, _, hSc.k kk1 (by omega) (by omega) (by omega)⟩, hSf.k kk1 (by omega) (by omega) (by omega), ⟨_, _, _, _, _, _, hNd.k kk1 (by omega) (by omega) (by omega)⟩, hOl.k kk1 (by omega) (by omega) (by omega), hOu.k kk1 (by omega)⟩, kk1.mono (fun y z => by unfold KMr; omega)⟩; unfold oNode; rw [c_10, if_pos rfl, ea_i, nI_clamp (by omega)]; have z : k = 0 := (by simpa using c_16); rw [z]; exact (hNd.2.2.2.2.2.2 i hi).1) (by decide) (by decide) d_M_node2_25
  · -- 10: False
    have c_10 : (isIx a R.1) = false := zb_f c_10
    refine lv_iconst (v := (-1)) hx hb d_M_node2_13 (by decide) ?_
    exact z_iret hx hb hr hlocks hw (by refine ⟨congrArg some (congrArg Value.int ?_), ⟨ma, _, _, _, _, _, _, f1_mo, hTp.k kk1 (by omega), hTx.k kk1 (by omega), ⟨_, _, _, hSc.k kk1 (by omega) (by omega) (by omega)⟩, hSf.k kk1 (by omega) (by omega) (by omega), ⟨_, _, _, _, _, _, hNd.k kk1 (by omega) (by omega) (by omega)⟩, hOl.k kk1 (by omega) (by omega) (by omega), hOu.k kk1 (by omega)⟩, kk1.mono (fun y z => by unfold KMr; omega)⟩; unfold oNode; rw [c_10]; rfl) (by decide) (by decide) d_M_node2_14

theorem tbC_mono (N : Nat → Nod) : ∀ {a b : Nat}, a ≤ b → tbC N a ≤ tbC N b := by
  intro a b h
  induction b with
  | zero => rw [show a = 0 by omega]; exact Nat.le_refl _
  | succ b ih =>
    by_cases e : a = b + 1
    · rw [e]; exact Nat.le_refl _
    · have := ih (by omega); simp only [tbC]; omega
theorem tbC_in (N : Nat → Nod) {i n : Nat} (h : i < n) : tbC N i + (ndTx (N i)).length ≤ tbC N n := by
  have := tbC_mono N (show i + 1 ≤ n from h)
  simp only [tbC] at this
  omega

set_option maxHeartbeats 300000 in
set_option maxRecDepth 100000 in
theorem m_textByte (l : Launch) (g : z_G) (h : z_H) {mo : Nat} {T : List Nat} {S : Sch} {R : Rec} {O : List Nat} {a k : Int32}  (hM : MAt g h mo T S R O) (hR2 : R.1 ≤ 2000) (ht0 : ndTx (R.2 0) = []) (htb9 : tbC R.2 R.1 ≤ 16000) (hnl : ∀ i, i < R.1 → (ndTx (R.2 i)).length ≤ 255) : z_C l y_M_textByte prog_13_method_45_code 3 (Option.some Jvm.ClassFile.FieldType.int) 1 60 0 0 g [.ref mo, .int a, .int k] h (fun x h1 => MPt g h x (.int (oTextByte R a k)) h1 mo T S R O) := by
  refine z_C.of (by decide) (Nat.le_of_ble_eq_true rfl) (fun pg en s m below meth cd A ls hx hb hml hr hts hown hlocks hnm hK hE hA hw hl => ?_)
  have hl : lv_has ls 3 [(0, .ref mo), (1, .int a), (2, .int k)] := hl
  obtain ⟨ma, cod, siz, ffl, fcl, at9, il, hmo, hTp, hTx, ⟨rw9, rf, lf, hSc⟩, hSf, ⟨nf, np, nr, ns, nv, tx, hNd⟩, hOl, hOu⟩ := id hM
  obtain ⟨ftp, htp, hT4, hTv⟩ := id hTp
  obtain ⟨fou, hou, hO6, hOv⟩ := id hOu
  have kk0 : z_K (fun y => y = 20) h h := z_K.rf
  refine lv_aload_n hx hb d_M_textByte_0 rfl (lv_at hl 0 rfl) ?_
  refine lv_iconst (v := 0) hx hb d_M_textByte_1 (by decide) ?_
  refine z_putf (ty := .int) hx hb hts (z_lay i_M) t_M t_M_ok n_M hown hK hw hmo rfl 0 (by decide) (z_in k_771 rfl) (fun _ h9 => h9) rfl (by decide +kernel) rfl rfl (Nat.le_of_ble_eq_true rfl) d_M_textByte_2 (fun H locs hw => ?_)
  obtain ⟨h1, hh1⟩ : ∃ x9, z_put h mo (20, 0) (.inr (11, mF ma 0 (nI T.length) siz (nI S.1) (nI (cc S)) ffl fcl (nI R.1) (nI (tbC R.2 R.1)) (nI O.length) at9 il)) = x9 := ⟨_, rfl⟩
  have hw : z_S g A s.heap h1 H locs := by rw [← hh1]; exact hw
  have f1_mo : h1 mo = some ((20, 0), .inr (11, mF ma 0 (nI T.length) siz (nI S.1) (nI (cc S)) ffl fcl (nI R.1) (nI (tbC R.2 R.1)) (nI O.length) at9 il)) := by rw [← hh1]; exact z_put_eq
  have f1_ma_8 : h1 (ma 8) = some ((29, 2), .inl (g.2.1 1, 2000, .inl nr)) := by rw [← hh1]; exact z_keep hmo hNd.2.2.1 (z_t1 (by decide))
  have f1_ma_9 : h1 (ma 9) = some ((29, 3), .inl (g.2.1 1, 2000, .inl ns)) := by rw [← hh1]; exact z_keep hmo hNd.2.2.2.1 (z_t1 (by decide))
  have f1_ma_11 : h1 (ma 11) = some ((31, 0), .inl (g.2.1 1, 16000, .inl tx)) := by rw [← hh1]; exact z_keep hmo hNd.2.2.2.2.2.1 (z_t1 (by decide))
  have kk1 : z_K (fun y => y = 20) h h1 := kk0.tr (by rw [← hh1]; exact z_K.put hmo (by first | decide | simp | omega))
  refine lv_aload_n hx hb d_M_textByte_5 rfl (lv_at hl 0 rfl) ?_
  refine lv_iload_n hx hb d_M_textByte_6 rfl (lv_at hl 1 rfl) ?_
  refine z_callV (n := 1) (As := [.int a]) (rest := []) ⟨hx, hb, hml, hown, hts⟩ (m_isNode (F := R.1) l g h1 f1_mo (by omega)) (z_in k_1041 rfl) (z_in k_7 rfl) (z_in k_1038 rfl) (z_in k_1040 rfl) (z_in ks_50 rfl) (by decide +kernel) ⟨by first | exact Nat.le_of_ble_eq_true rfl | (dsimp only; omega) | omega, by first | exact Nat.le_of_ble_eq_true rfl | (dsimp only; omega) | omega⟩ hK hE hw hA rfl f1_mo rfl hl.1 (Nat.le_of_ble_eq_true rfl) d_M_textByte_7 ⟨by first | exact Nat.le_of_ble_eq_true rfl | (dsimp only; omega) | omega, by first | exact Nat.le_of_ble_eq_true rfl | (dsimp only; omega) | omega⟩ rfl (fun r9 h9 H locs hp hw => ?_)
  obtain ⟨r8, h8⟩ := hp
  subst r8
  subst h8
  refine W.eq (g2 := F0 m 10 ls [.int (zb (isIx a R.1))]) rfl ?_
  refine lv_if_eq (tgt := 31) hx hb d_M_textByte_10 (by decide) (fun c_10 => ?_) (fun c_10 => ?_)
  · -- 10: True
    have c_10 : (isIx a R.1) = false := zb_f c_10
    refine lv_iconst (v := (-1)) hx hb d_M_textByte_31 (by decide) ?_
    refine lv_goto (tgt := 48) hx hb d_M_textByte_32 (by decide) ?_
    exact z_iret hx hb hr hlocks hw (by refine ⟨congrArg some (congrArg Value.int ?_), ⟨ma, _, _, _, _, _, _, f1_mo, hTp.k kk1 (by omega), hTx.k kk1 (by omega), ⟨_, _, _, hSc.k kk1 (by omega) (by omega) (by omega)⟩, hSf.k kk1 (by omega) (by omega) (by omega), ⟨_, _, _, _, _, _, hNd.k kk1 (by omega) (by omega) (by omega)⟩, hOl.k kk1 (by omega) (by omega) (by omega), hOu.k kk1 (by omega)⟩, kk1.mono (fun y z => by unfold KMr; omega)⟩; unfold oTextByte; rw [c_10]; rfl) (by decide) (by decide) d_M_textByte_48
  · -- 10: False
    have c_10 : (isIx a R.1) = true := zb_t c_10
    obtain ⟨i, hi, rfl⟩ := isIx_ex (show isIx a R.1 = true from c_10) (by omega)
    have hl : lv_has ls 3 [(0, .ref mo), (1, .int (nI i)), (2, .int k)] := hl
    refine lv_iload_n hx hb d_M_textByte_13 rfl (lv_at hl 1 rfl) ?_
    refine lv_if_eq (tgt := 31) hx hb d_M_textByte_14 (by decide) (fun c_14 => ?_) (fun c_14 => ?_)
    · -- 14: True
      have c_14 : i = 0 := (nI_eq (a := i) (b := 0) (by omega) (by omega)).mp c_14
      refine lv_iconst (v := (-1)) hx hb d_M_textByte_31 (by decide) ?_
      refine lv_goto (tgt := 48) hx hb d_M_textByte_32 (by decide) ?_
      exact z_iret hx hb hr hlocks hw (by refine ⟨congrArg some (congrArg Value.int ?_), ⟨ma, _, _, _, _, _, _, f1_mo, hTp.k kk1 (by omega), hTx.k kk1 (by omega), ⟨_, _, _, hSc.k kk1 (by omega) (by omega) (by omega)⟩, hSf.k kk1 (by omega) (by omega) (by omega), ⟨_, _, _, _, _, _, hNd.k kk1 (by omega) (by omega) (by omega)⟩, hOl.k kk1 (by omega) (by omega) (by omega), hOu.k kk1 (by omega)⟩, kk1.mono (fun y z => by unfold KMr; omega)⟩; unfold oTextByte; rw [c_10, if_pos rfl, nI_clamp (by omega)]; rw [show i = 0 by omega, ht0]; unfold lbz bz; split <;> first | rfl | exact (bt_out (by simp)).symm) (by decide) (by decide) d_M_textByte_48
    · -- 14: False
      have c_14 : ¬ (i = 0) := fun z => c_14 ((nI_eq (a := i) (b := 0) (by omega) (by omega)).mpr z)
      refine lv_iload_n hx hb d_M_textByte_17 rfl (lv_at hl 2 rfl) ?_
      refine lv_if_lt (tgt := 31) hx hb d_M_textByte_18 (by decide) (fun c_18 => ?_) (fun c_18 => ?_)
      · -- 18: True
        refine lv_iconst (v := (-1)) hx hb d_M_textByte_31 (by decide) ?_
        refine lv_goto (tgt := 48) hx hb d_M_textByte_32 (by decide) ?_
        exact z_iret hx hb hr hlocks hw (by refine ⟨congrArg some (congrArg Value.int ?_), ⟨ma, _, _, _, _, _, _, f1_mo, hTp.k kk1 (by omega), hTx.k kk1 (by omega), ⟨_, _, _, hSc.k kk1 (by omega) (by omega) (by omega)⟩, hSf.k kk1 (by omega) (by omega) (by omega), ⟨_, _, _, _, _, _, hNd.k kk1 (by omega) (by omega) (by omega)⟩, hOl.k kk1 (by omega) (by omega) (by omega), hOu.k kk1 (by omega)⟩, kk1.mono (fun y z => by unfold KMr; omega)⟩; unfold oTextByte; rw [c_10, if_pos rfl, nI_clamp (by omega)]; unfold lbz bz; rw [if_pos c_18]) (by decide) (by decide) d_M_textByte_48
      · -- 18: False
        obtain ⟨j, hj, rfl⟩ := nI_of c_18
        have hl : lv_has ls 3 [(0, .ref mo), (1, .int (nI i)), (2, .int (nI j))] := hl
        have hti := (hNd.2.2.2.2.2.2 i hi).2.2 (by omega)
        have htb := tbC_in R.2 hi
        have htl := hnl i hi
        refine lv_iload_n hx hb d_M_textByte_21 rfl (lv_at hl 2 rfl) ?_
        refine lv_aload_n hx hb d_M_textByte_22 rfl (lv_at hl 0 rfl) ?_
        refine z_get hx hb hts (z_lay i_M) hown hK hw f1_mo rfl 16 (by decide) (z_in k_787 rfl) (fun _ h9 => h9) rfl d_M_textByte_23 ?_
        refine lv_iload_n hx hb d_M_textByte_26 rfl (lv_at hl 1 rfl) ?_
        refine z_iald hx hb hK hw f1_ma_9 1 rfl (vp_in_nI (by omega) (by omega)) d_M_textByte_27 ?_
        refine z_topi (y := ns i) (by rw [nI_clamp (by omega)]) ?_
        refine z_top (y := .int (nI ((ndTx (R.2 i)).length))) (by rw [hti.2.1]) ?_
        refine lv_icmp_lt (tgt := 35) hx hb d_M_textByte_28 (by decide) (fun c_28 => ?_) (fun c_28 => ?_)
        · -- 28: True
          have c_28 : j < ((ndTx (R.2 i)).length) := (nI_ltI (a := j) (b := (ndTx (R.2 i)).length) (by omega) (by omega)).mp c_28
          refine lv_aload_n hx hb d_M_textByte_35 rfl (lv_at hl 0 rfl) ?_
          refine z_get hx hb hts (z_lay i_M) hown hK hw f1_mo rfl 20 (by decide) (z_in k_791 rfl) (fun _ h9 => h9) rfl d_M_textByte_36 ?_
          refine lv_aload_n hx hb d_M_textByte_39 rfl (lv_at hl 0 rfl) ?_
          refine z_get hx hb hts (z_lay i_M) hown hK hw f1_mo rfl 15 (by decide) (z_in k_786 rfl) (fun _ h9 => h9) rfl d_M_textByte_40 ?_
          refine lv_iload_n hx hb d_M_textByte_43 rfl (lv_at hl 1 rfl) ?_
          refine z_iald hx hb hK hw f1_ma_8 1 rfl (vp_in_nI (by omega) (by omega)) d_M_textByte_44 ?_
          refine z_topi (y := nr i) (by rw [nI_clamp (by omega)]) ?_
          refine z_top (y := .int (nI (tbC R.2 i))) (by rw [hti.1]) ?_
          refine lv_iload_n hx hb d_M_textByte_45 rfl (lv_at hl 2 rfl) ?_
          refine lv_iadd hx hb d_M_textByte_46 ?_
          refine z_topi (y := nI ((tbC R.2 i) + j)) (nI_add (tbC R.2 i) j) ?_
          refine z_iald hx hb hK hw f1_ma_11 1 rfl (vp_in_nI (by omega) (by omega)) d_M_textByte_47 ?_
          refine z_topi (y := tx ((tbC R.2 i) + j)) (by rw [nI_clamp (by omega)]) ?_
          exact z_iret hx hb hr hlocks hw (by refine ⟨congrArg some (congrArg Value.int ?_), ⟨ma, _, _, _, _, _, _, f1_mo, hTp.k kk1 (by omega), hTx.k kk1 (by omega), ⟨_, _, _, hSc.k kk1 (by omega) (by omega) (by omega)⟩, hSf.k kk1 (by omega) (by omega) (by omega), ⟨_, _, _, _, _, _, hNd.k kk1 (by omega) (by omega) (by omega)⟩, hOl.k kk1 (by omega) (by omega) (by omega), hOu.k kk1 (by omega)⟩, kk1.mono (fun y z => by unfold KMr; omega)⟩; unfold oTextByte; rw [c_10, if_pos rfl, nI_clamp (by omega)]; unfold lbz; rw [bz_n hj, bt_in (by omega)]; exact hti.2.2.2 j (by omega)) (by decide) (by decide) d_M_textByte_48
        · -- 28: False
          have c_28 : ¬ (j < ((ndTx (R.2 i)).length)) := fun z => c_28 ((nI_ltI (a := j) (b := (ndTx (R.2 i)).length) (by omega) (by omega)).mpr z)
          refine lv_iconst (v := (-1)) hx hb d_M_textByte_31 (by decide) ?_
          refine lv_goto (tgt := 48) hx hb d_M_textByte_32 (by decide) ?_
          exact z_iret hx hb hr hlocks hw (by refine ⟨congrArg some (congrArg Value.int ?_), ⟨ma, _, _, _, _, _, _, f1_mo, hTp.k kk1 (by omega), hTx.k kk1 (by omega), ⟨_, _, _, hSc.k kk1 (by omega) (by omega) (by omega)⟩, hSf.k kk1 (by omega) (by omega) (by omega), ⟨_, _, _, _, _, _, hNd.k kk1 (by omega) (by omega) (by omega)⟩, hOl.k kk1 (by omega) (by omega) (by omega), hOu.k kk1 (by omega)⟩, kk1.mono (fun y z => by unfold KMr; omega)⟩; unfold oTextByte; rw [c_10, if_pos rfl, nI_clamp (by omega)]; unfold lbz; rw [bz_n hj, bt_out (by omega)]) (by decide) (by decide) d_M_textByte_48

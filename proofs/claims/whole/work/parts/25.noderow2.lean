/-- up from u, as long as it is beyond i -/
def upW (N : Nat → Nod) (i : Int32) : Nat → Int32 → Int32
  | 0, u => u
  | k + 1, u => if i < u then upW N i k (ndPa (N u.toNatClampNeg)) else u
theorem upW_stop {N : Nat → Nod} {i u : Int32} (k : Nat) (h : k = 0 ∨ ¬ i < u) : upW N i k u = u := by
  cases k with
  | zero => rfl
  | succ k =>
    rcases h with h | h
    · omega
    · simp only [upW]; rw [if_neg h]
/-- whether a node is the latest one, or its parent, or that one's .. -/
def opn (R : Rec) (pi : Nat) : Bool := decide (upW R.2 (nI pi) R.1 (nI (R.1 - 1)) = nI pi)
/-- whether a node may come by hand under pi: field number fi, kind ki, of the group gr -/
def mayT (R : Rec) (pi fi : Nat) (ki gr : Int32) : Bool := decide (ndFi (R.2 pi) = gr) && opn R pi && (decide (lfC R.2 (nI pi) R.1 < nI fi) || (decide (nI fi = lfC R.2 (nI pi) R.1) && decide (ki = 2)))
def lkN (S : Sch) (R : Rec) : Nat → Nat → Bool
  | 0, _ => true
  | r + 1, i => if rtC S R.2 (nI i) R.1 < rq S (ndFi (R.2 i)) then false else lkN S R r (i + 1)
/-- no node lacks a required field -/
def lkA (S : Sch) (R : Rec) : Bool := lkN S R (R.1 - 0) 0
/-- each node is of a field of the schema, or the record itself -/
def fiOK (S : Sch) (R : Rec) : Prop := ∀ i, i < R.1 → ndFi (R.2 i) = -1 ∨ ∃ f, f < S.1 ∧ ndFi (R.2 i) = nI f
theorem paOK.up {R : Rec} (hpa : paOK R) {j : Nat} (hj : j < R.1) : ndPa (R.2 j) = -1 ∨ ∃ k, k < R.1 ∧ ndPa (R.2 j) = nI k := by
  by_cases e : j = 0
  · subst e; exact Or.inl hpa.1
  · obtain ⟨p9, hp9, e9⟩ := hpa.2 j (by omega) hj
    exact Or.inr ⟨p9, by omega, e9⟩
theorem c_Schema_requiredOf_any (l : Launch) (g : z_G) (h : z_H) {r q : Nat} {S : Sch} {fa ca : Nat} {ad na : Nat → Nat} {ff : Nat → Option Nat} {cf : Nat → Int32} {nf : Nat → Nat → Int32} {x : Int32} (hS : SchP g h r q S fa ca ad na ff cf nf) (hx : x = -1 ∨ ∃ f, f < S.1 ∧ x = nI f) : z_C l y_Schema_requiredOf prog_9_method_7_code 3 (Option.some Jvm.ClassFile.FieldType.int) 1 40 0 0 g [.ref q, .int x] h (fun r h1 => r = some (.int (nI (rq S x))) ∧ h = h1) := by
  rcases hx with e | ⟨f, hf, e⟩
  · subst e; exact c_Schema_requiredOf_top l g h hS
  · subst e; exact c_Schema_requiredOf l g h hS hf

set_option maxHeartbeats 4000000 in
set_option maxRecDepth 100000 in
theorem c_isOpen (l : Launch) (g : z_G) (h : z_H) {mr w : Nat} {S : Sch} {R : Rec} {ra : Nat} {ad tx : Nat → Nat} {rf : Nat → Option Nat} {tf : Nat → Nat → Int32} {pi : Nat}  (hN : NdP g h mr w S R ra ad tx rf tf) (hpa : paOK R) (hpi : pi < R.1) : z_C l y_NodeRow_isOpen prog_5_method_6_code 5 (Option.some Jvm.ClassFile.FieldType.boolean) 1 30 0 0 g [.ref w, .int (nI pi)] h (fun x h1 => x = some (.int (zb (opn R pi))) ∧ h = h1) := by
  refine z_C.of (by decide) (Nat.le_of_ble_eq_true rfl) (fun pg en s m below meth cd A ls hx hb hml hr hts hown hlocks hnm hK hE hA hw hl => ?_)
  have hl : lv_has ls 5 [(0, .ref w), (1, .int (nI pi))] := hl
  obtain ⟨hww, hra, hnd, htx, hs1, hs2, htb⟩ := id hN
  refine lv_aload_n hx hb d_NodeRow_isOpen_0 rfl (lv_at hl 0 rfl) ?_
  refine z_get hx hb hts (z_lay i_NodeRow) hown hK hw hww rfl 1 (by decide) (z_in k_135 rfl) (fun _ h9 => h9) rfl d_NodeRow_isOpen_1 ?_
  refine lv_iconst (v := 1) hx hb d_NodeRow_isOpen_4 (by decide) ?_
  refine lv_isub hx hb d_NodeRow_isOpen_5 ?_
  refine z_topi (y := nI (R.1 - 1)) (pk_sub (a := R.1) (b := 1) (by omega)) ?_
  refine lv_istore_n (lv' := [(2, .int (nI (R.1 - 1))), (0, .ref w), (1, .int (nI pi))]) hx hb d_NodeRow_isOpen_6 rfl hl (by decide) rfl (fun ls hl => ?_)
  refine lv_iconst (v := 0) hx hb d_NodeRow_isOpen_7 (by decide) ?_
  refine lv_istore_n (lv' := [(3, .int 0), (2, .int (nI (R.1 - 1))), (0, .ref w), (1, .int (nI pi))]) hx hb d_NodeRow_isOpen_8 rfl hl (by decide) rfl (fun ls hl => ?_)
  have loop_9 : ∀ (fuel : Nat) (u : Int32) (k1 : Nat) (H : Heap) (locs : List Loc) (ls : Array Slot)  (hk : k1 ≤ R.1) (hu : u = -1 ∨ ∃ j, j < R.1 ∧ u = nI j) (hU : upW R.2 (nI pi) (R.1 - k1) u = upW R.2 (nI pi) R.1 (nI (R.1 - 1))), (R.1 - k1) < fuel → z_S g A s.heap h H locs → lv_has ls 5 [(0, .ref w), (1, .int (nI pi)), (2, .int u), (3, .int (nI k1))] → W pg l en { frames := 1, cells := 0, slots := 0, locals := 30 } s m [.ref w, .int (nI pi)].toArray below meth cd H locs 0 0 (MQ below (z_Q g A (fun x h1 => x = some (.int (zb (opn R pi))) ∧ h = h1)) [.ref w, .int (nI pi)].toArray s 0 0 A) (F0 m 9 ls []) := by
    intro fuel
    induction fuel with
    | zero => intro u k1 H locs ls hk hu hU hm; exact absurd hm (Nat.not_lt_zero _)
    | succ fuel ih_9 =>
      intro u k1 H locs ls hk hu hU hm hw hl
      refine lv_iload_n hx hb d_NodeRow_isOpen_9 rfl (lv_at hl 3 rfl) ?_
      refine lv_aload_n hx hb d_NodeRow_isOpen_10 rfl (lv_at hl 0 rfl) ?_
      refine z_get hx hb hts (z_lay i_NodeRow) hown hK hw hww rfl 1 (by decide) (z_in k_135 rfl) (fun _ h9 => h9) rfl d_NodeRow_isOpen_11 ?_
      refine lv_icmp_ge (tgt := 50) hx hb d_NodeRow_isOpen_14 (by decide) (fun c_14 => ?_) (fun c_14 => ?_)
      · -- 14: True
        have c_14 : R.1 ≤ k1 := (nI_leI (a := R.1) (b := k1) (by omega) (by omega)).mp c_14
        refine lv_iload_n hx hb d_NodeRow_isOpen_50 rfl (lv_at hl 2 rfl) ?_
        refine lv_iload_n hx hb d_NodeRow_isOpen_51 rfl (lv_at hl 1 rfl) ?_
        refine lv_icmp_ne (tgt := 59) hx hb d_NodeRow_isOpen_52 (by decide) (fun c_52 => ?_) (fun c_52 => ?_)
        · -- 52: True
          refine lv_iconst (v := 0) hx hb d_NodeRow_isOpen_59 (by decide) ?_
          have e9 : upW R.2 (nI pi) R.1 (nI (R.1 - 1)) = u := by rw [← hU]; exact upW_stop _ (Or.inl (by omega))
          exact z_zret hx hb hr rfl hlocks hw (by refine ⟨congrArg some (congrArg Value.int ?_), rfl⟩; unfold opn; rw [e9, zb_0 (decide_eq_false c_52)]) (by decide) (by decide) d_NodeRow_isOpen_60
        · -- 52: False
          refine lv_iconst (v := 1) hx hb d_NodeRow_isOpen_55 (by decide) ?_
          refine lv_goto (tgt := 60) hx hb d_NodeRow_isOpen_56 (by decide) ?_
          have e9 : upW R.2 (nI pi) R.1 (nI (R.1 - 1)) = u := by rw [← hU]; exact upW_stop _ (Or.inl (by omega))
          exact z_zret hx hb hr rfl hlocks hw (by refine ⟨congrArg some (congrArg Value.int ?_), rfl⟩; unfold opn; rw [e9, zb_1 (decide_eq_true c_52)]) (by decide) (by decide) d_NodeRow_isOpen_60
      · -- 14: False
        have c_14 : ¬ (R.1 ≤ k1) := fun z => c_14 ((nI_leI (a := R.1) (b := k1) (by omega) (by omega)).mpr z)
        refine lv_iload_n hx hb d_NodeRow_isOpen_17 rfl (lv_at hl 2 rfl) ?_
        refine lv_iload_n hx hb d_NodeRow_isOpen_18 rfl (lv_at hl 1 rfl) ?_
        refine lv_icmp_le (tgt := 50) hx hb d_NodeRow_isOpen_19 (by decide) (fun c_19 => ?_) (fun c_19 => ?_)
        · -- 19: True
          refine lv_iload_n hx hb d_NodeRow_isOpen_50 rfl (lv_at hl 2 rfl) ?_
          refine lv_iload_n hx hb d_NodeRow_isOpen_51 rfl (lv_at hl 1 rfl) ?_
          refine lv_icmp_ne (tgt := 59) hx hb d_NodeRow_isOpen_52 (by decide) (fun c_52 => ?_) (fun c_52 => ?_)
          · -- 52: True
            refine lv_iconst (v := 0) hx hb d_NodeRow_isOpen_59 (by decide) ?_
            have e9 : upW R.2 (nI pi) R.1 (nI (R.1 - 1)) = u := by rw [← hU]; exact upW_stop _ (Or.inr (fun z => by have z2 := c_19; rw [Int32.le_iff_toInt_le] at z2; rw [Int32.lt_iff_toInt_lt] at z; omega))
            exact z_zret hx hb hr rfl hlocks hw (by refine ⟨congrArg some (congrArg Value.int ?_), rfl⟩; unfold opn; rw [e9, zb_0 (decide_eq_false c_52)]) (by decide) (by decide) d_NodeRow_isOpen_60
          · -- 52: False
            refine lv_iconst (v := 1) hx hb d_NodeRow_isOpen_55 (by decide) ?_
            refine lv_goto (tgt := 60) hx hb d_NodeRow_isOpen_56 (by decide) ?_
            have e9 : upW R.2 (nI pi) R.1 (nI (R.1 - 1)) = u := by rw [← hU]; exact upW_stop _ (Or.inr (fun z => by have z2 := c_19; rw [Int32.le_iff_toInt_le] at z2; rw [Int32.lt_iff_toInt_lt] at z; omega))
            exact z_zret hx hb hr rfl hlocks hw (by refine ⟨congrArg some (congrArg Value.int ?_), rfl⟩; unfold opn; rw [e9, zb_1 (decide_eq_true c_52)]) (by decide) (by decide) d_NodeRow_isOpen_60
        · -- 19: False
          obtain ⟨j, hj, rfl⟩ : ∃ j, j < R.1 ∧ u = nI j := by
            rcases hu with e | e
            · rw [e] at c_19; exact absurd (show (-1 : Int32) ≤ nI pi by rw [Int32.le_iff_toInt_le, nI_toInt (by omega)]; have h2 : (-1 : Int32).toInt = -1 := rfl; omega) c_19
            · exact e
          have hl : lv_has ls 5 [(0, .ref w), (1, .int (nI pi)), (2, .int (nI j)), (3, .int (nI k1))] := hl
          have hnj := (hnd j hj).2
          refine lv_aload_n hx hb d_NodeRow_isOpen_22 rfl (lv_at hl 0 rfl) ?_
          refine lv_iload_n hx hb d_NodeRow_isOpen_23 rfl (lv_at hl 2 rfl) ?_
          refine z_callV (n := 1) (As := [.int (nI j)]) (rest := []) ⟨hx, hb, hml, hown, hts⟩ (c_nodeAt (i := j) l g h hN hj) (z_in k_563 rfl) (z_in k_5 rfl) (z_in k_560 rfl) (z_in k_561 rfl) (z_in k_562 rfl) (by decide +kernel) ⟨by first | exact Nat.le_of_ble_eq_true rfl | (dsimp only; omega) | omega, by first | exact Nat.le_of_ble_eq_true rfl | (dsimp only; omega) | omega⟩ hK hE hw hA rfl hww rfl hl.1 (Nat.le_of_ble_eq_true rfl) d_NodeRow_isOpen_24 ⟨by first | exact Nat.le_of_ble_eq_true rfl | (dsimp only; omega) | omega, by first | exact Nat.le_of_ble_eq_true rfl | (dsimp only; omega) | omega⟩ rfl (fun r9 h9 H locs hp hw => ?_)
          obtain ⟨r8, h8⟩ := hp
          subst r8
          subst h8
          refine W.eq (g2 := F0 m 27 ls [.ref (ad j)]) rfl ?_
          refine lv_astore (lv' := [(4, .ref (ad j)), (0, .ref w), (1, .int (nI pi)), (2, .int (nI j)), (3, .int (nI k1))]) hx hb d_NodeRow_isOpen_27 hl (by decide) rfl (fun ls hl => ?_)
          refine lv_aload hx hb d_NodeRow_isOpen_29 (lv_at hl 0 rfl) ?_
          refine lv_ifnonnull (tgt := 38) hx hb d_NodeRow_isOpen_31 (by decide) ?_
          refine lv_aload hx hb d_NodeRow_isOpen_38 (lv_at hl 0 rfl) ?_
          refine z_getN hx hb hts (z_lay i_Node) hown hK hw hnj rfl 1 (by decide) hE.nest (z_inN k_106 rfl) (fun _ h9 => h9) rfl d_NodeRow_isOpen_40 ?_
          refine lv_istore_n (lv' := [(2, .int (ndPa (R.2 j))), (4, .ref (ad j)), (0, .ref w), (1, .int (nI pi)), (3, .int (nI k1))]) hx hb d_NodeRow_isOpen_43 rfl hl (by decide) rfl (fun ls hl => ?_)
          refine lv_iinc (v := nI (k1 + 1)) (lv' := [(3, .int (nI (k1 + 1))), (2, .int (ndPa (R.2 j))), (4, .ref (ad j)), (0, .ref w), (1, .int (nI pi))]) hx hb d_NodeRow_isOpen_44 hl (k := 4) rfl (nI_1 k1) (by decide) rfl (fun ls hl => ?_)
          refine lv_goto (tgt := 9) hx hb d_NodeRow_isOpen_47 (by decide) ?_
          refine ih_9 (ndPa (R.2 j)) (k1 + 1) _ _ _ (by omega) (paOK.up hpa hj) (by rw [← hU, show R.1 - k1 = (R.1 - (k1 + 1)) + 1 by omega]; simp only [upW]; rw [if_pos (by rw [Int32.lt_iff_toInt_lt]; have z := c_19; rw [Int32.le_iff_toInt_le] at z; omega), nI_clamp (by omega)]) ?_ hw (lv_sub hl [3, 4, 1, 0] rfl)
          omega
  exact loop_9 (R.1 - 0 + 1) (nI (R.1 - 1)) 0  _ _ _  (by omega) (Or.inr ⟨R.1 - 1, by omega, rfl⟩) rfl (by omega) hw (lv_sub hl [2, 3, 1, 0] rfl)

set_option maxHeartbeats 4000000 in
set_option maxRecDepth 100000 in
theorem c_mayTake (l : Launch) (g : z_G) (h : z_H) {mr w : Nat} {S : Sch} {R : Rec} {ra : Nat} {ad tx : Nat → Nat} {rf : Nat → Option Nat} {tf : Nat → Nat → Int32} {pi fi fd na r : Nat} {ki ty gr co re de rq9 : Int32} (hfd : h fd = some ((r + 1, fi), .inr (4, [.int (nI fi), .int ki, .int ty, .int gr, .ref na, .int co, .int re, .int de, .int rq9]))) (hN : NdP g h mr w S R ra ad tx rf tf) (hpa : paOK R) (hpi : pi < R.1) : z_C l y_NodeRow_mayTake prog_5_method_5_code 4 (Option.some Jvm.ClassFile.FieldType.boolean) 2 60 0 0 g [.ref w, .int (nI pi), .ref fd] h (fun x h1 => x = some (.int (zb (mayT R pi fi ki gr))) ∧ h = h1) := by
  refine z_C.of (by decide) (Nat.le_of_ble_eq_true rfl) (fun pg en s m below meth cd A ls hx hb hml hr hts hown hlocks hnm hK hE hA hw hl => ?_)
  have hl : lv_has ls 4 [(0, .ref w), (1, .int (nI pi)), (2, .ref fd)] := hl
  obtain ⟨hww, hra, hnd, htx, hs1, hs2, htb⟩ := id hN
  have hpn := (hnd pi hpi).2
  refine lv_aload_n hx hb d_NodeRow_mayTake_0 rfl (lv_at hl 0 rfl) ?_
  refine lv_iload_n hx hb d_NodeRow_mayTake_1 rfl (lv_at hl 1 rfl) ?_
  refine z_callV (n := 1) (As := [.int (nI pi)]) (rest := []) ⟨hx, hb, hml, hown, hts⟩ (c_nodeAt l g h hN hpi) (z_in k_563 rfl) (z_in k_5 rfl) (z_in k_560 rfl) (z_in k_561 rfl) (z_in k_562 rfl) (by decide +kernel) ⟨by first | exact Nat.le_of_ble_eq_true rfl | (dsimp only; omega) | omega, by first | exact Nat.le_of_ble_eq_true rfl | (dsimp only; omega) | omega⟩ hK hE hw hA rfl hww rfl hl.1 (Nat.le_of_ble_eq_true rfl) d_NodeRow_mayTake_2 ⟨by first | exact Nat.le_of_ble_eq_true rfl | (dsimp only; omega) | omega, by first | exact Nat.le_of_ble_eq_true rfl | (dsimp only; omega) | omega⟩ rfl (fun r9 h9 H locs hp hw => ?_)
  obtain ⟨r8, h8⟩ := hp
  subst r8
  subst h8
  refine W.eq (g2 := F0 m 5 ls [.ref (ad pi)]) rfl ?_
  refine lv_astore_n (lv' := [(3, .ref (ad pi)), (0, .ref w), (1, .int (nI pi)), (2, .ref fd)]) hx hb d_NodeRow_mayTake_5 rfl hl (by decide) rfl (fun ls hl => ?_)
  refine lv_aload_n hx hb d_NodeRow_mayTake_6 rfl (lv_at hl 0 rfl) ?_
  refine lv_ifnull hx hb d_NodeRow_mayTake_7 ?_
  refine lv_aload_n hx hb d_NodeRow_mayTake_10 rfl (lv_at hl 0 rfl) ?_
  refine z_getN hx hb hts (z_lay i_Node) hown hK hw hpn rfl 0 (by decide) hE.nest (z_inN k_104 rfl) (fun _ h9 => h9) rfl d_NodeRow_mayTake_11 ?_
  refine lv_aload_n hx hb d_NodeRow_mayTake_14 rfl (lv_at hl 3 rfl) ?_
  refine z_getN hx hb hts (z_lay i_Field) hown hK hw hfd rfl 3 (by decide) hE.nest (z_inN k_414 rfl) (fun _ h9 => h9) rfl d_NodeRow_mayTake_15 ?_
  refine lv_icmp_ne (tgt := 29) hx hb d_NodeRow_mayTake_18 (by decide) (fun c_18 => ?_) (fun c_18 => ?_)
  · -- 18: True
    refine lv_iconst (v := 0) hx hb d_NodeRow_mayTake_29 (by decide) ?_
    exact z_zret hx hb hr rfl hlocks hw (by refine ⟨congrArg some (congrArg Value.int ?_), rfl⟩; unfold mayT; rw [zb_0 (by rw [decide_eq_false c_18]; rfl)]) (by decide) (by decide) d_NodeRow_mayTake_30
  · -- 18: False
    refine lv_aload_n hx hb d_NodeRow_mayTake_21 rfl (lv_at hl 1 rfl) ?_
    refine lv_iload_n hx hb d_NodeRow_mayTake_22 rfl (lv_at hl 2 rfl) ?_
    refine z_callV (n := 1) (As := [.int (nI pi)]) (rest := []) ⟨hx, hb, hml, hown, hts⟩ (c_isOpen l g h hN hpa hpi) (z_in k_629 rfl) (z_in k_5 rfl) (z_in k_626 rfl) (z_in k_628 rfl) (z_in ks_16 rfl) (by decide +kernel) ⟨by first | exact Nat.le_of_ble_eq_true rfl | (dsimp only; omega) | omega, by first | exact Nat.le_of_ble_eq_true rfl | (dsimp only; omega) | omega⟩ hK hE hw hA rfl hww rfl hl.1 (Nat.le_of_ble_eq_true rfl) d_NodeRow_mayTake_23 ⟨by first | exact Nat.le_of_ble_eq_true rfl | (dsimp only; omega) | omega, by first | exact Nat.le_of_ble_eq_true rfl | (dsimp only; omega) | omega⟩ rfl (fun r9 h9 H locs hp hw => ?_)
    obtain ⟨r8, h8⟩ := hp
    subst r8
    subst h8
    refine W.eq (g2 := F0 m 26 ls [.int (zb (opn R pi))]) rfl ?_
    refine lv_if_ne (tgt := 31) hx hb d_NodeRow_mayTake_26 (by decide) (fun c_26 => ?_) (fun c_26 => ?_)
    · -- 26: True
      have c_26 : (opn R pi) = true := zb_t c_26
      refine lv_aload_n hx hb d_NodeRow_mayTake_31 rfl (lv_at hl 3 rfl) ?_
      refine z_getN hx hb hts (z_lay i_Field) hown hK hw hfd rfl 0 (by decide) hE.nest (z_inN k_402 rfl) (fun _ h9 => h9) rfl d_NodeRow_mayTake_32 ?_
      refine lv_aload_n hx hb d_NodeRow_mayTake_35 rfl (lv_at hl 0 rfl) ?_
      refine z_getN hx hb hts (z_lay i_Node) hown hK hw hpn rfl 5 (by decide) hE.nest (z_inN k_117 rfl) (fun _ h9 => h9) rfl d_NodeRow_mayTake_36 ?_
      refine lv_icmp_gt (tgt := 61) hx hb d_NodeRow_mayTake_39 (by decide) (fun c_39 => ?_) (fun c_39 => ?_)
      · -- 39: True
        refine lv_iconst (v := 1) hx hb d_NodeRow_mayTake_61 (by decide) ?_
        refine lv_goto (tgt := 66) hx hb d_NodeRow_mayTake_62 (by decide) ?_
        exact z_zret hx hb hr rfl hlocks hw (by refine ⟨congrArg some (congrArg Value.int ?_), rfl⟩; unfold mayT; rw [zb_1 (by rw [decide_eq_true c_18, c_26]; rw [decide_eq_true c_39]; rfl)]) (by decide) (by decide) d_NodeRow_mayTake_66
      · -- 39: False
        refine lv_aload_n hx hb d_NodeRow_mayTake_42 rfl (lv_at hl 3 rfl) ?_
        refine z_getN hx hb hts (z_lay i_Field) hown hK hw hfd rfl 0 (by decide) hE.nest (z_inN k_402 rfl) (fun _ h9 => h9) rfl d_NodeRow_mayTake_43 ?_
        refine lv_aload_n hx hb d_NodeRow_mayTake_46 rfl (lv_at hl 0 rfl) ?_
        refine z_getN hx hb hts (z_lay i_Node) hown hK hw hpn rfl 5 (by decide) hE.nest (z_inN k_117 rfl) (fun _ h9 => h9) rfl d_NodeRow_mayTake_47 ?_
        refine lv_icmp_ne (tgt := 65) hx hb d_NodeRow_mayTake_50 (by decide) (fun c_50 => ?_) (fun c_50 => ?_)
        · -- 50: True
          refine lv_iconst (v := 0) hx hb d_NodeRow_mayTake_65 (by decide) ?_
          exact z_zret hx hb hr rfl hlocks hw (by refine ⟨congrArg some (congrArg Value.int ?_), rfl⟩; unfold mayT; rw [zb_0 (by rw [decide_eq_true c_18, c_26]; rw [decide_eq_false c_39, decide_eq_false c_50]; rfl)]) (by decide) (by decide) d_NodeRow_mayTake_66
        · -- 50: False
          refine lv_aload_n hx hb d_NodeRow_mayTake_53 rfl (lv_at hl 3 rfl) ?_
          refine z_getN hx hb hts (z_lay i_Field) hown hK hw hfd rfl 1 (by decide) hE.nest (z_inN k_407 rfl) (fun _ h9 => h9) rfl d_NodeRow_mayTake_54 ?_
          refine lv_iconst (v := 2) hx hb d_NodeRow_mayTake_57 (by decide) ?_
          refine lv_icmp_ne (tgt := 65) hx hb d_NodeRow_mayTake_58 (by decide) (fun c_58 => ?_) (fun c_58 => ?_)
          · -- 58: True
            refine lv_iconst (v := 0) hx hb d_NodeRow_mayTake_65 (by decide) ?_
            exact z_zret hx hb hr rfl hlocks hw (by refine ⟨congrArg some (congrArg Value.int ?_), rfl⟩; unfold mayT; rw [zb_0 (by rw [decide_eq_true c_18, c_26]; rw [decide_eq_false c_39, decide_eq_false c_58, Bool.and_false]; rfl)]) (by decide) (by decide) d_NodeRow_mayTake_66
          · -- 58: False
            refine lv_iconst (v := 1) hx hb d_NodeRow_mayTake_61 (by decide) ?_
            refine lv_goto (tgt := 66) hx hb d_NodeRow_mayTake_62 (by decide) ?_
            exact z_zret hx hb hr rfl hlocks hw (by refine ⟨congrArg some (congrArg Value.int ?_), rfl⟩; unfold mayT; rw [zb_1 (by rw [decide_eq_true c_18, c_26]; rw [decide_eq_true c_50, decide_eq_true c_58]; simp)]) (by decide) (by decide) d_NodeRow_mayTake_66
    · -- 26: False
      have c_26 : (opn R pi) = false := zb_f c_26
      refine lv_iconst (v := 0) hx hb d_NodeRow_mayTake_29 (by decide) ?_
      exact z_zret hx hb hr rfl hlocks hw (by refine ⟨congrArg some (congrArg Value.int ?_), rfl⟩; unfold mayT; rw [zb_0 (by rw [c_26, Bool.and_false]; rfl)]) (by decide) (by decide) d_NodeRow_mayTake_30

set_option maxHeartbeats 4000000 in
set_option maxRecDepth 100000 in
theorem c_mayTake_no (l : Launch) (g : z_G) (h : z_H) {mr w : Nat} {S : Sch} {R : Rec} {ra : Nat} {ad tx : Nat → Nat} {rf : Nat → Option Nat} {tf : Nat → Nat → Int32} {k : Int32} {fd : Nat}  (hN : NdP g h mr w S R ra ad tx rf tf) (hk : k < 0 ∨ nI R.1 ≤ k) : z_C l y_NodeRow_mayTake prog_5_method_5_code 4 (Option.some Jvm.ClassFile.FieldType.boolean) 2 60 0 0 g [.ref w, .int k, .ref fd] h (fun x h1 => x = some (.int 0) ∧ h = h1) := by
  refine z_C.of (by decide) (Nat.le_of_ble_eq_true rfl) (fun pg en s m below meth cd A ls hx hb hml hr hts hown hlocks hnm hK hE hA hw hl => ?_)
  have hl : lv_has ls 4 [(0, .ref w), (1, .int k), (2, .ref fd)] := hl
  obtain ⟨hww, hra, hnd, htx, hs1, hs2, htb⟩ := id hN
  refine lv_aload_n hx hb d_NodeRow_mayTake_0 rfl (lv_at hl 0 rfl) ?_
  refine lv_iload_n hx hb d_NodeRow_mayTake_1 rfl (lv_at hl 1 rfl) ?_
  refine z_callV (n := 1) (As := [.int k]) (rest := []) ⟨hx, hb, hml, hown, hts⟩ (c_nodeAt_no l g h hN hk) (z_in k_563 rfl) (z_in k_5 rfl) (z_in k_560 rfl) (z_in k_561 rfl) (z_in k_562 rfl) (by decide +kernel) ⟨by first | exact Nat.le_of_ble_eq_true rfl | (dsimp only; omega) | omega, by first | exact Nat.le_of_ble_eq_true rfl | (dsimp only; omega) | omega⟩ hK hE hw hA rfl hww rfl hl.1 (Nat.le_of_ble_eq_true rfl) d_NodeRow_mayTake_2 ⟨by first | exact Nat.le_of_ble_eq_true rfl | (dsimp only; omega) | omega, by first | exact Nat.le_of_ble_eq_true rfl | (dsimp only; omega) | omega⟩ rfl (fun r9 h9 H locs hp hw => ?_)
  obtain ⟨r8, h8⟩ := hp
  subst r8
  subst h8
  refine W.eq (g2 := F0 m 5 ls [.null]) rfl ?_
  refine lv_astore_nN (lv' := [(3, .null), (0, .ref w), (1, .int k), (2, .ref fd)]) hx hb d_NodeRow_mayTake_5 rfl hl (by decide) rfl (fun ls hl => ?_)
  refine lv_aload_nN hx hb d_NodeRow_mayTake_6 rfl (lv_at hl 0 rfl) ?_
  refine lv_ifnullN (tgt := 29) hx hb d_NodeRow_mayTake_7 (by decide) ?_
  refine lv_iconst (v := 0) hx hb d_NodeRow_mayTake_29 (by decide) ?_
  exact z_zret hx hb hr rfl hlocks hw ⟨rfl, rfl⟩ (by decide) (by decide) d_NodeRow_mayTake_30

set_option maxHeartbeats 4000000 in
set_option maxRecDepth 100000 in
theorem c_lacksNothing (l : Launch) (g : z_G) (h : z_H) {mr w : Nat} {R : Rec} {ra : Nat} {ad tx : Nat → Nat} {rf : Nat → Option Nat} {tf : Nat → Nat → Int32} {r q : Nat} {S : Sch} {fa ca : Nat} {adS na : Nat → Nat} {ff : Nat → Option Nat} {cf : Nat → Int32} {nf : Nat → Nat → Int32}  (hN : NdP g h mr w S R ra ad tx rf tf) (hS : SchP g h r q S fa ca adS na ff cf nf) (hfo : fiOK S R) : z_C l y_NodeRow_lacksNothing prog_5_method_7_code 4 (Option.some Jvm.ClassFile.FieldType.boolean) 2 70 0 0 g [.ref w, .ref q] h (fun x h1 => x = some (.int (zb (lkA S R))) ∧ h = h1) := by
  refine z_C.of (by decide) (Nat.le_of_ble_eq_true rfl) (fun pg en s m below meth cd A ls hx hb hml hr hts hown hlocks hnm hK hE hA hw hl => ?_)
  have hl : lv_has ls 4 [(0, .ref w), (1, .ref q)] := hl
  obtain ⟨hww, hra, hnd, htx, hs1, hs2, htb⟩ := id hN
  have hqS := hS.1
  have hS128 : S.1 ≤ 128 := hS.2.2.2.2.2.2.2.1
  have hrq9 := fun x => rq_le S x
  have hrt9 := fun x => rtC_le S R.2 x R.1
  refine lv_iconst (v := 0) hx hb d_NodeRow_lacksNothing_0 (by decide) ?_
  refine lv_istore_n (lv' := [(2, .int 0), (0, .ref w), (1, .ref q)]) hx hb d_NodeRow_lacksNothing_1 rfl hl (by decide) rfl (fun ls hl => ?_)
  have loop_2 : ∀ (fuel : Nat) (i1 : Nat) (H : Heap) (locs : List Loc) (ls : Array Slot)  (hi1 : i1 ≤ R.1) (hK9 : lkN S R (R.1 - i1) i1 = lkN S R (R.1 - 0) 0), (R.1 - i1) < fuel → z_S g A s.heap h H locs → lv_has ls 4 [(0, .ref w), (1, .ref q), (2, .int (nI i1))] → W pg l en { frames := 2, cells := 0, slots := 0, locals := 70 } s m [.ref w, .ref q].toArray below meth cd H locs 0 0 (MQ below (z_Q g A (fun x h1 => x = some (.int (zb (lkA S R))) ∧ h = h1)) [.ref w, .ref q].toArray s 0 0 A) (F0 m 2 ls []) := by
    intro fuel
    induction fuel with
    | zero => intro i1 H locs ls hi1 hK9 hm; exact absurd hm (Nat.not_lt_zero _)
    | succ fuel ih_2 =>
      intro i1 H locs ls hi1 hK9 hm hw hl
      refine lv_iload_n hx hb d_NodeRow_lacksNothing_2 rfl (lv_at hl 2 rfl) ?_
      refine lv_aload_n hx hb d_NodeRow_lacksNothing_3 rfl (lv_at hl 0 rfl) ?_
      refine z_get hx hb hts (z_lay i_NodeRow) hown hK hw hww rfl 1 (by decide) (z_in k_135 rfl) (fun _ h9 => h9) rfl d_NodeRow_lacksNothing_4 ?_
      refine lv_icmp_ge (tgt := 43) hx hb d_NodeRow_lacksNothing_7 (by decide) (fun c_7 => ?_) (fun c_7 => ?_)
      · -- 7: True
        have c_7 : R.1 ≤ i1 := (nI_leI (a := R.1) (b := i1) (by omega) (by omega)).mp c_7
        refine lv_iconst (v := 1) hx hb d_NodeRow_lacksNothing_43 (by decide) ?_
        exact z_zret hx hb hr rfl hlocks hw (by refine ⟨congrArg some (congrArg Value.int ?_), rfl⟩; unfold lkA; rw [← hK9, show R.1 - i1 = 0 by omega]; rfl) (by decide) (by decide) d_NodeRow_lacksNothing_44
      · -- 7: False
        have c_7 : ¬ (R.1 ≤ i1) := fun z => c_7 ((nI_leI (a := R.1) (b := i1) (by omega) (by omega)).mpr z)
        have hni := (hnd i1 (by omega)).2
        refine lv_aload_n hx hb d_NodeRow_lacksNothing_10 rfl (lv_at hl 0 rfl) ?_
        refine lv_iload_n hx hb d_NodeRow_lacksNothing_11 rfl (lv_at hl 2 rfl) ?_
        refine z_callV (n := 1) (As := [.int (nI i1)]) (rest := []) ⟨hx, hb, hml, hown, hts⟩ (c_nodeAt (i := i1) l g h hN (by omega)) (z_in k_563 rfl) (z_in k_5 rfl) (z_in k_560 rfl) (z_in k_561 rfl) (z_in k_562 rfl) (by decide +kernel) ⟨by first | exact Nat.le_of_ble_eq_true rfl | (dsimp only; omega) | omega, by first | exact Nat.le_of_ble_eq_true rfl | (dsimp only; omega) | omega⟩ hK hE hw hA rfl hww rfl hl.1 (Nat.le_of_ble_eq_true rfl) d_NodeRow_lacksNothing_12 ⟨by first | exact Nat.le_of_ble_eq_true rfl | (dsimp only; omega) | omega, by first | exact Nat.le_of_ble_eq_true rfl | (dsimp only; omega) | omega⟩ rfl (fun r9 h9 H locs hp hw => ?_)
        obtain ⟨r8, h8⟩ := hp
        subst r8
        subst h8
        refine W.eq (g2 := F0 m 15 ls [.ref (ad i1)]) rfl ?_
        refine lv_astore_n (lv' := [(3, .ref (ad i1)), (0, .ref w), (1, .ref q), (2, .int (nI i1))]) hx hb d_NodeRow_lacksNothing_15 rfl hl (by decide) rfl (fun ls hl => ?_)
        refine lv_aload_n hx hb d_NodeRow_lacksNothing_16 rfl (lv_at hl 0 rfl) ?_
        refine lv_ifnull hx hb d_NodeRow_lacksNothing_17 ?_
        refine lv_aload_n hx hb d_NodeRow_lacksNothing_20 rfl (lv_at hl 0 rfl) ?_
        refine z_getN hx hb hts (z_lay i_Node) hown hK hw hni rfl 6 (by decide) hE.nest (z_inN k_118 rfl) (fun _ h9 => h9) rfl d_NodeRow_lacksNothing_21 ?_
        refine lv_aload_n hx hb d_NodeRow_lacksNothing_24 rfl (lv_at hl 2 rfl) ?_
        refine lv_aload_n hx hb d_NodeRow_lacksNothing_25 rfl (lv_at hl 0 rfl) ?_
        refine z_getN hx hb hts (z_lay i_Node) hown hK hw hni rfl 0 (by decide) hE.nest (z_inN k_104 rfl) (fun _ h9 => h9) rfl d_NodeRow_lacksNothing_26 ?_
        refine z_callV (n := 1) (As := [.int (ndFi (R.2 i1))]) (rest := [.int (nI (rtC S R.2 (nI i1) R.1))]) ⟨hx, hb, hml, hown, hts⟩ (c_Schema_requiredOf_any l g h hS (hfo i1 (by omega))) (z_in k_673 rfl) (z_in k_4 rfl) (z_in k_670 rfl) (z_in k_671 rfl) (z_in k_672 rfl) (by decide +kernel) ⟨by first | exact Nat.le_of_ble_eq_true rfl | (dsimp only; omega) | omega, by first | exact Nat.le_of_ble_eq_true rfl | (dsimp only; omega) | omega⟩ hK hE hw hA rfl hqS rfl hl.1 (Nat.le_of_ble_eq_true rfl) d_NodeRow_lacksNothing_29 ⟨by first | exact Nat.le_of_ble_eq_true rfl | (dsimp only; omega) | omega, by first | exact Nat.le_of_ble_eq_true rfl | (dsimp only; omega) | omega⟩ rfl (fun r9 h9 H locs hp hw => ?_)
        obtain ⟨r8, h8⟩ := hp
        subst r8
        subst h8
        refine W.eq (g2 := F0 m 32 ls [.int (nI (rq S (ndFi (R.2 i1)))), .int (nI (rtC S R.2 (nI i1) R.1))]) rfl ?_
        have z1 := hrq9 (ndFi (R.2 i1))
        have z2 := hrt9 (nI i1)
        refine lv_icmp_ge (tgt := 37) hx hb d_NodeRow_lacksNothing_32 (by decide) (fun c_32 => ?_) (fun c_32 => ?_)
        · -- 32: True
          have c_32 : (rq S (ndFi (R.2 i1))) ≤ (rtC S R.2 (nI i1) R.1) := (nI_leI (a := rq S (ndFi (R.2 i1))) (b := rtC S R.2 (nI i1) R.1) (by omega) (by omega)).mp c_32
          refine lv_iinc (v := nI (i1 + 1)) (lv' := [(2, .int (nI (i1 + 1))), (3, .ref (ad i1)), (0, .ref w), (1, .ref q)]) hx hb d_NodeRow_lacksNothing_37 hl (k := 3) rfl (nI_1 i1) (by decide) rfl (fun ls hl => ?_)
          refine lv_goto (tgt := 2) hx hb d_NodeRow_lacksNothing_40 (by decide) ?_
          refine ih_2 (i1 + 1) _ _ _ (by omega) (by rw [← hK9, show R.1 - i1 = (R.1 - (i1 + 1)) + 1 by omega]; simp only [lkN]; rw [if_neg (by omega)]) ?_ hw (lv_sub hl [2, 3, 0] rfl)
          omega
        · -- 32: False
          have c_32 : ¬ ((rq S (ndFi (R.2 i1))) ≤ (rtC S R.2 (nI i1) R.1)) := fun z => c_32 ((nI_leI (a := rq S (ndFi (R.2 i1))) (b := rtC S R.2 (nI i1) R.1) (by omega) (by omega)).mpr z)
          refine lv_iconst (v := 0) hx hb d_NodeRow_lacksNothing_35 (by decide) ?_
          exact z_zret hx hb hr rfl hlocks hw (by refine ⟨congrArg some (congrArg Value.int ?_), rfl⟩; unfold lkA; rw [← hK9, show R.1 - i1 = (R.1 - (i1 + 1)) + 1 by omega]; simp only [lkN]; rw [if_pos (by omega)]; rfl) (by decide) (by decide) d_NodeRow_lacksNothing_36
  exact loop_2 (R.1 - 0 + 1) 0  _ _ _  (by omega) rfl (by omega) hw (lv_sub hl [1, 2, 0] rfl)

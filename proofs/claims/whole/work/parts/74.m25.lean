def vW (W : Nat → List Nat) (S : Sch) (R : Rec) (k : Nat) : List Nat := if fTy (S.2 (ndFi (R.2 k)).toNatClampNeg) = 4 then W k else leafO (R.2 k) (fTy (S.2 (ndFi (R.2 k)).toNatClampNeg))
/-- what the reference writes of a node from { to }, D levels deep at most -/
def mGD (S : Sch) (R : Rec) : Nat → Nat → List Nat
  | 0, _ => []
  | D + 1, i => mG (vW (mGD S R D) S R) S R i
/-- how deep a node is -/
def dN (dp : Nat → Nat) (R : Rec) (i : Nat) : Nat := if i = 0 then 0 else dp (ndFi (R.2 i)).toNatClampNeg + 1
def boOK (S : Sch) (R : Rec) : Prop := ∀ i, 0 < i → i < R.1 → fTy (S.2 (ndFi (R.2 i)).toNatClampNeg) = 0 → ndNu (R.2 i) = 0 ∨ ndNu (R.2 i) = 1
def byOK (R : Rec) : Prop := ∀ i, i < R.1 → ∀ k, k < (ndTx (R.2 i)).length → (ndTx (R.2 i)).getD k 0 < 256
theorem dN_ch {S : Sch} {R : Rec} {dp : Nat → Nat} (hs : S.1 ≤ 128) (hR : R.1 ≤ 2000) (hdp : dpOK S dp) (hf : fiO2 S R) (hp : paOK R) (hg : gpOK S R) (h0 : ndFi (R.2 0) = -1) {i k f8 : Nat} (hk0 : 0 < k) (hk : k < R.1) (hi : i < R.1) (hc : ndPa (R.2 k) = nI i) (hf8 : f8 < S.1) (ef8 : ndFi (R.2 k) = nI f8) : dN dp R k = dN dp R i + 1 ∧ i < k := by
  have hik : i < k := by
    obtain ⟨j, hj, e⟩ := hp.2 k hk0 hk
    have := (nI_eq (a := j) (b := i) (by omega) (by omega)).mp (e.symm.trans hc)
    omega
  refine ⟨?_, hik⟩
  have h1 := hg k hk0 hk i hik hc
  unfold dN
  rw [if_neg (by omega), ef8, nI_clamp (by omega)]
  rw [ef8, nI_clamp (by omega)] at h1
  by_cases e : i = 0
  · rw [if_pos e]
    rw [e, h0] at h1
    rw [(hdp f8 hf8).1 h1]
  · rw [if_neg e]
    obtain ⟨f9, hf9, ef9⟩ := hf i (by omega) hi
    rw [ef9] at h1
    rw [ef9, nI_clamp (by omega), (hdp f8 hf8).2.1 f9 hf9 h1]

theorem m_putGroup (l : Launch) (g : z_G) {mo : Nat} {ma : Nat → Nat} {cod tpd cls9 ffl fcl sai il : Int32} {siz at9 : Int32} {S : Sch} {R : Rec} {rw9 : Nat → Nat} {rf : Nat → Nat → Int32} {lf : Nat → Int32} {nf np nr ns : Nat → Int32} {nv : Nat → Int64} {tx : Nat → Int32} {dp : Nat → Nat} (hs8 : S.1 ≤ 128) (hR2 : R.1 ≤ 2000) (hR1 : 0 < R.1) (hpa : paOK R) (hB : scB S) (htb9 : tbC R.2 R.1 ≤ 16000) (hdp : dpOK S dp) (hfo : fiO2 S R) (hg : gpOK S R) (h0 : ndFi (R.2 0) = -1) (hbo : boOK S R) (hby : byOK R) : ∀ (D i : Nat), i < R.1 → (i = 0 ∨ fTy (S.2 (ndFi (R.2 i)).toNatClampNeg) = 4) → dN dp R i + D = 17 → ∀ (h : z_H) (O : List Nat), h mo = some ((20, 0), .inr (11, mF ma cod tpd siz (nI S.1) cls9 ffl fcl (nI R.1) sai (nI O.length) at9 il)) → MSp g h (ma 2) (ma 4) 23 27 S rw9 rf lf → MNp g h ma R nf np nr ns nv tx → MOu g h ma O → O.length + (mGD S R D i).length ≤ 160000 → z_C l y_M_putGroup prog_13_method_54_code 7 (Option.none : Option Jvm.ClassFile.FieldType) (20 * D) (400 * D) 0 0 g [.ref mo, .int (nI i)] h (fun x h1 => x = none ∧ h1 mo = some ((20, 0), .inr (11, mF ma cod tpd siz (nI S.1) cls9 ffl fcl (nI R.1) sai (nI ((O ++ (mGD S R D i)).length)) at9 il)) ∧ MOu g h1 ma (O ++ (mGD S R D i)) ∧ z_K (fun y => y = 20 ∨ y = 35) h h1) := by
  intro D
  induction D with
  | zero =>
    intro i hi hgi hd
    exfalso
    unfold dN at hd
    by_cases e : i = 0
    · rw [if_pos e] at hd; omega
    · rw [if_neg e] at hd
      obtain ⟨f9, hf9, ef9⟩ := hfo i (by omega) hi
      have h4 := hgi.resolve_left e
      rw [ef9, nI_clamp (by omega)] at h4 hd
      have := (hdp f9 hf9).2.2 h4
      omega
  | succ D ih =>
    intro i hi hgi hd h O a1 a2 a3 a4 a5
    rw [show 20 * (D + 1) = 20 * D + 10 + 10 by omega, show 400 * (D + 1) = 400 * D + 200 + 200 by omega]
    refine m_putGroup_of (fM := 20 * D + 10) (lM := 400 * D + 200) (V := vW (mGD S R D) S R) l g h a1 a4 a5 a2 a3 hs8 hR2 hR1 hpa hB hi (fun k hk0 hk hc h O b1 b2 b3 b4 b5 => ?_)
    obtain ⟨f8, hf8, ef8⟩ := hfo k hk0 hk
    have hv : vW (mGD S R D) S R k = if fTy (S.2 f8) = 4 then mGD S R D k else leafO (R.2 k) (fTy (S.2 f8)) := by
      unfold vW; rw [ef8, nI_clamp (by omega)]
    rw [hv] at b5 ⊢
    have hdk := dN_ch hs8 hR2 hdp hfo hpa hg h0 hk0 hk hi hc hf8 ef8
    refine m_putValue_of (fM := 20 * D) (lM := 400 * D) (GW := mGD S R D) l g h b1 b4 b5 b2 b3 hs8 hR2 hR1 hpa htb9 hk hk0 hf8 ef8 (fun z => hbo k hk0 hk (by rw [ef8, nI_clamp (by omega)]; exact z)) (hby k hk) (fun h4 => ?_)
    exact ih k hk (Or.inr (by rw [ef8, nI_clamp (by omega)]; exact h4)) (by omega)

set_option maxHeartbeats 300000 in
set_option maxRecDepth 100000 in
theorem m_write (l : Launch) (g : z_G) (h : z_H) {mo : Nat} {T : List Nat} {S : Sch} {R : Rec} {O : List Nat} {dp : Nat → Nat}  (hM : MAt g h mo T S R O) (hs8 : S.1 ≤ 128) (hR2 : R.1 ≤ 2000) (hR1 : 0 < R.1) (hpa : paOK R) (hB : scB S) (htb9 : tbC R.2 R.1 ≤ 16000) (hdp : dpOK S dp) (hfo : fiO2 S R) (hg : gpOK S R) (h0 : ndFi (R.2 0) = -1) (hbo : boOK S R) (hby : byOK R) (ho : ordOK S R) (hgt : gtOK S) (heq : mGD S R 17 0 = (wrD S R 17 0).2) (hwl : (wrD S R 17 0).2.length ≤ 160000) : z_C l y_M_write prog_13_method_55_code 1 (Option.some Jvm.ClassFile.FieldType.int) 350 7000 0 0 g [.ref mo] h (fun x h1 => MPt g h x (.int (oWrite S R).1) h1 mo T S R (oWrite S R).2) := by
  refine z_C.of (by decide) (Nat.le_of_ble_eq_true rfl) (fun pg en s m below meth cd A ls hx hb hml hr hts hown hlocks hnm hK hE hA hw hl => ?_)
  have hl : lv_has ls 1 [(0, .ref mo)] := hl
  obtain ⟨ma, cod, siz, ffl, fcl, at9, il, hmo, hTp, hTx, ⟨rw9, rf, lf, hSc⟩, hSf, ⟨nf, np, nr, ns, nv, tx, hNd⟩, hOl, hOu⟩ := id hM
  obtain ⟨ftp, htp, hT4, hTv⟩ := id hTp
  obtain ⟨fou, hou, hO6, hOv⟩ := id hOu
  have kk0 : z_K (fun y => y = 20 ∨ y = 35) h h := z_K.rf
  refine lv_aload_n hx hb d_M_write_0 rfl (lv_at hl 0 rfl) ?_
  refine lv_iconst (v := 0) hx hb d_M_write_1 (by decide) ?_
  refine z_putf (ty := .int) hx hb hts (z_lay i_M) t_M t_M_ok n_M hown hK hw hmo rfl 0 (by decide) (z_in k_771 rfl) (fun _ h9 => h9) rfl (by decide +kernel) rfl rfl (Nat.le_of_ble_eq_true rfl) d_M_write_2 (fun H locs hw => ?_)
  obtain ⟨h1, hh1⟩ : ∃ x9, z_put h mo (20, 0) (.inr (11, mF ma 0 (nI T.length) siz (nI S.1) (nI (cc S)) ffl fcl (nI R.1) (nI (tbC R.2 R.1)) (nI O.length) at9 il)) = x9 := ⟨_, rfl⟩
  have hw : z_S g A s.heap h1 H locs := by rw [← hh1]; exact hw
  have f1_mo : h1 mo = some ((20, 0), .inr (11, mF ma 0 (nI T.length) siz (nI S.1) (nI (cc S)) ffl fcl (nI R.1) (nI (tbC R.2 R.1)) (nI O.length) at9 il)) := by rw [← hh1]; exact z_put_eq
  have f1_ma_18 : h1 (ma 18) = some ((35, 0), .inl (g.2.1 1, 160000, .inl fou)) := by rw [← hh1]; exact z_keep hmo hou (z_t1 (by decide))
  have kk1 : z_K (fun y => y = 20 ∨ y = 35) h h1 := kk0.tr (by rw [← hh1]; exact z_K.put hmo (by first | decide | simp | omega))
  refine lv_aload_n hx hb d_M_write_5 rfl (lv_at hl 0 rfl) ?_
  refine lv_iconst (v := 0) hx hb d_M_write_6 (by decide) ?_
  refine z_putf (ty := .int) hx hb hts (z_lay i_M) t_M t_M_ok n_M hown hK hw f1_mo rfl 28 (by decide) (z_in k_799 rfl) (fun _ h9 => h9) rfl (by decide +kernel) rfl rfl (Nat.le_of_ble_eq_true rfl) d_M_write_7 (fun H locs hw => ?_)
  obtain ⟨h2, hh2⟩ : ∃ x9, z_put h1 mo (20, 0) (.inr (11, mF ma 0 (nI T.length) siz (nI S.1) (nI (cc S)) ffl fcl (nI R.1) (nI (tbC R.2 R.1)) 0 at9 il)) = x9 := ⟨_, rfl⟩
  have hw : z_S g A s.heap h2 H locs := by rw [← hh2]; exact hw
  have f2_mo : h2 mo = some ((20, 0), .inr (11, mF ma 0 (nI T.length) siz (nI S.1) (nI (cc S)) ffl fcl (nI R.1) (nI (tbC R.2 R.1)) 0 at9 il)) := by rw [← hh2]; exact z_put_eq
  have f2_ma_18 : h2 (ma 18) = some ((35, 0), .inl (g.2.1 1, 160000, .inl fou)) := by rw [← hh2]; exact z_keep f1_mo f1_ma_18 (z_t1 (by decide))
  have kk2 : z_K (fun y => y = 20 ∨ y = 35) h h2 := kk1.tr (by rw [← hh2]; exact z_K.put f1_mo (by first | decide | simp | omega))
  have hO0 : MOu g h2 ma [] := ⟨fou, f2_ma_18, Nat.zero_le _, fun k hk => absurd hk (Nat.not_lt_zero _)⟩
  refine lv_aload_n hx hb d_M_write_10 rfl (lv_at hl 0 rfl) ?_
  refine z_callV (n := 0) (As := []) (rest := []) ⟨hx, hb, hml, hown, hts⟩ (m_whole l g h2 f2_mo (hSc.k kk2 (by omega) (by omega) (by omega)) (hNd.k kk2 (by omega) (by omega) (by omega)) hs8 hR2 hR1 hpa hfo) (z_in k_1057 rfl) (z_in k_7 rfl) (z_in k_1054 rfl) (z_in k_1056 rfl) (z_in ks_51 rfl) (by decide +kernel) ⟨by first | exact Nat.le_of_ble_eq_true rfl | (dsimp only; omega) | omega, by first | exact Nat.le_of_ble_eq_true rfl | (dsimp only; omega) | omega⟩ hK hE hw hA rfl f2_mo rfl hl.1 (Nat.le_of_ble_eq_true rfl) d_M_write_11 ⟨by first | exact Nat.le_of_ble_eq_true rfl | (dsimp only; omega) | omega, by first | exact Nat.le_of_ble_eq_true rfl | (dsimp only; omega) | omega⟩ rfl (fun r9 h9 H locs hp hw => ?_)
  obtain ⟨r8, h8⟩ := hp
  subst r8
  subst h8
  refine W.eq (g2 := F0 m 14 ls [.int (zb (whM S R))]) rfl ?_
  refine lv_if_ne (tgt := 19) hx hb d_M_write_14 (by decide) (fun c_14 => ?_) (fun c_14 => ?_)
  · -- 14: True
    have c_14 : (whM S R) = true := zb_t c_14
    refine lv_aload_n hx hb d_M_write_19 rfl (lv_at hl 0 rfl) ?_
    refine lv_iconst (v := 0) hx hb d_M_write_20 (by decide) ?_
    refine z_callV (n := 1) (As := [.int 0]) (rest := []) ⟨hx, hb, hml, hown, hts⟩ (m_putGroup l g hs8 hR2 hR1 hpa hB htb9 hdp hfo hg h0 hbo hby 17 0 hR1 (Or.inl rfl) rfl h2 [] f2_mo (hSc.k kk2 (by omega) (by omega) (by omega)) (hNd.k kk2 (by omega) (by omega) (by omega)) hO0 (by rw [heq]; simpa using hwl)) (z_in k_1065 rfl) (z_in k_7 rfl) (z_in k_1062 rfl) (z_in k_1064 rfl) (z_in ks_52 rfl) (by decide +kernel) ⟨by first | exact Nat.le_of_ble_eq_true rfl | (dsimp only; omega) | omega, by first | exact Nat.le_of_ble_eq_true rfl | (dsimp only; omega) | omega⟩ hK hE hw hA rfl f2_mo rfl hl.1 (Nat.le_of_ble_eq_true rfl) d_M_write_21 ⟨by first | exact Nat.le_of_ble_eq_true rfl | (dsimp only; omega) | omega, by first | exact Nat.le_of_ble_eq_true rfl | (dsimp only; omega) | omega⟩ rfl (fun r9 h9 H locs hp hw => ?_)
    obtain ⟨r8, m8, o8, k8⟩ := hp
    subst r8
    obtain ⟨h3, e7⟩ : ∃ x9, x9 = h9 := ⟨_, rfl⟩
    subst e7
    rw [List.nil_append, heq] at m8 o8
    have kk3 : z_K (fun y => y = 20 ∨ y = 35) h h3 := kk2.tr (k8.mono (fun y z => by omega))
    refine W.eq (g2 := F0 m 24 ls []) rfl ?_
    refine lv_aload_n hx hb d_M_write_24 rfl (lv_at hl 0 rfl) ?_
    refine z_get hx hb hts (z_lay i_M) hown hK hw m8 rfl 28 (by decide) (z_in k_799 rfl) (fun _ h9 => h9) rfl d_M_write_25 ?_
    exact z_iret hx hb hr hlocks hw (by have e9 : oWrite S R = (nI (wrD S R 17 0).2.length, (wrD S R 17 0).2) := (by unfold oWrite; rw [← whM_is hs8 hR2 hpa hfo ho hg hgt, c_14]; rfl); refine ⟨by rw [e9], ?_, kk3.mono (fun y z => by unfold KMr; omega)⟩; rw [e9]; exact ⟨ma, _, _, _, _, _, _, m8, hTp.k kk3 (by omega), hTx.k kk3 (by omega), ⟨_, _, _, hSc.k kk3 (by omega) (by omega) (by omega)⟩, hSf.k kk3 (by omega) (by omega) (by omega), ⟨_, _, _, _, _, _, hNd.k kk3 (by omega) (by omega) (by omega)⟩, hOl.k kk3 (by omega) (by omega) (by omega), o8⟩) (by decide) (by decide) d_M_write_28
  · -- 14: False
    have c_14 : (whM S R) = false := zb_f c_14
    refine lv_iconst (v := (-1)) hx hb d_M_write_17 (by decide) ?_
    exact z_iret hx hb hr hlocks hw (by have e9 : oWrite S R = (-1, []) := (by unfold oWrite; rw [← whM_is hs8 hR2 hpa hfo ho hg hgt, c_14]; rfl); refine ⟨by rw [e9], ?_, kk2.mono (fun y z => by unfold KMr; omega)⟩; rw [e9]; exact ⟨ma, _, _, _, _, _, _, f2_mo, hTp.k kk2 (by omega), hTx.k kk2 (by omega), ⟨_, _, _, hSc.k kk2 (by omega) (by omega) (by omega)⟩, hSf.k kk2 (by omega) (by omega) (by omega), ⟨_, _, _, _, _, _, hNd.k kk2 (by omega) (by omega) (by omega)⟩, hOl.k kk2 (by omega) (by omega) (by omega), hO0⟩) (by decide) (by decide) d_M_write_18

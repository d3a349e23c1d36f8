/-- between two calls of the law: both sides hold the same; what has been spent -/
def LwI (g : z_G) (s : State) (h : z_H) (xo mo : Nat) (H : Heap) (locs : List Loc) (cells slots k : Nat) : Prop :=
  ∃ T S R O j dp, XAt g h xo T S R O j ∧ MAt g h mo T S R O ∧ WS S dp ∧ WR S R ∧ (cells + T.length ≤ 100 + 300 * k + jf j O.length ∧ slots + 5 * T.length ≤ 260000 + 3700 * k + slj j O.length) ∧ z_S g (fun q : Nat => s.heap.size ≤ q) s.heap h H locs
theorem slj_le {j : Nat} (m : Nat) (hj : j ≤ 8) : slj j m ≤ 524288 := by
  have h1 := (jf_le m hj).2
  have h2 : 2 ^ jf j m ≤ 2 ^ 8 := Nat.pow_le_pow_right (by decide) h1
  unfold slj
  omega

set_option maxHeartbeats 4000000 in
set_option maxRecDepth 100000 in
theorem lb_feed {p : Program} {l : Launch} {e : Env} {s : State} {m : MethodId} {below : List Frame} {meth : Method} {c : Code} {b L : Nat} {xs : Nat → Int32} {g : z_G} (C0 : lw_At p s m meth c b L xs) (hL : L ≤ 3072) (hK : va_K g.1 cls (ztys g) s) (hE : z_E g (fun q : Nat => s.heap.size ≤ q) s s.heap) {i : Nat} (hi : i + 6 ≤ L) {k : Nat} (hk : k < 512) {h : z_H} {xo mo : Nat} {H : Heap} {locs : List Loc} {cells slots : Nat} (I : LwI g s h xo mo H locs cells slots k) {ls : Array Slot} (hl : lv_has ls 4 [(0, .ref b), (1, .ref xo), (2, .ref mo), (3, .int (nI i))]) (kk : ∀ (h1 : z_H) (H1 : Heap) (locs1 : List Loc) (cells1 slots1 : Nat), LwI g s h1 xo mo H1 locs1 cells1 slots1 (k + 1) → W p l e room_1 s m #[Value.ref b] below meth c H1 locs1 cells1 slots1 (lw_Z below #[Value.ref b] s) (F0 m 653 ls [])) : W p l e room_1 s m #[Value.ref b] below meth c H locs cells slots (lw_Z below #[Value.ref b] s) (F0 m 120 ls []) := by
  obtain ⟨hx, hb, hr, hml, hown, hts0, hXs, hbl, hlocks, hgv⟩ := C0
  have hts : ∀ w ∈ z_tbl, w.before #[Value.ref b] s = true := fun w hw => hts0 w (List.mem_filter.mp hw).1
  have hA : ∀ q : Nat, s.heap.size ≤ q → (fun q : Nat => s.heap.size ≤ q) q := fun _ h => h
  have hbA : ¬ (fun q : Nat => s.heap.size ≤ q) b := Nat.not_le.mpr hbl
  obtain ⟨T, S, R, O, j, dp, hX, hM, hS, hR, ⟨bc, bs⟩, hw⟩ := I
  refine lv_aload_n hx hb d_L_law_120 rfl (lv_at hl 1 rfl) ?_
  refine lv_aload_n hx hb d_L_law_121 rfl (lv_at hl 0 rfl) ?_
  refine lv_iload_n hx hb d_L_law_122 rfl (lv_at hl 3 rfl) ?_
  refine lv_iconst (v := 1) hx hb d_L_law_123 (by decide) ?_
  refine lv_iadd hx hb d_L_law_124 ?_
  refine z_topi (y := nI (i + 1)) (nI_add i 1) ?_
  refine va_sld hx hb hXs hbl hbA hw.2.2 (vp_in_nI (by omega) (by omega)) d_L_law_125 ?_
  refine lv_aload_n hx hb d_L_law_126 rfl (lv_at hl 0 rfl) ?_
  refine lv_iload_n hx hb d_L_law_127 rfl (lv_at hl 3 rfl) ?_
  refine lv_iconst (v := 2) hx hb d_L_law_128 (by decide) ?_
  refine lv_iadd hx hb d_L_law_129 ?_
  refine z_topi (y := nI (i + 2)) (nI_add i 2) ?_
  refine va_sld hx hb hXs hbl hbA hw.2.2 (vp_in_nI (by omega) (by omega)) d_L_law_130 ?_
  refine lv_aload_n hx hb d_L_law_131 rfl (lv_at hl 0 rfl) ?_
  refine lv_iload_n hx hb d_L_law_132 rfl (lv_at hl 3 rfl) ?_
  refine lv_iconst (v := 3) hx hb d_L_law_133 (by decide) ?_
  refine lv_iadd hx hb d_L_law_134 ?_
  refine z_topi (y := nI (i + 3)) (nI_add i 3) ?_
  refine va_sld hx hb hXs hbl hbA hw.2.2 (vp_in_nI (by omega) (by omega)) d_L_law_135 ?_
  refine lv_aload_n hx hb d_L_law_136 rfl (lv_at hl 0 rfl) ?_
  refine lv_iload_n hx hb d_L_law_137 rfl (lv_at hl 3 rfl) ?_
  refine lv_iconst (v := 4) hx hb d_L_law_138 (by decide) ?_
  refine lv_iadd hx hb d_L_law_139 ?_
  refine z_topi (y := nI (i + 4)) (nI_add i 4) ?_
  refine va_sld hx hb hXs hbl hbA hw.2.2 (vp_in_nI (by omega) (by omega)) d_L_law_140 ?_
  refine lv_aload_n hx hb d_L_law_141 rfl (lv_at hl 0 rfl) ?_
  refine lv_iload_n hx hb d_L_law_142 rfl (lv_at hl 3 rfl) ?_
  refine lv_iconst (v := 5) hx hb d_L_law_143 (by decide) ?_
  refine lv_iadd hx hb d_L_law_144 ?_
  refine z_topi (y := nI (i + 5)) (nI_add i 5) ?_
  refine va_sld hx hb hXs hbl hbA hw.2.2 (vp_in_nI (by omega) (by omega)) d_L_law_145 ?_
  obtain ⟨frx, lox, frm, lom, mc, ms, v, T1, S1, R1, O1, j1, dp1, ⟨f1, f2, f3, f4, f5⟩, w1, w2, ⟨b1, b2⟩, cX, cM⟩ := pr_feed (mo := mo) (a := xs (nI (i + 1)).toNatClampNeg) (b9 := xs (nI (i + 2)).toNatClampNeg) (c := xs (nI (i + 3)).toNatClampNeg) (d := xs (nI (i + 4)).toNatClampNeg) (e := xs (nI (i + 5)).toNatClampNeg) l hX hS hR
  have jl := (jf_le O1.length f5).2
  have sl := slj_le O1.length f5
  obtain ⟨fx, hxo⟩ := hX.cell
  refine z_callV (n := 5) (As := [.int (xs (nI (i + 1)).toNatClampNeg), .int (xs (nI (i + 2)).toNatClampNeg), .int (xs (nI (i + 3)).toNatClampNeg), .int (xs (nI (i + 4)).toNatClampNeg), .int (xs (nI (i + 5)).toNatClampNeg)]) (rest := []) ⟨hx, hb, hml, hown, hts⟩ cX (z_in k_165 rfl) (z_in k_1 rfl) (z_in k_162 rfl) (z_in k_163 rfl) (z_in k_164 rfl) (by decide +kernel) ⟨by show frx + 1 ≤ 2048; omega, by show 8 + (6 + 11) + lox ≤ 84000; omega⟩ hK hE hw hA rfl hxo rfl hl.1 (Nat.le_of_ble_eq_true rfl) d_L_law_146 ⟨by show cells + mc ≤ 600000; omega, by show slots + ms ≤ 7302250; omega⟩ rfl (fun r9 h9 H locs hp hw => ?_)
  obtain ⟨r8, hX1, k1⟩ := hp
  subst r8
  refine W.eq (g2 := F0 m 149 ls [.int v]) rfl ?_
  refine lv_aload_n hx hb d_L_law_149 rfl (lv_at hl 2 rfl) ?_
  refine lv_aload_n hx hb d_L_law_150 rfl (lv_at hl 0 rfl) ?_
  refine lv_iload_n hx hb d_L_law_151 rfl (lv_at hl 3 rfl) ?_
  refine lv_iconst (v := 1) hx hb d_L_law_152 (by decide) ?_
  refine lv_iadd hx hb d_L_law_153 ?_
  refine z_topi (y := nI (i + 1)) (nI_add i 1) ?_
  refine va_sld hx hb hXs hbl hbA hw.2.2 (vp_in_nI (by omega) (by omega)) d_L_law_154 ?_
  refine lv_aload_n hx hb d_L_law_155 rfl (lv_at hl 0 rfl) ?_
  refine lv_iload_n hx hb d_L_law_156 rfl (lv_at hl 3 rfl) ?_
  refine lv_iconst (v := 2) hx hb d_L_law_157 (by decide) ?_
  refine lv_iadd hx hb d_L_law_158 ?_
  refine z_topi (y := nI (i + 2)) (nI_add i 2) ?_
  refine va_sld hx hb hXs hbl hbA hw.2.2 (vp_in_nI (by omega) (by omega)) d_L_law_159 ?_
  refine lv_aload_n hx hb d_L_law_160 rfl (lv_at hl 0 rfl) ?_
  refine lv_iload_n hx hb d_L_law_161 rfl (lv_at hl 3 rfl) ?_
  refine lv_iconst (v := 3) hx hb d_L_law_162 (by decide) ?_
  refine lv_iadd hx hb d_L_law_163 ?_
  refine z_topi (y := nI (i + 3)) (nI_add i 3) ?_
  refine va_sld hx hb hXs hbl hbA hw.2.2 (vp_in_nI (by omega) (by omega)) d_L_law_164 ?_
  refine lv_aload_n hx hb d_L_law_165 rfl (lv_at hl 0 rfl) ?_
  refine lv_iload_n hx hb d_L_law_166 rfl (lv_at hl 3 rfl) ?_
  refine lv_iconst (v := 4) hx hb d_L_law_167 (by decide) ?_
  refine lv_iadd hx hb d_L_law_168 ?_
  refine z_topi (y := nI (i + 4)) (nI_add i 4) ?_
  refine va_sld hx hb hXs hbl hbA hw.2.2 (vp_in_nI (by omega) (by omega)) d_L_law_169 ?_
  refine lv_aload_n hx hb d_L_law_170 rfl (lv_at hl 0 rfl) ?_
  refine lv_iload_n hx hb d_L_law_171 rfl (lv_at hl 3 rfl) ?_
  refine lv_iconst (v := 5) hx hb d_L_law_172 (by decide) ?_
  refine lv_iadd hx hb d_L_law_173 ?_
  refine z_topi (y := nI (i + 5)) (nI_add i 5) ?_
  refine va_sld hx hb hXs hbl hbA hw.2.2 (vp_in_nI (by omega) (by omega)) d_L_law_174 ?_
  have hM1 := hM.k k1
  obtain ⟨fm, hmo⟩ := hM1.cell
  have cM := cM _ hM1
  refine z_callV (n := 5) (As := [.int (xs (nI (i + 1)).toNatClampNeg), .int (xs (nI (i + 2)).toNatClampNeg), .int (xs (nI (i + 3)).toNatClampNeg), .int (xs (nI (i + 4)).toNatClampNeg), .int (xs (nI (i + 5)).toNatClampNeg)]) (rest := [.int v]) ⟨hx, hb, hml, hown, hts⟩ cM (z_in k_869 rfl) (z_in k_7 rfl) (z_in k_866 rfl) (z_in k_867 rfl) (z_in k_868 rfl) (by decide +kernel) ⟨by show frm + 1 ≤ 2048; omega, by show 8 + (8 + 11) + lom ≤ 84000; omega⟩ hK hE hw hA rfl hmo rfl hl.1 (Nat.le_of_ble_eq_true rfl) d_L_law_175 ⟨by show cells + mc + 0 ≤ 600000; omega, by show slots + ms + 0 ≤ 7302250; omega⟩ rfl (fun r9 h9 H locs hp hw => ?_)
  obtain ⟨r8, hM2, k2⟩ := hp
  subst r8
  refine W.eq (g2 := F0 m 178 ls [.int v, .int v]) rfl ?_
  refine lv_icmp_eq (tgt := 653) hx hb d_L_law_178 (by decide) (fun c_178 => ?_) (fun c_178 => ?_)
  · -- 178: True
    exact kk _ _ _ _ _ ⟨T1, S1, R1, O1, j1, dp1, hX1.k k2, hM2, w1, w2, ⟨by omega, by omega⟩, hw⟩
  · -- 178: False
    exact absurd rfl c_178

set_option maxHeartbeats 4000000 in
set_option maxRecDepth 100000 in
theorem lb_schema {p : Program} {l : Launch} {e : Env} {s : State} {m : MethodId} {below : List Frame} {meth : Method} {c : Code} {b L : Nat} {xs : Nat → Int32} {g : z_G} (C0 : lw_At p s m meth c b L xs) (hL : L ≤ 3072) (hK : va_K g.1 cls (ztys g) s) (hE : z_E g (fun q : Nat => s.heap.size ≤ q) s s.heap) {i : Nat} (hi : i + 6 ≤ L) {k : Nat} (hk : k < 512) {h : z_H} {xo mo : Nat} {H : Heap} {locs : List Loc} {cells slots : Nat} (I : LwI g s h xo mo H locs cells slots k) {ls : Array Slot} (hl : lv_has ls 4 [(0, .ref b), (1, .ref xo), (2, .ref mo), (3, .int (nI i))]) (kk : ∀ (h1 : z_H) (H1 : Heap) (locs1 : List Loc) (cells1 slots1 : Nat), LwI g s h1 xo mo H1 locs1 cells1 slots1 (k + 1) → W p l e room_1 s m #[Value.ref b] below meth c H1 locs1 cells1 slots1 (lw_Z below #[Value.ref b] s) (F0 m 653 ls [])) : W p l e room_1 s m #[Value.ref b] below meth c H locs cells slots (lw_Z below #[Value.ref b] s) (F0 m 183 ls []) := by
  obtain ⟨hx, hb, hr, hml, hown, hts0, hXs, hbl, hlocks, hgv⟩ := C0
  have hts : ∀ w ∈ z_tbl, w.before #[Value.ref b] s = true := fun w hw => hts0 w (List.mem_filter.mp hw).1
  have hA : ∀ q : Nat, s.heap.size ≤ q → (fun q : Nat => s.heap.size ≤ q) q := fun _ h => h
  have hbA : ¬ (fun q : Nat => s.heap.size ≤ q) b := Nat.not_le.mpr hbl
  obtain ⟨T, S, R, O, j, dp, hX, hM, hS, hR, ⟨bc, bs⟩, hw⟩ := I
  refine lv_aload_n hx hb d_L_law_183 rfl (lv_at hl 1 rfl) ?_
  refine lv_aload_n hx hb d_L_law_184 rfl (lv_at hl 0 rfl) ?_
  refine lv_iload_n hx hb d_L_law_185 rfl (lv_at hl 3 rfl) ?_
  refine lv_iconst (v := 1) hx hb d_L_law_186 (by decide) ?_
  refine lv_iadd hx hb d_L_law_187 ?_
  refine z_topi (y := nI (i + 1)) (nI_add i 1) ?_
  refine va_sld hx hb hXs hbl hbA hw.2.2 (vp_in_nI (by omega) (by omega)) d_L_law_188 ?_
  obtain ⟨frx, lox, frm, lom, mc, ms, v, T1, S1, R1, O1, j1, dp1, ⟨f1, f2, f3, f4, f5⟩, w1, w2, ⟨b1, b2⟩, cX, cM⟩ := pr_schema (mo := mo) (n := xs (nI (i + 1)).toNatClampNeg) l hX hS hR
  have jl := (jf_le O1.length f5).2
  have sl := slj_le O1.length f5
  obtain ⟨fx, hxo⟩ := hX.cell
  refine z_callV (n := 1) (As := [.int (xs (nI (i + 1)).toNatClampNeg)]) (rest := []) ⟨hx, hb, hml, hown, hts⟩ cX (z_in k_177 rfl) (z_in k_1 rfl) (z_in k_174 rfl) (z_in k_175 rfl) (z_in k_176 rfl) (by decide +kernel) ⟨by show frx + 1 ≤ 2048; omega, by show 8 + (4 + 11) + lox ≤ 84000; omega⟩ hK hE hw hA rfl hxo rfl hl.1 (Nat.le_of_ble_eq_true rfl) d_L_law_189 ⟨by show cells + mc ≤ 600000; omega, by show slots + ms ≤ 7302250; omega⟩ rfl (fun r9 h9 H locs hp hw => ?_)
  obtain ⟨r8, hX1, k1⟩ := hp
  subst r8
  refine W.eq (g2 := F0 m 192 ls [.int v]) rfl ?_
  refine lv_aload_n hx hb d_L_law_192 rfl (lv_at hl 2 rfl) ?_
  refine lv_aload_n hx hb d_L_law_193 rfl (lv_at hl 0 rfl) ?_
  refine lv_iload_n hx hb d_L_law_194 rfl (lv_at hl 3 rfl) ?_
  refine lv_iconst (v := 1) hx hb d_L_law_195 (by decide) ?_
  refine lv_iadd hx hb d_L_law_196 ?_
  refine z_topi (y := nI (i + 1)) (nI_add i 1) ?_
  refine va_sld hx hb hXs hbl hbA hw.2.2 (vp_in_nI (by omega) (by omega)) d_L_law_197 ?_
  have hM1 := hM.k k1
  obtain ⟨fm, hmo⟩ := hM1.cell
  have cM := cM _ hM1
  refine z_callV (n := 1) (As := [.int (xs (nI (i + 1)).toNatClampNeg)]) (rest := [.int v]) ⟨hx, hb, hml, hown, hts⟩ cM (z_in k_873 rfl) (z_in k_7 rfl) (z_in k_870 rfl) (z_in k_871 rfl) (z_in k_872 rfl) (by decide +kernel) ⟨by show frm + 1 ≤ 2048; omega, by show 8 + (4 + 11) + lom ≤ 84000; omega⟩ hK hE hw hA rfl hmo rfl hl.1 (Nat.le_of_ble_eq_true rfl) d_L_law_198 ⟨by show cells + mc + 0 ≤ 600000; omega, by show slots + ms + 0 ≤ 7302250; omega⟩ rfl (fun r9 h9 H locs hp hw => ?_)
  obtain ⟨r8, hM2, k2⟩ := hp
  subst r8
  refine W.eq (g2 := F0 m 201 ls [.int v, .int v]) rfl ?_
  refine lv_icmp_eq (tgt := 653) hx hb d_L_law_201 (by decide) (fun c_201 => ?_) (fun c_201 => ?_)
  · -- 201: True
    exact kk _ _ _ _ _ ⟨T1, S1, R1, O1, j1, dp1, hX1.k k2, hM2, w1, w2, ⟨by omega, by omega⟩, hw⟩
  · -- 201: False
    exact absurd rfl c_201

set_option maxHeartbeats 4000000 in
set_option maxRecDepth 100000 in
theorem lb_count {p : Program} {l : Launch} {e : Env} {s : State} {m : MethodId} {below : List Frame} {meth : Method} {c : Code} {b L : Nat} {xs : Nat → Int32} {g : z_G} (C0 : lw_At p s m meth c b L xs) (hL : L ≤ 3072) (hK : va_K g.1 cls (ztys g) s) (hE : z_E g (fun q : Nat => s.heap.size ≤ q) s s.heap) {i : Nat} (hi : i + 6 ≤ L) {k : Nat} (hk : k < 512) {h : z_H} {xo mo : Nat} {H : Heap} {locs : List Loc} {cells slots : Nat} (I : LwI g s h xo mo H locs cells slots k) {ls : Array Slot} (hl : lv_has ls 4 [(0, .ref b), (1, .ref xo), (2, .ref mo), (3, .int (nI i))]) (kk : ∀ (h1 : z_H) (H1 : Heap) (locs1 : List Loc) (cells1 slots1 : Nat), LwI g s h1 xo mo H1 locs1 cells1 slots1 (k + 1) → W p l e room_1 s m #[Value.ref b] below meth c H1 locs1 cells1 slots1 (lw_Z below #[Value.ref b] s) (F0 m 653 ls [])) : W p l e room_1 s m #[Value.ref b] below meth c H locs cells slots (lw_Z below #[Value.ref b] s) (F0 m 206 ls []) := by
  obtain ⟨hx, hb, hr, hml, hown, hts0, hXs, hbl, hlocks, hgv⟩ := C0
  have hts : ∀ w ∈ z_tbl, w.before #[Value.ref b] s = true := fun w hw => hts0 w (List.mem_filter.mp hw).1
  have hA : ∀ q : Nat, s.heap.size ≤ q → (fun q : Nat => s.heap.size ≤ q) q := fun _ h => h
  have hbA : ¬ (fun q : Nat => s.heap.size ≤ q) b := Nat.not_le.mpr hbl
  obtain ⟨T, S, R, O, j, dp, hX, hM, hS, hR, ⟨bc, bs⟩, hw⟩ := I
  refine lv_aload_n hx hb d_L_law_206 rfl (lv_at hl 1 rfl) ?_
  refine lv_aload_n hx hb d_L_law_207 rfl (lv_at hl 0 rfl) ?_
  refine lv_iload_n hx hb d_L_law_208 rfl (lv_at hl 3 rfl) ?_
  refine lv_iconst (v := 1) hx hb d_L_law_209 (by decide) ?_
  refine lv_iadd hx hb d_L_law_210 ?_
  refine z_topi (y := nI (i + 1)) (nI_add i 1) ?_
  refine va_sld hx hb hXs hbl hbA hw.2.2 (vp_in_nI (by omega) (by omega)) d_L_law_211 ?_
  obtain ⟨frx, lox, frm, lom, mc, ms, v, T1, S1, R1, O1, j1, dp1, ⟨f1, f2, f3, f4, f5⟩, w1, w2, ⟨b1, b2⟩, cX, cM⟩ := pr_count (mo := mo) (k := xs (nI (i + 1)).toNatClampNeg) l hX hS hR
  have jl := (jf_le O1.length f5).2
  have sl := slj_le O1.length f5
  obtain ⟨fx, hxo⟩ := hX.cell
  refine z_callV (n := 1) (As := [.int (xs (nI (i + 1)).toNatClampNeg)]) (rest := []) ⟨hx, hb, hml, hown, hts⟩ cX (z_in k_462 rfl) (z_in k_1 rfl) (z_in k_459 rfl) (z_in k_460 rfl) (z_in k_461 rfl) (by decide +kernel) ⟨by show frx + 1 ≤ 2048; omega, by show 8 + (2 + 11) + lox ≤ 84000; omega⟩ hK hE hw hA rfl hxo rfl hl.1 (Nat.le_of_ble_eq_true rfl) d_L_law_212 ⟨by show cells + mc ≤ 600000; omega, by show slots + ms ≤ 7302250; omega⟩ rfl (fun r9 h9 H locs hp hw => ?_)
  obtain ⟨r8, hX1, k1⟩ := hp
  subst r8
  refine W.eq (g2 := F0 m 215 ls [.int v]) rfl ?_
  refine lv_aload_n hx hb d_L_law_215 rfl (lv_at hl 2 rfl) ?_
  refine lv_aload_n hx hb d_L_law_216 rfl (lv_at hl 0 rfl) ?_
  refine lv_iload_n hx hb d_L_law_217 rfl (lv_at hl 3 rfl) ?_
  refine lv_iconst (v := 1) hx hb d_L_law_218 (by decide) ?_
  refine lv_iadd hx hb d_L_law_219 ?_
  refine z_topi (y := nI (i + 1)) (nI_add i 1) ?_
  refine va_sld hx hb hXs hbl hbA hw.2.2 (vp_in_nI (by omega) (by omega)) d_L_law_220 ?_
  have hM1 := hM.k k1
  obtain ⟨fm, hmo⟩ := hM1.cell
  have cM := cM _ hM1
  refine z_callV (n := 1) (As := [.int (xs (nI (i + 1)).toNatClampNeg)]) (rest := [.int v]) ⟨hx, hb, hml, hown, hts⟩ cM (z_in k_935 rfl) (z_in k_7 rfl) (z_in k_932 rfl) (z_in k_933 rfl) (z_in k_934 rfl) (by decide +kernel) ⟨by show frm + 1 ≤ 2048; omega, by show 8 + (2 + 11) + lom ≤ 84000; omega⟩ hK hE hw hA rfl hmo rfl hl.1 (Nat.le_of_ble_eq_true rfl) d_L_law_221 ⟨by show cells + mc + 0 ≤ 600000; omega, by show slots + ms + 0 ≤ 7302250; omega⟩ rfl (fun r9 h9 H locs hp hw => ?_)
  obtain ⟨r8, hM2, k2⟩ := hp
  subst r8
  refine W.eq (g2 := F0 m 224 ls [.int v, .int v]) rfl ?_
  refine lv_icmp_eq (tgt := 653) hx hb d_L_law_224 (by decide) (fun c_224 => ?_) (fun c_224 => ?_)
  · -- 224: True
    exact kk _ _ _ _ _ ⟨T1, S1, R1, O1, j1, dp1, hX1.k k2, hM2, w1, w2, ⟨by omega, by omega⟩, hw⟩
  · -- 224: False
    exact absurd rfl c_224

set_option maxHeartbeats 4000000 in
set_option maxRecDepth 100000 in
theorem lb_field {p : Program} {l : Launch} {e : Env} {s : State} {m : MethodId} {below : List Frame} {meth : Method} {c : Code} {b L : Nat} {xs : Nat → Int32} {g : z_G} (C0 : lw_At p s m meth c b L xs) (hL : L ≤ 3072) (hK : va_K g.1 cls (ztys g) s) (hE : z_E g (fun q : Nat => s.heap.size ≤ q) s s.heap) {i : Nat} (hi : i + 6 ≤ L) {k : Nat} (hk : k < 512) {h : z_H} {xo mo : Nat} {H : Heap} {locs : List Loc} {cells slots : Nat} (I : LwI g s h xo mo H locs cells slots k) {ls : Array Slot} (hl : lv_has ls 4 [(0, .ref b), (1, .ref xo), (2, .ref mo), (3, .int (nI i))]) (kk : ∀ (h1 : z_H) (H1 : Heap) (locs1 : List Loc) (cells1 slots1 : Nat), LwI g s h1 xo mo H1 locs1 cells1 slots1 (k + 1) → W p l e room_1 s m #[Value.ref b] below meth c H1 locs1 cells1 slots1 (lw_Z below #[Value.ref b] s) (F0 m 653 ls [])) : W p l e room_1 s m #[Value.ref b] below meth c H locs cells slots (lw_Z below #[Value.ref b] s) (F0 m 229 ls []) := by
  obtain ⟨hx, hb, hr, hml, hown, hts0, hXs, hbl, hlocks, hgv⟩ := C0
  have hts : ∀ w ∈ z_tbl, w.before #[Value.ref b] s = true := fun w hw => hts0 w (List.mem_filter.mp hw).1
  have hA : ∀ q : Nat, s.heap.size ≤ q → (fun q : Nat => s.heap.size ≤ q) q := fun _ h => h
  have hbA : ¬ (fun q : Nat => s.heap.size ≤ q) b := Nat.not_le.mpr hbl
  obtain ⟨T, S, R, O, j, dp, hX, hM, hS, hR, ⟨bc, bs⟩, hw⟩ := I
  refine lv_aload_n hx hb d_L_law_229 rfl (lv_at hl 1 rfl) ?_
  refine lv_aload_n hx hb d_L_law_230 rfl (lv_at hl 0 rfl) ?_
  refine lv_iload_n hx hb d_L_law_231 rfl (lv_at hl 3 rfl) ?_
  refine lv_iconst (v := 1) hx hb d_L_law_232 (by decide) ?_
  refine lv_iadd hx hb d_L_law_233 ?_
  refine z_topi (y := nI (i + 1)) (nI_add i 1) ?_
  refine va_sld hx hb hXs hbl hbA hw.2.2 (vp_in_nI (by omega) (by omega)) d_L_law_234 ?_
  refine lv_aload_n hx hb d_L_law_235 rfl (lv_at hl 0 rfl) ?_
  refine lv_iload_n hx hb d_L_law_236 rfl (lv_at hl 3 rfl) ?_
  refine lv_iconst (v := 2) hx hb d_L_law_237 (by decide) ?_
  refine lv_iadd hx hb d_L_law_238 ?_
  refine z_topi (y := nI (i + 2)) (nI_add i 2) ?_
  refine va_sld hx hb hXs hbl hbA hw.2.2 (vp_in_nI (by omega) (by omega)) d_L_law_239 ?_
  obtain ⟨frx, lox, frm, lom, mc, ms, v, T1, S1, R1, O1, j1, dp1, ⟨f1, f2, f3, f4, f5⟩, w1, w2, ⟨b1, b2⟩, cX, cM⟩ := pr_field (mo := mo) (a := xs (nI (i + 1)).toNatClampNeg) (k := xs (nI (i + 2)).toNatClampNeg) l hX hS hR
  have jl := (jf_le O1.length f5).2
  have sl := slj_le O1.length f5
  obtain ⟨fx, hxo⟩ := hX.cell
  refine z_callV (n := 2) (As := [.int (xs (nI (i + 1)).toNatClampNeg), .int (xs (nI (i + 2)).toNatClampNeg)]) (rest := []) ⟨hx, hb, hml, hown, hts⟩ cX (z_in k_466 rfl) (z_in k_1 rfl) (z_in k_463 rfl) (z_in k_464 rfl) (z_in k_465 rfl) (by decide +kernel) ⟨by show frx + 1 ≤ 2048; omega, by show 8 + (4 + 11) + lox ≤ 84000; omega⟩ hK hE hw hA rfl hxo rfl hl.1 (Nat.le_of_ble_eq_true rfl) d_L_law_240 ⟨by show cells + mc ≤ 600000; omega, by show slots + ms ≤ 7302250; omega⟩ rfl (fun r9 h9 H locs hp hw => ?_)
  obtain ⟨r8, hX1, k1⟩ := hp
  subst r8
  refine W.eq (g2 := F0 m 243 ls [.int v]) rfl ?_
  refine lv_aload_n hx hb d_L_law_243 rfl (lv_at hl 2 rfl) ?_
  refine lv_aload_n hx hb d_L_law_244 rfl (lv_at hl 0 rfl) ?_
  refine lv_iload_n hx hb d_L_law_245 rfl (lv_at hl 3 rfl) ?_
  refine lv_iconst (v := 1) hx hb d_L_law_246 (by decide) ?_
  refine lv_iadd hx hb d_L_law_247 ?_
  refine z_topi (y := nI (i + 1)) (nI_add i 1) ?_
  refine va_sld hx hb hXs hbl hbA hw.2.2 (vp_in_nI (by omega) (by omega)) d_L_law_248 ?_
  refine lv_aload_n hx hb d_L_law_249 rfl (lv_at hl 0 rfl) ?_
  refine lv_iload_n hx hb d_L_law_250 rfl (lv_at hl 3 rfl) ?_
  refine lv_iconst (v := 2) hx hb d_L_law_251 (by decide) ?_
  refine lv_iadd hx hb d_L_law_252 ?_
  refine z_topi (y := nI (i + 2)) (nI_add i 2) ?_
  refine va_sld hx hb hXs hbl hbA hw.2.2 (vp_in_nI (by omega) (by omega)) d_L_law_253 ?_
  have hM1 := hM.k k1
  obtain ⟨fm, hmo⟩ := hM1.cell
  have cM := cM _ hM1
  refine z_callV (n := 2) (As := [.int (xs (nI (i + 1)).toNatClampNeg), .int (xs (nI (i + 2)).toNatClampNeg)]) (rest := [.int v]) ⟨hx, hb, hml, hown, hts⟩ cM (z_in k_939 rfl) (z_in k_7 rfl) (z_in k_936 rfl) (z_in k_937 rfl) (z_in k_938 rfl) (by decide +kernel) ⟨by show frm + 1 ≤ 2048; omega, by show 8 + (3 + 11) + lom ≤ 84000; omega⟩ hK hE hw hA rfl hmo rfl hl.1 (Nat.le_of_ble_eq_true rfl) d_L_law_254 ⟨by show cells + mc + 0 ≤ 600000; omega, by show slots + ms + 0 ≤ 7302250; omega⟩ rfl (fun r9 h9 H locs hp hw => ?_)
  obtain ⟨r8, hM2, k2⟩ := hp
  subst r8
  refine W.eq (g2 := F0 m 257 ls [.int v, .int v]) rfl ?_
  refine lv_icmp_eq (tgt := 653) hx hb d_L_law_257 (by decide) (fun c_257 => ?_) (fun c_257 => ?_)
  · -- 257: True
    exact kk _ _ _ _ _ ⟨T1, S1, R1, O1, j1, dp1, hX1.k k2, hM2, w1, w2, ⟨by omega, by omega⟩, hw⟩
  · -- 257: False
    exact absurd rfl c_257

set_option maxHeartbeats 4000000 in
set_option maxRecDepth 100000 in
theorem lb_letter {p : Program} {l : Launch} {e : Env} {s : State} {m : MethodId} {below : List Frame} {meth : Method} {c : Code} {b L : Nat} {xs : Nat → Int32} {g : z_G} (C0 : lw_At p s m meth c b L xs) (hL : L ≤ 3072) (hK : va_K g.1 cls (ztys g) s) (hE : z_E g (fun q : Nat => s.heap.size ≤ q) s s.heap) {i : Nat} (hi : i + 6 ≤ L) {k : Nat} (hk : k < 512) {h : z_H} {xo mo : Nat} {H : Heap} {locs : List Loc} {cells slots : Nat} (I : LwI g s h xo mo H locs cells slots k) {ls : Array Slot} (hl : lv_has ls 4 [(0, .ref b), (1, .ref xo), (2, .ref mo), (3, .int (nI i))]) (kk : ∀ (h1 : z_H) (H1 : Heap) (locs1 : List Loc) (cells1 slots1 : Nat), LwI g s h1 xo mo H1 locs1 cells1 slots1 (k + 1) → W p l e room_1 s m #[Value.ref b] below meth c H1 locs1 cells1 slots1 (lw_Z below #[Value.ref b] s) (F0 m 653 ls [])) : W p l e room_1 s m #[Value.ref b] below meth c H locs cells slots (lw_Z below #[Value.ref b] s) (F0 m 262 ls []) := by
  obtain ⟨hx, hb, hr, hml, hown, hts0, hXs, hbl, hlocks, hgv⟩ := C0
  have hts : ∀ w ∈ z_tbl, w.before #[Value.ref b] s = true := fun w hw => hts0 w (List.mem_filter.mp hw).1
  have hA : ∀ q : Nat, s.heap.size ≤ q → (fun q : Nat => s.heap.size ≤ q) q := fun _ h => h
  have hbA : ¬ (fun q : Nat => s.heap.size ≤ q) b := Nat.not_le.mpr hbl
  obtain ⟨T, S, R, O, j, dp, hX, hM, hS, hR, ⟨bc, bs⟩, hw⟩ := I
  refine lv_aload_n hx hb d_L_law_262 rfl (lv_at hl 1 rfl) ?_
  refine lv_aload_n hx hb d_L_law_263 rfl (lv_at hl 0 rfl) ?_
  refine lv_iload_n hx hb d_L_law_264 rfl (lv_at hl 3 rfl) ?_
  refine lv_iconst (v := 1) hx hb d_L_law_265 (by decide) ?_
  refine lv_iadd hx hb d_L_law_266 ?_
  refine z_topi (y := nI (i + 1)) (nI_add i 1) ?_
  refine va_sld hx hb hXs hbl hbA hw.2.2 (vp_in_nI (by omega) (by omega)) d_L_law_267 ?_
  refine lv_aload_n hx hb d_L_law_268 rfl (lv_at hl 0 rfl) ?_
  refine lv_iload_n hx hb d_L_law_269 rfl (lv_at hl 3 rfl) ?_
  refine lv_iconst (v := 2) hx hb d_L_law_270 (by decide) ?_
  refine lv_iadd hx hb d_L_law_271 ?_
  refine z_topi (y := nI (i + 2)) (nI_add i 2) ?_
  refine va_sld hx hb hXs hbl hbA hw.2.2 (vp_in_nI (by omega) (by omega)) d_L_law_272 ?_
  obtain ⟨frx, lox, frm, lom, mc, ms, v, T1, S1, R1, O1, j1, dp1, ⟨f1, f2, f3, f4, f5⟩, w1, w2, ⟨b1, b2⟩, cX, cM⟩ := pr_letter (mo := mo) (a := xs (nI (i + 1)).toNatClampNeg) (k := xs (nI (i + 2)).toNatClampNeg) l hX hS hR
  have jl := (jf_le O1.length f5).2
  have sl := slj_le O1.length f5
  obtain ⟨fx, hxo⟩ := hX.cell
  refine z_callV (n := 2) (As := [.int (xs (nI (i + 1)).toNatClampNeg), .int (xs (nI (i + 2)).toNatClampNeg)]) (rest := []) ⟨hx, hb, hml, hown, hts⟩ cX (z_in k_475 rfl) (z_in k_1 rfl) (z_in k_472 rfl) (z_in k_473 rfl) (z_in k_474 rfl) (by decide +kernel) ⟨by show frx + 1 ≤ 2048; omega, by show 8 + (4 + 11) + lox ≤ 84000; omega⟩ hK hE hw hA rfl hxo rfl hl.1 (Nat.le_of_ble_eq_true rfl) d_L_law_273 ⟨by show cells + mc ≤ 600000; omega, by show slots + ms ≤ 7302250; omega⟩ rfl (fun r9 h9 H locs hp hw => ?_)
  obtain ⟨r8, hX1, k1⟩ := hp
  subst r8
  refine W.eq (g2 := F0 m 276 ls [.int v]) rfl ?_
  refine lv_aload_n hx hb d_L_law_276 rfl (lv_at hl 2 rfl) ?_
  refine lv_aload_n hx hb d_L_law_277 rfl (lv_at hl 0 rfl) ?_
  refine lv_iload_n hx hb d_L_law_278 rfl (lv_at hl 3 rfl) ?_
  refine lv_iconst (v := 1) hx hb d_L_law_279 (by decide) ?_
  refine lv_iadd hx hb d_L_law_280 ?_
  refine z_topi (y := nI (i + 1)) (nI_add i 1) ?_
  refine va_sld hx hb hXs hbl hbA hw.2.2 (vp_in_nI (by omega) (by omega)) d_L_law_281 ?_
  refine lv_aload_n hx hb d_L_law_282 rfl (lv_at hl 0 rfl) ?_
  refine lv_iload_n hx hb d_L_law_283 rfl (lv_at hl 3 rfl) ?_
  refine lv_iconst (v := 2) hx hb d_L_law_284 (by decide) ?_
  refine lv_iadd hx hb d_L_law_285 ?_
  refine z_topi (y := nI (i + 2)) (nI_add i 2) ?_
  refine va_sld hx hb hXs hbl hbA hw.2.2 (vp_in_nI (by omega) (by omega)) d_L_law_286 ?_
  have hM1 := hM.k k1
  obtain ⟨fm, hmo⟩ := hM1.cell
  have cM := cM _ hM1
  refine z_callV (n := 2) (As := [.int (xs (nI (i + 1)).toNatClampNeg), .int (xs (nI (i + 2)).toNatClampNeg)]) (rest := [.int v]) ⟨hx, hb, hml, hown, hts⟩ cM (z_in k_951 rfl) (z_in k_7 rfl) (z_in k_948 rfl) (z_in k_949 rfl) (z_in k_950 rfl) (by decide +kernel) ⟨by show frm + 1 ≤ 2048; omega, by show 8 + (3 + 11) + lom ≤ 84000; omega⟩ hK hE hw hA rfl hmo rfl hl.1 (Nat.le_of_ble_eq_true rfl) d_L_law_287 ⟨by show cells + mc + 0 ≤ 600000; omega, by show slots + ms + 0 ≤ 7302250; omega⟩ rfl (fun r9 h9 H locs hp hw => ?_)
  obtain ⟨r8, hM2, k2⟩ := hp
  subst r8
  refine W.eq (g2 := F0 m 290 ls [.int v, .int v]) rfl ?_
  refine lv_icmp_eq (tgt := 653) hx hb d_L_law_290 (by decide) (fun c_290 => ?_) (fun c_290 => ?_)
  · -- 290: True
    exact kk _ _ _ _ _ ⟨T1, S1, R1, O1, j1, dp1, hX1.k k2, hM2, w1, w2, ⟨by omega, by omega⟩, hw⟩
  · -- 290: False
    exact absurd rfl c_290

set_option maxHeartbeats 4000000 in
set_option maxRecDepth 100000 in
theorem lb_column {p : Program} {l : Launch} {e : Env} {s : State} {m : MethodId} {below : List Frame} {meth : Method} {c : Code} {b L : Nat} {xs : Nat → Int32} {g : z_G} (C0 : lw_At p s m meth c b L xs) (hL : L ≤ 3072) (hK : va_K g.1 cls (ztys g) s) (hE : z_E g (fun q : Nat => s.heap.size ≤ q) s s.heap) {i : Nat} (hi : i + 6 ≤ L) {k : Nat} (hk : k < 512) {h : z_H} {xo mo : Nat} {H : Heap} {locs : List Loc} {cells slots : Nat} (I : LwI g s h xo mo H locs cells slots k) {ls : Array Slot} (hl : lv_has ls 4 [(0, .ref b), (1, .ref xo), (2, .ref mo), (3, .int (nI i))]) (kk : ∀ (h1 : z_H) (H1 : Heap) (locs1 : List Loc) (cells1 slots1 : Nat), LwI g s h1 xo mo H1 locs1 cells1 slots1 (k + 1) → W p l e room_1 s m #[Value.ref b] below meth c H1 locs1 cells1 slots1 (lw_Z below #[Value.ref b] s) (F0 m 653 ls [])) : W p l e room_1 s m #[Value.ref b] below meth c H locs cells slots (lw_Z below #[Value.ref b] s) (F0 m 295 ls []) := by
  obtain ⟨hx, hb, hr, hml, hown, hts0, hXs, hbl, hlocks, hgv⟩ := C0
  have hts : ∀ w ∈ z_tbl, w.before #[Value.ref b] s = true := fun w hw => hts0 w (List.mem_filter.mp hw).1
  have hA : ∀ q : Nat, s.heap.size ≤ q → (fun q : Nat => s.heap.size ≤ q) q := fun _ h => h
  have hbA : ¬ (fun q : Nat => s.heap.size ≤ q) b := Nat.not_le.mpr hbl
  obtain ⟨T, S, R, O, j, dp, hX, hM, hS, hR, ⟨bc, bs⟩, hw⟩ := I
  refine lv_aload_n hx hb d_L_law_295 rfl (lv_at hl 1 rfl) ?_
  refine lv_aload_n hx hb d_L_law_296 rfl (lv_at hl 0 rfl) ?_
  refine lv_iload_n hx hb d_L_law_297 rfl (lv_at hl 3 rfl) ?_
  refine lv_iconst (v := 1) hx hb d_L_law_298 (by decide) ?_
  refine lv_iadd hx hb d_L_law_299 ?_
  refine z_topi (y := nI (i + 1)) (nI_add i 1) ?_
  refine va_sld hx hb hXs hbl hbA hw.2.2 (vp_in_nI (by omega) (by omega)) d_L_law_300 ?_
  obtain ⟨frx, lox, frm, lom, mc, ms, v, T1, S1, R1, O1, j1, dp1, ⟨f1, f2, f3, f4, f5⟩, w1, w2, ⟨b1, b2⟩, cX, cM⟩ := pr_column (mo := mo) (k := xs (nI (i + 1)).toNatClampNeg) l hX hS hR
  have jl := (jf_le O1.length f5).2
  have sl := slj_le O1.length f5
  obtain ⟨fx, hxo⟩ := hX.cell
  refine z_callV (n := 1) (As := [.int (xs (nI (i + 1)).toNatClampNeg)]) (rest := []) ⟨hx, hb, hml, hown, hts⟩ cX (z_in k_482 rfl) (z_in k_1 rfl) (z_in k_479 rfl) (z_in k_480 rfl) (z_in k_481 rfl) (by decide +kernel) ⟨by show frx + 1 ≤ 2048; omega, by show 8 + (2 + 11) + lox ≤ 84000; omega⟩ hK hE hw hA rfl hxo rfl hl.1 (Nat.le_of_ble_eq_true rfl) d_L_law_301 ⟨by show cells + mc ≤ 600000; omega, by show slots + ms ≤ 7302250; omega⟩ rfl (fun r9 h9 H locs hp hw => ?_)
  obtain ⟨r8, hX1, k1⟩ := hp
  subst r8
  refine W.eq (g2 := F0 m 304 ls [.int v]) rfl ?_
  refine lv_aload_n hx hb d_L_law_304 rfl (lv_at hl 2 rfl) ?_
  refine lv_aload_n hx hb d_L_law_305 rfl (lv_at hl 0 rfl) ?_
  refine lv_iload_n hx hb d_L_law_306 rfl (lv_at hl 3 rfl) ?_
  refine lv_iconst (v := 1) hx hb d_L_law_307 (by decide) ?_
  refine lv_iadd hx hb d_L_law_308 ?_
  refine z_topi (y := nI (i + 1)) (nI_add i 1) ?_
  refine va_sld hx hb hXs hbl hbA hw.2.2 (vp_in_nI (by omega) (by omega)) d_L_law_309 ?_
  have hM1 := hM.k k1
  obtain ⟨fm, hmo⟩ := hM1.cell
  have cM := cM _ hM1
  refine z_callV (n := 1) (As := [.int (xs (nI (i + 1)).toNatClampNeg)]) (rest := [.int v]) ⟨hx, hb, hml, hown, hts⟩ cM (z_in k_955 rfl) (z_in k_7 rfl) (z_in k_952 rfl) (z_in k_953 rfl) (z_in k_954 rfl) (by decide +kernel) ⟨by show frm + 1 ≤ 2048; omega, by show 8 + (3 + 11) + lom ≤ 84000; omega⟩ hK hE hw hA rfl hmo rfl hl.1 (Nat.le_of_ble_eq_true rfl) d_L_law_310 ⟨by show cells + mc + 0 ≤ 600000; omega, by show slots + ms + 0 ≤ 7302250; omega⟩ rfl (fun r9 h9 H locs hp hw => ?_)
  obtain ⟨r8, hM2, k2⟩ := hp
  subst r8
  refine W.eq (g2 := F0 m 313 ls [.int v, .int v]) rfl ?_
  refine lv_icmp_eq (tgt := 653) hx hb d_L_law_313 (by decide) (fun c_313 => ?_) (fun c_313 => ?_)
  · -- 313: True
    exact kk _ _ _ _ _ ⟨T1, S1, R1, O1, j1, dp1, hX1.k k2, hM2, w1, w2, ⟨by omega, by omega⟩, hw⟩
  · -- 313: False
    exact absurd rfl c_313

set_option maxHeartbeats 4000000 in
set_option maxRecDepth 100000 in
theorem lb_find {p : Program} {l : Launch} {e : Env} {s : State} {m : MethodId} {below : List Frame} {meth : Method} {c : Code} {b L : Nat} {xs : Nat → Int32} {g : z_G} (C0 : lw_At p s m meth c b L xs) (hL : L ≤ 3072) (hK : va_K g.1 cls (ztys g) s) (hE : z_E g (fun q : Nat => s.heap.size ≤ q) s s.heap) {i : Nat} (hi : i + 6 ≤ L) {k : Nat} (hk : k < 512) {h : z_H} {xo mo : Nat} {H : Heap} {locs : List Loc} {cells slots : Nat} (I : LwI g s h xo mo H locs cells slots k) {ls : Array Slot} (hl : lv_has ls 4 [(0, .ref b), (1, .ref xo), (2, .ref mo), (3, .int (nI i))]) (kk : ∀ (h1 : z_H) (H1 : Heap) (locs1 : List Loc) (cells1 slots1 : Nat), LwI g s h1 xo mo H1 locs1 cells1 slots1 (k + 1) → W p l e room_1 s m #[Value.ref b] below meth c H1 locs1 cells1 slots1 (lw_Z below #[Value.ref b] s) (F0 m 653 ls [])) : W p l e room_1 s m #[Value.ref b] below meth c H locs cells slots (lw_Z below #[Value.ref b] s) (F0 m 318 ls []) := by
  obtain ⟨hx, hb, hr, hml, hown, hts0, hXs, hbl, hlocks, hgv⟩ := C0
  have hts : ∀ w ∈ z_tbl, w.before #[Value.ref b] s = true := fun w hw => hts0 w (List.mem_filter.mp hw).1
  have hA : ∀ q : Nat, s.heap.size ≤ q → (fun q : Nat => s.heap.size ≤ q) q := fun _ h => h
  have hbA : ¬ (fun q : Nat => s.heap.size ≤ q) b := Nat.not_le.mpr hbl
  obtain ⟨T, S, R, O, j, dp, hX, hM, hS, hR, ⟨bc, bs⟩, hw⟩ := I
  refine lv_aload_n hx hb d_L_law_318 rfl (lv_at hl 1 rfl) ?_
  refine lv_aload_n hx hb d_L_law_319 rfl (lv_at hl 0 rfl) ?_
  refine lv_iload_n hx hb d_L_law_320 rfl (lv_at hl 3 rfl) ?_
  refine lv_iconst (v := 1) hx hb d_L_law_321 (by decide) ?_
  refine lv_iadd hx hb d_L_law_322 ?_
  refine z_topi (y := nI (i + 1)) (nI_add i 1) ?_
  refine va_sld hx hb hXs hbl hbA hw.2.2 (vp_in_nI (by omega) (by omega)) d_L_law_323 ?_
  refine lv_aload_n hx hb d_L_law_324 rfl (lv_at hl 0 rfl) ?_
  refine lv_iload_n hx hb d_L_law_325 rfl (lv_at hl 3 rfl) ?_
  refine lv_iconst (v := 2) hx hb d_L_law_326 (by decide) ?_
  refine lv_iadd hx hb d_L_law_327 ?_
  refine z_topi (y := nI (i + 2)) (nI_add i 2) ?_
  refine va_sld hx hb hXs hbl hbA hw.2.2 (vp_in_nI (by omega) (by omega)) d_L_law_328 ?_
  obtain ⟨frx, lox, frm, lom, mc, ms, v, T1, S1, R1, O1, j1, dp1, ⟨f1, f2, f3, f4, f5⟩, w1, w2, ⟨b1, b2⟩, cX, cM⟩ := pr_find (mo := mo) (k := xs (nI (i + 1)).toNatClampNeg) (n := xs (nI (i + 2)).toNatClampNeg) l hX hS hR
  have jl := (jf_le O1.length f5).2
  have sl := slj_le O1.length f5
  obtain ⟨fx, hxo⟩ := hX.cell
  refine z_callV (n := 2) (As := [.int (xs (nI (i + 1)).toNatClampNeg), .int (xs (nI (i + 2)).toNatClampNeg)]) (rest := []) ⟨hx, hb, hml, hown, hts⟩ cX (z_in k_490 rfl) (z_in k_1 rfl) (z_in k_487 rfl) (z_in k_488 rfl) (z_in k_489 rfl) (by decide +kernel) ⟨by show frx + 1 ≤ 2048; omega, by show 8 + (4 + 11) + lox ≤ 84000; omega⟩ hK hE hw hA rfl hxo rfl hl.1 (Nat.le_of_ble_eq_true rfl) d_L_law_329 ⟨by show cells + mc ≤ 600000; omega, by show slots + ms ≤ 7302250; omega⟩ rfl (fun r9 h9 H locs hp hw => ?_)
  obtain ⟨r8, hX1, k1⟩ := hp
  subst r8
  refine W.eq (g2 := F0 m 332 ls [.int v]) rfl ?_
  refine lv_aload_n hx hb d_L_law_332 rfl (lv_at hl 2 rfl) ?_
  refine lv_aload_n hx hb d_L_law_333 rfl (lv_at hl 0 rfl) ?_
  refine lv_iload_n hx hb d_L_law_334 rfl (lv_at hl 3 rfl) ?_
  refine lv_iconst (v := 1) hx hb d_L_law_335 (by decide) ?_
  refine lv_iadd hx hb d_L_law_336 ?_
  refine z_topi (y := nI (i + 1)) (nI_add i 1) ?_
  refine va_sld hx hb hXs hbl hbA hw.2.2 (vp_in_nI (by omega) (by omega)) d_L_law_337 ?_
  refine lv_aload_n hx hb d_L_law_338 rfl (lv_at hl 0 rfl) ?_
  refine lv_iload_n hx hb d_L_law_339 rfl (lv_at hl 3 rfl) ?_
  refine lv_iconst (v := 2) hx hb d_L_law_340 (by decide) ?_
  refine lv_iadd hx hb d_L_law_341 ?_
  refine z_topi (y := nI (i + 2)) (nI_add i 2) ?_
  refine va_sld hx hb hXs hbl hbA hw.2.2 (vp_in_nI (by omega) (by omega)) d_L_law_342 ?_
  have hM1 := hM.k k1
  obtain ⟨fm, hmo⟩ := hM1.cell
  have cM := cM _ hM1
  refine z_callV (n := 2) (As := [.int (xs (nI (i + 1)).toNatClampNeg), .int (xs (nI (i + 2)).toNatClampNeg)]) (rest := [.int v]) ⟨hx, hb, hml, hown, hts⟩ cM (z_in k_959 rfl) (z_in k_7 rfl) (z_in k_956 rfl) (z_in k_957 rfl) (z_in k_958 rfl) (by decide +kernel) ⟨by show frm + 1 ≤ 2048; omega, by show 8 + (3 + 11) + lom ≤ 84000; omega⟩ hK hE hw hA rfl hmo rfl hl.1 (Nat.le_of_ble_eq_true rfl) d_L_law_343 ⟨by show cells + mc + 0 ≤ 600000; omega, by show slots + ms + 0 ≤ 7302250; omega⟩ rfl (fun r9 h9 H locs hp hw => ?_)
  obtain ⟨r8, hM2, k2⟩ := hp
  subst r8
  refine W.eq (g2 := F0 m 346 ls [.int v, .int v]) rfl ?_
  refine lv_icmp_eq (tgt := 653) hx hb d_L_law_346 (by decide) (fun c_346 => ?_) (fun c_346 => ?_)
  · -- 346: True
    exact kk _ _ _ _ _ ⟨T1, S1, R1, O1, j1, dp1, hX1.k k2, hM2, w1, w2, ⟨by omega, by omega⟩, hw⟩
  · -- 346: False
    exact absurd rfl c_346

set_option maxHeartbeats 4000000 in
set_option maxRecDepth 100000 in
theorem lb_record {p : Program} {l : Launch} {e : Env} {s : State} {m : MethodId} {below : List Frame} {meth : Method} {c : Code} {b L : Nat} {xs : Nat → Int32} {g : z_G} (C0 : lw_At p s m meth c b L xs) (hL : L ≤ 3072) (hK : va_K g.1 cls (ztys g) s) (hE : z_E g (fun q : Nat => s.heap.size ≤ q) s s.heap) {i : Nat} (hi : i + 6 ≤ L) {k : Nat} (hk : k < 512) {h : z_H} {xo mo : Nat} {H : Heap} {locs : List Loc} {cells slots : Nat} (I : LwI g s h xo mo H locs cells slots k) {ls : Array Slot} (hl : lv_has ls 4 [(0, .ref b), (1, .ref xo), (2, .ref mo), (3, .int (nI i))]) (kk : ∀ (h1 : z_H) (H1 : Heap) (locs1 : List Loc) (cells1 slots1 : Nat), LwI g s h1 xo mo H1 locs1 cells1 slots1 (k + 1) → W p l e room_1 s m #[Value.ref b] below meth c H1 locs1 cells1 slots1 (lw_Z below #[Value.ref b] s) (F0 m 653 ls [])) : W p l e room_1 s m #[Value.ref b] below meth c H locs cells slots (lw_Z below #[Value.ref b] s) (F0 m 351 ls []) := by
  obtain ⟨hx, hb, hr, hml, hown, hts0, hXs, hbl, hlocks, hgv⟩ := C0
  have hts : ∀ w ∈ z_tbl, w.before #[Value.ref b] s = true := fun w hw => hts0 w (List.mem_filter.mp hw).1
  have hA : ∀ q : Nat, s.heap.size ≤ q → (fun q : Nat => s.heap.size ≤ q) q := fun _ h => h
  have hbA : ¬ (fun q : Nat => s.heap.size ≤ q) b := Nat.not_le.mpr hbl
  obtain ⟨T, S, R, O, j, dp, hX, hM, hS, hR, ⟨bc, bs⟩, hw⟩ := I
  refine lv_aload_n hx hb d_L_law_351 rfl (lv_at hl 1 rfl) ?_
  refine lv_aload_n hx hb d_L_law_352 rfl (lv_at hl 0 rfl) ?_
  refine lv_iload_n hx hb d_L_law_353 rfl (lv_at hl 3 rfl) ?_
  refine lv_iconst (v := 1) hx hb d_L_law_354 (by decide) ?_
  refine lv_iadd hx hb d_L_law_355 ?_
  refine z_topi (y := nI (i + 1)) (nI_add i 1) ?_
  refine va_sld hx hb hXs hbl hbA hw.2.2 (vp_in_nI (by omega) (by omega)) d_L_law_356 ?_
  obtain ⟨frx, lox, frm, lom, mc, ms, v, T1, S1, R1, O1, j1, dp1, ⟨f1, f2, f3, f4, f5⟩, w1, w2, ⟨b1, b2⟩, cX, cM⟩ := pr_record (mo := mo) (n := xs (nI (i + 1)).toNatClampNeg) l hX hS hR
  have jl := (jf_le O1.length f5).2
  have sl := slj_le O1.length f5
  obtain ⟨fx, hxo⟩ := hX.cell
  refine z_callV (n := 1) (As := [.int (xs (nI (i + 1)).toNatClampNeg)]) (rest := []) ⟨hx, hb, hml, hown, hts⟩ cX (z_in k_495 rfl) (z_in k_1 rfl) (z_in k_492 rfl) (z_in k_493 rfl) (z_in k_494 rfl) (by decide +kernel) ⟨by show frx + 1 ≤ 2048; omega, by show 8 + (5 + 11) + lox ≤ 84000; omega⟩ hK hE hw hA rfl hxo rfl hl.1 (Nat.le_of_ble_eq_true rfl) d_L_law_357 ⟨by show cells + mc ≤ 600000; omega, by show slots + ms ≤ 7302250; omega⟩ rfl (fun r9 h9 H locs hp hw => ?_)
  obtain ⟨r8, hX1, k1⟩ := hp
  subst r8
  refine W.eq (g2 := F0 m 360 ls [.int v]) rfl ?_
  refine lv_aload_n hx hb d_L_law_360 rfl (lv_at hl 2 rfl) ?_
  refine lv_aload_n hx hb d_L_law_361 rfl (lv_at hl 0 rfl) ?_
  refine lv_iload_n hx hb d_L_law_362 rfl (lv_at hl 3 rfl) ?_
  refine lv_iconst (v := 1) hx hb d_L_law_363 (by decide) ?_
  refine lv_iadd hx hb d_L_law_364 ?_
  refine z_topi (y := nI (i + 1)) (nI_add i 1) ?_
  refine va_sld hx hb hXs hbl hbA hw.2.2 (vp_in_nI (by omega) (by omega)) d_L_law_365 ?_
  have hM1 := hM.k k1
  obtain ⟨fm, hmo⟩ := hM1.cell
  have cM := cM _ hM1
  refine z_callV (n := 1) (As := [.int (xs (nI (i + 1)).toNatClampNeg)]) (rest := [.int v]) ⟨hx, hb, hml, hown, hts⟩ cM (z_in k_967 rfl) (z_in k_7 rfl) (z_in k_964 rfl) (z_in k_965 rfl) (z_in k_966 rfl) (by decide +kernel) ⟨by show frm + 1 ≤ 2048; omega, by show 8 + (5 + 11) + lom ≤ 84000; omega⟩ hK hE hw hA rfl hmo rfl hl.1 (Nat.le_of_ble_eq_true rfl) d_L_law_366 ⟨by show cells + mc + 0 ≤ 600000; omega, by show slots + ms + 0 ≤ 7302250; omega⟩ rfl (fun r9 h9 H locs hp hw => ?_)
  obtain ⟨r8, hM2, k2⟩ := hp
  subst r8
  refine W.eq (g2 := F0 m 369 ls [.int v, .int v]) rfl ?_
  refine lv_icmp_eq (tgt := 653) hx hb d_L_law_369 (by decide) (fun c_369 => ?_) (fun c_369 => ?_)
  · -- 369: True
    exact kk _ _ _ _ _ ⟨T1, S1, R1, O1, j1, dp1, hX1.k k2, hM2, w1, w2, ⟨by omega, by omega⟩, hw⟩
  · -- 369: False
    exact absurd rfl c_369

set_option maxHeartbeats 4000000 in
set_option maxRecDepth 100000 in
theorem lb_begin {p : Program} {l : Launch} {e : Env} {s : State} {m : MethodId} {below : List Frame} {meth : Method} {c : Code} {b L : Nat} {xs : Nat → Int32} {g : z_G} (C0 : lw_At p s m meth c b L xs) (hL : L ≤ 3072) (hK : va_K g.1 cls (ztys g) s) (hE : z_E g (fun q : Nat => s.heap.size ≤ q) s s.heap) {i : Nat} (hi : i + 6 ≤ L) {k : Nat} (hk : k < 512) {h : z_H} {xo mo : Nat} {H : Heap} {locs : List Loc} {cells slots : Nat} (I : LwI g s h xo mo H locs cells slots k) {ls : Array Slot} (hl : lv_has ls 4 [(0, .ref b), (1, .ref xo), (2, .ref mo), (3, .int (nI i))]) (kk : ∀ (h1 : z_H) (H1 : Heap) (locs1 : List Loc) (cells1 slots1 : Nat), LwI g s h1 xo mo H1 locs1 cells1 slots1 (k + 1) → W p l e room_1 s m #[Value.ref b] below meth c H1 locs1 cells1 slots1 (lw_Z below #[Value.ref b] s) (F0 m 653 ls [])) : W p l e room_1 s m #[Value.ref b] below meth c H locs cells slots (lw_Z below #[Value.ref b] s) (F0 m 374 ls []) := by
  obtain ⟨hx, hb, hr, hml, hown, hts0, hXs, hbl, hlocks, hgv⟩ := C0
  have hts : ∀ w ∈ z_tbl, w.before #[Value.ref b] s = true := fun w hw => hts0 w (List.mem_filter.mp hw).1
  have hA : ∀ q : Nat, s.heap.size ≤ q → (fun q : Nat => s.heap.size ≤ q) q := fun _ h => h
  have hbA : ¬ (fun q : Nat => s.heap.size ≤ q) b := Nat.not_le.mpr hbl
  obtain ⟨T, S, R, O, j, dp, hX, hM, hS, hR, ⟨bc, bs⟩, hw⟩ := I
  refine lv_aload_n hx hb d_L_law_374 rfl (lv_at hl 1 rfl) ?_
  obtain ⟨frx, lox, frm, lom, mc, ms, v, T1, S1, R1, O1, j1, dp1, ⟨f1, f2, f3, f4, f5⟩, w1, w2, ⟨b1, b2⟩, cX, cM⟩ := pr_begin (mo := mo) l hX hS hR
  have jl := (jf_le O1.length f5).2
  have sl := slj_le O1.length f5
  obtain ⟨fx, hxo⟩ := hX.cell
  refine z_callV (n := 0) (As := []) (rest := []) ⟨hx, hb, hml, hown, hts⟩ cX (z_in k_613 rfl) (z_in k_1 rfl) (z_in k_610 rfl) (z_in k_611 rfl) (z_in k_612 rfl) (by decide +kernel) ⟨by show frx + 1 ≤ 2048; omega, by show 8 + (1 + 11) + lox ≤ 84000; omega⟩ hK hE hw hA rfl hxo rfl hl.1 (Nat.le_of_ble_eq_true rfl) d_L_law_375 ⟨by show cells + mc ≤ 600000; omega, by show slots + ms ≤ 7302250; omega⟩ rfl (fun r9 h9 H locs hp hw => ?_)
  obtain ⟨r8, hX1, k1⟩ := hp
  subst r8
  refine W.eq (g2 := F0 m 378 ls []) rfl ?_
  refine lv_aload_n hx hb d_L_law_378 rfl (lv_at hl 2 rfl) ?_
  have hM1 := hM.k k1
  obtain ⟨fm, hmo⟩ := hM1.cell
  have cM := cM _ hM1
  refine z_callV (n := 0) (As := []) (rest := []) ⟨hx, hb, hml, hown, hts⟩ cM (z_in k_1017 rfl) (z_in k_7 rfl) (z_in k_1014 rfl) (z_in k_1015 rfl) (z_in k_1016 rfl) (by decide +kernel) ⟨by show frm + 1 ≤ 2048; omega, by show 8 + (1 + 11) + lom ≤ 84000; omega⟩ hK hE hw hA rfl hmo rfl hl.1 (Nat.le_of_ble_eq_true rfl) d_L_law_379 ⟨by show cells + mc + 0 ≤ 600000; omega, by show slots + ms + 0 ≤ 7302250; omega⟩ rfl (fun r9 h9 H locs hp hw => ?_)
  obtain ⟨r8, hM2, k2⟩ := hp
  subst r8
  refine W.eq (g2 := F0 m 382 ls []) rfl ?_
  refine lv_goto (tgt := 653) hx hb d_L_law_382 (by decide) ?_
  exact kk _ _ _ _ _ ⟨T1, S1, R1, O1, j1, dp1, hX1.k k2, hM2, w1, w2, ⟨by omega, by omega⟩, hw⟩

set_option maxHeartbeats 4000000 in
set_option maxRecDepth 100000 in
theorem lb_add {p : Program} {l : Launch} {e : Env} {s : State} {m : MethodId} {below : List Frame} {meth : Method} {c : Code} {b L : Nat} {xs : Nat → Int32} {g : z_G} (C0 : lw_At p s m meth c b L xs) (hL : L ≤ 3072) (hK : va_K g.1 cls (ztys g) s) (hE : z_E g (fun q : Nat => s.heap.size ≤ q) s s.heap) {i : Nat} (hi : i + 6 ≤ L) {k : Nat} (hk : k < 512) {h : z_H} {xo mo : Nat} {H : Heap} {locs : List Loc} {cells slots : Nat} (I : LwI g s h xo mo H locs cells slots k) {ls : Array Slot} (hl : lv_has ls 4 [(0, .ref b), (1, .ref xo), (2, .ref mo), (3, .int (nI i))]) (kk : ∀ (h1 : z_H) (H1 : Heap) (locs1 : List Loc) (cells1 slots1 : Nat), LwI g s h1 xo mo H1 locs1 cells1 slots1 (k + 1) → W p l e room_1 s m #[Value.ref b] below meth c H1 locs1 cells1 slots1 (lw_Z below #[Value.ref b] s) (F0 m 653 ls [])) : W p l e room_1 s m #[Value.ref b] below meth c H locs cells slots (lw_Z below #[Value.ref b] s) (F0 m 385 ls []) := by
  obtain ⟨hx, hb, hr, hml, hown, hts0, hXs, hbl, hlocks, hgv⟩ := C0
  have hts : ∀ w ∈ z_tbl, w.before #[Value.ref b] s = true := fun w hw => hts0 w (List.mem_filter.mp hw).1
  have hA : ∀ q : Nat, s.heap.size ≤ q → (fun q : Nat => s.heap.size ≤ q) q := fun _ h => h
  have hbA : ¬ (fun q : Nat => s.heap.size ≤ q) b := Nat.not_le.mpr hbl
  obtain ⟨T, S, R, O, j, dp, hX, hM, hS, hR, ⟨bc, bs⟩, hw⟩ := I
  refine lv_aload_n hx hb d_L_law_385 rfl (lv_at hl 1 rfl) ?_
  refine lv_aload_n hx hb d_L_law_386 rfl (lv_at hl 0 rfl) ?_
  refine lv_iload_n hx hb d_L_law_387 rfl (lv_at hl 3 rfl) ?_
  refine lv_iconst (v := 1) hx hb d_L_law_388 (by decide) ?_
  refine lv_iadd hx hb d_L_law_389 ?_
  refine z_topi (y := nI (i + 1)) (nI_add i 1) ?_
  refine va_sld hx hb hXs hbl hbA hw.2.2 (vp_in_nI (by omega) (by omega)) d_L_law_390 ?_
  refine lv_aload_n hx hb d_L_law_391 rfl (lv_at hl 0 rfl) ?_
  refine lv_iload_n hx hb d_L_law_392 rfl (lv_at hl 3 rfl) ?_
  refine lv_iconst (v := 2) hx hb d_L_law_393 (by decide) ?_
  refine lv_iadd hx hb d_L_law_394 ?_
  refine z_topi (y := nI (i + 2)) (nI_add i 2) ?_
  refine va_sld hx hb hXs hbl hbA hw.2.2 (vp_in_nI (by omega) (by omega)) d_L_law_395 ?_
  refine lv_aload_n hx hb d_L_law_396 rfl (lv_at hl 0 rfl) ?_
  refine lv_iload_n hx hb d_L_law_397 rfl (lv_at hl 3 rfl) ?_
  refine lv_iconst (v := 3) hx hb d_L_law_398 (by decide) ?_
  refine lv_iadd hx hb d_L_law_399 ?_
  refine z_topi (y := nI (i + 3)) (nI_add i 3) ?_
  refine va_sld hx hb hXs hbl hbA hw.2.2 (vp_in_nI (by omega) (by omega)) d_L_law_400 ?_
  refine lv_i2l hx hb d_L_law_401 rfl ?_
  refine lv_bipush (v := 32) hx hb d_L_law_402 (by decide) ?_
  refine lv_lshl hx hb d_L_law_404 rfl ?_
  refine lv_aload_n hx hb d_L_law_405 rfl (lv_at hl 0 rfl) ?_
  refine lv_iload_n hx hb d_L_law_406 rfl (lv_at hl 3 rfl) ?_
  refine lv_iconst (v := 4) hx hb d_L_law_407 (by decide) ?_
  refine lv_iadd hx hb d_L_law_408 ?_
  refine z_topi (y := nI (i + 4)) (nI_add i 4) ?_
  refine va_sld hx hb hXs hbl hbA hw.2.2 (vp_in_nI (by omega) (by omega)) d_L_law_409 ?_
  refine lv_i2l hx hb d_L_law_410 rfl ?_
  refine lv_ldc2 hx hb hown (hts _ (z_in k_1097 rfl)) d_L_law_411 ?_
  refine lv_land hx hb d_L_law_414 ?_
  refine lv_lor hx hb d_L_law_415 ?_
  obtain ⟨frx, lox, frm, lom, mc, ms, v, T1, S1, R1, O1, j1, dp1, ⟨f1, f2, f3, f4, f5⟩, w1, w2, ⟨b1, b2⟩, cX, cM⟩ := pr_add (mo := mo) (pa := xs (nI (i + 1)).toNatClampNeg) (f := xs (nI (i + 2)).toNatClampNeg) (v := (((xs (nI (i + 3)).toNatClampNeg : Int32).toInt64) <<< ((32 : Int32).toInt64 &&& 63)) ||| (((xs (nI (i + 4)).toNatClampNeg : Int32).toInt64) &&& 4294967295)) l hX hS hR
  have jl := (jf_le O1.length f5).2
  have sl := slj_le O1.length f5
  obtain ⟨fx, hxo⟩ := hX.cell
  refine z_callV (n := 3) (As := [.int (xs (nI (i + 1)).toNatClampNeg), .int (xs (nI (i + 2)).toNatClampNeg), .long ((((xs (nI (i + 3)).toNatClampNeg : Int32).toInt64) <<< ((32 : Int32).toInt64 &&& 63)) ||| (((xs (nI (i + 4)).toNatClampNeg : Int32).toInt64) &&& 4294967295))]) (rest := []) ⟨hx, hb, hml, hown, hts⟩ cX (z_in k_617 rfl) (z_in k_1 rfl) (z_in k_614 rfl) (z_in k_615 rfl) (z_in k_616 rfl) (by decide +kernel) ⟨by show frx + 1 ≤ 2048; omega, by show 8 + (6 + 11) + lox ≤ 84000; omega⟩ hK hE hw hA rfl hxo rfl hl.1 (Nat.le_of_ble_eq_true rfl) d_L_law_416 ⟨by show cells + mc ≤ 600000; omega, by show slots + ms ≤ 7302250; omega⟩ rfl (fun r9 h9 H locs hp hw => ?_)
  obtain ⟨r8, hX1, k1⟩ := hp
  subst r8
  refine W.eq (g2 := F0 m 419 ls [.int v]) rfl ?_
  refine lv_aload_n hx hb d_L_law_419 rfl (lv_at hl 2 rfl) ?_
  refine lv_aload_n hx hb d_L_law_420 rfl (lv_at hl 0 rfl) ?_
  refine lv_iload_n hx hb d_L_law_421 rfl (lv_at hl 3 rfl) ?_
  refine lv_iconst (v := 1) hx hb d_L_law_422 (by decide) ?_
  refine lv_iadd hx hb d_L_law_423 ?_
  refine z_topi (y := nI (i + 1)) (nI_add i 1) ?_
  refine va_sld hx hb hXs hbl hbA hw.2.2 (vp_in_nI (by omega) (by omega)) d_L_law_424 ?_
  refine lv_aload_n hx hb d_L_law_425 rfl (lv_at hl 0 rfl) ?_
  refine lv_iload_n hx hb d_L_law_426 rfl (lv_at hl 3 rfl) ?_
  refine lv_iconst (v := 2) hx hb d_L_law_427 (by decide) ?_
  refine lv_iadd hx hb d_L_law_428 ?_
  refine z_topi (y := nI (i + 2)) (nI_add i 2) ?_
  refine va_sld hx hb hXs hbl hbA hw.2.2 (vp_in_nI (by omega) (by omega)) d_L_law_429 ?_
  refine lv_aload_n hx hb d_L_law_430 rfl (lv_at hl 0 rfl) ?_
  refine lv_iload_n hx hb d_L_law_431 rfl (lv_at hl 3 rfl) ?_
  refine lv_iconst (v := 3) hx hb d_L_law_432 (by decide) ?_
  refine lv_iadd hx hb d_L_law_433 ?_
  refine z_topi (y := nI (i + 3)) (nI_add i 3) ?_
  refine va_sld hx hb hXs hbl hbA hw.2.2 (vp_in_nI (by omega) (by omega)) d_L_law_434 ?_
  refine lv_i2l hx hb d_L_law_435 rfl ?_
  refine lv_bipush (v := 32) hx hb d_L_law_436 (by decide) ?_
  refine lv_lshl hx hb d_L_law_438 rfl ?_
  refine lv_aload_n hx hb d_L_law_439 rfl (lv_at hl 0 rfl) ?_
  refine lv_iload_n hx hb d_L_law_440 rfl (lv_at hl 3 rfl) ?_
  refine lv_iconst (v := 4) hx hb d_L_law_441 (by decide) ?_
  refine lv_iadd hx hb d_L_law_442 ?_
  refine z_topi (y := nI (i + 4)) (nI_add i 4) ?_
  refine va_sld hx hb hXs hbl hbA hw.2.2 (vp_in_nI (by omega) (by omega)) d_L_law_443 ?_
  refine lv_i2l hx hb d_L_law_444 rfl ?_
  refine lv_ldc2 hx hb hown (hts _ (z_in k_1097 rfl)) d_L_law_445 ?_
  refine lv_land hx hb d_L_law_448 ?_
  refine lv_lor hx hb d_L_law_449 ?_
  have hM1 := hM.k k1
  obtain ⟨fm, hmo⟩ := hM1.cell
  have cM := cM _ hM1
  refine z_callV (n := 3) (As := [.int (xs (nI (i + 1)).toNatClampNeg), .int (xs (nI (i + 2)).toNatClampNeg), .long ((((xs (nI (i + 3)).toNatClampNeg : Int32).toInt64) <<< ((32 : Int32).toInt64 &&& 63)) ||| (((xs (nI (i + 4)).toNatClampNeg : Int32).toInt64) &&& 4294967295))]) (rest := [.int v]) ⟨hx, hb, hml, hown, hts⟩ cM (z_in k_1021 rfl) (z_in k_7 rfl) (z_in k_1018 rfl) (z_in k_1019 rfl) (z_in k_1020 rfl) (by decide +kernel) ⟨by show frm + 1 ≤ 2048; omega, by show 8 + (5 + 11) + lom ≤ 84000; omega⟩ hK hE hw hA rfl hmo rfl hl.1 (Nat.le_of_ble_eq_true rfl) d_L_law_450 ⟨by show cells + mc + 0 ≤ 600000; omega, by show slots + ms + 0 ≤ 7302250; omega⟩ rfl (fun r9 h9 H locs hp hw => ?_)
  obtain ⟨r8, hM2, k2⟩ := hp
  subst r8
  refine W.eq (g2 := F0 m 453 ls [.int v, .int v]) rfl ?_
  refine lv_icmp_eq (tgt := 653) hx hb d_L_law_453 (by decide) (fun c_453 => ?_) (fun c_453 => ?_)
  · -- 453: True
    exact kk _ _ _ _ _ ⟨T1, S1, R1, O1, j1, dp1, hX1.k k2, hM2, w1, w2, ⟨by omega, by omega⟩, hw⟩
  · -- 453: False
    exact absurd rfl c_453

set_option maxHeartbeats 4000000 in
set_option maxRecDepth 100000 in
theorem lb_addText {p : Program} {l : Launch} {e : Env} {s : State} {m : MethodId} {below : List Frame} {meth : Method} {c : Code} {b L : Nat} {xs : Nat → Int32} {g : z_G} (C0 : lw_At p s m meth c b L xs) (hL : L ≤ 3072) (hK : va_K g.1 cls (ztys g) s) (hE : z_E g (fun q : Nat => s.heap.size ≤ q) s s.heap) {i : Nat} (hi : i + 6 ≤ L) {k : Nat} (hk : k < 512) {h : z_H} {xo mo : Nat} {H : Heap} {locs : List Loc} {cells slots : Nat} (I : LwI g s h xo mo H locs cells slots k) {ls : Array Slot} (hl : lv_has ls 4 [(0, .ref b), (1, .ref xo), (2, .ref mo), (3, .int (nI i))]) (kk : ∀ (h1 : z_H) (H1 : Heap) (locs1 : List Loc) (cells1 slots1 : Nat), LwI g s h1 xo mo H1 locs1 cells1 slots1 (k + 1) → W p l e room_1 s m #[Value.ref b] below meth c H1 locs1 cells1 slots1 (lw_Z below #[Value.ref b] s) (F0 m 653 ls [])) : W p l e room_1 s m #[Value.ref b] below meth c H locs cells slots (lw_Z below #[Value.ref b] s) (F0 m 458 ls []) := by
  obtain ⟨hx, hb, hr, hml, hown, hts0, hXs, hbl, hlocks, hgv⟩ := C0
  have hts : ∀ w ∈ z_tbl, w.before #[Value.ref b] s = true := fun w hw => hts0 w (List.mem_filter.mp hw).1
  have hA : ∀ q : Nat, s.heap.size ≤ q → (fun q : Nat => s.heap.size ≤ q) q := fun _ h => h
  have hbA : ¬ (fun q : Nat => s.heap.size ≤ q) b := Nat.not_le.mpr hbl
  obtain ⟨T, S, R, O, j, dp, hX, hM, hS, hR, ⟨bc, bs⟩, hw⟩ := I
  refine lv_aload_n hx hb d_L_law_458 rfl (lv_at hl 1 rfl) ?_
  refine lv_aload_n hx hb d_L_law_459 rfl (lv_at hl 0 rfl) ?_
  refine lv_iload_n hx hb d_L_law_460 rfl (lv_at hl 3 rfl) ?_
  refine lv_iconst (v := 1) hx hb d_L_law_461 (by decide) ?_
  refine lv_iadd hx hb d_L_law_462 ?_
  refine z_topi (y := nI (i + 1)) (nI_add i 1) ?_
  refine va_sld hx hb hXs hbl hbA hw.2.2 (vp_in_nI (by omega) (by omega)) d_L_law_463 ?_
  refine lv_aload_n hx hb d_L_law_464 rfl (lv_at hl 0 rfl) ?_
  refine lv_iload_n hx hb d_L_law_465 rfl (lv_at hl 3 rfl) ?_
  refine lv_iconst (v := 2) hx hb d_L_law_466 (by decide) ?_
  refine lv_iadd hx hb d_L_law_467 ?_
  refine z_topi (y := nI (i + 2)) (nI_add i 2) ?_
  refine va_sld hx hb hXs hbl hbA hw.2.2 (vp_in_nI (by omega) (by omega)) d_L_law_468 ?_
  refine lv_aload_n hx hb d_L_law_469 rfl (lv_at hl 0 rfl) ?_
  refine lv_iload_n hx hb d_L_law_470 rfl (lv_at hl 3 rfl) ?_
  refine lv_iconst (v := 3) hx hb d_L_law_471 (by decide) ?_
  refine lv_iadd hx hb d_L_law_472 ?_
  refine z_topi (y := nI (i + 3)) (nI_add i 3) ?_
  refine va_sld hx hb hXs hbl hbA hw.2.2 (vp_in_nI (by omega) (by omega)) d_L_law_473 ?_
  obtain ⟨frx, lox, frm, lom, mc, ms, v, T1, S1, R1, O1, j1, dp1, ⟨f1, f2, f3, f4, f5⟩, w1, w2, ⟨b1, b2⟩, cX, cM⟩ := pr_addText (mo := mo) (pa := xs (nI (i + 1)).toNatClampNeg) (f := xs (nI (i + 2)).toNatClampNeg) (n := xs (nI (i + 3)).toNatClampNeg) l hX hS hR
  have jl := (jf_le O1.length f5).2
  have sl := slj_le O1.length f5
  obtain ⟨fx, hxo⟩ := hX.cell
  refine z_callV (n := 3) (As := [.int (xs (nI (i + 1)).toNatClampNeg), .int (xs (nI (i + 2)).toNatClampNeg), .int (xs (nI (i + 3)).toNatClampNeg)]) (rest := []) ⟨hx, hb, hml, hown, hts⟩ cX (z_in k_639 rfl) (z_in k_1 rfl) (z_in k_636 rfl) (z_in k_637 rfl) (z_in k_638 rfl) (by decide +kernel) ⟨by show frx + 1 ≤ 2048; omega, by show 8 + (6 + 11) + lox ≤ 84000; omega⟩ hK hE hw hA rfl hxo rfl hl.1 (Nat.le_of_ble_eq_true rfl) d_L_law_474 ⟨by show cells + mc ≤ 600000; omega, by show slots + ms ≤ 7302250; omega⟩ rfl (fun r9 h9 H locs hp hw => ?_)
  obtain ⟨r8, hX1, k1⟩ := hp
  subst r8
  refine W.eq (g2 := F0 m 477 ls [.int v]) rfl ?_
  refine lv_aload_n hx hb d_L_law_477 rfl (lv_at hl 2 rfl) ?_
  refine lv_aload_n hx hb d_L_law_478 rfl (lv_at hl 0 rfl) ?_
  refine lv_iload_n hx hb d_L_law_479 rfl (lv_at hl 3 rfl) ?_
  refine lv_iconst (v := 1) hx hb d_L_law_480 (by decide) ?_
  refine lv_iadd hx hb d_L_law_481 ?_
  refine z_topi (y := nI (i + 1)) (nI_add i 1) ?_
  refine va_sld hx hb hXs hbl hbA hw.2.2 (vp_in_nI (by omega) (by omega)) d_L_law_482 ?_
  refine lv_aload_n hx hb d_L_law_483 rfl (lv_at hl 0 rfl) ?_
  refine lv_iload_n hx hb d_L_law_484 rfl (lv_at hl 3 rfl) ?_
  refine lv_iconst (v := 2) hx hb d_L_law_485 (by decide) ?_
  refine lv_iadd hx hb d_L_law_486 ?_
  refine z_topi (y := nI (i + 2)) (nI_add i 2) ?_
  refine va_sld hx hb hXs hbl hbA hw.2.2 (vp_in_nI (by omega) (by omega)) d_L_law_487 ?_
  refine lv_aload_n hx hb d_L_law_488 rfl (lv_at hl 0 rfl) ?_
  refine lv_iload_n hx hb d_L_law_489 rfl (lv_at hl 3 rfl) ?_
  refine lv_iconst (v := 3) hx hb d_L_law_490 (by decide) ?_
  refine lv_iadd hx hb d_L_law_491 ?_
  refine z_topi (y := nI (i + 3)) (nI_add i 3) ?_
  refine va_sld hx hb hXs hbl hbA hw.2.2 (vp_in_nI (by omega) (by omega)) d_L_law_492 ?_
  have hM1 := hM.k k1
  obtain ⟨fm, hmo⟩ := hM1.cell
  have cM := cM _ hM1
  refine z_callV (n := 3) (As := [.int (xs (nI (i + 1)).toNatClampNeg), .int (xs (nI (i + 2)).toNatClampNeg), .int (xs (nI (i + 3)).toNatClampNeg)]) (rest := [.int v]) ⟨hx, hb, hml, hown, hts⟩ cM (z_in k_1029 rfl) (z_in k_7 rfl) (z_in k_1026 rfl) (z_in k_1027 rfl) (z_in k_1028 rfl) (by decide +kernel) ⟨by show frm + 1 ≤ 2048; omega, by show 8 + (6 + 11) + lom ≤ 84000; omega⟩ hK hE hw hA rfl hmo rfl hl.1 (Nat.le_of_ble_eq_true rfl) d_L_law_493 ⟨by show cells + mc + 0 ≤ 600000; omega, by show slots + ms + 0 ≤ 7302250; omega⟩ rfl (fun r9 h9 H locs hp hw => ?_)
  obtain ⟨r8, hM2, k2⟩ := hp
  subst r8
  refine W.eq (g2 := F0 m 496 ls [.int v, .int v]) rfl ?_
  refine lv_icmp_eq (tgt := 653) hx hb d_L_law_496 (by decide) (fun c_496 => ?_) (fun c_496 => ?_)
  · -- 496: True
    exact kk _ _ _ _ _ ⟨T1, S1, R1, O1, j1, dp1, hX1.k k2, hM2, w1, w2, ⟨by omega, by omega⟩, hw⟩
  · -- 496: False
    exact absurd rfl c_496

set_option maxHeartbeats 4000000 in
set_option maxRecDepth 100000 in
theorem lb_nodes {p : Program} {l : Launch} {e : Env} {s : State} {m : MethodId} {below : List Frame} {meth : Method} {c : Code} {b L : Nat} {xs : Nat → Int32} {g : z_G} (C0 : lw_At p s m meth c b L xs) (hL : L ≤ 3072) (hK : va_K g.1 cls (ztys g) s) (hE : z_E g (fun q : Nat => s.heap.size ≤ q) s s.heap) {i : Nat} (hi : i + 6 ≤ L) {k : Nat} (hk : k < 512) {h : z_H} {xo mo : Nat} {H : Heap} {locs : List Loc} {cells slots : Nat} (I : LwI g s h xo mo H locs cells slots k) {ls : Array Slot} (hl : lv_has ls 4 [(0, .ref b), (1, .ref xo), (2, .ref mo), (3, .int (nI i))]) (kk : ∀ (h1 : z_H) (H1 : Heap) (locs1 : List Loc) (cells1 slots1 : Nat), LwI g s h1 xo mo H1 locs1 cells1 slots1 (k + 1) → W p l e room_1 s m #[Value.ref b] below meth c H1 locs1 cells1 slots1 (lw_Z below #[Value.ref b] s) (F0 m 653 ls [])) : W p l e room_1 s m #[Value.ref b] below meth c H locs cells slots (lw_Z below #[Value.ref b] s) (F0 m 501 ls []) := by
  obtain ⟨hx, hb, hr, hml, hown, hts0, hXs, hbl, hlocks, hgv⟩ := C0
  have hts : ∀ w ∈ z_tbl, w.before #[Value.ref b] s = true := fun w hw => hts0 w (List.mem_filter.mp hw).1
  have hA : ∀ q : Nat, s.heap.size ≤ q → (fun q : Nat => s.heap.size ≤ q) q := fun _ h => h
  have hbA : ¬ (fun q : Nat => s.heap.size ≤ q) b := Nat.not_le.mpr hbl
  obtain ⟨T, S, R, O, j, dp, hX, hM, hS, hR, ⟨bc, bs⟩, hw⟩ := I
  refine lv_aload_n hx hb d_L_law_501 rfl (lv_at hl 1 rfl) ?_
  obtain ⟨frx, lox, frm, lom, mc, ms, v, T1, S1, R1, O1, j1, dp1, ⟨f1, f2, f3, f4, f5⟩, w1, w2, ⟨b1, b2⟩, cX, cM⟩ := pr_nodes (mo := mo) l hX hS hR
  have jl := (jf_le O1.length f5).2
  have sl := slj_le O1.length f5
  obtain ⟨fx, hxo⟩ := hX.cell
  refine z_callV (n := 0) (As := []) (rest := []) ⟨hx, hb, hml, hown, hts⟩ cX (z_in k_644 rfl) (z_in k_1 rfl) (z_in k_641 rfl) (z_in k_642 rfl) (z_in k_643 rfl) (by decide +kernel) ⟨by show frx + 1 ≤ 2048; omega, by show 8 + (1 + 11) + lox ≤ 84000; omega⟩ hK hE hw hA rfl hxo rfl hl.1 (Nat.le_of_ble_eq_true rfl) d_L_law_502 ⟨by show cells + mc ≤ 600000; omega, by show slots + ms ≤ 7302250; omega⟩ rfl (fun r9 h9 H locs hp hw => ?_)
  obtain ⟨r8, hX1, k1⟩ := hp
  subst r8
  refine W.eq (g2 := F0 m 505 ls [.int v]) rfl ?_
  refine lv_aload_n hx hb d_L_law_505 rfl (lv_at hl 2 rfl) ?_
  have hM1 := hM.k k1
  obtain ⟨fm, hmo⟩ := hM1.cell
  have cM := cM _ hM1
  refine z_callV (n := 0) (As := []) (rest := [.int v]) ⟨hx, hb, hml, hown, hts⟩ cM (z_in k_1033 rfl) (z_in k_7 rfl) (z_in k_1030 rfl) (z_in k_1031 rfl) (z_in k_1032 rfl) (by decide +kernel) ⟨by show frm + 1 ≤ 2048; omega, by show 8 + (1 + 11) + lom ≤ 84000; omega⟩ hK hE hw hA rfl hmo rfl hl.1 (Nat.le_of_ble_eq_true rfl) d_L_law_506 ⟨by show cells + mc + 0 ≤ 600000; omega, by show slots + ms + 0 ≤ 7302250; omega⟩ rfl (fun r9 h9 H locs hp hw => ?_)
  obtain ⟨r8, hM2, k2⟩ := hp
  subst r8
  refine W.eq (g2 := F0 m 509 ls [.int v, .int v]) rfl ?_
  refine lv_icmp_eq (tgt := 653) hx hb d_L_law_509 (by decide) (fun c_509 => ?_) (fun c_509 => ?_)
  · -- 509: True
    exact kk _ _ _ _ _ ⟨T1, S1, R1, O1, j1, dp1, hX1.k k2, hM2, w1, w2, ⟨by omega, by omega⟩, hw⟩
  · -- 509: False
    exact absurd rfl c_509

set_option maxHeartbeats 4000000 in
set_option maxRecDepth 100000 in
theorem lb_node {p : Program} {l : Launch} {e : Env} {s : State} {m : MethodId} {below : List Frame} {meth : Method} {c : Code} {b L : Nat} {xs : Nat → Int32} {g : z_G} (C0 : lw_At p s m meth c b L xs) (hL : L ≤ 3072) (hK : va_K g.1 cls (ztys g) s) (hE : z_E g (fun q : Nat => s.heap.size ≤ q) s s.heap) {i : Nat} (hi : i + 6 ≤ L) {k : Nat} (hk : k < 512) {h : z_H} {xo mo : Nat} {H : Heap} {locs : List Loc} {cells slots : Nat} (I : LwI g s h xo mo H locs cells slots k) {ls : Array Slot} (hl : lv_has ls 4 [(0, .ref b), (1, .ref xo), (2, .ref mo), (3, .int (nI i))]) (kk : ∀ (h1 : z_H) (H1 : Heap) (locs1 : List Loc) (cells1 slots1 : Nat), LwI g s h1 xo mo H1 locs1 cells1 slots1 (k + 1) → W p l e room_1 s m #[Value.ref b] below meth c H1 locs1 cells1 slots1 (lw_Z below #[Value.ref b] s) (F0 m 653 ls [])) : W p l e room_1 s m #[Value.ref b] below meth c H locs cells slots (lw_Z below #[Value.ref b] s) (F0 m 514 ls []) := by
  obtain ⟨hx, hb, hr, hml, hown, hts0, hXs, hbl, hlocks, hgv⟩ := C0
  have hts : ∀ w ∈ z_tbl, w.before #[Value.ref b] s = true := fun w hw => hts0 w (List.mem_filter.mp hw).1
  have hA : ∀ q : Nat, s.heap.size ≤ q → (fun q : Nat => s.heap.size ≤ q) q := fun _ h => h
  have hbA : ¬ (fun q : Nat => s.heap.size ≤ q) b := Nat.not_le.mpr hbl
  obtain ⟨T, S, R, O, j, dp, hX, hM, hS, hR, ⟨bc, bs⟩, hw⟩ := I
  refine lv_aload_n hx hb d_L_law_514 rfl (lv_at hl 1 rfl) ?_
  refine lv_aload_n hx hb d_L_law_515 rfl (lv_at hl 0 rfl) ?_
  refine lv_iload_n hx hb d_L_law_516 rfl (lv_at hl 3 rfl) ?_
  refine lv_iconst (v := 1) hx hb d_L_law_517 (by decide) ?_
  refine lv_iadd hx hb d_L_law_518 ?_
  refine z_topi (y := nI (i + 1)) (nI_add i 1) ?_
  refine va_sld hx hb hXs hbl hbA hw.2.2 (vp_in_nI (by omega) (by omega)) d_L_law_519 ?_
  refine lv_aload_n hx hb d_L_law_520 rfl (lv_at hl 0 rfl) ?_
  refine lv_iload_n hx hb d_L_law_521 rfl (lv_at hl 3 rfl) ?_
  refine lv_iconst (v := 2) hx hb d_L_law_522 (by decide) ?_
  refine lv_iadd hx hb d_L_law_523 ?_
  refine z_topi (y := nI (i + 2)) (nI_add i 2) ?_
  refine va_sld hx hb hXs hbl hbA hw.2.2 (vp_in_nI (by omega) (by omega)) d_L_law_524 ?_
  obtain ⟨frx, lox, frm, lom, mc, ms, v, T1, S1, R1, O1, j1, dp1, ⟨f1, f2, f3, f4, f5⟩, w1, w2, ⟨b1, b2⟩, cX, cM⟩ := pr_node (mo := mo) (a := xs (nI (i + 1)).toNatClampNeg) (k := xs (nI (i + 2)).toNatClampNeg) l hX hS hR
  have jl := (jf_le O1.length f5).2
  have sl := slj_le O1.length f5
  obtain ⟨fx, hxo⟩ := hX.cell
  refine z_callV (n := 2) (As := [.int (xs (nI (i + 1)).toNatClampNeg), .int (xs (nI (i + 2)).toNatClampNeg)]) (rest := []) ⟨hx, hb, hml, hown, hts⟩ cX (z_in k_648 rfl) (z_in k_1 rfl) (z_in k_645 rfl) (z_in k_646 rfl) (z_in k_647 rfl) (by decide +kernel) ⟨by show frx + 1 ≤ 2048; omega, by show 8 + (4 + 11) + lox ≤ 84000; omega⟩ hK hE hw hA rfl hxo rfl hl.1 (Nat.le_of_ble_eq_true rfl) d_L_law_525 ⟨by show cells + mc ≤ 600000; omega, by show slots + ms ≤ 7302250; omega⟩ rfl (fun r9 h9 H locs hp hw => ?_)
  obtain ⟨r8, hX1, k1⟩ := hp
  subst r8
  refine W.eq (g2 := F0 m 528 ls [.int v]) rfl ?_
  refine lv_aload_n hx hb d_L_law_528 rfl (lv_at hl 2 rfl) ?_
  refine lv_aload_n hx hb d_L_law_529 rfl (lv_at hl 0 rfl) ?_
  refine lv_iload_n hx hb d_L_law_530 rfl (lv_at hl 3 rfl) ?_
  refine lv_iconst (v := 1) hx hb d_L_law_531 (by decide) ?_
  refine lv_iadd hx hb d_L_law_532 ?_
  refine z_topi (y := nI (i + 1)) (nI_add i 1) ?_
  refine va_sld hx hb hXs hbl hbA hw.2.2 (vp_in_nI (by omega) (by omega)) d_L_law_533 ?_
  refine lv_aload_n hx hb d_L_law_534 rfl (lv_at hl 0 rfl) ?_
  refine lv_iload_n hx hb d_L_law_535 rfl (lv_at hl 3 rfl) ?_
  refine lv_iconst (v := 2) hx hb d_L_law_536 (by decide) ?_
  refine lv_iadd hx hb d_L_law_537 ?_
  refine z_topi (y := nI (i + 2)) (nI_add i 2) ?_
  refine va_sld hx hb hXs hbl hbA hw.2.2 (vp_in_nI (by omega) (by omega)) d_L_law_538 ?_
  have hM1 := hM.k k1
  obtain ⟨fm, hmo⟩ := hM1.cell
  have cM := cM _ hM1
  refine z_callV (n := 2) (As := [.int (xs (nI (i + 1)).toNatClampNeg), .int (xs (nI (i + 2)).toNatClampNeg)]) (rest := [.int v]) ⟨hx, hb, hml, hown, hts⟩ cM (z_in k_1037 rfl) (z_in k_7 rfl) (z_in k_1034 rfl) (z_in k_1035 rfl) (z_in k_1036 rfl) (by decide +kernel) ⟨by show frm + 1 ≤ 2048; omega, by show 8 + (5 + 11) + lom ≤ 84000; omega⟩ hK hE hw hA rfl hmo rfl hl.1 (Nat.le_of_ble_eq_true rfl) d_L_law_539 ⟨by show cells + mc + 0 ≤ 600000; omega, by show slots + ms + 0 ≤ 7302250; omega⟩ rfl (fun r9 h9 H locs hp hw => ?_)
  obtain ⟨r8, hM2, k2⟩ := hp
  subst r8
  refine W.eq (g2 := F0 m 542 ls [.int v, .int v]) rfl ?_
  refine lv_icmp_eq (tgt := 653) hx hb d_L_law_542 (by decide) (fun c_542 => ?_) (fun c_542 => ?_)
  · -- 542: True
    exact kk _ _ _ _ _ ⟨T1, S1, R1, O1, j1, dp1, hX1.k k2, hM2, w1, w2, ⟨by omega, by omega⟩, hw⟩
  · -- 542: False
    exact absurd rfl c_542

set_option maxHeartbeats 4000000 in
set_option maxRecDepth 100000 in
theorem lb_value {p : Program} {l : Launch} {e : Env} {s : State} {m : MethodId} {below : List Frame} {meth : Method} {c : Code} {b L : Nat} {xs : Nat → Int32} {g : z_G} (C0 : lw_At p s m meth c b L xs) (hL : L ≤ 3072) (hK : va_K g.1 cls (ztys g) s) (hE : z_E g (fun q : Nat => s.heap.size ≤ q) s s.heap) {i : Nat} (hi : i + 6 ≤ L) {k : Nat} (hk : k < 512) {h : z_H} {xo mo : Nat} {H : Heap} {locs : List Loc} {cells slots : Nat} (I : LwI g s h xo mo H locs cells slots k) {ls : Array Slot} (hl : lv_has ls 4 [(0, .ref b), (1, .ref xo), (2, .ref mo), (3, .int (nI i))]) (kk : ∀ (h1 : z_H) (H1 : Heap) (locs1 : List Loc) (cells1 slots1 : Nat), LwI g s h1 xo mo H1 locs1 cells1 slots1 (k + 1) → W p l e room_1 s m #[Value.ref b] below meth c H1 locs1 cells1 slots1 (lw_Z below #[Value.ref b] s) (F0 m 653 ls [])) : W p l e room_1 s m #[Value.ref b] below meth c H locs cells slots (lw_Z below #[Value.ref b] s) (F0 m 547 ls []) := by
  obtain ⟨hx, hb, hr, hml, hown, hts0, hXs, hbl, hlocks, hgv⟩ := C0
  have hts : ∀ w ∈ z_tbl, w.before #[Value.ref b] s = true := fun w hw => hts0 w (List.mem_filter.mp hw).1
  have hA : ∀ q : Nat, s.heap.size ≤ q → (fun q : Nat => s.heap.size ≤ q) q := fun _ h => h
  have hbA : ¬ (fun q : Nat => s.heap.size ≤ q) b := Nat.not_le.mpr hbl
  obtain ⟨T, S, R, O, j, dp, hX, hM, hS, hR, ⟨bc, bs⟩, hw⟩ := I
  refine lv_aload_n hx hb d_L_law_547 rfl (lv_at hl 1 rfl) ?_
  refine lv_aload_n hx hb d_L_law_548 rfl (lv_at hl 0 rfl) ?_
  refine lv_iload_n hx hb d_L_law_549 rfl (lv_at hl 3 rfl) ?_
  refine lv_iconst (v := 1) hx hb d_L_law_550 (by decide) ?_
  refine lv_iadd hx hb d_L_law_551 ?_
  refine z_topi (y := nI (i + 1)) (nI_add i 1) ?_
  refine va_sld hx hb hXs hbl hbA hw.2.2 (vp_in_nI (by omega) (by omega)) d_L_law_552 ?_
  obtain ⟨frx, lox, frm, lom, mc, ms, v, T1, S1, R1, O1, j1, dp1, ⟨f1, f2, f3, f4, f5⟩, w1, w2, ⟨b1, b2⟩, cX, cM⟩ := pr_value (mo := mo) (a := xs (nI (i + 1)).toNatClampNeg) l hX hS hR
  have jl := (jf_le O1.length f5).2
  have sl := slj_le O1.length f5
  obtain ⟨fx, hxo⟩ := hX.cell
  refine z_callV (n := 1) (As := [.int (xs (nI (i + 1)).toNatClampNeg)]) (rest := []) ⟨hx, hb, hml, hown, hts⟩ cX (z_in k_657 rfl) (z_in k_1 rfl) (z_in k_654 rfl) (z_in k_655 rfl) (z_in k_656 rfl) (by decide +kernel) ⟨by show frx + 1 ≤ 2048; omega, by show 8 + (3 + 11) + lox ≤ 84000; omega⟩ hK hE hw hA rfl hxo rfl hl.1 (Nat.le_of_ble_eq_true rfl) d_L_law_553 ⟨by show cells + mc ≤ 600000; omega, by show slots + ms ≤ 7302250; omega⟩ rfl (fun r9 h9 H locs hp hw => ?_)
  obtain ⟨r8, hX1, k1⟩ := hp
  subst r8
  refine W.eq (g2 := F0 m 556 ls [.long v]) rfl ?_
  refine lv_aload_n hx hb d_L_law_556 rfl (lv_at hl 2 rfl) ?_
  refine lv_aload_n hx hb d_L_law_557 rfl (lv_at hl 0 rfl) ?_
  refine lv_iload_n hx hb d_L_law_558 rfl (lv_at hl 3 rfl) ?_
  refine lv_iconst (v := 1) hx hb d_L_law_559 (by decide) ?_
  refine lv_iadd hx hb d_L_law_560 ?_
  refine z_topi (y := nI (i + 1)) (nI_add i 1) ?_
  refine va_sld hx hb hXs hbl hbA hw.2.2 (vp_in_nI (by omega) (by omega)) d_L_law_561 ?_
  have hM1 := hM.k k1
  obtain ⟨fm, hmo⟩ := hM1.cell
  have cM := cM _ hM1
  refine z_callV (n := 1) (As := [.int (xs (nI (i + 1)).toNatClampNeg)]) (rest := [.long v]) ⟨hx, hb, hml, hown, hts⟩ cM (z_in k_1045 rfl) (z_in k_7 rfl) (z_in k_1042 rfl) (z_in k_1043 rfl) (z_in k_1044 rfl) (by decide +kernel) ⟨by show frm + 1 ≤ 2048; omega, by show 8 + (2 + 11) + lom ≤ 84000; omega⟩ hK hE hw hA rfl hmo rfl hl.1 (Nat.le_of_ble_eq_true rfl) d_L_law_562 ⟨by show cells + mc + 0 ≤ 600000; omega, by show slots + ms + 0 ≤ 7302250; omega⟩ rfl (fun r9 h9 H locs hp hw => ?_)
  obtain ⟨r8, hM2, k2⟩ := hp
  subst r8
  refine W.eq (g2 := F0 m 565 ls [.long v, .long v]) rfl ?_
  refine W.lcmp hx hb d_L_law_565 ?_
  refine lv_if_eq (tgt := 653) hx hb d_L_law_566 (by decide) (fun c_566 => ?_) (fun c_566 => ?_)
  · -- 566: True
    have c_566 : (v : Int64) = v := (lg_cmp_eq _ _).mp c_566
    exact kk _ _ _ _ _ ⟨T1, S1, R1, O1, j1, dp1, hX1.k k2, hM2, w1, w2, ⟨by omega, by omega⟩, hw⟩
  · -- 566: False
    have c_566 : ¬ ((v : Int64) = v) := fun z => c_566 ((lg_cmp_eq _ _).mpr z)
    exact absurd rfl c_566

set_option maxHeartbeats 4000000 in
set_option maxRecDepth 100000 in
theorem lb_textByte {p : Program} {l : Launch} {e : Env} {s : State} {m : MethodId} {below : List Frame} {meth : Method} {c : Code} {b L : Nat} {xs : Nat → Int32} {g : z_G} (C0 : lw_At p s m meth c b L xs) (hL : L ≤ 3072) (hK : va_K g.1 cls (ztys g) s) (hE : z_E g (fun q : Nat => s.heap.size ≤ q) s s.heap) {i : Nat} (hi : i + 6 ≤ L) {k : Nat} (hk : k < 512) {h : z_H} {xo mo : Nat} {H : Heap} {locs : List Loc} {cells slots : Nat} (I : LwI g s h xo mo H locs cells slots k) {ls : Array Slot} (hl : lv_has ls 4 [(0, .ref b), (1, .ref xo), (2, .ref mo), (3, .int (nI i))]) (kk : ∀ (h1 : z_H) (H1 : Heap) (locs1 : List Loc) (cells1 slots1 : Nat), LwI g s h1 xo mo H1 locs1 cells1 slots1 (k + 1) → W p l e room_1 s m #[Value.ref b] below meth c H1 locs1 cells1 slots1 (lw_Z below #[Value.ref b] s) (F0 m 653 ls [])) : W p l e room_1 s m #[Value.ref b] below meth c H locs cells slots (lw_Z below #[Value.ref b] s) (F0 m 571 ls []) := by
  obtain ⟨hx, hb, hr, hml, hown, hts0, hXs, hbl, hlocks, hgv⟩ := C0
  have hts : ∀ w ∈ z_tbl, w.before #[Value.ref b] s = true := fun w hw => hts0 w (List.mem_filter.mp hw).1
  have hA : ∀ q : Nat, s.heap.size ≤ q → (fun q : Nat => s.heap.size ≤ q) q := fun _ h => h
  have hbA : ¬ (fun q : Nat => s.heap.size ≤ q) b := Nat.not_le.mpr hbl
  obtain ⟨T, S, R, O, j, dp, hX, hM, hS, hR, ⟨bc, bs⟩, hw⟩ := I
  refine lv_aload_n hx hb d_L_law_571 rfl (lv_at hl 1 rfl) ?_
  refine lv_aload_n hx hb d_L_law_572 rfl (lv_at hl 0 rfl) ?_
  refine lv_iload_n hx hb d_L_law_573 rfl (lv_at hl 3 rfl) ?_
  refine lv_iconst (v := 1) hx hb d_L_law_574 (by decide) ?_
  refine lv_iadd hx hb d_L_law_575 ?_
  refine z_topi (y := nI (i + 1)) (nI_add i 1) ?_
  refine va_sld hx hb hXs hbl hbA hw.2.2 (vp_in_nI (by omega) (by omega)) d_L_law_576 ?_
  refine lv_aload_n hx hb d_L_law_577 rfl (lv_at hl 0 rfl) ?_
  refine lv_iload_n hx hb d_L_law_578 rfl (lv_at hl 3 rfl) ?_
  refine lv_iconst (v := 2) hx hb d_L_law_579 (by decide) ?_
  refine lv_iadd hx hb d_L_law_580 ?_
  refine z_topi (y := nI (i + 2)) (nI_add i 2) ?_
  refine va_sld hx hb hXs hbl hbA hw.2.2 (vp_in_nI (by omega) (by omega)) d_L_law_581 ?_
  obtain ⟨frx, lox, frm, lom, mc, ms, v, T1, S1, R1, O1, j1, dp1, ⟨f1, f2, f3, f4, f5⟩, w1, w2, ⟨b1, b2⟩, cX, cM⟩ := pr_textByte (mo := mo) (a := xs (nI (i + 1)).toNatClampNeg) (k := xs (nI (i + 2)).toNatClampNeg) l hX hS hR
  have jl := (jf_le O1.length f5).2
  have sl := slj_le O1.length f5
  obtain ⟨fx, hxo⟩ := hX.cell
  refine z_callV (n := 2) (As := [.int (xs (nI (i + 1)).toNatClampNeg), .int (xs (nI (i + 2)).toNatClampNeg)]) (rest := []) ⟨hx, hb, hml, hown, hts⟩ cX (z_in k_661 rfl) (z_in k_1 rfl) (z_in k_658 rfl) (z_in k_659 rfl) (z_in k_660 rfl) (by decide +kernel) ⟨by show frx + 1 ≤ 2048; omega, by show 8 + (4 + 11) + lox ≤ 84000; omega⟩ hK hE hw hA rfl hxo rfl hl.1 (Nat.le_of_ble_eq_true rfl) d_L_law_582 ⟨by show cells + mc ≤ 600000; omega, by show slots + ms ≤ 7302250; omega⟩ rfl (fun r9 h9 H locs hp hw => ?_)
  obtain ⟨r8, hX1, k1⟩ := hp
  subst r8
  refine W.eq (g2 := F0 m 585 ls [.int v]) rfl ?_
  refine lv_aload_n hx hb d_L_law_585 rfl (lv_at hl 2 rfl) ?_
  refine lv_aload_n hx hb d_L_law_586 rfl (lv_at hl 0 rfl) ?_
  refine lv_iload_n hx hb d_L_law_587 rfl (lv_at hl 3 rfl) ?_
  refine lv_iconst (v := 1) hx hb d_L_law_588 (by decide) ?_
  refine lv_iadd hx hb d_L_law_589 ?_
  refine z_topi (y := nI (i + 1)) (nI_add i 1) ?_
  refine va_sld hx hb hXs hbl hbA hw.2.2 (vp_in_nI (by omega) (by omega)) d_L_law_590 ?_
  refine lv_aload_n hx hb d_L_law_591 rfl (lv_at hl 0 rfl) ?_
  refine lv_iload_n hx hb d_L_law_592 rfl (lv_at hl 3 rfl) ?_
  refine lv_iconst (v := 2) hx hb d_L_law_593 (by decide) ?_
  refine lv_iadd hx hb d_L_law_594 ?_
  refine z_topi (y := nI (i + 2)) (nI_add i 2) ?_
  refine va_sld hx hb hXs hbl hbA hw.2.2 (vp_in_nI (by omega) (by omega)) d_L_law_595 ?_
  have hM1 := hM.k k1
  obtain ⟨fm, hmo⟩ := hM1.cell
  have cM := cM _ hM1
  refine z_callV (n := 2) (As := [.int (xs (nI (i + 1)).toNatClampNeg), .int (xs (nI (i + 2)).toNatClampNeg)]) (rest := [.int v]) ⟨hx, hb, hml, hown, hts⟩ cM (z_in k_1049 rfl) (z_in k_7 rfl) (z_in k_1046 rfl) (z_in k_1047 rfl) (z_in k_1048 rfl) (by decide +kernel) ⟨by show frm + 1 ≤ 2048; omega, by show 8 + (3 + 11) + lom ≤ 84000; omega⟩ hK hE hw hA rfl hmo rfl hl.1 (Nat.le_of_ble_eq_true rfl) d_L_law_596 ⟨by show cells + mc + 0 ≤ 600000; omega, by show slots + ms + 0 ≤ 7302250; omega⟩ rfl (fun r9 h9 H locs hp hw => ?_)
  obtain ⟨r8, hM2, k2⟩ := hp
  subst r8
  refine W.eq (g2 := F0 m 599 ls [.int v, .int v]) rfl ?_
  refine lv_icmp_eq (tgt := 653) hx hb d_L_law_599 (by decide) (fun c_599 => ?_) (fun c_599 => ?_)
  · -- 599: True
    exact kk _ _ _ _ _ ⟨T1, S1, R1, O1, j1, dp1, hX1.k k2, hM2, w1, w2, ⟨by omega, by omega⟩, hw⟩
  · -- 599: False
    exact absurd rfl c_599

set_option maxHeartbeats 4000000 in
set_option maxRecDepth 100000 in
theorem lb_isWhole {p : Program} {l : Launch} {e : Env} {s : State} {m : MethodId} {below : List Frame} {meth : Method} {c : Code} {b L : Nat} {xs : Nat → Int32} {g : z_G} (C0 : lw_At p s m meth c b L xs) (hL : L ≤ 3072) (hK : va_K g.1 cls (ztys g) s) (hE : z_E g (fun q : Nat => s.heap.size ≤ q) s s.heap) {i : Nat} (hi : i + 6 ≤ L) {k : Nat} (hk : k < 512) {h : z_H} {xo mo : Nat} {H : Heap} {locs : List Loc} {cells slots : Nat} (I : LwI g s h xo mo H locs cells slots k) {ls : Array Slot} (hl : lv_has ls 4 [(0, .ref b), (1, .ref xo), (2, .ref mo), (3, .int (nI i))]) (kk : ∀ (h1 : z_H) (H1 : Heap) (locs1 : List Loc) (cells1 slots1 : Nat), LwI g s h1 xo mo H1 locs1 cells1 slots1 (k + 1) → W p l e room_1 s m #[Value.ref b] below meth c H1 locs1 cells1 slots1 (lw_Z below #[Value.ref b] s) (F0 m 653 ls [])) : W p l e room_1 s m #[Value.ref b] below meth c H locs cells slots (lw_Z below #[Value.ref b] s) (F0 m 604 ls []) := by
  obtain ⟨hx, hb, hr, hml, hown, hts0, hXs, hbl, hlocks, hgv⟩ := C0
  have hts : ∀ w ∈ z_tbl, w.before #[Value.ref b] s = true := fun w hw => hts0 w (List.mem_filter.mp hw).1
  have hA : ∀ q : Nat, s.heap.size ≤ q → (fun q : Nat => s.heap.size ≤ q) q := fun _ h => h
  have hbA : ¬ (fun q : Nat => s.heap.size ≤ q) b := Nat.not_le.mpr hbl
  obtain ⟨T, S, R, O, j, dp, hX, hM, hS, hR, ⟨bc, bs⟩, hw⟩ := I
  refine lv_aload_n hx hb d_L_law_604 rfl (lv_at hl 1 rfl) ?_
  obtain ⟨frx, lox, frm, lom, mc, ms, v, T1, S1, R1, O1, j1, dp1, ⟨f1, f2, f3, f4, f5⟩, w1, w2, ⟨b1, b2⟩, cX, cM⟩ := pr_isWhole (mo := mo) l hX hS hR
  have jl := (jf_le O1.length f5).2
  have sl := slj_le O1.length f5
  obtain ⟨fx, hxo⟩ := hX.cell
  refine z_callV (n := 0) (As := []) (rest := []) ⟨hx, hb, hml, hown, hts⟩ cX (z_in k_665 rfl) (z_in k_1 rfl) (z_in k_662 rfl) (z_in k_663 rfl) (z_in k_664 rfl) (by decide +kernel) ⟨by show frx + 1 ≤ 2048; omega, by show 8 + (1 + 11) + lox ≤ 84000; omega⟩ hK hE hw hA rfl hxo rfl hl.1 (Nat.le_of_ble_eq_true rfl) d_L_law_605 ⟨by show cells + mc ≤ 600000; omega, by show slots + ms ≤ 7302250; omega⟩ rfl (fun r9 h9 H locs hp hw => ?_)
  obtain ⟨r8, hX1, k1⟩ := hp
  subst r8
  refine W.eq (g2 := F0 m 608 ls [.int v]) rfl ?_
  refine lv_aload_n hx hb d_L_law_608 rfl (lv_at hl 2 rfl) ?_
  have hM1 := hM.k k1
  obtain ⟨fm, hmo⟩ := hM1.cell
  have cM := cM _ hM1
  refine z_callV (n := 0) (As := []) (rest := [.int v]) ⟨hx, hb, hml, hown, hts⟩ cM (z_in k_1053 rfl) (z_in k_7 rfl) (z_in k_1050 rfl) (z_in k_1051 rfl) (z_in k_1052 rfl) (by decide +kernel) ⟨by show frm + 1 ≤ 2048; omega, by show 8 + (1 + 11) + lom ≤ 84000; omega⟩ hK hE hw hA rfl hmo rfl hl.1 (Nat.le_of_ble_eq_true rfl) d_L_law_609 ⟨by show cells + mc + 0 ≤ 600000; omega, by show slots + ms + 0 ≤ 7302250; omega⟩ rfl (fun r9 h9 H locs hp hw => ?_)
  obtain ⟨r8, hM2, k2⟩ := hp
  subst r8
  refine W.eq (g2 := F0 m 612 ls [.int v, .int v]) rfl ?_
  refine lv_icmp_eq (tgt := 653) hx hb d_L_law_612 (by decide) (fun c_612 => ?_) (fun c_612 => ?_)
  · -- 612: True
    exact kk _ _ _ _ _ ⟨T1, S1, R1, O1, j1, dp1, hX1.k k2, hM2, w1, w2, ⟨by omega, by omega⟩, hw⟩
  · -- 612: False
    exact absurd rfl c_612

set_option maxHeartbeats 4000000 in
set_option maxRecDepth 100000 in
theorem lb_write {p : Program} {l : Launch} {e : Env} {s : State} {m : MethodId} {below : List Frame} {meth : Method} {c : Code} {b L : Nat} {xs : Nat → Int32} {g : z_G} (C0 : lw_At p s m meth c b L xs) (hL : L ≤ 3072) (hK : va_K g.1 cls (ztys g) s) (hE : z_E g (fun q : Nat => s.heap.size ≤ q) s s.heap) {i : Nat} (hi : i + 6 ≤ L) {k : Nat} (hk : k < 512) {h : z_H} {xo mo : Nat} {H : Heap} {locs : List Loc} {cells slots : Nat} (I : LwI g s h xo mo H locs cells slots k) {ls : Array Slot} (hl : lv_has ls 4 [(0, .ref b), (1, .ref xo), (2, .ref mo), (3, .int (nI i))]) (kk : ∀ (h1 : z_H) (H1 : Heap) (locs1 : List Loc) (cells1 slots1 : Nat), LwI g s h1 xo mo H1 locs1 cells1 slots1 (k + 1) → W p l e room_1 s m #[Value.ref b] below meth c H1 locs1 cells1 slots1 (lw_Z below #[Value.ref b] s) (F0 m 653 ls [])) : W p l e room_1 s m #[Value.ref b] below meth c H locs cells slots (lw_Z below #[Value.ref b] s) (F0 m 617 ls []) := by
  obtain ⟨hx, hb, hr, hml, hown, hts0, hXs, hbl, hlocks, hgv⟩ := C0
  have hts : ∀ w ∈ z_tbl, w.before #[Value.ref b] s = true := fun w hw => hts0 w (List.mem_filter.mp hw).1
  have hA : ∀ q : Nat, s.heap.size ≤ q → (fun q : Nat => s.heap.size ≤ q) q := fun _ h => h
  have hbA : ¬ (fun q : Nat => s.heap.size ≤ q) b := Nat.not_le.mpr hbl
  obtain ⟨T, S, R, O, j, dp, hX, hM, hS, hR, ⟨bc, bs⟩, hw⟩ := I
  refine lv_aload_n hx hb d_L_law_617 rfl (lv_at hl 1 rfl) ?_
  obtain ⟨frx, lox, frm, lom, mc, ms, v, T1, S1, R1, O1, j1, dp1, ⟨f1, f2, f3, f4, f5⟩, w1, w2, ⟨b1, b2⟩, cX, cM⟩ := pr_write (mo := mo) l hX hS hR
  have jl := (jf_le O1.length f5).2
  have sl := slj_le O1.length f5
  obtain ⟨fx, hxo⟩ := hX.cell
  refine z_callV (n := 0) (As := []) (rest := []) ⟨hx, hb, hml, hown, hts⟩ cX (z_in k_677 rfl) (z_in k_1 rfl) (z_in k_674 rfl) (z_in k_675 rfl) (z_in k_676 rfl) (by decide +kernel) ⟨by show frx + 1 ≤ 2048; omega, by show 8 + (1 + 11) + lox ≤ 84000; omega⟩ hK hE hw hA rfl hxo rfl hl.1 (Nat.le_of_ble_eq_true rfl) d_L_law_618 ⟨by show cells + mc ≤ 600000; omega, by show slots + ms ≤ 7302250; omega⟩ rfl (fun r9 h9 H locs hp hw => ?_)
  obtain ⟨r8, hX1, k1⟩ := hp
  subst r8
  refine W.eq (g2 := F0 m 621 ls [.int v]) rfl ?_
  refine lv_aload_n hx hb d_L_law_621 rfl (lv_at hl 2 rfl) ?_
  have hM1 := hM.k k1
  obtain ⟨fm, hmo⟩ := hM1.cell
  have cM := cM _ hM1
  refine z_callV (n := 0) (As := []) (rest := [.int v]) ⟨hx, hb, hml, hown, hts⟩ cM (z_in k_1061 rfl) (z_in k_7 rfl) (z_in k_1058 rfl) (z_in k_1059 rfl) (z_in k_1060 rfl) (by decide +kernel) ⟨by show frm + 1 ≤ 2048; omega, by show 8 + (1 + 11) + lom ≤ 84000; omega⟩ hK hE hw hA rfl hmo rfl hl.1 (Nat.le_of_ble_eq_true rfl) d_L_law_622 ⟨by show cells + mc + 0 ≤ 600000; omega, by show slots + ms + 0 ≤ 7302250; omega⟩ rfl (fun r9 h9 H locs hp hw => ?_)
  obtain ⟨r8, hM2, k2⟩ := hp
  subst r8
  refine W.eq (g2 := F0 m 625 ls [.int v, .int v]) rfl ?_
  refine lv_icmp_eq (tgt := 653) hx hb d_L_law_625 (by decide) (fun c_625 => ?_) (fun c_625 => ?_)
  · -- 625: True
    exact kk _ _ _ _ _ ⟨T1, S1, R1, O1, j1, dp1, hX1.k k2, hM2, w1, w2, ⟨by omega, by omega⟩, hw⟩
  · -- 625: False
    exact absurd rfl c_625

set_option maxHeartbeats 4000000 in
set_option maxRecDepth 100000 in
theorem lb_output {p : Program} {l : Launch} {e : Env} {s : State} {m : MethodId} {below : List Frame} {meth : Method} {c : Code} {b L : Nat} {xs : Nat → Int32} {g : z_G} (C0 : lw_At p s m meth c b L xs) (hL : L ≤ 3072) (hK : va_K g.1 cls (ztys g) s) (hE : z_E g (fun q : Nat => s.heap.size ≤ q) s s.heap) {i : Nat} (hi : i + 6 ≤ L) {k : Nat} (hk : k < 512) {h : z_H} {xo mo : Nat} {H : Heap} {locs : List Loc} {cells slots : Nat} (I : LwI g s h xo mo H locs cells slots k) {ls : Array Slot} (hl : lv_has ls 4 [(0, .ref b), (1, .ref xo), (2, .ref mo), (3, .int (nI i))]) (kk : ∀ (h1 : z_H) (H1 : Heap) (locs1 : List Loc) (cells1 slots1 : Nat), LwI g s h1 xo mo H1 locs1 cells1 slots1 (k + 1) → W p l e room_1 s m #[Value.ref b] below meth c H1 locs1 cells1 slots1 (lw_Z below #[Value.ref b] s) (F0 m 653 ls [])) : W p l e room_1 s m #[Value.ref b] below meth c H locs cells slots (lw_Z below #[Value.ref b] s) (F0 m 630 ls []) := by
  obtain ⟨hx, hb, hr, hml, hown, hts0, hXs, hbl, hlocks, hgv⟩ := C0
  have hts : ∀ w ∈ z_tbl, w.before #[Value.ref b] s = true := fun w hw => hts0 w (List.mem_filter.mp hw).1
  have hA : ∀ q : Nat, s.heap.size ≤ q → (fun q : Nat => s.heap.size ≤ q) q := fun _ h => h
  have hbA : ¬ (fun q : Nat => s.heap.size ≤ q) b := Nat.not_le.mpr hbl
  obtain ⟨T, S, R, O, j, dp, hX, hM, hS, hR, ⟨bc, bs⟩, hw⟩ := I
  refine lv_aload_n hx hb d_L_law_630 rfl (lv_at hl 1 rfl) ?_
  refine lv_aload_n hx hb d_L_law_631 rfl (lv_at hl 0 rfl) ?_
  refine lv_iload_n hx hb d_L_law_632 rfl (lv_at hl 3 rfl) ?_
  refine lv_iconst (v := 1) hx hb d_L_law_633 (by decide) ?_
  refine lv_iadd hx hb d_L_law_634 ?_
  refine z_topi (y := nI (i + 1)) (nI_add i 1) ?_
  refine va_sld hx hb hXs hbl hbA hw.2.2 (vp_in_nI (by omega) (by omega)) d_L_law_635 ?_
  obtain ⟨frx, lox, frm, lom, mc, ms, v, T1, S1, R1, O1, j1, dp1, ⟨f1, f2, f3, f4, f5⟩, w1, w2, ⟨b1, b2⟩, cX, cM⟩ := pr_output (mo := mo) (k := xs (nI (i + 1)).toNatClampNeg) l hX hS hR
  have jl := (jf_le O1.length f5).2
  have sl := slj_le O1.length f5
  obtain ⟨fx, hxo⟩ := hX.cell
  refine z_callV (n := 1) (As := [.int (xs (nI (i + 1)).toNatClampNeg)]) (rest := []) ⟨hx, hb, hml, hown, hts⟩ cX (z_in k_757 rfl) (z_in k_1 rfl) (z_in k_754 rfl) (z_in k_755 rfl) (z_in k_756 rfl) (by decide +kernel) ⟨by show frx + 1 ≤ 2048; omega, by show 8 + (2 + 11) + lox ≤ 84000; omega⟩ hK hE hw hA rfl hxo rfl hl.1 (Nat.le_of_ble_eq_true rfl) d_L_law_636 ⟨by show cells + mc ≤ 600000; omega, by show slots + ms ≤ 7302250; omega⟩ rfl (fun r9 h9 H locs hp hw => ?_)
  obtain ⟨r8, hX1, k1⟩ := hp
  subst r8
  refine W.eq (g2 := F0 m 639 ls [.int v]) rfl ?_
  refine lv_aload_n hx hb d_L_law_639 rfl (lv_at hl 2 rfl) ?_
  refine lv_aload_n hx hb d_L_law_640 rfl (lv_at hl 0 rfl) ?_
  refine lv_iload_n hx hb d_L_law_641 rfl (lv_at hl 3 rfl) ?_
  refine lv_iconst (v := 1) hx hb d_L_law_642 (by decide) ?_
  refine lv_iadd hx hb d_L_law_643 ?_
  refine z_topi (y := nI (i + 1)) (nI_add i 1) ?_
  refine va_sld hx hb hXs hbl hbA hw.2.2 (vp_in_nI (by omega) (by omega)) d_L_law_644 ?_
  have hM1 := hM.k k1
  obtain ⟨fm, hmo⟩ := hM1.cell
  have cM := cM _ hM1
  refine z_callV (n := 1) (As := [.int (xs (nI (i + 1)).toNatClampNeg)]) (rest := [.int v]) ⟨hx, hb, hml, hown, hts⟩ cM (z_in k_1096 rfl) (z_in k_7 rfl) (z_in k_1093 rfl) (z_in k_1094 rfl) (z_in k_1095 rfl) (by decide +kernel) ⟨by show frm + 1 ≤ 2048; omega, by show 8 + (2 + 11) + lom ≤ 84000; omega⟩ hK hE hw hA rfl hmo rfl hl.1 (Nat.le_of_ble_eq_true rfl) d_L_law_645 ⟨by show cells + mc + 0 ≤ 600000; omega, by show slots + ms + 0 ≤ 7302250; omega⟩ rfl (fun r9 h9 H locs hp hw => ?_)
  obtain ⟨r8, hM2, k2⟩ := hp
  subst r8
  refine W.eq (g2 := F0 m 648 ls [.int v, .int v]) rfl ?_
  refine lv_icmp_eq (tgt := 653) hx hb d_L_law_648 (by decide) (fun c_648 => ?_) (fun c_648 => ?_)
  · -- 648: True
    exact kk _ _ _ _ _ ⟨T1, S1, R1, O1, j1, dp1, hX1.k k2, hM2, w1, w2, ⟨by omega, by omega⟩, hw⟩
  · -- 648: False
    exact absurd rfl c_648

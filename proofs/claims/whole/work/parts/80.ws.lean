/-- what holds of every schema that a text gives -/
def WS (S : Sch) (dp : Nat → Nat) : Prop := scB S ∧ grOK S ∧ coOK S ∧ lvOK S ∧ unq S ∧ dpOK S dp ∧ tyOK S ∧ gtOK S
/-- S1 has S's fields, and more behind them -/
def exS (S S1 : Sch) (dp dp1 : Nat → Nat) : Prop := S.1 ≤ S1.1 ∧ ∀ i, i < S.1 → S1.2 i = S.2 i ∧ dp1 i = dp i
/-- the group that a field comes into, and how deep it is -/
def grD (S : Sch) (dp : Nat → Nat) (gr : Int32) (d : Nat) : Prop := (gr = -1 ∧ d = 0) ∨ ∃ j, j < S.1 ∧ gr = nI j ∧ d = dp j + 1 ∧ fTy (S.2 j) = 4
theorem exS.rf (S : Sch) (dp : Nat → Nat) : exS S S dp dp := ⟨Nat.le_refl _, fun _ _ => ⟨rfl, rfl⟩⟩
theorem exS.tr {S S1 S2 : Sch} {dp dp1 dp2 : Nat → Nat} (h1 : exS S S1 dp dp1) (h2 : exS S1 S2 dp1 dp2) : exS S S2 dp dp2 :=
  ⟨Nat.le_trans h1.1 h2.1, fun i hi => ⟨(h2.2 i (Nat.lt_of_lt_of_le hi h1.1)).1.trans (h1.2 i hi).1, (h2.2 i (Nat.lt_of_lt_of_le hi h1.1)).2.trans (h1.2 i hi).2⟩⟩
theorem grD.up {S S1 : Sch} {dp dp1 : Nat → Nat} {gr : Int32} {d : Nat} (h : grD S dp gr d) (hx : exS S S1 dp dp1) : grD S1 dp1 gr d := by
  rcases h with h | ⟨j, h1, h2, h3, h4⟩
  · exact Or.inl h
  · refine Or.inr ⟨j, Nat.lt_of_lt_of_le h1 hx.1, h2, ?_, ?_⟩
    · rw [(hx.2 j h1).2]; exact h3
    · rw [(hx.2 j h1).1]; exact h4
theorem WS0 : WS sch0 (fun _ => 0) :=
  ⟨scB0, grOK0, fun i hi => absurd hi (Nat.not_lt_zero _), fun i hi => absurd hi (Nat.not_lt_zero _), fun i j hi => absurd hi (Nat.not_lt_zero _), fun i hi => absurd hi (Nat.not_lt_zero _), fun i hi => absurd hi (Nat.not_lt_zero _), fun i j hi => absurd hi (Nat.not_lt_zero _)⟩
theorem upR_add {S : Sch} {ki ty gr x : Int32} {nm : List Nat} (hs : S.1 ≤ 128) (h : x = -1 ∨ ∃ j, j < S.1 ∧ x = nI j) : upR (addF S ki ty gr nm) x = upR S x ∧ upD (addF S ki ty gr nm) x = upD S x := by
  unfold upR upD
  rcases h with h | ⟨j, h1, h2⟩
  · rw [if_pos h, if_pos h, if_pos h, if_pos h]; exact ⟨rfl, rfl⟩
  · rw [h2, nI_clamp (by omega), addF_old h1]; exact ⟨rfl, rfl⟩
theorem WS.add {S : Sch} {dp : Nat → Nat} (h : WS S dp) {ki ty gr : Int32} {d a e : Nat} {t : Nat → Nat} (hgd : grD S dp gr d) (hty : ty = nI 0 ∨ ty = nI 1 ∨ ty = nI 2 ∨ ty = nI 3 ∨ ty = nI 4) (hst : nmSt S t gr ty d a e = true) (hb : ∀ k, k < e - a → t (a + k) < 256) : WS (addF S ki ty gr (nmL t a e)) (fun i => if i = S.1 then d else dp i) ∧ exS S (addF S ki ty gr (nmL t a e)) dp (fun i => if i = S.1 then d else dp i) := by
  obtain ⟨hB, hgr, hco, hlv, hu, hdp, hto, hgt⟩ := h
  have hs := hB.1
  unfold nmSt at hst
  simp only [Bool.and_eq_true, Bool.or_eq_true, decide_eq_true_eq, Bool.not_eq_true', decide_eq_false_iff_not] at hst
  obtain ⟨⟨⟨hlen, hsz, hcol⟩, hdep⟩, hnm⟩ := hst
  have hgv : gr = -1 ∨ ∃ i, i < S.1 ∧ gr = nI i := by
    rcases hgd with z | ⟨j, h1, h2, -⟩
    · exact Or.inl z.1
    · exact Or.inr ⟨j, h1, h2⟩
  have hold : ∀ i, i < S.1 → (addF S ki ty gr (nmL t a e)).2 i = S.2 i := fun i hi => addF_old hi
  have hnew : (addF S ki ty gr (nmL t a e)).2 S.1 = newF S ki ty gr (nmL t a e) := addF_new
  have hsp : ∀ i, i < (addF S ki ty gr (nmL t a e)).1 → i < S.1 ∨ i = S.1 := fun i hi => by
    have : i < S.1 + 1 := hi
    omega
  refine ⟨⟨hB.add (by omega) (fun z => hcol.resolve_left z) (by rw [nmL_len]; exact hlen) (fun k hk => ?_), grOK_add hgr hgv, ?_, ?_, ?_, ?_, ?_, ?_⟩, ?_⟩
  · rw [nmL_len] at hk; rw [nmL_get t hk]; exact hb k hk
  · intro i hi
    rcases hsp i hi with z | z
    · rw [hold i z, ccC_congr (G := S.2) i (fun j hj => hold j (by omega))]; exact hco i z
    · subst z; rw [hnew, ccC_congr (G := S.2) S.1 hold]; rfl
  · intro i hi
    rcases hsp i hi with z | z
    · have hg : fGr (S.2 i) = -1 ∨ ∃ j, j < S.1 ∧ fGr (S.2 i) = nI j := by
        rcases hgr i z with y | ⟨j, hj, y⟩
        · exact Or.inl y
        · exact Or.inr ⟨j, by omega, y⟩
      rw [hold i z, (upR_add hs hg).1, (upR_add hs hg).2]; exact hlv i z
    · subst z; rw [hnew]
      show upR S gr + _ = upR (addF S ki ty gr (nmL t a e)) gr + _ ∧ upD S gr + _ = upD (addF S ki ty gr (nmL t a e)) gr + _
      rw [(upR_add hs hgv).1, (upR_add hs hgv).2]; exact ⟨rfl, rfl⟩
  · have hno : ∀ i, i < S.1 → fGr (S.2 i) = gr → ¬ fNm (S.2 i) = nmL t a e := by
      intro i hi hg hn
      have h1 : nmN S gr t a (e - a) S.1 = true := by rw [← nmd_none hs, decide_eq_true hnm]
      have h2 := (nmN_all S.1).mp h1 i hi
      have h3 : mtc S gr t a (e - a) i = true := mtc_yes.mpr ⟨hg, by rw [hn, nmL_len], fun k hk => by rw [hn, nmL_get t hk]⟩
      rw [h2] at h3; cases h3
    intro i j hi hj h1 h2
    rcases hsp i hi with z | z <;> rcases hsp j hj with y | y
    · rw [hold i z, hold j y] at h1 h2; exact hu i j z y h1 h2
    · subst y; rw [hold i z, hnew] at h1 h2; exact absurd h2 (hno i z h1)
    · subst z; rw [hold j y, hnew] at h1 h2; exact absurd h2.symm (hno j y h1.symm)
    · rw [z, y]
  · intro i hi
    rcases hsp i hi with z | z
    · rw [hold i z]
      have h1 := hdp i z
      refine ⟨fun y => ?_, fun j hj y => ?_, fun y => ?_⟩
      · dsimp only; rw [if_neg (by omega)]; exact h1.1 y
      · have hji : j < i := by
          rcases hgr i z with w | ⟨j2, hj2, w⟩
          · rw [w] at y; exact absurd y.symm (nI_ne1 (by have : j < S.1 + 1 := hj; omega))
          · have := (nI_eq (a := j2) (b := j) (by omega) (by have : j < S.1 + 1 := hj; omega)).mp (w.symm.trans y); omega
        dsimp only; rw [if_neg (by omega), if_neg (by omega)]; exact h1.2.1 j (by omega) y
      · dsimp only; rw [if_neg (by omega)]; exact h1.2.2 y
    · subst z
      rw [hnew]
      refine ⟨fun y => ?_, fun j hj y => ?_, fun y => ?_⟩
      · dsimp only; rw [if_pos rfl]
        have y : gr = -1 := y
        rcases hgd with w | ⟨j, w1, w2, -⟩
        · exact w.2
        · rw [w2] at y; exact absurd y (nI_ne1 (by omega))
      · dsimp only; rw [if_pos rfl]
        have y : gr = nI j := y
        have hj : j < S.1 + 1 := hj
        rcases hgd with w | ⟨j2, w1, w2, w3, -⟩
        · rw [w.1] at y; exact absurd y.symm (nI_ne1 (by omega))
        · have e9 := (nI_eq (a := j2) (b := j) (by omega) (by omega)).mp (w2.symm.trans y)
          subst e9
          rw [if_neg (by omega)]; exact w3
      · dsimp only; rw [if_pos rfl]
        have y : ty = 4 := y
        rcases hdep with w | w
        · exact absurd y w
        · omega
  · intro i hi
    rcases hsp i hi with z | z
    · rw [hold i z]; exact hto i z
    · subst z; rw [hnew]; exact hty
  · intro i j hi hj h1
    have hj' : j < S.1 + 1 := hj
    rcases hsp i hi with z | z
    · rw [hold i z] at h1
      have hji : j < i := by
        rcases hgr i z with w | ⟨j2, hj2, w⟩
        · rw [w] at h1; exact absurd h1.symm (nI_ne1 (by omega))
        · have := (nI_eq (a := j2) (b := j) (by omega) (by omega)).mp (w.symm.trans h1); omega
      rw [hold j (by omega)]; exact hgt i j z (by omega) h1
    · subst z
      rw [hnew] at h1
      have h1 : gr = nI j := h1
      rcases hgd with w | ⟨j2, w1, w2, w3, w4⟩
      · rw [w.1] at h1; exact absurd h1.symm (nI_ne1 (by omega))
      · have e9 := (nI_eq (a := j2) (b := j) (by omega) (by omega)).mp (w2.symm.trans h1)
        subst e9
        rw [hold j2 w1]; exact w4
  · refine ⟨Nat.le_succ _, fun i hi => ⟨hold i hi, ?_⟩⟩
    show (if i = S.1 then d else dp i) = dp i
    rw [if_neg (by omega)]
theorem pick_ix {t : Nat → Nat} {q e : Nat} : ∀ (l : List Nat) (k : Nat) (x : Int32 × Nat), pick t q e l k = .inr x → ∃ j, j < l.length ∧ x.1 = nI (k + j) := by
  intro l
  induction l with
  | nil => intro k x h; cases h
  | cons i l ih =>
    intro k x h
    simp only [pick] at h
    split at h
    · injection h with h; subst h; exact ⟨0, by simp, rfl⟩
    · obtain ⟨j, h1, h2⟩ := ih (k + 1) x h
      exact ⟨j + 1, by simp only [List.length_cons]; omega, by rw [h2]; congr 1; omega⟩
theorem rdW_ix {t : Nat → Nat} {n p : Nat} {l : List Nat} {x : Int32 × Nat} (h : rdW t n p l = .inr x) : ∃ j, j < l.length ∧ x.1 = nI j := by
  unfold rdW at h
  split at h
  · obtain ⟨j, h1, h2⟩ := pick_ix l 0 x h
    exact ⟨j, h1, by rw [h2, Nat.zero_add]⟩
  · cases h
/-- a reading of a field keeps it -/
def kpF (FR : Nat → Sch → Res) (gr : Int32) (d : Nat) : Prop := ∀ p S dp p1 S1, WS S dp → grD S dp gr d → FR p S = .inr (p1, S1) → ∃ dp1, WS S1 dp1 ∧ exS S S1 dp dp1
theorem fieldR_ws {G : Nat → Sch → Nat → Res} {t : Nat → Nat} {n : Nat} (ht : ∀ k, k < n → t k < 256) {gr : Int32} {d : Nat} (hG : ∀ e S dp gi p1 S1, WS S dp → gi < S.1 → fTy (S.2 gi) = 4 → dp gi = d → G e S gi = .inr (p1, S1) → ∃ dp1, WS S1 dp1 ∧ exS S S1 dp dp1) : kpF (fun p S => fieldR G t n p S gr d) gr d := by
  intro p S dp p1 S1 hW hgd h
  dsimp only at h
  unfold fieldR at h
  rcases h1 : rdW t n p [0, 1, 2] with F | x
  · rw [h1] at h; cases h
  · rw [h1] at h
    dsimp only at h
    rcases h2 : rdW t n x.2 [3, 4, 5, 6, 7] with F | y
    · rw [h2] at h; cases h
    · rw [h2] at h
      dsimp only at h
      split at h
      · rename_i hl
        split at h
        · rename_i hn
          obtain ⟨l1, l2, -⟩ := let_we ht hl
          obtain ⟨j, hj, ej⟩ := rdW_ix h2
          have hty : y.1 = nI 0 ∨ y.1 = nI 1 ∨ y.1 = nI 2 ∨ y.1 = nI 3 ∨ y.1 = nI 4 := by
            rw [ej]
            have hj : j < 5 := hj
            rcases (show j = 0 ∨ j = 1 ∨ j = 2 ∨ j = 3 ∨ j = 4 by omega) with z | z | z | z | z <;> subst z <;> simp
          obtain ⟨w1, w2⟩ := hW.add (ki := x.1) hgd hty hn (fun k hk => ht _ (by omega))
          split at h
          · rename_i h4
            obtain ⟨dp1, a1, a2⟩ := hG _ _ (fun i => if i = S.1 then d else dp i) _ _ _ w1 (Nat.lt_succ_self _) (by rw [addF_new]; exact h4) (if_pos rfl) h
            exact ⟨dp1, a1, w2.tr a2⟩
          · unfold sgn at h
            split at h
            · injection h with h; injection h with h3 h4; subst h4; exact ⟨_, w1, w2⟩
            · cases h
        · cases h
      · cases h
theorem grpL_ws {FR : Nat → Sch → Res} {t : Nat → Nat} {n : Nat} {gr : Int32} {d : Nat} (hF : kpF FR gr d) : ∀ c first, kpF (fun p S => grpL FR t n c first p S) gr d := by
  intro c
  induction c with
  | zero => intro first p S dp p1 S1 _ _ h; cases h
  | succ c ih =>
    intro first p S dp p1 S1 hW hgd h
    dsimp only [grpL] at h
    split at h
    · injection h with h; injection h with h3 h4; subst h4; exact ⟨dp, hW, exS.rf _ _⟩
    · split at h
      · cases h
      · rename_i y hy
        obtain ⟨dp1, a1, a2⟩ := hF _ S dp y.1 y.2 hW hgd hy
        obtain ⟨dp2, b1, b2⟩ := ih false y.1 y.2 dp1 p1 S1 a1 (hgd.up a2) h
        exact ⟨dp2, b1, a2.tr b2⟩
theorem topL_ws {FR : Nat → Sch → Res} {t : Nat → Nat} {n : Nat} {gr : Int32} {d : Nat} (hF : kpF FR gr d) : ∀ c first, kpF (fun p S => topL FR t n c first p S) gr d := by
  intro c
  induction c with
  | zero => intro first p S dp p1 S1 _ _ h; cases h
  | succ c ih =>
    intro first p S dp p1 S1 hW hgd h
    dsimp only [topL] at h
    split at h
    · injection h with h; injection h with h3 h4; subst h4; exact ⟨dp, hW, exS.rf _ _⟩
    · split at h
      · cases h
      · rename_i y hy
        obtain ⟨dp1, a1, a2⟩ := hF _ S dp y.1 y.2 hW hgd hy
        obtain ⟨dp2, b1, b2⟩ := ih false y.1 y.2 dp1 p1 S1 a1 (hgd.up a2) h
        exact ⟨dp2, b1, a2.tr b2⟩
theorem fldD_ws {t : Nat → Nat} {n : Nat} (ht : ∀ k, k < n → t k < 256) : ∀ D d gr, kpF (fun p S => fldD t n D d p S gr) gr d := by
  intro D
  induction D with
  | zero => intro d gr p S dp p1 S1 _ _ h; cases h
  | succ D ih =>
    intro d gr
    refine fieldR_ws ht (fun e S dp gi p1 S1 hW hgi h4 hd h => ?_)
    unfold grpR at h
    split at h
    · exact grpL_ws (ih (d + 1) (nI gi)) 129 true _ S dp p1 S1 hW (Or.inr ⟨gi, hgi, rfl, by rw [hd], h4⟩) h
    · cases h
/-- a schema that a text gives is one -/
theorem schR_ws {t : Nat → Nat} {n : Nat} (ht : ∀ k, k < n → t k < 256) {p : Nat} {S : Sch} (h : schR t n = .inr (p, S)) : ∃ dp, WS S dp := by
  obtain ⟨dp, h1, -⟩ := topL_ws (t := t) (n := n) (fldD_ws ht 17 0 (-1)) 129 true 0 sch0 (fun _ => 0) p S WS0 (Or.inl ⟨rfl, rfl⟩) h
  exact ⟨dp, h1⟩

abbrev fiN (R : Rec) (k : Nat) : Nat := (ndFi (R.2 k)).toNatClampNeg
/-- the children of i among the first k nodes, written one behind another; the last one's field -/
def bD (V : Nat → List Nat) (S : Sch) (R : Rec) (i : Nat) : Nat → List Nat × Option Nat
  | 0 => ([], none)
  | k + 1 => if ndPa (R.2 k) = nI i then ((bD V S R i k).1 ++ (betO S (bD V S R i k).2 (fiN R k) ++ V k), some (fiN R k)) else bD V S R i k
def bDf (V : Nat → List Nat) (S : Sch) (R : Rec) (i f : Nat) : Nat → List Nat × Option Nat
  | 0 => ([], none)
  | k + 1 => if ndPa (R.2 k) = nI i ∧ fiN R k < f then ((bDf V S R i f k).1 ++ (betO S (bDf V S R i f k).2 (fiN R k) ++ V k), some (fiN R k)) else bDf V S R i f k
theorem bD_yes {V : Nat → List Nat} {S : Sch} {R : Rec} {i k : Nat} (h : ndPa (R.2 k) = nI i) : bD V S R i (k + 1) = ((bD V S R i k).1 ++ (betO S (bD V S R i k).2 (fiN R k) ++ V k), some (fiN R k)) := if_pos h
theorem bD_skip {V : Nat → List Nat} {S : Sch} {R : Rec} {i a : Nat} : ∀ d, (∀ x, a ≤ x → x < a + d → ¬ ndPa (R.2 x) = nI i) → bD V S R i (a + d) = bD V S R i a := by
  intro d
  induction d with
  | zero => intro _; rfl
  | succ d ih => intro h; rw [show a + (d + 1) = a + d + 1 by omega, show bD V S R i (a + d + 1) = bD V S R i (a + d) from if_neg (h (a + d) (by omega) (by omega))]; exact ih (fun x h1 h2 => h x h1 (by omega))
theorem bDf_yes {V : Nat → List Nat} {S : Sch} {R : Rec} {i f k : Nat} (h : ndPa (R.2 k) = nI i) (h2 : fiN R k < f) : bDf V S R i f (k + 1) = ((bDf V S R i f k).1 ++ (betO S (bDf V S R i f k).2 (fiN R k) ++ V k), some (fiN R k)) := if_pos ⟨h, h2⟩
theorem bDf_no {V : Nat → List Nat} {S : Sch} {R : Rec} {i f k : Nat} (h : ¬ (ndPa (R.2 k) = nI i ∧ fiN R k < f)) : bDf V S R i f (k + 1) = bDf V S R i f k := if_neg h
theorem bDf_skip {V : Nat → List Nat} {S : Sch} {R : Rec} {i f a : Nat} : ∀ d, (∀ x, a ≤ x → x < a + d → ¬ (ndPa (R.2 x) = nI i ∧ fiN R x < f)) → bDf V S R i f (a + d) = bDf V S R i f a := by
  intro d
  induction d with
  | zero => intro _; rfl
  | succ d ih => intro h; rw [show a + (d + 1) = a + d + 1 by omega, bDf_no (h (a + d) (by omega) (by omega))]; exact ih (fun x h1 h2 => h x h1 (by omega))
theorem bDf_lt {V : Nat → List Nat} {S : Sch} {R : Rec} {i f : Nat} : ∀ k b, (bDf V S R i f k).2 = some b → b < f := by
  intro k
  induction k with
  | zero => intro b h; cases h
  | succ k ih =>
    intro b h
    by_cases hc : ndPa (R.2 k) = nI i ∧ fiN R k < f
    · rw [bDf_yes hc.1 hc.2] at h; injection h with h; omega
    · rw [bDf_no hc] at h; exact ih b h
theorem bDf_all {V : Nat → List Nat} {S : Sch} {R : Rec} {i f : Nat} : ∀ k, (∀ x, x < k → ndPa (R.2 x) = nI i → fiN R x < f) → bDf V S R i f k = bD V S R i k := by
  intro k
  induction k with
  | zero => intro _; rfl
  | succ k ih =>
    intro h
    have h1 := ih (fun x hx => h x (by omega))
    by_cases hc : ndPa (R.2 k) = nI i
    · rw [bDf_yes hc (h k (by omega) hc), bD_yes hc, h1]
    · rw [bDf_no (fun z => hc z.1), show bD V S R i (k + 1) = bD V S R i k from if_neg hc, h1]
theorem bDf_z {V : Nat → List Nat} {S : Sch} {R : Rec} {i : Nat} : ∀ k, bDf V S R i 0 k = ([], none) := by
  intro k
  induction k with
  | zero => rfl
  | succ k ih => rw [bDf_no (fun z => absurd z.2 (Nat.not_lt_zero _))]; exact ih
theorem chC_skip {N : Nat → Nod} {x : Int32} {a : Nat} : ∀ d, chC N x a ≤ chC N x (a + d) ∧ (chC N x (a + d) = chC N x a → ∀ y, a ≤ y → y < a + d → ¬ ndPa (N y) = x) := by
  intro d
  induction d with
  | zero => exact ⟨Nat.le_refl _, fun _ y h1 h2 => absurd h2 (by omega)⟩
  | succ d ih =>
    rw [show a + (d + 1) = a + d + 1 by omega]
    have e : chC N x (a + d + 1) = chC N x (a + d) + (if ndPa (N (a + d)) = x then 1 else 0) := rfl
    rw [e]
    refine ⟨by omega, fun h y h1 h2 => ?_⟩
    by_cases hc : ndPa (N (a + d)) = x
    · rw [if_pos hc] at h; omega
    · rw [if_neg hc] at h
      by_cases z : y = a + d
      · rw [z]; exact hc
      · exact ih.2 (by omega) y h1 (by omega)
theorem chC_none {N : Nat → Nod} {x : Int32} {a : Nat} : ∀ d, (∀ y, a ≤ y → y < a + d → ¬ ndPa (N y) = x) → chC N x (a + d) = chC N x a := by
  intro d
  induction d with
  | zero => intro _; rfl
  | succ d ih =>
    intro h
    rw [show a + (d + 1) = a + d + 1 by omega, show chC N x (a + d + 1) = chC N x (a + d) + (if ndPa (N (a + d)) = x then 1 else 0) from rfl, if_neg (h (a + d) (by omega) (by omega)), ih (fun y h1 h2 => h y h1 (by omega))]
    rfl
/-- the class's way over the children of i -/
theorem wrL_bD {W : Nat → Nat × List Nat} {V : Nat → List Nat} {S : Sch} {R : Rec} (hp : paOK R) (hR : R.1 ≤ 2000) (ho : ordP R) {i : Nat} (hi : i < R.1) (hV : ∀ k, k < R.1 → ndPa (R.2 k) = nI i → (if fTy (S.2 (fiN R k)) = 4 then W k else (k + 1, leafO (R.2 k) (fTy (S.2 (fiN R k))))) = (enS R k, V k)) : ∀ c at9, i < at9 → at9 ≤ enS R i → (at9 < enS R i → ndPa (R.2 at9) = nI i) → chC R.2 (nI i) at9 + c = chC R.2 (nI i) R.1 → (bD V S R i at9).1 ++ (wrL W S R c at9 (bD V S R i at9).2).2 = (bD V S R i R.1).1 ++ cloO S (bD V S R i R.1).2 ++ [125] ∧ (wrL W S R c at9 (bD V S R i at9).2).1 = enS R i := by
  obtain ⟨ea, eb, ec⟩ := enS_is hi
  intro c
  induction c with
  | zero =>
    intro at9 h1 h2 h3 h4
    have hno := (chC_skip (N := R.2) (x := nI i) (a := at9) (R.1 - at9)).2 (by rw [show at9 + (R.1 - at9) = R.1 by omega]; omega)
    have e : at9 = enS R i := by
      apply Classical.byContradiction
      intro z
      exact hno at9 (Nat.le_refl _) (by omega) (h3 (by omega))
    have hb : bD V S R i R.1 = bD V S R i at9 := by
      have := bD_skip (V := V) (S := S) (R := R) (i := i) (a := at9) (R.1 - at9) (fun x a b => hno x a (by omega))
      rw [show at9 + (R.1 - at9) = R.1 by omega] at this; exact this
    rw [hb]
    exact ⟨by show _ ++ (cloO S (bD V S R i at9).2 ++ [125]) = _; rw [List.append_assoc], e⟩
  | succ c ih =>
    intro at9 h1 h2 h3 h4
    have hlt : at9 < enS R i := by
      apply Classical.byContradiction
      intro z
      have : chC R.2 (nI i) R.1 = chC R.2 (nI i) at9 := by
        have := chC_none (N := R.2) (x := nI i) (a := at9) (R.1 - at9) (fun y a b hc => by
          have h5 := (enS_in hp hR ho hi (show y < R.1 by omega) (by omega)).mp (ch_in hp hR hi (by omega) hc).2
          omega)
        rw [show at9 + (R.1 - at9) = R.1 by omega] at this; exact this
      omega
    have hc := h3 hlt
    have hat : at9 < R.1 := by omega
    have hv := hV at9 hat hc
    obtain ⟨n1, n2, n3⟩ := next_ch hp hR ho hi hat hc
    obtain ⟨ca, cb, cc9⟩ := enS_is hat
    have hcnt : chC R.2 (nI i) (enS R at9) = chC R.2 (nI i) at9 + 1 := by
      have h5 := chC_none (N := R.2) (x := nI i) (a := at9 + 1) (enS R at9 - (at9 + 1)) (fun y a b => n3 y (by omega) (by omega))
      rw [show at9 + 1 + (enS R at9 - (at9 + 1)) = enS R at9 by omega] at h5
      rw [h5, show chC R.2 (nI i) (at9 + 1) = chC R.2 (nI i) at9 + (if ndPa (R.2 at9) = nI i then 1 else 0) from rfl, if_pos hc]
    have hbd : bD V S R i (enS R at9) = ((bD V S R i at9).1 ++ (betO S (bD V S R i at9).2 (fiN R at9) ++ V at9), some (fiN R at9)) := by
      have h5 := bD_skip (V := V) (S := S) (R := R) (i := i) (a := at9 + 1) (enS R at9 - (at9 + 1)) (fun y a b => n3 y (by omega) (by omega))
      rw [show at9 + 1 + (enS R at9 - (at9 + 1)) = enS R at9 by omega] at h5
      rw [h5, bD_yes hc]
    have hih := ih (enS R at9) (by omega) n1 n2 (by omega)
    rw [hbd] at hih
    dsimp only at hih
    have hw : wrL W S R (c + 1) at9 (bD V S R i at9).2 = ((wrL W S R c (enS R at9) (some (fiN R at9))).1, betO S (bD V S R i at9).2 (fiN R at9) ++ V at9 ++ (wrL W S R c (enS R at9) (some (fiN R at9))).2) := by
      simp only [wrL]
      rw [if_pos hat, hv]
    rw [hw]
    dsimp only
    refine ⟨?_, hih.2⟩
    rw [← hih.1]
    simp only [List.append_assoc]
/-- the reference's way over the children of i: field by field -/
theorem gF_bDf {V : Nat → List Nat} {S : Sch} {R : Rec} (hs : S.1 ≤ 128) (hR : R.1 ≤ 2000) (hp : paOK R) (hfo : fiO2 S R) (hord : ordOK S R) (hg : gpOK S R) {i : Nat} (hi : i < R.1) : ∀ f, f ≤ S.1 → (gF V S R i f).1 = (bDf V S R i f R.1).1 ++ cloO S (bDf V S R i f R.1).2 ∧ (gF V S R i f).2 = (bDf V S R i f R.1).2.isSome := by
  have hch : ∀ k, k < R.1 → ndPa (R.2 k) = nI i → 0 < k ∧ ∃ fk, fk < S.1 ∧ ndFi (R.2 k) = nI fk ∧ fiN R k = fk ∧ fGr (S.2 fk) = ndFi (R.2 i) := by
    intro k hk hc
    obtain ⟨hik, -⟩ := ch_in hp hR hi hk hc
    obtain ⟨fk, h1, h2⟩ := hfo k (by omega) hk
    have h3 := hg k (by omega) hk i hik hc
    rw [h2, nI_clamp (by omega)] at h3
    exact ⟨by omega, fk, h1, h2, by show (ndFi (R.2 k)).toNatClampNeg = fk; rw [h2, nI_clamp (by omega)], h3⟩
  have hle : ∀ j k, j < k → k < R.1 → ndPa (R.2 j) = nI i → ndPa (R.2 k) = nI i → fiN R j ≤ fiN R k := by
    intro j k hjk hk hcj hck
    obtain ⟨j0, fj, a1, a2, a3, -⟩ := hch j (by omega) hcj
    obtain ⟨k0, fk, b1, b2, b3, -⟩ := hch k hk hck
    rw [a3, b3]
    rcases hord j k j0 hjk hk (hcj.trans hck.symm) with z | ⟨z, -⟩
    · rw [a2, b2] at z; have := (nI_ltI (by omega) (by omega)).mp z; omega
    · rw [a2, b2] at z; have := (nI_eq (by omega) (by omega)).mp z; omega
  intro f
  induction f with
  | zero => intro _; rw [bDf_z]; exact ⟨rfl, rfl⟩
  | succ f ih =>
    intro hf
    have ih := ih (by omega)
    have hisC : ∀ k, k < R.1 → (isCh R i f k = true ↔ ndPa (R.2 k) = nI i ∧ fiN R k = f) := by
      intro k hk
      unfold isCh
      rw [Bool.and_eq_true, decide_eq_true_eq, decide_eq_true_eq]
      constructor
      · rintro ⟨a, b⟩
        exact ⟨a, by show (ndFi (R.2 k)).toNatClampNeg = f; rw [b, nI_clamp (by omega)]⟩
      · rintro ⟨a, b⟩
        obtain ⟨-, fk, c1, c2, c3, -⟩ := hch k hk a
        exact ⟨a, by rw [c2, ← c3, b]⟩
    by_cases hgr : fGr (S.2 f) = ndFi (R.2 i)
    · rw [gF_yes hgr]
      have key : ∀ k, k ≤ R.1 → ((gT V S R i f (gF V S R i f).2 k).2 = 0 ∧ (gT V S R i f (gF V S R i f).2 k).1 = [] ∧ bDf V S R i (f + 1) k = bDf V S R i f k) ∨ (0 < (gT V S R i f (gF V S R i f).2 k).2 ∧ bDf V S R i f k = bDf V S R i f R.1 ∧ (∃ j, j < k ∧ ndPa (R.2 j) = nI i ∧ fiN R j = f) ∧ bDf V S R i (f + 1) k = ((bDf V S R i f R.1).1 ++ (cloO S (bDf V S R i f R.1).2 ++ (gT V S R i f (gF V S R i f).2 k).1), some f)) := by
        intro k
        induction k with
        | zero => intro _; exact Or.inl ⟨rfl, rfl, rfl⟩
        | succ k ihk =>
          intro hk
          have ihk := ihk (by omega)
          by_cases hc : ndPa (R.2 k) = nI i
          · by_cases hlt : fiN R k < f
            · have hno : isCh R i f k = false := by
                cases h : isCh R i f k with
                | false => rfl
                | true => have := ((hisC k (by omega)).mp h).2; omega
              rw [gT_no hno]
              rcases ihk with ⟨a1, a2, a3⟩ | ⟨a1, a2, ⟨j, j1, j2, j3⟩, a4⟩
              · refine Or.inl ⟨a1, a2, ?_⟩
                rw [bDf_yes hc (by omega), bDf_yes hc hlt, a3]
              · have := hle j k j1 (by omega) j2 hc; omega
            · by_cases heq : fiN R k = f
              · have hyes : isCh R i f k = true := (hisC k (by omega)).mpr ⟨hc, heq⟩
                rw [gT_yes hyes]
                dsimp only
                have hfin : bDf V S R i f k = bDf V S R i f R.1 := by
                  have := bDf_skip (V := V) (S := S) (R := R) (i := i) (f := f) (a := k) (R.1 - k) (fun x h1 h2 z => by
                    by_cases e : x = k
                    · rw [e] at z; omega
                    · have := hle k x (by omega) (by omega) hc z.1; omega)
                  rw [show k + (R.1 - k) = R.1 by omega] at this; exact this.symm
                have hfin2 : bDf V S R i f (k + 1) = bDf V S R i f R.1 := by rw [bDf_no (fun z => hlt z.2)]; exact hfin
                refine Or.inr ⟨Nat.succ_pos _, hfin2, ⟨k, by omega, hc, heq⟩, ?_⟩
                rw [bDf_yes hc (by omega), heq]
                rcases ihk with ⟨a1, a2, a3⟩ | ⟨a1, a2, a3, a4⟩
                · rw [a1, a2, a3, hfin, ih.2]
                  congr 1
                  rw [List.nil_append]
                  unfold preV
                  rw [if_pos rfl]
                  cases hb : (bDf V S R i f R.1).2 with
                  | none => simp [betO, cloO]
                  | some b =>
                    have hbf := bDf_lt R.1 b hb
                    simp only [betO, Option.isSome, if_true]
                    rw [if_neg (by omega)]
                    simp only [List.append_assoc]
                · rw [a4]
                  congr 1
                  dsimp only
                  unfold preV
                  rw [if_neg (by omega)]
                  simp only [betO, if_true, List.append_assoc]
              · have hno : isCh R i f k = false := by
                  cases h : isCh R i f k with
                  | false => rfl
                  | true => exact absurd ((hisC k (by omega)).mp h).2 heq
                rw [gT_no hno, bDf_no (fun z => by omega), bDf_no (fun z => by omega)]
                rcases ihk with a | ⟨a1, a2, ⟨j, j1, j2, j3⟩, a4⟩
                · exact Or.inl a
                · exact Or.inr ⟨a1, a2, ⟨j, by omega, j2, j3⟩, a4⟩
          · have hno : isCh R i f k = false := by
              cases h : isCh R i f k with
              | false => rfl
              | true => exact absurd ((hisC k (by omega)).mp h).1 hc
            rw [gT_no hno, bDf_no (fun z => hc z.1), bDf_no (fun z => hc z.1)]
            rcases ihk with a | ⟨a1, a2, ⟨j, j1, j2, j3⟩, a4⟩
            · exact Or.inl a
            · exact Or.inr ⟨a1, a2, ⟨j, by omega, j2, j3⟩, a4⟩
      rcases key R.1 (Nat.le_refl _) with ⟨a1, a2, a3⟩ | ⟨a1, -, -, a4⟩
      · rw [a1, a2, a3]
        dsimp only
        unfold cloM
        rw [if_neg (fun z => by omega), ih.1, ih.2]
        simp
      · rw [a4]
        dsimp only
        refine ⟨?_, by rw [decide_eq_true a1, Bool.or_true]; rfl⟩
        rw [ih.1]
        have hcl : cloM S f (gT V S R i f (gF V S R i f).2 R.1).2 = cloO S (some f) := by
          show cloM S f _ = (if fKi (S.2 f) = 2 then [93] else [])
          unfold cloM
          by_cases z : fKi (S.2 f) = 2
          · rw [if_pos ⟨a1, z⟩, if_pos z]
          · rw [if_neg (fun y => z y.2), if_neg z]
        rw [hcl]
        simp only [List.append_assoc]
    · rw [gF_no hgr, ih.1, ih.2]
      have : bDf V S R i (f + 1) R.1 = bDf V S R i f R.1 := by
        have h : ∀ k, k ≤ R.1 → bDf V S R i (f + 1) k = bDf V S R i f k := by
          intro k
          induction k with
          | zero => intro _; rfl
          | succ k ihk =>
            intro hk
            by_cases hc : ndPa (R.2 k) = nI i ∧ fiN R k < f
            · rw [bDf_yes hc.1 (by omega), bDf_yes hc.1 hc.2, ihk (by omega)]
            · rw [bDf_no hc, bDf_no (fun z => hc ⟨z.1, ?_⟩)]
              · exact ihk (by omega)
              · obtain ⟨-, fk, c1, c2, c3, c4⟩ := hch k (by omega) z.1
                have : ¬ fiN R k = f := fun y => hgr (by rw [← y, c3]; exact c4)
                omega
        exact h R.1 (Nat.le_refl _)
      rw [this]
      exact ⟨rfl, rfl⟩
/-- both write the same -/
theorem wr_eq {S : Sch} {R : Rec} {dp : Nat → Nat} (hS : WS S dp) (hW : WR S R) : ∀ D i, i < R.1 → (i = 0 ∨ fTy (S.2 (fiN R i)) = 4) → dN dp R i + D = 17 → (wrD S R D i).2 = mGD S R D i ∧ (wrD S R D i).1 = enS R i := by
  obtain ⟨hB, hgr, hco, hlv, hu, hdp, hto, hgt⟩ := hS
  have hordp := hW.ordP
  obtain ⟨hp, ⟨h1, h2, h3⟩, h0, hfo, hord, hgp, hbo, ⟨hby, hlen⟩, hop⟩ := hW
  have hs := hB.1
  have hf0 : ndFi (R.2 0) = -1 := by rw [h0]
  intro D
  induction D with
  | zero =>
    intro i hi hgi hd
    exfalso
    unfold dN at hd
    by_cases e : i = 0
    · rw [if_pos e] at hd; omega
    · rw [if_neg e] at hd
      obtain ⟨f9, hf9, ef9⟩ := hfo i (by omega) hi
      have h4 := hgi.resolve_left e
      have e9 : fiN R i = f9 := by show (ndFi (R.2 i)).toNatClampNeg = f9; rw [ef9, nI_clamp (by omega)]
      rw [e9] at h4
      rw [ef9, nI_clamp (by omega)] at hd
      have := (hdp f9 hf9).2.2 h4
      omega
  | succ D ih =>
    intro i hi hgi hd
    have hV : ∀ k, k < R.1 → ndPa (R.2 k) = nI i → (if fTy (S.2 (fiN R k)) = 4 then wrD S R D k else (k + 1, leafO (R.2 k) (fTy (S.2 (fiN R k))))) = (enS R k, vW (mGD S R D) S R k) := by
      intro k hk hc
      obtain ⟨hik, -⟩ := ch_in hp h2 hi hk hc
      obtain ⟨f8, hf8, ef8⟩ := hfo k (by omega) hk
      have e8 : fiN R k = f8 := by show (ndFi (R.2 k)).toNatClampNeg = f8; rw [ef8, nI_clamp (by omega)]
      have hdk := dN_ch hs h2 hdp hfo hp hgp hf0 (by omega) hk hi hc hf8 ef8
      unfold vW
      by_cases h4 : fTy (S.2 (fiN R k)) = 4
      · rw [if_pos h4, if_pos h4]
        have := ih k hk (Or.inr h4) (by omega)
        exact Prod.ext this.2 this.1
      · rw [if_neg h4, if_neg h4]
        have he : enS R k = k + 1 := by
          obtain ⟨ea, eb, ec⟩ := enS_is hk
          apply Classical.byContradiction
          intro z
          have hc2 := first_ch hp h2 hordp hk (by omega)
          obtain ⟨f7, hf7, ef7⟩ := hfo (k + 1) (by omega) (by omega)
          have h5 := hgp (k + 1) (by omega) (by omega) k (by omega) hc2
          rw [ef7, nI_clamp (by omega), ef8] at h5
          rw [e8] at h4
          exact h4 (hgt f7 f8 hf7 hf8 h5)
        rw [he]
    have hc9 : chC R.2 (nI i) (i + 1) = 0 := by
      have := chC_none (N := R.2) (x := nI i) (a := 0) (i + 1) (fun y _ hy hc => by
        obtain ⟨hik, -⟩ := ch_in hp h2 hi (show y < R.1 by omega) hc
        omega)
      rw [Nat.zero_add] at this; exact this
    have hb9 : bD (vW (mGD S R D) S R) S R i (i + 1) = ([], none) := by
      have := bD_skip (V := vW (mGD S R D) S R) (S := S) (R := R) (i := i) (a := 0) (i + 1) (fun y _ hy hc => by
        obtain ⟨hik, -⟩ := ch_in hp h2 hi (show y < R.1 by omega) hc
        omega)
      rw [Nat.zero_add] at this; exact this
    obtain ⟨ea, eb, ec⟩ := enS_is hi
    have hmain := wrL_bD hp h2 hordp hi hV (chC R.2 (nI i) R.1) (i + 1) (by omega) (by omega) (fun z => first_ch hp h2 hordp hi z) (by omega)
    rw [hb9] at hmain
    dsimp only at hmain
    rw [List.nil_append] at hmain
    have hgF := gF_bDf (V := vW (mGD S R D) S R) hs h2 hp hfo hord hgp hi S.1 (Nat.le_refl _)
    rw [bDf_all R.1 (fun x hx hc => by
      obtain ⟨hik, -⟩ := ch_in hp h2 hi hx hc
      obtain ⟨f8, hf8, ef8⟩ := hfo x (by omega) hx
      show (ndFi (R.2 x)).toNatClampNeg < S.1
      rw [ef8, nI_clamp (by omega)]; exact hf8)] at hgF
    refine ⟨?_, hmain.2⟩
    show [123] ++ (wrL (wrD S R D) S R (chC R.2 (nI i) R.1) (i + 1) none).2 = [123] ++ (gF (vW (mGD S R D) S R) S R i S.1).1 ++ [125]
    rw [hmain.1, hgF.1]
    simp only [List.append_assoc]
theorem wr_same {S : Sch} {R : Rec} {dp : Nat → Nat} (hS : WS S dp) (hW : WR S R) : mGD S R 17 0 = (wrD S R 17 0).2 := (wr_eq hS hW 17 0 hW.2.1.1 (Or.inl rfl) rfl).1.symm
/-- how long the output is -/
theorem betO_len {S : Sch} (hB : scB S) {f : Nat} (hf : f < S.1) (bf : Option Nat) : (betO S bf f).length ≤ 20 := by
  have h1 : (hdO S f).length ≤ 18 := by
    unfold hdO opO
    have := (hB.2.2 f hf).1
    simp only [List.length_append, List.length_cons, List.length_nil]
    split <;> simp <;> omega
  cases bf with
  | none => show (hdO S f).length ≤ 20; omega
  | some b =>
    show (if b = f then [44] else cloO S (some b) ++ [44] ++ hdO S f).length ≤ 20
    split
    · simp
    · have h2 : (cloO S (some b)).length ≤ 1 := by
        show (if fKi (S.2 b) = 2 then [93] else []).length ≤ 1
        split <;> simp
      simp only [List.length_append, List.length_cons, List.length_nil]
      omega
theorem tlO_len4 (l : List Nat) : (tlO l).length ≤ 4 * l.length := by
  induction l with
  | nil => simp [tlO]
  | cons a l ih =>
    rw [show tlO (a :: l) = tbO a ++ tlO l by simp [tlO], List.length_append, List.length_cons]
    have : (tbO a).length ≤ 4 := by
      unfold tbO
      split
      · simp
      · split <;> simp
    omega
theorem leafO_len (N : Nod) (ty : Int32) : (leafO N ty).length ≤ 20 + 4 * (ndTx N).length := by
  unfold leafO
  split
  · unfold txO
    have := tlO_len4 (ndTx N)
    simp only [List.length_append, List.length_cons, List.length_nil]
    omega
  · split
    · split
      · rw [show (wdO 9).length = 5 by decide]; omega
      · rw [show (wdO 8).length = 4 by decide]; omega
    · have := numO_len (ndNu N)
      rw [this.1]
      split <;> omega
theorem wrL_len {W : Nat → Nat × List Nat} {S : Sch} {R : Rec} (hB : scB S) (hfo : fiO2 S R) (hWb : ∀ i, i < R.1 → i + 1 ≤ (W i).1 ∧ (W i).1 ≤ R.1) (hWl : ∀ i, i < R.1 → (W i).2.length + 40 ≤ 45 * ((W i).1 - i) + 4 * (tbC R.2 (W i).1 - tbC R.2 i)) : ∀ c at9 bf, 0 < at9 → at9 ≤ R.1 → (wrL W S R c at9 bf).2.length ≤ 45 * ((wrL W S R c at9 bf).1 - at9) + 4 * (tbC R.2 (wrL W S R c at9 bf).1 - tbC R.2 at9) + 2 := by
  intro c
  induction c with
  | zero =>
    intro at9 bf _ _
    show (cloO S bf ++ [125]).length ≤ _
    have : (cloO S bf).length ≤ 1 := by
      cases bf with
      | none => exact Nat.zero_le _
      | some b =>
        show (if fKi (S.2 b) = 2 then [93] else []).length ≤ 1
        split <;> simp
    simp only [List.length_append, List.length_cons, List.length_nil]
    omega
  | succ c ih =>
    intro at9 bf h0 hle
    simp only [wrL]
    by_cases hat : at9 < R.1
    · rw [if_pos hat]
      dsimp only
      obtain ⟨f8, hf8, ef8⟩ := hfo at9 h0 hat
      have hs := hB.1
      have e8 : (ndFi (R.2 at9)).toNatClampNeg = f8 := by rw [ef8, nI_clamp (by omega)]
      have hbet := betO_len hB (f := (ndFi (R.2 at9)).toNatClampNeg) (by rw [e8]; exact hf8) bf
      obtain ⟨y, hy⟩ : ∃ y, y = (if fTy (S.2 (ndFi (R.2 at9)).toNatClampNeg) = 4 then W at9 else (at9 + 1, leafO (R.2 at9) (fTy (S.2 (ndFi (R.2 at9)).toNatClampNeg)))) := ⟨_, rfl⟩
      have hyb : at9 + 1 ≤ y.1 ∧ y.1 ≤ R.1 ∧ y.2.length + 25 ≤ 45 * (y.1 - at9) + 4 * (tbC R.2 y.1 - tbC R.2 at9) := by
        rw [hy]
        split
        · have a := hWb at9 hat
          have b := hWl at9 hat
          exact ⟨a.1, a.2, by omega⟩
        · have a := leafO_len (R.2 at9) (fTy (S.2 (ndFi (R.2 at9)).toNatClampNeg))
          refine ⟨Nat.le_refl _, hat, ?_⟩
          show (leafO (R.2 at9) _).length + 25 ≤ 45 * (at9 + 1 - at9) + 4 * (tbC R.2 at9 + (ndTx (R.2 at9)).length - tbC R.2 at9)
          omega
      rw [← hy]
      have h1 := ih y.1 (some (ndFi (R.2 at9)).toNatClampNeg) (by omega) hyb.2.1
      have h2 := wrL_b (S := S) hWb c y.1 (some (ndFi (R.2 at9)).toNatClampNeg) hyb.2.1
      have m1 := tbC_mono R.2 (show at9 ≤ y.1 by omega)
      have m2 := tbC_mono R.2 h2.1
      simp only [List.length_append]
      omega
    · rw [if_neg hat]
      show (0 : Nat) ≤ _
      omega
theorem wrD_len {S : Sch} {R : Rec} (hB : scB S) (hfo : fiO2 S R) : ∀ D i, i < R.1 → (wrD S R D i).2.length + 40 ≤ 45 * ((wrD S R D i).1 - i) + 4 * (tbC R.2 (wrD S R D i).1 - tbC R.2 i) := by
  intro D
  induction D with
  | zero =>
    intro i hi
    show 0 + 40 ≤ 45 * (i + 1 - i) + _
    omega
  | succ D ih =>
    intro i hi
    have h1 := wrL_len hB hfo (wrD_b D) (fun i hi => ih i hi) (chC R.2 (nI i) R.1) (i + 1) none (by omega) (by omega)
    have h2 := wrL_b (S := S) (wrD_b (S := S) D) (chC R.2 (nI i) R.1) (i + 1) none (show i + 1 ≤ R.1 by omega)
    have m1 := tbC_mono R.2 (show i ≤ i + 1 by omega)
    have m2 := tbC_mono R.2 h2.1
    show ([123] ++ (wrL (wrD S R D) S R (chC R.2 (nI i) R.1) (i + 1) none).2).length + 40 ≤ 45 * ((wrL (wrD S R D) S R (chC R.2 (nI i) R.1) (i + 1) none).1 - i) + 4 * (tbC R.2 (wrL (wrD S R D) S R (chC R.2 (nI i) R.1) (i + 1) none).1 - tbC R.2 i)
    simp only [List.length_append, List.length_cons, List.length_nil]
    omega
theorem wr_short {S : Sch} {R : Rec} {dp : Nat → Nat} (hS : WS S dp) (hW : WR S R) : (wrD S R 17 0).2.length ≤ 154000 := by
  have h1 := wrD_len hS.1 hW.2.2.2.1 17 0 hW.2.1.1
  have h2 := wrD_b (S := S) (R := R) 17 0 hW.2.1.1
  have h3 := tbC_mono R.2 h2.2
  have h4 := hW.2.1
  omega

theorem anc_congr {N N2 : Nat → Nod} {pi : Nat} {m : Nat} (h : ∀ i, i < m → N2 i = N i) (hp : ∀ i, i < m → ndPa (N i) = -1 ∨ ∃ j, j < i ∧ ndPa (N i) = nI j) (hm : m ≤ 2000) : ∀ k u, (u = -1 ∨ ∃ i, i < m ∧ u = nI i) → anc N2 pi k u = anc N pi k u := by
  intro k
  induction k with
  | zero => intro u _; rfl
  | succ k ih =>
    intro u hu
    rw [show anc N2 pi (k + 1) u = if u = -1 then false else (decide (u = nI pi) || anc N2 pi k (ndPa (N2 u.toNatClampNeg))) from rfl, show anc N pi (k + 1) u = if u = -1 then false else (decide (u = nI pi) || anc N pi k (ndPa (N u.toNatClampNeg))) from rfl]
    rcases hu with hu | ⟨i, hi, hu⟩
    · rw [if_pos hu, if_pos hu]
    · rw [hu, nI_clamp (by omega), h i hi]
      rw [ih (ndPa (N i)) (by rcases hp i hi with z | ⟨j, hj, z⟩; exact Or.inl z; exact Or.inr ⟨j, by omega, z⟩)]
theorem paOK.all {R : Rec} (h : paOK R) : ∀ i, i < R.1 → ndPa (R.2 i) = -1 ∨ ∃ j, j < i ∧ ndPa (R.2 i) = nI j := by
  intro i hi
  by_cases e : i = 0
  · rw [e]; exact Or.inl h.1
  · exact Or.inr (h.2 i (by omega) hi)
theorem anc_pa {R : Rec} (hp : paOK R) (hR : R.1 ≤ 2000) {q pi : Nat} (hq : q < R.1) (hpi : pi < R.1) (hc : ndPa (R.2 q) = nI pi) : ∀ k u, ndN R u → grM u ≤ k → anc R.2 q k u = true → anc R.2 pi k u = true := by
  intro k
  induction k with
  | zero => intro u _ _ h; cases h
  | succ k ih =>
    intro u hu hg h
    rw [show anc R.2 q (k + 1) u = if u = -1 then false else (decide (u = nI q) || anc R.2 q k (ndPa (R.2 u.toNatClampNeg))) from rfl] at h
    rw [show anc R.2 pi (k + 1) u = if u = -1 then false else (decide (u = nI pi) || anc R.2 pi k (ndPa (R.2 u.toNatClampNeg))) from rfl]
    rcases hu with hu | ⟨i, hi, hu⟩
    · rw [if_pos hu] at h; cases h
    · have hne : ¬ nI i = (-1 : Int32) := nI_ne1 (by omega)
      rw [hu, if_neg hne, nI_clamp (by omega)] at h
      rw [hu, if_neg hne, nI_clamp (by omega)]
      have hup := ndN_up hp hR hi
      rw [hu] at hg
      rw [Bool.or_eq_true, decide_eq_true_eq] at h
      rw [Bool.or_eq_true]
      right
      rcases h with h | h
      · have e := (nI_eq (a := i) (b := q) (by omega) (by omega)).mp h
        subst e
        rw [hc]
        rw [hc, grM_n (by omega), grM_n (by omega)] at hup
        cases k with
        | zero => rw [grM_n (by omega)] at hg; omega
        | succ k =>
          rw [show anc R.2 pi (k + 1) (nI pi) = if nI pi = -1 then false else (decide (nI pi = nI pi) || anc R.2 pi k (ndPa (R.2 (nI pi).toNatClampNeg))) from rfl, if_neg (nI_ne1 (by omega)), decide_eq_true rfl]
          rfl
      · exact ih _ hup.1 (by omega) h
/-- what holds of every record -/
def WR (S : Sch) (R : Rec) : Prop := paOK R ∧ (0 < R.1 ∧ R.1 ≤ 2000 ∧ tbC R.2 R.1 ≤ 16000) ∧ R.2 0 = (-1, -1, 0, []) ∧ fiO2 S R ∧ ordOK S R ∧ gpOK S R ∧ boOK S R ∧ (byOK R ∧ ∀ i, i < R.1 → (ndTx (R.2 i)).length ≤ 255) ∧ ∀ k, 0 < k → k < R.1 → ∀ j, j < k → ndPa (R.2 k) = nI j → anc R.2 j k (nI (k - 1)) = true
theorem WR0 (S : Sch) : WR S rec0 := by
  have h : ∀ {P : Nat → Prop} (i : Nat), 0 < i → i < rec0.1 → P i := fun i a b => absurd b (by show ¬ i < 1; omega)
  refine ⟨rec0_ok, ⟨by decide, by decide, by decide⟩, rfl, fun i a b => absurd b (by show ¬ i < 1; omega), fun j k a b c => absurd c (by show ¬ k < 1; omega), fun k a b => absurd b (by show ¬ k < 1; omega), fun k a b => absurd b (by show ¬ k < 1; omega), ⟨fun i _ k hk => absurd hk (Nat.not_lt_zero _), fun i _ => Nat.zero_le _⟩, fun k a b => absurd b (by show ¬ k < 1; omega)⟩
/-- R1 has R's nodes, and behind them such as lie in q -/
def exR (q : Nat) (R R1 : Rec) : Prop := R.1 ≤ R1.1 ∧ (∀ i, i < R.1 → R1.2 i = R.2 i) ∧ ∀ k, R.1 ≤ k → k < R1.1 → ∃ j, q ≤ j ∧ j < k ∧ ndPa (R1.2 k) = nI j
theorem exR.rf (q : Nat) (R : Rec) : exR q R R := ⟨Nat.le_refl _, fun _ _ => rfl, fun k a b => absurd b (by omega)⟩
theorem exR.tr {q : Nat} {R R1 R2 : Rec} (h1 : exR q R R1) (h2 : exR q R1 R2) : exR q R R2 := by
  refine ⟨Nat.le_trans h1.1 h2.1, fun i hi => (h2.2.1 i (Nat.lt_of_lt_of_le hi h1.1)).trans (h1.2.1 i hi), fun k a b => ?_⟩
  by_cases e : k < R1.1
  · obtain ⟨j, c1, c2, c3⟩ := h1.2.2 k a e
    exact ⟨j, c1, c2, by rw [h2.2.1 k e]; exact c3⟩
  · exact h2.2.2 k (by omega) b
theorem exR.weak {q q2 : Nat} {R R1 : Rec} (h : exR q R R1) (hq : q2 ≤ q) : exR q2 R R1 :=
  ⟨h.1, h.2.1, fun k a b => by obtain ⟨j, c1, c2, c3⟩ := h.2.2 k a b; exact ⟨j, by omega, c2, c3⟩⟩
theorem lfC_ex {q pi : Nat} {R R1 : Rec} (h : exR q R R1) (hp : pi < q) (hR : R1.1 ≤ 2000) : lfC R1.2 (nI pi) R1.1 = lfC R.2 (nI pi) R.1 := by
  have h1 : ∀ d, R.1 + d ≤ R1.1 → lfC R1.2 (nI pi) (R.1 + d) = lfC R.2 (nI pi) R.1 := by
    intro d
    induction d with
    | zero => intro _; exact lfC_congr R.1 h.2.1
    | succ d ih =>
      intro hd
      obtain ⟨j, c1, c2, c3⟩ := h.2.2 (R.1 + d) (by omega) (by omega)
      rw [show R.1 + (d + 1) = R.1 + d + 1 by omega, show lfC R1.2 (nI pi) (R.1 + d + 1) = lfC R1.2 (nI pi) (R.1 + d) from if_neg (by rw [c3]; intro z; have := (nI_eq (a := j) (b := pi) (by omega) (by omega)).mp z; omega)]
      exact ih (by omega)
  have := h1 (R1.1 - R.1) (by have := h.1; omega)
  rw [show R.1 + (R1.1 - R.1) = R1.1 by have := h.1; omega] at this
  exact this
theorem WR.opn_new {S : Sch} {R : Rec} (hW : WR S R) (hR : R.1 < 2000) {f v : Int32} {x : Int64} {l : List Nat} {pi : Nat} (hpi : pi < R.1) : opn (addN R (f, nI pi, x, l)) pi = true := by
  have hp2 : paOK (addN R (f, nI pi, x, l)) := by
    refine ⟨by rw [addN_old hW.2.1.1]; exact hW.1.1, fun i h0 hi => ?_⟩
    have hi2 : i < R.1 + 1 := hi
    by_cases e : i = R.1
    · subst e; rw [addN_new]; exact ⟨pi, hpi, rfl⟩
    · rw [addN_old (by omega)]; exact hW.1.2 i h0 (by omega)
  rw [← anc_opn hp2 (by show R.1 + 1 ≤ 2000; omega) (by show pi < R.1 + 1; omega)]
  show anc (addN R (f, nI pi, x, l)).2 pi (R.1 + 1) (nI (R.1 + 1 - 1)) = true
  rw [Nat.add_sub_cancel, show anc (addN R (f, nI pi, x, l)).2 pi (R.1 + 1) (nI R.1) = if nI R.1 = -1 then false else (decide (nI R.1 = nI pi) || anc (addN R (f, nI pi, x, l)).2 pi R.1 (ndPa ((addN R (f, nI pi, x, l)).2 (nI R.1).toNatClampNeg))) from rfl, if_neg (nI_ne1 (by omega)), nI_clamp (by omega), addN_new]
  obtain ⟨k, hk⟩ : ∃ k, R.1 = k + 1 := ⟨R.1 - 1, by omega⟩
  rw [Bool.or_eq_true]
  right
  rw [hk]
  show (if nI pi = -1 then false else (decide (nI pi = nI pi) || anc (addN R (f, nI pi, x, l)).2 pi k (ndPa ((addN R (f, nI pi, x, l)).2 (nI pi).toNatClampNeg)))) = true
  rw [if_neg (nI_ne1 (by omega)), decide_eq_true rfl]
  rfl
theorem WR.opn_pa {S : Sch} {R : Rec} (hW : WR S R) {q pi : Nat} (hq : q < R.1) (hpi : pi < R.1) (hc : ndPa (R.2 q) = nI pi) (h : opn R q = true) : opn R pi = true := by
  rw [← anc_opn hW.1 hW.2.1.2.1 hq] at h
  rw [← anc_opn hW.1 hW.2.1.2.1 hpi]
  have := hW.2.1.1
  exact anc_pa hW.1 hW.2.1.2.1 hq hpi hc _ _ (Or.inr ⟨R.1 - 1, by omega, rfl⟩) (by rw [grM_n (by have := hW.2.1.2.1; omega)]; omega) h
theorem WR.add {S : Sch} {R : Rec} (hW : WR S R) (hs : S.1 ≤ 128) {f pi : Nat} {v : Int64} {l : List Nat} (hf : f < S.1) (hpi : pi < R.1) (hg : ndFi (R.2 pi) = fGr (S.2 f)) (ho : opn R pi = true) (hl : lfC R.2 (nI pi) R.1 < nI f ∨ (nI f = lfC R.2 (nI pi) R.1 ∧ fKi (S.2 f) = 2)) (hb : fTy (S.2 f) = 0 → v = 0 ∨ v = 1) (hl5 : l.length ≤ 255) (hl6 : ∀ k, k < l.length → l.getD k 0 < 256) (hR : R.1 < 2000) (ht : tbC R.2 R.1 + l.length ≤ 16000) : WR S (addN R (nI f, nI pi, v, l)) := by
  obtain ⟨hp, ⟨h1, h2, h3⟩, h0, hfo, hord, hgp, hbo, ⟨hby, hlen⟩, hop⟩ := hW
  have hold : ∀ i, i < R.1 → (addN R (nI f, nI pi, v, l)).2 i = R.2 i := fun i hi => addN_old hi
  have hnew : (addN R (nI f, nI pi, v, l)).2 R.1 = (nI f, nI pi, v, l) := addN_new
  have hsp : ∀ i, i < (addN R (nI f, nI pi, v, l)).1 → i < R.1 ∨ i = R.1 := fun i hi => by
    have : i < R.1 + 1 := hi
    omega
  refine ⟨⟨by rw [hold 0 h1]; exact hp.1, fun i hi0 hi => ?_⟩, ⟨Nat.succ_pos _, by show R.1 + 1 ≤ 2000; omega, by show tbC _ (R.1 + 1) ≤ _; rw [addN_tb]; exact ht⟩, by rw [hold 0 h1]; exact h0, fun i hi0 hi => ?_, fun j k hj0 hjk hk hc => ?_, fun k hk0 hk j hj hc => ?_, fun k hk0 hk hz => ?_, ⟨fun i hi k hk => ?_, fun i hi => ?_⟩, fun k hk0 hk j hj hc => ?_⟩
  · rcases hsp i hi with z | z
    · rw [hold i z]; exact hp.2 i hi0 z
    · subst z; rw [hnew]; exact ⟨pi, hpi, rfl⟩
  · rcases hsp i hi with z | z
    · rw [hold i z]; exact hfo i hi0 z
    · subst z; rw [hnew]; exact ⟨f, hf, rfl⟩
  · rcases hsp k hk with z | z
    · rw [hold k z, hold j (by omega)] at hc
      rw [hold k z, hold j (by omega)]; exact hord j k hj0 hjk z hc
    · subst z
      rw [hnew, hold j hjk] at hc
      rw [hnew, hold j hjk]
      show ndFi (R.2 j) < nI f ∨ (ndFi (R.2 j) = nI f ∧ fKi (S.2 (nI f).toNatClampNeg) = 2)
      rw [nI_clamp (by omega)]
      have hA : allC R.2 pi f (fKi (S.2 f)) R.1 = true := by
        rw [allC_lf hord hp (by omega) (by omega) R.1 (Nat.le_refl _)]
        rcases hl with y | ⟨y1, y2⟩
        · rw [decide_eq_true y]; rfl
        · rw [decide_eq_true y1, decide_eq_true y2]; simp
      have hB : ∀ m, m ≤ R.1 → allC R.2 pi f (fKi (S.2 f)) m = true → ∀ j, j < m → ndPa (R.2 j) = nI pi → ndFi (R.2 j) < nI f ∨ (ndFi (R.2 j) = nI f ∧ fKi (S.2 f) = 2) := by
        intro m
        induction m with
        | zero => intro _ _ j hj; omega
        | succ m ih =>
          intro hm ha j hj hcj
          rw [show allC R.2 pi f (fKi (S.2 f)) (m + 1) = (allC R.2 pi f (fKi (S.2 f)) m && (!decide (ndPa (R.2 m) = nI pi) || (decide (ndFi (R.2 m) < nI f) || (decide (ndFi (R.2 m) = nI f) && decide (fKi (S.2 f) = 2))))) from rfl, Bool.and_eq_true] at ha
          by_cases e : j = m
          · subst e
            have h9 := ha.2
            rw [decide_eq_true hcj] at h9
            simpa using h9
          · exact ih (by omega) ha.1 j (by omega) hcj
      exact hB R.1 (Nat.le_refl _) hA j hjk hc
  · rcases hsp k hk with z | z
    · rw [hold k z] at hc ⊢
      rw [hold j (by omega)]; exact hgp k hk0 z j hj hc
    · subst z
      rw [hnew] at hc ⊢
      have hc : nI pi = nI j := hc
      have e := (nI_eq (a := pi) (b := j) (by omega) (by omega)).mp hc
      subst e
      rw [hold pi hpi]
      show fGr (S.2 (nI f).toNatClampNeg) = _
      rw [nI_clamp (by omega)]; exact hg.symm
  · rcases hsp k hk with z | z
    · rw [hold k z] at hz ⊢; exact hbo k hk0 z hz
    · subst z
      rw [hnew] at hz ⊢
      have hz : fTy (S.2 (nI f).toNatClampNeg) = 0 := hz
      rw [nI_clamp (by omega)] at hz
      exact hb hz
  · rcases hsp i hi with z | z
    · rw [hold i z] at hk ⊢; exact hby i z k hk
    · subst z; rw [hnew] at hk ⊢; exact hl6 k hk
  · rcases hsp i hi with z | z
    · rw [hold i z]; exact hlen i z
    · subst z; rw [hnew]; exact hl5
  · have hcg : ∀ m u, (u = -1 ∨ ∃ i, i < R.1 ∧ u = nI i) → anc (addN R (nI f, nI pi, v, l)).2 j m u = anc R.2 j m u := fun m u hu => anc_congr hold hp.all h2 m u hu
    rcases hsp k hk with z | z
    · rw [hold k z] at hc
      rw [hcg k _ (Or.inr ⟨k - 1, by omega, rfl⟩)]; exact hop k hk0 z j hj hc
    · subst z
      rw [hnew] at hc
      have hc : nI pi = nI j := hc
      have e := (nI_eq (a := pi) (b := j) (by omega) (by omega)).mp hc
      subst e
      rw [hcg R.1 _ (Or.inr ⟨R.1 - 1, by omega, rfl⟩), anc_opn hp h2 hpi]; exact ho

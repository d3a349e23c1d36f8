theorem anc_step {N : Nat → Nod} {q k i : Nat} (hi : i < 2 ^ 31) : anc N q (k + 1) (nI i) = (decide (nI i = nI q) || anc N q k (ndPa (N i))) := by
  rw [show anc N q (k + 1) (nI i) = if nI i = -1 then false else (decide (nI i = nI q) || anc N q k (ndPa (N (nI i).toNatClampNeg))) from rfl, if_neg (nI_ne1 hi), nI_clamp hi]
theorem anc_m1 {N : Nat → Nod} {q : Nat} : ∀ k, anc N q k (-1) = false := by
  intro k
  cases k with
  | zero => rfl
  | succ k => exact if_pos rfl
theorem anc_fuel {R : Rec} (hp : paOK R) (hR : R.1 ≤ 2000) {q : Nat} : ∀ k u m, ndN R u → grM u ≤ k → grM u ≤ m → anc R.2 q k u = anc R.2 q m u := by
  intro k
  induction k with
  | zero =>
    intro u m h1 h2 h3
    rcases h1 with e | ⟨i, hi, e⟩
    · rw [e, anc_m1, anc_m1]
    · rw [e, grM_n (by omega)] at h2; omega
  | succ k ih =>
    intro u m h1 h2 h3
    rcases h1 with e | ⟨i, hi, e⟩
    · rw [e, anc_m1, anc_m1]
    · subst e
      have hup := ndN_up hp hR hi
      rw [grM_n (by omega)] at h2 h3 hup
      obtain ⟨m2, e2⟩ : ∃ m2, m = m2 + 1 := ⟨m - 1, by omega⟩
      subst e2
      rw [anc_step (by omega), anc_step (by omega), ih _ m2 hup.1 (by omega) (by omega)]
/-- node k is i, or in it -/
def inS (R : Rec) (i k : Nat) : Bool := anc R.2 i R.1 (nI k)
theorem inS_self {R : Rec} (hR : R.1 ≤ 2000) {i : Nat} (hi : i < R.1) : inS R i i = true := by
  unfold inS
  obtain ⟨k, hk⟩ : ∃ k, R.1 = k + 1 := ⟨R.1 - 1, by omega⟩
  rw [hk, anc_step (by omega), decide_eq_true rfl]
  rfl
theorem inS_up {R : Rec} (hp : paOK R) (hR : R.1 ≤ 2000) {i k j : Nat} (hi : i < R.1) (hk : k < R.1) (hj : j < k) (hc : ndPa (R.2 k) = nI j) : inS R i k = (decide (k = i) || inS R i j) := by
  unfold inS
  obtain ⟨r, hr⟩ : ∃ r, R.1 = r + 1 := ⟨R.1 - 1, by omega⟩
  rw [hr, anc_step (by omega), hc]
  congr 1
  · rw [Bool.eq_iff_iff, decide_eq_true_eq, decide_eq_true_eq]
    exact ⟨fun z => (nI_eq (by omega) (by omega)).mp z, fun z => by rw [z]⟩
  · exact anc_fuel hp hR _ _ _ (Or.inr ⟨j, by omega, rfl⟩) (by rw [grM_n (by omega)]; omega) (by rw [grM_n (by omega)]; omega)
theorem inS_zero {R : Rec} (hp : paOK R) (hR : R.1 ≤ 2000) (h0 : 0 < R.1) {i : Nat} (hi : i < R.1) (hi0 : 0 < i) : inS R i 0 = false := by
  unfold inS
  obtain ⟨r, hr⟩ : ∃ r, R.1 = r + 1 := ⟨R.1 - 1, by omega⟩
  rw [hr, anc_step (by omega), hp.1, anc_m1, decide_eq_false (fun z => by have := (nI_eq (a := 0) (b := i) (by omega) (by omega)).mp z; omega)]
  rfl
theorem inS_le {R : Rec} (hp : paOK R) (hR : R.1 ≤ 2000) {i : Nat} (hi : i < R.1) : ∀ m k, k ≤ m → k < R.1 → inS R i k = true → i ≤ k := by
  intro m
  induction m with
  | zero =>
    intro k hk hkR h
    by_cases e : i = 0
    · omega
    · rw [show k = 0 by omega, inS_zero hp hR (by omega) hi (by omega)] at h; cases h
  | succ m ih =>
    intro k hk hkR h
    by_cases e : k = i
    · omega
    · by_cases k0 : k = 0
      · exact ih k (by omega) hkR h
      · obtain ⟨j, hj, hc⟩ := hp.2 k (by omega) hkR
        rw [inS_up hp hR hi hkR hj hc, decide_eq_false e, Bool.false_or] at h
        have := ih j (by omega) (by omega) h
        omega
theorem inS_tr {R : Rec} (hp : paOK R) (hR : R.1 ≤ 2000) {i j : Nat} (hi : i < R.1) (hj : j < R.1) (hij : inS R i j = true) : ∀ m k, k ≤ m → k < R.1 → inS R j k = true → inS R i k = true := by
  intro m
  induction m with
  | zero =>
    intro k hk hkR h
    have := inS_le hp hR hj 0 k hk hkR h
    rw [show k = j by omega]; exact hij
  | succ m ih =>
    intro k hk hkR h
    by_cases e : k = j
    · rw [e]; exact hij
    · by_cases k0 : k = 0
      · exact ih k (by omega) hkR h
      · obtain ⟨x, hx, hc⟩ := hp.2 k (by omega) hkR
        rw [inS_up hp hR hj hkR hx hc, decide_eq_false e, Bool.false_or] at h
        rw [inS_up hp hR hi hkR hx hc, ih x (by omega) (by omega) h, Bool.or_true]
/-- a record's nodes are in order: a node's parent has the node before it in itself -/
def ordP (R : Rec) : Prop := ∀ k, 0 < k → k < R.1 → ∀ j, j < k → ndPa (R.2 k) = nI j → inS R j (k - 1) = true
theorem WR.ordP {S : Sch} {R : Rec} (hW : WR S R) : ordP R := by
  intro k hk0 hk j hj hc
  have := hW.2.2.2.2.2.2.2.2 k hk0 hk j hj hc
  unfold inS
  have h2 := hW.2.1.2.1
  rw [← anc_fuel hW.1 h2 k _ R.1 (Or.inr ⟨k - 1, by omega, rfl⟩) (by rw [grM_n (by omega)]; omega) (by rw [grM_n (by omega)]; omega)]
  exact this
theorem inS_prev {R : Rec} (hp : paOK R) (hR : R.1 ≤ 2000) (ho : ordP R) {i m : Nat} (hi : i < R.1) (hm : m < R.1) (him : i < m) (h : inS R i m = true) : inS R i (m - 1) = true := by
  obtain ⟨j, hj, hc⟩ := hp.2 m (by omega) hm
  have h1 := ho m (by omega) hm j hj hc
  rw [inS_up hp hR hi hm hj hc, decide_eq_false (by omega), Bool.false_or] at h
  exact inS_tr hp hR hi (by omega) h (m - 1) (m - 1) (Nat.le_refl _) (by omega) h1
theorem inS_mid {R : Rec} (hp : paOK R) (hR : R.1 ≤ 2000) (ho : ordP R) {i k : Nat} (hi : i < R.1) (hik : i ≤ k) : ∀ d, k + d < R.1 → inS R i (k + d) = true → inS R i k = true := by
  intro d
  induction d with
  | zero => intro _ h; exact h
  | succ d ih =>
    intro h1 h2
    exact ih (by omega) (inS_prev hp hR ho (m := k + (d + 1)) hi h1 (by omega) h2)
def enR (R : Rec) (i : Nat) : Nat → Nat → Nat
  | 0, k => k
  | r + 1, k => if inS R i k = true then enR R i r (k + 1) else k
/-- the first node behind all that is in i -/
def enS (R : Rec) (i : Nat) : Nat := enR R i (R.1 - (i + 1)) (i + 1)
theorem enR_is {R : Rec} {i : Nat} : ∀ r k, k + r = R.1 → (k ≤ enR R i r k ∧ enR R i r k ≤ R.1) ∧ (∀ x, k ≤ x → x < enR R i r k → inS R i x = true) ∧ (enR R i r k < R.1 → inS R i (enR R i r k) = false) := by
  intro r
  induction r with
  | zero => intro k hk; exact ⟨⟨Nat.le_refl _, by show k ≤ R.1; omega⟩, fun x h1 h2 => absurd h2 (by show ¬ x < k; omega), fun h => absurd h (by show ¬ k < R.1; omega)⟩
  | succ r ih =>
    intro k hk
    cases hs : inS R i k with
    | true =>
      rw [show enR R i (r + 1) k = enR R i r (k + 1) from if_pos hs]
      obtain ⟨a, b, c⟩ := ih (k + 1) (by omega)
      refine ⟨⟨by omega, a.2⟩, fun x h1 h2 => ?_, c⟩
      by_cases e : x = k
      · rw [e]; exact hs
      · exact b x (by omega) h2
    | false =>
      rw [show enR R i (r + 1) k = k from if_neg (by rw [hs]; decide)]
      exact ⟨⟨Nat.le_refl _, by omega⟩, fun x h1 h2 => absurd h2 (by omega), fun _ => hs⟩
theorem enS_is {R : Rec} {i : Nat} (hi : i < R.1) : (i < enS R i ∧ enS R i ≤ R.1) ∧ (∀ x, i < x → x < enS R i → inS R i x = true) ∧ (enS R i < R.1 → inS R i (enS R i) = false) := by
  obtain ⟨a, b, c⟩ := enR_is (R := R) (i := i) (R.1 - (i + 1)) (i + 1) (by omega)
  exact ⟨⟨by unfold enS; omega, a.2⟩, fun x h1 h2 => b x (by omega) h2, c⟩
theorem enS_in {R : Rec} (hp : paOK R) (hR : R.1 ≤ 2000) (ho : ordP R) {i k : Nat} (hi : i < R.1) (hk : k < R.1) (hik : i ≤ k) : inS R i k = true ↔ k < enS R i := by
  obtain ⟨a, b, c⟩ := enS_is hi
  constructor
  · intro h
    apply Classical.byContradiction
    intro z
    have h2 := inS_mid hp hR ho hi (k := enS R i) (by omega) (k - enS R i) (by omega) (by rw [show enS R i + (k - enS R i) = k by omega]; exact h)
    rw [c (by omega)] at h2; cases h2
  · intro h
    by_cases e : k = i
    · rw [e]; exact inS_self hR hi
    · exact b k (by omega) h
/-- a child lies in its parent -/
theorem ch_in {R : Rec} (hp : paOK R) (hR : R.1 ≤ 2000) {i k : Nat} (hi : i < R.1) (hk : k < R.1) (hc : ndPa (R.2 k) = nI i) : i < k ∧ inS R i k = true := by
  have hk0 : 0 < k := by
    apply Classical.byContradiction
    intro z
    rw [show k = 0 by omega, hp.1] at hc
    exact nI_ne1 (by omega) hc.symm
  obtain ⟨j, hj, e⟩ := hp.2 k hk0 hk
  have ej := (nI_eq (a := j) (b := i) (by omega) (by omega)).mp (e.symm.trans hc)
  subst ej
  refine ⟨hj, ?_⟩
  rw [inS_up hp hR hi hk hj hc, inS_self hR hi, Bool.or_true]
/-- the node behind i is a child of i, where there is one in it -/
theorem first_ch {R : Rec} (hp : paOK R) (hR : R.1 ≤ 2000) (ho : ordP R) {i : Nat} (hi : i < R.1) (h : i + 1 < enS R i) : ndPa (R.2 (i + 1)) = nI i := by
  obtain ⟨a, b, c⟩ := enS_is hi
  obtain ⟨j, hj, e⟩ := hp.2 (i + 1) (by omega) (by omega)
  have h1 := b (i + 1) (by omega) h
  rw [inS_up hp hR hi (by omega) hj e, decide_eq_false (by omega), Bool.false_or] at h1
  have h2 := inS_le hp hR hi j j (Nat.le_refl _) (by omega) h1
  rw [e, show j = i by omega]
/-- the node behind a child, and all that is in it, is the next child -/
theorem next_ch {R : Rec} (hp : paOK R) (hR : R.1 ≤ 2000) (ho : ordP R) {i k : Nat} (hi : i < R.1) (hk : k < R.1) (hc : ndPa (R.2 k) = nI i) : enS R k ≤ enS R i ∧ (enS R k < enS R i → ndPa (R.2 (enS R k)) = nI i) ∧ ∀ x, k < x → x < enS R k → ¬ ndPa (R.2 x) = nI i := by
  obtain ⟨hik, hin⟩ := ch_in hp hR hi hk hc
  obtain ⟨a, b, c⟩ := enS_is hk
  obtain ⟨a2, b2, c2⟩ := enS_is hi
  have hki : k < enS R i := (enS_in hp hR ho hi hk (by omega)).mp hin
  have hle : enS R k ≤ enS R i := by
    apply Classical.byContradiction
    intro z
    have h1 : inS R k (enS R i) = true := (enS_in hp hR ho hk (by omega) (by omega)).mpr (by omega)
    have h2 := inS_tr hp hR hi hk hin (enS R i) (enS R i) (Nat.le_refl _) (by omega) h1
    rw [c2 (by omega)] at h2; cases h2
  refine ⟨hle, fun hlt => ?_, fun x h1 h2 hx => ?_⟩
  · -- the node m behind k's
    have hm : enS R k < R.1 := by omega
    obtain ⟨j, hj, e⟩ := hp.2 (enS R k) (by omega) hm
    have h1 : inS R i (enS R k) = true := (enS_in hp hR ho hi hm (by omega)).mpr hlt
    rw [inS_up hp hR hi hm hj e, decide_eq_false (by omega), Bool.false_or] at h1
    have hij := inS_le hp hR hi j j (Nat.le_refl _) (by omega) h1
    have h2 := ho (enS R k) (by omega) hm j hj e
    have h3 : inS R k (enS R k) = false := c hm
    rw [inS_up hp hR hk hm hj e, decide_eq_false (by omega), Bool.false_or] at h3
    have h4 : inS R k (enS R k - 1) = true := by
      by_cases z : enS R k - 1 = k
      · rw [z]; exact inS_self hR hk
      · exact b (enS R k - 1) (by omega) (by omega)
    -- j and k both have the node before m in them; j isn't in k, so k is in j, and j in i: j = i
    have hjk : j < k := by
      apply Classical.byContradiction
      intro z
      have h5 : inS R k j = true := (enS_in hp hR ho hk (by omega) (by omega)).mpr hj
      rw [h3] at h5; cases h5
    have h5 : inS R j k = true := inS_mid hp hR ho (i := j) (k := k) (by omega) (by omega) (enS R k - 1 - k) (by omega) (by rw [show k + (enS R k - 1 - k) = enS R k - 1 by omega]; exact h2)
    rw [inS_up hp hR (by omega) hk hik hc, decide_eq_false (by omega), Bool.false_or] at h5
    have h6 := inS_le hp hR (i := j) (by omega) i i (Nat.le_refl _) hi h5
    rw [e, show j = i by omega]
  · have h3 := b x h1 h2
    obtain ⟨-, hxi⟩ := ch_in hp hR hi (by omega) hx
    rw [inS_up hp hR hk (by omega) (show i < x by omega) hx, decide_eq_false (by omega), Bool.false_or] at h3
    have := inS_le hp hR hk i i (Nat.le_refl _) hi h3
    omega

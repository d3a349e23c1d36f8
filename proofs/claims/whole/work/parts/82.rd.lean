/-- what a reading inside the node pi gives: bounds in any case, and a record as it should be where it goes well -/
def okX (S : Sch) (n p : Nat) (R : Rec) (pi : Nat) (fin : Rec → Prop) (X : RRes) : Prop := (2 * (rrR X).1 ≤ n + 2 ∧ tbR (rrR X) ≤ n) ∧ ∀ P, X = .inr P → WR S P.2 ∧ exR pi R P.2 ∧ opn P.2 pi = true ∧ (2 * P.2.1 ≤ P.1 ∧ tbR P.2 ≤ P.1 ∧ p ≤ P.1 ∧ P.1 ≤ n) ∧ fin P.2
theorem okX.no {S : Sch} {n p F : Nat} {R R1 : Rec} {pi : Nat} {fin : Rec → Prop} (h1 : 2 * R1.1 ≤ n + 2) (h2 : tbR R1 ≤ n) : okX S n p R pi fin (.inl (F, R1)) := ⟨⟨h1, h2⟩, fun P h => by cases h⟩
theorem okX.ok {S : Sch} {n p p1 : Nat} {R R1 : Rec} {pi : Nat} {fin : Rec → Prop} (h1 : WR S R1) (h2 : exR pi R R1) (h3 : opn R1 pi = true) (h4 : 2 * R1.1 ≤ p1) (h5 : tbR R1 ≤ p1) (h6 : p ≤ p1) (h7 : p1 ≤ n) (h8 : fin R1) : okX S n p R pi fin (.inr (p1, R1)) :=
  ⟨⟨by show 2 * R1.1 ≤ n + 2; omega, by show tbR R1 ≤ n; omega⟩, fun P h => by injection h with h; subst h; exact ⟨h1, h2, h3, ⟨h4, h5, h6, h7⟩, h8⟩⟩
theorem okX.fail {S : Sch} {n p : Nat} {R : Rec} {pi : Nat} {fin fin2 : Rec → Prop} {p2 : Nat} {R2 : Rec} {pi2 : Nat} {X : RRes} {F : Nat × Rec} (h : okX S n p R pi fin X) (e : X = .inl F) : okX S n p2 R2 pi2 fin2 (.inl F) := by
  subst e; exact ⟨h.1, fun P h => by cases h⟩
theorem okX.go {S : Sch} {n p p2 : Nat} {R R2 : Rec} {pi : Nat} {fin fin2 : Rec → Prop} {X : RRes} (h : okX S n p2 R2 pi fin2 X) (hx : exR pi R R2) (hp : p ≤ p2) (hf : ∀ R1, fin2 R1 → fin R1) : okX S n p R pi fin X :=
  ⟨h.1, fun P e => by obtain ⟨a, b, c, ⟨d1, d2, d3, d4⟩, e2⟩ := h.2 P e; exact ⟨a, hx.tr b, c, ⟨d1, d2, by omega, d4⟩, hf _ e2⟩⟩
def preP (S : Sch) (n p : Nat) (R : Rec) (pi : Nat) : Prop := WR S R ∧ pi < R.1 ∧ opn R pi = true ∧ 2 * R.1 + 1 ≤ p ∧ tbR R ≤ p ∧ p ≤ n
def kpV (V : Nat → Rec → RRes) (S : Sch) (n fi pi : Nat) : Prop := ∀ p R, preP S n p R pi → ndFi (R.2 pi) = fGr (S.2 fi) → (lfC R.2 (nI pi) R.1 < nI fi ∨ (nI fi = lfC R.2 (nI pi) R.1 ∧ fKi (S.2 fi) = 2)) → okX S n p R pi (fun R1 => lfC R1.2 (nI pi) R1.1 = nI fi) (V p R)
theorem leaf_kp {S : Sch} (hs : S.1 ≤ 128) {n p fi pi p1 : Nat} {R : Rec} (hn : n ≤ 4000) (hfi : fi < S.1) (h : preP S n p R pi) (hg : ndFi (R.2 pi) = fGr (S.2 fi)) (hl : lfC R.2 (nI pi) R.1 < nI fi ∨ (nI fi = lfC R.2 (nI pi) R.1 ∧ fKi (S.2 fi) = 2)) {v : Int64} {l : List Nat} (hb : fTy (S.2 fi) = 0 → v = 0 ∨ v = 1) (hl5 : l.length ≤ 255) (hl6 : ∀ k, k < l.length → l.getD k 0 < 256) (h1 : p + 1 ≤ p1) (h2 : tbR R + l.length ≤ p1) (h3 : p1 ≤ n) : okX S n p R pi (fun R1 => lfC R1.2 (nI pi) R1.1 = nI fi) (.inr (p1, addN R (nI fi, nI pi, v, l))) := by
  obtain ⟨hW, hpi, ho, hc, htb, hpn⟩ := h
  have hR : R.1 < 2000 := by omega
  have htb' : tbC R.2 R.1 ≤ p := htb
  refine okX.ok (hW.add hs hfi hpi hg ho hl hb hl5 hl6 hR (by omega)) ⟨Nat.le_succ _, fun i hi => addN_old hi, fun k a b => ?_⟩ (hW.opn_new (v := 0) hR hpi) (by show 2 * (R.1 + 1) ≤ p1; omega) ?_ (by omega) h3 ?_
  · have b : k < R.1 + 1 := b
    have e : k = R.1 := by omega
    subst e
    rw [addN_new]
    exact ⟨pi, Nat.le_refl _, hpi, rfl⟩
  · rw [tbR_add]; exact h2
  · show lfC (addN R (nI fi, nI pi, v, l)).2 (nI pi) (R.1 + 1) = nI fi
    rw [addN_lf]
    exact if_pos rfl
theorem txL_rng {t : Nat → Nat} {n : Nat} (ht : ∀ k, k < n → t k < 256) {x : Nat × List Nat} : ∀ k p l, p ≤ n → l.length ≤ 255 → (∀ i, i < l.length → l.getD i 0 < 256) → txL t n k p l = .inr x → x.1 ≤ n ∧ x.2.length ≤ 255 ∧ ∀ i, i < x.2.length → x.2.getD i 0 < 256 := by
  intro k
  induction k with
  | zero => intro p l _ _ _ h; cases h
  | succ k ih =>
    intro p l hp hl hb h
    simp only [txL] at h
    split at h
    · rename_i h39
      injection h with h; subst h
      have := bt_lt (c := 39) h39
      exact ⟨by omega, hl, hb⟩
    · split at h
      · cases h
      · rename_i hne
        have hl2 : l.length < 255 := by
          apply Classical.byContradiction
          intro z; exact hne (Or.inr (by omega))
        split at h
        · cases h
        · rename_i y hy
          have hy2 : (∃ c, c < 256 ∧ y.1 = nI c) ∧ p < y.2 ∧ y.2 ≤ n := by
            split at hy
            · exact escR_ok ht hy
            · exact plnR_ok ht hy
          obtain ⟨⟨c, hc, ec⟩, -, hyn⟩ := hy2
          rw [ec, nI_clamp (by omega)] at h
          refine ih y.2 (l ++ [c]) hyn (by simp; omega) (fun i hi => ?_) h
          simp only [List.length_append, List.length_cons, List.length_nil] at hi
          by_cases e : i < l.length
          · simp only [List.getD_eq_getElem?_getD]
            rw [List.getElem?_append_left e]
            have := hb i e
            simpa only [List.getD_eq_getElem?_getD] using this
          · have e2 : i = l.length := by omega
            subst e2
            simp
            exact hc
theorem txR_rng {t : Nat → Nat} {n p : Nat} (ht : ∀ k, k < n → t k < 256) (hp : p ≤ n) {x : Nat × List Nat} (h : txR t n p = .inr x) : x.1 ≤ n ∧ x.2.length ≤ 255 ∧ ∀ i, i < x.2.length → x.2.getD i 0 < 256 := by
  unfold txR at h
  split at h
  · rename_i h39
    have := bt_lt (c := 39) h39
    exact txL_rng ht _ _ _ (by omega) (by simp) (fun i hi => absurd hi (Nat.not_lt_zero _)) h
  · cases h
theorem booR_val {t : Nat → Nat} {n p : Nat} {x : Int64 × Nat} (h : booR t n p = .inr x) : x.1 = 0 ∨ x.1 = 1 := by
  rw [booR_iW] at h
  split at h
  · injection h with h; subst h; exact Or.inr rfl
  · split at h
    · injection h with h; subst h; exact Or.inl rfl
    · cases h
theorem lfC_none {R : Rec} {q : Nat} (hq : q < 2 ^ 31) : ∀ n, (∀ i, i < n → ¬ ndPa (R.2 i) = nI q) → lfC R.2 (nI q) n = -1 := by
  intro n
  induction n with
  | zero => intro _; rfl
  | succ n ih => intro h; rw [show lfC R.2 (nI q) (n + 1) = lfC R.2 (nI q) n from if_neg (h n (by omega))]; exact ih (fun i hi => h i (by omega))
theorem opn_last {R : Rec} (h1 : 0 < R.1) (h2 : R.1 ≤ 2000) : opn R (R.1 - 1) = true := by
  unfold opn
  rw [decide_eq_true_eq]
  exact upW_stop _ (Or.inr (by rw [Int32.lt_iff_toInt_lt]; omega))
theorem valR_kp {M : Nat → Rec → Nat → Nat → RRes} {S : Sch} (hs : S.1 ≤ 128) (hto : tyOK S) {t : Nat → Nat} {n fi pi : Nat} (hn : n ≤ 4000) (ht : ∀ k, k < n → t k < 256) (hfi : fi < S.1) (hM : fTy (S.2 fi) = 4 → ∀ p R q, WR S R → q < R.1 → ndFi (R.2 q) = nI fi → opn R q = true → lfC R.2 (nI q) R.1 = -1 → 2 * R.1 ≤ p + 2 → tbR R ≤ p → p ≤ n → okX S n p R q (fun _ => True) (M p R q fi)) : kpV (fun p R => valR M S t n fi pi p R) S n fi pi := by
  intro p R h hg hl
  dsimp only
  have hsk := sk_le (t := t) h.2.2.2.2.2
  have hsg := sk_ge t n p
  have hc := h.2.2.2.1
  have htb := h.2.2.2.2.1
  have hno : ∀ F, okX S n p R pi (fun R1 => lfC R1.2 (nI pi) R1.1 = nI fi) (.inl (F, R)) := fun F => okX.no (by omega) (by omega)
  have hnum : ∀ (X : Sum Nat (Int64 × Nat)), ¬ fTy (S.2 fi) = 0 → (∀ x, X = .inr x → x.2 ≤ n ∧ sk t n p + 1 ≤ x.2) → okX S n p R pi (fun R1 => lfC R1.2 (nI pi) R1.1 = nI fi) (lfR X R fi pi) := by
    intro X h0 hX
    rcases X with F | x
    · exact hno F
    · have := hX x rfl
      exact leaf_kp hs hn hfi h hg hl (fun z => absurd z h0) (by simp) (fun k hk => absurd hk (Nat.not_lt_zero _)) (by omega) (by show tbR R + 0 ≤ _; omega) this.1
  unfold valR
  rcases hto fi hfi with z | z | z | z | z
  · rw [if_pos z]
    rcases hX : booR t n (sk t n p) with F | x
    · exact hno F
    · have h1 := booR_ok ht hsk hX
      have h2 := booR_val hX
      exact leaf_kp hs hn hfi h hg hl (fun _ => h2) (by simp) (fun k hk => absurd hk (Nat.not_lt_zero _)) (by omega) (by show tbR R + 0 ≤ _; omega) h1.1
  · rw [if_neg (by rw [z]; decide), if_pos z]
    exact hnum _ (by rw [z]; decide) (fun x hx => numR_ok hx)
  · rw [if_neg (by rw [z]; decide), if_neg (by rw [z]; decide), if_pos z]
    exact hnum _ (by rw [z]; decide) (fun x hx => numR_ok hx)
  · rw [if_neg (by rw [z]; decide), if_neg (by rw [z]; decide), if_neg (by rw [z]; decide), if_pos z]
    rcases hX : txR t n (sk t n p) with F | x
    · exact hno F
    · have h1 := txR_len ht hX
      have h2 := txR_rng ht hsk hX
      exact leaf_kp hs hn hfi h hg hl (fun y => by rw [z] at y; exact absurd y (by decide)) h2.2.1 h2.2.2 (by omega) (by omega) h2.1
  · rw [if_neg (by rw [z]; decide), if_neg (by rw [z]; decide), if_neg (by rw [z]; decide), if_neg (by rw [z]; decide)]
    obtain ⟨hW, hpi, ho, -, -, hpn⟩ := h
    have hR : R.1 < 2000 := by omega
    have hW1 : WR S (addN R (nI fi, nI pi, 0, [])) := hW.add hs hfi hpi hg ho hl (fun y => Or.inl rfl) (by simp) (fun k hk => absurd hk (Nat.not_lt_zero _)) hR (by have := hW.2.1.2.2; show tbC R.2 R.1 + 0 ≤ _; omega)
    have hx1 : exR pi R (addN R (nI fi, nI pi, 0, [])) := by
      refine ⟨Nat.le_succ _, fun i hi => addN_old hi, fun k a b => ?_⟩
      have b : k < R.1 + 1 := b
      have e : k = R.1 := by omega
      subst e
      rw [addN_new]
      exact ⟨pi, Nat.le_refl _, hpi, rfl⟩
    have hlf : lfC (addN R (nI fi, nI pi, 0, [])).2 (nI R.1) (R.1 + 1) = -1 := by
      refine lfC_none (R := addN R (nI fi, nI pi, 0, [])) (by omega) (R.1 + 1) (fun i hi y => ?_)
      rcases hW1.1.all i hi with w | ⟨j, hj, w⟩
      · rw [w] at y; exact nI_ne1 (by omega) y.symm
      · have := (nI_eq (a := j) (b := R.1) (by omega) (by omega)).mp (w.symm.trans y); omega
    have hX := hM z (sk t n p) (addN R (nI fi, nI pi, 0, [])) R.1 hW1 (Nat.lt_succ_self _) (by rw [addN_new]) (opn_last (R := addN R (nI fi, nI pi, 0, [])) (Nat.succ_pos _) (by show R.1 + 1 ≤ 2000; omega)) hlf (by show 2 * (R.1 + 1) ≤ _; omega) (by rw [tbR_add]; show tbR R + 0 ≤ _; omega) hsk
    refine ⟨hX.1, fun P e => ?_⟩
    obtain ⟨a1, a2, a3, ⟨d1, d2, d3, d4⟩, -⟩ := hX.2 P e
    have hq : ndPa (P.2.2 R.1) = nI pi := by rw [a2.2.1 R.1 (Nat.lt_succ_self _), addN_new]
    have hR1 : R.1 < P.2.1 := Nat.lt_of_lt_of_le (Nat.lt_succ_self _) a2.1
    refine ⟨a1, hx1.tr (a2.weak (by omega)), a1.opn_pa hR1 (by omega) hq a3, ⟨d1, d2, by omega, d4⟩, ?_⟩
    show lfC P.2.2 (nI pi) P.2.1 = nI fi
    rw [lfC_ex a2 hpi a1.2.1.2.1]
    show lfC (addN R (nI fi, nI pi, 0, [])).2 (nI pi) (R.1 + 1) = nI fi
    rw [addN_lf]
    exact if_pos rfl
theorem lt_succ_nI {f : Nat} (hf : f < 2000) : nI f < nI (f + 1) := (nI_ltI (by omega) (by omega)).mpr (by omega)
theorem i32_lt_tr {a b c : Int32} (h1 : a < b) (h2 : b < c) : a < c := by rw [Int32.lt_iff_toInt_lt] at *; omega
theorem rowL_kp {V : Nat → Rec → RRes} {S : Sch} (hs : S.1 ≤ 128) {t : Nat → Nat} {n fi pi : Nat} (hn : n ≤ 4000) (hfi : fi < S.1) (hV : kpV V S n fi pi) (hk : fKi (S.2 fi) = 2) : ∀ c p R, preP S n p R pi → ndFi (R.2 pi) = fGr (S.2 fi) → (lfC R.2 (nI pi) R.1 < nI fi ∨ nI fi = lfC R.2 (nI pi) R.1) → okX S n p R pi (fun R1 => lfC R1.2 (nI pi) R1.1 < nI (fi + 1)) (rowL V t n c p R) := by
  have hsg : ∀ p R p0 R0, WR S R → opn R pi = true → 2 * R.1 ≤ p → tbR R ≤ p → p ≤ n → (lfC R.2 (nI pi) R.1 < nI fi ∨ nI fi = lfC R.2 (nI pi) R.1) → exR pi R0 R → p0 ≤ p → okX S n p0 R0 pi (fun R1 => lfC R1.2 (nI pi) R1.1 < nI (fi + 1)) (sgnR t n 93 p R) := by
    intro p R p0 R0 hW ho h1 h2 h3 h4 hx hp0
    have hsk := sk_le (t := t) h3
    have hsg := sk_ge t n p
    unfold sgnR
    split
    · rename_i hb
      have := bt_lt (c := 93) hb
      refine okX.ok hW hx ho (by omega) (by omega) (by omega) (by omega) ?_
      rcases h4 with z | z
      · exact i32_lt_tr z (lt_succ_nI (by omega))
      · rw [← z]; exact lt_succ_nI (by omega)
    · exact okX.no (by omega) (by omega)
  intro c
  induction c with
  | zero =>
    intro p R h hg hl
    exact hsg p R p R h.1 h.2.2.1 (by have := h.2.2.2.1; omega) h.2.2.2.2.1 h.2.2.2.2.2 hl (exR.rf _ _) (Nat.le_refl _)
  | succ c ih =>
    intro p R h hg hl
    have hv := hV p R h hg (hl.imp_right (fun z => ⟨z, hk⟩))
    rcases hX : V p R with F | y
    · rw [rowL_no hX]; exact hv.fail hX
    · rw [rowL_ok hX]
      obtain ⟨a1, a2, a3, ⟨d1, d2, d3, d4⟩, a5⟩ := hv.2 y hX
      have hsk := sk_le (t := t) d4
      have hsg2 := sk_ge t n y.1
      have hg2 : ndFi (y.2.2 pi) = fGr (S.2 fi) := by rw [a2.2.1 pi h.2.1]; exact hg
      split
      · rename_i hb
        have hlt := bt_lt (c := 44) hb
        exact (ih (sk t n y.1 + 1) y.2 ⟨a1, Nat.lt_of_lt_of_le h.2.1 a2.1, a3, by omega, by omega, by omega⟩ hg2 (Or.inr a5.symm)).go a2 (by omega) (fun _ z => z)
      · exact hsg _ y.2 p R a1 a3 (by omega) (by omega) hsk (Or.inr a5.symm) a2 (by omega)
theorem fldR_kp {V : Nat → Rec → RRes} {S : Sch} (hs : S.1 ≤ 128) {t : Nat → Nat} {n fi pi : Nat} (hn : n ≤ 4000) (hfi : fi < S.1) (hV : kpV V S n fi pi) {p : Nat} {R : Rec} (h : preP S n p R pi) (hg : ndFi (R.2 pi) = fGr (S.2 fi)) (hl : lfC R.2 (nI pi) R.1 < nI fi) : okX S n p R pi (fun R1 => lfC R1.2 (nI pi) R1.1 < nI (fi + 1)) (fldR V S t n fi p R) := by
  have hsk := sk_le (t := t) h.2.2.2.2.2
  have hsg := sk_ge t n p
  have hc := h.2.2.2.1
  have htb := h.2.2.2.2.1
  unfold fldR
  split
  · rename_i hk
    split
    · rename_i hb
      have hlt := bt_lt (c := 91) hb
      have hsk2 := sk_le (t := t) (n := n) (p := sk t n p + 1) (by omega)
      have hsg2 := sk_ge t n (sk t n p + 1)
      split
      · rename_i hb2
        have hlt2 := bt_lt (c := 93) hb2
        rw [sgnR_ok (by rw [sk_sk]; exact hb2), sk_sk]
        exact okX.ok h.1 (exR.rf _ _) h.2.2.1 (by omega) (by omega) (by omega) (by omega) (i32_lt_tr hl (lt_succ_nI (by omega)))
      · exact (rowL_kp hs hn hfi hV hk 4001 (sk t n (sk t n p + 1)) R ⟨h.1, h.2.1, h.2.2.1, by omega, by omega, hsk2⟩ hg (Or.inl hl)).go (exR.rf _ _) (by omega) (fun _ z => z)
    · exact okX.no (by omega) (by omega)
  · have hv := hV p R h hg (Or.inl hl)
    exact hv.go (exR.rf _ _) (Nat.le_refl _) (fun R1 z => by rw [z]; exact lt_succ_nI (by omega))
theorem memE_kp {S : Sch} {t : Nat → Nat} {n p p0 st pi : Nat} {gr : Int32} {R R0 : Rec} (hW : WR S R) (ho : opn R pi = true) (h1 : 2 * R.1 ≤ p + 1) (h2 : tbR R ≤ p) (h3 : p ≤ n) (hx : exR pi R0 R) (hp0 : p0 ≤ p) : okX S n p0 R0 pi (fun _ => True) (memE S t n gr st p R) := by
  have hsk := sk_le (t := t) h3
  have hsg := sk_ge t n p
  by_cases hb : bt t n (sk t n p) = 125
  · have hlt := bt_lt (c := 125) hb
    rw [memE_ok hb]
    split
    · exact okX.no (by omega) (by omega)
    · exact okX.ok hW hx ho (by omega) (by omega) (by omega) (by omega) trivial
  · rw [memE_no hb]; exact okX.no (by omega) (by omega)
def kpF2 (F : Nat → Nat → Rec → RRes) (S : Sch) (n pi : Nat) (gr : Int32) : Prop := ∀ fi, fi < S.1 → fGr (S.2 fi) = gr → ∀ p R, preP S n p R pi → ndFi (R.2 pi) = gr → lfC R.2 (nI pi) R.1 < nI fi → okX S n p R pi (fun R1 => lfC R1.2 (nI pi) R1.1 < nI (fi + 1)) (F fi p R)
theorem memL_kp {F : Nat → Nat → Rec → RRes} {S : Sch} (hs : S.1 ≤ 128) {t : Nat → Nat} {n pi : Nat} {gr : Int32} (hn : n ≤ 4000) (ht : ∀ k, k < n → t k < 256) (hF : kpF2 F S n pi gr) : ∀ c st p R, WR S R → pi < R.1 → ndFi (R.2 pi) = gr → opn R pi = true → lfC R.2 (nI pi) R.1 < nI st → 2 * R.1 ≤ p + 1 → tbR R ≤ p → p ≤ n → okX S n p R pi (fun _ => True) (memL F S t n gr c st p R) := by
  intro c
  induction c with
  | zero => intro st p R hW hpi hg ho hl h1 h2 h3; exact memE_kp hW ho h1 h2 h3 (exR.rf _ _) (Nat.le_refl _)
  | succ c ih =>
    intro st p R hW hpi hg ho hl h1 h2 h3
    rcases hN : namR S t n gr st p with x | y
    · rw [memL_nam hN]; exact okX.no (by omega) (by omega)
    · obtain ⟨n1, n2, n3, n4, n5⟩ := namR_ok ht h3 hs hN
      have hsk := sk_le (t := t) n4
      have hsg := sk_ge t n y.2
      by_cases hb : bt t n (sk t n y.2) = 58
      · have hlt := bt_lt (c := 58) hb
        have hlf : lfC R.2 (nI pi) R.1 < nI y.1 := by
          by_cases e : st = y.1
          · rw [← e]; exact hl
          · exact i32_lt_tr hl ((nI_ltI (by omega) (by omega)).mpr (by omega))
        have hv := hF y.1 n1 n3 (sk t n y.2 + 1) R ⟨hW, hpi, ho, by omega, by omega, by omega⟩ hg hlf
        rcases hX : F y.1 (sk t n y.2 + 1) R with G | z
        · rw [memL_no hN hb hX]; exact hv.fail hX
        · rw [memL_ok hN hb hX]
          obtain ⟨a1, a2, a3, ⟨d1, d2, d3, d4⟩, a5⟩ := hv.2 z hX
          have hsk2 := sk_le (t := t) d4
          have hsg2 := sk_ge t n z.1
          split
          · rename_i hb2
            have hlt2 := bt_lt (c := 44) hb2
            exact (ih (y.1 + 1) (sk t n z.1 + 1) z.2 a1 (Nat.lt_of_lt_of_le hpi a2.1) (by rw [a2.2.1 pi hpi]; exact hg) a3 a5 (by omega) (by omega) (by omega)).go a2 (by omega) (fun _ z => z)
          · exact memE_kp a1 a3 (by omega) (by omega) hsk2 a2 (by omega)
      · rw [memL_col hN hb]; exact okX.no (by omega) (by omega)
theorem memR_kp {F : Nat → Nat → Rec → RRes} {S : Sch} (hs : S.1 ≤ 128) {t : Nat → Nat} {n pi st p : Nat} {gr : Int32} (hn : n ≤ 4000) (ht : ∀ k, k < n → t k < 256) (hF : kpF2 F S n pi gr) {R : Rec} (hW : WR S R) (hpi : pi < R.1) (hg : ndFi (R.2 pi) = gr) (ho : opn R pi = true) (hl : lfC R.2 (nI pi) R.1 < nI st) (h1 : 2 * R.1 ≤ p + 2) (h2 : tbR R ≤ p) (h3 : p ≤ n) : okX S n p R pi (fun _ => True) (memR F S t n gr st p R) := by
  have hsk := sk_le (t := t) h3
  have hsg := sk_ge t n p
  unfold memR
  split
  · rename_i hb
    have hlt := bt_lt (c := 123) hb
    have hsk2 := sk_le (t := t) (n := n) (p := sk t n p + 1) (by omega)
    have hsg2 := sk_ge t n (sk t n p + 1)
    split
    · exact memE_kp hW ho (by omega) (by omega) hsk2 (exR.rf _ _) (by omega)
    · exact (memL_kp hs hn ht hF 129 st _ R hW hpi hg ho hl (by omega) (by omega) hsk2).go (exR.rf _ _) (by omega) (fun _ z => z)
  · exact okX.no (by omega) (by omega)
theorem m1_lt {st : Nat} (h : st < 2 ^ 31) : (-1 : Int32) < nI st := by rw [Int32.lt_iff_toInt_lt, nI_toInt h]; have : (-1 : Int32).toInt = -1 := rfl; omega
theorem memD_kp {S : Sch} (hs : S.1 ≤ 128) (hto : tyOK S) {t : Nat → Nat} {n : Nat} (hn : n ≤ 4000) (ht : ∀ k, k < n → t k < 256) : ∀ D p R q gi, gi < S.1 → WR S R → q < R.1 → ndFi (R.2 q) = nI gi → opn R q = true → lfC R.2 (nI q) R.1 = -1 → 2 * R.1 ≤ p + 2 → tbR R ≤ p → p ≤ n → okX S n p R q (fun _ => True) (memD S t n D p R q gi) := by
  intro D
  induction D with
  | zero => intro p R q gi _ hW hq hg ho hl h1 h2 h3; exact okX.no (by omega) (by omega)
  | succ D ih =>
    intro p R q gi hgi hW hq hg ho hl h1 h2 h3
    refine memR_kp hs hn ht (fun fi hfi hgr p R hpre hg2 hlf => ?_) hW hq hg ho (by rw [hl]; exact m1_lt (by omega)) h1 h2 h3
    exact fldR_kp hs hn hfi (valR_kp hs hto hn ht hfi (fun _ p R q a b c d e f g i => ih p R q fi hfi a b c d e f g i)) hpre (by rw [hg2, hgr]) hlf
theorem memT_kp {S : Sch} (hs : S.1 ≤ 128) (hto : tyOK S) {t : Nat → Nat} {n : Nat} (hn : n ≤ 4000) (ht : ∀ k, k < n → t k < 256) : okX S n 0 rec0 0 (fun _ => True) (memT S t n 0 rec0) := by
  refine memR_kp hs hn ht (fun fi hfi hgr p R hpre hg2 hlf => ?_) (WR0 S) (by decide) rfl (by decide) (by decide) (by decide) (by decide) (Nat.zero_le _)
  exact fldR_kp hs hn hfi (valR_kp hs hto hn ht hfi (fun _ p R q a b c d e f g i => memD_kp hs hto hn ht 16 p R q fi hfi a b c d e f g i)) hpre (by rw [hg2, hgr]) hlf

abbrev RRes : Type := Sum (Nat × Rec) (Nat × Rec)
/-- the record where reading ended -/
def rrR (X : RRes) : Rec := match X with
  | .inl x => x.2
  | .inr y => y.2
def tbR (R : Rec) : Nat := tbC R.2 R.1
def lfR (X : Sum Nat (Int64 × Nat)) (R : Rec) (fi pi : Nat) : RRes := match X with
  | .inl F => .inl (F, R)
  | .inr x => .inr (x.2, addN R (nI fi, nI pi, x.1, []))
def ltR (X : Sum Nat (Nat × List Nat)) (R : Rec) (fi pi : Nat) : RRes := match X with
  | .inl F => .inl (F, R)
  | .inr x => .inr (x.1, addN R (nI fi, nI pi, 0, x.2))
/-- a value of the field fi under the node pi; M reads a group -/
def valR (M : Nat → Rec → Nat → Nat → RRes) (S : Sch) (t : Nat → Nat) (n fi pi p : Nat) (R : Rec) : RRes :=
  if fTy (S.2 fi) = nI 0 then lfR (booR t n (sk t n p)) R fi pi
  else if fTy (S.2 fi) = nI 1 then lfR (numR t n (sk t n p) (-2147483648)) R fi pi
  else if fTy (S.2 fi) = nI 2 then lfR (numR t n (sk t n p) (-9223372036854775808)) R fi pi
  else if fTy (S.2 fi) = nI 3 then ltR (txR t n (sk t n p)) R fi pi
  else M (sk t n p) (addN R (nI fi, nI pi, 0, [])) R.1 fi
def NdAt (g : z_G) (h : z_H) (mr w : Nat) (S : Sch) (R : Rec) : Prop := ∃ ra ad tx rf tf, NdP g h mr w S R ra ad tx rf tf
def rmono (R : Rec) (X : RRes) : Prop := R.1 ≤ (rrR X).1 ∧ tbR R ≤ tbR (rrR X)
theorem NdAt.k {g : z_G} {h h1 : z_H} {mr w : Nat} {S : Sch} {R : Rec} {Ro : Nat → Prop} (hN : NdAt g h mr w S R) (hk : z_K Ro h h1) (h0 : ¬ Ro mr) (h1' : ¬ Ro (mr + 1)) (h2 : ¬ Ro (mr + 2)) : NdAt g h1 mr w S R := by
  obtain ⟨ra, ad, tx, rf, tf, h⟩ := hN
  exact ⟨ra, ad, tx, rf, tf, h.k hk h0 h1' h2⟩
theorem tbR_add (R : Rec) (N : Nod) : tbR (addN R N) = tbR R + (ndTx N).length := addN_tb
theorem txL_len {t : Nat → Nat} {n : Nat} (ht : ∀ k, k < n → t k < 256) {x : Nat × List Nat} : ∀ k p l, txL t n k p l = .inr x → x.2.length + p ≤ x.1 + l.length := by
  intro k
  induction k with
  | zero => intro p l h; cases h
  | succ k ih =>
    intro p l h
    simp only [txL] at h
    split at h
    · cases h; show l.length + p ≤ p + 1 + l.length; omega
    · split at h
      · cases h
      · rcases hV : (if bt t n p = 92 then escR t n p else plnR t n p) with F | y
        · rw [hV] at h; cases h
        · rw [hV] at h
          have h2 := ih y.2 (l ++ [y.1.toNatClampNeg]) h
          have h3 : p < y.2 := by
            split at hV
            · exact (escR_ok ht hV).2.1
            · exact (plnR_ok ht hV).2.1
          simp only [List.length_append, List.length_cons, List.length_nil] at h2
          omega
theorem txR_len {t : Nat → Nat} {n p : Nat} (ht : ∀ k, k < n → t k < 256) {x : Nat × List Nat} (h : txR t n p = .inr x) : x.2.length + p + 1 ≤ x.1 := by
  unfold txR at h
  split at h
  · have := txL_len ht 256 _ _ h
    have := sk_ge t n p
    simp at *
    omega
  · cases h
theorem dgL_ok {t : Nat → Nat} {n : Nat} {lim : Int64} {st : Nat} {x : Int64 × Nat} : ∀ k p b, p ≤ n → dgL t n lim st k p b = .inr x → x.2 ≤ n ∧ p ≤ x.2 := by
  intro k
  induction k with
  | zero => intro p b hp h; cases h; exact ⟨hp, Nat.le_refl _⟩
  | succ k ih =>
    intro p b hp h
    simp only [dgL] at h
    split at h
    · rename_i hd
      have := isDig_lt hd
      split at h
      · cases h
      · have := ih (p + 1) _ (by omega) h
        omega
    · cases h; exact ⟨hp, Nat.le_refl _⟩
theorem dgL_ge {t : Nat → Nat} {n : Nat} {lim : Int64} {st : Nat} {x : Int64 × Nat} {k p : Nat} {b : Int64} (hd : isDig (bt t n p) = true) (h : dgL t n lim st (k + 1) p b = .inr x) : x.2 ≤ n ∧ p + 1 ≤ x.2 := by
  simp only [dgL] at h
  rw [if_pos hd] at h
  have := isDig_lt hd
  split at h
  · cases h
  · exact dgL_ok k (p + 1) _ (by omega) h
theorem numR_ok {t : Nat → Nat} {n p : Nat} {lo : Int64} {x : Int64 × Nat} (h : numR t n p lo = .inr x) : x.2 ≤ n ∧ p + 1 ≤ x.2 := by
  have key : ∀ p1 neg, p ≤ p1 → numN t n p p1 neg lo = .inr x → x.2 ≤ n ∧ p + 1 ≤ x.2 := by
    intro p1 neg hp h
    unfold numN at h
    split at h
    · rename_i hd
      split at h
      · cases h
      · rcases hV : dgL t n (if neg = true then lo else lo + 1) p 4000 p1 0 with F | y
        · rw [hV] at h; cases h
        · rw [hV] at h
          have := dgL_ge hd hV
          cases h
          show y.2 ≤ n ∧ p + 1 ≤ y.2
          omega
    · cases h
  unfold numR at h
  split at h
  · exact key _ _ (by omega) h
  · exact key _ _ (Nat.le_refl _) h
theorem we_gt {t : Nat → Nat} {n p : Nat} (ht : ∀ k, k < n → t k < 256) (h : isLet (bt t n p) = true) : p < n ∧ p + 1 ≤ we t n p := by
  have hp : p < n := by
    apply Classical.byContradiction
    intro z
    rw [bt_out z] at h
    exact absurd h (by decide)
  rw [bt_in hp, (by_let _ (ht p hp)).1] at h
  rw [we_step hp (by unfold wdN; rw [h]; rfl)]
  exact ⟨hp, we_ge t n (p + 1)⟩
theorem booR_ok {t : Nat → Nat} {n p : Nat} {x : Int64 × Nat} (ht : ∀ k, k < n → t k < 256) (hp : p ≤ n) (h : booR t n p = .inr x) : x.2 ≤ n ∧ p + 1 ≤ x.2 := by
  unfold booR at h
  split at h
  · rename_i hl
    have h1 := we_gt ht hl
    have h2 := we_le (t := t) (sk_le (t := t) hp)
    have h3 := sk_ge t n p
    split at h
    · cases h; show we t n (sk t n p) ≤ n ∧ _ ≤ we t n (sk t n p); omega
    · split at h
      · cases h; show we t n (sk t n p) ≤ n ∧ _ ≤ we t n (sk t n p); omega
      · cases h
  · cases h
/-- what a method that reads into a row of nodes answers -/
def vlP (g : z_G) (X : RRes) (h : z_H) (mr w : Nat) (S : Sch) (rd sc q tr b n : Nat) (x : Option Value) (h1 : z_H) : Prop :=
  z_K (fun y => y = 6 ∨ y = 8 ∨ y = 10 ∨ y = mr ∨ y = mr + 1) h h1 ∧ (∃ nu : Int64, h1 rd = some ((8, 0), .inr (9, [.ref sc, .ref q, .ref w, .ref tr, .long nu]))) ∧ trAt g h1 tr [] ∧ NdAt g h1 mr w S (rrR X) ∧ paOK (rrR X) ∧ match X with
  | .inl F => x = some (.int 0) ∧ ScFa h1 sc b n F.1
  | .inr P => x = some (.int 1) ∧ ScAt h1 sc b n P.1 ∧ P.1 ≤ n ∧ 2 * P.2.1 ≤ P.1 ∧ tbR P.2 ≤ P.1
theorem trAt.nil {g : z_G} {h : z_H} {tr : Nat} {l : List Nat} (x : trAt g h tr l) : trAt g h tr [] := by
  obtain ⟨f, h1, h2, -⟩ := x
  exact ⟨f, h1, h2, fun k hk => by simp at hk⟩
theorem trAt.k {g : z_G} {h h1 : z_H} {tr : Nat} {l : List Nat} {Ro : Nat → Prop} (x : trAt g h tr l) (hk : z_K Ro h h1) (h0 : ¬ Ro 10) : trAt g h1 tr l := by
  obtain ⟨f, e, h2⟩ := x
  exact ⟨f, hk _ _ _ e h0, h2⟩
theorem lfR_mono (X : Sum Nat (Int64 × Nat)) (R : Rec) (fi pi : Nat) : rmono R (lfR X R fi pi) := by
  cases X with
  | inl F => exact ⟨Nat.le_refl _, Nat.le_refl _⟩
  | inr x => exact ⟨Nat.le_succ _, by show tbR R ≤ tbR (addN R _); rw [tbR_add]; omega⟩
theorem ltR_mono (X : Sum Nat (Nat × List Nat)) (R : Rec) (fi pi : Nat) : rmono R (ltR X R fi pi) := by
  cases X with
  | inl F => exact ⟨Nat.le_refl _, Nat.le_refl _⟩
  | inr x => exact ⟨Nat.le_succ _, by show tbR R ≤ tbR (addN R _); rw [tbR_add]; omega⟩
theorem valR_mono {M : Nat → Rec → Nat → Nat → RRes} {S : Sch} {t : Nat → Nat} {n fi pi p : Nat} {R : Rec} (hM : ∀ p R pi gi, rmono R (M p R pi gi)) : rmono R (valR M S t n fi pi p R) := by
  unfold valR
  split
  · exact lfR_mono _ _ _ _
  · split
    · exact lfR_mono _ _ _ _
    · split
      · exact lfR_mono _ _ _ _
      · split
        · exact ltR_mono _ _ _ _
        · have h := hM (sk t n p) (addN R (nI fi, nI pi, 0, [])) R.1 fi
          exact ⟨Nat.le_trans (Nat.le_succ _) h.1, Nat.le_trans (by rw [tbR_add]; omega) h.2⟩

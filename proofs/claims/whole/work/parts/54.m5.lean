/-- the reference's fault behind a reading: it had one already, or gets the reading's -/
def resI (il : Int32) (X : Res) : Int32 := if il = -1 then (match X with | .inl F => nI F.1 | .inr _ => -1) else il
theorem resI_ill {il : Int32} {X : Res} (h : ¬ il = -1) : resI il X = il := if_neg h
theorem resI_no {F : Nat × Nat} : resI (-1) (.inl F) = nI F.1 := if_pos rfl
theorem resI_ok {P : Nat × Sch} : resI (-1) (.inr P) = -1 := if_pos rfl
theorem resI_inl {X : Res} (h : ¬ resI (-1) X = -1) : ∃ F, X = .inl F := by
  rcases X with F | P
  · exact ⟨F, rfl⟩
  · exact absurd resI_ok h
def pickW (t : Nat → Nat) (n q : Nat) : List Nat → Nat → Sum Nat (Int32 × Nat)
  | [], _ => .inl q
  | i :: l, k => if iW t n q i = true then .inr (nI k, we t n q) else pickW t n q l (k + 1)
theorem rdW_iW (t : Nat → Nat) (n p : Nat) (is : List Nat) : rdW t n p is = pickW t n (sk t n p) is 0 := by
  unfold rdW
  by_cases h : isLet (bt t n (sk t n p)) = true
  · rw [if_pos h]
    generalize 0 = k
    induction is generalizing k with
    | nil => rfl
    | cons i l ih => simp only [pick, pickW, iW, h, Bool.true_and]; rw [ih]
  · rw [if_neg h]
    generalize 0 = k
    induction is generalizing k with
    | nil => rfl
    | cons i l ih => simp only [pickW, iW, h, Bool.false_and, Bool.false_eq_true, if_false]; exact ih _
def fR3 (G : Nat → Sch → Nat → Res) (t : Nat → Nat) (n : Nat) (S : Sch) (gr : Int32) (d : Nat) (ki ty : Int32) (q : Nat) : Res :=
  if (isLet (bt t n q) && nmSt S t gr ty d q (we t n q)) = true then
    (if ty = 4 then G (we t n q) (addF S ki ty gr (nmL t q (we t n q))) S.1 else sgn t n 59 (we t n q) (addF S ki ty gr (nmL t q (we t n q))))
  else .inl (q, S.1)
def fR2 (G : Nat → Sch → Nat → Res) (t : Nat → Nat) (n : Nat) (S : Sch) (gr : Int32) (d : Nat) (ki : Int32) (p : Nat) : Res :=
  match pickW t n (sk t n p) [3, 4, 5, 6, 7] 0 with
  | .inl F => .inl (F, S.1)
  | .inr y => fR3 G t n S gr d ki y.1 (sk t n y.2)
theorem fieldR_eq (G : Nat → Sch → Nat → Res) (t : Nat → Nat) (n p : Nat) (S : Sch) (gr : Int32) (d : Nat) : fieldR G t n p S gr d = match pickW t n (sk t n p) [0, 1, 2] 0 with
    | .inl F => .inl (F, S.1)
    | .inr x => fR2 G t n S gr d x.1 x.2 := by
  unfold fieldR
  rw [rdW_iW]
  rcases pickW t n (sk t n p) [0, 1, 2] 0 with F | x
  · rfl
  · dsimp only
    unfold fR2
    rw [rdW_iW]
    rcases pickW t n (sk t n x.2) [3, 4, 5, 6, 7] 0 with F | y
    · rfl
    · dsimp only
      unfold fR3
      by_cases h1 : isLet (bt t n (sk t n y.2)) = true
      · rw [if_pos h1, h1, Bool.true_and]
      · rw [if_neg h1, if_neg (by simp [h1])]
def grpC (FR : Nat → Sch → Res) (t : Nat → Nat) (n c p : Nat) (S : Sch) : Res := match FR p S with
  | .inl x => .inl x
  | .inr y => grpL FR t n c false y.1 y.2
theorem grpR_eq (FR : Nat → Sch → Res) (t : Nat → Nat) (n p : Nat) (S : Sch) : grpR FR t n p S = if bt t n (sk t n p) = 123 then grpC FR t n 128 (sk t n p + 1) S else .inl (sk t n p, S.1) := by
  unfold grpR grpC
  rw [show (129 : Nat) = 128 + 1 from rfl]
  generalize (128 : Nat) = c
  simp only [grpL]
  rw [if_neg (show ¬ (true = false ∧ bt t n (sk t n (sk t n p + 1)) = 125) from fun z => by cases z.1)]
  rfl
theorem grpL_step (FR : Nat → Sch → Res) (t : Nat → Nat) (n c p : Nat) (S : Sch) : grpL FR t n (c + 1) false p S = if bt t n (sk t n p) = 125 then .inr (sk t n p + 1, S) else grpC FR t n c (sk t n p) S := by
  simp only [grpL, grpC]
  by_cases h : bt t n (sk t n p) = 125
  · rw [if_pos h, if_pos ⟨trivial, h⟩]
  · rw [if_neg h, if_neg (fun z => h z.2)]; rfl
/-- what a schema's size and names are bound by -/
def scB (S : Sch) : Prop := S.1 ≤ 128 ∧ cc S ≤ 64 ∧ ∀ i, i < S.1 → (fNm (S.2 i)).length ≤ 16 ∧ ∀ k, k < (fNm (S.2 i)).length → (fNm (S.2 i)).getD k 0 < 256
/-- field i of the group has the m bytes at q as its name -/
def mtc (S : Sch) (gr : Int32) (t : Nat → Nat) (q m i : Nat) : Bool := (decide (fGr (S.2 i) = gr) && decide ((fNm (S.2 i)).length = m)) && nmE t q (fun k => (fNm (S.2 i)).getD k 0) m
def nmN (S : Sch) (gr : Int32) (t : Nat → Nat) (q m : Nat) : Nat → Bool
  | 0 => true
  | i + 1 => nmN S gr t q m i && !mtc S gr t q m i
theorem nmE_pre {t : Nat → Nat} {i : Nat} {nm : Nat → Nat} {a : Nat} : ∀ b, a ≤ b → nmE t i nm a = false → nmE t i nm b = false := by
  intro b h1 h2
  cases h : nmE t i nm b with
  | false => rfl
  | true => rw [nmE_all] at h; rw [(nmE_all a).mpr (fun k hk => h k (by omega))] at h2; cases h2
theorem nmN_all {S : Sch} {gr : Int32} {t : Nat → Nat} {q m : Nat} : ∀ i, nmN S gr t q m i = true ↔ ∀ j, j < i → mtc S gr t q m j = false := by
  intro i
  induction i with
  | zero => exact ⟨fun _ j hj => absurd hj (Nat.not_lt_zero _), fun _ => rfl⟩
  | succ i ih =>
    simp only [nmN, Bool.and_eq_true, ih, Bool.not_eq_true']
    constructor
    · rintro ⟨h1, h2⟩ j hj
      by_cases z : j = i
      · rw [z]; exact h2
      · exact h1 j (by omega)
    · intro h; exact ⟨fun j hj => h j (by omega), h i (by omega)⟩
theorem mtc_is {S : Sch} {gr : Int32} {t : Nat → Nat} {q e i : Nat} : (decide (fGr (S.2 i) = gr) && isNm t q e (S.2 i)) = mtc S gr t q (e - q) i := by
  unfold isNm mtc
  by_cases h : e - q = (fNm (S.2 i)).length
  · rw [← h]; simp
  · rw [decide_eq_false h, decide_eq_false (show ¬ (fNm (S.2 i)).length = e - q from fun z => h z.symm)]; simp
theorem nmd_none {S : Sch} {gr : Int32} {t : Nat → Nat} {q e : Nat} (hs : S.1 ≤ 128) : decide (nmd S gr t q e = -1) = nmN S gr t q (e - q) S.1 := by
  rw [Bool.eq_iff_iff, nmN_all, decide_eq_true_eq]
  unfold nmd
  constructor
  · intro h j hj
    rw [← mtc_is]
    apply Classical.byContradiction
    intro z
    obtain ⟨i, a1, a2, a3, a4⟩ := fndR_yes (P := fun f => decide (fGr (S.2 f) = gr) && isNm t q e (S.2 f)) (S.1 - 0) 0 ⟨j, by omega, by omega, by simpa using z⟩
    rw [h] at a4
    exact nI_ne1 (by omega) a4.symm
  · intro h
    exact fndR_no _ _ (fun i _ h2 => by rw [mtc_is]; exact h i (by omega))
def G0 (S : Sch) (ty : Int32) (d m : Nat) : Bool := decide (0 < m) && decide (m ≤ 16) && decide (S.1 < 128) && (if ty = 4 then decide (d < 16) else decide (cc S < 64))
theorem gd_eq {S : Sch} {gr ty : Int32} {t : Nat → Nat} {n q d : Nat} (hf : ∀ k, k < n → t k < 256) (hs : S.1 ≤ 128) : (G0 S ty d (wl t n q) && nmN S gr t q (wl t n q) S.1) = (isLet (bt t n q) && nmSt S t gr ty d q (we t n q)) := by
  unfold wl
  by_cases h : isLet (bt t n q) = true
  · rw [if_pos h, h, Bool.true_and]
    obtain ⟨a1, a2, a3⟩ := let_we hf h
    unfold nmSt G0
    rw [nmd_none hs, decide_eq_true (show 0 < we t n q - q by omega), Bool.true_and]
    by_cases h4 : ty = 4
    · rw [if_pos h4, decide_eq_true h4]; simp [Bool.and_assoc]
    · rw [if_neg h4, decide_eq_false h4]; simp [Bool.and_assoc]
  · rw [if_neg h]
    unfold G0
    simp [h]

/-- what reading a field does in the reference -/
def rfP (g : z_G) (h h1 : z_H) (mo : Nat) (ma : Nat → Nat) (cod tpd fls cls9 nds sai ous il : Int32) (n : Nat) (S : Sch) (X : Res) : Prop := z_K (fun y => y = 20 ∨ y = 26 ∨ y = 28) h h1 ∧ ∃ (p1 : Nat) (S1 : Sch), h1 mo = some ((20, 0), .inr (11, mF ma cod tpd (nI n) fls cls9 (nI S1.1) (nI (cc S1)) nds sai ous (nI p1) (resI il X))) ∧ p1 ≤ n ∧ MSc g h1 (ma 3) (ma 5) 25 28 S1 ∧ scB S1 ∧ (resI il X = -1 → X = .inr (p1, S1) ∧ S.1 < S1.1)

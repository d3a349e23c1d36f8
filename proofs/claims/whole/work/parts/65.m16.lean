theorem hrqR_skip {S : Sch} {gr : Int32} {N : Nat} : ∀ d b, (∀ i, b ≤ i → i < b + d → ¬ fGr (S.2 i) = gr) → b + d ≤ N → hrqR S gr (N - b) b = hrqR S gr (N - (b + d)) (b + d) := by
  intro d
  induction d with
  | zero => intro b _ _; rfl
  | succ d ih =>
    intro b h1 h2
    rw [hrqR_step (show b < N by omega), decide_eq_false (h1 b (Nat.le_refl _) (by omega)), Bool.false_and, Bool.false_or, ih (b + 1) (fun i a c => h1 i (by omega) (by omega)) (by omega), show b + 1 + d = b + (d + 1) by omega]
theorem mntR_skip {S : Sch} {gr : Int32} {t : Nat → Nat} {q e N : Nat} : ∀ d b, (∀ i, b ≤ i → i < b + d → ¬ fGr (S.2 i) = gr) → b + d ≤ N → mntR S gr t q e (N - b) b = mntR S gr t q e (N - (b + d)) (b + d) := by
  intro d
  induction d with
  | zero => intro b _ _; rfl
  | succ d ih =>
    intro b h1 h2
    rw [show N - b = (N - (b + 1)) + 1 by omega]
    simp only [mntR]
    rw [if_neg (h1 b (Nat.le_refl _) (by omega)), ih (b + 1) (fun i a c => h1 i (by omega) (by omega)) (by omega), show b + 1 + d = b + (d + 1) by omega]
theorem memR_st {F : Nat → Nat → Rec → RRes} {S : Sch} (hg : grOK S) (hs : S.1 ≤ 128) {t : Nat → Nat} {n gi p : Nat} {R : Rec} (hgi : gi < S.1) : memR F S t n (nI gi) (gi + 1) p R = memR F S t n (nI gi) 0 p R := by
  have h0 : ∀ i, 0 ≤ i → i < 0 + (gi + 1) → ¬ fGr (S.2 i) = nI gi := by
    intro i _ hi z
    rcases hg i (by omega) with z2 | ⟨j, hj, z2⟩
    · rw [z2] at z; exact nI_ne1 (by omega) z.symm
    · have := (nI_eq (a := j) (b := gi) (by omega) (by omega)).mp (z2.symm.trans z); omega
  have e1 : hrq S (nI gi) (gi + 1) = hrq S (nI gi) 0 := by
    unfold hrq
    rw [hrqR_skip (gi + 1) 0 h0 (by omega), Nat.zero_add]
  have e2 : ∀ q e, mnt S (nI gi) t q e (gi + 1) = mnt S (nI gi) t q e 0 := by
    intro q e
    unfold mnt
    rw [mntR_skip (gi + 1) 0 h0 (by omega), Nat.zero_add]
  have e3 : ∀ q, memE S t n (nI gi) (gi + 1) q R = memE S t n (nI gi) 0 q R := by intro q; unfold memE; rw [e1]
  have e4 : ∀ q, namR S t n (nI gi) (gi + 1) q = namR S t n (nI gi) 0 q := by intro q; unfold namR; rw [e2]
  have e5 : ∀ c q, memL F S t n (nI gi) c (gi + 1) q R = memL F S t n (nI gi) c 0 q R := by
    intro c q
    cases c with
    | zero => exact e3 q
    | succ c => simp only [memL]; rw [e4]
  unfold memR
  rw [e3, e5]
/-- how deep a field is: the groups that it is in -/
def dpOK (S : Sch) (dp : Nat → Nat) : Prop := ∀ i, i < S.1 → (fGr (S.2 i) = -1 → dp i = 0) ∧ (∀ j, j < S.1 → fGr (S.2 i) = nI j → dp i = dp j + 1) ∧ (fTy (S.2 i) = 4 → dp i ≤ 15)
def tyOK (S : Sch) : Prop := ∀ i, i < S.1 → fTy (S.2 i) = nI 0 ∨ fTy (S.2 i) = nI 1 ∨ fTy (S.2 i) = nI 2 ∨ fTy (S.2 i) = nI 3 ∨ fTy (S.2 i) = nI 4

theorem m_readGroup_in (l : Launch) (g : z_G) {mo : Nat} {ma : Nat → Nat} {cod tpd cls9 ffl fcl ous : Int32} {n : Nat} {f : Nat → Int32} {t : Nat → Nat} {S : Sch} {rw9 : Nat → Nat} {rf : Nat → Nat → Int32} {lf : Nat → Int32} {dp : Nat → Nat} (hn : n ≤ 4000) (hf : ∀ k, k < n → t k < 256 ∧ f k = nI (t k)) (hB : scB S) (hu : unq S) (hgr : grOK S) (hdp : dpOK S dp) (hty : tyOK S) : ∀ (D gi : Nat), gi < S.1 → fTy (S.2 gi) = 4 → dp gi + D = 16 → ∀ (h : z_H) (p : Nat) (R : Rec) (pi : Nat), h mo = some ((20, 0), .inr (11, mF ma cod tpd (nI n) (nI S.1) cls9 ffl fcl (nI R.1) (nI (tbC R.2 R.1)) ous (nI p) (-1))) → h (ma 1) = some ((22, 0), .inl (g.2.1 1, 4000, .inl f)) → MSp g h (ma 2) (ma 4) 23 27 S rw9 rf lf → MNd g h ma R → 0 < R.1 → p ≤ n → 2 * R.1 ≤ p + 2 → tbR R ≤ p → z_C l y_M_readGroup prog_13_method_34_code 7 (Option.none : Option Jvm.ClassFile.FieldType) (40 * D) (800 * D) 0 0 g [.ref mo, .int (nI pi), .int (nI gi)] h (fun x h1 => x = none ∧ rvP g h h1 mo ma cod tpd cls9 ffl fcl ous n p S (memD S t n D p R pi gi)) := by
  intro D
  induction D with
  | zero => intro gi h1 h2 h3; have := (hdp gi h1).2.2 h2; omega
  | succ D ih =>
    intro gi h1 h2 h3 h p R pi a1 a2 a3 a4 a5 a6 a7 a8
    have hs := hB.1
    rw [show 40 * (D + 1) = 40 * D + 10 + 30 by omega, show 800 * (D + 1) = 800 * D + 200 + 600 by omega]
    refine m_readGroup_of (fM := 40 * D + 10) (lM := 800 * D + 200) (VR := fun fi p R => valR (memD S t n D) S t n fi pi p R) l g h a1 a2 hn hf a6 a3 hB hu a4 a5 a7 a8 (memR_st hgr hs h1) (fun fi hfi hg h p R b1 b2 b3 b4 b5 b6 b7 b8 => ?_)
    refine m_readValue_of (fM := 40 * D) (lM := 800 * D) (MR := memD S t n D) l g h b1 b2 hn hf b6 b3 hs b4 b5 hfi b7 b8 (hty fi hfi) rfl (fun hg4 => ?_)
    exact ih fi hfi hg4 (by have := (hdp fi hfi).2.1 gi h1 hg; omega)
theorem m_readGroup_top (l : Launch) (g : z_G) {mo : Nat} {ma : Nat → Nat} {cod tpd cls9 ffl fcl ous : Int32} {n : Nat} {f : Nat → Int32} {t : Nat → Nat} {S : Sch} {rw9 : Nat → Nat} {rf : Nat → Nat → Int32} {lf : Nat → Int32} {dp : Nat → Nat} (hn : n ≤ 4000) (hf : ∀ k, k < n → t k < 256 ∧ f k = nI (t k)) (hB : scB S) (hu : unq S) (hgr : grOK S) (hdp : dpOK S dp) (hty : tyOK S) : ∀ (h : z_H) (p : Nat) (R : Rec) (pi : Nat), h mo = some ((20, 0), .inr (11, mF ma cod tpd (nI n) (nI S.1) cls9 ffl fcl (nI R.1) (nI (tbC R.2 R.1)) ous (nI p) (-1))) → h (ma 1) = some ((22, 0), .inl (g.2.1 1, 4000, .inl f)) → MSp g h (ma 2) (ma 4) 23 27 S rw9 rf lf → MNd g h ma R → 0 < R.1 → p ≤ n → 2 * R.1 ≤ p + 2 → tbR R ≤ p → z_C l y_M_readGroup prog_13_method_34_code 7 (Option.none : Option Jvm.ClassFile.FieldType) (680) (13600) 0 0 g [.ref mo, .int (nI pi), .int (-1)] h (fun x h1 => x = none ∧ rvP g h h1 mo ma cod tpd cls9 ffl fcl ous n p S (memR (fun fi p R => fldR (fun p R => valR (memD S t n 16) S t n fi pi p R) S t n fi p R) S t n (-1) 0 p R)) := by
  intro h p R pi a1 a2 a3 a4 a5 a6 a7 a8
  have hs := hB.1
  refine m_readGroup_of (fM := 650) (lM := 13000) (VR := fun fi p R => valR (memD S t n 16) S t n fi pi p R) l g h a1 a2 hn hf a6 a3 hB hu a4 a5 a7 a8 rfl (fun fi hfi hg h p R b1 b2 b3 b4 b5 b6 b7 b8 => ?_)
  refine m_readValue_of (fM := 640) (lM := 12800) (MR := memD S t n 16) l g h b1 b2 hn hf b6 b3 hs b4 b5 hfi b7 b8 (hty fi hfi) rfl (fun hg4 => ?_)
  exact m_readGroup_in l g hn hf hB hu hgr hdp hty 16 fi hfi hg4 (by have := (hdp fi hfi).1 hg; omega)

/-- a node: field, parent, number, text -/
abbrev Nod : Type := Int32 × Int32 × Int64 × List Nat
abbrev ndFi (N : Nod) : Int32 := N.1
abbrev ndPa (N : Nod) : Int32 := N.2.1
abbrev ndNu (N : Nod) : Int64 := N.2.2.1
abbrev ndTx (N : Nod) : List Nat := N.2.2.2
abbrev Rec : Type := Nat × (Nat → Nod)
/-- children of x among the first k; the field of the latest; how many are required ones; bytes of texts -/
def chC (N : Nat → Nod) (x : Int32) : Nat → Nat
  | 0 => 0
  | k + 1 => chC N x k + (if ndPa (N k) = x then 1 else 0)
def lfC (N : Nat → Nod) (x : Int32) : Nat → Int32
  | 0 => -1
  | k + 1 => if ndPa (N k) = x then ndFi (N k) else lfC N x k
def rtC (S : Sch) (N : Nat → Nod) (x : Int32) : Nat → Nat
  | 0 => 0
  | k + 1 => rtC S N x k + (if ndPa (N k) = x ∧ fKi (S.2 (ndFi (N k)).toNatClampNeg) = 0 then 1 else 0)
def tbC (N : Nat → Nod) : Nat → Nat
  | 0 => 0
  | k + 1 => tbC N k + (ndTx (N k)).length
def TxAt (g : z_G) (h : z_H) (m i q : Nat) (l : List Nat) (f : Nat → Int32) : Prop := (q = g.2.2 0 ∧ l = []) ∨ (h q = some ((m + 2, i), .inl (g.2.1 0, l.length, .inl f)) ∧ l.length ≤ 255 ∧ ∀ k, k < l.length → l.getD k 0 < 256 ∧ f k = sb_b (l.getD k 0))
/-- the cells of a row of nodes of the role m at w -/
def NdP (g : z_G) (h : z_H) (m w : Nat) (S : Sch) (R : Rec) (ra : Nat) (ad tx : Nat → Nat) (rf : Nat → Option Nat) (tf : Nat → Nat → Int32) : Prop :=
  h w = some ((m, 0), .inr (5, [.ref ra, .int (nI R.1), .int (nI (tbC R.2 R.1))])) ∧
  h ra = some ((m, 1), .inl (g.2.1 4, 2000, .inr (.inr (.inr (.inr rf))))) ∧
  (∀ i, i < R.1 → rf i = some (ad i) ∧ h (ad i) = some ((m + 1, i), .inr (6, [.int (ndFi (R.2 i)), .int (ndPa (R.2 i)), .long (ndNu (R.2 i)), .ref (tx i), .int (nI (chC R.2 (nI i) R.1)), .int (lfC R.2 (nI i) R.1), .int (nI (rtC S R.2 (nI i) R.1))]))) ∧
  (∀ i, i < R.1 → TxAt g h m i (tx i) (ndTx (R.2 i)) (tf i)) ∧ 1 ≤ R.1 ∧ R.1 ≤ 2000 ∧ tbC R.2 R.1 ≤ 16000
/-- parents stand before what is in them -/
def paOK (R : Rec) : Prop := ndPa (R.2 0) = -1 ∧ ∀ i, 0 < i → i < R.1 → ∃ j, j < i ∧ ndPa (R.2 i) = nI j
/-- node 0 alone -/
def rec0 : Rec := (1, fun _ => (-1, -1, 0, []))
def addN (R : Rec) (N : Nod) : Rec := (R.1 + 1, va_up R.2 R.1 N)
theorem addN_old {R : Rec} {N : Nod} {i : Nat} (h : i < R.1) : (addN R N).2 i = R.2 i := va_up_ne _ _ (by omega)
theorem addN_new {R : Rec} {N : Nod} : (addN R N).2 R.1 = N := va_up_self _ _ _
theorem chC_congr {M N : Nat → Nod} {x : Int32} : ∀ n, (∀ i, i < n → M i = N i) → chC M x n = chC N x n := by
  intro n
  induction n with
  | zero => intro _; rfl
  | succ n ih => intro h; simp only [chC]; rw [ih (fun i hi => h i (by omega)), h n (by omega)]
theorem lfC_congr {M N : Nat → Nod} {x : Int32} : ∀ n, (∀ i, i < n → M i = N i) → lfC M x n = lfC N x n := by
  intro n
  induction n with
  | zero => intro _; rfl
  | succ n ih => intro h; simp only [lfC]; rw [ih (fun i hi => h i (by omega)), h n (by omega)]
theorem rtC_congr {S : Sch} {M N : Nat → Nod} {x : Int32} : ∀ n, (∀ i, i < n → M i = N i) → rtC S M x n = rtC S N x n := by
  intro n
  induction n with
  | zero => intro _; rfl
  | succ n ih => intro h; simp only [rtC]; rw [ih (fun i hi => h i (by omega)), h n (by omega)]
theorem tbC_congr {M N : Nat → Nod} : ∀ n, (∀ i, i < n → M i = N i) → tbC M n = tbC N n := by
  intro n
  induction n with
  | zero => intro _; rfl
  | succ n ih => intro h; simp only [tbC]; rw [ih (fun i hi => h i (by omega)), h n (by omega)]
theorem addN_ch {R : Rec} {N : Nod} (x : Int32) : chC (addN R N).2 x (R.1 + 1) = chC R.2 x R.1 + (if ndPa N = x then 1 else 0) := by
  simp only [chC]; rw [chC_congr (N := R.2) R.1 (fun i hi => addN_old hi), addN_new]
theorem addN_lf {R : Rec} {N : Nod} (x : Int32) : lfC (addN R N).2 x (R.1 + 1) = if ndPa N = x then ndFi N else lfC R.2 x R.1 := by
  simp only [lfC]; rw [lfC_congr (N := R.2) R.1 (fun i hi => addN_old hi), addN_new]
theorem addN_rt {S : Sch} {R : Rec} {N : Nod} (x : Int32) : rtC S (addN R N).2 x (R.1 + 1) = rtC S R.2 x R.1 + (if ndPa N = x ∧ fKi (S.2 (ndFi N).toNatClampNeg) = 0 then 1 else 0) := by
  simp only [rtC]; rw [rtC_congr (N := R.2) R.1 (fun i hi => addN_old hi), addN_new]
theorem addN_tb {R : Rec} {N : Nod} : tbC (addN R N).2 (R.1 + 1) = tbC R.2 R.1 + (ndTx N).length := by
  simp only [tbC]; rw [tbC_congr (N := R.2) R.1 (fun i hi => addN_old hi), addN_new]
theorem chC_le (N : Nat → Nod) (x : Int32) : ∀ k, chC N x k ≤ k := by
  intro k
  induction k with
  | zero => exact Nat.le_refl _
  | succ k ih => simp only [chC]; split <;> omega
theorem rtC_le (S : Sch) (N : Nat → Nod) (x : Int32) : ∀ k, rtC S N x k ≤ k := by
  intro k
  induction k with
  | zero => exact Nat.le_refl _
  | succ k ih => simp only [rtC]; split <;> omega
theorem nopa {R : Rec} (hp : paOK R) (h2 : R.1 ≤ 2000) {i : Nat} (hi : R.1 ≤ i) (hi2 : i < 2 ^ 31) : ∀ j, j < R.1 → ¬ ndPa (R.2 j) = nI i := by
  intro j hj z
  by_cases e : j = 0
  · subst e
    rw [hp.1] at z
    exact nI_ne1 hi2 z.symm
  · obtain ⟨k, hk, e2⟩ := hp.2 j (by omega) hj
    rw [e2] at z
    have := (nI_eq (by omega) hi2).mp z
    omega
theorem none_C {S : Sch} {N : Nat → Nod} {x : Int32} : ∀ n, (∀ j, j < n → ¬ ndPa (N j) = x) → chC N x n = 0 ∧ lfC N x n = -1 ∧ rtC S N x n = 0 := by
  intro n
  induction n with
  | zero => intro _; exact ⟨rfl, rfl, rfl⟩
  | succ n ih =>
    intro h
    obtain ⟨a, b, c⟩ := ih (fun j hj => h j (by omega))
    simp only [chC, lfC, rtC]
    rw [if_neg (h n (by omega)), if_neg (h n (by omega)), if_neg (fun z => h n (by omega) z.1)]
    exact ⟨a, b, c⟩
theorem TxAt.kt {g : z_G} {h h1 : z_H} {m i q : Nat} {l : List Nat} {f : Nat → Int32} {T : Nat × Nat → Prop} (hx : TxAt g h m i q l f) (hk : z_KT T h h1) (hT : ¬ T (m + 2, i)) : TxAt g h1 m i q l f := by
  rcases hx with e | ⟨e, e2⟩
  · exact Or.inl e
  · exact Or.inr ⟨hk _ _ _ e hT, e2⟩
theorem NdP.kt {g : z_G} {h h1 : z_H} {m w : Nat} {S : Sch} {R : Rec} {ra : Nat} {ad tx : Nat → Nat} {rf : Nat → Option Nat} {tf : Nat → Nat → Int32} {T : Nat × Nat → Prop} (hN : NdP g h m w S R ra ad tx rf tf) (hk : z_KT T h h1) (hT : ∀ t, T t → t.1 ≠ m ∧ ¬ (t.1 = m + 1 ∧ t.2 < R.1) ∧ ¬ (t.1 = m + 2 ∧ t.2 < R.1)) : NdP g h1 m w S R ra ad tx rf tf := by
  obtain ⟨h1', h2, h3, h4, h5⟩ := hN
  exact ⟨hk _ _ _ h1' (fun z => (hT _ z).1 rfl), hk _ _ _ h2 (fun z => (hT _ z).1 rfl), fun i hi => ⟨(h3 i hi).1, hk _ _ _ (h3 i hi).2 (fun z => (hT _ z).2.1 ⟨rfl, hi⟩)⟩, fun i hi => (h4 i hi).kt hk (fun z => (hT _ z).2.2 ⟨rfl, hi⟩), h5⟩
theorem NdP.k {g : z_G} {h h1 : z_H} {m w : Nat} {S : Sch} {R : Rec} {ra : Nat} {ad tx : Nat → Nat} {rf : Nat → Option Nat} {tf : Nat → Nat → Int32} {Ro : Nat → Prop} (hN : NdP g h m w S R ra ad tx rf tf) (hk : z_K Ro h h1) (h0 : ¬ Ro m) (h1' : ¬ Ro (m + 1)) (h2 : ¬ Ro (m + 2)) : NdP g h1 m w S R ra ad tx rf tf :=
  hN.kt (T := fun t => Ro t.1) (fun q t e x y => hk q t e x y) (fun t z => ⟨fun e => h0 (e ▸ z), fun e => h1' (e.1 ▸ z), fun e => h2 (e.1 ▸ z)⟩)
theorem NdP.add {g : z_G} {h h1 : z_H} {m w : Nat} {S : Sch} {R : Rec} {ra : Nat} {ad tx : Nat → Nat} {rf : Nat → Option Nat} {tf : Nat → Nat → Int32} {fi pi nn tq : Nat} {nu : Int64} {l : List Nat} {fq : Nat → Int32} (hN : NdP g h m w S R ra ad tx rf tf) (hp : paOK R) (hpi : pi < R.1) (hsz : R.1 < 2000) (hfi : fi < 2 ^ 31) (htb : tbC R.2 R.1 + l.length ≤ 16000)
    (h1w : h1 w = some ((m, 0), .inr (5, [.ref ra, .int (nI (R.1 + 1)), .int (nI (tbC R.2 R.1 + l.length))])))
    (h1ra : h1 ra = some ((m, 1), .inl (g.2.1 4, 2000, .inr (.inr (.inr (.inr (va_up rf R.1 (some nn))))))))
    (h1nn : h1 nn = some ((m + 1, R.1), .inr (6, [.int (nI fi), .int (nI pi), .long nu, .ref tq, .int 0, .int (-1), .int 0])))
    (h1pi : h1 (ad pi) = some ((m + 1, pi), .inr (6, [.int (ndFi (R.2 pi)), .int (ndPa (R.2 pi)), .long (ndNu (R.2 pi)), .ref (tx pi), .int (nI (chC R.2 (nI pi) R.1 + 1)), .int (nI fi), .int (nI (rtC S R.2 (nI pi) R.1 + (if fKi (S.2 fi) = 0 then 1 else 0)))])))
    (h1old : ∀ i, i < R.1 → i ≠ pi → h1 (ad i) = h (ad i)) (h1tx : ∀ i, i < R.1 → TxAt g h1 m i (tx i) (ndTx (R.2 i)) (tf i)) (h1tq : TxAt g h1 m R.1 tq l fq) :
    NdP g h1 m w S (addN R (nI fi, nI pi, nu, l)) ra (va_up ad R.1 nn) (va_up tx R.1 tq) (va_up rf R.1 (some nn)) (va_up tf R.1 fq) ∧ paOK (addN R (nI fi, nI pi, nu, l)) := by
  obtain ⟨g1, g2, g3, g4, g5, g6, g7⟩ := hN
  have hcl : (nI fi).toNatClampNeg = fi := nI_clamp hfi
  have hne : ∀ i, i < R.1 → i ≠ pi → ¬ nI pi = nI i := fun i hi e z => e ((nI_eq (by omega) (by omega)).mp z).symm
  refine ⟨⟨?_, h1ra, fun i hi => ?_, fun i hi => ?_, show 1 ≤ R.1 + 1 by omega, show R.1 + 1 ≤ 2000 by omega, ?_⟩, ?_, fun i h0 hi => ?_⟩
  · show h1 w = some ((m, 0), .inr (5, [.ref ra, .int (nI (R.1 + 1)), .int (nI (tbC (addN R (nI fi, nI pi, nu, l)).2 (R.1 + 1)))]))
    rw [addN_tb]; exact h1w
  · have hi2 : i < R.1 + 1 := hi
    show va_up rf R.1 (some nn) i = _ ∧ h1 (va_up ad R.1 nn i) = some ((m + 1, i), .inr (6, [.int (ndFi ((addN R (nI fi, nI pi, nu, l)).2 i)), .int (ndPa ((addN R (nI fi, nI pi, nu, l)).2 i)), .long (ndNu ((addN R (nI fi, nI pi, nu, l)).2 i)), .ref (va_up tx R.1 tq i), .int (nI (chC (addN R (nI fi, nI pi, nu, l)).2 (nI i) (R.1 + 1))), .int (lfC (addN R (nI fi, nI pi, nu, l)).2 (nI i) (R.1 + 1)), .int (nI (rtC S (addN R (nI fi, nI pi, nu, l)).2 (nI i) (R.1 + 1)))]))
    rw [addN_ch, addN_lf, addN_rt]
    by_cases e : i = R.1
    · subst e
      obtain ⟨a, b, c⟩ := none_C (S := S) R.1 (nopa hp g6 (Nat.le_refl _) (by omega))
      have hx : ¬ nI pi = nI R.1 := fun z => by have := (nI_eq (by omega) (by omega)).mp z; omega
      rw [va_up_self, va_up_self, va_up_self, addN_new, a, b, c, if_neg hx, if_neg hx, if_neg (fun z => hx z.1)]
      exact ⟨rfl, h1nn⟩
    · have hi' : i < R.1 := by omega
      rw [va_up_ne _ _ e, va_up_ne _ _ e, va_up_ne _ _ e, addN_old hi']
      refine ⟨(g3 i hi').1, ?_⟩
      by_cases e2 : i = pi
      · subst e2
        rw [if_pos rfl, if_pos rfl]
        simp only [true_and]
        rw [hcl]
        exact h1pi
      · have hx := hne i hi' e2
        rw [if_neg hx, if_neg hx, if_neg (fun z => hx z.1), h1old i hi' e2]
        exact (g3 i hi').2
  · have hi2 : i < R.1 + 1 := hi
    by_cases e : i = R.1
    · subst e
      rw [va_up_self, va_up_self, addN_new]
      exact h1tq
    · have hi' : i < R.1 := by omega
      rw [va_up_ne _ _ e, va_up_ne _ _ e, addN_old hi']
      exact h1tx i hi'
  · show tbC (addN R (nI fi, nI pi, nu, l)).2 (R.1 + 1) ≤ 16000
    rw [addN_tb]; exact htb
  · rw [addN_old (by omega)]; exact hp.1
  · have hi2 : i < R.1 + 1 := hi
    by_cases e : i = R.1
    · subst e
      rw [addN_new]
      exact ⟨pi, hpi, rfl⟩
    · rw [addN_old (by omega)]
      exact hp.2 i h0 (by omega)

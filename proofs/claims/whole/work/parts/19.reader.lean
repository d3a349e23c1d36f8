/-- the bytes from a to e -/
def nmL (t : Nat → Nat) (a e : Nat) : List Nat := (List.range (e - a)).map (fun k => t (a + k))
theorem nmL_len (t : Nat → Nat) (a e : Nat) : (nmL t a e).length = e - a := by simp [nmL]
theorem nmL_get (t : Nat → Nat) {a e k : Nat} (h : k < e - a) : (nmL t a e).getD k 0 = t (a + k) := by simp [nmL, h]
/-- what comes of reading: the fault and how many fields there were then; or the place and the schema -/
abbrev Res : Type := Sum (Nat × Nat) (Nat × Sch)
def rSz (R : Res) : Nat := match R with
  | .inl x => x.2
  | .inr y => y.2.1
/-- a sign -/
def sgn (t : Nat → Nat) (n : Nat) (c : Int32) (p : Nat) (S : Sch) : Res := if bt t n (sk t n p) = c then .inr (sk t n p + 1, S) else .inl (sk t n p, S.1)
/-- a field; G reads what is in a group -/
def fieldR (G : Nat → Sch → Nat → Res) (t : Nat → Nat) (n p : Nat) (S : Sch) (gr : Int32) (d : Nat) : Res :=
  match rdW t n p [0, 1, 2] with
  | .inl F => .inl (F, S.1)
  | .inr x => match rdW t n x.2 [3, 4, 5, 6, 7] with
    | .inl F => .inl (F, S.1)
    | .inr y =>
      if isLet (bt t n (sk t n y.2)) = true then
        (if nmSt S t gr y.1 d (sk t n y.2) (we t n (sk t n y.2)) = true then
          (if y.1 = 4 then G (we t n (sk t n y.2)) (addF S x.1 y.1 gr (nmL t (sk t n y.2) (we t n (sk t n y.2)))) S.1
           else sgn t n 59 (we t n (sk t n y.2)) (addF S x.1 y.1 gr (nmL t (sk t n y.2) (we t n (sk t n y.2)))))
        else .inl (sk t n y.2, S.1))
      else .inl (sk t n y.2, S.1)
/-- the fields of a group behind its sign, at most c -/
def grpL (fld : Nat → Sch → Res) (t : Nat → Nat) (n : Nat) : Nat → Bool → Nat → Sch → Res
  | 0, _, p, S => .inl (p, S.1)
  | c + 1, first, p, S =>
    if first = false ∧ bt t n (sk t n p) = 125 then .inr (sk t n p + 1, S)
    else match fld (if first = true then p else sk t n p) S with
      | .inl x => .inl x
      | .inr y => grpL fld t n c false y.1 y.2
def grpR (fld : Nat → Sch → Res) (t : Nat → Nat) (n p : Nat) (S : Sch) : Res := if bt t n (sk t n p) = 123 then grpL fld t n 129 true (sk t n p + 1) S else .inl (sk t n p, S.1)
/-- a field within d groups, D levels at most below it -/
def fldD (t : Nat → Nat) (n : Nat) : Nat → Nat → Nat → Sch → Int32 → Res
  | 0, _, p, S, _ => .inl (p, S.1)
  | D + 1, d, p, S, gr => fieldR (fun e S1 gi => grpR (fun p S => fldD t n D (d + 1) p S (nI gi)) t n e S1) t n p S gr d
/-- the fields of the schema -/
def topL (fld : Nat → Sch → Res) (t : Nat → Nat) (n : Nat) : Nat → Bool → Nat → Sch → Res
  | 0, _, p, S => .inl (p, S.1)
  | c + 1, first, p, S =>
    if first = false ∧ bt t n (sk t n p) = -1 then .inr (sk t n p, S)
    else match fld (if first = true then p else sk t n p) S with
      | .inl x => .inl x
      | .inr y => topL fld t n c false y.1 y.2
def schR (t : Nat → Nat) (n : Nat) : Res := topL (fun p S => fldD t n 17 0 p S (-1)) t n 129 true 0 (0, fun _ => (0, 0, 0, 0, 0, 0, []))
/-- a schema somewhere -/
def SchAt (g : z_G) (h : z_H) (r q : Nat) (S : Sch) : Prop := ∃ fa ca ad na ff cf nf, SchP g h r q S fa ca ad na ff cf nf
/-- the scanner at p -/
def ScAt (h : z_H) (sc b n p : Nat) : Prop := ∃ fa ws wd, h sc = some ((6, 0), scE b n p fa ws wd)
def ScFa (h : z_H) (sc b n F : Nat) : Prop := ∃ p fa ws wd, h sc = some ((6, 0), scE b n p fa ws wd) ∧ fa = nI F
/-- what a method that reads answers -/
def rdP (g : z_G) (R : Res) (h : z_H) (r q sc b n : Nat) (x : Option Value) (h1 : z_H) : Prop := z_K (fun y => y = 6 ∨ y = r ∨ y = r + 1) h h1 ∧ match R with
  | .inl F => x = some (.int 0) ∧ ScFa h1 sc b n F.1
  | .inr P => x = some (.int 1) ∧ ScAt h1 sc b n P.1 ∧ P.1 ≤ n ∧ SchAt g h1 r q P.2 ∧ grOK P.2
/-- sizes only grow, and stay within what there may be -/
def resOK (S : Sch) (R : Res) : Prop := S.1 ≤ rSz R ∧ rSz R ≤ 128
theorem SchP.k {g : z_G} {h h1 : z_H} {r q : Nat} {S : Sch} {fa ca : Nat} {ad na : Nat → Nat} {ff : Nat → Option Nat} {cf : Nat → Int32} {nf : Nat → Nat → Int32} {R : Nat → Prop} (hS : SchP g h r q S fa ca ad na ff cf nf) (hk : z_K R h h1) (h0 : ¬ R r) (h1' : ¬ R (r + 1)) (h2 : ¬ R (r + 2)) : SchP g h1 r q S fa ca ad na ff cf nf := by
  obtain ⟨hq, hfa, hca, hfd, hnn, hnb, hcol, hsz, hcc⟩ := hS
  exact ⟨hk _ _ _ hq h0, hk _ _ _ hfa h0, hk _ _ _ hca h0, fun i hi => ⟨(hfd i hi).1, hk _ _ _ (hfd i hi).2 h1'⟩, fun i hi => hk _ _ _ (hnn i hi) h2, hnb, hcol, hsz, hcc⟩
theorem SchAt.k {g : z_G} {h h1 : z_H} {r q : Nat} {S : Sch} {R : Nat → Prop} (hS : SchAt g h r q S) (hk : z_K R h h1) (h0 : ¬ R r) (h1' : ¬ R (r + 1)) (h2 : ¬ R (r + 2)) : SchAt g h1 r q S := by
  obtain ⟨fa, ca, ad, na, ff, cf, nf, h⟩ := hS
  exact ⟨fa, ca, ad, na, ff, cf, nf, h.k hk h0 h1' h2⟩
theorem grOK_add {S : Sch} {ki ty gr : Int32} {nm : List Nat} (hg : grOK S) (hgr : gr = -1 ∨ ∃ i, i < S.1 ∧ gr = nI i) : grOK (addF S ki ty gr nm) := by
  intro i hi
  by_cases e : i = S.1
  · subst e
    rw [addF_new]
    exact hgr
  · have hi' : i < S.1 := by have : i < S.1 + 1 := hi; omega
    rw [addF_old hi']
    exact hg i hi'

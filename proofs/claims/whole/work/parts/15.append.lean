theorem SchP.kt {g : z_G} {h h1 : z_H} {r q : Nat} {S : Sch} {fa ca : Nat} {ad na : Nat → Nat} {ff : Nat → Option Nat} {cf : Nat → Int32} {nf : Nat → Nat → Int32} {T : Nat × Nat → Prop} (hS : SchP g h r q S fa ca ad na ff cf nf) (hk : z_KT T h h1) (hT : ∀ t, T t → t.1 ≠ r ∧ t.1 ≠ r + 2 ∧ ¬ (t.1 = r + 1 ∧ t.2 < S.1)) : SchP g h1 r q S fa ca ad na ff cf nf := by
  obtain ⟨hq, hfa, hca, hfd, hnn, hnb, hcol, hsz, hcc⟩ := hS
  exact ⟨hk _ _ _ hq (fun z => (hT _ z).1 rfl), hk _ _ _ hfa (fun z => (hT _ z).1 rfl), hk _ _ _ hca (fun z => (hT _ z).1 rfl), fun i hi => ⟨(hfd i hi).1, hk _ _ _ (hfd i hi).2 (fun z => (hT _ z).2.2 ⟨rfl, hi⟩)⟩, fun i hi => hk _ _ _ (hnn i hi) (fun z => (hT _ z).2.1 rfl), hnb, hcol, hsz, hcc⟩
theorem SchP.add {g : z_G} {h h1 : z_H} {r q : Nat} {S : Sch} {fa ca : Nat} {ad na : Nat → Nat} {ff : Nat → Option Nat} {cf : Nat → Int32} {nf : Nat → Nat → Int32} {ki ty gr : Int32} {nm : List Nat} {fn : Nat → Int32} {fd nq : Nat} (hS : SchP g h r q S fa ca ad na ff cf nf) (hg : grOK S) (hroom : S.1 < 128) (hcr : ty = 4 ∨ cc S < 64) (hgr : gr = -1 ∨ ∃ i, i < S.1 ∧ gr = nI i)
    (hnm : nm.length ≤ 16 ∧ ∀ k, k < nm.length → nm.getD k 0 < 128 ∧ fn k = sb_b (nm.getD k 0))
    (h1q : h1 q = some ((r, 0), .inr (3, [.ref fa, .ref ca, .int (nI (S.1 + 1)), .int (nI (cc S + (if ty = 4 then 0 else 1))), .int (nI (rq S (-1) + (if ki = 0 ∧ gr = -1 then 1 else 0)))])))
    (h1fa : h1 fa = some ((r, 1), .inl (g.2.1 3, 128, .inr (.inr (.inr (.inr (va_up ff S.1 (some fd))))))))
    (h1ca : h1 ca = some ((r, 2), .inl (g.2.1 1, 64, .inl (if ty = 4 then cf else upd cf (cc S) (nI S.1)))))
    (h1fd : h1 fd = some ((r + 1, S.1), .inr (4, [.int (nI S.1), .int (fKi (newF S ki ty gr nm)), .int (fTy (newF S ki ty gr nm)), .int (fGr (newF S ki ty gr nm)), .ref nq, .int (fCo (newF S ki ty gr nm)), .int (fRe (newF S ki ty gr nm)), .int (fDe (newF S ki ty gr nm)), .int (nI (0))])))
    (h1nq : h1 nq = some ((r + 2, S.1), .inl (g.2.1 0, nm.length, .inl fn)))
    (h1old : ∀ i, i < S.1 → h1 (ad i) = some ((r + 1, i), .inr (4, [.int (nI i), .int (fKi (S.2 i)), .int (fTy (S.2 i)), .int (fGr (S.2 i)), .ref (na i), .int (fCo (S.2 i)), .int (fRe (S.2 i)), .int (fDe (S.2 i)), .int (nI (rq S (nI i) + (if ki = 0 ∧ gr = nI i then 1 else 0)))])))
    (h1na : ∀ i, i < S.1 → h1 (na i) = h (na i)) : SchP g h1 r q (addF S ki ty gr nm) fa ca (va_up ad S.1 fd) (va_up na S.1 nq) (va_up ff S.1 (some fd)) (if ty = 4 then cf else upd cf (cc S) (nI S.1)) (va_up nf S.1 fn) := by
  obtain ⟨hq, hfa, hca, hfd, hnn, hnb, hcol, hsz, hcc⟩ := hS
  have hnew := grOK_new hg hsz
  refine ⟨?_, h1fa, h1ca, fun i hi => ?_, fun i hi => ?_, fun i hi => ?_, fun i hi => ?_, ?_, ?_⟩
  · rw [addF_cc, addF_rq]; exact h1q
  · by_cases e : i = S.1
    · subst e
      rw [va_up_self, va_up_self, va_up_self, addF_new, addF_rq, hnew]
      refine ⟨rfl, ?_⟩
      rw [if_neg (fun z => by
        rcases hgr with e | ⟨j, hj, e⟩
        · rw [e] at z
          have := congrArg Int32.toInt z.2
          rw [nI_toInt (by omega)] at this
          simp at this
        · rw [e] at z
          have := (nI_eq (by omega) (by omega)).mp z.2
          omega)]
      exact h1fd
    · have hi' : i < S.1 := by have : i < S.1 + 1 := hi; omega
      rw [va_up_ne _ _ e, va_up_ne _ _ e, va_up_ne _ _ e, addF_old hi', addF_rq]
      exact ⟨(hfd i hi').1, h1old i hi'⟩
  · by_cases e : i = S.1
    · subst e
      rw [va_up_self, va_up_self, addF_new]
      exact h1nq
    · have hi' : i < S.1 := by have : i < S.1 + 1 := hi; omega
      rw [va_up_ne _ _ e, va_up_ne _ _ e, addF_old hi', h1na i hi']
      exact hnn i hi'
  · by_cases e : i = S.1
    · subst e
      rw [va_up_self, addF_new]
      exact hnm
    · have hi' : i < S.1 := by have : i < S.1 + 1 := hi; omega
      rw [va_up_ne _ _ e, addF_old hi']
      exact hnb i hi'
  · have hcE : ∀ j, j ≤ S.1 → ccC (addF S ki ty gr nm).2 j = ccC S.2 j := fun j hj => ccC_congr j (fun a ha => addF_old (by omega))
    by_cases e : i = S.1
    · subst e
      rw [addF_new, hcE _ (Nat.le_refl _)]
      intro h4
      have h4' : ¬ ty = 4 := h4
      refine ⟨?_, ?_⟩
      · show (if ty = 4 then (-1 : Int32) else nI (cc S)) = _
        rw [if_neg h4']; rfl
      · rw [if_neg h4']
        exact pk_us
    · have hi' : i < S.1 := by have : i < S.1 + 1 := hi; omega
      rw [addF_old hi', hcE i (by omega)]
      intro h4
      refine ⟨(hcol i hi' h4).1, ?_⟩
      have hlt : ccC S.2 i < cc S := by
        have h5 := ccC_mono S.2 (a := i + 1) S.1 (by omega)
        simp only [ccC, if_neg h4] at h5
        show _ < ccC S.2 S.1
        omega
      by_cases ht : ty = 4
      · rw [if_pos ht]; exact (hcol i hi' h4).2
      · rw [if_neg ht, pk_un (by omega)]; exact (hcol i hi' h4).2
  · show S.1 + 1 ≤ 128
    omega
  · rw [addF_cc]
    rcases hcr with z | z
    · rw [if_pos z]; exact hcc
    · split <;> omega

/-- the number that k digits from p on make, behind a number M -/
def mgG (t : Nat → Nat) : Nat → Nat → Nat → Nat
  | M, _, 0 => M
  | M, p, k + 1 => mgG t (10 * M + (t p - 48)) (p + 1) k
theorem mgG_snoc (t : Nat → Nat) : ∀ k M p, mgG t M p (k + 1) = 10 * mgG t M p k + (t (p + k) - 48) := by
  intro k
  induction k with
  | zero => intro M p; rfl
  | succ k ih =>
    intro M p
    rw [show mgG t M p (k + 1 + 1) = mgG t (10 * M + (t p - 48)) (p + 1) (k + 1) from rfl, ih]
    rw [show mgG t M p (k + 1) = mgG t (10 * M + (t p - 48)) (p + 1) k from rfl, show p + 1 + k = p + (k + 1) by omega]
theorem mgG_ge (t : Nat → Nat) : ∀ k M p, M ≤ mgG t M p k := by
  intro k
  induction k with
  | zero => intro M p; exact Nat.le_refl _
  | succ k ih => intro M p; exact Nat.le_trans (by omega) (ih (10 * M + (t p - 48)) (p + 1))
theorem dig64 : ∀ b, b < 256 → isDig (nI b) = true → ((nI b - 48 : Int32).toInt64).toInt = ((b - 48 : Nat) : Int) ∧ 48 ≤ b ∧ b ≤ 57 := by decide +kernel
theorem dig_bt {t : Nat → Nat} {n p : Nat} (ht : ∀ k, k < n → t k < 256) (h : isDig (bt t n p) = true) : p < n ∧ ((bt t n p - 48).toInt64).toInt = ((t p - 48 : Nat) : Int) ∧ 48 ≤ t p ∧ t p ≤ 57 := by
  have h1 : p < n := by
    apply Classical.byContradiction
    intro z
    rw [bt_out z] at h
    exact absurd h (by decide)
  rw [bt_in h1] at h ⊢
  exact ⟨h1, dig64 _ (ht p h1) h⟩
theorem num_chk {b lim d64 : Int64} {M Lm d : Nat} (hb : b.toInt = -(M : Int)) (hl : lim.toInt = -(Lm : Int)) (hL : 10 ≤ Lm) (hd : d64.toInt = (d : Int)) (hd9 : d ≤ 9) : b < (lim + d64) / 10 ↔ Lm < 10 * M + d := by
  have b1 := Int64.le_toInt lim
  have h1 : (lim + d64).toInt = -((Lm - d : Nat) : Int) := by
    rw [Int64.toInt_add, hl, hd, Int.bmod_eq_of_le (by omega) (by omega)]
    omega
  have h2 : ((lim + d64) / 10).toInt = -(((Lm - d) / 10 : Nat) : Int) := by
    rw [Int64.toInt_div_of_ne_right _ _ (by decide), h1, show (10 : Int64).toInt = ((10 : Nat) : Int) from rfl, Int.neg_tdiv, Int.ofNat_tdiv]
  rw [Int64.lt_iff_toInt_lt, h2, hb]
  omega
theorem num_stp {b d64 : Int64} {M d : Nat} (hb : b.toInt = -(M : Int)) (hd : d64.toInt = (d : Int)) (hd9 : d ≤ 9) (hM : 10 * M + d ≤ 2 ^ 63) : (b * 10 - d64).toInt = -((10 * M + d : Nat) : Int) := by
  have h1 : (b * 10).toInt = -((10 * M : Nat) : Int) := by
    rw [Int64.toInt_mul, hb, show (10 : Int64).toInt = 10 from rfl, Int.bmod_eq_of_le (by omega) (by omega)]
    omega
  rw [Int64.toInt_sub, h1, hd, Int.bmod_eq_of_le (by omega) (by omega)]
  omega
theorem ofInt_to (v : Int64) : Int64.ofInt v.toInt = v := Int64.ofInt_toInt v
theorem dgL_eq {t : Nat → Nat} {n st : Nat} (ht : ∀ k, k < n → t k < 256) {lim : Int64} {Lm : Nat} (hl : lim.toInt = -(Lm : Int)) (hL : 10 ≤ Lm) : ∀ (k fuel p : Nat) (b : Int64) (M : Nat), k ≤ fuel → (∀ j, j < k → isDig (bt t n (p + j)) = true) → isDig (bt t n (p + k)) = false → b.toInt = -(M : Int) → M ≤ Lm → dgL t n lim st fuel p b = if mgG t M p k ≤ Lm then .inr (Int64.ofInt (-(mgG t M p k : Int)), p + k) else .inl st := by
  intro k
  induction k with
  | zero =>
    intro fuel p b M _ _ h3 h4 h5
    rw [show mgG t M p 0 = M from rfl, if_pos h5, ← h4, ofInt_to]
    cases fuel with
    | zero => rfl
    | succ fuel => simp only [dgL]; rw [if_neg (by rw [Nat.add_zero] at h3; rw [h3]; decide)]; rfl
  | succ k ih =>
    intro fuel p b M h1 h2 h3 h4 h5
    cases fuel with
    | zero => omega
    | succ fuel =>
      have hd := h2 0 (by omega)
      rw [Nat.add_zero] at hd
      obtain ⟨d1, d2, d3, d4⟩ := dig_bt ht hd
      have b1 := Int64.le_toInt lim
      have hc := num_chk (M := M) h4 hl hL d2 (by omega)
      have hst := num_stp (M := M) h4 d2 (by omega)
      have hLm : Lm ≤ 2 ^ 63 := by omega
      have hge := mgG_ge t k (10 * M + (t p - 48)) (p + 1)
      have hih := ih fuel (p + 1)
      rw [show mgG t M p (k + 1) = mgG t (10 * M + (t p - 48)) (p + 1) k from rfl]
      have e1 : p + 1 + k = p + (k + 1) := by omega
      have e2 : k ≤ fuel := Nat.le_of_succ_le_succ h1
      generalize 10 * M + (t p - 48) = M2 at hc hst hge ⊢
      simp only [dgL]
      rw [if_pos hd]
      by_cases hz : b < (lim + (bt t n p - 48).toInt64) / 10
      · rw [if_pos hz, if_neg (fun z => absurd (Nat.lt_of_lt_of_le (hc.mp hz) (Nat.le_trans hge z)) (Nat.lt_irrefl _))]
      · rw [if_neg hz]
        have hc2 : M2 ≤ Lm := Nat.not_lt.mp (fun z => hz (hc.mpr z))
        rw [hih _ M2 e2 (fun j hj => by have := h2 (j + 1) (Nat.succ_lt_succ hj); rw [show p + 1 + j = p + (j + 1) by rw [Nat.add_assoc, Nat.add_comm 1 j]]; exact this) (by rw [e1]; exact h3) (hst (Nat.le_trans hc2 hLm)) hc2, e1]
theorem num_fin {t : Nat → Nat} {n p p1 k : Nat} {mi fa9 zr gd : Bool} {v lo : Int64} {ty : Int32} {X : Sum Nat (Int64 × Nat)} (ht : ∀ k, k < n → t k < 256) (hn : n ≤ 4000) (hlo : lo = if ty = 1 then -2147483648 else -9223372036854775808) (hX : X = numN t n p p1 mi lo) (hd : ∀ j, j < k → isDig (bt t n (p1 + j)) = true) (he : isDig (bt t n (p1 + k)) = false) (h1 : isDig (bt t n p1) = true) (hkn : p1 + k ≤ n) (hfa : fa9 = decide (2 ^ 63 < mgG t 0 p1 k) ∧ (fa9 = false → v.toInt = -(mgG t 0 p1 k : Int))) (hzr : zr = (decide (0 < k) && decide (t p1 = 48))) (hgd : gd = (!fa9 && (!zr || (decide (k = 1) && !mi)) && (mi || decide (¬ v = -9223372036854775808)))) : X = if (gd && (decide (¬ ty = 1) || (decide (-2147483648 ≤ (if mi = true then v else -v)) && decide ((if mi = true then v else -v) ≤ 2147483647)))) = true then .inr (if mi = true then v else -v, p1 + k) else .inl p := by
  have hk0 : 0 < k := by
    apply Classical.byContradiction
    intro z
    rw [show k = 0 by omega, Nat.add_zero, h1] at he
    cases he
  obtain ⟨d1, d2, d3, d4⟩ := dig_bt ht h1
  have hb1 := ht p1 d1
  have e48 : bt t n p1 = 48 ↔ t p1 = 48 := by
    rw [bt_in d1]
    exact nI_eq (a := t p1) (b := 48) (by omega) (by omega)
  have e2 : isDig (bt t n (p1 + 1)) = true ↔ 1 < k := by
    constructor
    · intro z
      apply Classical.byContradiction
      intro z2
      rw [show k = 1 by omega, z] at he
      cases he
    · intro z; exact hd 1 z
  rw [hX]
  unfold numN
  rw [if_pos h1]
  obtain ⟨hf1, hf2⟩ := hfa
  by_cases hz : bt t n p1 = 48 ∧ (mi = true ∨ isDig (bt t n (p1 + 1)) = true)
  · rw [if_pos hz]
    have hgf : gd = false := by
      rw [hgd, hzr, decide_eq_true hk0, decide_eq_true (e48.mp hz.1)]
      rcases hz.2 with z | z
      · rw [z]; simp
      · rw [decide_eq_false (show ¬ k = 1 by have := e2.mp z; omega)]; simp
    rw [hgf, Bool.false_and, if_neg (by decide)]
  · rw [if_neg hz]
    have hz2 : (!zr || (decide (k = 1) && !mi)) = true := by
      rw [hzr, decide_eq_true hk0, Bool.true_and]
      by_cases z : t p1 = 48
      · have h3 : ¬ mi = true := fun y => hz ⟨e48.mpr z, Or.inl y⟩
        have h4 : k = 1 := by
          apply Classical.byContradiction
          intro y
          exact hz ⟨e48.mpr z, Or.inr (e2.mpr (by omega))⟩
        rw [decide_eq_true h4]; simp [h3]
      · rw [decide_eq_false z]; rfl
    rw [hz2, Bool.and_true] at hgd
    have hlim : ∃ Lm : Nat, ((if mi = true then lo else lo + 1) : Int64).toInt = -(Lm : Int) ∧ 10 ≤ Lm ∧ Lm = (if ty = 1 then 2147483648 else 9223372036854775808) - (if mi = true then 0 else 1) := by
      rw [hlo]
      by_cases y1 : ty = 1 <;> by_cases y2 : mi = true <;> simp only [y1, y2, if_true, if_false, Bool.false_eq_true]
      · exact ⟨2147483648, by decide, by decide, by decide⟩
      · exact ⟨2147483647, by decide, by decide, by decide⟩
      · exact ⟨9223372036854775808, by decide, by decide, by decide⟩
      · exact ⟨9223372036854775807, by decide, by decide, by decide⟩
    obtain ⟨Lm, l1, l2, l3⟩ := hlim
    rw [dgL_eq ht l1 l2 k 4000 p1 0 0 (by omega) hd he rfl (by omega)]
    have hLle : Lm ≤ 9223372036854775808 := by rw [l3]; split <;> split <;> omega
    have h0m : (0 : Int) ≤ (mgG t 0 p1 k : Int) := Int.natCast_nonneg _
    generalize mgG t 0 p1 k = mg at hf1 hf2 h0m ⊢
    by_cases hfar : 2 ^ 63 < mg
    · rw [hf1, decide_eq_true hfar] at hgd
      rw [if_neg (by omega), hgd]
      simp
    · rw [decide_eq_false hfar] at hf1
      have hv := hf2 hf1
      have hvm : (¬ v = -9223372036854775808) ↔ ¬ mg = 9223372036854775808 := by
        have : v = -9223372036854775808 ↔ mg = 9223372036854775808 := by
          rw [← Int64.toInt_inj, hv, show (-9223372036854775808 : Int64).toInt = -9223372036854775808 from rfl]
          omega
        exact not_congr this
      have hvo : Int64.ofInt (-(mg : Int)) = v := by rw [← hv, ofInt_to]
      rw [hvo]
      rw [hf1] at hgd
      have hx : ∀ y : Int64, y = (if mi = true then v else -v) → (mi = true ∨ ¬ mg = 9223372036854775808) → y.toInt = if mi = true then -(mg : Int) else (mg : Int) := by
        intro y hy h5
        by_cases y2 : mi = true
        · rw [if_pos y2] at hy ⊢; rw [hy, hv]
        · rw [if_neg y2] at hy ⊢
          rw [hy, Int64.toInt_neg, hv]
          have := h5.resolve_left y2
          rw [Int.bmod_eq_of_le (by omega) (by omega)]
          omega
      have key : (gd && (decide (¬ ty = 1) || (decide (-2147483648 ≤ (if mi = true then v else -v)) && decide ((if mi = true then v else -v) ≤ 2147483647)))) = decide (mg ≤ Lm) := by
        rw [hgd, Bool.eq_iff_iff]
        simp only [Bool.not_false, Bool.true_and, Bool.and_eq_true, Bool.or_eq_true, decide_eq_true_eq]
        rw [hvm]
        constructor
        · rintro ⟨y1, y2⟩
          rcases y2 with y2 | ⟨y2, y3⟩
          · rw [if_neg y2] at l3
            by_cases y4 : mi = true
            · rw [if_pos y4] at l3; omega
            · rw [if_neg y4] at l3; have := y1.resolve_left y4; omega
          · have e1 := hx _ rfl y1
            rw [Int64.le_iff_toInt_le, e1] at y2 y3
            rw [show (-2147483648 : Int64).toInt = -2147483648 from rfl] at y2
            rw [show (2147483647 : Int64).toInt = 2147483647 from rfl] at y3
            by_cases y4 : mi = true
            · rw [if_pos y4] at y2 y3 l3
              split at l3 <;> omega
            · rw [if_neg y4] at y2 y3 l3
              split at l3 <;> omega
        · intro y1
          have y2 : mi = true ∨ ¬ mg = 9223372036854775808 := by
            by_cases y4 : mi = true
            · exact Or.inl y4
            · rw [if_neg y4] at l3
              refine Or.inr ?_
              split at l3 <;> omega
          refine ⟨y2, ?_⟩
          by_cases y3 : ty = 1
          · rw [if_pos y3] at l3
            refine Or.inr ?_
            rw [Int64.le_iff_toInt_le, Int64.le_iff_toInt_le, hx _ rfl y2, show (-2147483648 : Int64).toInt = -2147483648 from rfl, show (2147483647 : Int64).toInt = 2147483647 from rfl]
            by_cases y4 : mi = true
            · rw [if_pos y4] at l3 ⊢; omega
            · rw [if_neg y4] at l3 ⊢; omega
          · exact Or.inl y3
      rw [key]
      by_cases hm : mg ≤ Lm
      · rw [if_pos hm, decide_eq_true hm, if_pos rfl]
      · rw [if_neg hm, decide_eq_false hm, if_neg (by decide)]

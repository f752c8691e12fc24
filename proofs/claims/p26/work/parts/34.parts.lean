/-! parts of a year's cost -/
theorem l_mul {x y : Int64} (h : -9223372036854775808 ≤ x.toInt * y.toInt ∧ x.toInt * y.toInt < 9223372036854775808) : (x * y).toInt = x.toInt * y.toInt := by
  rw [Int64.toInt_mul]; exact l_bmod h
/-- the uncapped part -/
abbrev pqF (σ : St) (k : Nat) (y c : Int32) : Int32 := (c.toInt64 * (vaF (σ 0) 6 (σ 3 k)).toInt64 * (diF σ k y).toInt64 / ((aaP σ 6).toInt64 * 360)).toInt32
theorem pq_int {σ : St} {n k : Nat} {y c : Int32} (hI : Inv σ n) (hk : k < n) (hy : 0 ≤ y.toInt ∧ y.toInt < 20) (hc : 0 ≤ c.toInt ∧ c.toInt ≤ 999999) (hA : 0 < (aaP σ 6).toInt) : (pqF σ k y c).toInt = c.toInt * (σ 0 (ix (σ 3 k))).toInt * its σ k y / ((aaP σ 6).toInt * 360) ∧ 0 ≤ c.toInt * (σ 0 (ix (σ 3 k))).toInt * its σ k y ∧ c.toInt * (σ 0 (ix (σ 3 k))).toInt * its σ k y ≤ 999999 * 999 * 360 := by
  have hL := hI.2.2.2.1 k hk
  have ha := hI.2.1 (ix (σ 3 k)) (ix_lt hL.1)
  have hd := di_int hL hy
  have hw := wd_nn (σ := σ) (k := k) (a := 360 * y.toInt) (D := 360) (by decide)
  have hb := aa_b hI 6 (by decide)
  have hva : vaF (σ 0) 6 (σ 3 k) = σ 0 (ix (σ 3 k)) := if_pos hL.1
  show ((c.toInt64 * (vaF (σ 0) 6 (σ 3 k)).toInt64 * (diF σ k y).toInt64 / ((aaP σ 6).toInt64 * 360)).toInt32).toInt = _ ∧ _
  rw [hva]
  show _ ∧ 0 ≤ c.toInt * (σ 0 (ix (σ 3 k))).toInt * wdD σ k (360 * y.toInt) 360 ∧ _ ≤ _
  have hd : (diF σ k y).toInt = wdD σ k (360 * y.toInt) 360 := hd
  rw [show its σ k y = wdD σ k (360 * y.toInt) 360 from rfl]
  rw [← hd] at hw ⊢
  generalize σ 0 (ix (σ 3 k)) = a at ha ⊢
  generalize diF σ k y = d at hw ⊢
  generalize aaP σ 6 = A at hA hb ⊢
  have m1 : 0 ≤ c.toInt * a.toInt := Int.mul_nonneg hc.1 ha.1
  have m2 : c.toInt * a.toInt ≤ 999999 * 999 := Int.mul_le_mul hc.2 ha.2 ha.1 (by decide)
  have m3 : 0 ≤ c.toInt * a.toInt * d.toInt := Int.mul_nonneg m1 hw.1
  have m4 : c.toInt * a.toInt * d.toInt ≤ 999999 * 999 * 360 := Int.mul_le_mul m2 hw.2 hw.1 (by decide)
  have e1 : (c.toInt64 * a.toInt64).toInt = c.toInt * a.toInt := by
    rw [l_mul (by rw [Int32.toInt_toInt64, Int32.toInt_toInt64]; omega), Int32.toInt_toInt64, Int32.toInt_toInt64]
  have e2 : (c.toInt64 * a.toInt64 * d.toInt64).toInt = c.toInt * a.toInt * d.toInt := by
    rw [l_mul (by rw [e1, Int32.toInt_toInt64]; omega), e1, Int32.toInt_toInt64]
  have e3 : (A.toInt64 * 360).toInt = A.toInt * 360 := by
    have h6 : (360 : Int64).toInt = 360 := rfl
    rw [l_mul (by rw [Int32.toInt_toInt64, h6]; omega), Int32.toInt_toInt64, h6]
  have e4 : (c.toInt64 * a.toInt64 * d.toInt64 / (A.toInt64 * 360)).toInt = c.toInt * a.toInt * d.toInt / (A.toInt * 360) := by
    rw [Int64.toInt_div_of_ne_right _ _ (by intro q; have := congrArg Int64.toInt q; rw [e3] at this; have h1 : (-1 : Int64).toInt = -1 := rfl; omega), e2, e3]
    exact Int.tdiv_eq_ediv_of_nonneg m3
  have hD : 0 < A.toInt * 360 := by omega
  have e5 : c.toInt * a.toInt * d.toInt / (A.toInt * 360) ≤ 999999 * 999 := by
    have h1 : c.toInt * a.toInt * d.toInt / (A.toInt * 360) * (A.toInt * 360) ≤ c.toInt * a.toInt * d.toInt := Int.ediv_mul_le _ (by omega)
    have h0 : 0 ≤ c.toInt * a.toInt * d.toInt / (A.toInt * 360) := Int.ediv_nonneg m3 (by omega)
    have h2 : c.toInt * a.toInt * d.toInt / (A.toInt * 360) * 360 ≤ c.toInt * a.toInt * d.toInt / (A.toInt * 360) * (A.toInt * 360) := Int.mul_le_mul_of_nonneg_left (by omega) h0
    omega
  have e6 : 0 ≤ c.toInt * a.toInt * d.toInt / (A.toInt * 360) := Int.ediv_nonneg m3 (by omega)
  refine ⟨?_, m3, m4⟩
  rw [Int64.toInt_toInt32, e4]
  exact i_bmod (by omega)
theorem pt_ok {σ : St} {n k : Nat} {y c : Int32} (hI : Inv σ n) (hk : k < n) (hy : 0 ≤ y.toInt ∧ y.toInt < 20) (hc : 0 ≤ c.toInt ∧ c.toInt ≤ 999999) :
    0 ≤ (ptF σ k y c).toInt ∧ (ptF σ k y c).toInt * ((aaP σ 6).toInt * 360) ≤ c.toInt * ((σ 0 (ix (σ 3 k))).toInt * its σ k y) ∧ (its σ k y = 0 → (ptF σ k y c).toInt = 0) ∧ ((σ 9 k).toInt = -1 ∨ (ptF σ k y c).toInt ≤ (σ 9 k * diF σ k y / 360).toInt) ∧ ((aaP σ 6).toInt = 0 → (ptF σ k y c).toInt = 0) ∧ (ptF σ k y c).toInt ≤ 999999 * 999 := by
  have hL := hI.2.2.2.1 k hk
  have hb := aa_b hI 6 (by decide)
  have hd : (diF σ k y).toInt = its σ k y := di_int hL hy
  have hw := wd_nn (σ := σ) (k := k) (a := 360 * y.toInt) (D := 360) (by decide)
  have hw1 : 0 ≤ its σ k y := hw.1
  have hw2 : its σ k y ≤ 360 := hw.2
  have ha := hI.2.1 (ix (σ 3 k)) (ix_lt hL.1)
  have hcap := hL.2.2.2.2.2.1
  have hM : 0 ≤ (σ 9 k).toInt → 0 ≤ (σ 9 k * diF σ k y / 360).toInt ∧ (its σ k y = 0 → (σ 9 k * diF σ k y / 360).toInt = 0) := by
    intro h9
    have m1 : 0 ≤ (σ 9 k).toInt * (diF σ k y).toInt := Int.mul_nonneg h9 (by omega)
    have m2 : (σ 9 k).toInt * (diF σ k y).toInt ≤ 999999 * 360 := Int.mul_le_mul hcap.2 (by omega) (by omega) (by decide)
    have h36 : (360 : Int32).toInt = 360 := rfl
    rw [i_div (by decide), i_mul (by omega), h36, Int.tdiv_eq_ediv_of_nonneg m1]
    refine ⟨Int.ediv_nonneg m1 (by decide), fun h0 => ?_⟩
    rw [hd, h0, Int.mul_zero]; rfl
  unfold ptF
  by_cases hA : 0 < (aaP σ 6).toInt
  · rw [if_pos hA]
    obtain ⟨q1, q2, q3⟩ := pq_int hI hk hy hc hA
    have hD : 0 < (aaP σ 6).toInt * 360 := by omega
    have hQ0 : 0 ≤ (pqF σ k y c).toInt := by rw [q1]; exact Int.ediv_nonneg q2 (by omega)
    have hQ1 : (pqF σ k y c).toInt * ((aaP σ 6).toInt * 360) ≤ c.toInt * ((σ 0 (ix (σ 3 k))).toInt * its σ k y) := by rw [q1, ← Int.mul_assoc c.toInt]; exact Int.ediv_mul_le _ (Int.ne_of_gt hD)
    have hQ2 : its σ k y = 0 → (pqF σ k y c).toInt = 0 := by
      intro h0; rw [q1, h0, Int.mul_zero, Int.zero_ediv]
    have hQ3 : (pqF σ k y c).toInt ≤ 999999 * 999 := by
      rw [q1]
      have h1 : c.toInt * (σ 0 (ix (σ 3 k))).toInt * its σ k y / ((aaP σ 6).toInt * 360) * ((aaP σ 6).toInt * 360) ≤ c.toInt * (σ 0 (ix (σ 3 k))).toInt * its σ k y := Int.ediv_mul_le _ (by omega)
      have h0 : 0 ≤ c.toInt * (σ 0 (ix (σ 3 k))).toInt * its σ k y / ((aaP σ 6).toInt * 360) := Int.ediv_nonneg q2 (by omega)
      have h2 : c.toInt * (σ 0 (ix (σ 3 k))).toInt * its σ k y / ((aaP σ 6).toInt * 360) * 360 ≤ c.toInt * (σ 0 (ix (σ 3 k))).toInt * its σ k y / ((aaP σ 6).toInt * 360) * ((aaP σ 6).toInt * 360) := Int.mul_le_mul_of_nonneg_left (by omega) h0
      omega
    by_cases h9 : (σ 9 k).toInt = -1
    · rw [if_pos h9]
      exact ⟨hQ0, hQ1, hQ2, Or.inl h9, fun h => absurd h (by omega), hQ3⟩
    · rw [if_neg h9]
      obtain ⟨c1, c2⟩ := hM (by omega)
      show 0 ≤ (mnF (pqF σ k y c) (σ 9 k * diF σ k y / 360)).toInt ∧ (mnF (pqF σ k y c) (σ 9 k * diF σ k y / 360)).toInt * _ ≤ _ ∧ (_ → (mnF (pqF σ k y c) (σ 9 k * diF σ k y / 360)).toInt = 0) ∧ (_ ∨ (mnF (pqF σ k y c) (σ 9 k * diF σ k y / 360)).toInt ≤ _) ∧ (_ → (mnF (pqF σ k y c) (σ 9 k * diF σ k y / 360)).toInt = 0) ∧ (mnF (pqF σ k y c) (σ 9 k * diF σ k y / 360)).toInt ≤ _
      have hm := @i_mn (pqF σ k y c) (σ 9 k * diF σ k y / 360)
      generalize mnF (pqF σ k y c) (σ 9 k * diF σ k y / 360) = M at hm ⊢
      generalize pqF σ k y c = Qv at *
      generalize σ 9 k * diF σ k y / 360 = Cv at *
      have hle : M.toInt ≤ Qv.toInt ∧ M.toInt ≤ Cv.toInt ∧ (M.toInt = Qv.toInt ∨ M.toInt = Cv.toInt) := by rw [hm]; split <;> omega
      refine ⟨by omega, Int.le_trans (Int.mul_le_mul_of_nonneg_right hle.1 (by omega)) hQ1, fun h0 => ?_, Or.inr hle.2.1, fun h => absurd h (by omega), by omega⟩
      have := hQ2 h0; have := c2 h0; omega
  · rw [if_neg hA]
    have hA0 : (aaP σ 6).toInt = 0 := by omega
    have h0 : (0 : Int32).toInt = 0 := rfl
    rw [h0]
    refine ⟨by omega, ?_, fun _ => rfl, ?_, fun _ => rfl, by decide⟩
    · rw [Int.zero_mul]; exact Int.mul_nonneg hc.1 (Int.mul_nonneg ha.1 hw1)
    · by_cases h9 : (σ 9 k).toInt = -1
      · exact Or.inl h9
      · exact Or.inr (hM (by omega)).1
/-- the parts of the first i leases together -/
def ptP (σ : St) (y : Int32) : Nat → Int32
  | 0 => 0
  | i + 1 => ptP σ y i + ptF σ i y (σ 2 (ix y))
theorem ow_pt {σ : St} {n : Nat} {y : Int32} (hn : n ≤ 24) : owP σ n y 24 = σ 2 (ix y) - ptP σ y n := by
  have h1 : ∀ i, i ≤ n → owP σ n y i = σ 2 (ix y) - ptP σ y i := by
    intro i
    induction i with
    | zero => intro _; show σ 2 (ix y) = σ 2 (ix y) - 0; rw [Int32.sub_zero]
    | succ i ih =>
      intro h
      unfold owP ptP
      rw [if_pos (by omega), ih (by omega)]
      simp only [Int32.sub_eq_add_neg, Int32.neg_add, Int32.add_assoc]
  have h2 : ∀ i, owP σ n y (n + i) = owP σ n y n := by
    intro i
    induction i with
    | zero => rfl
    | succ i ih =>
      rw [← Nat.add_assoc]
      show (if _ then _ else _) = _
      rw [if_neg (by omega)]; exact ih
  have h3 := h2 (24 - n)
  rw [show n + (24 - n) = 24 by omega] at h3
  rw [h3]; exact h1 n (Nat.le_refl _)
theorem ar_mono {σ : St} {n : Nat} {y : Int32} (hI : Inv σ n) : ∀ j i, i + j ≤ n → arS σ y i ≤ arS σ y (i + j)
  | 0, _, _ => Int.le_refl _
  | j + 1, i, h => by
    have ih := ar_mono hI j i (by omega) (y := y)
    have ha := hI.2.1 (ix (σ 3 (i + j))) (ix_lt (hI.2.2.2.1 (i + j) (by omega)).1)
    have hw : 0 ≤ its σ (i + j) y := (wd_nn (by decide)).1
    have hm := Int.mul_nonneg ha.1 hw
    show _ ≤ arS σ y (i + j) + (σ 0 (ix (σ 3 (i + j)))).toInt * its σ (i + j) y
    omega
theorem pp_int {σ : St} {n : Nat} {y : Int32} (hI : Inv σ n) (hy : 0 ≤ y.toInt ∧ y.toInt < 20) (hc : 0 ≤ (σ 2 (ix y)).toInt ∧ (σ 2 (ix y)).toInt ≤ 999999) : ∀ i, i ≤ n → 0 ≤ (ptP σ y i).toInt ∧ (ptP σ y i).toInt * ((aaP σ 6).toInt * 360) ≤ (σ 2 (ix y)).toInt * arS σ y i ∧ (ptP σ y i).toInt ≤ (σ 2 (ix y)).toInt
  | 0, _ => by
    have h0 : (ptP σ y 0).toInt = 0 := rfl
    rw [h0]
    refine ⟨by decide, ?_, hc.1⟩
    show _ ≤ _ * (0 : Int)
    omega
  | i + 1, hi => by
    obtain ⟨i1, i2, i3⟩ := pp_int hI hy hc i (by omega)
    obtain ⟨p1, p2, p3, p4, p5, p6⟩ := pt_ok hI (show i < n by omega) hy hc
    have hb := aa_b hI 6 (by decide)
    have e : (ptP σ y (i + 1)).toInt = (ptP σ y i).toInt + (ptF σ i y (σ 2 (ix y))).toInt := by
      show (ptP σ y i + ptF σ i y (σ 2 (ix y))).toInt = _
      exact i_add (by omega)
    have h2 : (ptP σ y (i + 1)).toInt * ((aaP σ 6).toInt * 360) ≤ (σ 2 (ix y)).toInt * arS σ y (i + 1) := by
      rw [e, Int.add_mul]
      show _ ≤ _ * (arS σ y i + (σ 0 (ix (σ 3 i))).toInt * its σ i y)
      rw [Int.mul_add]
      exact Int.add_le_add i2 p2
    refine ⟨by omega, h2, ?_⟩
    by_cases hA : 0 < (aaP σ 6).toInt
    · have h3 : arS σ y (i + 1) ≤ (aaP σ 6).toInt * 360 := by
        have h4 := ar_mono hI (n - (i + 1)) (i + 1) (by omega) (y := y)
        rw [show i + 1 + (n - (i + 1)) = n by omega] at h4
        exact Int.le_trans h4 (ar_le hI)
      exact Int.le_of_mul_le_mul_right (Int.le_trans h2 (Int.mul_le_mul_of_nonneg_left h3 hc.1)) (by omega)
    · have := p5 (by omega); omega
/-- the owner's part -/
theorem ow_nn {σ : St} {n : Nat} {y : Int32} (hI : Inv σ n) (hy : 0 ≤ y.toInt ∧ y.toInt < 20) (hc : 0 ≤ (σ 2 (ix y)).toInt ∧ (σ 2 (ix y)).toInt ≤ 999999) : 0 ≤ (owP σ n y 24).toInt := by
  obtain ⟨h1, -, h3⟩ := pp_int hI hy hc n (Nat.le_refl _)
  rw [ow_pt hI.1, i_sub (by omega)]
  omega
theorem ow_sum {σ : St} {n : Nat} {y : Int32} (hn : n ≤ 24) : ptP σ y n + owP σ n y 24 = σ 2 (ix y) := by
  rw [ow_pt hn, Int32.sub_eq_add_neg, ← Int32.add_assoc, Int32.add_comm (ptP σ y n), Int32.add_assoc, ← Int32.sub_eq_add_neg, Int32.sub_self, Int32.add_zero]
theorem ow_0 {σ : St} {n : Nat} {y : Int32} (hI : Inv σ n) (hy : 0 ≤ y.toInt ∧ y.toInt < 20) : owP (us σ 2 (ix y) 0) n y 24 = 0 := by
  have hI' : Inv (us σ 2 (ix y) 0) n := inv_t hI (by decide) (fun h => absurd h (by decide)) (fun h => absurd h (by decide))
  have h2 : us σ 2 (ix y) 0 2 (ix y) = 0 := us_eq
  have h := pp_int hI' hy (by rw [h2]; exact ⟨by decide, by decide⟩) n (Nat.le_refl _)
  rw [h2] at h
  have h0 : (0 : Int32).toInt = 0 := rfl
  have e : ptP (us σ 2 (ix y) 0) y n = 0 := i_ext (by have h1 := h.1; have h3 := h.2.2; rw [h0] at h3 ⊢; omega)
  rw [ow_pt hI.1, h2, e]
  rfl
theorem us_back {σ : St} {a i : Nat} {x : Int32} : us (us σ a i x) a i (σ a i) = σ := by
  funext b q
  unfold us upd
  by_cases hb : b = a
  · subst hb
    simp only [if_true]
    by_cases hq : q = i
    · subst hq; rw [if_pos rfl]
    · rw [if_neg hq, if_neg hq]
  · rw [if_neg hb, if_neg hb]
/-- the balance -/
theorem bl_ok {σ : St} {n k : Nat} {y : Int32} (hI : Inv σ n) (hk : k < n) (hy : 0 ≤ y.toInt ∧ y.toInt < 20) (hc : 0 ≤ (σ 2 (ix y)).toInt ∧ (σ 2 (ix y)).toInt ≤ 999999) : (ptF σ k y (σ 2 (ix y)) - σ 10 k * diF σ k y / 30).toInt ≤ (ptF σ k y (σ 2 (ix y))).toInt ∧ (its σ k y = 0 → (ptF σ k y (σ 2 (ix y)) - σ 10 k * diF σ k y / 30).toInt = 0) := by
  obtain ⟨p1, p2, p3, p4, p5, p6⟩ := pt_ok hI hk hy hc
  have hL := hI.2.2.2.1 k hk
  have hd : (diF σ k y).toInt = its σ k y := di_int hL hy
  have hw := wd_nn (σ := σ) (k := k) (a := 360 * y.toInt) (D := 360) (by decide)
  have hw1 : 0 ≤ its σ k y := hw.1
  have hw2 : its σ k y ≤ 360 := hw.2
  have hp := hL.2.2.2.2.2.2.1
  have m1 : 0 ≤ (σ 10 k).toInt * (diF σ k y).toInt := Int.mul_nonneg hp.1 (by omega)
  have m2 : (σ 10 k).toInt * (diF σ k y).toInt ≤ 9999 * 360 := Int.mul_le_mul hp.2 (by omega) (by omega) (by decide)
  have h30 : (30 : Int32).toInt = 30 := rfl
  have e : (σ 10 k * diF σ k y / 30).toInt = (σ 10 k).toInt * (diF σ k y).toInt / 30 := by
    rw [i_div (by decide), i_mul (by omega), h30, Int.tdiv_eq_ediv_of_nonneg m1]
  have e0 : 0 ≤ (σ 10 k).toInt * (diF σ k y).toInt / 30 := Int.ediv_nonneg m1 (by decide)
  have e1 : (σ 10 k).toInt * (diF σ k y).toInt / 30 ≤ 9999 * 360 := by omega
  generalize σ 10 k * diF σ k y / 30 = B at e ⊢
  rw [i_sub (by omega)]
  refine ⟨by omega, fun h => ?_⟩
  have h3 := p3 h
  rw [hd, h, Int.mul_zero] at e
  omega

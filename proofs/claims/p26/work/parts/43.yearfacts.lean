/-! a year's days, summed as the law sums them -/
def vdS (σ : St) (n : Nat) (y : Int32) : Nat → Int
  | 0 => 0
  | i + 1 => vdS σ n y i + wdS σ (i : Int) (360 * y.toInt) 360 n
theorem vds_b {σ : St} {n : Nat} {y : Int32} (hI : Inv σ n) : ∀ i, 0 ≤ vdS σ n y i ∧ vdS σ n y i ≤ 360 * i
  | 0 => ⟨Int.le_refl _, Int.le_refl _⟩
  | i + 1 => by
    have ih := vds_b hI (y := y) i
    have h : 0 ≤ wdS σ (i : Int) (360 * y.toInt) 360 n ∧ wdS σ (i : Int) (360 * y.toInt) 360 n ≤ 360 := ws_le (u := (i : Int)) (a := 360 * y.toInt) hI 360
    unfold vdS
    omega
theorem vds_6 {σ : St} {n : Nat} {y : Int32} : vdS σ n y 6 = wdS σ 0 (360 * y.toInt) 360 n + wdS σ 1 (360 * y.toInt) 360 n + wdS σ 2 (360 * y.toInt) 360 n + wdS σ 3 (360 * y.toInt) 360 n + wdS σ 4 (360 * y.toInt) 360 n + wdS σ 5 (360 * y.toInt) 360 n := by
  have h : vdS σ n y 6 = 0 + wdS σ 0 (360 * y.toInt) 360 n + wdS σ 1 (360 * y.toInt) 360 n + wdS σ 2 (360 * y.toInt) 360 n + wdS σ 3 (360 * y.toInt) 360 n + wdS σ 4 (360 * y.toInt) 360 n + wdS σ 5 (360 * y.toInt) 360 n := rfl
  rw [h, Int.zero_add]
theorem it_b {σ : St} {y : Int32} : ∀ i : Nat, 0 ≤ itS σ y i ∧ itS σ y i ≤ 360 * i
  | 0 => ⟨Int.le_refl _, Int.le_refl _⟩
  | i + 1 => by
    have ih := it_b (σ := σ) (y := y) i
    have h := wd_nn (σ := σ) (k := i) (a := 360 * y.toInt) (D := 360) (by decide)
    have h1 : 0 ≤ its σ i y := h.1
    have h2 : its σ i y ≤ 360 := h.2
    unfold itS
    omega

/-! years: the days of the leases of a unit, the parts and the owner's part -/
/-- the days of lease k from a on, D of them, as a whole number -/
def wdD (σ : St) (k : Nat) (a D : Int) : Int := if (if (σ 4 k).toInt < a then a else (σ 4 k).toInt) < (if a + D < (σ 5 k).toInt then a + D else (σ 5 k).toInt) then (if a + D < (σ 5 k).toInt then a + D else (σ 5 k).toInt) - (if (σ 4 k).toInt < a then a else (σ 4 k).toInt) else 0
theorem wd_step {σ : St} {k : Nat} {a D : Int} (h : (σ 4 k).toInt < (σ 5 k).toInt) (hD : 0 ≤ D) : wdD σ k a (D + 1) = wdD σ k a D + (if (σ 4 k).toInt ≤ a + D ∧ a + D < (σ 5 k).toInt then 1 else 0) := by
  unfold wdD
  (repeat' split) <;> omega
theorem wd_0 {σ : St} {k : Nat} {a : Int} (h : (σ 4 k).toInt < (σ 5 k).toInt) : wdD σ k a 0 = 0 := by
  unfold wdD
  (repeat' split) <;> omega
theorem wd_nn {σ : St} {k : Nat} {a D : Int} (hD : 0 ≤ D) : 0 ≤ wdD σ k a D ∧ wdD σ k a D ≤ D := by
  unfold wdD
  (repeat' split) <;> omega
/-- the days that the first i leases have of unit u -/
def wdS (σ : St) (u a D : Int) : Nat → Int
  | 0 => 0
  | i + 1 => if (σ 3 i).toInt = u then wdS σ u a D i + wdD σ i a D else wdS σ u a D i
theorem ws_step {σ : St} {n : Nat} {u a D : Int} (hI : Inv σ n) (hD : 0 ≤ D) : ∀ i, i ≤ n → (wdS σ u a (D + 1) i = wdS σ u a D i ∧ ∀ q, q < i → (σ 3 q).toInt = u → ¬ ((σ 4 q).toInt ≤ a + D ∧ a + D < (σ 5 q).toInt)) ∨ (wdS σ u a (D + 1) i = wdS σ u a D i + 1 ∧ ∃ q, q < i ∧ (σ 3 q).toInt = u ∧ ((σ 4 q).toInt ≤ a + D ∧ a + D < (σ 5 q).toInt))
  | 0, _ => Or.inl ⟨rfl, fun q h => absurd h (by omega)⟩
  | i + 1, hi => by
    have ih := ws_step hI hD i (by omega) (u := u) (a := a)
    have hL := hI.2.2.2.1 i (by omega)
    have hst := wd_step (a := a) hL.2.1.2.1 hD
    unfold wdS
    by_cases hu : (σ 3 i).toInt = u
    · rw [if_pos hu, if_pos hu]
      by_cases hd : (σ 4 i).toInt ≤ a + D ∧ a + D < (σ 5 i).toInt
      · rw [if_pos hd] at hst
        rcases ih with ⟨e, h⟩ | ⟨e, q, h1, h2, h3⟩
        · exact Or.inr ⟨by omega, i, by omega, hu, hd⟩
        · exfalso
          have := hI.2.2.2.2.2 q i (by omega) (by omega) (by omega) (h2.trans hu.symm)
          omega
      · rw [if_neg hd] at hst
        rcases ih with ⟨e, h⟩ | ⟨e, q, h1, h2, h3⟩
        · refine Or.inl ⟨by omega, fun q hq hqu => ?_⟩
          by_cases hqi : q = i
          · subst hqi; exact hd
          · exact h q (by omega) hqu
        · exact Or.inr ⟨by omega, q, by omega, h2, h3⟩
    · rw [if_neg hu, if_neg hu]
      rcases ih with ⟨e, h⟩ | ⟨e, q, h1, h2, h3⟩
      · refine Or.inl ⟨e, fun q hq hqu => ?_⟩
        by_cases hqi : q = i
        · subst hqi; exact absurd hqu hu
        · exact h q (by omega) hqu
      · exact Or.inr ⟨e, q, by omega, h2, h3⟩
theorem ws_0 {σ : St} {n : Nat} {u a : Int} (hI : Inv σ n) : ∀ i, i ≤ n → wdS σ u a 0 i = 0
  | 0, _ => rfl
  | i + 1, hi => by
    have ih := ws_0 hI i (by omega) (u := u) (a := a)
    have h0 := wd_0 (a := a) (hI.2.2.2.1 i (by omega)).2.1.2.1
    unfold wdS
    split <;> omega
/-- the leases of a unit have no more days than there are -/
theorem ws_le {σ : St} {n : Nat} {u a : Int} (hI : Inv σ n) : ∀ D : Nat, 0 ≤ wdS σ u a D n ∧ wdS σ u a D n ≤ D
  | 0 => by have h := ws_0 (u := u) (a := a) hI n (Nat.le_refl _); exact ⟨by show 0 ≤ wdS σ u a 0 n; omega, by show wdS σ u a 0 n ≤ 0; omega⟩
  | D + 1 => by
    have ih := ws_le (u := u) (a := a) hI D
    have h := ws_step (u := u) (a := a) (D := (D : Int)) hI (by omega) n (Nat.le_refl _)
    have e : ((D + 1 : Nat) : Int) = (D : Int) + 1 := by omega
    rw [e]
    rcases h with ⟨e, _⟩ | ⟨e, _⟩ <;> omega
theorem ws_nn {σ : St} {u a D : Int} (hD : 0 ≤ D) : ∀ i, 0 ≤ wdS σ u a D i
  | 0 => Int.le_refl _
  | i + 1 => by
    have ih := ws_nn (σ := σ) (u := u) (a := a) hD i
    have h := (wd_nn (σ := σ) (k := i) (a := a) hD).1
    unfold wdS
    split <;> omega
/-- the days of a lease in a year -/
abbrev its (σ : St) (k : Nat) (y : Int32) : Int := wdD σ k (360 * y.toInt) 360
theorem di_int {σ : St} {k : Nat} {y : Int32} (hL : okL σ k) (hy : 0 ≤ y.toInt ∧ y.toInt < 20) : (diF σ k y).toInt = its σ k y := by
  obtain ⟨y1, y2⟩ := y360 hy
  show (dwF σ k (y * 360) (y * 360 + 360)).toInt = _
  rw [Int32.mul_comm y 360, dw_int hL (by rw [y1]; omega) (by rw [y2]; omega), y1, y2]
  rfl
theorem dl_int {σ : St} {n : Nat} {u y : Int32} (hI : Inv σ n) (hy : 0 ≤ y.toInt ∧ y.toInt < 20) : ∀ i, i ≤ n → (dlP σ n u (y * 360) (y * 360 + 360) i).toInt = wdS σ u.toInt (360 * y.toInt) 360 i ∧ wdS σ u.toInt (360 * y.toInt) 360 i ≤ 360 * i
  | 0, _ => ⟨rfl, Int.le_refl 0⟩
  | i + 1, hi => by
    obtain ⟨ih, ih2⟩ := dl_int hI hy i (by omega) (u := u)
    have h := wd_nn (σ := σ) (k := i) (a := 360 * y.toInt) (D := 360) (by decide)
    have hn := ws_nn (σ := σ) (u := u.toInt) (a := 360 * y.toInt) (D := 360) (by decide) i
    have hd : (dwF σ i (y * 360) (y * 360 + 360)).toInt = wdD σ i (360 * y.toInt) 360 := di_int (hI.2.2.2.1 i (by omega)) hy
    have h24 := hI.1
    unfold dlP wdS
    by_cases hu : (σ 3 i).toInt = u.toInt
    · rw [if_pos ⟨by omega, hu⟩, if_pos hu, i_add (by rw [ih, hd]; show _ ∧ _; constructor <;> omega), ih, hd]
      refine ⟨rfl, by omega⟩
    · rw [if_neg (fun q => hu q.2), if_neg hu]
      exact ⟨ih, by omega⟩
abbrev vdF (σ : St) (n : Nat) (u y : Int32) : Int32 := 360 - dlP σ n u (y * 360) (y * 360 + 360) 24
theorem vd_int {σ : St} {n : Nat} {u y : Int32} (hI : Inv σ n) (hy : 0 ≤ y.toInt ∧ y.toInt < 20) : (vdF σ n u y).toInt = 360 - wdS σ u.toInt (360 * y.toInt) 360 n ∧ 0 ≤ (vdF σ n u y).toInt ∧ (vdF σ n u y).toInt ≤ 360 := by
  obtain ⟨h1, -⟩ := dl_int (u := u) hI hy n (Nat.le_refl _)
  have h2 : 0 ≤ wdS σ u.toInt (360 * y.toInt) 360 n ∧ wdS σ u.toInt (360 * y.toInt) 360 n ≤ 360 := ws_le (u := u.toInt) (a := 360 * y.toInt) hI 360
  have h3 : (360 : Int32).toInt = 360 := rfl
  have e : (vdF σ n u y).toInt = 360 - wdS σ u.toInt (360 * y.toInt) 360 n := by
    show (360 - dlP σ n u (y * 360) (y * 360 + 360) 24).toInt = _
    rw [dl_far hI.1, i_sub (by rw [h1, h3]; exact ⟨by have := h2.2; omega, by have := h2.1; omega⟩), h1, h3]
  have h2a := h2.1
  have h2b : wdS σ u.toInt (360 * y.toInt) 360 n ≤ 360 := h2.2
  exact ⟨e, by omega, by omega⟩
/-- the days of all leases: those of the six units together -/
def itS (σ : St) (y : Int32) : Nat → Int
  | 0 => 0
  | i + 1 => itS σ y i + its σ i y
theorem it_six {σ : St} {n : Nat} {y : Int32} (hI : Inv σ n) : ∀ i, i ≤ n → itS σ y i = wdS σ 0 (360 * y.toInt) 360 i + wdS σ 1 (360 * y.toInt) 360 i + wdS σ 2 (360 * y.toInt) 360 i + wdS σ 3 (360 * y.toInt) 360 i + wdS σ 4 (360 * y.toInt) 360 i + wdS σ 5 (360 * y.toInt) 360 i
  | 0, _ => rfl
  | i + 1, hi => by
    have ih := it_six hI i (by omega) (y := y)
    have hL := (hI.2.2.2.1 i (by omega)).1
    unfold itS wdS
    rw [ih]
    show _ + wdD σ i (360 * y.toInt) 360 = _
    generalize wdD σ i (360 * y.toInt) 360 = w
    (repeat' split) <;> omega
/-- area by days, over the leases and over the units -/
def arS (σ : St) (y : Int32) : Nat → Int
  | 0 => 0
  | i + 1 => arS σ y i + (σ 0 (ix (σ 3 i))).toInt * its σ i y
theorem ar_six {σ : St} {n : Nat} {y : Int32} (hI : Inv σ n) : ∀ i, i ≤ n → arS σ y i = (σ 0 0).toInt * wdS σ 0 (360 * y.toInt) 360 i + (σ 0 1).toInt * wdS σ 1 (360 * y.toInt) 360 i + (σ 0 2).toInt * wdS σ 2 (360 * y.toInt) 360 i + (σ 0 3).toInt * wdS σ 3 (360 * y.toInt) 360 i + (σ 0 4).toInt * wdS σ 4 (360 * y.toInt) 360 i + (σ 0 5).toInt * wdS σ 5 (360 * y.toInt) 360 i
  | 0, _ => by simp [arS, wdS]
  | i + 1, hi => by
    have ih := ar_six hI i (by omega) (y := y)
    have hL := (hI.2.2.2.1 i (by omega)).1
    unfold arS wdS
    rw [ih]
    show _ + _ * wdD σ i (360 * y.toInt) 360 = _
    generalize wdD σ i (360 * y.toInt) 360 = w
    rcases (show (σ 3 i).toInt = 0 ∨ (σ 3 i).toInt = 1 ∨ (σ 3 i).toInt = 2 ∨ (σ 3 i).toInt = 3 ∨ (σ 3 i).toInt = 4 ∨ (σ 3 i).toInt = 5 by omega) with h | h | h | h | h | h
    · rw [show ix (σ 3 i) = 0 from i_ix h]; simp only [h]; simp [Int.mul_add]; omega
    · rw [show ix (σ 3 i) = 1 from i_ix h]; simp only [h]; simp [Int.mul_add]; omega
    · rw [show ix (σ 3 i) = 2 from i_ix h]; simp only [h]; simp [Int.mul_add]; omega
    · rw [show ix (σ 3 i) = 3 from i_ix h]; simp only [h]; simp [Int.mul_add]; omega
    · rw [show ix (σ 3 i) = 4 from i_ix h]; simp only [h]; simp [Int.mul_add]; omega
    · rw [show ix (σ 3 i) = 5 from i_ix h]; simp only [h]; simp [Int.mul_add]; omega
theorem aa_six {σ : St} {n : Nat} (hI : Inv σ n) : (aaP σ 6).toInt = (σ 0 0).toInt + (σ 0 1).toInt + (σ 0 2).toInt + (σ 0 3).toInt + (σ 0 4).toInt + (σ 0 5).toInt := by
  have h : ∀ i, i < 6 → (aaP σ (i + 1)).toInt = (aaP σ i).toInt + (σ 0 i).toInt := by
    intro i hi
    have h1 := aa_b hI i (by omega)
    have h2 := hI.2.1 i hi
    show (aaP σ i + σ 0 i).toInt = _
    exact i_add (by omega)
  have h0 : (aaP σ 0).toInt = 0 := rfl
  rw [h 5 (by decide), h 4 (by decide), h 3 (by decide), h 2 (by decide), h 1 (by decide), h 0 (by decide), h0]
  omega
theorem ar_le {σ : St} {n : Nat} {y : Int32} (hI : Inv σ n) : arS σ y n ≤ (aaP σ 6).toInt * 360 := by
  rw [ar_six hI n (Nat.le_refl _), aa_six hI]
  have h : ∀ u : Nat, u < 6 → (σ 0 u).toInt * wdS σ (u : Int) (360 * y.toInt) 360 n ≤ (σ 0 u).toInt * 360 := fun u hu => Int.mul_le_mul_of_nonneg_left (ws_le (u := (u : Int)) (a := 360 * y.toInt) hI 360).2 (hI.2.1 u hu).1
  have h0 := h 0 (by decide)
  have h1 := h 1 (by decide)
  have h2 := h 2 (by decide)
  have h3 := h 3 (by decide)
  have h4 := h 4 (by decide)
  have h5 := h 5 (by decide)
  simp only [Int.add_mul]
  exact Int.add_le_add (Int.add_le_add (Int.add_le_add (Int.add_le_add (Int.add_le_add h0 h1) h2) h3) h4) h5

/-! a lease just let -/
theorem i_as {a b : Int32} : a + (b - a) = b := by rw [Int32.add_comm, Int32.sub_add_cancel]
theorem let_0 {σ : St} {n : Nat} {p0 p1 p2 p3 : Int32} (hI : Inv σ n) (hn : n < 12) (h0 : 0 ≤ p0.toInt ∧ p0.toInt < 6) (h1 : 0 ≤ p1.toInt ∧ p1.toInt < 7200) (h2 : p1.toInt < p2.toInt ∧ p2.toInt ≤ 7200) (h3 : 1 ≤ p3.toInt ∧ p3.toInt ≤ 99999) (hno : ∀ q, q < n → ¬ ((σ 3 q).toInt = p0.toInt ∧ (σ 4 q).toInt < p2.toInt ∧ p1.toInt < (σ 5 q).toInt)) : cdLet σ n p0 p1 p2 p3 = 0 := by
  have h := (dl_iff (u := p0) (a := p1) (b := p2) hI ⟨h1.1, h2.1⟩ h2.2 n (Nat.le_refl _)).2
  have hz : ¬ 0 < (dlP σ n p0 p1 p2 24).toInt := by
    rw [dl_far hI.1]
    intro q
    obtain ⟨k, k1, k2⟩ := h.mp q
    exact hno k k1 k2
  unfold cdLet
  rw [if_pos h0, if_pos ⟨⟨h1.1, by omega⟩, h2.1, h2.2, h3⟩, if_neg (fun q => q.elim (fun z => by omega) hz)]
theorem lt_at {σ : St} {n a : Nat} {p0 p1 p2 p3 : Int32} : ltS σ n p0 p1 p2 p3 3 n = p0 ∧ ltS σ n p0 p1 p2 p3 4 n = p1 ∧ ltS σ n p0 p1 p2 p3 5 n = p2 ∧ ltS σ n p0 p1 p2 p3 6 n = p3 ∧ ((a ≠ 3 ∧ a ≠ 4 ∧ a ≠ 5 ∧ a ≠ 6 ∧ a ≠ 9) → ltS σ n p0 p1 p2 p3 a n = σ a n) := by
  unfold ltS
  refine ⟨?_, ?_, ?_, ?_, fun h => ?_⟩
  · rw [us_ne (Or.inl (by decide)), us_ne (Or.inl (by decide)), us_ne (Or.inl (by decide)), us_ne (Or.inl (by decide)), us_eq]
  · rw [us_ne (Or.inl (by decide)), us_ne (Or.inl (by decide)), us_ne (Or.inl (by decide)), us_eq]
  · rw [us_ne (Or.inl (by decide)), us_ne (Or.inl (by decide)), us_eq]
  · rw [us_ne (Or.inl (by decide)), us_eq]
  · rw [us_ne (by omega), us_ne (by omega), us_ne (by omega), us_ne (by omega), us_ne (by omega)]
theorem let_on {σ : St} {n : Nat} {p0 p1 p2 p3 d : Int32} (hI : Inv (ltS σ n p0 p1 p2 p3) (n + 1)) (hd : p1.toInt ≤ d.toInt ∧ d.toInt < p2.toInt) : (lnG (ltS σ n p0 p1 p2 p3) (n + 1) p0 d 24 0).toInt = (n : Int) := by
  obtain ⟨e3, e4, e5, e6, -⟩ := lt_at (σ := σ) (n := n) (a := 0) (p0 := p0) (p1 := p1) (p2 := p2) (p3 := p3)
  have h := (ln_iff (k := n) (d := d) hI (by omega)).mpr (by unfold rOn; rw [e4, e5]; exact hd)
  rw [e3] at h
  exact h
theorem let_rent {σ τ : St} {n : Nat} {p0 p1 p2 p3 : Int32} (h : LI σ n τ) (hn : n < 12) (hI : Inv (ltS σ n p0 p1 p2 p3) (n + 1)) (hs : stOk (ltS σ n p0 p1 p2 p3) n) : rfF (ltS σ n p0 p1 p2 p3) n p1 = p3 := by
  obtain ⟨e3, e4, e5, e6, e⟩ := lt_at (σ := σ) (n := n) (a := 7) (p0 := p0) (p1 := p1) (p2 := p2) (p3 := p3)
  have hr := rf_from hI (show n < n + 1 by omega) hs
  have hz := (h.1.2.2.2.2.1 n (Nat.le_refl _) (by omega)).1
  rw [e ⟨by decide, by decide, by decide, by decide, by decide⟩, hz] at hr
  rw [e4, e6] at hr
  exact hr
theorem let_11 {σ τ : St} {n : Nat} {p0 p1 p2 p3 : Int32} (h : LI σ n τ) (hn : n < 12) : ltS σ n p0 p1 p2 p3 11 n = 0 := by
  obtain ⟨-, -, -, -, e⟩ := lt_at (σ := σ) (n := n) (a := 11) (p0 := p0) (p1 := p1) (p2 := p2) (p3 := p3)
  rw [e ⟨by decide, by decide, by decide, by decide, by decide⟩]
  exact (h.1.2.2.2.2.1 n (Nat.le_refl _) (by omega)).2.2.2.1

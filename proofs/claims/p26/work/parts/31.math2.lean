/-! days, shares, the let of a unit -/
theorem i_sub0 {x y : Int32} (hx : 0 ≤ x.toInt ∧ x.toInt < 100000) (hy : 0 ≤ y.toInt ∧ y.toInt < 100000) : (x - y).toInt = x.toInt - y.toInt := i_sub (by omega)
/-- the days of a lease from a up to b, as a whole number -/
theorem dw_int {σ : St} {k : Nat} {a b : Int32} (hL : okL σ k) (ha : 0 ≤ a.toInt ∧ a.toInt < 20000) (hb : 0 ≤ b.toInt ∧ b.toInt < 20000) : (dwF σ k a b).toInt = (let A := if (σ 4 k).toInt < a.toInt then a.toInt else (σ 4 k).toInt
    let B := if b.toInt < (σ 5 k).toInt then b.toInt else (σ 5 k).toInt
    if A < B then B - A else 0) := by
  obtain ⟨-, ⟨h1, h2, h3⟩, -⟩ := hL
  unfold dwF
  have e1 := @i_mx (σ 4 k) a
  have e2 := @i_mn (σ 5 k) b
  have e3 : (mnF (σ 5 k) b - mxF (σ 4 k) a).toInt = (mnF (σ 5 k) b).toInt - (mxF (σ 4 k) a).toInt := i_sub0 (by rw [e2]; split <;> omega) (by rw [e1]; split <;> omega)
  rw [i_mx, e3, e1, e2]
  have hz : (0 : Int32).toInt = 0 := rfl
  rw [hz]
  show _ = if _ < _ then _ else (0 : Int)
  split <;> split <;> omega
theorem y360 {y : Int32} (hy : 0 ≤ y.toInt ∧ y.toInt < 20) : (360 * y).toInt = 360 * y.toInt ∧ (360 * y + 360).toInt = 360 * y.toInt + 360 := by
  have h3 : (360 : Int32).toInt = 360 := rfl
  have h1 : (360 * y).toInt = 360 * y.toInt := by rw [i_mul (by rw [h3]; omega), h3]
  exact ⟨h1, by rw [i_add (by rw [h1, h3]; omega), h1, h3]⟩
theorem di_eq {σ : St} {k : Nat} {y : Int32} (hL : okL σ k) (hy : 0 ≤ y.toInt ∧ y.toInt < 20) : diF σ k y = dmF σ k y := by
  apply i_ext
  obtain ⟨y1, y2⟩ := y360 hy
  unfold diF
  rw [Int32.mul_comm y 360, dw_int hL (by rw [y1]; omega) (by rw [y2]; omega)]
  obtain ⟨-, ⟨h1, h2, h3⟩, -⟩ := hL
  unfold dmF
  have e1 : (dmA σ k y).toInt = if (σ 4 k).toInt < (360 * y).toInt then (360 * y).toInt else (σ 4 k).toInt := by
    unfold dmA
    split
    · rw [if_neg (by omega)]
    · split
      · rfl
      · omega
  have e2 : (dmB σ k y).toInt = if (360 * y + 360).toInt < (σ 5 k).toInt then (360 * y + 360).toInt else (σ 5 k).toInt := by
    unfold dmB
    split
    · rw [if_neg (by omega)]
    · split
      · rfl
      · omega
  have hA : 0 ≤ (dmA σ k y).toInt ∧ (dmA σ k y).toInt < 100000 := by rw [e1, y1]; split <;> omega
  have hB : 0 ≤ (dmB σ k y).toInt ∧ (dmB σ k y).toInt < 100000 := by rw [e2, y2]; split <;> omega
  show (if _ < _ then _ else (0 : Int)) = _
  rw [← e1, ← e2]
  split
  · rw [i_sub0 hB hA]
  · rfl
theorem aa_b {σ : St} {n : Nat} (hI : Inv σ n) : ∀ i, i ≤ 6 → 0 ≤ (aaP σ i).toInt ∧ (aaP σ i).toInt ≤ 999 * i
  | 0, _ => ⟨by show 0 ≤ (0 : Int32).toInt; decide, by show (0 : Int32).toInt ≤ 999 * 0; decide⟩
  | i + 1, h => by
    have ih := aa_b hI i (by omega)
    have ha := hI.2.1 i (by omega)
    unfold aaP
    rw [i_add (by omega)]
    omega
theorem sh_eq {σ : St} {n i : Nat} (hI : Inv σ n) : shF σ i = shM σ i := by
  have h := aa_b hI 6 (by decide)
  unfold shF shM
  by_cases h0 : (aaP σ 6).toInt = 0
  · rw [if_neg (by omega), if_pos h0]
  · rw [if_pos (by omega), if_neg h0]
theorem pt_eq {σ : St} {n k : Nat} {y : Int32} (hI : Inv σ n) (hk : k < n) (hy : 0 ≤ y.toInt ∧ y.toInt < 20) : ptF σ k y (σ 2 (ix y)) = pmF σ k y := by
  have h := aa_b hI 6 (by decide)
  have hL := hI.2.2.2.1 k hk
  unfold ptF pmF
  by_cases h0 : (aaP σ 6).toInt = 0
  · rw [if_neg (by omega), if_pos h0]
  · rw [if_pos (by omega), if_neg h0, di_eq hL hy, show vaF (σ 0) 6 (σ 3 k) = σ 0 (ix (σ 3 k)) from if_pos hL.1]
    show (if _ then pmQ σ k y else mnF (pmQ σ k y) (σ 9 k * dmF σ k y / 360)) = _
    unfold pmM
    by_cases hc : (σ 9 k).toInt = -1
    · rw [if_pos hc, if_pos hc]; split <;> rfl
    · rw [if_neg hc, if_neg hc]
      generalize pmQ σ k y = Q
      generalize σ 9 k * dmF σ k y / 360 = M
      apply i_ext
      rw [i_mn]
      split <;> split <;> omega
theorem ow_eq {σ : St} {n : Nat} {y : Int32} (hI : Inv σ n) (hy : 0 ≤ y.toInt ∧ y.toInt < 20) : owP σ n y 24 = omP σ y n := by
  have h1 : ∀ i, i ≤ n → owP σ n y i = omP σ y i := by
    intro i
    induction i with
    | zero => intro _; rfl
    | succ i ih =>
      intro h
      unfold owP omP
      rw [if_pos (by omega), ih (by omega), pt_eq hI (by omega) hy]
  have h2 : ∀ i, owP σ n y (n + i) = omP σ y n := by
    intro i
    induction i with
    | zero => exact h1 n (Nat.le_refl _)
    | succ i ih =>
      rw [← Nat.add_assoc]
      unfold owP
      rw [if_neg (by omega)]; exact ih
  have h3 := h2 (24 - n)
  rw [show n + (24 - n) = 24 by have := hI.1; omega] at h3
  exact h3
theorem dl_far {σ : St} {n : Nat} {u a b : Int32} (hn : n ≤ 24) : dlP σ n u a b 24 = dlP σ n u a b n := by
  have h2 : ∀ i, dlP σ n u a b (n + i) = dlP σ n u a b n := by
    intro i
    induction i with
    | zero => rfl
    | succ i ih =>
      rw [← Nat.add_assoc]
      show (if _ then _ else _) = _
      rw [if_neg (by omega)]; exact ih
  have h3 := h2 (24 - n)
  rw [show n + (24 - n) = 24 by omega] at h3
  exact h3
theorem vo_eq {σ : St} {n : Nat} {u y : Int32} (hI : Inv σ n) (hy : 0 ≤ y.toInt ∧ y.toInt < 20) : 360 - dlP σ n u (y * 360) (y * 360 + 360) 24 = vmP σ u y n := by
  rw [dl_far hI.1]
  have h1 : ∀ i, i ≤ n → 360 - dlP σ n u (y * 360) (y * 360 + 360) i = vmP σ u y i := by
    intro i
    induction i with
    | zero => intro _; exact Int32.sub_zero _
    | succ i ih =>
      intro h
      unfold dlP vmP
      by_cases hu : (σ 3 i).toInt = u.toInt
      · rw [if_pos ⟨by omega, hu⟩, if_pos hu, ← ih (by omega), show dwF σ i (y * 360) (y * 360 + 360) = dmF σ i y from di_eq (hI.2.2.2.1 i (by omega)) hy]
        simp only [Int32.sub_eq_add_neg, Int32.neg_add, Int32.add_assoc]
      · rw [if_neg (fun q => hu q.2), if_neg hu, ← ih (by omega), Int32.sub_zero]
  exact h1 n (Nat.le_refl _)
theorem il_iff {σ : St} {u f t : Int32} : ∀ i, (ilP σ u f t i).toInt ≠ 0 ↔ ∃ q, q < i ∧ (σ 3 q).toInt = u.toInt ∧ (σ 4 q).toInt < t.toInt ∧ f.toInt < (σ 5 q).toInt
  | 0 => ⟨fun h => absurd rfl h, fun ⟨q, h, _⟩ => absurd h (by omega)⟩
  | i + 1 => by
    have ih := il_iff (σ := σ) (u := u) (f := f) (t := t) i
    unfold ilP
    constructor
    · intro h
      split at h
      · rename_i hc
        rcases hc with hc | hc
        · obtain ⟨q, h1, h2⟩ := ih.mp hc
          exact ⟨q, by omega, h2⟩
        · exact ⟨i, by omega, hc⟩
      · exact absurd rfl h
    · rintro ⟨q, h1, h2⟩
      rw [if_pos]
      · decide
      · by_cases hq : q = i
        · subst hq; exact Or.inr h2
        · exact Or.inl (ih.mpr ⟨q, by omega, h2⟩)
theorem dl_iff {σ : St} {n : Nat} {u a b : Int32} (hI : Inv σ n) (ha : 0 ≤ a.toInt ∧ a.toInt < b.toInt) (hb : b.toInt ≤ 7200) : ∀ i, i ≤ n → (0 ≤ (dlP σ n u a b i).toInt ∧ (dlP σ n u a b i).toInt ≤ 7200 * i) ∧ (0 < (dlP σ n u a b i).toInt ↔ ∃ q, q < i ∧ (σ 3 q).toInt = u.toInt ∧ (σ 4 q).toInt < b.toInt ∧ a.toInt < (σ 5 q).toInt)
  | 0, _ => ⟨⟨by show 0 ≤ (0 : Int32).toInt; decide, by show (0 : Int32).toInt ≤ 7200 * 0; decide⟩, fun h => absurd h (by show ¬ 0 < (0 : Int32).toInt; decide), fun ⟨q, h, _⟩ => absurd h (by omega)⟩
  | i + 1, hi => by
    obtain ⟨⟨ih1, ih2⟩, ih3⟩ := dl_iff hI ha hb i (by omega) (u := u)
    have hn := hI.1
    have hL := hI.2.2.2.1 i (by omega)
    unfold dlP
    by_cases hu : (σ 3 i).toInt = u.toInt
    · rw [if_pos ⟨by omega, hu⟩]
      have hd := dw_int hL (a := a) (b := b) (by omega) (by omega)
      obtain ⟨-, ⟨h1, h2, h3⟩, -⟩ := hL
      generalize dwF σ i a b = D at hd ⊢
      have hD : (0 ≤ D.toInt ∧ D.toInt ≤ 7200) ∧ (0 < D.toInt ↔ (σ 4 i).toInt < b.toInt ∧ a.toInt < (σ 5 i).toInt) := by
        rw [hd]
        simp only
        (repeat' split) <;> omega
      rw [i_add (by omega)]
      refine ⟨by omega, ?_⟩
      constructor
      · intro h
        by_cases h5 : 0 < D.toInt
        · exact ⟨i, by omega, hu, hD.2.mp h5⟩
        · obtain ⟨q, h6, h7⟩ := ih3.mp (by omega)
          exact ⟨q, by omega, h7⟩
      · rintro ⟨q, h6, h7⟩
        by_cases hq : q = i
        · subst hq
          have := hD.2.mpr h7.2; omega
        · have := ih3.mpr ⟨q, by omega, h7⟩; omega
    · rw [if_neg (fun q => hu q.2)]
      refine ⟨by omega, ih3.trans ⟨fun ⟨q, h6, h7⟩ => ⟨q, by omega, h7⟩, fun ⟨q, h6, h7⟩ => ⟨q, ?_, h7⟩⟩⟩
      by_cases hq : q = i
      · subst hq; exact absurd h7.1 hu
      · omega
theorem let_eq {σ : St} {n : Nat} {p0 p1 p2 p3 : Int32} (hI : Inv σ n) : cdLet σ n p0 p1 p2 p3 = cdLetM σ n p0 p1 p2 p3 := by
  unfold cdLet cdLetM
  split
  · split
    · rename_i h0 h1
      have h2 := il_iff (σ := σ) (u := p0) (f := p1) (t := p2) n
      have h3 := (dl_iff hI (u := p0) (a := p1) (b := p2) (by omega) (by omega) n (Nat.le_refl _)).2
      rw [dl_far hI.1]
      have h4 : (24 ≤ n ∨ 0 < (dlP σ n p0 p1 p2 n).toInt) ↔ (n = 24 ∨ ¬ (ilP σ p0 p1 p2 n).toInt = 0) := by
        have := hI.1
        rw [h3, ← h2]
        constructor
        · rintro (h | h)
          · exact Or.inl (by omega)
          · exact Or.inr h
        · rintro (h | h)
          · exact Or.inl (by omega)
          · exact Or.inr h
      by_cases h5 : n = 24 ∨ ¬ (ilP σ p0 p1 p2 n).toInt = 0
      · rw [if_pos h5, if_pos (h4.mpr h5)]
      · rw [if_neg h5, if_neg (fun q => h5 (h4.mp q))]
    · rfl
  · rfl
theorem inv_let {σ : St} {n : Nat} {p0 p1 p2 p3 : Int32} (hI : Inv σ n) (h : cdLet σ n p0 p1 p2 p3 = 0) : Inv (ltS σ n p0 p1 p2 p3) (n + 1) := by
  rw [let_eq hI] at h
  unfold cdLetM at h
  split at h
  · rename_i h0
    split at h
    · rename_i h1
      split at h
      · exact absurd h (by decide)
      · rename_i h2
        have hil : ¬ ∃ q, q < n ∧ (σ 3 q).toInt = p0.toInt ∧ (σ 4 q).toInt < p2.toInt ∧ p1.toInt < (σ 5 q).toInt := fun q => h2 (Or.inr ((il_iff n).mpr q))
        obtain ⟨i1, i2, i3, i4, i5, i6⟩ := hI
        have hn : n < 24 := by omega
        have hz := i5 n (Nat.le_refl _) hn
        unfold ltS
        have g : ∀ a q, (q ≠ n ∨ (a ≠ 3 ∧ a ≠ 4 ∧ a ≠ 5 ∧ a ≠ 6 ∧ a ≠ 9)) → us (us (us (us (us σ 3 n p0) 4 n p1) 5 n p2) 6 n p3) 9 n (-1) a q = σ a q := fun a q hh => by
          rw [us_ne (by omega), us_ne (by omega), us_ne (by omega), us_ne (by omega), us_ne (by omega)]
        have g3 : us (us (us (us (us σ 3 n p0) 4 n p1) 5 n p2) 6 n p3) 9 n (-1) 3 n = p0 := by rw [us_ne (Or.inl (by decide)), us_ne (Or.inl (by decide)), us_ne (Or.inl (by decide)), us_ne (Or.inl (by decide)), us_eq]
        have g4 : us (us (us (us (us σ 3 n p0) 4 n p1) 5 n p2) 6 n p3) 9 n (-1) 4 n = p1 := by rw [us_ne (Or.inl (by decide)), us_ne (Or.inl (by decide)), us_ne (Or.inl (by decide)), us_eq]
        have g5 : us (us (us (us (us σ 3 n p0) 4 n p1) 5 n p2) 6 n p3) 9 n (-1) 5 n = p2 := by rw [us_ne (Or.inl (by decide)), us_ne (Or.inl (by decide)), us_eq]
        have g6 : us (us (us (us (us σ 3 n p0) 4 n p1) 5 n p2) 6 n p3) 9 n (-1) 6 n = p3 := by rw [us_ne (Or.inl (by decide)), us_eq]
        have g9 : us (us (us (us (us σ 3 n p0) 4 n p1) 5 n p2) 6 n p3) 9 n (-1) 9 n = -1 := us_eq
        have gr : ∀ q, rowF (us (us (us (us (us σ 3 n p0) 4 n p1) 5 n p2) 6 n p3) 9 n (-1)) 13 q = rowF σ 13 q := fun q => by
          rw [rowF_ne (Or.inl (by decide)), rowF_ne (Or.inl (by decide)), rowF_ne (Or.inl (by decide)), rowF_ne (Or.inl (by decide)), rowF_ne (Or.inl (by decide))]
        generalize us (us (us (us (us σ 3 n p0) 4 n p1) 5 n p2) 6 n p3) 9 n (-1) = σ' at *
        refine ⟨by omega, fun q hq => by rw [g 0 q (Or.inr (by decide))]; exact i2 q hq, fun q hq => by rw [g 1 q (Or.inr (by decide))]; exact i3 q hq, fun q hq => ?_, fun q q1 q2 => zeroL_c (fun b _ _ => g b q (Or.inl (by omega))) (fun b i hb _ => g b _ (Or.inr (by omega))) (i5 q (by omega) q2), fun a b ha hb hne => ?_⟩
        · by_cases hq2 : q = n
          · subst hq2
            obtain ⟨z7, z8, z10, z11, z12, -⟩ := hz
            have g7 : σ' 7 q = 0 := (g 7 q (Or.inr (by decide))).trans z7
            have g8 : σ' 8 q = 0 := (g 8 q (Or.inr (by decide))).trans z8
            have g10 : σ' 10 q = 0 := (g 10 q (Or.inr (by decide))).trans z10
            have g12 : σ' 12 q = 0 := (g 12 q (Or.inr (by decide))).trans z12
            unfold okL okS stN
            rw [g3, g4, g5, g6, g7, g8, g9, g10, g12]
            refine ⟨h0, ⟨h1.1.1, h1.2.1, h1.2.2.1⟩, h1.2.2.2, by decide, Or.inl rfl, by decide, by decide, by decide, fun i hi => absurd hi (by show ¬ i < 0; omega)⟩
          · exact okL_c (fun b _ _ _ => g b q (Or.inl hq2)) (gr q) (i4 q (by omega))
        · unfold Dj
          by_cases ha2 : a = n
          · subst ha2
            rw [g3, g4, g5, g 3 b (Or.inl (by omega)), g 4 b (Or.inl (by omega)), g 5 b (Or.inl (by omega))]
            intro e
            by_cases h7 : (σ 4 b).toInt < p2.toInt ∧ p1.toInt < (σ 5 b).toInt
            · exact absurd ⟨b, by omega, e.symm, h7⟩ hil
            · omega
          · by_cases hb2 : b = n
            · subst hb2
              rw [g3, g4, g5, g 3 a (Or.inl (by omega)), g 4 a (Or.inl (by omega)), g 5 a (Or.inl (by omega))]
              intro e
              by_cases h7 : (σ 4 a).toInt < p2.toInt ∧ p1.toInt < (σ 5 a).toInt
              · exact absurd ⟨a, by omega, e, h7⟩ hil
              · omega
            · rw [g 3 a (Or.inl ha2), g 4 a (Or.inl ha2), g 5 a (Or.inl ha2), g 3 b (Or.inl hb2), g 4 b (Or.inl hb2), g 5 b (Or.inl hb2)]
              exact i6 a b (by omega) (by omega) hne
    · exact absurd h (by decide)
  · exact absurd h (by decide)
/-- whose day it is: the first place of the class, the last of the reference: there is one at most -/
theorem ln_eq {σ : St} {n : Nat} {u d : Int32} (hI : Inv σ n) : lnG σ n u d 24 0 = fmP σ u d n := by
  have h1 : ∀ i, i ≤ n → fmP σ u d i = -1 ∧ (∀ q, q < i → ¬ ((σ 3 q).toInt = u.toInt ∧ rOn σ q d)) ∨ ∃ q, q < i ∧ ((σ 3 q).toInt = u.toInt ∧ rOn σ q d) ∧ fmP σ u d i = nI q := by
    intro i
    induction i with
    | zero => intro _; exact Or.inl ⟨rfl, fun q h => absurd h (by omega)⟩
    | succ i ih =>
      intro hi
      unfold fmP
      by_cases h : (σ 3 i).toInt = u.toInt ∧ rOn σ i d
      · rw [if_pos h]; exact Or.inr ⟨i, by omega, h, rfl⟩
      · rw [if_neg h]
        rcases ih (by omega) with ⟨e, h2⟩ | ⟨q, h2, h3, e⟩
        · refine Or.inl ⟨e, fun q hq => ?_⟩
          by_cases hqi : q = i
          · subst hqi; exact h
          · exact h2 q (by omega)
        · exact Or.inr ⟨q, by omega, h3, e⟩
  have h2 : ∀ f i, i + f = 24 → lnG σ n u d f i = -1 ∧ (∀ q, i ≤ q → q < n → ¬ ((σ 3 q).toInt = u.toInt ∧ rOn σ q d)) ∨ ∃ q, i ≤ q ∧ q < n ∧ ((σ 3 q).toInt = u.toInt ∧ rOn σ q d) ∧ lnG σ n u d f i = nI q := by
    intro f
    induction f with
    | zero => intro i hi; exact Or.inl ⟨rfl, fun q h h' => absurd h (by have := hI.1; omega)⟩
    | succ f ih =>
      intro i hi
      unfold lnG
      by_cases h : (i < n ∧ (σ 3 i).toInt = u.toInt) ∧ rOn σ i d
      · rw [if_pos h]; exact Or.inr ⟨i, Nat.le_refl _, h.1.1, ⟨h.1.2, h.2⟩, rfl⟩
      · rw [if_neg h]
        rcases ih (i + 1) (by omega) with ⟨e, h2⟩ | ⟨q, h2, h3, h4, e⟩
        · refine Or.inl ⟨e, fun q hq hqn hh => ?_⟩
          by_cases hqi : q = i
          · subst hqi; exact h ⟨⟨hqn, hh.1⟩, hh.2⟩
          · exact h2 q (by omega) hqn hh
        · exact Or.inr ⟨q, by omega, h3, h4, e⟩
  rcases h1 n (Nat.le_refl _) with ⟨e1, a1⟩ | ⟨q1, b1, c1, e1⟩
  · rcases h2 24 0 rfl with ⟨e2, a2⟩ | ⟨q2, a2, b2, c2, e2⟩
    · rw [e1, e2]
    · exact absurd c2 (a1 q2 b2)
  · rcases h2 24 0 rfl with ⟨e2, a2⟩ | ⟨q2, a2, b2, c2, e2⟩
    · exact absurd c1 (a2 q1 (Nat.zero_le _) b1)
    · by_cases hq : q1 = q2
      · rw [e1, e2, hq]
      · have hj := hI.2.2.2.2.2 q1 q2 b1 b2 hq (c1.1.trans c2.1.symm)
        have w1 := c1.2
        have w2 := c2.2
        unfold rOn at w1 w2
        omega


/-! the invariant of the two, and what they answer alike -/
theorem i_lt {x y : Int32} : x < y ↔ x.toInt < y.toInt := Int32.lt_iff_toInt_lt
theorem i_mx {x y : Int32} : (mxF x y).toInt = if x.toInt < y.toInt then y.toInt else x.toInt := by
  unfold mxF
  by_cases h : x < y
  · rw [if_pos h, if_pos (i_lt.mp h)]
  · rw [if_neg h, if_neg (fun q => h (i_lt.mpr q))]
theorem i_mn {x y : Int32} : (mnF x y).toInt = if y.toInt < x.toInt then y.toInt else x.toInt := by
  unfold mnF
  by_cases h : y < x
  · rw [if_pos h, if_pos (i_lt.mp h)]
  · rw [if_neg h, if_neg (fun q => h (i_lt.mpr q))]
theorem us_ne {σ : St} {a i b q : Nat} {x : Int32} (h : b ≠ a ∨ q ≠ i) : us σ a i x b q = σ b q := by
  unfold us upd
  by_cases h1 : b = a
  · rw [if_pos h1, if_neg (fun e => h.elim (fun z => z h1) (fun z => z e))]
  · rw [if_neg h1]
def Dj (σ : St) (i j : Nat) : Prop := (σ 3 i).toInt = (σ 3 j).toInt → (σ 5 i).toInt ≤ (σ 4 j).toInt ∨ (σ 5 j).toInt ≤ (σ 4 i).toInt
def Inv (σ : St) (n : Nat) : Prop := n ≤ 24 ∧ (∀ i, i < 6 → 0 ≤ (σ 0 i).toInt ∧ (σ 0 i).toInt ≤ 999) ∧ (∀ i, i < 240 → 10 ≤ (σ 1 i).toInt ∧ (σ 1 i).toInt ≤ 999) ∧ (∀ k, k < n → okL σ k) ∧ (∀ k, n ≤ k → k < 24 → zeroL σ k) ∧ ∀ i j, i < n → j < n → i ≠ j → Dj σ i j
theorem okL_c {σ σ' : St} {k : Nat} (h : ∀ a, 3 ≤ a → a ≤ 12 → a ≠ 11 → σ' a k = σ a k) (h2 : rowF σ' 13 k = rowF σ 13 k) (q : okL σ k) : okL σ' k := by
  unfold okL okS stN at *
  rw [show σ' 3 k = σ 3 k from h 3 (by decide) (by decide) (by decide), show σ' 4 k = σ 4 k from h 4 (by decide) (by decide) (by decide), show σ' 5 k = σ 5 k from h 5 (by decide) (by decide) (by decide), show σ' 6 k = σ 6 k from h 6 (by decide) (by decide) (by decide), show σ' 7 k = σ 7 k from h 7 (by decide) (by decide) (by decide), show σ' 8 k = σ 8 k from h 8 (by decide) (by decide) (by decide), show σ' 9 k = σ 9 k from h 9 (by decide) (by decide) (by decide), show σ' 10 k = σ 10 k from h 10 (by decide) (by decide) (by decide), show σ' 12 k = σ 12 k from h 12 (by decide) (by decide) (by decide), h2]
  exact q
theorem zeroL_c {σ σ' : St} {k : Nat} (h : ∀ a, 3 ≤ a → a ≤ 12 → σ' a k = σ a k) (h2 : ∀ a i, 13 ≤ a → i < 6 → σ' a (6 * k + i) = σ a (6 * k + i)) (q : zeroL σ k) : zeroL σ' k := by
  obtain ⟨z7, z8, z10, z11, z12, z⟩ := q
  exact ⟨(h 7 (by decide) (by decide)).trans z7, (h 8 (by decide) (by decide)).trans z8, (h 10 (by decide) (by decide)).trans z10, (h 11 (by decide) (by decide)).trans z11, (h 12 (by decide) (by decide)).trans z12, fun i hi => ⟨(h2 13 i (by decide) hi).trans (z i hi).1, (h2 14 i (by decide) hi).trans (z i hi).2⟩⟩
theorem inv_0 : Inv σI 0 := by
  refine ⟨by decide, fun i _ => ⟨by show 0 ≤ (0 : Int32).toInt; decide, by show (0 : Int32).toInt ≤ 999; decide⟩, fun i hi => ?_, fun k hk => absurd hk (by omega), fun k _ _ => ⟨rfl, rfl, rfl, rfl, rfl, fun i _ => ⟨rfl, rfl⟩⟩, fun i j hi => absurd hi (by omega)⟩
  have h : σI 1 i = 100 := if_pos hi
  rw [h]; decide
/-- a unit's area, an index, a cost -/
theorem inv_t {σ : St} {n a i : Nat} {x : Int32} (hI : Inv σ n) (ha : a < 3) (h0 : a = 0 → 0 ≤ x.toInt ∧ x.toInt ≤ 999) (h1 : a = 1 → 10 ≤ x.toInt ∧ x.toInt ≤ 999) : Inv (us σ a i x) n := by
  obtain ⟨i1, i2, i3, i4, i5, i6⟩ := hI
  refine ⟨i1, fun q hq => ?_, fun q hq => ?_, fun k hk => okL_c (fun b hb _ _ => us_ne (Or.inl (by omega))) (rowF_ne (Or.inl (by omega))) (i4 k hk), fun k h1 h2 => zeroL_c (fun b hb _ => us_ne (Or.inl (by omega))) (fun b i hb _ => us_ne (Or.inl (by omega))) (i5 k h1 h2), fun p q hp hq hne => ?_⟩
  · by_cases h : (0 = a ∧ q = i)
    · obtain ⟨rfl, rfl⟩ := h; rw [us_eq]; exact h0 rfl
    · rw [us_ne (by omega)]; exact i2 q hq
  · by_cases h : (1 = a ∧ q = i)
    · obtain ⟨rfl, rfl⟩ := h; rw [us_eq]; exact h1 rfl
    · rw [us_ne (by omega)]; exact i3 q hq
  · unfold Dj
    rw [us_ne (b := 3) (Or.inl (by omega)), us_ne (b := 3) (Or.inl (by omega)), us_ne (b := 4) (Or.inl (by omega)), us_ne (b := 4) (Or.inl (by omega)), us_ne (b := 5) (Or.inl (by omega)), us_ne (b := 5) (Or.inl (by omega))]
    exact i6 p q hp hq hne
/-- a lease's own number -/
theorem inv_us {σ : St} {n a k : Nat} {x : Int32} (hI : Inv σ n) (hk : k < n) (ha : 5 ≤ a ∧ a ≤ 12 ∧ a ≠ 6) (hok : okL (us σ a k x) k) (h5 : a = 5 → x.toInt ≤ (σ 5 k).toInt) : Inv (us σ a k x) n := by
  obtain ⟨i1, i2, i3, i4, i5, i6⟩ := hI
  refine ⟨i1, fun q hq => ?_, fun q hq => ?_, fun q hq => ?_, fun q h1 h2 => zeroL_c (fun b hb _ => us_ne (Or.inr (by omega))) (fun b i hb _ => us_ne (Or.inl (by omega))) (i5 q h1 h2), fun p q hp hq hne => ?_⟩
  · rw [us_ne (Or.inl (by omega))]; exact i2 q hq
  · rw [us_ne (Or.inl (by omega))]; exact i3 q hq
  · by_cases h : q = k
    · rw [h]; exact hok
    · exact okL_c (fun b hb _ _ => us_ne (Or.inr h)) (rowF_ne (Or.inl (by omega))) (i4 q hq)
  · have hle : ∀ z, (us σ a k x 5 z).toInt ≤ (σ 5 z).toInt := by
      intro z
      by_cases h : 5 = a ∧ z = k
      · obtain ⟨rfl, rfl⟩ := h; rw [us_eq]; exact h5 rfl
      · rw [us_ne (by omega)]; exact Int.le_refl _
    have e1 := hle p
    have e2 := hle q
    have e3 := i6 p q hp hq hne
    unfold Dj at e3 ⊢
    rw [us_ne (b := 3) (Or.inl (by omega)), us_ne (b := 3) (Or.inl (by omega)), us_ne (b := 4) (Or.inl (by omega)), us_ne (b := 4) (Or.inl (by omega))]
    intro h
    have := e3 h
    omega

theorem okL_5 {σ : St} {k : Nat} {x : Int32} (h : okL σ k) (hx : (σ 4 k).toInt < x.toInt ∧ x.toInt ≤ 7200) : okL (us σ 5 k x) k := by
  unfold okL okS stN at *
  rw [show us σ 5 k x 3 k = σ 3 k from us_ne (Or.inl (by decide)), show us σ 5 k x 4 k = σ 4 k from us_ne (Or.inl (by decide)), show us σ 5 k x 5 k = x from us_eq, show us σ 5 k x 6 k = σ 6 k from us_ne (Or.inl (by decide)), show us σ 5 k x 7 k = σ 7 k from us_ne (Or.inl (by decide)), show us σ 5 k x 8 k = σ 8 k from us_ne (Or.inl (by decide)), show us σ 5 k x 9 k = σ 9 k from us_ne (Or.inl (by decide)), show us σ 5 k x 10 k = σ 10 k from us_ne (Or.inl (by decide)), show us σ 5 k x 12 k = σ 12 k from us_ne (Or.inl (by decide)), show rowF (us σ 5 k x) 13 k = rowF σ 13 k from rowF_ne (Or.inl (by decide))]
  obtain ⟨a1, a2, a3, a4, a5, a6, a7, a8, a9⟩ := h
  exact ⟨a1, ⟨a2.1, hx⟩, a3, a4, a5, a6, a7, a8, a9⟩
theorem okL_7 {σ : St} {k : Nat} {x : Int32} (h : okL σ k) (hx : 0 ≤ x.toInt ∧ x.toInt ≤ 720) : okL (us σ 7 k x) k := by
  unfold okL okS stN at *
  rw [show us σ 7 k x 3 k = σ 3 k from us_ne (Or.inl (by decide)), show us σ 7 k x 4 k = σ 4 k from us_ne (Or.inl (by decide)), show us σ 7 k x 5 k = σ 5 k from us_ne (Or.inl (by decide)), show us σ 7 k x 6 k = σ 6 k from us_ne (Or.inl (by decide)), show us σ 7 k x 7 k = x from us_eq, show us σ 7 k x 8 k = σ 8 k from us_ne (Or.inl (by decide)), show us σ 7 k x 9 k = σ 9 k from us_ne (Or.inl (by decide)), show us σ 7 k x 10 k = σ 10 k from us_ne (Or.inl (by decide)), show us σ 7 k x 12 k = σ 12 k from us_ne (Or.inl (by decide)), show rowF (us σ 7 k x) 13 k = rowF σ 13 k from rowF_ne (Or.inl (by decide))]
  obtain ⟨a1, a2, a3, a4, a5, a6, a7, a8, a9⟩ := h
  exact ⟨a1, a2, a3, hx, a5, a6, a7, a8, a9⟩
theorem okL_8 {σ : St} {k : Nat} {x : Int32} (h : okL σ k) (hx : x.toInt = 0 ∨ (30 ≤ x.toInt ∧ x.toInt ≤ 1800)) : okL (us σ 8 k x) k := by
  unfold okL okS stN at *
  rw [show us σ 8 k x 3 k = σ 3 k from us_ne (Or.inl (by decide)), show us σ 8 k x 4 k = σ 4 k from us_ne (Or.inl (by decide)), show us σ 8 k x 5 k = σ 5 k from us_ne (Or.inl (by decide)), show us σ 8 k x 6 k = σ 6 k from us_ne (Or.inl (by decide)), show us σ 8 k x 7 k = σ 7 k from us_ne (Or.inl (by decide)), show us σ 8 k x 8 k = x from us_eq, show us σ 8 k x 9 k = σ 9 k from us_ne (Or.inl (by decide)), show us σ 8 k x 10 k = σ 10 k from us_ne (Or.inl (by decide)), show us σ 8 k x 12 k = σ 12 k from us_ne (Or.inl (by decide)), show rowF (us σ 8 k x) 13 k = rowF σ 13 k from rowF_ne (Or.inl (by decide))]
  obtain ⟨a1, a2, a3, a4, a5, a6, a7, a8, a9⟩ := h
  exact ⟨a1, a2, a3, a4, hx, a6, a7, a8, a9⟩
theorem okL_9 {σ : St} {k : Nat} {x : Int32} (h : okL σ k) (hx : -1 ≤ x.toInt ∧ x.toInt ≤ 999999) : okL (us σ 9 k x) k := by
  unfold okL okS stN at *
  rw [show us σ 9 k x 3 k = σ 3 k from us_ne (Or.inl (by decide)), show us σ 9 k x 4 k = σ 4 k from us_ne (Or.inl (by decide)), show us σ 9 k x 5 k = σ 5 k from us_ne (Or.inl (by decide)), show us σ 9 k x 6 k = σ 6 k from us_ne (Or.inl (by decide)), show us σ 9 k x 7 k = σ 7 k from us_ne (Or.inl (by decide)), show us σ 9 k x 8 k = σ 8 k from us_ne (Or.inl (by decide)), show us σ 9 k x 9 k = x from us_eq, show us σ 9 k x 10 k = σ 10 k from us_ne (Or.inl (by decide)), show us σ 9 k x 12 k = σ 12 k from us_ne (Or.inl (by decide)), show rowF (us σ 9 k x) 13 k = rowF σ 13 k from rowF_ne (Or.inl (by decide))]
  obtain ⟨a1, a2, a3, a4, a5, a6, a7, a8, a9⟩ := h
  exact ⟨a1, a2, a3, a4, a5, hx, a7, a8, a9⟩
theorem okL_10 {σ : St} {k : Nat} {x : Int32} (h : okL σ k) (hx : 0 ≤ x.toInt ∧ x.toInt ≤ 9999) : okL (us σ 10 k x) k := by
  unfold okL okS stN at *
  rw [show us σ 10 k x 3 k = σ 3 k from us_ne (Or.inl (by decide)), show us σ 10 k x 4 k = σ 4 k from us_ne (Or.inl (by decide)), show us σ 10 k x 5 k = σ 5 k from us_ne (Or.inl (by decide)), show us σ 10 k x 6 k = σ 6 k from us_ne (Or.inl (by decide)), show us σ 10 k x 7 k = σ 7 k from us_ne (Or.inl (by decide)), show us σ 10 k x 8 k = σ 8 k from us_ne (Or.inl (by decide)), show us σ 10 k x 9 k = σ 9 k from us_ne (Or.inl (by decide)), show us σ 10 k x 10 k = x from us_eq, show us σ 10 k x 12 k = σ 12 k from us_ne (Or.inl (by decide)), show rowF (us σ 10 k x) 13 k = rowF σ 13 k from rowF_ne (Or.inl (by decide))]
  obtain ⟨a1, a2, a3, a4, a5, a6, a7, a8, a9⟩ := h
  exact ⟨a1, a2, a3, a4, a5, a6, hx, a8, a9⟩
theorem okL_11 {σ : St} {k : Nat} {x : Int32} (h : okL σ k) : okL (us σ 11 k x) k := okL_c (fun _ _ _ h => us_ne (Or.inl h)) (rowF_ne (Or.inl (by decide))) h
theorem inv_end {σ : St} {n : Nat} {p0 p1 : Int32} (hI : Inv σ n) (h : cdEnd σ n p0 p1 = 0) : Inv (us σ 5 (ix p0) p1) n := by
  unfold cdEnd at h
  split at h
  · rename_i h0
    split at h
    · rename_i h1
      have hk := ix_lt h0
      have hL := hI.2.2.2.1 _ hk
      exact inv_us hI hk ⟨by decide, by decide, by decide⟩ (okL_5 hL ⟨h1.1, by have := hL.2.1; omega⟩) (fun _ => by omega)
    · exact absurd h (by decide)
  · exact absurd h (by decide)
theorem inv_terms {σ : St} {n : Nat} {p0 p1 p2 : Int32} (hI : Inv σ n) (h : cdTerms n p0 p1 p2 = 0) : Inv (us (us σ 7 (ix p0) p1) 8 (ix p0) p2) n := by
  unfold cdTerms at h
  split at h
  · rename_i h0
    split at h
    · rename_i h1
      have hk := ix_lt h0
      have hL := hI.2.2.2.1 _ hk
      exact inv_us (inv_us hI hk ⟨by decide, by decide, by decide⟩ (okL_7 hL h1.1) (fun q => absurd q (by decide))) hk ⟨by decide, by decide, by decide⟩ (okL_8 (okL_7 hL h1.1) h1.2) (fun q => absurd q (by decide))
    · exact absurd h (by decide)
  · exact absurd h (by decide)
theorem inv_serv {σ : St} {n : Nat} {p0 p1 p2 : Int32} (hI : Inv σ n) (h : cdServ n p0 p1 p2 = 0) : Inv (us (us σ 9 (ix p0) p1) 10 (ix p0) p2) n := by
  unfold cdServ at h
  split at h
  · rename_i h0
    split at h
    · rename_i h1
      have hk := ix_lt h0
      have hL := hI.2.2.2.1 _ hk
      exact inv_us (inv_us hI hk ⟨by decide, by decide, by decide⟩ (okL_9 hL h1.1) (fun q => absurd q (by decide))) hk ⟨by decide, by decide, by decide⟩ (okL_10 (okL_9 hL h1.1) h1.2) (fun q => absurd q (by decide))
    · exact absurd h (by decide)
  · exact absurd h (by decide)
theorem inv_11 {σ : St} {n k : Nat} {x : Int32} (hI : Inv σ n) (hk : k < n) : Inv (us σ 11 k x) n := inv_us hI hk ⟨by decide, by decide, by decide⟩ (okL_11 (hI.2.2.2.1 _ hk)) (fun q => absurd q (by decide))
theorem plG_le' {σ : St} {k : Nat} {d : Int32} : ∀ f i, plG σ k d f i ≤ i + f
  | 0, i => by unfold plG; omega
  | f + 1, i => by
    unfold plG
    split
    · omega
    · have := plG_le' (σ := σ) (k := k) (d := d) f (i + 1); omega
theorem inv_step {σ : St} {n : Nat} {p0 p1 p2 : Int32} (hI : Inv σ n) (h : cdStep σ n p0 p1 p2 = 0) : Inv (psS σ (ix p0) p1 p2) n := by
  unfold cdStep at h
  split at h
  · rename_i h0
    split at h
    · rename_i h1
      split at h
      · rename_i h2
        have hk := ix_lt h0
        obtain ⟨i1, i2, i3, i4, i5, i6⟩ := hI
        have hL := i4 _ hk
        unfold psS
        rw [if_pos h2]
        generalize hp : plF σ (ix p0) p1 = p at h2 ⊢
        have hpl : p ≤ stN σ (ix p0) := by rw [← hp]; have hz := plG_le' (σ := σ) (k := ix p0) (d := p1) (stN σ (ix p0)) 0; rw [Nat.zero_add] at hz; exact hz
        generalize ix p0 = k at *
        have hS : okS σ k := okL_s hL
        have hst : (stN σ k : Int) = (σ 12 k).toInt := by unfold stN; have := hS.1; omega
        generalize hc : (if p = stN σ k then σ 12 k + 1 else σ 12 k) = c
        have hci : c.toInt = if p = stN σ k then (σ 12 k).toInt + 1 else (σ 12 k).toInt := by
          rw [← hc]; split
          · exact i_add1 (by have := hS.2; omega)
          · rfl
        have g : ∀ b q, b ≠ 12 → b ≠ 13 → b ≠ 14 → us (us (us σ 13 (6 * k + p) p1) 14 (6 * k + p) p2) 12 k c b q = σ b q := fun b q e1 e2 e3 => by rw [us_ne (Or.inl e1), us_ne (Or.inl e3), us_ne (Or.inl e2)]
        refine ⟨i1, fun q hq => by rw [g 0 q (by decide) (by decide) (by decide)]; exact i2 q hq, fun q hq => by rw [g 1 q (by decide) (by decide) (by decide)]; exact i3 q hq, fun q hq => ?_, fun q q1 q2 => zeroL_c (fun b hb _ => ?_) (fun b i hb _ => ?_) (i5 q q1 q2), fun a b ha hb hne => ?_⟩
        · by_cases hqk : q = k
          · subst hqk
            obtain ⟨a1, a2, a3, a4, a5, a6, a7, a8, a9⟩ := hL
            have hst2 : (stN (us (us (us σ 13 (6 * q + p) p1) 14 (6 * q + p) p2) 12 q c) q : Int) = c.toInt := by
              unfold stN; rw [us_eq]
              have := hS.1
              split at hci <;> omega
            unfold okL
            rw [g 3 q (by decide) (by decide) (by decide), g 4 q (by decide) (by decide) (by decide), g 5 q (by decide) (by decide) (by decide), g 6 q (by decide) (by decide) (by decide), g 7 q (by decide) (by decide) (by decide), g 8 q (by decide) (by decide) (by decide), g 9 q (by decide) (by decide) (by decide), g 10 q (by decide) (by decide) (by decide)]
            refine ⟨a1, a2, a3, a4, a5, a6, a7, ?_, fun i hi => ?_⟩
            · unfold okS; rw [us_eq, hci]
              have := hS.1; have := hS.2
              split <;> omega
            · rw [rowF_ne (a := 12) (Or.inl (by decide)), rowF_ne (a := 14) (Or.inl (by decide)), rowF_eq h2]
              unfold upd
              split
              · have := a2.2.2; omega
              · refine a9 i ?_
                split at hci <;> omega
          · refine okL_c (fun b _ h3 _ => ?_) ?_ (i4 q hq)
            · by_cases hb : b = 12
              · subst hb; rw [us_ne (Or.inr hqk), us_ne (Or.inl (by decide)), us_ne (Or.inl (by decide))]
              · exact g b q hb (by omega) (by omega)
            · rw [rowF_ne (a := 12) (Or.inl (by decide)), rowF_ne (a := 14) (Or.inl (by decide)), rowF_ne (by omega)]
        · by_cases hb2 : b = 12
          · subst hb2; rw [us_ne (Or.inr (by omega)), us_ne (Or.inl (by decide)), us_ne (Or.inl (by decide))]
          · exact g b q hb2 (by omega) (by omega)
        · rw [us_ne (Or.inl (by omega)), us_ne (Or.inr (by omega)), us_ne (Or.inr (by omega))]
        · unfold Dj
          rw [g 3 a (by decide) (by decide) (by decide), g 3 b (by decide) (by decide) (by decide), g 4 a (by decide) (by decide) (by decide), g 4 b (by decide) (by decide) (by decide), g 5 a (by decide) (by decide) (by decide), g 5 b (by decide) (by decide) (by decide)]
          exact i6 a b ha hb hne
      · exact absurd h (by decide)
    · exact absurd h (by decide)
  · exact absurd h (by decide)


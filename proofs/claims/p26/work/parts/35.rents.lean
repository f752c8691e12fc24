/-! rents: their bounds, their first day, a step's day, the next change, bills, leases by days -/
/-- the rents of a lease's steps are rents -/
def stOk (σ : St) (k : Nat) : Prop := ∀ i, i < stN σ k → 1 ≤ (rowF σ 14 k i).toInt ∧ (rowF σ 14 k i).toInt ≤ 99999
theorem ac_b {σ : St} {k : Nat} {d : Int32} (hL : okL σ k) (hs : stOk σ k) : 1 ≤ (acF σ k d).toInt ∧ (acF σ k d).toInt ≤ 99999 := by
  have h : ∀ i, i ≤ stN σ k → 1 ≤ (agC σ k d i).1.toInt ∧ (agC σ k d i).1.toInt ≤ 99999 := by
    intro i
    induction i with
    | zero => intro _; exact hL.2.2.1
    | succ i ih =>
      intro hi
      unfold agC
      split
      · exact hs i (by omega)
      · exact ih (by omega)
  exact h _ (Nat.le_refl _)
theorem va_b {σ : St} {n : Nat} {x : Int32} (hI : Inv σ n) : 0 ≤ (vaF (σ 1) 240 x).toInt ∧ (vaF (σ 1) 240 x).toInt ≤ 999 := by
  unfold vaF
  split
  · rename_i h
    have := hI.2.2.1 (ix x) (ix_lt h)
    omega
  · exact ⟨by decide, by decide⟩
theorem hx_b {σ : St} {n k : Nat} {d : Int32} (hI : Inv σ n) : 0 ≤ (hxF σ k d).toInt ∧ (hxF σ k d).toInt ≤ 999 := by
  have h : ∀ i, 0 ≤ (hiP σ k i).toInt ∧ (hiP σ k i).toInt ≤ 999 := by
    intro i
    induction i with
    | zero => exact ⟨by show 0 ≤ (0 : Int32).toInt; decide, by show (0 : Int32).toInt ≤ 999; decide⟩
    | succ i ih =>
      unfold hiP
      have hv := va_b (x := (σ 4 k + nI (i + 1) * σ 8 k) / 30) hI
      rw [i_mx]
      split <;> omega
  exact h _
theorem rf_int {σ : St} {n k : Nat} {d : Int32} (hI : Inv σ n) (hk : k < n) (hs : stOk σ k) (h : rOn σ k d ∧ ¬ fOn σ k d) : (acF σ k d).toInt ≤ (rfF σ k d).toInt ∧ (rfF σ k d).toInt ≤ 9989901 ∧ ((hxF σ k d).toInt = 0 → rfF σ k d = acF σ k d) := by
  have hL := hI.2.2.2.1 k hk
  have ha := ac_b (d := d) hL hs
  have hh := hx_b (k := k) (d := d) hI
  have hX := ok_ix hL
  have hi := hI.2.2.1 (ix (σ 4 k / 30)) (ix_lt hX)
  unfold rfF
  rw [if_pos h, show vaF (σ 1) 240 (σ 4 k / 30) = σ 1 (ix (σ 4 k / 30)) from if_pos hX, if_pos (by omega)]
  generalize σ 1 (ix (σ 4 k / 30)) = B at hi ⊢
  generalize acF σ k d = a at ha ⊢
  generalize hxF σ k d = g at hh ⊢
  have m1 : 0 ≤ a.toInt * g.toInt := Int.mul_nonneg (by omega) hh.1
  have m2 : a.toInt * g.toInt ≤ 99999 * 999 := Int.mul_le_mul ha.2 hh.2 hh.1 (by decide)
  have e : (a * g / B).toInt = a.toInt * g.toInt / B.toInt := by
    rw [i_div (by omega), i_mul (by omega), Int.tdiv_eq_ediv_of_nonneg m1]
  have e0 : 0 ≤ a.toInt * g.toInt / B.toInt := Int.ediv_nonneg m1 (by omega)
  have e1 : a.toInt * g.toInt / B.toInt ≤ 9989901 := by
    have h1 : a.toInt * g.toInt / B.toInt * B.toInt ≤ a.toInt * g.toInt := Int.ediv_mul_le _ (by omega)
    have h2 : a.toInt * g.toInt / B.toInt * 10 ≤ a.toInt * g.toInt / B.toInt * B.toInt := Int.mul_le_mul_of_nonneg_left hi.1 e0
    omega
  have hm := @i_mx a (a * g / B)
  refine ⟨by rw [hm, e]; split <;> omega, by rw [hm, e]; split <;> omega, fun h0 => i_ext ?_⟩
  rw [h0, Int.mul_zero, Int.zero_ediv] at e
  rw [hm, e]
  split <;> omega
theorem rf_no {σ : St} {k : Nat} {d : Int32} (h : ¬ (rOn σ k d ∧ ¬ fOn σ k d)) : rfF σ k d = 0 := if_neg h
theorem rf_b {σ : St} {n k : Nat} {d : Int32} (hI : Inv σ n) (hk : k < n) (hs : stOk σ k) : 0 ≤ (rfF σ k d).toInt ∧ (rfF σ k d).toInt ≤ 9989901 := by
  by_cases h : rOn σ k d ∧ ¬ fOn σ k d
  · have h1 := rf_int hI hk hs h
    have h2 := ac_b (d := d) (hI.2.2.2.1 k hk) hs
    omega
  · rw [rf_no h]; exact ⟨by decide, by decide⟩
theorem hx_0 {σ : St} {k : Nat} {d : Int32} (h : ¬ (0 < (σ 8 k).toInt ∧ (σ 4 k).toInt < d.toInt)) : (hxF σ k d).toInt = 0 := by
  unfold hxF rvF
  rw [if_neg h]
  rfl
theorem ac_st0 {σ : St} {k : Nat} {d : Int32} (h : (σ 12 k).toInt = 0) : acF σ k d = σ 6 k := by
  unfold acF stN
  rw [h]
  rfl
theorem ff_int {σ : St} {k : Nat} (hL : okL σ k) : (σ 4 k + σ 7 k).toInt = (σ 4 k).toInt + (σ 7 k).toInt := by
  have h1 := hL.2.1
  have h2 := hL.2.2.2.1
  exact i_add (by omega)
/-- the first day's rent -/
theorem rf_from {σ : St} {n k : Nat} (hI : Inv σ n) (hk : k < n) (hs : stOk σ k) : rfF σ k (σ 4 k) = if 0 < (σ 7 k).toInt then 0 else σ 6 k := by
  have hL := hI.2.2.2.1 k hk
  have hf := ff_int hL
  have h7 := hL.2.2.2.1
  have hon : rOn σ k (σ 4 k) := ⟨Int.le_refl _, hL.2.1.2.1⟩
  by_cases h : 0 < (σ 7 k).toInt
  · rw [if_pos h]
    exact rf_no (fun q => q.2 (by unfold fOn; omega))
  · rw [if_neg h]
    have hx := hx_0 (σ := σ) (k := k) (d := σ 4 k) (fun q => by have := q.2; omega)
    rw [(rf_int hI hk hs ⟨hon, by unfold fOn; omega⟩).2.2 hx]
    have hag : ∀ i, agC σ k (σ 4 k) i = (σ 6 k, σ 4 k) := by
      intro i
      induction i with
      | zero => rfl
      | succ i ih =>
        unfold agC
        rw [ih]
        exact if_neg (fun q => by have := q.1; have h2 : (σ 4 k).toInt < _ := q.2; omega)
    unfold acF
    rw [hag]
/-- places of steps -/
theorem pl_ne {σ : St} {k : Nat} {d : Int32} : ∀ f i q, i ≤ q → q < plG σ k d f i → ¬ (rowF σ 13 k q).toInt = d.toInt
  | 0, i, q, h1, h2 => by unfold plG at h2; omega
  | f + 1, i, q, h1, h2 => by
    unfold plG at h2
    split at h2
    · omega
    · rename_i h
      by_cases hq : q = i
      · subst hq; exact h
      · exact pl_ne f (i + 1) q (by omega) h2
theorem ps_int {σ : St} {k : Nat} {d r : Int32} (hL : okL σ k) (hp : plF σ k d < 6) : stN (psS σ k d r) k ≤ 6 ∧ plF σ k d < stN (psS σ k d r) k ∧ stN σ k ≤ stN (psS σ k d r) k ∧ (stN (psS σ k d r) k ≤ stN σ k + 1) ∧ (psS σ k d r 12 k = σ 12 k ∨ psS σ k d r 12 k = σ 12 k + 1) ∧ (plF σ k d < stN σ k → stN (psS σ k d r) k = stN σ k) ∧ (stN σ k ≤ plF σ k d → plF σ k d = stN σ k) := by
  have hS : okS σ k := okL_s hL
  have hpl : plF σ k d ≤ stN σ k := by have hz := plG_le' (σ := σ) (k := k) (d := d) (stN σ k) 0; rw [Nat.zero_add] at hz; exact hz
  have hst : (stN σ k : Int) = (σ 12 k).toInt := by unfold stN; have := hS.1; omega
  have e : psS σ k d r 12 k = if plF σ k d = stN σ k then σ 12 k + 1 else σ 12 k := by
    unfold psS
    rw [if_pos hp]
    exact us_eq
  have h6 := hS.2
  by_cases h : plF σ k d = stN σ k
  · rw [if_pos h] at e
    have e2 : (psS σ k d r 12 k).toInt = (σ 12 k).toInt + 1 := by rw [e]; exact i_add1 (by omega)
    have e3 : stN (psS σ k d r) k = stN σ k + 1 := by unfold stN at *; omega
    exact ⟨by omega, by omega, by omega, by omega, Or.inr e, fun h => by omega, fun _ => h⟩
  · rw [if_neg h] at e
    have e3 : stN (psS σ k d r) k = stN σ k := by unfold stN; rw [e]
    exact ⟨by omega, by omega, by omega, by omega, Or.inl e, fun _ => e3, fun h => by omega⟩
theorem ps_rows {σ : St} {k : Nat} {d r : Int32} (hp : plF σ k d < 6) : rowF (psS σ k d r) 13 k = upd (rowF σ 13 k) (plF σ k d) d ∧ rowF (psS σ k d r) 14 k = upd (rowF σ 14 k) (plF σ k d) r := by
  unfold psS
  rw [if_pos hp]
  constructor
  · rw [rowF_ne (a := 12) (Or.inl (by decide)), rowF_ne (a := 14) (Or.inl (by decide)), rowF_eq hp]
  · rw [rowF_ne (a := 12) (Or.inl (by decide)), rowF_eq hp, rowF_ne (a := 13) (Or.inl (by decide))]
theorem ps_keep {σ : St} {k a q : Nat} {d r : Int32} (h : a ≠ 13 ∧ a ≠ 14 ∧ (a ≠ 12 ∨ q ≠ k)) : psS σ k d r a q = σ a q := by
  unfold psS
  split
  · rw [us_ne (by omega), us_ne (Or.inl (by omega)), us_ne (Or.inl (by omega))]
  · rfl
theorem ps_other {σ : St} {k q : Nat} {d r : Int32} (h : q ≠ k) : rowF (psS σ k d r) 14 q = rowF σ 14 q ∧ stN (psS σ k d r) q = stN σ q := by
  constructor
  · unfold psS
    split
    · rw [rowF_ne (a := 12) (Or.inl (by decide)), rowF_ne (a := 14) (by omega), rowF_ne (a := 13) (Or.inl (by decide))]
    · rfl
  · unfold stN
    rw [ps_keep (a := 12) (q := q) ⟨by decide, by decide, Or.inr h⟩]
/-- on a step's own day its rent is agreed -/
theorem ps_ag {σ : St} {k : Nat} {d r : Int32} (hL : okL σ k) (hp : plF σ k d < 6) (hd : (σ 4 k).toInt < d.toInt) : acF (psS σ k d r) k d = r := by
  obtain ⟨p1, p2, p3, p4, p5, p6, p7⟩ := ps_int (r := r) hL hp
  obtain ⟨r13, r14⟩ := ps_rows (σ := σ) (k := k) (d := d) (r := r) hp
  have hne : ∀ q, q < plF σ k d → ¬ (rowF σ 13 k q).toInt = d.toInt := fun q h => pl_ne (σ := σ) (k := k) (d := d) (stN σ k) 0 q (Nat.zero_le _) h
  have h4 : psS σ k d r 4 k = σ 4 k := ps_keep ⟨by decide, by decide, Or.inl (by decide)⟩
  generalize hpp : plF σ k d = p at *
  have hlow : ∀ i, i ≤ p → (agC (psS σ k d r) k d i).2.toInt < d.toInt := by
    intro i
    induction i with
    | zero => intro _; show (psS σ k d r 4 k).toInt < _; rw [h4]; exact hd
    | succ i ih =>
      intro hi
      unfold agC
      rw [r13, r14]
      have hn := hne i (by omega)
      have hu : upd (rowF σ 13 k) p d i = rowF σ 13 k i := by unfold upd; rw [if_neg (by omega)]
      rw [hu]
      split
      · rename_i hc; show (rowF σ 13 k i).toInt < _; have := hc.1; omega
      · exact ih (by omega)
  have hhigh : ∀ j, agC (psS σ k d r) k d (p + 1 + j) = (r, d) := by
    intro j
    induction j with
    | zero =>
      show agC (psS σ k d r) k d (p + 1) = _
      unfold agC
      rw [r13, r14]
      have e1 : upd (rowF σ 13 k) p d p = d := by unfold upd; rw [if_pos rfl]
      have e2 : upd (rowF σ 14 k) p r p = r := by unfold upd; rw [if_pos rfl]
      rw [e1, e2]
      exact if_pos ⟨Int.le_refl _, hlow p (Nat.le_refl _)⟩
    | succ j ih =>
      show agC (psS σ k d r) k d (p + 1 + j + 1) = _
      unfold agC
      rw [ih]
      exact if_neg (fun q => by have := q.1; have h2 : d.toInt < _ := q.2; omega)
  unfold acF
  obtain ⟨j, hj⟩ : ∃ j, stN (psS σ k d r) k = p + 1 + j := ⟨stN (psS σ k d r) k - (p + 1), by omega⟩
  rw [hj, hhigh]
theorem ps_ok {σ : St} {k : Nat} {d r : Int32} (hL : okL σ k) (hp : plF σ k d < 6) (hr : 1 ≤ r.toInt ∧ r.toInt ≤ 99999) {q : Nat} (hs : stOk σ q) : stOk (psS σ k d r) q := by
  unfold stOk at *
  by_cases hq : q = k
  · subst hq
    obtain ⟨p1, p2, p3, p4, p5, p6, p7⟩ := ps_int (r := r) hL hp
    rw [(ps_rows (σ := σ) (k := q) (d := d) (r := r) hp).2]
    intro i hi
    unfold upd
    split
    · exact hr
    · rename_i hne
      refine hs i ?_
      by_cases h : plF σ q d < stN σ q
      · have := p6 h; omega
      · have := p7 (by omega); omega
  · obtain ⟨e1, e2⟩ := ps_other (σ := σ) (k := k) (d := d) (r := r) hq
    rw [e1, e2]
    exact hs
/-- the rent's next change -/
theorem fc_spec {σ : St} {k : Nat} {b : Int32} : ∀ (f : Nat) (t : Int32), 0 ≤ t.toInt → 7200 ≤ t.toInt + f → (fcG σ k b f t = -1 ∧ ∀ z : Int32, t.toInt ≤ z.toInt → z.toInt < 7200 → rmF σ k z = b) ∨ (t.toInt ≤ (fcG σ k b f t).toInt ∧ (fcG σ k b f t).toInt < 7200 ∧ rmF σ k (fcG σ k b f t) ≠ b ∧ ∀ z : Int32, t.toInt ≤ z.toInt → z.toInt < (fcG σ k b f t).toInt → rmF σ k z = b)
  | 0, t, h0, h1 => Or.inl ⟨rfl, fun z h2 h3 => by omega⟩
  | f + 1, t, h0, h1 => by
    unfold fcG
    by_cases h : t.toInt < 7200
    · rw [if_pos h]
      by_cases hc : rmF σ k t = b
      · rw [if_pos hc]
        have e := i_add1 (x := t) (by omega)
        rcases fc_spec (σ := σ) (k := k) (b := b) f (t + 1) (by omega) (by omega) with ⟨e1, h2⟩ | ⟨e1, e2, e3, h2⟩
        · refine Or.inl ⟨e1, fun z h3 h4 => ?_⟩
          by_cases hz : z.toInt = t.toInt
          · rw [i_ext hz]; exact hc
          · exact h2 z (by omega) h4
        · refine Or.inr ⟨by omega, e2, e3, fun z h3 h4 => ?_⟩
          by_cases hz : z.toInt = t.toInt
          · rw [i_ext hz]; exact hc
          · exact h2 z (by omega) h4
      · rw [if_neg hc]
        exact Or.inr ⟨Int.le_refl _, h, hc, fun z h3 h4 => by omega⟩
    · rw [if_neg h]
      exact Or.inl ⟨rfl, fun z h2 h3 => by omega⟩
abbrev nxF (σ : St) (k : Nat) (d : Int32) : Int32 := ncG σ k 7200 (ntF σ k d)
theorem nx_spec {σ : St} {n k : Nat} {d : Int32} (hI : Inv σ n) (hk : k < n) (hd : 0 ≤ d.toInt ∧ d.toInt < 7200) : (nxF σ k d = -1 ∧ ∀ z : Int32, d.toInt ≤ z.toInt → z.toInt < 7200 → rfF σ k z = rfF σ k d) ∨ (d.toInt < (nxF σ k d).toInt ∧ (nxF σ k d).toInt < 7200 ∧ rfF σ k (nxF σ k d) ≠ rfF σ k d ∧ ∀ z : Int32, d.toInt ≤ z.toInt → z.toInt < (nxF σ k d).toInt → rfF σ k z = rfF σ k d) := by
  have h7 := nt_le (σ := σ) (k := k) (d := d)
  have h8 := nt_gt (σ := σ) (k := k) (d := d) hd.2
  have hz : ∀ z : Int32, d.toInt ≤ z.toInt → z.toInt < (ntF σ k d).toInt → rfF σ k z = rfF σ k d := fun z h1 h2 => rf_const (hI.2.2.2.1 k hk) h1 h2
  have hr := rf_eq hI hk
  show (ncG σ k 7200 (ntF σ k d) = -1 ∧ _) ∨ (_ < (ncG σ k 7200 (ntF σ k d)).toInt ∧ (ncG σ k 7200 (ntF σ k d)).toInt < _ ∧ rfF σ k (ncG σ k 7200 (ntF σ k d)) ≠ _ ∧ ∀ z : Int32, _ → z.toInt < (ncG σ k 7200 (ntF σ k d)).toInt → _)
  rw [nc_fc hI hk 7200 (ntF σ k d) d hd.1 hd.2 rfl rfl (by omega)]
  rw [← hr d]
  rcases fc_spec (σ := σ) (k := k) (b := rfF σ k d) 7200 (ntF σ k d) (by omega) (by omega) with ⟨e1, h2⟩ | ⟨e1, e2, e3, h2⟩
  · refine Or.inl ⟨e1, fun z h3 h4 => ?_⟩
    by_cases h5 : z.toInt < (ntF σ k d).toInt
    · exact hz z h3 h5
    · rw [hr z]; exact h2 z (by omega) h4
  · refine Or.inr ⟨by omega, e2, by rw [hr (fcG σ k (rfF σ k d) 7200 (ntF σ k d))]; exact e3, fun z h3 h4 => ?_⟩
    by_cases h5 : z.toInt < (ntF σ k d).toInt
    · exact hz z h3 h5
    · rw [hr z]; exact h2 z (by omega) h4
/-- the day ahead of a change, and its bound -/
theorem nx_ok {σ : St} {n k : Nat} {d : Int32} (hI : Inv σ n) (hk : k < n) (hd : 0 ≤ d.toInt ∧ d.toInt < 7200) (hne : ¬ nxF σ k d = -1) : d.toInt < (nxF σ k d).toInt ∧ (nxF σ k d).toInt < 7200 ∧ (nxF σ k d - 1).toInt = (nxF σ k d).toInt - 1 ∧ rfF σ k (nxF σ k d) ≠ rfF σ k (nxF σ k d - 1) ∧ (nxF σ k d).toInt ≤ (σ 5 k).toInt := by
  rcases nx_spec hI hk hd with ⟨e, -⟩ | ⟨h1, h2, h3, h4⟩
  · exact absurd e hne
  · generalize nxF σ k d = x at *
    have e : (x - 1).toInt = x.toInt - 1 := i_sub1 (by omega)
    have e2 := h4 (x - 1) (by omega) (by omega)
    refine ⟨h1, h2, e, by rw [e2]; exact h3, Int.not_lt.mp (fun hc => ?_)⟩
    have z1 : rfF σ k x = 0 := rf_no (fun q => by have := q.1; unfold rOn at this; omega)
    have z2 : rfF σ k (x - 1) = 0 := rf_no (fun q => by have := q.1; unfold rOn at this; omega)
    exact h3 (by rw [z1, ← e2, z2])
theorem nx_run {σ : St} {n k : Nat} {d z : Int32} (hI : Inv σ n) (hk : k < n) (hd : 0 ≤ d.toInt ∧ d.toInt < 7200) (h1 : d.toInt ≤ z.toInt) (h2 : z.toInt < 7200) (h3 : nxF σ k d = -1 ∨ z.toInt < (nxF σ k d).toInt) : rfF σ k z = rfF σ k d := by
  rcases nx_spec hI hk hd with ⟨e, h⟩ | ⟨g1, g2, g3, g4⟩
  · exact h z h1 h2
  · rcases h3 with e | e
    · rw [e] at g1; exact absurd g1 (by have h5 : (-1 : Int32).toInt = -1 := rfl; omega)
    · exact g4 z h1 e
/-- bills -/
theorem nI_ad {x : Int32} {a : Nat} : ∀ b, x + nI (a + b) = x + nI a + nI b
  | 0 => by rw [nI_0, Int32.add_zero]; rfl
  | b + 1 => by
    rw [← Nat.add_assoc, ← nI_1, ← nI_1, ← Int32.add_assoc, nI_ad b, Int32.add_assoc]
theorem bs_split {σ : St} {k a : Nat} {f : Int32} : ∀ c, bsP σ k f (a + c) = bsP σ k f a + bsP σ k (f + nI a) c
  | 0 => by show _ = _ + (0 : Int64); rw [Int64.add_zero]; rfl
  | c + 1 => by
    show bsP σ k f (a + c) + (bfF σ k (f + nI (a + c))).toInt64 = _ + (bsP σ k (f + nI a) c + (bfF σ k (f + nI a + nI c)).toInt64)
    rw [bs_split c, nI_ad, Int64.add_assoc]
theorem bs_one {σ : St} {k : Nat} {m : Int32} : bsP σ k m 1 = (bfF σ k m).toInt64 := by
  show (0 : Int64) + (bfF σ k (m + nI 0)).toInt64 = _
  rw [nI_0, Int32.add_zero, Int64.zero_add]
theorem bs_all {σ : St} {k : Nat} {m : Int32} (hm : 0 ≤ m.toInt ∧ m.toInt < 240) : bsP σ k 0 240 = bsP σ k 0 (m.toInt - 0 + 1).toNat + bsP σ k m (239 - m.toInt + 1).toNat - (bfF σ k m).toInt64 := by
  obtain ⟨M, hM, rfl⟩ : ∃ M : Nat, M < 240 ∧ m = nI M := ⟨m.toInt.toNat, by omega, i_eqnI (by omega)⟩
  have e := i_nI (k := M) (by omega)
  have e0 : (0 : Int32) + nI M = nI M := Int32.zero_add _
  rw [e, show ((M : Int) - 0 + 1).toNat = M + 1 by omega, show (239 - (M : Int) + 1).toNat = 240 - M by omega]
  have h1 := bs_split (σ := σ) (k := k) (a := M) (f := 0) (240 - M)
  rw [show M + (240 - M) = 240 by omega, e0] at h1
  have h2 := bs_split (σ := σ) (k := k) (a := M) (f := 0) 1
  rw [e0, bs_one] at h2
  rw [h1, h2, Int64.sub_eq_add_neg, Int64.add_assoc, Int64.add_assoc, Int64.add_comm _ (-_), ← Int64.add_assoc (bfF σ k (nI M)).toInt64, ← Int64.sub_eq_add_neg, Int64.sub_self, Int64.zero_add]
theorem bill_eq {σ : St} {n k : Nat} {m : Int32} (hI : Inv σ n) (hk : k < n) (hm : 0 ≤ m.toInt ∧ m.toInt < 240) : bfF σ k m = bdP σ k m 30 / 30 := by
  rw [bf_eq hI hk hm, bd_eq' hI hk]
/-- whose day it is -/
theorem ln_iff {σ : St} {n k : Nat} {d : Int32} (hI : Inv σ n) (hk : k < n) : (lnG σ n (σ 3 k) d 24 0).toInt = (k : Int) ↔ rOn σ k d := by
  have hn := hI.1
  have h2 : ∀ f i, i + f = 24 → (lnG σ n (σ 3 k) d f i = -1 ∧ (∀ q, i ≤ q → q < n → ¬ ((σ 3 q).toInt = (σ 3 k).toInt ∧ rOn σ q d))) ∨ ∃ q, i ≤ q ∧ q < n ∧ ((σ 3 q).toInt = (σ 3 k).toInt ∧ rOn σ q d) ∧ lnG σ n (σ 3 k) d f i = nI q := by
    intro f
    induction f with
    | zero => intro i hi; exact Or.inl ⟨rfl, fun q h h' => absurd h (by omega)⟩
    | succ f ih =>
      intro i hi
      unfold lnG
      by_cases h : (i < n ∧ (σ 3 i).toInt = (σ 3 k).toInt) ∧ rOn σ i d
      · rw [if_pos h]; exact Or.inr ⟨i, Nat.le_refl _, h.1.1, ⟨h.1.2, h.2⟩, rfl⟩
      · rw [if_neg h]
        rcases ih (i + 1) (by omega) with ⟨e, h2⟩ | ⟨q, h2, h3, h4, e⟩
        · refine Or.inl ⟨e, fun q hq hqn hh => ?_⟩
          by_cases hqi : q = i
          · subst hqi; exact h ⟨⟨hqn, hh.1⟩, hh.2⟩
          · exact h2 q (by omega) hqn hh
        · exact Or.inr ⟨q, by omega, h3, h4, e⟩
  rcases h2 24 0 rfl with ⟨e, h⟩ | ⟨q, h1, h3, h4, e⟩
  · rw [e]
    have hm : (-1 : Int32).toInt = -1 := rfl
    exact ⟨fun hh => by omega, fun hh => absurd ⟨rfl, hh⟩ (h k (Nat.zero_le _) hk)⟩
  · rw [e, i_nI (by omega)]
    constructor
    · intro hh
      have : q = k := by omega
      subst this; exact h4.2
    · intro hh
      by_cases hq : q = k
      · rw [hq]
      · have hj := hI.2.2.2.2.2 q k h3 hk hq h4.1
        have w1 := h4.2
        unfold rOn at w1 hh
        omega

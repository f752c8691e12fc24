/-! rents and bills -/
theorem ag_eq {σ : St} {k : Nat} {d : Int32} (hL : okL σ k) : acF σ k d = amF σ k d := by
  have h9 := hL.2.2.2.2.2.2.2.2
  have h4 := hL.2.1
  have h : ∀ i, i ≤ stN σ k → agC σ k d i = agM σ k d i ∨ (agC σ k d i = (σ 6 k, σ 4 k) ∧ agM σ k d i = (σ 6 k, -1)) := by
    intro i
    induction i with
    | zero => intro _; exact Or.inr ⟨rfl, rfl⟩
    | succ i ih =>
      intro hi
      have hr := h9 i (by omega)
      unfold agC agM
      rcases ih (by omega) with e | ⟨e1, e2⟩
      · rw [e]; exact Or.inl rfl
      · rw [e1, e2]
        have hm : (-1 : Int32).toInt = -1 := rfl
        by_cases h1 : (rowF σ 13 k i).toInt ≤ d.toInt
        · rw [if_pos ⟨h1, hr.1⟩, if_pos ⟨h1, by show (-1 : Int32).toInt < _; omega⟩]; exact Or.inl rfl
        · rw [if_neg (fun q => h1 q.1), if_neg (fun q => h1 q.1)]; exact Or.inr ⟨rfl, rfl⟩
  unfold acF amF
  rcases h (stN σ k) (Nat.le_refl _) with e | ⟨e1, e2⟩
  · rw [e]
  · rw [e1, e2]
/-- how many reviews have come by d -/
theorem rv_int {σ : St} {k : Nat} {d : Int32} (hL : okL σ k) (h8 : 0 < (σ 8 k).toInt) (hd : (σ 4 k).toInt ≤ d.toInt ∧ d.toInt < 7300) : (rvF σ k d).toInt = (d.toInt - (σ 4 k).toInt) / (σ 8 k).toInt := by
  obtain ⟨-, ⟨h1, h2, h3⟩, -⟩ := hL
  unfold rvF
  by_cases h : (σ 4 k).toInt < d.toInt
  · rw [if_pos ⟨h8, h⟩, i_div (by omega), i_sub (by omega)]
    exact Int.tdiv_eq_ediv_of_nonneg (by omega)
  · rw [if_neg (fun q => h q.2), show d.toInt - (σ 4 k).toInt = 0 by omega, Int.zero_ediv]; rfl
theorem hi_eq {σ : St} {n k : Nat} {d : Int32} (hI : Inv σ n) (hk : k < n) (hd : (σ 4 k).toInt ≤ d.toInt ∧ d.toInt < 7200) : hxF σ k d = gmF σ k d := by
  have hL := hI.2.2.2.1 k hk
  unfold hxF gmF
  have h4 := hL.2.1
  have h8 := hL.2.2.2.2.1
  have h : ∀ i, i ≤ (rvF σ k d).toInt.toNat → hiP σ k i = giP σ k i := by
    intro i
    induction i with
    | zero => intro _; rfl
    | succ i ih =>
      intro hi
      unfold hiP giP
      rw [ih (by omega)]
      have h8p : 0 < (σ 8 k).toInt := by
        by_cases h0 : 0 < (σ 8 k).toInt
        · exact h0
        · exfalso
          have : rvF σ k d = 0 := if_neg (fun q => h0 q.1)
          rw [this] at hi
          exact absurd hi (by show ¬ i + 1 ≤ 0; omega)
      have hrv := rv_int hL h8p (d := d) (by omega)
      have hb := (rv_b (d := d) hL (by omega))
      have hmul : ((i + 1 : Nat) : Int) * (σ 8 k).toInt ≤ d.toInt - (σ 4 k).toInt := by
        have h1 : ((i + 1 : Nat) : Int) ≤ (d.toInt - (σ 4 k).toInt) / (σ 8 k).toInt := by rw [← hrv]; omega
        exact Int.le_trans (Int.mul_le_mul_of_nonneg_right h1 (by omega)) (Int.ediv_mul_le _ (by omega))
      have hm0 : 0 ≤ ((i + 1 : Nat) : Int) * (σ 8 k).toInt := Int.mul_nonneg (by omega) (by omega)
      have e1 : (nI (i + 1) * σ 8 k).toInt = ((i + 1 : Nat) : Int) * (σ 8 k).toInt := i_mulc' (by omega) (by omega)
      have e2 : (σ 4 k + nI (i + 1) * σ 8 k).toInt = (σ 4 k).toInt + ((i + 1 : Nat) : Int) * (σ 8 k).toInt := by rw [i_add (by rw [e1]; omega), e1]
      rw [show vaF (σ 1) 240 ((σ 4 k + nI (i + 1) * σ 8 k) / 30) = σ 1 (ix ((σ 4 k + nI (i + 1) * σ 8 k) / 30)) from if_pos (d30 (by rw [e2]; omega) (by rw [e2]; omega))]
  exact h _ (Nat.le_refl _)
theorem rf_eq {σ : St} {n k : Nat} (hI : Inv σ n) (hk : k < n) (d : Int32) : rfF σ k d = rmF σ k d := by
  have hL := hI.2.2.2.1 k hk
  have hX := ok_ix hL
  unfold rfF rmF
  by_cases h : rOn σ k d ∧ ¬ fOn σ k d
  · rw [if_pos h, if_pos h, show vaF (σ 1) 240 (σ 4 k / 30) = σ 1 (ix (σ 4 k / 30)) from if_pos hX, ag_eq hL]
    have h4 := hL.2.1
    have h1 := h.1
    unfold rOn at h1
    rw [hi_eq hI hk ⟨h1.1, by omega⟩, if_pos (by have := (hI.2.2.1 (ix (σ 4 k / 30)) (ix_lt hX)).1; omega)]
  · rw [if_neg h, if_neg h]
theorem bd_eq {σ : St} {n k : Nat} {m : Int32} (hI : Inv σ n) (hk : k < n) : ∀ i, bdP σ k m i = bmP σ k m i
  | 0 => rfl
  | i + 1 => by
    unfold bdP bmP
    rw [bd_eq hI hk i, rf_eq hI hk, Int32.mul_comm m 30]
theorem bd_eq' {σ : St} {n k : Nat} {m : Int32} (hI : Inv σ n) (hk : k < n) : bdP σ k m 30 / 30 = bmF σ k m := by rw [bd_eq hI hk]
/-! turns: the rent is one from d up to the next turn -/
theorem so_le {d x t : Int32} : (soF d x t).toInt ≤ t.toInt := by unfold soF; split <;> omega
theorem so_np {d x t : Int32} {T : Int} (h : T ≤ (soF d x t).toInt) : ¬ (d.toInt < x.toInt ∧ x.toInt < T) := by
  unfold soF at h
  split at h <;> omega
theorem nt_np {σ : St} {k : Nat} {d : Int32} {T : Int} : ∀ i, T ≤ (ntP σ k d i).toInt → T ≤ 7200 ∧ ¬ (d.toInt < (σ 4 k).toInt ∧ (σ 4 k).toInt < T) ∧ ¬ (d.toInt < (σ 4 k + σ 7 k).toInt ∧ (σ 4 k + σ 7 k).toInt < T) ∧ ¬ (d.toInt < (σ 5 k).toInt ∧ (σ 5 k).toInt < T) ∧ ∀ q, q < i → ¬ (d.toInt < (rowF σ 13 k q).toInt ∧ (rowF σ 13 k q).toInt < T)
  | 0, h => by
    unfold ntP at h
    have h1 := Int.le_trans h so_le
    have h2 := Int.le_trans h1 so_le
    have h3 := Int.le_trans h2 so_le
    have h7 : (7200 : Int32).toInt = 7200 := rfl
    exact ⟨by omega, so_np h2, so_np h1, so_np h, fun q hq => absurd hq (by omega)⟩
  | i + 1, h => by
    unfold ntP at h
    obtain ⟨a1, a2, a3, a4, a5⟩ := nt_np i (Int.le_trans h so_le)
    refine ⟨a1, a2, a3, a4, fun q hq => ?_⟩
    by_cases hqi : q = i
    · subst hqi; exact so_np h
    · exact a5 q (by omega)
theorem ag_c {σ : St} {k : Nat} {d t : Int32} : ∀ i, (∀ q, q < i → ((rowF σ 13 k q).toInt ≤ t.toInt ↔ (rowF σ 13 k q).toInt ≤ d.toInt)) → agC σ k t i = agC σ k d i
  | 0, _ => rfl
  | i + 1, h => by
    unfold agC
    rw [ag_c i (fun q hq => h q (by omega))]
    by_cases h1 : (rowF σ 13 k i).toInt ≤ d.toInt ∧ (agC σ k d i).2.toInt < (rowF σ 13 k i).toInt
    · rw [if_pos h1, if_pos ⟨(h i (by omega)).mpr h1.1, h1.2⟩]
    · rw [if_neg h1, if_neg (fun q => h1 ⟨(h i (by omega)).mp q.1, q.2⟩)]
theorem rf_const {σ : St} {k : Nat} {d t : Int32} (hL : okL σ k) (h1 : d.toInt ≤ t.toInt) (h2 : t.toInt < (ntF σ k d).toInt) : rfF σ k t = rfF σ k d := by
  have hT : (ntF σ k d).toInt ≤ (ntP σ k d (stN σ k)).toInt := by
    unfold ntF; split
    · exact so_le
    · exact Int.le_refl _
  obtain ⟨a1, a2, a3, a4, a5⟩ := nt_np _ hT
  have hL' := hL
  obtain ⟨-, ⟨b1, b2, b3⟩, -, b4, b5, -⟩ := hL'
  by_cases hr : rOn σ k d
  · have hr' := hr
    unfold rOn at hr'
    have hrt : rOn σ k t := ⟨by omega, by omega⟩
    have hf : fOn σ k t ↔ fOn σ k d := by unfold fOn; omega
    have hag : acF σ k t = acF σ k d := by
      unfold acF
      rw [ag_c _ (fun q hq => ?_)]
      have := a5 q hq
      omega
    have hrv : rvF σ k t = rvF σ k d := by
      by_cases h8 : 0 < (σ 8 k).toInt
      · apply i_ext
        have hb := rv_b (d := d) hL (by omega)
        have hd := rv_int hL h8 (d := d) (by omega)
        rw [rv_int hL h8 (d := t) (by omega)]
        have hN : ¬ (d.toInt < (σ 4 k + (rvF σ k d + 1) * σ 8 k).toInt ∧ (σ 4 k + (rvF σ k d + 1) * σ 8 k).toInt < (ntF σ k d).toInt) := by
          have hz : ntF σ k d = soF d (σ 4 k + (rvF σ k d + 1) * σ 8 k) (ntP σ k d (stN σ k)) := if_pos h8
          rw [hz]; exact so_np (Int.le_refl _)
        have c1 : (d.toInt - (σ 4 k).toInt) / (σ 8 k).toInt * (σ 8 k).toInt ≤ d.toInt - (σ 4 k).toInt := Int.ediv_mul_le _ (by omega)
        have c2 : d.toInt - (σ 4 k).toInt < ((d.toInt - (σ 4 k).toInt) / (σ 8 k).toInt + 1) * (σ 8 k).toInt := Int.lt_ediv_add_one_mul_self _ h8
        rw [← hd] at c1 c2
        have c3 : ((rvF σ k d).toInt + 1) * (σ 8 k).toInt = (rvF σ k d).toInt * (σ 8 k).toInt + (σ 8 k).toInt := by rw [Int.add_mul, Int.one_mul]
        have e0 : (rvF σ k d + 1).toInt = (rvF σ k d).toInt + 1 := i_add1 (by omega)
        have hnn : 0 ≤ (rvF σ k d).toInt * (σ 8 k).toInt := Int.mul_nonneg hb.1 (by omega)
        have e1 : ((rvF σ k d + 1) * σ 8 k).toInt = ((rvF σ k d).toInt + 1) * (σ 8 k).toInt := by rw [i_mul (by rw [e0]; omega), e0]
        have e2 : (σ 4 k + (rvF σ k d + 1) * σ 8 k).toInt = (σ 4 k).toInt + ((rvF σ k d).toInt + 1) * (σ 8 k).toInt := by rw [i_add (by rw [e1]; omega), e1]
        rw [e2] at hN
        have u1 : (t.toInt - (σ 4 k).toInt) / (σ 8 k).toInt < (rvF σ k d).toInt + 1 := Int.ediv_lt_of_lt_mul h8 (by omega)
        have u2 : (rvF σ k d).toInt ≤ (t.toInt - (σ 4 k).toInt) / (σ 8 k).toInt := Int.le_ediv_of_mul_le h8 (by omega)
        omega
      · unfold rvF
        rw [if_neg (fun q => h8 q.1), if_neg (fun q => h8 q.1)]
    have hhx : hxF σ k t = hxF σ k d := by unfold hxF; rw [hrv]
    unfold rfF
    rw [hag, hhx]
    by_cases hfd : fOn σ k d
    · rw [if_neg (c := rOn σ k t ∧ ¬ fOn σ k t) (fun q => q.2 (hf.mpr hfd)), if_neg (c := rOn σ k d ∧ ¬ fOn σ k d) (fun q => q.2 hfd)]
    · rw [if_pos (c := rOn σ k t ∧ ¬ fOn σ k t) ⟨hrt, fun q => hfd (hf.mp q)⟩, if_pos (c := rOn σ k d ∧ ¬ fOn σ k d) ⟨hr, hfd⟩]
  · have hrt : ¬ rOn σ k t := by
      unfold rOn at hr ⊢
      omega
    unfold rfF
    rw [if_neg (c := rOn σ k t ∧ ¬ fOn σ k t) (fun q => hrt q.1), if_neg (c := rOn σ k d ∧ ¬ fOn σ k d) (fun q => hr q.1)]
theorem rm_const {σ : St} {n k : Nat} {d t : Int32} (hI : Inv σ n) (hk : k < n) (h1 : d.toInt ≤ t.toInt) (h2 : t.toInt < (ntF σ k d).toInt) : rmF σ k t = rmF σ k d := by
  rw [← rf_eq hI hk, ← rf_eq hI hk]; exact rf_const (hI.2.2.2.1 k hk) h1 h2
/-! the bill by turns is the bill by days -/
theorem bm_run {σ : St} {k j : Nat} {m R : Int32} : ∀ c, (∀ q, j ≤ q → q < j + c → rmF σ k (30 * m + nI q) = R) → bmP σ k m (j + c) = bmP σ k m j + nI c * R
  | 0, _ => by
    show bmP σ k m j = _
    rw [show nI 0 = 0 from rfl, Int32.zero_mul, Int32.add_zero]
  | c + 1, h => by
    show bmP σ k m (j + c) + rmF σ k (30 * m + nI (j + c)) = _
    rw [bm_run c (fun q h1 h2 => h q h1 (by omega)), h (j + c) (by omega) (by omega), ← nI_1, Int32.add_mul, Int32.one_mul, Int32.add_assoc]
theorem bf_eq {σ : St} {n k : Nat} {m : Int32} (hI : Inv σ n) (hk : k < n) (hm : 0 ≤ m.toInt ∧ m.toInt < 240) : bfF σ k m = bmF σ k m := by
  have hL := hI.2.2.2.1 k hk
  have h30 : (30 : Int32).toInt = 30 := rfl
  have eA : (m * 30).toInt = 30 * m.toInt := by rw [i_mul (by rw [h30]; omega), h30]; omega
  have eB : (m * 30 + 30).toInt = 30 * m.toInt + 30 := by rw [i_add (by rw [eA, h30]; omega), eA, h30]
  have eJ : ∀ j, j ≤ 30 → (m * 30 + nI j).toInt = 30 * m.toInt + j := fun j hj => by rw [i_add (by rw [eA, i_nI (by omega)]; omega), eA, i_nI (by omega)]
  have h : ∀ i, ∃ j, j ≤ 30 ∧ (i ≤ j ∨ j = 30) ∧ bfP σ k m i = (m * 30 + nI j, bmP σ k m j) := by
    intro i
    induction i with
    | zero => exact ⟨0, by decide, Or.inl (Nat.le_refl _), by unfold bfP bmP; rw [show nI 0 = 0 from rfl, Int32.add_zero]⟩
    | succ i ih =>
      obtain ⟨j, h1, h2, e⟩ := ih
      unfold bfP
      rw [e]
      simp only
      by_cases hj : j = 30
      · subst hj
        rw [if_neg (by rw [eB, eJ 30 (by decide)]; omega)]
        exact ⟨30, by decide, Or.inr rfl, rfl⟩
      · have ej := eJ j h1
        rw [if_pos (by rw [eB, ej]; omega)]
        have hgt := nt_gt (σ := σ) (k := k) (d := m * 30 + nI j) (by rw [ej]; omega)
        have hN : (mnF (ntF σ k (m * 30 + nI j)) (m * 30 + 30)).toInt ≤ (ntF σ k (m * 30 + nI j)).toInt ∧ (m * 30 + nI j).toInt < (mnF (ntF σ k (m * 30 + nI j)) (m * 30 + 30)).toInt ∧ (mnF (ntF σ k (m * 30 + nI j)) (m * 30 + 30)).toInt ≤ 30 * m.toInt + 30 := by
          rw [i_mn, eB]
          rw [ej] at hgt ⊢
          split <;> omega
        generalize mnF (ntF σ k (m * 30 + nI j)) (m * 30 + 30) = t at hN ⊢
        obtain ⟨n1, n2, n3⟩ := hN
        rw [ej] at n2
        obtain ⟨c, hc⟩ : ∃ c : Nat, t.toInt = 30 * m.toInt + j + c := ⟨(t.toInt - (30 * m.toInt + j)).toNat, by omega⟩
        have et : t = m * 30 + nI (j + c) := i_ext (by rw [eJ _ (by omega)]; omega)
        have ed : t - (m * 30 + nI j) = nI c := i_ext (by rw [i_sub (by rw [ej]; omega), ej, i_nI (by omega)]; omega)
        refine ⟨j + c, by omega, by omega, ?_⟩
        rw [ed, et, bm_run (R := rfF σ k (m * 30 + nI j)) c (fun q h1 h2 => ?_)]
        rw [Int32.mul_comm 30 m, ← rf_eq hI hk]
        exact rf_const hL (by rw [ej, eJ q (by omega)]; omega) (by rw [eJ q (by omega)]; omega)
  obtain ⟨j, h1, h2, e⟩ := h 30
  unfold bfF bmF
  rw [e]
  rw [show j = 30 by omega]
theorem bs_eq {σ : St} {n k : Nat} {f : Int32} (hI : Inv σ n) (hk : k < n) (hf : 0 ≤ f.toInt) : ∀ i : Nat, f.toInt + i ≤ 240 → bsP σ k f i = bmS σ k f i
  | 0, _ => rfl
  | i + 1, h => by
    unfold bsP bmS
    have e : (f + nI i).toInt = f.toInt + i := by rw [i_add (by rw [i_nI (by omega)]; omega), i_nI (by omega)]
    rw [bs_eq hI hk hf i (by omega), bf_eq hI hk (by rw [e]; omega)]
/-! the next change of the rent -/
/-- the first day from t on whose rent is not b -/
def fcG (σ : St) (k : Nat) (b : Int32) : Nat → Int32 → Int32
  | 0, _ => -1
  | f + 1, t => if t.toInt < 7200 then (if rmF σ k t = b then fcG σ k b f (t + 1) else t) else -1
theorem fc_more {σ : St} {k : Nat} {b : Int32} : ∀ (f g : Nat) (t : Int32), 7200 ≤ t.toInt + f → 7200 ≤ t.toInt + g → 0 ≤ t.toInt → fcG σ k b f t = fcG σ k b g t
  | 0, 0, _, _, _, _ => rfl
  | 0, g + 1, t, h1, _, h0 => by unfold fcG; rw [if_neg (by omega)]
  | f + 1, 0, t, _, h2, h0 => by unfold fcG; rw [if_neg (by omega)]
  | f + 1, g + 1, t, h1, h2, h0 => by
    unfold fcG
    by_cases h : t.toInt < 7200
    · rw [if_pos h, if_pos h]
      have e := i_add1 (x := t) (by omega)
      rw [fc_more f g (t + 1) (by omega) (by omega) (by omega)]
    · rw [if_neg h, if_neg h]
/-- a run of days with the rent b is passed over -/
theorem fc_skip {σ : St} {k : Nat} {b : Int32} : ∀ (c f : Nat) (t u : Int32), 0 ≤ t.toInt → t.toInt ≤ 7200 → u.toInt = t.toInt + c → u.toInt ≤ 7200 → (∀ z : Int32, t.toInt ≤ z.toInt → z.toInt < u.toInt → rmF σ k z = b) → 7200 ≤ t.toInt + f → fcG σ k b f t = fcG σ k b f u
  | 0, f, t, u, _, _, h, _, _, _ => by rw [show u = t from i_ext (by omega)]
  | c + 1, 0, t, u, h0, h1, h, h2, h3, h4 => by omega
  | c + 1, f + 1, t, u, h0, h1, h, h2, h3, h4 => by
    have e := i_add1 (x := t) (by omega)
    have hs : fcG σ k b (f + 1) t = fcG σ k b f (t + 1) := by
      show (if _ then (if _ then _ else _) else _) = _
      rw [if_pos (by omega), if_pos (h3 t (Int.le_refl _) (by omega))]
    rw [hs, fc_skip c f (t + 1) u (by omega) (by omega) (by omega) h2 (fun z z1 z2 => h3 z (by omega) z2) (by omega)]
    exact fc_more _ _ _ (by omega) (by omega) (by omega)
theorem nt_le {σ : St} {k : Nat} {d : Int32} : (ntF σ k d).toInt ≤ 7200 := by
  have hT : (ntF σ k d).toInt ≤ (ntP σ k d (stN σ k)).toInt := by
    unfold ntF; split
    · exact so_le
    · exact Int.le_refl _
  exact (nt_np _ hT).1
theorem nc_fc {σ : St} {n k : Nat} {b : Int32} (hI : Inv σ n) (hk : k < n) : ∀ (f : Nat) (t g : Int32), 0 ≤ g.toInt → g.toInt < 7200 → t = ntF σ k g → rmF σ k g = b → 7200 ≤ t.toInt + f → ncG σ k f t = fcG σ k b 7200 t
  | 0, t, g, h0, h1, ht, hb, hf => by
    have h7 := nt_le (σ := σ) (k := k) (d := g)
    have h8 := nt_gt (σ := σ) (k := k) (d := g) h1
    unfold ncG fcG
    rw [if_neg (by omega)]
  | f + 1, t, g, h0, h1, ht, hb, hf => by
    have h7 := nt_le (σ := σ) (k := k) (d := g)
    have h8 := nt_gt (σ := σ) (k := k) (d := g) h1
    rw [← ht] at h7 h8
    unfold ncG
    by_cases h : t.toInt < 7200
    · rw [if_pos h]
      have e1 : (t - 1).toInt = t.toInt - 1 := i_sub1 (by omega)
      have hp : rmF σ k (t - 1) = b := by rw [← hb]; exact rm_const hI hk (by omega) (by rw [← ht]; omega)
      rw [rf_eq hI hk, rf_eq hI hk, hp]
      by_cases hc : (rmF σ k t).toInt = b.toInt
      · rw [if_pos hc]
        have hc' : rmF σ k t = b := i_ext hc
        have h9 := nt_gt (σ := σ) (k := k) (d := t) h
        have h10 := nt_le (σ := σ) (k := k) (d := t)
        rw [nc_fc hI hk f (ntF σ k t) t (by omega) h rfl hc' (by omega)]
        exact (fc_skip ((ntF σ k t).toInt - t.toInt).toNat 7200 t (ntF σ k t) (by omega) (by omega) (by omega) h10 (fun z z1 z2 => (rm_const hI hk z1 z2).trans hc') (by omega)).symm
      · rw [if_neg hc]
        show _ = (if _ then (if _ then _ else _) else _)
        rw [if_pos h, if_neg (fun q => hc (by rw [q]))]
    · rw [if_neg h]
      show _ = (if _ then (if _ then _ else _) else _)
      rw [if_neg h]
theorem nm_fc {σ : St} {n k : Nat} {b : Int32} (hI : Inv σ n) (hk : k < n) : ∀ (f : Nat) (t : Int32), 0 ≤ t.toInt → (((σ 5 k).toInt < t.toInt → b = 0)) → 7200 ≤ t.toInt + f → nmG σ k b f t = fcG σ k b f t
  | 0, t, h0, hb, hf => rfl
  | f + 1, t, h0, hb, hf => by
    unfold nmG
    have hz : ∀ z : Int32, (σ 5 k).toInt ≤ z.toInt → rmF σ k z = 0 := fun z hz => if_neg (fun q => by have := q.1; unfold rOn at this; omega)
    by_cases h : t.toInt < 7200
    · by_cases ht : t.toInt ≤ (σ 5 k).toInt
      · rw [if_pos ⟨h, ht⟩]
        show _ = (if _ then (if _ then _ else _) else _)
        rw [if_pos h]
        have e := i_add1 (x := t) (by omega)
        by_cases hc : rmF σ k t = b
        · rw [if_pos (by rw [hc]), if_pos hc]
          exact nm_fc hI hk f (t + 1) (by omega) (fun q => by rw [← hc]; exact hz t (by omega)) (by omega)
        · rw [if_neg (fun q => hc (i_ext q)), if_neg hc]
      · rw [if_neg (fun q => ht q.2)]
        have hb0 := hb (by omega)
        rw [fc_skip (7200 - t.toInt).toNat (f + 1) t 7200 h0 (by omega) (by show (7200 : Int) = _; omega) (by decide) (fun z z1 _ => by rw [hb0]; exact hz z (by omega)) (by omega)]
        rfl
    · rw [if_neg (fun q => h q.1)]
      show _ = (if _ then (if _ then _ else _) else _)
      rw [if_neg h]
theorem nc_eq {σ : St} {n k : Nat} {d : Int32} (hI : Inv σ n) (hk : k < n) (hd : 0 ≤ d.toInt ∧ d.toInt < 7200) : ncG σ k 7200 (ntF σ k d) = nmG σ k (rmF σ k d) 7300 (d + 1) := by
  have h7 := nt_le (σ := σ) (k := k) (d := d)
  have h8 := nt_gt (σ := σ) (k := k) (d := d) hd.2
  have e := i_add1 (x := d) (by omega)
  have hL := hI.2.2.2.1 k hk
  rw [nc_fc hI hk 7200 (ntF σ k d) d hd.1 hd.2 rfl rfl (by omega), nm_fc (b := rmF σ k d) hI hk 7300 (d + 1) (by omega) (fun q => by unfold rmF; exact if_neg (fun w => by have := w.1; unfold rOn at this; omega)) (by omega)]
  rw [fc_more 7200 7300 (ntF σ k d) (by omega) (by omega) (by omega)]
  exact (fc_skip ((ntF σ k d).toInt - (d.toInt + 1)).toNat 7300 (d + 1) (ntF σ k d) (by omega) (by omega) (by omega) h7 (fun z z1 z2 => rm_const hI hk (by omega) z2) (by omega)).symm


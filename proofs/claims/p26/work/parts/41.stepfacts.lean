/-! steps and terms, as the law asks of them -/
theorem pl_6 {σ : St} {k : Nat} {d : Int32} (hL : okL σ k) (h : ¬ (σ 12 k).toInt = 6) : plF σ k d < 6 := by
  have hS : okS σ k := okL_s hL
  have h1 := hS.1
  have h2 := hS.2
  have hz : plF σ k d ≤ stN σ k := by have hz := plG_le' (σ := σ) (k := k) (d := d) (stN σ k) 0; rw [Nat.zero_add] at hz; exact hz
  have h6 : stN σ k < 6 := by unfold stN; omega
  omega
theorem step_rent {σ : St} {n k : Nat} {d r : Int32} (hI : Inv σ n) (hk : k < n) (hs : stOk σ k) (hp : plF σ k d < 6) (hr : 1 ≤ r.toInt ∧ r.toInt ≤ 99999) (hI2 : Inv (psS σ k d r) n) (hd : (σ 4 k).toInt < d.toInt ∧ d.toInt < (σ 5 k).toInt) (hf : (σ 4 k + σ 7 k).toInt ≤ d.toInt) : r.toInt ≤ (rfF (psS σ k d r) k d).toInt := by
  have hL := hI.2.2.2.1 k hk
  have e4 : psS σ k d r 4 k = σ 4 k := ps_keep ⟨by decide, by decide, Or.inl (by decide)⟩
  have e5 : psS σ k d r 5 k = σ 5 k := ps_keep ⟨by decide, by decide, Or.inl (by decide)⟩
  have e7 : psS σ k d r 7 k = σ 7 k := ps_keep ⟨by decide, by decide, Or.inl (by decide)⟩
  have h := (rf_int (d := d) hI2 hk (ps_ok hL hp hr hs) ⟨by unfold rOn; rw [e4, e5]; omega, by unfold fOn; rw [e4, e7]; omega⟩).1
  rw [ps_ag hL hp hd.1] at h
  exact h
theorem terms_rent {σ : St} {n k : Nat} {f v : Int32} (hk : k < n) (hs : stOk σ k) (hI2 : Inv (us (us σ 7 k f) 8 k v) n) : rfF (us (us σ 7 k f) 8 k v) k (σ 4 k) = if 0 < f.toInt then 0 else σ 6 k := by
  have h := rf_from hI2 hk (st_us ⟨by decide, by decide⟩ (st_us ⟨by decide, by decide⟩ hs))
  have e4 : us (us σ 7 k f) 8 k v 4 k = σ 4 k := by rw [us_ne (Or.inl (by decide)), us_ne (Or.inl (by decide))]
  have e6 : us (us σ 7 k f) 8 k v 6 k = σ 6 k := by rw [us_ne (Or.inl (by decide)), us_ne (Or.inl (by decide))]
  have e7 : us (us σ 7 k f) 8 k v 7 k = f := by rw [us_ne (Or.inl (by decide)), us_eq]
  rw [e4, e6, e7] at h
  exact h
theorem inv_7 {σ : St} {n k : Nat} {f : Int32} (hI : Inv σ n) (hk : k < n) (hf : 0 ≤ f.toInt ∧ f.toInt ≤ 720) : Inv (us σ 7 k f) n := inv_us hI hk ⟨by decide, by decide, by decide⟩ (okL_7 (hI.2.2.2.1 k hk) hf) (fun q => absurd q (by decide))
theorem inv_9 {σ : St} {n k : Nat} {f : Int32} (hI : Inv σ n) (hk : k < n) (hf : -1 ≤ f.toInt ∧ f.toInt ≤ 999999) : Inv (us σ 9 k f) n := inv_us hI hk ⟨by decide, by decide, by decide⟩ (okL_9 (hI.2.2.2.1 k hk) hf) (fun q => absurd q (by decide))

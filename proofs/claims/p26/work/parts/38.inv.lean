/-! what the law's rows hold of the roll -/
theorem us_at {σ : St} {a i b q : Nat} {x : Int32} : us σ a i x b q = if b = a ∧ q = i then x else σ b q := by
  unfold us upd
  by_cases h : b = a
  · by_cases h2 : q = i
    · rw [if_pos h, if_pos h2, if_pos ⟨h, h2⟩]
    · rw [if_pos h, if_neg h2, if_neg (fun z => h2 z.2), h]
  · rw [if_neg h, if_neg (fun z => h z.1)]
def RwL (σ τ : St) (k : Nat) : Prop := τ 0 k = σ 3 k ∧ τ 0 (12 + k) = σ 4 k ∧ τ 0 (24 + k) = σ 5 k ∧ τ 0 (36 + k) = σ 6 k ∧ τ 0 (48 + k) = σ 9 k ∧ τ 2 k = σ 11 k ∧ τ 3 k = σ 7 k ∧ τ 3 (12 + k) = σ 12 k ∧ τ 3 (24 + k) = σ 8 k
def Zr (τ : St) (k : Nat) : Prop := τ 2 k = 0 ∧ τ 3 k = 0 ∧ τ 3 (12 + k) = 0 ∧ τ 3 (24 + k) = 0
def LI (σ : St) (n : Nat) (τ : St) : Prop := Inv σ n ∧ n ≤ 12 ∧ τ 1 0 = nI n ∧ (∀ u, u < 6 → τ 1 (1 + u) = σ 0 u) ∧ (∀ k, k < n → RwL σ τ k) ∧ (∀ k, n ≤ k → k < 12 → Zr τ k) ∧ (∀ k, k < n → stOk σ k ∧ 0 ≤ (σ 11 k).toInt ∧ (σ 11 k).toInt ≤ 59939406) ∧ ∀ y, y < 20 → 0 ≤ (σ 2 y).toInt ∧ (σ 2 y).toInt ≤ 999999
theorem st_us {σ : St} {a i q : Nat} {x : Int32} (h : a ≠ 12 ∧ a ≠ 14) (hs : stOk σ q) : stOk (us σ a i x) q := by
  unfold stOk stN at *
  rw [rowF_ne (Or.inl h.2), us_ne (Or.inl (fun e => h.1 e.symm))]
  exact hs
theorem li_area {σ τ : St} {n u : Nat} {x : Int32} (h : LI σ n τ) (hu : u < 6) (hx : 0 ≤ x.toInt ∧ x.toInt ≤ 999) : LI (us σ 0 u x) n (us τ 1 (1 + u) x) := by
  obtain ⟨h1, h2, h3, h4, h5, h6, h7, h8⟩ := h
  refine ⟨inv_t h1 (by decide) (fun _ => hx) (fun q => absurd q (by decide)), h2, ?_, fun q hq => ?_, fun k hk => ?_, fun k k1 k2 => ?_, fun k hk => ?_, fun y hy => ?_⟩
  · rw [us_ne (by omega)]; exact h3
  · have := h4 q hq
    simp only [us_at, true_and, false_and, ↓reduceIte]
    (repeat' split) <;> first | rfl | assumption | (exfalso; omega)
  · obtain ⟨r1, r2, r3, r4, r5, r6, r7, r8, r9⟩ := h5 k hk
    unfold RwL
    simp only [us_at, true_and, false_and, ↓reduceIte]
    refine ⟨?_, ?_, ?_, ?_, ?_, ?_, ?_, ?_, ?_⟩ <;> (repeat' split) <;> first | rfl | assumption | (exfalso; omega)
  · obtain ⟨z1, z2, z3, z4⟩ := h6 k k1 k2
    unfold Zr
    simp only [us_at, true_and, false_and, ↓reduceIte]
    refine ⟨?_, ?_, ?_, ?_⟩ <;> (repeat' split) <;> first | rfl | assumption | (exfalso; omega)
  · obtain ⟨s1, s2, s3⟩ := h7 k hk
    rw [us_ne (b := 11) (by omega)]
    exact ⟨st_us ⟨by decide, by decide⟩ s1, s2, s3⟩
  · rw [us_ne (by omega)]; exact h8 y hy
theorem li_index {σ τ : St} {n u : Nat} {x : Int32} (h : LI σ n τ) (hx : 10 ≤ x.toInt ∧ x.toInt ≤ 999) : LI (us σ 1 u x) n τ := by
  obtain ⟨h1, h2, h3, h4, h5, h6, h7, h8⟩ := h
  refine ⟨inv_t h1 (by decide) (fun q => absurd q (by decide)) (fun _ => hx), h2, h3, fun q hq => ?_, fun k hk => ?_, h6, fun k hk => ?_, fun y hy => ?_⟩
  · rw [us_ne (by omega)]; exact h4 q hq
  · obtain ⟨r1, r2, r3, r4, r5, r6, r7, r8, r9⟩ := h5 k hk
    unfold RwL
    simp only [us_at, true_and, false_and, ↓reduceIte]
    refine ⟨?_, ?_, ?_, ?_, ?_, ?_, ?_, ?_, ?_⟩ <;> (repeat' split) <;> first | rfl | assumption | (exfalso; omega)
  · obtain ⟨s1, s2, s3⟩ := h7 k hk
    rw [us_ne (b := 11) (by omega)]
    exact ⟨st_us ⟨by decide, by decide⟩ s1, s2, s3⟩
  · rw [us_ne (by omega)]; exact h8 y hy
theorem li_cost {σ τ : St} {n u : Nat} {x : Int32} (h : LI σ n τ) (hx : 0 ≤ x.toInt ∧ x.toInt ≤ 999999) : LI (us σ 2 u x) n τ := by
  obtain ⟨h1, h2, h3, h4, h5, h6, h7, h8⟩ := h
  refine ⟨inv_t h1 (by decide) (fun q => absurd q (by decide)) (fun q => absurd q (by decide)), h2, h3, fun q hq => ?_, fun k hk => ?_, h6, fun k hk => ?_, fun y hy => ?_⟩
  · rw [us_ne (by omega)]; exact h4 q hq
  · obtain ⟨r1, r2, r3, r4, r5, r6, r7, r8, r9⟩ := h5 k hk
    unfold RwL
    simp only [us_at, true_and, false_and, ↓reduceIte]
    refine ⟨?_, ?_, ?_, ?_, ?_, ?_, ?_, ?_, ?_⟩ <;> (repeat' split) <;> first | rfl | assumption | (exfalso; omega)
  · obtain ⟨s1, s2, s3⟩ := h7 k hk
    rw [us_ne (b := 11) (by omega)]
    exact ⟨st_us ⟨by decide, by decide⟩ s1, s2, s3⟩
  · rw [us_at]
    split
    · exact hx
    · exact h8 y hy
/-- a lease's own number, and the law's -/
theorem li_us {σ τ : St} {n k : Nat} (h : LI σ n τ) (hk : k < n) {σ' τ' : St} (hI : Inv σ' n) (hn : ∀ a q, (a < 3 ∨ q ≠ k) → a ≠ 13 → a ≠ 14 → σ' a q = σ a q) (hr : ∀ q, q ≠ k → rowF σ' 14 q = rowF σ 14 q) (hc : ∀ q, τ' 1 q = τ 1 q) (ht : ∀ q, q < 12 → q ≠ k → τ' 0 q = τ 0 q ∧ τ' 0 (12 + q) = τ 0 (12 + q) ∧ τ' 0 (24 + q) = τ 0 (24 + q) ∧ τ' 0 (36 + q) = τ 0 (36 + q) ∧ τ' 0 (48 + q) = τ 0 (48 + q) ∧ τ' 2 q = τ 2 q ∧ τ' 3 q = τ 3 q ∧ τ' 3 (12 + q) = τ 3 (12 + q) ∧ τ' 3 (24 + q) = τ 3 (24 + q)) (hR : RwL σ' τ' k) (hS : stOk σ' k) (hD : 0 ≤ (σ' 11 k).toInt ∧ (σ' 11 k).toInt ≤ 59939406) : LI σ' n τ' := by
  obtain ⟨h1, h2, h3, h4, h5, h6, h7, h8⟩ := h
  refine ⟨hI, h2, (hc 0).trans h3, fun q hq => by rw [hc, hn 0 q (Or.inl (by decide)) (by decide) (by decide)]; exact h4 q hq, fun q hq => ?_, fun q k1 k2 => ?_, fun q hq => ?_, fun y hy => by rw [hn 2 y (Or.inl (by decide)) (by decide) (by decide)]; exact h8 y hy⟩
  · by_cases e : q = k
    · rw [e]; exact hR
    · obtain ⟨r1, r2, r3, r4, r5, r6, r7, r8, r9⟩ := h5 q hq
      obtain ⟨t1, t2, t3, t4, t5, t6, t7, t8, t9⟩ := ht q (by omega) e
      have g : ∀ a, a ≠ 13 → a ≠ 14 → σ' a q = σ a q := fun a => hn a q (Or.inr e)
      unfold RwL
      rw [t1, t2, t3, t4, t5, t6, t7, t8, t9, g 3 (by decide) (by decide), g 4 (by decide) (by decide), g 5 (by decide) (by decide), g 6 (by decide) (by decide), g 7 (by decide) (by decide), g 8 (by decide) (by decide), g 9 (by decide) (by decide), g 11 (by decide) (by decide), g 12 (by decide) (by decide)]
      exact ⟨r1, r2, r3, r4, r5, r6, r7, r8, r9⟩
  · obtain ⟨t1, t2, t3, t4, t5, t6, t7, t8, t9⟩ := ht q k2 (by omega)
    unfold Zr
    rw [t6, t7, t8, t9]
    exact h6 q k1 k2
  · by_cases e : q = k
    · rw [e]; exact ⟨hS, hD⟩
    · obtain ⟨s1, s2, s3⟩ := h7 q hq
      rw [hn 11 q (Or.inr e) (by decide) (by decide)]
      refine ⟨?_, s2, s3⟩
      unfold stOk stN at *
      rw [hr q e, hn 12 q (Or.inr e) (by decide) (by decide)]
      exact s1
theorem li_1 {σ τ : St} {n k a b j : Nat} {x : Int32} (h : LI σ n τ) (hk : k < n) (ha : 5 ≤ a ∧ a ≤ 11 ∧ a ≠ 6 ∧ a ≠ 10) (hab : (a = 5 ∧ b = 0 ∧ j = 24 + k) ∨ (a = 9 ∧ b = 0 ∧ j = 48 + k) ∨ (a = 11 ∧ b = 2 ∧ j = k) ∨ (a = 7 ∧ b = 3 ∧ j = k) ∨ (a = 8 ∧ b = 3 ∧ j = 24 + k)) (hI : Inv (us σ a k x) n) (hx : a = 11 → 0 ≤ x.toInt ∧ x.toInt ≤ 59939406) : LI (us σ a k x) n (us τ b j x) := by
  have h' := h
  obtain ⟨h1, h2, h3, h4, h5, h6, h7, h8⟩ := h'
  obtain ⟨r1, r2, r3, r4, r5, r6, r7, r8, r9⟩ := h5 k hk
  obtain ⟨s1, s2, s3⟩ := h7 k hk
  refine li_us h hk hI (fun c q q1 q2 q3 => us_ne (by omega)) (fun q _ => rowF_ne (Or.inl (by omega))) (fun q => us_ne (by omega)) (fun q q1 q2 => ?_) ?_ (st_us ⟨by omega, by omega⟩ s1) ?_
  · rw [us_ne (by omega), us_ne (by omega), us_ne (by omega), us_ne (by omega), us_ne (by omega), us_ne (by omega), us_ne (by omega), us_ne (by omega), us_ne (by omega)]
    exact ⟨rfl, rfl, rfl, rfl, rfl, rfl, rfl, rfl, rfl⟩
  · unfold RwL
    rcases hab with ⟨rfl, rfl, rfl⟩ | ⟨rfl, rfl, rfl⟩ | ⟨rfl, rfl, rfl⟩ | ⟨rfl, rfl, rfl⟩ | ⟨rfl, rfl, rfl⟩ <;> refine ⟨?_, ?_, ?_, ?_, ?_, ?_, ?_, ?_, ?_⟩ <;> first | (rw [us_eq, us_eq]; done) | (rw [us_ne (by omega), us_ne (by omega)]; assumption)
  · rw [us_at]
    split
    · exact hx (by omega)
    · exact ⟨s2, s3⟩
theorem li_10 {σ τ : St} {n k : Nat} {x : Int32} (h : LI σ n τ) (hk : k < n) (hI : Inv (us σ 10 k x) n) : LI (us σ 10 k x) n τ := by
  have h' := h
  obtain ⟨h1, h2, h3, h4, h5, h6, h7, h8⟩ := h'
  obtain ⟨r1, r2, r3, r4, r5, r6, r7, r8, r9⟩ := h5 k hk
  obtain ⟨s1, s2, s3⟩ := h7 k hk
  refine li_us h hk hI (fun c q q1 q2 q3 => us_ne (by omega)) (fun q _ => rowF_ne (Or.inl (by omega))) (fun q => rfl) (fun q q1 q2 => ⟨rfl, rfl, rfl, rfl, rfl, rfl, rfl, rfl, rfl⟩) ?_ (st_us ⟨by omega, by omega⟩ s1) ?_
  · unfold RwL
    simp only [us_at, true_and, false_and, ↓reduceIte]
    refine ⟨?_, ?_, ?_, ?_, ?_, ?_, ?_, ?_, ?_⟩ <;> (repeat' split) <;> first | rfl | assumption | (exfalso; omega)
  · rw [us_ne (by omega)]; exact ⟨s2, s3⟩
theorem li_step {σ τ : St} {n k : Nat} {d r : Int32} (h : LI σ n τ) (hk : k < n) (hp : plF σ k d < 6) (hr : 1 ≤ r.toInt ∧ r.toInt ≤ 99999) (hI : Inv (psS σ k d r) n) : LI (psS σ k d r) n (us τ 3 (12 + k) (psS σ k d r 12 k)) := by
  have h' := h
  obtain ⟨h1, h2, h3, h4, h5, h6, h7, h8⟩ := h'
  obtain ⟨r1, r2, r3, r4, r5, r6, r7, r8, r9⟩ := h5 k hk
  obtain ⟨s1, s2, s3⟩ := h7 k hk
  have hL := h1.2.2.2.1 k hk
  have g : ∀ a, a ≠ 12 → a ≠ 13 → a ≠ 14 → psS σ k d r a k = σ a k := fun a a1 a2 a3 => ps_keep ⟨a2, a3, Or.inl a1⟩
  refine li_us h hk hI (fun c q q1 q2 q3 => ps_keep ⟨q2, q3, by omega⟩) (fun q hq => (ps_other hq).1) (fun q => us_ne (by omega)) (fun q q1 q2 => ?_) ?_ (ps_ok hL hp hr s1) ?_
  · rw [us_ne (by omega), us_ne (by omega), us_ne (by omega), us_ne (by omega), us_ne (by omega), us_ne (by omega), us_ne (by omega), us_ne (by omega), us_ne (by omega)]
    exact ⟨rfl, rfl, rfl, rfl, rfl, rfl, rfl, rfl, rfl⟩
  · unfold RwL
    rw [g 3 (by decide) (by decide) (by decide), g 4 (by decide) (by decide) (by decide), g 5 (by decide) (by decide) (by decide), g 6 (by decide) (by decide) (by decide), g 7 (by decide) (by decide) (by decide), g 8 (by decide) (by decide) (by decide), g 9 (by decide) (by decide) (by decide), g 11 (by decide) (by decide) (by decide), us_eq, us_ne (by omega), us_ne (by omega), us_ne (by omega), us_ne (by omega), us_ne (by omega), us_ne (by omega), us_ne (by omega), us_ne (by omega)]
    exact ⟨r1, r2, r3, r4, r5, r6, r7, rfl, r9⟩
  · rw [g 11 (by decide) (by decide) (by decide)]; exact ⟨s2, s3⟩
/-- the law's rows once a lease is let -/
abbrev ltT (τ : St) (n : Nat) (p0 p1 p2 p3 : Int32) : St := us (us (us (us (us (us τ 0 n p0) 0 (12 + n) p1) 0 (24 + n) p2) 0 (36 + n) p3) 0 (48 + n) (-1)) 1 0 (nI (n + 1))
theorem li_let {σ τ : St} {n : Nat} {p0 p1 p2 p3 : Int32} (h : LI σ n τ) (hn : n < 12) (hI : Inv (ltS σ n p0 p1 p2 p3) (n + 1)) : LI (ltS σ n p0 p1 p2 p3) (n + 1) (ltT τ n p0 p1 p2 p3) := by
  obtain ⟨h1, h2, h3, h4, h5, h6, h7, h8⟩ := h
  have hz := h1.2.2.2.2.1 n (Nat.le_refl _) (by omega)
  obtain ⟨z7, z8, z10, z11, z12, -⟩ := hz
  obtain ⟨y1, y2, y3, y4⟩ := h6 n (Nat.le_refl _) hn
  have g : ∀ a q, (q ≠ n ∨ (a ≠ 3 ∧ a ≠ 4 ∧ a ≠ 5 ∧ a ≠ 6 ∧ a ≠ 9)) → ltS σ n p0 p1 p2 p3 a q = σ a q := fun a q hh => by
    show us (us (us (us (us σ 3 n p0) 4 n p1) 5 n p2) 6 n p3) 9 n (-1) a q = _
    rw [us_ne (by omega), us_ne (by omega), us_ne (by omega), us_ne (by omega), us_ne (by omega)]
  refine ⟨hI, by omega, us_eq, fun q hq => ?_, fun q hq => ?_, fun q q1 q2 => ?_, fun q hq => ?_, fun y hy => by rw [g 2 y (Or.inr (by decide))]; exact h8 y hy⟩
  · unfold ltT
    rw [g 0 q (Or.inr (by decide)), us_ne (by omega), us_ne (by omega), us_ne (by omega), us_ne (by omega), us_ne (by omega), us_ne (by omega)]
    exact h4 q hq
  · by_cases e : q = n
    · subst e
      unfold RwL
      rw [g 11 q (Or.inr (by decide)), g 7 q (Or.inr (by decide)), g 12 q (Or.inr (by decide)), g 8 q (Or.inr (by decide))]
      simp only [us_at, true_and, false_and, ↓reduceIte]
      refine ⟨?_, ?_, ?_, ?_, ?_, ?_, ?_, ?_, ?_⟩ <;> (repeat' split) <;> first | rfl | (exfalso; omega) | (simp only [y1, y2, y3, y4, z7, z8, z11, z12])
    · obtain ⟨r1, r2, r3, r4, r5, r6, r7, r8, r9⟩ := h5 q (by omega)
      unfold RwL
      rw [g 3 q (Or.inl e), g 4 q (Or.inl e), g 5 q (Or.inl e), g 6 q (Or.inl e), g 9 q (Or.inl e), g 11 q (Or.inl e), g 7 q (Or.inl e), g 12 q (Or.inl e), g 8 q (Or.inl e)]
      simp only [us_at, true_and, false_and, ↓reduceIte]
      refine ⟨?_, ?_, ?_, ?_, ?_, ?_, ?_, ?_, ?_⟩ <;> (repeat' split) <;> first | rfl | assumption | (exfalso; omega)
  · obtain ⟨w1, w2, w3, w4⟩ := h6 q (by omega) q2
    unfold Zr
    simp only [us_at, true_and, false_and, ↓reduceIte]
    refine ⟨?_, ?_, ?_, ?_⟩ <;> (repeat' split) <;> first | assumption | (exfalso; omega)
  · by_cases e : q = n
    · subst e
      rw [g 11 q (Or.inr (by decide)), z11]
      refine ⟨?_, by decide, by decide⟩
      unfold stOk stN
      rw [g 12 q (Or.inr (by decide)), z12]
      exact fun i hi => absurd hi (by show ¬ i < 0; omega)
    · obtain ⟨s1, s2, s3⟩ := h7 q (by omega)
      rw [g 11 q (Or.inl e)]
      refine ⟨?_, s2, s3⟩
      exact st_us ⟨by decide, by decide⟩ (st_us ⟨by decide, by decide⟩ (st_us ⟨by decide, by decide⟩ (st_us ⟨by decide, by decide⟩ (st_us ⟨by decide, by decide⟩ s1))))
theorem li_0 : LI σI 0 (fun _ _ => 0) := by
  refine ⟨inv_0, by decide, rfl, fun u _ => rfl, fun k hk => absurd hk (by omega), fun k _ _ => ⟨rfl, rfl, rfl, rfl⟩, fun k hk => absurd hk (by omega), fun y _ => ?_⟩
  show 0 ≤ (0 : Int32).toInt ∧ (0 : Int32).toInt ≤ 999999
  exact ⟨by decide, by decide⟩

/-! the shares of the units: numbers between two multiples of 2^-40 -/
def fU : Nat := 2 ^ 1034
theorem fU_pos : 0 < fU := Nat.two_pow_pos _
theorem fU_one : Jvm.FP.Core.one64 = 1099511627776 * fU := by
  unfold Jvm.FP.Core.one64 fU
  rw [show (1074 : Nat) = 40 + 1034 from rfl, Nat.pow_add]
/-- the multiple m of 2^-40, as a datum -/
theorem f_at (m : Nat) (h : m < 2 ^ 53) : ∃ V, Jvm.FP.Core.fits Jvm.FP.Core.b64 V ∧ V ≠ .nan ∧ Jvm.FP.Core.zmag Jvm.FP.Core.b64 V = m * fU ∧ Jvm.FP.Core.zval Jvm.FP.Core.b64 V = ((m * fU : Nat) : Int) ∧ m * fU < Jvm.FP.Core.b64.tails * 2 ^ (Jvm.FP.Core.b64.exps - 2) := by
  have hq : Jvm.FP.Core.b64.qmin = -1074 := Jvm.FP.Core.qmin_b64
  obtain ⟨c', q', h1, h2⟩ := Jvm.FP.Core.round_exact Jvm.FP.Core.good_b64 false (c := m) (q := -40) h (by rw [hq]; decide) (by decide)
  have hf : Jvm.FP.Core.fits Jvm.FP.Core.b64 (.fin false c' q') := by rw [← h1]; exact Jvm.FP.Core.round_fits Jvm.FP.Core.good_b64 _
  have h3 : Jvm.FP.Core.zmag Jvm.FP.Core.b64 (.fin false c' q') = m * fU := by
    show Jvm.FP.Core.inUnits c' q' Jvm.FP.Core.b64.qmin = _
    rw [h2, hq]
    rfl
  refine ⟨.fin false c' q', hf, Jvm.FP.Core.Datum.noConfusion, h3, ?_, ?_⟩
  · show Jvm.FP.Core.signed false (Jvm.FP.Core.zmag Jvm.FP.Core.b64 (.fin false c' q')) = _
    rw [h3]; rfl
  · rw [← h3]; exact Jvm.FP.Core.zmag_lt_top Jvm.FP.Core.good_b64 hf
/-- a number from lo to hi, in units of 2^-40 -/
def Nv (x : UInt64) (lo hi : Nat) : Prop := (∃ s c q, Jvm.FP.Core.val64 x = .fin s c q) ∧ ((lo * fU : Nat) : Int) ≤ Jvm.FP.Core.zval Jvm.FP.Core.b64 (Jvm.FP.Core.val64 x) ∧ Jvm.FP.Core.zval Jvm.FP.Core.b64 (Jvm.FP.Core.val64 x) ≤ ((hi * fU : Nat) : Int)
theorem Nv.nn {x : UInt64} {lo hi : Nat} (h : Nv x lo hi) : Jvm.FP.Core.val64 x ≠ .nan := by
  obtain ⟨⟨s, c, q, e⟩, -⟩ := h
  rw [e]; exact Jvm.FP.Core.Datum.noConfusion
theorem nv_0 : Nv Jvm.FP.dconst0 0 0 := by
  have e : Jvm.FP.Core.val64 Jvm.FP.dconst0 = .fin false 0 Jvm.FP.Core.b64.qmin := Jvm.FP.Core.val64_dconst0
  refine ⟨⟨_, _, _, e⟩, ?_⟩
  rw [e, Nat.zero_mul]
  have h : Jvm.FP.Core.zval Jvm.FP.Core.b64 (.fin false 0 Jvm.FP.Core.b64.qmin) = 0 := by
    show Jvm.FP.Core.signed false (Jvm.FP.Core.inUnits 0 _ _) = 0
    unfold Jvm.FP.Core.inUnits
    rw [Nat.zero_mul]; rfl
  rw [h]
  exact ⟨Int.le_refl _, Int.le_refl _⟩
/-- what is rounded and lies between two multiples is finite -/
theorem nv_fin {d : Jvm.FP.Core.Datum} {hi : Nat} (hd : d ≠ .nan) (h0 : 0 ≤ Jvm.FP.Core.zval Jvm.FP.Core.b64 d) (h1 : Jvm.FP.Core.zval Jvm.FP.Core.b64 d ≤ ((hi * fU : Nat) : Int)) (h2 : hi * fU < Jvm.FP.Core.b64.tails * 2 ^ (Jvm.FP.Core.b64.exps - 2)) : ∃ s c q, d = .fin s c q := by
  cases d with
  | nan => exact absurd rfl hd
  | fin s c q => exact ⟨s, c, q, rfl⟩
  | inf s =>
    exfalso
    have hz : Jvm.FP.Core.zval Jvm.FP.Core.b64 (.inf s) = Jvm.FP.Core.signed s (Jvm.FP.Core.b64.tails * 2 ^ (Jvm.FP.Core.b64.exps - 2)) := rfl
    rw [hz] at h0 h1
    generalize Jvm.FP.Core.b64.tails * 2 ^ (Jvm.FP.Core.b64.exps - 2) = T at h0 h1 h2
    generalize hi * fU = w at h1 h2
    cases s
    · have e : Jvm.FP.Core.signed false T = (T : Int) := rfl
      rw [e] at h0 h1; omega
    · have e : Jvm.FP.Core.signed true T = -(T : Int) := rfl
      rw [e] at h0 h1; omega
theorem nv_add {x y : UInt64} {a b c d : Nat} (hx : Nv x a b) (hy : Nv y c d) (h : b + d < 2 ^ 53) (hab : a ≤ b) (hcd : c ≤ d) : Nv (Jvm.FP.dadd x y) (a + c) (b + d) := by
  obtain ⟨fx, x1, x2⟩ := hx
  obtain ⟨fy, y1, y2⟩ := hy
  obtain ⟨V, v1, v2, v3, v4, v5⟩ := f_at (a + c) (by omega)
  obtain ⟨W, w1, w2, w3, w4, w5⟩ := f_at (b + d) h
  have e : Jvm.FP.Core.val64 (Jvm.FP.dadd x y) = Jvm.FP.Core.round Jvm.FP.Core.b64 (Jvm.FP.Core.exactSum (Jvm.FP.Core.val64 x) (Jvm.FP.Core.val64 y)) := Jvm.FP.Core.val64_dadd x y
  have hge := Jvm.FP.Core.sum_ge Jvm.FP.Core.good_b64 fx fy (Jvm.FP.Core.val64_fits x) (Jvm.FP.Core.val64_fits y) v1 v2 (by rw [v4, Nat.add_mul]; omega)
  have hle := Jvm.FP.Core.sum_le Jvm.FP.Core.good_b64 fx fy (Jvm.FP.Core.val64_fits x) (Jvm.FP.Core.val64_fits y) w1 w2 (by rw [w4, Nat.add_mul]; omega)
  rw [← e] at hge hle
  rw [v4] at hge
  rw [w4] at hle
  refine ⟨nv_fin ?_ (Int.le_trans (Int.natCast_nonneg _) hge) hle w5, hge, hle⟩
  rw [e]
  obtain ⟨s1, c1, q1, e1⟩ := fx
  obtain ⟨s2, c2, q2, e2⟩ := fy
  rw [e1, e2]
  exact Jvm.FP.Core.roundRatio_ne_nan _ _ _ _ _
/-- the quotient of two whole numbers -/
theorem quo_eq {a S : Int32} (ha : 0 ≤ a.toInt) (hS : 0 < S.toInt) : Jvm.FP.Core.val64 (Jvm.FP.ddiv (Jvm.FP.i2d a) (Jvm.FP.i2d S)) = Jvm.FP.Core.roundRatio Jvm.FP.Core.b64 false a.toInt.toNat S.toInt.toNat 0 := by
  have e : Jvm.FP.Core.val64 (Jvm.FP.ddiv (Jvm.FP.i2d a) (Jvm.FP.i2d S)) = Jvm.FP.Core.quotient Jvm.FP.Core.b64 (Jvm.FP.Core.val64 (Jvm.FP.Core.i2d a)) (Jvm.FP.Core.val64 (Jvm.FP.Core.i2d S)) := Jvm.FP.Core.val64_ddiv _ _
  rw [e]
  have hs : ∀ x : Int32, 0 ≤ x.toInt → Jvm.FP.Core.sgn (Jvm.FP.Core.val64 (Jvm.FP.Core.i2d x)) = false := by
    intro x hx
    rw [Jvm.FP.Core.val64_i2d]
    show Jvm.FP.Core.sgn (Jvm.FP.Core.roundRatio Jvm.FP.Core.b64 (decide (x.toInt < 0)) x.toInt.natAbs 1 0) = false
    rw [Jvm.FP.Core.sgn_roundRatio]
    exact decide_eq_false (by omega)
  have ha1 := Jvm.FP.Core.i2d_int a
  have hb1 := Jvm.FP.Core.i2d_int S
  have sa := hs a ha
  have sb := hs S (by omega)
  unfold Jvm.FP.Core.DInt at ha1 hb1
  generalize Jvm.FP.Core.val64 (Jvm.FP.Core.i2d a) = x at ha1 sa ⊢
  generalize Jvm.FP.Core.val64 (Jvm.FP.Core.i2d S) = y at hb1 sb ⊢
  match x, y, ha1, hb1, sa, sb with
  | .fin s c q, .fin t d r, ha1, hb1, sa, sb =>
    have sa : s = false := sa
    have sb : t = false := sb
    subst sa sb
    have hd : ¬ d = 0 := fun q => by have := (Jvm.FP.Core.whole_zero hb1).mp q; omega
    have wa := Jvm.FP.Core.whole_natAbs ha1
    have wb := Jvm.FP.Core.whole_natAbs hb1
    rw [show a.toInt.natAbs = a.toInt.toNat by omega] at wa
    rw [show S.toInt.natAbs = S.toInt.toNat by omega] at wb
    show (if d = 0 then _ else Jvm.FP.Core.roundRatio Jvm.FP.Core.b64 (false != false) c d (q - r)) = _
    rw [if_neg hd]
    refine Jvm.FP.Core.roundRatio_congr (by omega) (by omega) ?_
    have hSp : 0 < S.toInt.toNat := by omega
    generalize a.toInt.toNat = A at wa ⊢
    generalize S.toInt.toNat = B at wb hSp ⊢
    rw [show (q - r - 0).toNat = (q - r).toNat by omega, show (0 - (q - r)).toNat = (r - q).toNat by omega]
    -- both sides times 2^(q-) 2^(r+)
    have key : q.toNat + (-r).toNat + (r - q).toNat = (-q).toNat + r.toNat + (q - r).toNat := by omega
    have hp : 0 < 2 ^ ((-q).toNat + r.toNat) := Nat.two_pow_pos _
    refine Nat.eq_of_mul_eq_mul_right hp ?_
    calc c * B * 2 ^ (q - r).toNat * 2 ^ ((-q).toNat + r.toNat) = c * B * 2 ^ ((-q).toNat + r.toNat + (q - r).toNat) := by rw [Nat.mul_assoc, ← Nat.pow_add, Nat.add_comm (q - r).toNat]
      _ = c * B * 2 ^ (q.toNat + (-r).toNat + (r - q).toNat) := by rw [← key]
      _ = (c * 2 ^ q.toNat) * (B * 2 ^ (-r).toNat) * 2 ^ (r - q).toNat := by rw [Nat.pow_add, Nat.pow_add]; ac_rfl
      _ = (A * 2 ^ (-q).toNat) * (d * 2 ^ r.toNat) * 2 ^ (r - q).toNat := by rw [wa, ← wb]
      _ = A * d * 2 ^ (r - q).toNat * 2 ^ ((-q).toNat + r.toNat) := by rw [Nat.pow_add]; ac_rfl
theorem nv_quo {a S : Int32} (ha : 0 ≤ a.toInt) (hS : 0 < S.toInt) (haS : a.toInt ≤ 5994) : Nv (Jvm.FP.ddiv (Jvm.FP.i2d a) (Jvm.FP.i2d S)) (a.toInt.toNat * 1099511627776 / S.toInt.toNat) (a.toInt.toNat * 1099511627776 / S.toInt.toNat + if a.toInt = 0 then 0 else 1) := by
  have e := quo_eq ha hS
  have hA : a.toInt.toNat ≤ 5994 := by omega
  have hA0 : a.toInt = 0 ↔ a.toInt.toNat = 0 := by omega
  have hB : 0 < S.toInt.toNat := by omega
  generalize Jvm.FP.ddiv (Jvm.FP.i2d a) (Jvm.FP.i2d S) = x at e ⊢
  rw [show (if a.toInt = 0 then 0 else 1 : Nat) = (if a.toInt.toNat = 0 then 0 else 1) by simp only [hA0]]
  generalize a.toInt.toNat = A at e hA ⊢
  generalize S.toInt.toNat = B at e hB ⊢
  have d1 : A * 1099511627776 / B * B ≤ A * 1099511627776 := Nat.div_mul_le_self _ _
  have d2 : A * 1099511627776 < (A * 1099511627776 / B + 1) * B := Nat.lt_mul_of_div_lt (Nat.lt_succ_self _) hB
  have d3 : A * 1099511627776 / B ≤ A * 1099511627776 := Nat.div_le_self _ _
  have d4 : A = 0 → A * 1099511627776 / B = 0 := fun h => by rw [h, Nat.zero_mul, Nat.zero_div]
  generalize A * 1099511627776 / B = M at *
  have hhi : A * 1099511627776 ≤ (M + if A = 0 then 0 else 1) * B := by
    split
    · rename_i h; rw [h, Nat.zero_mul]; exact Nat.zero_le _
    · omega
  have hhb : M + (if A = 0 then 0 else 1) < 2 ^ 53 := by split <;> omega
  generalize (M + if A = 0 then 0 else 1) = N at hhi hhb ⊢
  obtain ⟨V, v1, v2, v3, v4, v5⟩ := f_at M (by omega)
  obtain ⟨W, w1, w2, w3, w4, w5⟩ := f_at N hhb
  have hu : Jvm.FP.Core.inUnits A 0 Jvm.FP.Core.b64.qmin = A * (1099511627776 * fU) := by
    rw [← fU_one]
    rfl
  have hone : (Jvm.FP.Core.b64.qmin - Jvm.FP.Core.b64.qmin).toNat = 0 := by rw [Int.sub_self]; rfl
  have hge := Jvm.FP.Core.zmag_roundRatio_ge Jvm.FP.Core.good_b64 (s := false) (A := A) (B := B) (e := 0) (e0 := Jvm.FP.Core.b64.qmin) hB v1 (Int.le_refl _) (by decide) (by
    rw [v3, hu, hone, Nat.pow_zero, Nat.mul_one, ← Nat.mul_assoc, Nat.mul_right_comm]
    exact Nat.mul_le_mul_right _ d1)
  have hle := Jvm.FP.Core.zmag_roundRatio_le Jvm.FP.Core.good_b64 (s := false) (A := A) (B := B) (e := 0) (e0 := Jvm.FP.Core.b64.qmin) hB w1 w2 (Int.le_refl _) (by decide) (by
    rw [w3, hu, hone, Nat.pow_zero, Nat.mul_one, ← Nat.mul_assoc, Nat.mul_right_comm N]
    exact Nat.mul_le_mul_right _ hhi)
  rw [v3] at hge
  rw [w3] at hle
  have hz : Jvm.FP.Core.zval Jvm.FP.Core.b64 (Jvm.FP.Core.val64 x) = ((Jvm.FP.Core.zmag Jvm.FP.Core.b64 (Jvm.FP.Core.roundRatio Jvm.FP.Core.b64 false A B 0) : Nat) : Int) := by
    unfold Jvm.FP.Core.zval
    rw [e, Jvm.FP.Core.sgn_roundRatio]
    rfl
  have g1 : ((M * fU : Nat) : Int) ≤ Jvm.FP.Core.zval Jvm.FP.Core.b64 (Jvm.FP.Core.val64 x) := by rw [hz]; exact Int.ofNat_le.mpr hge
  have g2 : Jvm.FP.Core.zval Jvm.FP.Core.b64 (Jvm.FP.Core.val64 x) ≤ ((N * fU : Nat) : Int) := by rw [hz]; exact Int.ofNat_le.mpr hle
  refine ⟨nv_fin (by rw [e]; exact Jvm.FP.Core.roundRatio_ne_nan _ _ _ _ _) (Int.le_trans (Int.natCast_nonneg _) g1) g2 w5, g1, g2⟩
/-- comparing -/
theorem cmp_eq0 {x : UInt64} {lo hi : Nat} (h : Nv x lo hi) : (Op.cmpValue (Jvm.FP.dcmp x Jvm.FP.dconst0) .l).toInt = 0 ↔ Jvm.FP.Core.zval Jvm.FP.Core.b64 (Jvm.FP.Core.val64 x) = 0 := by
  have e : Jvm.FP.dcmp x Jvm.FP.dconst0 = some (compare (Jvm.FP.Core.zval Jvm.FP.Core.b64 (Jvm.FP.Core.val64 x)) (Jvm.FP.Core.zval Jvm.FP.Core.b64 (Jvm.FP.Core.val64 Jvm.FP.dconst0))) := Jvm.FP.Core.dcmp_zval h.nn nv_0.nn
  have z : Jvm.FP.Core.zval Jvm.FP.Core.b64 (Jvm.FP.Core.val64 Jvm.FP.dconst0) = 0 := by
    have h1 := nv_0.2.1; have h2 := nv_0.2.2
    rw [Nat.zero_mul] at h1 h2
    omega
  rw [e, z]
  generalize Jvm.FP.Core.zval Jvm.FP.Core.b64 (Jvm.FP.Core.val64 x) = w
  refine Iff.trans ?_ (Jvm.FP.Core.compare_eq_iff w 0)
  generalize compare w 0 = o
  cases o <;> decide
theorem cmp_gt {x y : UInt64} {op : CmpOp} (hx : Jvm.FP.Core.val64 x ≠ .nan) (hy : Jvm.FP.Core.val64 y ≠ .nan) (h : Jvm.FP.Core.zval Jvm.FP.Core.b64 (Jvm.FP.Core.val64 y) < Jvm.FP.Core.zval Jvm.FP.Core.b64 (Jvm.FP.Core.val64 x)) : Op.cmpValue (Jvm.FP.dcmp x y) op = 1 := by
  have e : Jvm.FP.dcmp x y = some (compare (Jvm.FP.Core.zval Jvm.FP.Core.b64 (Jvm.FP.Core.val64 x)) (Jvm.FP.Core.zval Jvm.FP.Core.b64 (Jvm.FP.Core.val64 y))) := Jvm.FP.Core.dcmp_zval hx hy
  rw [e, (Jvm.FP.Core.compare_gt_iff _ _).mpr h]
  rfl
theorem cmp_lt {x y : UInt64} {op : CmpOp} (hx : Jvm.FP.Core.val64 x ≠ .nan) (hy : Jvm.FP.Core.val64 y ≠ .nan) (h : Jvm.FP.Core.zval Jvm.FP.Core.b64 (Jvm.FP.Core.val64 x) < Jvm.FP.Core.zval Jvm.FP.Core.b64 (Jvm.FP.Core.val64 y)) : Op.cmpValue (Jvm.FP.dcmp x y) op = -1 := by
  have e : Jvm.FP.dcmp x y = some (compare (Jvm.FP.Core.zval Jvm.FP.Core.b64 (Jvm.FP.Core.val64 x)) (Jvm.FP.Core.zval Jvm.FP.Core.b64 (Jvm.FP.Core.val64 y))) := Jvm.FP.Core.dcmp_zval hx hy
  rw [e, (Jvm.FP.Core.compare_lt_iff _ _).mpr h]
  rfl
theorem c999 : Jvm.FP.Core.val64 4607173411600762667 ≠ .nan ∧ Jvm.FP.Core.zval Jvm.FP.Core.b64 (Jvm.FP.Core.val64 4607173411600762667) < ((1099511627771 * fU : Nat) : Int) := by
  constructor
  · decide +kernel
  · unfold fU; decide +kernel
theorem c1001 : Jvm.FP.Core.val64 4607186922399644778 ≠ .nan ∧ ((1099511627782 * fU : Nat) : Int) < Jvm.FP.Core.zval Jvm.FP.Core.b64 (Jvm.FP.Core.val64 4607186922399644778) := by
  constructor
  · decide +kernel
  · unfold fU; decide +kernel
/-- the shares of the first i units together -/
def shP (σ : St) : Nat → UInt64
  | 0 => Jvm.FP.dconst0
  | i + 1 => Jvm.FP.dadd (shP σ i) (shF σ i)
def shN (σ : St) : Nat → Nat
  | 0 => 0
  | i + 1 => shN σ i + (σ 0 i).toInt.toNat * 1099511627776 / (aaP σ 6).toInt.toNat
theorem aa_ge {σ : St} {n i : Nat} (hI : Inv σ n) (hi : i < 6) : (σ 0 i).toInt ≤ (aaP σ 6).toInt := by
  have h := aa_six hI
  have h0 := (hI.2.1 0 (by decide)).1
  have h1 := (hI.2.1 1 (by decide)).1
  have h2 := (hI.2.1 2 (by decide)).1
  have h3 := (hI.2.1 3 (by decide)).1
  have h4 := (hI.2.1 4 (by decide)).1
  have h5 := (hI.2.1 5 (by decide)).1
  rcases (show i = 0 ∨ i = 1 ∨ i = 2 ∨ i = 3 ∨ i = 4 ∨ i = 5 by omega) with rfl | rfl | rfl | rfl | rfl | rfl <;> omega
theorem sh_nv {σ : St} {n i : Nat} (hI : Inv σ n) (hA : 0 < (aaP σ 6).toInt) (hi : i < 6) : Nv (shF σ i) ((σ 0 i).toInt.toNat * 1099511627776 / (aaP σ 6).toInt.toNat) ((σ 0 i).toInt.toNat * 1099511627776 / (aaP σ 6).toInt.toNat + if (σ 0 i).toInt = 0 then 0 else 1) := by
  unfold shF
  rw [if_pos hA]
  have h := hI.2.1 i hi
  exact nv_quo h.1 hA (by omega)
theorem sh_z {σ : St} {n i : Nat} (hI : Inv σ n) (hi : i < 6) : ∃ lo hi, Nv (shF σ i) lo hi ∧ ((Jvm.FP.Core.zval Jvm.FP.Core.b64 (Jvm.FP.Core.val64 (shF σ i)) = 0) ↔ (σ 0 i).toInt = 0) := by
  have h := hI.2.1 i hi
  have hge := aa_ge hI hi
  have hb := aa_b hI 6 (by decide)
  by_cases hA : 0 < (aaP σ 6).toInt
  · have hv := sh_nv hI hA hi
    refine ⟨_, _, hv, ?_⟩
    obtain ⟨-, h1, h2⟩ := hv
    by_cases h0 : (σ 0 i).toInt = 0
    · rw [h0, show (0 : Int).toNat = 0 from rfl, Nat.zero_mul, Nat.zero_div, Nat.zero_mul] at h1
      rw [if_pos h0, h0, show (0 : Int).toNat = 0 from rfl, Nat.zero_mul, Nat.zero_div, Nat.zero_add, Nat.zero_mul] at h2
      exact ⟨fun _ => h0, fun _ => by omega⟩
    · have hm : 1 ≤ (σ 0 i).toInt.toNat * 1099511627776 / (aaP σ 6).toInt.toNat := by
        rw [Nat.le_div_iff_mul_le (by omega)]
        omega
      have hp := fU_pos
      have hq : fU ≤ (σ 0 i).toInt.toNat * 1099511627776 / (aaP σ 6).toInt.toNat * fU := Nat.le_mul_of_pos_left _ hm
      exact ⟨fun q => by omega, fun q => absurd q h0⟩
  · have e : shF σ i = Jvm.FP.dconst0 := if_neg hA
    rw [e]
    refine ⟨0, 0, nv_0, ?_⟩
    have h1 := nv_0.2.1; have h2 := nv_0.2.2
    rw [Nat.zero_mul] at h1 h2
    exact ⟨fun _ => by omega, fun _ => by omega⟩
theorem sp_nv {σ : St} {n : Nat} (hI : Inv σ n) (hA : 0 < (aaP σ 6).toInt) : ∀ i, i ≤ 6 → (shN σ i ≤ i * 1099511627776) ∧ ∃ hi, shN σ i ≤ hi ∧ hi ≤ shN σ i + i ∧ Nv (shP σ i) (shN σ i) hi
  | 0, _ => ⟨Nat.le_refl _, 0, Nat.le_refl _, Nat.le_refl _, nv_0⟩
  | i + 1, h => by
    obtain ⟨h1, hi, h2, h3, h4⟩ := sp_nv hI hA i (by omega)
    have hv := sh_nv hI hA (show i < 6 by omega)
    have hge := aa_ge hI (show i < 6 by omega)
    have hp := hI.2.1 i (by omega)
    have hm : (σ 0 i).toInt.toNat * 1099511627776 / (aaP σ 6).toInt.toNat ≤ 1099511627776 := by
      refine Nat.div_le_of_le_mul ?_
      exact Nat.mul_le_mul_right _ (by omega)
    unfold shN
    generalize (σ 0 i).toInt.toNat * 1099511627776 / (aaP σ 6).toInt.toNat = M at hv hm ⊢
    have hx : (if (σ 0 i).toInt = 0 then 0 else 1 : Nat) ≤ 1 := by split <;> omega
    generalize (if (σ 0 i).toInt = 0 then 0 else 1 : Nat) = u at hv hx
    exact ⟨by omega, hi + (M + u), by omega, by omega, nv_add h4 hv (by omega) (by omega) (by omega)⟩
theorem sp_0 {σ : St} (hA : ¬ 0 < (aaP σ 6).toInt) : ∀ i, shP σ i = Jvm.FP.dconst0
  | 0 => rfl
  | i + 1 => by
    have e : shF σ i = Jvm.FP.dconst0 := if_neg hA
    show Jvm.FP.dadd (shP σ i) (shF σ i) = _
    rw [sp_0 hA i, e]
    decide +kernel
theorem sp_nn {σ : St} {n : Nat} (hI : Inv σ n) {i : Nat} (h : i ≤ 6) : Jvm.FP.Core.val64 (shP σ i) ≠ .nan := by
  by_cases hA : 0 < (aaP σ 6).toInt
  · obtain ⟨-, hi, -, -, hv⟩ := sp_nv hI hA i h
    exact hv.nn
  · rw [sp_0 hA]; exact nv_0.nn
theorem sn_six {σ : St} {n : Nat} (hI : Inv σ n) (hA : 0 < (aaP σ 6).toInt) : 1099511627771 ≤ shN σ 6 ∧ shN σ 6 ≤ 1099511627776 := by
  have hs := aa_six hI
  have h0 := (hI.2.1 0 (by decide)).1
  have h1 := (hI.2.1 1 (by decide)).1
  have h2 := (hI.2.1 2 (by decide)).1
  have h3 := (hI.2.1 3 (by decide)).1
  have h4 := (hI.2.1 4 (by decide)).1
  have h5 := (hI.2.1 5 (by decide)).1
  have e : shN σ 6 = 0 + (σ 0 0).toInt.toNat * 1099511627776 / (aaP σ 6).toInt.toNat + (σ 0 1).toInt.toNat * 1099511627776 / (aaP σ 6).toInt.toNat + (σ 0 2).toInt.toNat * 1099511627776 / (aaP σ 6).toInt.toNat + (σ 0 3).toInt.toNat * 1099511627776 / (aaP σ 6).toInt.toNat + (σ 0 4).toInt.toNat * 1099511627776 / (aaP σ 6).toInt.toNat + (σ 0 5).toInt.toNat * 1099511627776 / (aaP σ 6).toInt.toNat := rfl
  have hB : 0 < (aaP σ 6).toInt.toNat := by omega
  have hsn : (aaP σ 6).toInt.toNat = (σ 0 0).toInt.toNat + (σ 0 1).toInt.toNat + (σ 0 2).toInt.toNat + (σ 0 3).toInt.toNat + (σ 0 4).toInt.toNat + (σ 0 5).toInt.toNat := by omega
  have hd : ∀ x : Nat, x * 1099511627776 / (aaP σ 6).toInt.toNat * (aaP σ 6).toInt.toNat ≤ x * 1099511627776 ∧ x * 1099511627776 < x * 1099511627776 / (aaP σ 6).toInt.toNat * (aaP σ 6).toInt.toNat + (aaP σ 6).toInt.toNat := by
    intro x
    refine ⟨Nat.div_mul_le_self _ _, ?_⟩
    have := Nat.lt_mul_of_div_lt (Nat.lt_succ_self (x * 1099511627776 / (aaP σ 6).toInt.toNat)) hB
    rw [Nat.succ_mul] at this
    exact this
  have d0 := hd (σ 0 0).toInt.toNat
  have d1 := hd (σ 0 1).toInt.toNat
  have d2 := hd (σ 0 2).toInt.toNat
  have d3 := hd (σ 0 3).toInt.toNat
  have d4 := hd (σ 0 4).toInt.toNat
  have d5 := hd (σ 0 5).toInt.toNat
  have hm : shN σ 6 * (aaP σ 6).toInt.toNat ≤ 1099511627776 * (aaP σ 6).toInt.toNat ∧ 1099511627776 * (aaP σ 6).toInt.toNat < (shN σ 6 + 6) * (aaP σ 6).toInt.toNat := by
    rw [e]
    simp only [Nat.add_mul, Nat.zero_mul]
    omega
  have u1 := Nat.le_of_mul_le_mul_right hm.1 hB
  have u2 := Nat.lt_of_mul_lt_mul_right hm.2
  omega
theorem sp_last {σ : St} {n : Nat} (hI : Inv σ n) : (0 < (aaP σ 6).toInt → Op.cmpValue (Jvm.FP.dcmp (shP σ 6) 4607173411600762667) .l = 1 ∧ Op.cmpValue (Jvm.FP.dcmp (shP σ 6) 4607186922399644778) .g = -1) ∧ (¬ 0 < (aaP σ 6).toInt → (Op.cmpValue (Jvm.FP.dcmp (shP σ 6) Jvm.FP.dconst0) .l).toInt = 0) := by
  constructor
  · intro hA
    obtain ⟨-, hi, h1, h2, hv⟩ := sp_nv hI hA 6 (Nat.le_refl _)
    obtain ⟨s1, s2⟩ := sn_six hI hA
    have hn := hv.nn
    obtain ⟨-, v1, v2⟩ := hv
    have m1 : 1099511627771 * fU ≤ shN σ 6 * fU := Nat.mul_le_mul_right _ s1
    have m2 : hi * fU ≤ 1099511627782 * fU := Nat.mul_le_mul_right _ (by omega)
    exact ⟨cmp_gt hn c999.1 (by have := c999.2; omega), cmp_lt hn c1001.1 (by have := c1001.2; omega)⟩
  · intro hA
    rw [sp_0 hA, cmp_eq0 nv_0]
    have h1 := nv_0.2.1; have h2 := nv_0.2.2
    rw [Nat.zero_mul] at h1 h2
    omega

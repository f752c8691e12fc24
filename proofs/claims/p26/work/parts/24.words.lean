/-! the functions that say what a day, a bill, a part is (whole's, here as words of the mathematics alone) -/
def ilP (τ : St) (u f t : Int32) : Nat → Int32
  | 0 => 0
  | i + 1 => if ¬ (ilP τ u f t i).toInt = 0 ∨ ((τ 3 i).toInt = u.toInt ∧ (τ 4 i).toInt < t.toInt ∧ f.toInt < (τ 5 i).toInt) then 1 else 0
theorem ilP_01 {τ : St} {u f t : Int32} : ∀ i, ilP τ u f t i = 0 ∨ ilP τ u f t i = 1 := by
  intro i
  cases i with
  | zero => exact Or.inl rfl
  | succ i =>
    rw [ilP]
    split
    · exact Or.inr rfl
    · exact Or.inl rfl
def agM (σ : St) (k : Nat) (d : Int32) : Nat → Int32 × Int32
  | 0 => (σ 6 k, -1)
  | i + 1 => if (rowF σ 13 k i).toInt ≤ d.toInt ∧ (agM σ k d i).2.toInt < (rowF σ 13 k i).toInt then (rowF σ 14 k i, rowF σ 13 k i) else agM σ k d i
def amF (σ : St) (k : Nat) (d : Int32) : Int32 := (agM σ k d (stN σ k)).1
theorem rowF_lt {σ : St} {a k i : Nat} (h : i < 6) : rowF σ a k i = σ a (6 * k + i) := if_pos h
theorem ok_ix {σ : St} {k : Nat} (h : okL σ k) : 0 ≤ (σ 4 k / 30).toInt ∧ (σ 4 k / 30).toInt < 240 := by
  obtain ⟨-, ⟨h1, h2, h3⟩, -⟩ := h
  have h30 : (30 : Int32).toInt = 30 := rfl
  rw [i_div (by rw [h30]; decide), h30, Int.tdiv_eq_ediv_of_nonneg h1]
  omega
theorem d30 {x : Int32} (h1 : 0 ≤ x.toInt) (h2 : x.toInt < 7200) : 0 ≤ (x / 30).toInt ∧ (x / 30).toInt < 240 := by
  have h30 : (30 : Int32).toInt = 30 := rfl
  rw [i_div (by rw [h30]; decide), h30, Int.tdiv_eq_ediv_of_nonneg h1]
  omega
def giP (σ : St) (k : Nat) : Nat → Int32
  | 0 => 0
  | i + 1 => mxF (giP σ k i) (σ 1 (ix ((σ 4 k + nI (i + 1) * σ 8 k) / 30)))
def gmF (σ : St) (k : Nat) (d : Int32) : Int32 := giP σ k (rvF σ k d).toInt.toNat
def rmF (σ : St) (k : Nat) (d : Int32) : Int32 := if rOn σ k d ∧ ¬ fOn σ k d then mxF (amF σ k d) (amF σ k d * gmF σ k d / σ 1 (ix (σ 4 k / 30))) else 0
theorem i_mulc' {x : Int32} {c : Nat} (hx : 0 ≤ x.toInt ∧ x.toInt < 10000) (hc : c < 10000) : (nI c * x).toInt = c * x.toInt := by rw [Int32.mul_comm, i_mulc hx hc, Int.mul_comm]
def bmP (σ : St) (k : Nat) (m : Int32) : Nat → Int32
  | 0 => 0
  | i + 1 => bmP σ k m i + rmF σ k (30 * m + nI i)
abbrev bmF (σ : St) (k : Nat) (m : Int32) : Int32 := bmP σ k m 30 / 30
def dmA (σ : St) (k : Nat) (y : Int32) : Int32 := if (360 * y).toInt < (σ 4 k).toInt then σ 4 k else 360 * y
def dmB (σ : St) (k : Nat) (y : Int32) : Int32 := if (σ 5 k).toInt < (360 * y + 360).toInt then σ 5 k else 360 * y + 360
def dmF (σ : St) (k : Nat) (y : Int32) : Int32 := if (dmA σ k y).toInt < (dmB σ k y).toInt then dmB σ k y - dmA σ k y else 0
def pmQ (σ : St) (k : Nat) (y : Int32) : Int32 := ((σ 2 (ix y)).toInt64 * (σ 0 (ix (σ 3 k))).toInt64 * (dmF σ k y).toInt64 / ((aaP σ 6).toInt64 * 360)).toInt32
def pmM (σ : St) (k : Nat) (y : Int32) : Int32 := if (σ 9 k).toInt = -1 then pmQ σ k y else σ 9 k * dmF σ k y / 360
def pmF (σ : St) (k : Nat) (y : Int32) : Int32 := if (aaP σ 6).toInt = 0 then 0 else (if (pmQ σ k y).toInt < (pmM σ k y).toInt then pmQ σ k y else pmM σ k y)
def cdLetM (σ : St) (n : Nat) (p0 p1 p2 p3 : Int32) : Int32 := if 0 ≤ p0.toInt ∧ p0.toInt < 6 then (if (0 ≤ p1.toInt ∧ p1.toInt ≤ 7199) ∧ p1.toInt < p2.toInt ∧ p2.toInt ≤ 7200 ∧ 1 ≤ p3.toInt ∧ p3.toInt ≤ 99999 then (if n = 24 ∨ ¬ (ilP σ p0 p1 p2 n).toInt = 0 then 3 else 0) else 2) else 1
abbrev ltS (σ : St) (n : Nat) (p0 p1 p2 p3 : Int32) : St := us (us (us (us (us σ 3 n p0) 4 n p1) 5 n p2) 6 n p3) 9 n (-1)
abbrev tmV (σ : St) (k : Nat) (d t : Int32) : Int32 := mxF 0 (t * rmF σ k d - σ 11 k)
def fmP (σ : St) (u d : Int32) : Nat → Int32
  | 0 => -1
  | i + 1 => if (σ 3 i).toInt = u.toInt ∧ rOn σ i d then nI i else fmP σ u d i
def bmS (σ : St) (k : Nat) (f : Int32) : Nat → Int64
  | 0 => 0
  | i + 1 => bmS σ k f i + (bmF σ k (f + nI i)).toInt64
def nmG (σ : St) (k : Nat) (b : Int32) : Nat → Int32 → Int32
  | 0, _ => -1
  | f + 1, t => if t.toInt < 7200 ∧ t.toInt ≤ (σ 5 k).toInt then (if (rmF σ k t).toInt = b.toInt then nmG σ k b f (t + 1) else t) else -1
theorem nmG_s {σ : St} {k f : Nat} {b t : Int32} : nmG σ k b (f + 1) t = if t.toInt < 7200 ∧ t.toInt ≤ (σ 5 k).toInt then (if (rmF σ k t).toInt = b.toInt then nmG σ k b f (t + 1) else t) else -1 := rfl
def vmP (σ : St) (u y : Int32) : Nat → Int32
  | 0 => 360
  | i + 1 => if (σ 3 i).toInt = u.toInt then vmP σ u y i - dmF σ i y else vmP σ u y i - 0
def omP (σ : St) (y : Int32) : Nat → Int32
  | 0 => σ 2 (ix y)
  | i + 1 => omP σ y i - pmF σ i y

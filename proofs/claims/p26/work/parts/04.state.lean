/-! the world: roles 0 the roll, 1-3 areas indices costs, 4 roll's leases, 5-8 the law's t c d f, 3k+9 lease k, 3k+10 its step days, 3k+11 its step rents -/
abbrev ix (x : Int32) : Nat := x.toNatClampNeg
def lsF (ad : Nat → Nat) (σ : St) (k : Nat) : List Value := [.int (σ 3 k), .int (σ 4 k), .int (σ 6 k), .int (σ 5 k), .int (σ 7 k), .int (σ 8 k), .int (σ 9 k), .int (σ 10 k), .int (σ 11 k), .ref (ad (3 * k + 10)), .ref (ad (3 * k + 11)), .int (σ 12 k)]
def rowF (σ : St) (a k : Nat) : Nat → Int32 := fun j => if j < 6 then σ a (6 * k + j) else 0
def ctL (G : GG) (ad : Nat → Nat) (σ : St) (k i : Nat) : va_E := match i with
  | 0 => .inr (0, lsF ad σ k)
  | 1 => .inl (G.2.2 0, 6, .inl (rowF σ 13 k))
  | _ => .inl (G.2.2 0, 6, .inl (rowF σ 14 k))
def roF (ad : Nat → Nat) (n : Nat) : Nat → Option Nat := fun k => if k < n then some (ad (3 * k + 9)) else none
def ctS (G : GG) (ad : Nat → Nat) (σ : St) (n : Nat) (τ : St) (r : Nat) : va_E := match r with
  | 0 => .inr (1, [.ref (ad 1), .ref (ad 2), .ref (ad 3), .ref (ad 4), .int (nI n)])
  | 1 => .inl (G.2.2 0, 6, .inl (σ 0))
  | 2 => .inl (G.2.2 0, 240, .inl (σ 1))
  | 3 => .inl (G.2.2 0, 20, .inl (σ 2))
  | 4 => .inl (G.2.2 1, 24, .inr (.inr (.inr (.inr (roF ad n)))))
  | 5 => .inl (G.2.2 0, 60, .inl (τ 0))
  | 6 => .inl (G.2.2 0, 7, .inl (τ 1))
  | 7 => .inl (G.2.2 0, 12, .inl (τ 2))
  | 8 => .inl (G.2.2 0, 36, .inl (τ 3))
  | r + 9 => ctL G ad σ (r / 3) (r % 3)
theorem ct_L {G : GG} {ad : Nat → Nat} {σ : St} {n : Nat} {τ : St}  (k : Nat) : ctS G ad σ n τ (3 * k + 9) = .inr (0, lsF ad σ k) := by
  show ctL G ad σ (3 * k / 3) (3 * k % 3) = _
  rw [show 3 * k / 3 = k by omega, show 3 * k % 3 = 0 by omega]
  rfl
theorem ct_L1 {G : GG} {ad : Nat → Nat} {σ : St} {n : Nat} {τ : St}  (k : Nat) : ctS G ad σ n τ (3 * k + 10) = .inl (G.2.2 0, 6, .inl (rowF σ 13 k)) := by
  show ctL G ad σ ((3 * k + 1) / 3) ((3 * k + 1) % 3) = _
  rw [show (3 * k + 1) / 3 = k by omega, show (3 * k + 1) % 3 = 1 by omega]
  rfl
theorem ct_L2 {G : GG} {ad : Nat → Nat} {σ : St} {n : Nat} {τ : St}  (k : Nat) : ctS G ad σ n τ (3 * k + 11) = .inl (G.2.2 0, 6, .inl (rowF σ 14 k)) := by
  show ctL G ad σ ((3 * k + 2) / 3) ((3 * k + 2) % 3) = _
  rw [show (3 * k + 2) / 3 = k by omega, show (3 * k + 2) % 3 = 2 by omega]
  rfl
theorem r_lt {k n : Nat} (h : k < n) : 3 * k + 9 < 3 * n + 9 := by omega
abbrev SyS (G : GG) (ad : Nat → Nat) (σ : St) (n : Nat) (τ : St) (s : State) (H : Heap) (locs : List Loc) : Prop := Sy G (3 * n + 9) ad (ctS G ad σ n τ) s H locs
abbrev PcS (G : GG) (ad : Nat → Nat) (σ : St) (n : Nat) (τ : St) (av : List Value) : Array Value → State → Prop := va_Pc av (fun U => SyS G ad σ n τ U U.heap [])
theorem lsF_ne {ad : Nat → Nat} {σ : St} {a i k : Nat} {x : Int32} (h : a < 3 ∨ 12 < a ∨ i ≠ k) : lsF ad (us σ a i x) k = lsF ad σ k := by
  have key : ∀ b, 3 ≤ b → b ≤ 12 → us σ a i x b k = σ b k := by
    intro b h1 h2
    unfold us
    by_cases hb : b = a
    · rw [if_pos hb]; unfold upd; rw [if_neg (by omega)]
    · rw [if_neg hb]
  unfold lsF
  rw [key 3 (by omega) (by omega), key 4 (by omega) (by omega), key 5 (by omega) (by omega), key 6 (by omega) (by omega), key 7 (by omega) (by omega), key 8 (by omega) (by omega), key 9 (by omega) (by omega), key 10 (by omega) (by omega), key 11 (by omega) (by omega), key 12 (by omega) (by omega)]
theorem rowF_ne {σ : St} {a b i k : Nat} {x : Int32} (h : a ≠ b ∨ i < 6 * k ∨ 6 * k + 6 ≤ i) : rowF (us σ a i x) b k = rowF σ b k := by
  unfold rowF us
  funext j
  by_cases hj : j < 6
  · rw [if_pos hj, if_pos hj]
    by_cases hb : b = a
    · rw [if_pos hb]; unfold upd; rw [if_neg (by omega)]
    · rw [if_neg hb]
  · rw [if_neg hj, if_neg hj]
theorem rowF_eq {σ : St} {a i k : Nat} {x : Int32} (h : i < 6) : rowF (us σ a (6 * k + i) x) a k = upd (rowF σ a k) i x := by
  unfold rowF us upd
  funext j
  simp only [if_true]
  by_cases hj : j < 6
  · rw [if_pos hj, if_pos hj]
    by_cases hb : j = i
    · rw [if_pos hb, if_pos (by omega)]
    · rw [if_neg hb, if_neg (by omega)]
  · rw [if_neg hj, if_neg hj, if_neg (by omega)]
theorem ctL_ne {G : GG} {ad : Nat → Nat} {σ : St} {a i k q : Nat} {x : Int32} (h : a < 3 ∨ (a ≤ 12 ∧ (i ≠ k ∨ q ≠ 0)) ∨ (13 ≤ a ∧ (q = 0 ∨ q + 12 ≠ a ∨ i < 6 * k ∨ 6 * k + 6 ≤ i))) (hq : q < 3) : ctL G ad (us σ a i x) k q = ctL G ad σ k q := by
  unfold ctL
  rcases (show q = 0 ∨ q = 1 ∨ q = 2 by omega) with rfl | rfl | rfl
  · show (.inr (0, lsF ad (us σ a i x) k) : va_E) = .inr (0, lsF ad σ k)
    rw [lsF_ne (by omega)]
  · show (.inl (G.2.2 0, 6, .inl (rowF (us σ a i x) 13 k)) : va_E) = .inl (G.2.2 0, 6, .inl (rowF σ 13 k))
    rw [rowF_ne (by omega)]
  · show (.inl (G.2.2 0, 6, .inl (rowF (us σ a i x) 14 k)) : va_E) = .inl (G.2.2 0, 6, .inl (rowF σ 14 k))
    rw [rowF_ne (by omega)]
theorem upA0 {G : GG} {ad : Nat → Nat} {σ : St} {n : Nat} {τ : St}  {i : Nat} {x : Int32} : va_up (ctS G ad σ n τ) 1 (.inl (G.2.2 0, 6, .inl (upd (σ 0) i x))) = ctS G ad (us σ 0 i x) n τ := by
  funext r
  match r with
  | 0 => rfl
  | 1 => rfl
  | 2 => rfl
  | 3 => rfl
  | 4 => rfl
  | 5 => rfl
  | 6 => rfl
  | 7 => rfl
  | 8 => rfl
  | r + 9 =>
    rw [va_up_ne _ _ (by omega)]
    exact (ctL_ne (G := G) (ad := ad) (σ := σ) (a := 0) (i := i) (x := x) (Or.inl (by decide)) (Nat.mod_lt r (by decide))).symm
theorem upA1 {G : GG} {ad : Nat → Nat} {σ : St} {n : Nat} {τ : St}  {i : Nat} {x : Int32} : va_up (ctS G ad σ n τ) 2 (.inl (G.2.2 0, 240, .inl (upd (σ 1) i x))) = ctS G ad (us σ 1 i x) n τ := by
  funext r
  match r with
  | 0 => rfl
  | 1 => rfl
  | 2 => rfl
  | 3 => rfl
  | 4 => rfl
  | 5 => rfl
  | 6 => rfl
  | 7 => rfl
  | 8 => rfl
  | r + 9 =>
    rw [va_up_ne _ _ (by omega)]
    exact (ctL_ne (G := G) (ad := ad) (σ := σ) (a := 1) (i := i) (x := x) (Or.inl (by decide)) (Nat.mod_lt r (by decide))).symm
theorem upA2 {G : GG} {ad : Nat → Nat} {σ : St} {n : Nat} {τ : St}  {i : Nat} {x : Int32} : va_up (ctS G ad σ n τ) 3 (.inl (G.2.2 0, 20, .inl (upd (σ 2) i x))) = ctS G ad (us σ 2 i x) n τ := by
  funext r
  match r with
  | 0 => rfl
  | 1 => rfl
  | 2 => rfl
  | 3 => rfl
  | 4 => rfl
  | 5 => rfl
  | 6 => rfl
  | 7 => rfl
  | 8 => rfl
  | r + 9 =>
    rw [va_up_ne _ _ (by omega)]
    exact (ctL_ne (G := G) (ad := ad) (σ := σ) (a := 2) (i := i) (x := x) (Or.inl (by decide)) (Nat.mod_lt r (by decide))).symm
theorem upL3 {G : GG} {ad : Nat → Nat} {σ : St} {n : Nat} {τ : St}  {k : Nat} {x : Int32} : va_up (ctS G ad σ n τ) (3 * k + 9) (.inr (0, (lsF ad σ k).set 0 (.int x))) = ctS G ad (us σ 3 k x) n τ := by
  funext r
  match r with
  | 0 => rw [va_up_ne _ _ (by omega)]; rfl
  | 1 => rw [va_up_ne _ _ (by omega)]; rfl
  | 2 => rw [va_up_ne _ _ (by omega)]; rfl
  | 3 => rw [va_up_ne _ _ (by omega)]; rfl
  | 4 => rw [va_up_ne _ _ (by omega)]; rfl
  | 5 => rw [va_up_ne _ _ (by omega)]; rfl
  | 6 => rw [va_up_ne _ _ (by omega)]; rfl
  | 7 => rw [va_up_ne _ _ (by omega)]; rfl
  | 8 => rw [va_up_ne _ _ (by omega)]; rfl
  | r + 9 =>
    by_cases h : r + 9 = 3 * k + 9
    · have h0 : r = 3 * k := by omega
      subst h0
      rw [va_up_self, ct_L]
      unfold lsF us upd
      simp
    · rw [va_up_ne _ _ h]
      refine (ctL_ne (G := G) (ad := ad) (σ := σ) (a := 3) (i := k) (x := x) (Or.inr (Or.inl ⟨by decide, ?_⟩)) (Nat.mod_lt r (by decide))).symm
      omega
theorem upL4 {G : GG} {ad : Nat → Nat} {σ : St} {n : Nat} {τ : St}  {k : Nat} {x : Int32} : va_up (ctS G ad σ n τ) (3 * k + 9) (.inr (0, (lsF ad σ k).set 1 (.int x))) = ctS G ad (us σ 4 k x) n τ := by
  funext r
  match r with
  | 0 => rw [va_up_ne _ _ (by omega)]; rfl
  | 1 => rw [va_up_ne _ _ (by omega)]; rfl
  | 2 => rw [va_up_ne _ _ (by omega)]; rfl
  | 3 => rw [va_up_ne _ _ (by omega)]; rfl
  | 4 => rw [va_up_ne _ _ (by omega)]; rfl
  | 5 => rw [va_up_ne _ _ (by omega)]; rfl
  | 6 => rw [va_up_ne _ _ (by omega)]; rfl
  | 7 => rw [va_up_ne _ _ (by omega)]; rfl
  | 8 => rw [va_up_ne _ _ (by omega)]; rfl
  | r + 9 =>
    by_cases h : r + 9 = 3 * k + 9
    · have h0 : r = 3 * k := by omega
      subst h0
      rw [va_up_self, ct_L]
      unfold lsF us upd
      simp
    · rw [va_up_ne _ _ h]
      refine (ctL_ne (G := G) (ad := ad) (σ := σ) (a := 4) (i := k) (x := x) (Or.inr (Or.inl ⟨by decide, ?_⟩)) (Nat.mod_lt r (by decide))).symm
      omega
theorem upL6 {G : GG} {ad : Nat → Nat} {σ : St} {n : Nat} {τ : St}  {k : Nat} {x : Int32} : va_up (ctS G ad σ n τ) (3 * k + 9) (.inr (0, (lsF ad σ k).set 2 (.int x))) = ctS G ad (us σ 6 k x) n τ := by
  funext r
  match r with
  | 0 => rw [va_up_ne _ _ (by omega)]; rfl
  | 1 => rw [va_up_ne _ _ (by omega)]; rfl
  | 2 => rw [va_up_ne _ _ (by omega)]; rfl
  | 3 => rw [va_up_ne _ _ (by omega)]; rfl
  | 4 => rw [va_up_ne _ _ (by omega)]; rfl
  | 5 => rw [va_up_ne _ _ (by omega)]; rfl
  | 6 => rw [va_up_ne _ _ (by omega)]; rfl
  | 7 => rw [va_up_ne _ _ (by omega)]; rfl
  | 8 => rw [va_up_ne _ _ (by omega)]; rfl
  | r + 9 =>
    by_cases h : r + 9 = 3 * k + 9
    · have h0 : r = 3 * k := by omega
      subst h0
      rw [va_up_self, ct_L]
      unfold lsF us upd
      simp
    · rw [va_up_ne _ _ h]
      refine (ctL_ne (G := G) (ad := ad) (σ := σ) (a := 6) (i := k) (x := x) (Or.inr (Or.inl ⟨by decide, ?_⟩)) (Nat.mod_lt r (by decide))).symm
      omega
theorem upL5 {G : GG} {ad : Nat → Nat} {σ : St} {n : Nat} {τ : St}  {k : Nat} {x : Int32} : va_up (ctS G ad σ n τ) (3 * k + 9) (.inr (0, (lsF ad σ k).set 3 (.int x))) = ctS G ad (us σ 5 k x) n τ := by
  funext r
  match r with
  | 0 => rw [va_up_ne _ _ (by omega)]; rfl
  | 1 => rw [va_up_ne _ _ (by omega)]; rfl
  | 2 => rw [va_up_ne _ _ (by omega)]; rfl
  | 3 => rw [va_up_ne _ _ (by omega)]; rfl
  | 4 => rw [va_up_ne _ _ (by omega)]; rfl
  | 5 => rw [va_up_ne _ _ (by omega)]; rfl
  | 6 => rw [va_up_ne _ _ (by omega)]; rfl
  | 7 => rw [va_up_ne _ _ (by omega)]; rfl
  | 8 => rw [va_up_ne _ _ (by omega)]; rfl
  | r + 9 =>
    by_cases h : r + 9 = 3 * k + 9
    · have h0 : r = 3 * k := by omega
      subst h0
      rw [va_up_self, ct_L]
      unfold lsF us upd
      simp
    · rw [va_up_ne _ _ h]
      refine (ctL_ne (G := G) (ad := ad) (σ := σ) (a := 5) (i := k) (x := x) (Or.inr (Or.inl ⟨by decide, ?_⟩)) (Nat.mod_lt r (by decide))).symm
      omega
theorem upL7 {G : GG} {ad : Nat → Nat} {σ : St} {n : Nat} {τ : St}  {k : Nat} {x : Int32} : va_up (ctS G ad σ n τ) (3 * k + 9) (.inr (0, (lsF ad σ k).set 4 (.int x))) = ctS G ad (us σ 7 k x) n τ := by
  funext r
  match r with
  | 0 => rw [va_up_ne _ _ (by omega)]; rfl
  | 1 => rw [va_up_ne _ _ (by omega)]; rfl
  | 2 => rw [va_up_ne _ _ (by omega)]; rfl
  | 3 => rw [va_up_ne _ _ (by omega)]; rfl
  | 4 => rw [va_up_ne _ _ (by omega)]; rfl
  | 5 => rw [va_up_ne _ _ (by omega)]; rfl
  | 6 => rw [va_up_ne _ _ (by omega)]; rfl
  | 7 => rw [va_up_ne _ _ (by omega)]; rfl
  | 8 => rw [va_up_ne _ _ (by omega)]; rfl
  | r + 9 =>
    by_cases h : r + 9 = 3 * k + 9
    · have h0 : r = 3 * k := by omega
      subst h0
      rw [va_up_self, ct_L]
      unfold lsF us upd
      simp
    · rw [va_up_ne _ _ h]
      refine (ctL_ne (G := G) (ad := ad) (σ := σ) (a := 7) (i := k) (x := x) (Or.inr (Or.inl ⟨by decide, ?_⟩)) (Nat.mod_lt r (by decide))).symm
      omega
theorem upL8 {G : GG} {ad : Nat → Nat} {σ : St} {n : Nat} {τ : St}  {k : Nat} {x : Int32} : va_up (ctS G ad σ n τ) (3 * k + 9) (.inr (0, (lsF ad σ k).set 5 (.int x))) = ctS G ad (us σ 8 k x) n τ := by
  funext r
  match r with
  | 0 => rw [va_up_ne _ _ (by omega)]; rfl
  | 1 => rw [va_up_ne _ _ (by omega)]; rfl
  | 2 => rw [va_up_ne _ _ (by omega)]; rfl
  | 3 => rw [va_up_ne _ _ (by omega)]; rfl
  | 4 => rw [va_up_ne _ _ (by omega)]; rfl
  | 5 => rw [va_up_ne _ _ (by omega)]; rfl
  | 6 => rw [va_up_ne _ _ (by omega)]; rfl
  | 7 => rw [va_up_ne _ _ (by omega)]; rfl
  | 8 => rw [va_up_ne _ _ (by omega)]; rfl
  | r + 9 =>
    by_cases h : r + 9 = 3 * k + 9
    · have h0 : r = 3 * k := by omega
      subst h0
      rw [va_up_self, ct_L]
      unfold lsF us upd
      simp
    · rw [va_up_ne _ _ h]
      refine (ctL_ne (G := G) (ad := ad) (σ := σ) (a := 8) (i := k) (x := x) (Or.inr (Or.inl ⟨by decide, ?_⟩)) (Nat.mod_lt r (by decide))).symm
      omega
theorem upL9 {G : GG} {ad : Nat → Nat} {σ : St} {n : Nat} {τ : St}  {k : Nat} {x : Int32} : va_up (ctS G ad σ n τ) (3 * k + 9) (.inr (0, (lsF ad σ k).set 6 (.int x))) = ctS G ad (us σ 9 k x) n τ := by
  funext r
  match r with
  | 0 => rw [va_up_ne _ _ (by omega)]; rfl
  | 1 => rw [va_up_ne _ _ (by omega)]; rfl
  | 2 => rw [va_up_ne _ _ (by omega)]; rfl
  | 3 => rw [va_up_ne _ _ (by omega)]; rfl
  | 4 => rw [va_up_ne _ _ (by omega)]; rfl
  | 5 => rw [va_up_ne _ _ (by omega)]; rfl
  | 6 => rw [va_up_ne _ _ (by omega)]; rfl
  | 7 => rw [va_up_ne _ _ (by omega)]; rfl
  | 8 => rw [va_up_ne _ _ (by omega)]; rfl
  | r + 9 =>
    by_cases h : r + 9 = 3 * k + 9
    · have h0 : r = 3 * k := by omega
      subst h0
      rw [va_up_self, ct_L]
      unfold lsF us upd
      simp
    · rw [va_up_ne _ _ h]
      refine (ctL_ne (G := G) (ad := ad) (σ := σ) (a := 9) (i := k) (x := x) (Or.inr (Or.inl ⟨by decide, ?_⟩)) (Nat.mod_lt r (by decide))).symm
      omega
theorem upL10 {G : GG} {ad : Nat → Nat} {σ : St} {n : Nat} {τ : St}  {k : Nat} {x : Int32} : va_up (ctS G ad σ n τ) (3 * k + 9) (.inr (0, (lsF ad σ k).set 7 (.int x))) = ctS G ad (us σ 10 k x) n τ := by
  funext r
  match r with
  | 0 => rw [va_up_ne _ _ (by omega)]; rfl
  | 1 => rw [va_up_ne _ _ (by omega)]; rfl
  | 2 => rw [va_up_ne _ _ (by omega)]; rfl
  | 3 => rw [va_up_ne _ _ (by omega)]; rfl
  | 4 => rw [va_up_ne _ _ (by omega)]; rfl
  | 5 => rw [va_up_ne _ _ (by omega)]; rfl
  | 6 => rw [va_up_ne _ _ (by omega)]; rfl
  | 7 => rw [va_up_ne _ _ (by omega)]; rfl
  | 8 => rw [va_up_ne _ _ (by omega)]; rfl
  | r + 9 =>
    by_cases h : r + 9 = 3 * k + 9
    · have h0 : r = 3 * k := by omega
      subst h0
      rw [va_up_self, ct_L]
      unfold lsF us upd
      simp
    · rw [va_up_ne _ _ h]
      refine (ctL_ne (G := G) (ad := ad) (σ := σ) (a := 10) (i := k) (x := x) (Or.inr (Or.inl ⟨by decide, ?_⟩)) (Nat.mod_lt r (by decide))).symm
      omega
theorem upL11 {G : GG} {ad : Nat → Nat} {σ : St} {n : Nat} {τ : St}  {k : Nat} {x : Int32} : va_up (ctS G ad σ n τ) (3 * k + 9) (.inr (0, (lsF ad σ k).set 8 (.int x))) = ctS G ad (us σ 11 k x) n τ := by
  funext r
  match r with
  | 0 => rw [va_up_ne _ _ (by omega)]; rfl
  | 1 => rw [va_up_ne _ _ (by omega)]; rfl
  | 2 => rw [va_up_ne _ _ (by omega)]; rfl
  | 3 => rw [va_up_ne _ _ (by omega)]; rfl
  | 4 => rw [va_up_ne _ _ (by omega)]; rfl
  | 5 => rw [va_up_ne _ _ (by omega)]; rfl
  | 6 => rw [va_up_ne _ _ (by omega)]; rfl
  | 7 => rw [va_up_ne _ _ (by omega)]; rfl
  | 8 => rw [va_up_ne _ _ (by omega)]; rfl
  | r + 9 =>
    by_cases h : r + 9 = 3 * k + 9
    · have h0 : r = 3 * k := by omega
      subst h0
      rw [va_up_self, ct_L]
      unfold lsF us upd
      simp
    · rw [va_up_ne _ _ h]
      refine (ctL_ne (G := G) (ad := ad) (σ := σ) (a := 11) (i := k) (x := x) (Or.inr (Or.inl ⟨by decide, ?_⟩)) (Nat.mod_lt r (by decide))).symm
      omega
theorem upL12 {G : GG} {ad : Nat → Nat} {σ : St} {n : Nat} {τ : St}  {k : Nat} {x : Int32} : va_up (ctS G ad σ n τ) (3 * k + 9) (.inr (0, (lsF ad σ k).set 11 (.int x))) = ctS G ad (us σ 12 k x) n τ := by
  funext r
  match r with
  | 0 => rw [va_up_ne _ _ (by omega)]; rfl
  | 1 => rw [va_up_ne _ _ (by omega)]; rfl
  | 2 => rw [va_up_ne _ _ (by omega)]; rfl
  | 3 => rw [va_up_ne _ _ (by omega)]; rfl
  | 4 => rw [va_up_ne _ _ (by omega)]; rfl
  | 5 => rw [va_up_ne _ _ (by omega)]; rfl
  | 6 => rw [va_up_ne _ _ (by omega)]; rfl
  | 7 => rw [va_up_ne _ _ (by omega)]; rfl
  | 8 => rw [va_up_ne _ _ (by omega)]; rfl
  | r + 9 =>
    by_cases h : r + 9 = 3 * k + 9
    · have h0 : r = 3 * k := by omega
      subst h0
      rw [va_up_self, ct_L]
      unfold lsF us upd
      simp
    · rw [va_up_ne _ _ h]
      refine (ctL_ne (G := G) (ad := ad) (σ := σ) (a := 12) (i := k) (x := x) (Or.inr (Or.inl ⟨by decide, ?_⟩)) (Nat.mod_lt r (by decide))).symm
      omega
theorem upR13 {G : GG} {ad : Nat → Nat} {σ : St} {n : Nat} {τ : St}  {k i : Nat} {x : Int32} (hi : i < 6) : va_up (ctS G ad σ n τ) (3 * k + 10) (.inl (G.2.2 0, 6, .inl (upd (rowF σ 13 k) i x))) = ctS G ad (us σ 13 (6 * k + i) x) n τ := by
  funext r
  match r with
  | 0 => rw [va_up_ne _ _ (by omega)]; rfl
  | 1 => rw [va_up_ne _ _ (by omega)]; rfl
  | 2 => rw [va_up_ne _ _ (by omega)]; rfl
  | 3 => rw [va_up_ne _ _ (by omega)]; rfl
  | 4 => rw [va_up_ne _ _ (by omega)]; rfl
  | 5 => rw [va_up_ne _ _ (by omega)]; rfl
  | 6 => rw [va_up_ne _ _ (by omega)]; rfl
  | 7 => rw [va_up_ne _ _ (by omega)]; rfl
  | 8 => rw [va_up_ne _ _ (by omega)]; rfl
  | r + 9 =>
    by_cases h : r + 9 = 3 * k + 10
    · have h0 : r = 3 * k + 1 := by omega
      subst h0
      rw [va_up_self]
      show _ = ctS G ad (us σ 13 (6 * k + i) x) n τ (3 * k + 10)
      rw [ct_L1, rowF_eq hi]
    · rw [va_up_ne _ _ h]
      refine (ctL_ne (G := G) (ad := ad) (σ := σ) (a := 13) (i := 6 * k + i) (x := x) (Or.inr (Or.inr ⟨by decide, ?_⟩)) (Nat.mod_lt r (by decide))).symm
      omega
theorem upR14 {G : GG} {ad : Nat → Nat} {σ : St} {n : Nat} {τ : St}  {k i : Nat} {x : Int32} (hi : i < 6) : va_up (ctS G ad σ n τ) (3 * k + 11) (.inl (G.2.2 0, 6, .inl (upd (rowF σ 14 k) i x))) = ctS G ad (us σ 14 (6 * k + i) x) n τ := by
  funext r
  match r with
  | 0 => rw [va_up_ne _ _ (by omega)]; rfl
  | 1 => rw [va_up_ne _ _ (by omega)]; rfl
  | 2 => rw [va_up_ne _ _ (by omega)]; rfl
  | 3 => rw [va_up_ne _ _ (by omega)]; rfl
  | 4 => rw [va_up_ne _ _ (by omega)]; rfl
  | 5 => rw [va_up_ne _ _ (by omega)]; rfl
  | 6 => rw [va_up_ne _ _ (by omega)]; rfl
  | 7 => rw [va_up_ne _ _ (by omega)]; rfl
  | 8 => rw [va_up_ne _ _ (by omega)]; rfl
  | r + 9 =>
    by_cases h : r + 9 = 3 * k + 11
    · have h0 : r = 3 * k + 2 := by omega
      subst h0
      rw [va_up_self]
      show _ = ctS G ad (us σ 14 (6 * k + i) x) n τ (3 * k + 11)
      rw [ct_L2, rowF_eq hi]
    · rw [va_up_ne _ _ h]
      refine (ctL_ne (G := G) (ad := ad) (σ := σ) (a := 14) (i := 6 * k + i) (x := x) (Or.inr (Or.inr ⟨by decide, ?_⟩)) (Nat.mod_lt r (by decide))).symm
      omega
theorem upM0 {G : GG} {ad : Nat → Nat} {σ : St} {n : Nat} {τ : St}  {i : Nat} {x : Int32} : va_up (ctS G ad σ n τ) 5 (.inl (G.2.2 0, 60, .inl (upd (τ 0) i x))) = ctS G ad σ n (us τ 0 i x) := by
  funext r
  match r with
  | 0 => rfl
  | 1 => rfl
  | 2 => rfl
  | 3 => rfl
  | 4 => rfl
  | 5 => rfl
  | 6 => rfl
  | 7 => rfl
  | 8 => rfl
  | r + 9 => rw [va_up_ne _ _ (by omega)]; rfl
theorem upM1 {G : GG} {ad : Nat → Nat} {σ : St} {n : Nat} {τ : St}  {i : Nat} {x : Int32} : va_up (ctS G ad σ n τ) 6 (.inl (G.2.2 0, 7, .inl (upd (τ 1) i x))) = ctS G ad σ n (us τ 1 i x) := by
  funext r
  match r with
  | 0 => rfl
  | 1 => rfl
  | 2 => rfl
  | 3 => rfl
  | 4 => rfl
  | 5 => rfl
  | 6 => rfl
  | 7 => rfl
  | 8 => rfl
  | r + 9 => rw [va_up_ne _ _ (by omega)]; rfl
theorem upM2 {G : GG} {ad : Nat → Nat} {σ : St} {n : Nat} {τ : St}  {i : Nat} {x : Int32} : va_up (ctS G ad σ n τ) 7 (.inl (G.2.2 0, 12, .inl (upd (τ 2) i x))) = ctS G ad σ n (us τ 2 i x) := by
  funext r
  match r with
  | 0 => rfl
  | 1 => rfl
  | 2 => rfl
  | 3 => rfl
  | 4 => rfl
  | 5 => rfl
  | 6 => rfl
  | 7 => rfl
  | 8 => rfl
  | r + 9 => rw [va_up_ne _ _ (by omega)]; rfl
theorem upM3 {G : GG} {ad : Nat → Nat} {σ : St} {n : Nat} {τ : St}  {i : Nat} {x : Int32} : va_up (ctS G ad σ n τ) 8 (.inl (G.2.2 0, 36, .inl (upd (τ 3) i x))) = ctS G ad σ n (us τ 3 i x) := by
  funext r
  match r with
  | 0 => rfl
  | 1 => rfl
  | 2 => rfl
  | 3 => rfl
  | 4 => rfl
  | 5 => rfl
  | 6 => rfl
  | 7 => rfl
  | 8 => rfl
  | r + 9 => rw [va_up_ne _ _ (by omega)]; rfl
section GS
variable {p : Program} {l : Launch} {e : Env} {R : Room} {s : State} {m : MethodId} {args : Array Value} {below : List Frame} {meth : Method} {c : Code} {H : Heap} {locs : List Loc} {cells slots : Nat} {Q : State → Prop}
variable {cc : ByteArray} {nL : Nat} {Ts : List Cond} {own : String} {pc : Nat} {ls : Array Slot} {rest : List Value} {G : GG} {ad : Nat → Nat} {σ : St} {n : Nat} {τ : St} 
theorem rdA0 (hC : CallFix p m c cc nL s args Ts own) (hY : SyS G ad σ n τ s H locs)  {i : Int32} (hin : 0 ≤ i.toInt ∧ i.toInt < 6) (hdg : decode cc pc = .ok (.iaload, 1)) (kk : W p l e R s m args below meth c H locs cells slots Q (F0 m (pc + 1) ls (.int (σ 0 (ix i)) :: rest))) : W p l e R s m args below meth c H locs cells slots Q (F0 m pc ls (.int i :: .ref (ad (1)) :: rest)) :=
  g_iald hC hY (1) (by omega) (n := 6) (f := σ 0) rfl hin hdg kk
theorem wrA0 (hC : CallFix p m c cc nL s args Ts own) (hY : SyS G ad σ n τ s H locs)  {i x : Int32} (hin : 0 ≤ i.toInt ∧ i.toInt < 6) (hdg : decode cc pc = .ok (.iastore, 1)) (kk : ∀ (H1 : Heap) (locs1 : List Loc), SyS G ad (us σ 0 (ix i) x) n τ s H1 locs1 → W p l e R s m args below meth c H1 locs1 cells slots Q (F0 m (pc + 1) ls (rest))) : W p l e R s m args below meth c H locs cells slots Q (F0 m pc ls (.int x :: .int i :: .ref (ad (1)) :: rest)) :=
  g_iast hC hY (1) (by omega) (n := 6) (f := σ 0) rfl hin hdg (fun H1 locs1 h => kk H1 locs1 (by rw [upA0] at h; exact h))
theorem rdA1 (hC : CallFix p m c cc nL s args Ts own) (hY : SyS G ad σ n τ s H locs)  {i : Int32} (hin : 0 ≤ i.toInt ∧ i.toInt < 240) (hdg : decode cc pc = .ok (.iaload, 1)) (kk : W p l e R s m args below meth c H locs cells slots Q (F0 m (pc + 1) ls (.int (σ 1 (ix i)) :: rest))) : W p l e R s m args below meth c H locs cells slots Q (F0 m pc ls (.int i :: .ref (ad (2)) :: rest)) :=
  g_iald hC hY (2) (by omega) (n := 240) (f := σ 1) rfl hin hdg kk
theorem wrA1 (hC : CallFix p m c cc nL s args Ts own) (hY : SyS G ad σ n τ s H locs)  {i x : Int32} (hin : 0 ≤ i.toInt ∧ i.toInt < 240) (hdg : decode cc pc = .ok (.iastore, 1)) (kk : ∀ (H1 : Heap) (locs1 : List Loc), SyS G ad (us σ 1 (ix i) x) n τ s H1 locs1 → W p l e R s m args below meth c H1 locs1 cells slots Q (F0 m (pc + 1) ls (rest))) : W p l e R s m args below meth c H locs cells slots Q (F0 m pc ls (.int x :: .int i :: .ref (ad (2)) :: rest)) :=
  g_iast hC hY (2) (by omega) (n := 240) (f := σ 1) rfl hin hdg (fun H1 locs1 h => kk H1 locs1 (by rw [upA1] at h; exact h))
theorem rdA2 (hC : CallFix p m c cc nL s args Ts own) (hY : SyS G ad σ n τ s H locs)  {i : Int32} (hin : 0 ≤ i.toInt ∧ i.toInt < 20) (hdg : decode cc pc = .ok (.iaload, 1)) (kk : W p l e R s m args below meth c H locs cells slots Q (F0 m (pc + 1) ls (.int (σ 2 (ix i)) :: rest))) : W p l e R s m args below meth c H locs cells slots Q (F0 m pc ls (.int i :: .ref (ad (3)) :: rest)) :=
  g_iald hC hY (3) (by omega) (n := 20) (f := σ 2) rfl hin hdg kk
theorem wrA2 (hC : CallFix p m c cc nL s args Ts own) (hY : SyS G ad σ n τ s H locs)  {i x : Int32} (hin : 0 ≤ i.toInt ∧ i.toInt < 20) (hdg : decode cc pc = .ok (.iastore, 1)) (kk : ∀ (H1 : Heap) (locs1 : List Loc), SyS G ad (us σ 2 (ix i) x) n τ s H1 locs1 → W p l e R s m args below meth c H1 locs1 cells slots Q (F0 m (pc + 1) ls (rest))) : W p l e R s m args below meth c H locs cells slots Q (F0 m pc ls (.int x :: .int i :: .ref (ad (3)) :: rest)) :=
  g_iast hC hY (3) (by omega) (n := 20) (f := σ 2) rfl hin hdg (fun H1 locs1 h => kk H1 locs1 (by rw [upA2] at h; exact h))
theorem rdM0 (hC : CallFix p m c cc nL s args Ts own) (hY : SyS G ad σ n τ s H locs)  {i : Int32} (hin : 0 ≤ i.toInt ∧ i.toInt < 60) (hdg : decode cc pc = .ok (.iaload, 1)) (kk : W p l e R s m args below meth c H locs cells slots Q (F0 m (pc + 1) ls (.int (τ 0 (ix i)) :: rest))) : W p l e R s m args below meth c H locs cells slots Q (F0 m pc ls (.int i :: .ref (ad (5)) :: rest)) :=
  g_iald hC hY (5) (by omega) (n := 60) (f := τ 0) rfl hin hdg kk
theorem wrM0 (hC : CallFix p m c cc nL s args Ts own) (hY : SyS G ad σ n τ s H locs)  {i x : Int32} (hin : 0 ≤ i.toInt ∧ i.toInt < 60) (hdg : decode cc pc = .ok (.iastore, 1)) (kk : ∀ (H1 : Heap) (locs1 : List Loc), SyS G ad σ n (us τ 0 (ix i) x) s H1 locs1 → W p l e R s m args below meth c H1 locs1 cells slots Q (F0 m (pc + 1) ls (rest))) : W p l e R s m args below meth c H locs cells slots Q (F0 m pc ls (.int x :: .int i :: .ref (ad (5)) :: rest)) :=
  g_iast hC hY (5) (by omega) (n := 60) (f := τ 0) rfl hin hdg (fun H1 locs1 h => kk H1 locs1 (by rw [upM0] at h; exact h))
theorem rdM1 (hC : CallFix p m c cc nL s args Ts own) (hY : SyS G ad σ n τ s H locs)  {i : Int32} (hin : 0 ≤ i.toInt ∧ i.toInt < 7) (hdg : decode cc pc = .ok (.iaload, 1)) (kk : W p l e R s m args below meth c H locs cells slots Q (F0 m (pc + 1) ls (.int (τ 1 (ix i)) :: rest))) : W p l e R s m args below meth c H locs cells slots Q (F0 m pc ls (.int i :: .ref (ad (6)) :: rest)) :=
  g_iald hC hY (6) (by omega) (n := 7) (f := τ 1) rfl hin hdg kk
theorem wrM1 (hC : CallFix p m c cc nL s args Ts own) (hY : SyS G ad σ n τ s H locs)  {i x : Int32} (hin : 0 ≤ i.toInt ∧ i.toInt < 7) (hdg : decode cc pc = .ok (.iastore, 1)) (kk : ∀ (H1 : Heap) (locs1 : List Loc), SyS G ad σ n (us τ 1 (ix i) x) s H1 locs1 → W p l e R s m args below meth c H1 locs1 cells slots Q (F0 m (pc + 1) ls (rest))) : W p l e R s m args below meth c H locs cells slots Q (F0 m pc ls (.int x :: .int i :: .ref (ad (6)) :: rest)) :=
  g_iast hC hY (6) (by omega) (n := 7) (f := τ 1) rfl hin hdg (fun H1 locs1 h => kk H1 locs1 (by rw [upM1] at h; exact h))
theorem rdM2 (hC : CallFix p m c cc nL s args Ts own) (hY : SyS G ad σ n τ s H locs)  {i : Int32} (hin : 0 ≤ i.toInt ∧ i.toInt < 12) (hdg : decode cc pc = .ok (.iaload, 1)) (kk : W p l e R s m args below meth c H locs cells slots Q (F0 m (pc + 1) ls (.int (τ 2 (ix i)) :: rest))) : W p l e R s m args below meth c H locs cells slots Q (F0 m pc ls (.int i :: .ref (ad (7)) :: rest)) :=
  g_iald hC hY (7) (by omega) (n := 12) (f := τ 2) rfl hin hdg kk
theorem wrM2 (hC : CallFix p m c cc nL s args Ts own) (hY : SyS G ad σ n τ s H locs)  {i x : Int32} (hin : 0 ≤ i.toInt ∧ i.toInt < 12) (hdg : decode cc pc = .ok (.iastore, 1)) (kk : ∀ (H1 : Heap) (locs1 : List Loc), SyS G ad σ n (us τ 2 (ix i) x) s H1 locs1 → W p l e R s m args below meth c H1 locs1 cells slots Q (F0 m (pc + 1) ls (rest))) : W p l e R s m args below meth c H locs cells slots Q (F0 m pc ls (.int x :: .int i :: .ref (ad (7)) :: rest)) :=
  g_iast hC hY (7) (by omega) (n := 12) (f := τ 2) rfl hin hdg (fun H1 locs1 h => kk H1 locs1 (by rw [upM2] at h; exact h))
theorem rdM3 (hC : CallFix p m c cc nL s args Ts own) (hY : SyS G ad σ n τ s H locs)  {i : Int32} (hin : 0 ≤ i.toInt ∧ i.toInt < 36) (hdg : decode cc pc = .ok (.iaload, 1)) (kk : W p l e R s m args below meth c H locs cells slots Q (F0 m (pc + 1) ls (.int (τ 3 (ix i)) :: rest))) : W p l e R s m args below meth c H locs cells slots Q (F0 m pc ls (.int i :: .ref (ad (8)) :: rest)) :=
  g_iald hC hY (8) (by omega) (n := 36) (f := τ 3) rfl hin hdg kk
theorem wrM3 (hC : CallFix p m c cc nL s args Ts own) (hY : SyS G ad σ n τ s H locs)  {i x : Int32} (hin : 0 ≤ i.toInt ∧ i.toInt < 36) (hdg : decode cc pc = .ok (.iastore, 1)) (kk : ∀ (H1 : Heap) (locs1 : List Loc), SyS G ad σ n (us τ 3 (ix i) x) s H1 locs1 → W p l e R s m args below meth c H1 locs1 cells slots Q (F0 m (pc + 1) ls (rest))) : W p l e R s m args below meth c H locs cells slots Q (F0 m pc ls (.int x :: .int i :: .ref (ad (8)) :: rest)) :=
  g_iast hC hY (8) (by omega) (n := 36) (f := τ 3) rfl hin hdg (fun H1 locs1 h => kk H1 locs1 (by rw [upM3] at h; exact h))
theorem ix_lt {i : Int32} {N : Nat} (h : 0 ≤ i.toInt ∧ i.toInt < N) : ix i < N := by
  have h1 : ¬ i < 0 := by rw [Int32.lt_iff_toInt_lt]; have := h.1; simp; omega
  obtain ⟨k, hk, rfl⟩ := nI_of h1
  have h2 := h.2
  rw [nI_toInt hk] at h2
  show (nI k).toNatClampNeg < N
  rw [nI_clamp hk]
  omega
theorem ix_toInt {i : Int32} (h : 0 ≤ i.toInt) : (ix i : Int) = i.toInt := by
  have h1 : ¬ i < 0 := by rw [Int32.lt_iff_toInt_lt]; simp; omega
  obtain ⟨k, hk, rfl⟩ := nI_of h1
  rw [nI_toInt hk]
  show ((nI k).toNatClampNeg : Int) = k
  rw [nI_clamp hk]
theorem rdL13 (hC : CallFix p m c cc nL s args Ts own) (hY : SyS G ad σ n τ s H locs) {k : Nat} (hk : k < n) {i : Int32} (hin : 0 ≤ i.toInt ∧ i.toInt < 6) (hdg : decode cc pc = .ok (.iaload, 1)) (kk : W p l e R s m args below meth c H locs cells slots Q (F0 m (pc + 1) ls (.int (rowF σ 13 k (ix i)) :: rest))) : W p l e R s m args below meth c H locs cells slots Q (F0 m pc ls (.int i :: .ref (ad (3 * k + 10)) :: rest)) :=
  g_iald hC hY (3 * k + 10) (by omega) (n := 6) (f := rowF σ 13 k) (ct_L1 k) hin hdg kk
theorem wrL13 (hC : CallFix p m c cc nL s args Ts own) (hY : SyS G ad σ n τ s H locs) {k : Nat} (hk : k < n) {i x : Int32} (hin : 0 ≤ i.toInt ∧ i.toInt < 6) (hdg : decode cc pc = .ok (.iastore, 1)) (kk : ∀ (H1 : Heap) (locs1 : List Loc), SyS G ad (us σ 13 (6 * k + ix i) x) n τ s H1 locs1 → W p l e R s m args below meth c H1 locs1 cells slots Q (F0 m (pc + 1) ls (rest))) : W p l e R s m args below meth c H locs cells slots Q (F0 m pc ls (.int x :: .int i :: .ref (ad (3 * k + 10)) :: rest)) :=
  g_iast hC hY (3 * k + 10) (by omega) (n := 6) (f := rowF σ 13 k) (ct_L1 k) hin hdg (fun H1 locs1 h => kk H1 locs1 (by rw [upR13 (ix_lt (N := 6) hin)] at h; exact h))
theorem rdL14 (hC : CallFix p m c cc nL s args Ts own) (hY : SyS G ad σ n τ s H locs) {k : Nat} (hk : k < n) {i : Int32} (hin : 0 ≤ i.toInt ∧ i.toInt < 6) (hdg : decode cc pc = .ok (.iaload, 1)) (kk : W p l e R s m args below meth c H locs cells slots Q (F0 m (pc + 1) ls (.int (rowF σ 14 k (ix i)) :: rest))) : W p l e R s m args below meth c H locs cells slots Q (F0 m pc ls (.int i :: .ref (ad (3 * k + 11)) :: rest)) :=
  g_iald hC hY (3 * k + 11) (by omega) (n := 6) (f := rowF σ 14 k) (ct_L2 k) hin hdg kk
theorem wrL14 (hC : CallFix p m c cc nL s args Ts own) (hY : SyS G ad σ n τ s H locs) {k : Nat} (hk : k < n) {i x : Int32} (hin : 0 ≤ i.toInt ∧ i.toInt < 6) (hdg : decode cc pc = .ok (.iastore, 1)) (kk : ∀ (H1 : Heap) (locs1 : List Loc), SyS G ad (us σ 14 (6 * k + ix i) x) n τ s H1 locs1 → W p l e R s m args below meth c H1 locs1 cells slots Q (F0 m (pc + 1) ls (rest))) : W p l e R s m args below meth c H locs cells slots Q (F0 m pc ls (.int x :: .int i :: .ref (ad (3 * k + 11)) :: rest)) :=
  g_iast hC hY (3 * k + 11) (by omega) (n := 6) (f := rowF σ 14 k) (ct_L2 k) hin hdg (fun H1 locs1 h => kk H1 locs1 (by rw [upR14 (ix_lt (N := 6) hin)] at h; exact h))
theorem rdRoll (hC : CallFix p m c cc nL s args Ts own) (hY : SyS G ad σ n τ s H locs) {i : Int32} (hin : 0 ≤ i.toInt ∧ i.toInt < 24) (hdg : decode cc pc = .ok (.aaload, 1)) (kk : W p l e R s m args below meth c H locs cells slots Q (F0 m (pc + 1) ls (va_rf (roF ad n (ix i)) :: rest))) : W p l e R s m args below meth c H locs cells slots Q (F0 m pc ls (.int i :: .ref (ad 4) :: rest)) :=
  g_aald hC hY 4 (by omega) (n := 24) (f := roF ad n) rfl hin hdg kk
theorem gtL_unit (hC : CallFix p m c cc nL s args Ts own) (hin : ∀ w ∈ wsX00, w ∈ Ts) (hY : SyS G ad σ n τ s H locs) {k : Nat} (hk : k < n) {index : Nat} (hlink : Cond.fieldLink own index (TX0 0).1 (TX0 0).2.1 (TX0 0).2.2.1 ∈ Ts) (hdg : decode cc pc = .ok (.getfield index, 3)) (kk : W p l e R s m args below meth c H locs cells slots Q (F0 m (pc + 3) ls (.int (σ 3 k) :: rest))) : W p l e R s m args below meth c H locs cells slots Q (F0 m pc ls (.ref (ad (3 * k + 9)) :: rest)) :=
  g_get hC hY (3 * k + 9) (by omega) (ct_L k) (q := (RX0, TX0, 12)) rfl hin 0 (by decide) hlink rfl hdg kk
theorem gtL_from (hC : CallFix p m c cc nL s args Ts own) (hin : ∀ w ∈ wsX00, w ∈ Ts) (hY : SyS G ad σ n τ s H locs) {k : Nat} (hk : k < n) {index : Nat} (hlink : Cond.fieldLink own index (TX0 1).1 (TX0 1).2.1 (TX0 1).2.2.1 ∈ Ts) (hdg : decode cc pc = .ok (.getfield index, 3)) (kk : W p l e R s m args below meth c H locs cells slots Q (F0 m (pc + 3) ls (.int (σ 4 k) :: rest))) : W p l e R s m args below meth c H locs cells slots Q (F0 m pc ls (.ref (ad (3 * k + 9)) :: rest)) :=
  g_get hC hY (3 * k + 9) (by omega) (ct_L k) (q := (RX0, TX0, 12)) rfl hin 1 (by decide) hlink rfl hdg kk
theorem gtL_firstRent (hC : CallFix p m c cc nL s args Ts own) (hin : ∀ w ∈ wsX00, w ∈ Ts) (hY : SyS G ad σ n τ s H locs) {k : Nat} (hk : k < n) {index : Nat} (hlink : Cond.fieldLink own index (TX0 2).1 (TX0 2).2.1 (TX0 2).2.2.1 ∈ Ts) (hdg : decode cc pc = .ok (.getfield index, 3)) (kk : W p l e R s m args below meth c H locs cells slots Q (F0 m (pc + 3) ls (.int (σ 6 k) :: rest))) : W p l e R s m args below meth c H locs cells slots Q (F0 m pc ls (.ref (ad (3 * k + 9)) :: rest)) :=
  g_get hC hY (3 * k + 9) (by omega) (ct_L k) (q := (RX0, TX0, 12)) rfl hin 2 (by decide) hlink rfl hdg kk
theorem gtL_to (hC : CallFix p m c cc nL s args Ts own) (hin : ∀ w ∈ wsX00, w ∈ Ts) (hY : SyS G ad σ n τ s H locs) {k : Nat} (hk : k < n) {index : Nat} (hlink : Cond.fieldLink own index (TX0 3).1 (TX0 3).2.1 (TX0 3).2.2.1 ∈ Ts) (hdg : decode cc pc = .ok (.getfield index, 3)) (kk : W p l e R s m args below meth c H locs cells slots Q (F0 m (pc + 3) ls (.int (σ 5 k) :: rest))) : W p l e R s m args below meth c H locs cells slots Q (F0 m pc ls (.ref (ad (3 * k + 9)) :: rest)) :=
  g_get hC hY (3 * k + 9) (by omega) (ct_L k) (q := (RX0, TX0, 12)) rfl hin 3 (by decide) hlink rfl hdg kk
theorem ptL_to (hC : CallFix p m c cc nL s args Ts own) (hin : ∀ w ∈ wsX00, w ∈ Ts) (hY : SyS G ad σ n τ s H locs) {k : Nat} (hk : k < n) {index : Nat} (hlink : Cond.fieldLink own index (TX0 3).1 (TX0 3).2.1 (TX0 3).2.2.1 ∈ Ts) {x : Int32} (hdg : decode cc pc = .ok (.putfield index, 3)) (kk : ∀ (H1 : Heap) (locs1 : List Loc), SyS G ad (us σ 5 k x) n τ s H1 locs1 → W p l e R s m args below meth c H1 locs1 cells slots Q (F0 m (pc + 3) ls (rest))) : W p l e R s m args below meth c H locs cells slots Q (F0 m pc ls (.int x :: .ref (ad (3 * k + 9)) :: rest)) :=
  g_put hC hY (3 * k + 9) (by omega) (ct_L k) (q := (RX0, TX0, 12)) rfl hin tyX0 tyX0_ok nmX0 3 (by decide) hlink (Or.inl rfl) rfl rfl (Nat.le_of_ble_eq_true rfl) hdg (fun H1 locs1 h => kk H1 locs1 (by rw [upL5] at h; exact h))
theorem gtL_free (hC : CallFix p m c cc nL s args Ts own) (hin : ∀ w ∈ wsX00, w ∈ Ts) (hY : SyS G ad σ n τ s H locs) {k : Nat} (hk : k < n) {index : Nat} (hlink : Cond.fieldLink own index (TX0 4).1 (TX0 4).2.1 (TX0 4).2.2.1 ∈ Ts) (hdg : decode cc pc = .ok (.getfield index, 3)) (kk : W p l e R s m args below meth c H locs cells slots Q (F0 m (pc + 3) ls (.int (σ 7 k) :: rest))) : W p l e R s m args below meth c H locs cells slots Q (F0 m pc ls (.ref (ad (3 * k + 9)) :: rest)) :=
  g_get hC hY (3 * k + 9) (by omega) (ct_L k) (q := (RX0, TX0, 12)) rfl hin 4 (by decide) hlink rfl hdg kk
theorem ptL_free (hC : CallFix p m c cc nL s args Ts own) (hin : ∀ w ∈ wsX00, w ∈ Ts) (hY : SyS G ad σ n τ s H locs) {k : Nat} (hk : k < n) {index : Nat} (hlink : Cond.fieldLink own index (TX0 4).1 (TX0 4).2.1 (TX0 4).2.2.1 ∈ Ts) {x : Int32} (hdg : decode cc pc = .ok (.putfield index, 3)) (kk : ∀ (H1 : Heap) (locs1 : List Loc), SyS G ad (us σ 7 k x) n τ s H1 locs1 → W p l e R s m args below meth c H1 locs1 cells slots Q (F0 m (pc + 3) ls (rest))) : W p l e R s m args below meth c H locs cells slots Q (F0 m pc ls (.int x :: .ref (ad (3 * k + 9)) :: rest)) :=
  g_put hC hY (3 * k + 9) (by omega) (ct_L k) (q := (RX0, TX0, 12)) rfl hin tyX0 tyX0_ok nmX0 4 (by decide) hlink (Or.inl rfl) rfl rfl (Nat.le_of_ble_eq_true rfl) hdg (fun H1 locs1 h => kk H1 locs1 (by rw [upL7] at h; exact h))
theorem gtL_every (hC : CallFix p m c cc nL s args Ts own) (hin : ∀ w ∈ wsX00, w ∈ Ts) (hY : SyS G ad σ n τ s H locs) {k : Nat} (hk : k < n) {index : Nat} (hlink : Cond.fieldLink own index (TX0 5).1 (TX0 5).2.1 (TX0 5).2.2.1 ∈ Ts) (hdg : decode cc pc = .ok (.getfield index, 3)) (kk : W p l e R s m args below meth c H locs cells slots Q (F0 m (pc + 3) ls (.int (σ 8 k) :: rest))) : W p l e R s m args below meth c H locs cells slots Q (F0 m pc ls (.ref (ad (3 * k + 9)) :: rest)) :=
  g_get hC hY (3 * k + 9) (by omega) (ct_L k) (q := (RX0, TX0, 12)) rfl hin 5 (by decide) hlink rfl hdg kk
theorem ptL_every (hC : CallFix p m c cc nL s args Ts own) (hin : ∀ w ∈ wsX00, w ∈ Ts) (hY : SyS G ad σ n τ s H locs) {k : Nat} (hk : k < n) {index : Nat} (hlink : Cond.fieldLink own index (TX0 5).1 (TX0 5).2.1 (TX0 5).2.2.1 ∈ Ts) {x : Int32} (hdg : decode cc pc = .ok (.putfield index, 3)) (kk : ∀ (H1 : Heap) (locs1 : List Loc), SyS G ad (us σ 8 k x) n τ s H1 locs1 → W p l e R s m args below meth c H1 locs1 cells slots Q (F0 m (pc + 3) ls (rest))) : W p l e R s m args below meth c H locs cells slots Q (F0 m pc ls (.int x :: .ref (ad (3 * k + 9)) :: rest)) :=
  g_put hC hY (3 * k + 9) (by omega) (ct_L k) (q := (RX0, TX0, 12)) rfl hin tyX0 tyX0_ok nmX0 5 (by decide) hlink (Or.inl rfl) rfl rfl (Nat.le_of_ble_eq_true rfl) hdg (fun H1 locs1 h => kk H1 locs1 (by rw [upL8] at h; exact h))
theorem gtL_cap (hC : CallFix p m c cc nL s args Ts own) (hin : ∀ w ∈ wsX00, w ∈ Ts) (hY : SyS G ad σ n τ s H locs) {k : Nat} (hk : k < n) {index : Nat} (hlink : Cond.fieldLink own index (TX0 6).1 (TX0 6).2.1 (TX0 6).2.2.1 ∈ Ts) (hdg : decode cc pc = .ok (.getfield index, 3)) (kk : W p l e R s m args below meth c H locs cells slots Q (F0 m (pc + 3) ls (.int (σ 9 k) :: rest))) : W p l e R s m args below meth c H locs cells slots Q (F0 m pc ls (.ref (ad (3 * k + 9)) :: rest)) :=
  g_get hC hY (3 * k + 9) (by omega) (ct_L k) (q := (RX0, TX0, 12)) rfl hin 6 (by decide) hlink rfl hdg kk
theorem ptL_cap (hC : CallFix p m c cc nL s args Ts own) (hin : ∀ w ∈ wsX00, w ∈ Ts) (hY : SyS G ad σ n τ s H locs) {k : Nat} (hk : k < n) {index : Nat} (hlink : Cond.fieldLink own index (TX0 6).1 (TX0 6).2.1 (TX0 6).2.2.1 ∈ Ts) {x : Int32} (hdg : decode cc pc = .ok (.putfield index, 3)) (kk : ∀ (H1 : Heap) (locs1 : List Loc), SyS G ad (us σ 9 k x) n τ s H1 locs1 → W p l e R s m args below meth c H1 locs1 cells slots Q (F0 m (pc + 3) ls (rest))) : W p l e R s m args below meth c H locs cells slots Q (F0 m pc ls (.int x :: .ref (ad (3 * k + 9)) :: rest)) :=
  g_put hC hY (3 * k + 9) (by omega) (ct_L k) (q := (RX0, TX0, 12)) rfl hin tyX0 tyX0_ok nmX0 6 (by decide) hlink (Or.inl rfl) rfl rfl (Nat.le_of_ble_eq_true rfl) hdg (fun H1 locs1 h => kk H1 locs1 (by rw [upL9] at h; exact h))
theorem gtL_prepaid (hC : CallFix p m c cc nL s args Ts own) (hin : ∀ w ∈ wsX00, w ∈ Ts) (hY : SyS G ad σ n τ s H locs) {k : Nat} (hk : k < n) {index : Nat} (hlink : Cond.fieldLink own index (TX0 7).1 (TX0 7).2.1 (TX0 7).2.2.1 ∈ Ts) (hdg : decode cc pc = .ok (.getfield index, 3)) (kk : W p l e R s m args below meth c H locs cells slots Q (F0 m (pc + 3) ls (.int (σ 10 k) :: rest))) : W p l e R s m args below meth c H locs cells slots Q (F0 m pc ls (.ref (ad (3 * k + 9)) :: rest)) :=
  g_get hC hY (3 * k + 9) (by omega) (ct_L k) (q := (RX0, TX0, 12)) rfl hin 7 (by decide) hlink rfl hdg kk
theorem ptL_prepaid (hC : CallFix p m c cc nL s args Ts own) (hin : ∀ w ∈ wsX00, w ∈ Ts) (hY : SyS G ad σ n τ s H locs) {k : Nat} (hk : k < n) {index : Nat} (hlink : Cond.fieldLink own index (TX0 7).1 (TX0 7).2.1 (TX0 7).2.2.1 ∈ Ts) {x : Int32} (hdg : decode cc pc = .ok (.putfield index, 3)) (kk : ∀ (H1 : Heap) (locs1 : List Loc), SyS G ad (us σ 10 k x) n τ s H1 locs1 → W p l e R s m args below meth c H1 locs1 cells slots Q (F0 m (pc + 3) ls (rest))) : W p l e R s m args below meth c H locs cells slots Q (F0 m pc ls (.int x :: .ref (ad (3 * k + 9)) :: rest)) :=
  g_put hC hY (3 * k + 9) (by omega) (ct_L k) (q := (RX0, TX0, 12)) rfl hin tyX0 tyX0_ok nmX0 7 (by decide) hlink (Or.inl rfl) rfl rfl (Nat.le_of_ble_eq_true rfl) hdg (fun H1 locs1 h => kk H1 locs1 (by rw [upL10] at h; exact h))
theorem gtL_deposit (hC : CallFix p m c cc nL s args Ts own) (hin : ∀ w ∈ wsX00, w ∈ Ts) (hY : SyS G ad σ n τ s H locs) {k : Nat} (hk : k < n) {index : Nat} (hlink : Cond.fieldLink own index (TX0 8).1 (TX0 8).2.1 (TX0 8).2.2.1 ∈ Ts) (hdg : decode cc pc = .ok (.getfield index, 3)) (kk : W p l e R s m args below meth c H locs cells slots Q (F0 m (pc + 3) ls (.int (σ 11 k) :: rest))) : W p l e R s m args below meth c H locs cells slots Q (F0 m pc ls (.ref (ad (3 * k + 9)) :: rest)) :=
  g_get hC hY (3 * k + 9) (by omega) (ct_L k) (q := (RX0, TX0, 12)) rfl hin 8 (by decide) hlink rfl hdg kk
theorem ptL_deposit (hC : CallFix p m c cc nL s args Ts own) (hin : ∀ w ∈ wsX00, w ∈ Ts) (hY : SyS G ad σ n τ s H locs) {k : Nat} (hk : k < n) {index : Nat} (hlink : Cond.fieldLink own index (TX0 8).1 (TX0 8).2.1 (TX0 8).2.2.1 ∈ Ts) {x : Int32} (hdg : decode cc pc = .ok (.putfield index, 3)) (kk : ∀ (H1 : Heap) (locs1 : List Loc), SyS G ad (us σ 11 k x) n τ s H1 locs1 → W p l e R s m args below meth c H1 locs1 cells slots Q (F0 m (pc + 3) ls (rest))) : W p l e R s m args below meth c H locs cells slots Q (F0 m pc ls (.int x :: .ref (ad (3 * k + 9)) :: rest)) :=
  g_put hC hY (3 * k + 9) (by omega) (ct_L k) (q := (RX0, TX0, 12)) rfl hin tyX0 tyX0_ok nmX0 8 (by decide) hlink (Or.inl rfl) rfl rfl (Nat.le_of_ble_eq_true rfl) hdg (fun H1 locs1 h => kk H1 locs1 (by rw [upL11] at h; exact h))
theorem gtL_stepDays (hC : CallFix p m c cc nL s args Ts own) (hin : ∀ w ∈ wsX00, w ∈ Ts) (hY : SyS G ad σ n τ s H locs) {k : Nat} (hk : k < n) {index : Nat} (hlink : Cond.fieldLink own index (TX0 9).1 (TX0 9).2.1 (TX0 9).2.2.1 ∈ Ts) (hdg : decode cc pc = .ok (.getfield index, 3)) (kk : W p l e R s m args below meth c H locs cells slots Q (F0 m (pc + 3) ls (.ref (ad (3 * k + 10)) :: rest))) : W p l e R s m args below meth c H locs cells slots Q (F0 m pc ls (.ref (ad (3 * k + 9)) :: rest)) :=
  g_get hC hY (3 * k + 9) (by omega) (ct_L k) (q := (RX0, TX0, 12)) rfl hin 9 (by decide) hlink rfl hdg kk
theorem gtL_stepRents (hC : CallFix p m c cc nL s args Ts own) (hin : ∀ w ∈ wsX00, w ∈ Ts) (hY : SyS G ad σ n τ s H locs) {k : Nat} (hk : k < n) {index : Nat} (hlink : Cond.fieldLink own index (TX0 10).1 (TX0 10).2.1 (TX0 10).2.2.1 ∈ Ts) (hdg : decode cc pc = .ok (.getfield index, 3)) (kk : W p l e R s m args below meth c H locs cells slots Q (F0 m (pc + 3) ls (.ref (ad (3 * k + 11)) :: rest))) : W p l e R s m args below meth c H locs cells slots Q (F0 m pc ls (.ref (ad (3 * k + 9)) :: rest)) :=
  g_get hC hY (3 * k + 9) (by omega) (ct_L k) (q := (RX0, TX0, 12)) rfl hin 10 (by decide) hlink rfl hdg kk
theorem gtL_steps (hC : CallFix p m c cc nL s args Ts own) (hin : ∀ w ∈ wsX00, w ∈ Ts) (hY : SyS G ad σ n τ s H locs) {k : Nat} (hk : k < n) {index : Nat} (hlink : Cond.fieldLink own index (TX0 11).1 (TX0 11).2.1 (TX0 11).2.2.1 ∈ Ts) (hdg : decode cc pc = .ok (.getfield index, 3)) (kk : W p l e R s m args below meth c H locs cells slots Q (F0 m (pc + 3) ls (.int (σ 12 k) :: rest))) : W p l e R s m args below meth c H locs cells slots Q (F0 m pc ls (.ref (ad (3 * k + 9)) :: rest)) :=
  g_get hC hY (3 * k + 9) (by omega) (ct_L k) (q := (RX0, TX0, 12)) rfl hin 11 (by decide) hlink rfl hdg kk
theorem ptL_steps (hC : CallFix p m c cc nL s args Ts own) (hin : ∀ w ∈ wsX00, w ∈ Ts) (hY : SyS G ad σ n τ s H locs) {k : Nat} (hk : k < n) {index : Nat} (hlink : Cond.fieldLink own index (TX0 11).1 (TX0 11).2.1 (TX0 11).2.2.1 ∈ Ts) {x : Int32} (hdg : decode cc pc = .ok (.putfield index, 3)) (kk : ∀ (H1 : Heap) (locs1 : List Loc), SyS G ad (us σ 12 k x) n τ s H1 locs1 → W p l e R s m args below meth c H1 locs1 cells slots Q (F0 m (pc + 3) ls (rest))) : W p l e R s m args below meth c H locs cells slots Q (F0 m pc ls (.int x :: .ref (ad (3 * k + 9)) :: rest)) :=
  g_put hC hY (3 * k + 9) (by omega) (ct_L k) (q := (RX0, TX0, 12)) rfl hin tyX0 tyX0_ok nmX0 11 (by decide) hlink (Or.inl rfl) rfl rfl (Nat.le_of_ble_eq_true rfl) hdg (fun H1 locs1 h => kk H1 locs1 (by rw [upL12] at h; exact h))
theorem gtV_areas (hC : CallFix p m c cc nL s args Ts own) (hin : ∀ w ∈ wsX10, w ∈ Ts) (hY : SyS G ad σ n τ s H locs) {index : Nat} (hlink : Cond.fieldLink own index (TX1 0).1 (TX1 0).2.1 (TX1 0).2.2.1 ∈ Ts) (hdg : decode cc pc = .ok (.getfield index, 3)) (kk : W p l e R s m args below meth c H locs cells slots Q (F0 m (pc + 3) ls (.ref (ad 1) :: rest))) : W p l e R s m args below meth c H locs cells slots Q (F0 m pc ls (.ref (ad 0) :: rest)) :=
  g_get hC hY 0 (by omega) (ci := 1) (fs := [.ref (ad 1), .ref (ad 2), .ref (ad 3), .ref (ad 4), .int (nI n)]) rfl (q := (RX1, TX1, 5)) rfl hin 0 (by decide) hlink rfl hdg kk
theorem gtV_indices (hC : CallFix p m c cc nL s args Ts own) (hin : ∀ w ∈ wsX10, w ∈ Ts) (hY : SyS G ad σ n τ s H locs) {index : Nat} (hlink : Cond.fieldLink own index (TX1 1).1 (TX1 1).2.1 (TX1 1).2.2.1 ∈ Ts) (hdg : decode cc pc = .ok (.getfield index, 3)) (kk : W p l e R s m args below meth c H locs cells slots Q (F0 m (pc + 3) ls (.ref (ad 2) :: rest))) : W p l e R s m args below meth c H locs cells slots Q (F0 m pc ls (.ref (ad 0) :: rest)) :=
  g_get hC hY 0 (by omega) (ci := 1) (fs := [.ref (ad 1), .ref (ad 2), .ref (ad 3), .ref (ad 4), .int (nI n)]) rfl (q := (RX1, TX1, 5)) rfl hin 1 (by decide) hlink rfl hdg kk
theorem gtV_costs (hC : CallFix p m c cc nL s args Ts own) (hin : ∀ w ∈ wsX10, w ∈ Ts) (hY : SyS G ad σ n τ s H locs) {index : Nat} (hlink : Cond.fieldLink own index (TX1 2).1 (TX1 2).2.1 (TX1 2).2.2.1 ∈ Ts) (hdg : decode cc pc = .ok (.getfield index, 3)) (kk : W p l e R s m args below meth c H locs cells slots Q (F0 m (pc + 3) ls (.ref (ad 3) :: rest))) : W p l e R s m args below meth c H locs cells slots Q (F0 m pc ls (.ref (ad 0) :: rest)) :=
  g_get hC hY 0 (by omega) (ci := 1) (fs := [.ref (ad 1), .ref (ad 2), .ref (ad 3), .ref (ad 4), .int (nI n)]) rfl (q := (RX1, TX1, 5)) rfl hin 2 (by decide) hlink rfl hdg kk
theorem gtV_roll (hC : CallFix p m c cc nL s args Ts own) (hin : ∀ w ∈ wsX10, w ∈ Ts) (hY : SyS G ad σ n τ s H locs) {index : Nat} (hlink : Cond.fieldLink own index (TX1 3).1 (TX1 3).2.1 (TX1 3).2.2.1 ∈ Ts) (hdg : decode cc pc = .ok (.getfield index, 3)) (kk : W p l e R s m args below meth c H locs cells slots Q (F0 m (pc + 3) ls (.ref (ad 4) :: rest))) : W p l e R s m args below meth c H locs cells slots Q (F0 m pc ls (.ref (ad 0) :: rest)) :=
  g_get hC hY 0 (by omega) (ci := 1) (fs := [.ref (ad 1), .ref (ad 2), .ref (ad 3), .ref (ad 4), .int (nI n)]) rfl (q := (RX1, TX1, 5)) rfl hin 3 (by decide) hlink rfl hdg kk
theorem gtV_count (hC : CallFix p m c cc nL s args Ts own) (hin : ∀ w ∈ wsX10, w ∈ Ts) (hY : SyS G ad σ n τ s H locs) {index : Nat} (hlink : Cond.fieldLink own index (TX1 4).1 (TX1 4).2.1 (TX1 4).2.2.1 ∈ Ts) (hdg : decode cc pc = .ok (.getfield index, 3)) (kk : W p l e R s m args below meth c H locs cells slots Q (F0 m (pc + 3) ls (.int (nI n) :: rest))) : W p l e R s m args below meth c H locs cells slots Q (F0 m pc ls (.ref (ad 0) :: rest)) :=
  g_get hC hY 0 (by omega) (ci := 1) (fs := [.ref (ad 1), .ref (ad 2), .ref (ad 3), .ref (ad 4), .int (nI n)]) rfl (q := (RX1, TX1, 5)) rfl hin 4 (by decide) hlink rfl hdg kk
theorem gtN_unit (hC : CallFix p m c cc nL s args Ts RX1) (hin : ∀ w ∈ wsX00, w ∈ Ts) (hY : SyS G ad σ n τ s H locs) {k : Nat} (hk : k < n) {index : Nat} (hm : (index, "unit") ∈ nstL) (hdg : decode cc pc = .ok (.getfield index, 3)) (kk : W p l e R s m args below meth c H locs cells slots Q (F0 m (pc + 3) ls (.int (σ 3 k) :: rest))) : W p l e R s m args below meth c H locs cells slots Q (F0 m pc ls (.ref (ad (3 * k + 9)) :: rest)) := by
  have he := wl_get (ad := ad) (ct := ctS G ad σ n τ) (show 3 * k + 9 < 3 * n + 9 by omega)
  rw [ct_L] at he
  exact va_getN (own := RX1) (ref := RX0) (C := RX0) (host := RX1) (T := TX0) (N := 12) (index := index) hC.1 hC.2.1 hC.2.2.2.2 hin hC.2.2.2.1 hY.1 hY.2.1 (3 * k + 9) he rfl 0 (by decide) (va_Nw.use rfl (hY.2.2.2.2.2.2.2.2.2.2.2.2.2 _ hm)) (fun _ h => h) rfl hdg kk
theorem gtN_from (hC : CallFix p m c cc nL s args Ts RX1) (hin : ∀ w ∈ wsX00, w ∈ Ts) (hY : SyS G ad σ n τ s H locs) {k : Nat} (hk : k < n) {index : Nat} (hm : (index, "from") ∈ nstL) (hdg : decode cc pc = .ok (.getfield index, 3)) (kk : W p l e R s m args below meth c H locs cells slots Q (F0 m (pc + 3) ls (.int (σ 4 k) :: rest))) : W p l e R s m args below meth c H locs cells slots Q (F0 m pc ls (.ref (ad (3 * k + 9)) :: rest)) := by
  have he := wl_get (ad := ad) (ct := ctS G ad σ n τ) (show 3 * k + 9 < 3 * n + 9 by omega)
  rw [ct_L] at he
  exact va_getN (own := RX1) (ref := RX0) (C := RX0) (host := RX1) (T := TX0) (N := 12) (index := index) hC.1 hC.2.1 hC.2.2.2.2 hin hC.2.2.2.1 hY.1 hY.2.1 (3 * k + 9) he rfl 1 (by decide) (va_Nw.use rfl (hY.2.2.2.2.2.2.2.2.2.2.2.2.2 _ hm)) (fun _ h => h) rfl hdg kk
theorem gtN_to (hC : CallFix p m c cc nL s args Ts RX1) (hin : ∀ w ∈ wsX00, w ∈ Ts) (hY : SyS G ad σ n τ s H locs) {k : Nat} (hk : k < n) {index : Nat} (hm : (index, "to") ∈ nstL) (hdg : decode cc pc = .ok (.getfield index, 3)) (kk : W p l e R s m args below meth c H locs cells slots Q (F0 m (pc + 3) ls (.int (σ 5 k) :: rest))) : W p l e R s m args below meth c H locs cells slots Q (F0 m pc ls (.ref (ad (3 * k + 9)) :: rest)) := by
  have he := wl_get (ad := ad) (ct := ctS G ad σ n τ) (show 3 * k + 9 < 3 * n + 9 by omega)
  rw [ct_L] at he
  exact va_getN (own := RX1) (ref := RX0) (C := RX0) (host := RX1) (T := TX0) (N := 12) (index := index) hC.1 hC.2.1 hC.2.2.2.2 hin hC.2.2.2.1 hY.1 hY.2.1 (3 * k + 9) he rfl 3 (by decide) (va_Nw.use rfl (hY.2.2.2.2.2.2.2.2.2.2.2.2.2 _ hm)) (fun _ h => h) rfl hdg kk
theorem ptN_to (hC : CallFix p m c cc nL s args Ts RX1) (hin : ∀ w ∈ wsX00, w ∈ Ts) (hY : SyS G ad σ n τ s H locs) {k : Nat} (hk : k < n) {index : Nat} (hm : (index, "to") ∈ nstL) {x : Int32} (hdg : decode cc pc = .ok (.putfield index, 3)) (kk : ∀ (H1 : Heap) (locs1 : List Loc), SyS G ad (us σ 5 k x) n τ s H1 locs1 → W p l e R s m args below meth c H1 locs1 cells slots Q (F0 m (pc + 3) ls (rest))) : W p l e R s m args below meth c H locs cells slots Q (F0 m pc ls (.int x :: .ref (ad (3 * k + 9)) :: rest)) := by
  have hr : 3 * k + 9 < 3 * n + 9 := by omega
  have he := wl_get (ad := ad) (ct := ctS G ad σ n τ) hr
  rw [ct_L] at he
  refine va_putN (own := RX1) (ref := RX0) (C := RX0) (host := RX1) (T := TX0) (N := 12) (index := index) (ty := .int) hC.1 hC.2.1 hC.2.2.2.2 hin tyX0 tyX0_ok nmX0 hC.2.2.2.1 hY.1 hY.2.1 hY.2.2.1 hY.2.2.2.1 (3 * k + 9) he rfl 3 (by decide) (va_Nw.use rfl (hY.2.2.2.2.2.2.2.2.2.2.2.2.2 _ hm)) (fun _ h => h) rfl (by decide +kernel) rfl rfl (Nat.le_of_ble_eq_true rfl) hdg (fun H1 locs1 h1 h2 h3 => ?_)
  rw [wl_set hr] at h1 h2
  rw [upL5] at h1 h2
  exact kk H1 locs1 ⟨hY.1, h1, h2, h3, hY.2.2.2.2.1, hY.2.2.2.2.2⟩
theorem gtN_free (hC : CallFix p m c cc nL s args Ts RX1) (hin : ∀ w ∈ wsX00, w ∈ Ts) (hY : SyS G ad σ n τ s H locs) {k : Nat} (hk : k < n) {index : Nat} (hm : (index, "free") ∈ nstL) (hdg : decode cc pc = .ok (.getfield index, 3)) (kk : W p l e R s m args below meth c H locs cells slots Q (F0 m (pc + 3) ls (.int (σ 7 k) :: rest))) : W p l e R s m args below meth c H locs cells slots Q (F0 m pc ls (.ref (ad (3 * k + 9)) :: rest)) := by
  have he := wl_get (ad := ad) (ct := ctS G ad σ n τ) (show 3 * k + 9 < 3 * n + 9 by omega)
  rw [ct_L] at he
  exact va_getN (own := RX1) (ref := RX0) (C := RX0) (host := RX1) (T := TX0) (N := 12) (index := index) hC.1 hC.2.1 hC.2.2.2.2 hin hC.2.2.2.1 hY.1 hY.2.1 (3 * k + 9) he rfl 4 (by decide) (va_Nw.use rfl (hY.2.2.2.2.2.2.2.2.2.2.2.2.2 _ hm)) (fun _ h => h) rfl hdg kk
theorem ptN_free (hC : CallFix p m c cc nL s args Ts RX1) (hin : ∀ w ∈ wsX00, w ∈ Ts) (hY : SyS G ad σ n τ s H locs) {k : Nat} (hk : k < n) {index : Nat} (hm : (index, "free") ∈ nstL) {x : Int32} (hdg : decode cc pc = .ok (.putfield index, 3)) (kk : ∀ (H1 : Heap) (locs1 : List Loc), SyS G ad (us σ 7 k x) n τ s H1 locs1 → W p l e R s m args below meth c H1 locs1 cells slots Q (F0 m (pc + 3) ls (rest))) : W p l e R s m args below meth c H locs cells slots Q (F0 m pc ls (.int x :: .ref (ad (3 * k + 9)) :: rest)) := by
  have hr : 3 * k + 9 < 3 * n + 9 := by omega
  have he := wl_get (ad := ad) (ct := ctS G ad σ n τ) hr
  rw [ct_L] at he
  refine va_putN (own := RX1) (ref := RX0) (C := RX0) (host := RX1) (T := TX0) (N := 12) (index := index) (ty := .int) hC.1 hC.2.1 hC.2.2.2.2 hin tyX0 tyX0_ok nmX0 hC.2.2.2.1 hY.1 hY.2.1 hY.2.2.1 hY.2.2.2.1 (3 * k + 9) he rfl 4 (by decide) (va_Nw.use rfl (hY.2.2.2.2.2.2.2.2.2.2.2.2.2 _ hm)) (fun _ h => h) rfl (by decide +kernel) rfl rfl (Nat.le_of_ble_eq_true rfl) hdg (fun H1 locs1 h1 h2 h3 => ?_)
  rw [wl_set hr] at h1 h2
  rw [upL7] at h1 h2
  exact kk H1 locs1 ⟨hY.1, h1, h2, h3, hY.2.2.2.2.1, hY.2.2.2.2.2⟩
theorem gtN_every (hC : CallFix p m c cc nL s args Ts RX1) (hin : ∀ w ∈ wsX00, w ∈ Ts) (hY : SyS G ad σ n τ s H locs) {k : Nat} (hk : k < n) {index : Nat} (hm : (index, "every") ∈ nstL) (hdg : decode cc pc = .ok (.getfield index, 3)) (kk : W p l e R s m args below meth c H locs cells slots Q (F0 m (pc + 3) ls (.int (σ 8 k) :: rest))) : W p l e R s m args below meth c H locs cells slots Q (F0 m pc ls (.ref (ad (3 * k + 9)) :: rest)) := by
  have he := wl_get (ad := ad) (ct := ctS G ad σ n τ) (show 3 * k + 9 < 3 * n + 9 by omega)
  rw [ct_L] at he
  exact va_getN (own := RX1) (ref := RX0) (C := RX0) (host := RX1) (T := TX0) (N := 12) (index := index) hC.1 hC.2.1 hC.2.2.2.2 hin hC.2.2.2.1 hY.1 hY.2.1 (3 * k + 9) he rfl 5 (by decide) (va_Nw.use rfl (hY.2.2.2.2.2.2.2.2.2.2.2.2.2 _ hm)) (fun _ h => h) rfl hdg kk
theorem ptN_every (hC : CallFix p m c cc nL s args Ts RX1) (hin : ∀ w ∈ wsX00, w ∈ Ts) (hY : SyS G ad σ n τ s H locs) {k : Nat} (hk : k < n) {index : Nat} (hm : (index, "every") ∈ nstL) {x : Int32} (hdg : decode cc pc = .ok (.putfield index, 3)) (kk : ∀ (H1 : Heap) (locs1 : List Loc), SyS G ad (us σ 8 k x) n τ s H1 locs1 → W p l e R s m args below meth c H1 locs1 cells slots Q (F0 m (pc + 3) ls (rest))) : W p l e R s m args below meth c H locs cells slots Q (F0 m pc ls (.int x :: .ref (ad (3 * k + 9)) :: rest)) := by
  have hr : 3 * k + 9 < 3 * n + 9 := by omega
  have he := wl_get (ad := ad) (ct := ctS G ad σ n τ) hr
  rw [ct_L] at he
  refine va_putN (own := RX1) (ref := RX0) (C := RX0) (host := RX1) (T := TX0) (N := 12) (index := index) (ty := .int) hC.1 hC.2.1 hC.2.2.2.2 hin tyX0 tyX0_ok nmX0 hC.2.2.2.1 hY.1 hY.2.1 hY.2.2.1 hY.2.2.2.1 (3 * k + 9) he rfl 5 (by decide) (va_Nw.use rfl (hY.2.2.2.2.2.2.2.2.2.2.2.2.2 _ hm)) (fun _ h => h) rfl (by decide +kernel) rfl rfl (Nat.le_of_ble_eq_true rfl) hdg (fun H1 locs1 h1 h2 h3 => ?_)
  rw [wl_set hr] at h1 h2
  rw [upL8] at h1 h2
  exact kk H1 locs1 ⟨hY.1, h1, h2, h3, hY.2.2.2.2.1, hY.2.2.2.2.2⟩
theorem gtN_cap (hC : CallFix p m c cc nL s args Ts RX1) (hin : ∀ w ∈ wsX00, w ∈ Ts) (hY : SyS G ad σ n τ s H locs) {k : Nat} (hk : k < n) {index : Nat} (hm : (index, "cap") ∈ nstL) (hdg : decode cc pc = .ok (.getfield index, 3)) (kk : W p l e R s m args below meth c H locs cells slots Q (F0 m (pc + 3) ls (.int (σ 9 k) :: rest))) : W p l e R s m args below meth c H locs cells slots Q (F0 m pc ls (.ref (ad (3 * k + 9)) :: rest)) := by
  have he := wl_get (ad := ad) (ct := ctS G ad σ n τ) (show 3 * k + 9 < 3 * n + 9 by omega)
  rw [ct_L] at he
  exact va_getN (own := RX1) (ref := RX0) (C := RX0) (host := RX1) (T := TX0) (N := 12) (index := index) hC.1 hC.2.1 hC.2.2.2.2 hin hC.2.2.2.1 hY.1 hY.2.1 (3 * k + 9) he rfl 6 (by decide) (va_Nw.use rfl (hY.2.2.2.2.2.2.2.2.2.2.2.2.2 _ hm)) (fun _ h => h) rfl hdg kk
theorem ptN_cap (hC : CallFix p m c cc nL s args Ts RX1) (hin : ∀ w ∈ wsX00, w ∈ Ts) (hY : SyS G ad σ n τ s H locs) {k : Nat} (hk : k < n) {index : Nat} (hm : (index, "cap") ∈ nstL) {x : Int32} (hdg : decode cc pc = .ok (.putfield index, 3)) (kk : ∀ (H1 : Heap) (locs1 : List Loc), SyS G ad (us σ 9 k x) n τ s H1 locs1 → W p l e R s m args below meth c H1 locs1 cells slots Q (F0 m (pc + 3) ls (rest))) : W p l e R s m args below meth c H locs cells slots Q (F0 m pc ls (.int x :: .ref (ad (3 * k + 9)) :: rest)) := by
  have hr : 3 * k + 9 < 3 * n + 9 := by omega
  have he := wl_get (ad := ad) (ct := ctS G ad σ n τ) hr
  rw [ct_L] at he
  refine va_putN (own := RX1) (ref := RX0) (C := RX0) (host := RX1) (T := TX0) (N := 12) (index := index) (ty := .int) hC.1 hC.2.1 hC.2.2.2.2 hin tyX0 tyX0_ok nmX0 hC.2.2.2.1 hY.1 hY.2.1 hY.2.2.1 hY.2.2.2.1 (3 * k + 9) he rfl 6 (by decide) (va_Nw.use rfl (hY.2.2.2.2.2.2.2.2.2.2.2.2.2 _ hm)) (fun _ h => h) rfl (by decide +kernel) rfl rfl (Nat.le_of_ble_eq_true rfl) hdg (fun H1 locs1 h1 h2 h3 => ?_)
  rw [wl_set hr] at h1 h2
  rw [upL9] at h1 h2
  exact kk H1 locs1 ⟨hY.1, h1, h2, h3, hY.2.2.2.2.1, hY.2.2.2.2.2⟩
theorem gtN_prepaid (hC : CallFix p m c cc nL s args Ts RX1) (hin : ∀ w ∈ wsX00, w ∈ Ts) (hY : SyS G ad σ n τ s H locs) {k : Nat} (hk : k < n) {index : Nat} (hm : (index, "prepaid") ∈ nstL) (hdg : decode cc pc = .ok (.getfield index, 3)) (kk : W p l e R s m args below meth c H locs cells slots Q (F0 m (pc + 3) ls (.int (σ 10 k) :: rest))) : W p l e R s m args below meth c H locs cells slots Q (F0 m pc ls (.ref (ad (3 * k + 9)) :: rest)) := by
  have he := wl_get (ad := ad) (ct := ctS G ad σ n τ) (show 3 * k + 9 < 3 * n + 9 by omega)
  rw [ct_L] at he
  exact va_getN (own := RX1) (ref := RX0) (C := RX0) (host := RX1) (T := TX0) (N := 12) (index := index) hC.1 hC.2.1 hC.2.2.2.2 hin hC.2.2.2.1 hY.1 hY.2.1 (3 * k + 9) he rfl 7 (by decide) (va_Nw.use rfl (hY.2.2.2.2.2.2.2.2.2.2.2.2.2 _ hm)) (fun _ h => h) rfl hdg kk
theorem ptN_prepaid (hC : CallFix p m c cc nL s args Ts RX1) (hin : ∀ w ∈ wsX00, w ∈ Ts) (hY : SyS G ad σ n τ s H locs) {k : Nat} (hk : k < n) {index : Nat} (hm : (index, "prepaid") ∈ nstL) {x : Int32} (hdg : decode cc pc = .ok (.putfield index, 3)) (kk : ∀ (H1 : Heap) (locs1 : List Loc), SyS G ad (us σ 10 k x) n τ s H1 locs1 → W p l e R s m args below meth c H1 locs1 cells slots Q (F0 m (pc + 3) ls (rest))) : W p l e R s m args below meth c H locs cells slots Q (F0 m pc ls (.int x :: .ref (ad (3 * k + 9)) :: rest)) := by
  have hr : 3 * k + 9 < 3 * n + 9 := by omega
  have he := wl_get (ad := ad) (ct := ctS G ad σ n τ) hr
  rw [ct_L] at he
  refine va_putN (own := RX1) (ref := RX0) (C := RX0) (host := RX1) (T := TX0) (N := 12) (index := index) (ty := .int) hC.1 hC.2.1 hC.2.2.2.2 hin tyX0 tyX0_ok nmX0 hC.2.2.2.1 hY.1 hY.2.1 hY.2.2.1 hY.2.2.2.1 (3 * k + 9) he rfl 7 (by decide) (va_Nw.use rfl (hY.2.2.2.2.2.2.2.2.2.2.2.2.2 _ hm)) (fun _ h => h) rfl (by decide +kernel) rfl rfl (Nat.le_of_ble_eq_true rfl) hdg (fun H1 locs1 h1 h2 h3 => ?_)
  rw [wl_set hr] at h1 h2
  rw [upL10] at h1 h2
  exact kk H1 locs1 ⟨hY.1, h1, h2, h3, hY.2.2.2.2.1, hY.2.2.2.2.2⟩
theorem gtN_deposit (hC : CallFix p m c cc nL s args Ts RX1) (hin : ∀ w ∈ wsX00, w ∈ Ts) (hY : SyS G ad σ n τ s H locs) {k : Nat} (hk : k < n) {index : Nat} (hm : (index, "deposit") ∈ nstL) (hdg : decode cc pc = .ok (.getfield index, 3)) (kk : W p l e R s m args below meth c H locs cells slots Q (F0 m (pc + 3) ls (.int (σ 11 k) :: rest))) : W p l e R s m args below meth c H locs cells slots Q (F0 m pc ls (.ref (ad (3 * k + 9)) :: rest)) := by
  have he := wl_get (ad := ad) (ct := ctS G ad σ n τ) (show 3 * k + 9 < 3 * n + 9 by omega)
  rw [ct_L] at he
  exact va_getN (own := RX1) (ref := RX0) (C := RX0) (host := RX1) (T := TX0) (N := 12) (index := index) hC.1 hC.2.1 hC.2.2.2.2 hin hC.2.2.2.1 hY.1 hY.2.1 (3 * k + 9) he rfl 8 (by decide) (va_Nw.use rfl (hY.2.2.2.2.2.2.2.2.2.2.2.2.2 _ hm)) (fun _ h => h) rfl hdg kk
theorem ptN_deposit (hC : CallFix p m c cc nL s args Ts RX1) (hin : ∀ w ∈ wsX00, w ∈ Ts) (hY : SyS G ad σ n τ s H locs) {k : Nat} (hk : k < n) {index : Nat} (hm : (index, "deposit") ∈ nstL) {x : Int32} (hdg : decode cc pc = .ok (.putfield index, 3)) (kk : ∀ (H1 : Heap) (locs1 : List Loc), SyS G ad (us σ 11 k x) n τ s H1 locs1 → W p l e R s m args below meth c H1 locs1 cells slots Q (F0 m (pc + 3) ls (rest))) : W p l e R s m args below meth c H locs cells slots Q (F0 m pc ls (.int x :: .ref (ad (3 * k + 9)) :: rest)) := by
  have hr : 3 * k + 9 < 3 * n + 9 := by omega
  have he := wl_get (ad := ad) (ct := ctS G ad σ n τ) hr
  rw [ct_L] at he
  refine va_putN (own := RX1) (ref := RX0) (C := RX0) (host := RX1) (T := TX0) (N := 12) (index := index) (ty := .int) hC.1 hC.2.1 hC.2.2.2.2 hin tyX0 tyX0_ok nmX0 hC.2.2.2.1 hY.1 hY.2.1 hY.2.2.1 hY.2.2.2.1 (3 * k + 9) he rfl 8 (by decide) (va_Nw.use rfl (hY.2.2.2.2.2.2.2.2.2.2.2.2.2 _ hm)) (fun _ h => h) rfl (by decide +kernel) rfl rfl (Nat.le_of_ble_eq_true rfl) hdg (fun H1 locs1 h1 h2 h3 => ?_)
  rw [wl_set hr] at h1 h2
  rw [upL11] at h1 h2
  exact kk H1 locs1 ⟨hY.1, h1, h2, h3, hY.2.2.2.2.1, hY.2.2.2.2.2⟩
theorem gtN_steps (hC : CallFix p m c cc nL s args Ts RX1) (hin : ∀ w ∈ wsX00, w ∈ Ts) (hY : SyS G ad σ n τ s H locs) {k : Nat} (hk : k < n) {index : Nat} (hm : (index, "steps") ∈ nstL) (hdg : decode cc pc = .ok (.getfield index, 3)) (kk : W p l e R s m args below meth c H locs cells slots Q (F0 m (pc + 3) ls (.int (σ 12 k) :: rest))) : W p l e R s m args below meth c H locs cells slots Q (F0 m pc ls (.ref (ad (3 * k + 9)) :: rest)) := by
  have he := wl_get (ad := ad) (ct := ctS G ad σ n τ) (show 3 * k + 9 < 3 * n + 9 by omega)
  rw [ct_L] at he
  exact va_getN (own := RX1) (ref := RX0) (C := RX0) (host := RX1) (T := TX0) (N := 12) (index := index) hC.1 hC.2.1 hC.2.2.2.2 hin hC.2.2.2.1 hY.1 hY.2.1 (3 * k + 9) he rfl 11 (by decide) (va_Nw.use rfl (hY.2.2.2.2.2.2.2.2.2.2.2.2.2 _ hm)) (fun _ h => h) rfl hdg kk
theorem ptN_steps (hC : CallFix p m c cc nL s args Ts RX1) (hin : ∀ w ∈ wsX00, w ∈ Ts) (hY : SyS G ad σ n τ s H locs) {k : Nat} (hk : k < n) {index : Nat} (hm : (index, "steps") ∈ nstL) {x : Int32} (hdg : decode cc pc = .ok (.putfield index, 3)) (kk : ∀ (H1 : Heap) (locs1 : List Loc), SyS G ad (us σ 12 k x) n τ s H1 locs1 → W p l e R s m args below meth c H1 locs1 cells slots Q (F0 m (pc + 3) ls (rest))) : W p l e R s m args below meth c H locs cells slots Q (F0 m pc ls (.int x :: .ref (ad (3 * k + 9)) :: rest)) := by
  have hr : 3 * k + 9 < 3 * n + 9 := by omega
  have he := wl_get (ad := ad) (ct := ctS G ad σ n τ) hr
  rw [ct_L] at he
  refine va_putN (own := RX1) (ref := RX0) (C := RX0) (host := RX1) (T := TX0) (N := 12) (index := index) (ty := .int) hC.1 hC.2.1 hC.2.2.2.2 hin tyX0 tyX0_ok nmX0 hC.2.2.2.1 hY.1 hY.2.1 hY.2.2.1 hY.2.2.2.1 (3 * k + 9) he rfl 11 (by decide) (va_Nw.use rfl (hY.2.2.2.2.2.2.2.2.2.2.2.2.2 _ hm)) (fun _ h => h) rfl (by decide +kernel) rfl rfl (Nat.le_of_ble_eq_true rfl) hdg (fun H1 locs1 h1 h2 h3 => ?_)
  rw [wl_set hr] at h1 h2
  rw [upL12] at h1 h2
  exact kk H1 locs1 ⟨hY.1, h1, h2, h3, hY.2.2.2.2.1, hY.2.2.2.2.2⟩
end GS

/-! the world: roles 0 the roll, 1-3 areas indices costs, 4 roll's leases, 5 the reference, 6-20 its arrays, 21 22 the law's out rows, 3k+23 lease k, 3k+24 its step days, 3k+25 its step rents -/
abbrev ix (x : Int32) : Nat := x.toNatClampNeg
abbrev OL : Type := Nat → Int64
abbrev OD : Type := Nat → UInt64
def lsF (ad : Nat → Nat) (σ : St) (k : Nat) : List Value := [.int (σ 3 k), .int (σ 4 k), .int (σ 6 k), .int (σ 5 k), .int (σ 7 k), .int (σ 8 k), .int (σ 9 k), .int (σ 10 k), .int (σ 11 k), .ref (ad (3 * k + 24)), .ref (ad (3 * k + 25)), .int (σ 12 k)]
def rowF (σ : St) (a k : Nat) : Nat → Int32 := fun j => if j < 6 then σ a (6 * k + j) else 0
def ctL (G : GG) (ad : Nat → Nat) (σ : St) (k i : Nat) : va_E := match i with
  | 0 => .inr (0, lsF ad σ k)
  | 1 => .inl (G.2.2 0, 6, .inl (rowF σ 13 k))
  | _ => .inl (G.2.2 0, 6, .inl (rowF σ 14 k))
def roF (ad : Nat → Nat) (n : Nat) : Nat → Option Nat := fun k => if k < n then some (ad (3 * k + 23)) else none
def mdF (ad : Nat → Nat) (j : Nat) (th : Int32) : List Value := [.int th, .ref (ad 6), .ref (ad 7), .ref (ad 8), .int (nI j), .ref (ad 9), .ref (ad 10), .ref (ad 11), .ref (ad 12), .ref (ad 13), .ref (ad 14), .ref (ad 15), .ref (ad 16), .ref (ad 17), .ref (ad 18), .ref (ad 19), .ref (ad 20)]
def ctS (G : GG) (ad : Nat → Nat) (σ : St) (n : Nat) (τ : St) (j : Nat) (th : Int32) (o : OL) (od : OD) (r : Nat) : va_E := match r with
  | 0 => .inr (1, [.ref (ad 1), .ref (ad 2), .ref (ad 3), .ref (ad 4), .int (nI n)])
  | 1 => .inl (G.2.2 0, 6, .inl (σ 0))
  | 2 => .inl (G.2.2 0, 240, .inl (σ 1))
  | 3 => .inl (G.2.2 0, 20, .inl (σ 2))
  | 4 => .inl (G.2.2 1, 24, .inr (.inr (.inr (.inr (roF ad n)))))
  | 5 => .inr (2, mdF ad j th)
  | 6 => .inl (G.2.2 0, 6, .inl (τ 0))
  | 7 => .inl (G.2.2 0, 240, .inl (τ 1))
  | 8 => .inl (G.2.2 0, 20, .inl (τ 2))
  | 9 => .inl (G.2.2 0, 24, .inl (τ 3))
  | 10 => .inl (G.2.2 0, 24, .inl (τ 4))
  | 11 => .inl (G.2.2 0, 24, .inl (τ 5))
  | 12 => .inl (G.2.2 0, 24, .inl (τ 6))
  | 13 => .inl (G.2.2 0, 24, .inl (τ 7))
  | 14 => .inl (G.2.2 0, 24, .inl (τ 8))
  | 15 => .inl (G.2.2 0, 24, .inl (τ 9))
  | 16 => .inl (G.2.2 0, 24, .inl (τ 10))
  | 17 => .inl (G.2.2 0, 24, .inl (τ 11))
  | 18 => .inl (G.2.2 0, 24, .inl (τ 12))
  | 19 => .inl (G.2.2 0, 144, .inl (τ 13))
  | 20 => .inl (G.2.2 0, 144, .inl (τ 14))
  | 21 => .inl (G.2.2 2, 1, .inr (.inl o))
  | 22 => .inl (G.2.2 3, 1, .inr (.inr (.inr (.inl od))))
  | r + 23 => ctL G ad σ (r / 3) (r % 3)
theorem ct_L {G : GG} {ad : Nat → Nat} {σ : St} {n : Nat} {τ : St} {j : Nat} {th : Int32} {o : OL} {od : OD} (k : Nat) : ctS G ad σ n τ j th o od (3 * k + 23) = .inr (0, lsF ad σ k) := by
  show ctL G ad σ (3 * k / 3) (3 * k % 3) = _
  rw [show 3 * k / 3 = k by omega, show 3 * k % 3 = 0 by omega]
  rfl
theorem ct_L1 {G : GG} {ad : Nat → Nat} {σ : St} {n : Nat} {τ : St} {j : Nat} {th : Int32} {o : OL} {od : OD} (k : Nat) : ctS G ad σ n τ j th o od (3 * k + 24) = .inl (G.2.2 0, 6, .inl (rowF σ 13 k)) := by
  show ctL G ad σ ((3 * k + 1) / 3) ((3 * k + 1) % 3) = _
  rw [show (3 * k + 1) / 3 = k by omega, show (3 * k + 1) % 3 = 1 by omega]
  rfl
theorem ct_L2 {G : GG} {ad : Nat → Nat} {σ : St} {n : Nat} {τ : St} {j : Nat} {th : Int32} {o : OL} {od : OD} (k : Nat) : ctS G ad σ n τ j th o od (3 * k + 25) = .inl (G.2.2 0, 6, .inl (rowF σ 14 k)) := by
  show ctL G ad σ ((3 * k + 2) / 3) ((3 * k + 2) % 3) = _
  rw [show (3 * k + 2) / 3 = k by omega, show (3 * k + 2) % 3 = 2 by omega]
  rfl
theorem r_lt {k n : Nat} (h : k < n) : 3 * k + 23 < 3 * n + 23 := by omega
abbrev SyS (G : GG) (ad : Nat → Nat) (σ : St) (n : Nat) (τ : St) (j : Nat) (th : Int32) (o : OL) (od : OD) (s : State) (H : Heap) (locs : List Loc) : Prop := Sy G (3 * n + 23) ad (ctS G ad σ n τ j th o od) s H locs
abbrev PcS (G : GG) (ad : Nat → Nat) (σ : St) (n : Nat) (τ : St) (j : Nat) (th : Int32) (o : OL) (od : OD) (av : List Value) : Array Value → State → Prop := va_Pc av (fun U => SyS G ad σ n τ j th o od U U.heap [])
theorem lsF_ne {ad : Nat → Nat} {σ : St} {a i k : Nat} {x : Int32} (h : a < 3 ∨ 12 < a ∨ i ≠ k) : lsF ad (us σ a i x) k = lsF ad σ k := by
  have key : ∀ b, 3 ≤ b → b ≤ 12 → us σ a i x b k = σ b k := by
    intro b h1 h2
    unfold us
    by_cases hb : b = a
    · rw [if_pos hb]; unfold upd; rw [if_neg (by omega)]
    · rw [if_neg hb]
  unfold lsF
  rw [key 3 (by omega) (by omega), key 4 (by omega) (by omega), key 5 (by omega) (by omega), key 6 (by omega) (by omega), key 7 (by omega) (by omega), key 8 (by omega) (by omega), key 9 (by omega) (by omega), key 10 (by omega) (by omega), key 11 (by omega) (by omega), key 12 (by omega) (by omega)]
theorem rowF_ne {σ : St} {a b i k : Nat} {x : Int32} (h : a ≠ b ∨ i < 6 * k ∨ 6 * k + 6 ≤ i) : rowF (us σ a i x) b k = rowF σ b k := by
  unfold rowF us
  funext j
  by_cases hj : j < 6
  · rw [if_pos hj, if_pos hj]
    by_cases hb : b = a
    · rw [if_pos hb]; unfold upd; rw [if_neg (by omega)]
    · rw [if_neg hb]
  · rw [if_neg hj, if_neg hj]
theorem rowF_eq {σ : St} {a i k : Nat} {x : Int32} (h : i < 6) : rowF (us σ a (6 * k + i) x) a k = upd (rowF σ a k) i x := by
  unfold rowF us upd
  funext j
  simp only [if_true]
  by_cases hj : j < 6
  · rw [if_pos hj, if_pos hj]
    by_cases hb : j = i
    · rw [if_pos hb, if_pos (by omega)]
    · rw [if_neg hb, if_neg (by omega)]
  · rw [if_neg hj, if_neg hj, if_neg (by omega)]
theorem ctL_ne {G : GG} {ad : Nat → Nat} {σ : St} {a i k q : Nat} {x : Int32} (h : a < 3 ∨ (a ≤ 12 ∧ (i ≠ k ∨ q ≠ 0)) ∨ (13 ≤ a ∧ (q = 0 ∨ q + 12 ≠ a ∨ i < 6 * k ∨ 6 * k + 6 ≤ i))) (hq : q < 3) : ctL G ad (us σ a i x) k q = ctL G ad σ k q := by
  unfold ctL
  rcases (show q = 0 ∨ q = 1 ∨ q = 2 by omega) with rfl | rfl | rfl
  · show (.inr (0, lsF ad (us σ a i x) k) : va_E) = .inr (0, lsF ad σ k)
    rw [lsF_ne (by omega)]
  · show (.inl (G.2.2 0, 6, .inl (rowF (us σ a i x) 13 k)) : va_E) = .inl (G.2.2 0, 6, .inl (rowF σ 13 k))
    rw [rowF_ne (by omega)]
  · show (.inl (G.2.2 0, 6, .inl (rowF (us σ a i x) 14 k)) : va_E) = .inl (G.2.2 0, 6, .inl (rowF σ 14 k))
    rw [rowF_ne (by omega)]
theorem upA0 {G : GG} {ad : Nat → Nat} {σ : St} {n : Nat} {τ : St} {j : Nat} {th : Int32} {o : OL} {od : OD} {i : Nat} {x : Int32} : va_up (ctS G ad σ n τ j th o od) 1 (.inl (G.2.2 0, 6, .inl (upd (σ 0) i x))) = ctS G ad (us σ 0 i x) n τ j th o od := by
  funext r
  match r with
  | 0 => rfl
  | 1 => rfl
  | 2 => rfl
  | 3 => rfl
  | 4 => rfl
  | 5 => rfl
  | 6 => rfl
  | 7 => rfl
  | 8 => rfl
  | 9 => rfl
  | 10 => rfl
  | 11 => rfl
  | 12 => rfl
  | 13 => rfl
  | 14 => rfl
  | 15 => rfl
  | 16 => rfl
  | 17 => rfl
  | 18 => rfl
  | 19 => rfl
  | 20 => rfl
  | 21 => rfl
  | 22 => rfl
  | r + 23 =>
    rw [va_up_ne _ _ (by omega)]
    exact (ctL_ne (G := G) (ad := ad) (σ := σ) (a := 0) (i := i) (x := x) (Or.inl (by decide)) (Nat.mod_lt r (by decide))).symm
theorem upA1 {G : GG} {ad : Nat → Nat} {σ : St} {n : Nat} {τ : St} {j : Nat} {th : Int32} {o : OL} {od : OD} {i : Nat} {x : Int32} : va_up (ctS G ad σ n τ j th o od) 2 (.inl (G.2.2 0, 240, .inl (upd (σ 1) i x))) = ctS G ad (us σ 1 i x) n τ j th o od := by
  funext r
  match r with
  | 0 => rfl
  | 1 => rfl
  | 2 => rfl
  | 3 => rfl
  | 4 => rfl
  | 5 => rfl
  | 6 => rfl
  | 7 => rfl
  | 8 => rfl
  | 9 => rfl
  | 10 => rfl
  | 11 => rfl
  | 12 => rfl
  | 13 => rfl
  | 14 => rfl
  | 15 => rfl
  | 16 => rfl
  | 17 => rfl
  | 18 => rfl
  | 19 => rfl
  | 20 => rfl
  | 21 => rfl
  | 22 => rfl
  | r + 23 =>
    rw [va_up_ne _ _ (by omega)]
    exact (ctL_ne (G := G) (ad := ad) (σ := σ) (a := 1) (i := i) (x := x) (Or.inl (by decide)) (Nat.mod_lt r (by decide))).symm
theorem upA2 {G : GG} {ad : Nat → Nat} {σ : St} {n : Nat} {τ : St} {j : Nat} {th : Int32} {o : OL} {od : OD} {i : Nat} {x : Int32} : va_up (ctS G ad σ n τ j th o od) 3 (.inl (G.2.2 0, 20, .inl (upd (σ 2) i x))) = ctS G ad (us σ 2 i x) n τ j th o od := by
  funext r
  match r with
  | 0 => rfl
  | 1 => rfl
  | 2 => rfl
  | 3 => rfl
  | 4 => rfl
  | 5 => rfl
  | 6 => rfl
  | 7 => rfl
  | 8 => rfl
  | 9 => rfl
  | 10 => rfl
  | 11 => rfl
  | 12 => rfl
  | 13 => rfl
  | 14 => rfl
  | 15 => rfl
  | 16 => rfl
  | 17 => rfl
  | 18 => rfl
  | 19 => rfl
  | 20 => rfl
  | 21 => rfl
  | 22 => rfl
  | r + 23 =>
    rw [va_up_ne _ _ (by omega)]
    exact (ctL_ne (G := G) (ad := ad) (σ := σ) (a := 2) (i := i) (x := x) (Or.inl (by decide)) (Nat.mod_lt r (by decide))).symm
theorem upL3 {G : GG} {ad : Nat → Nat} {σ : St} {n : Nat} {τ : St} {j : Nat} {th : Int32} {o : OL} {od : OD} {k : Nat} {x : Int32} : va_up (ctS G ad σ n τ j th o od) (3 * k + 23) (.inr (0, (lsF ad σ k).set 0 (.int x))) = ctS G ad (us σ 3 k x) n τ j th o od := by
  funext r
  match r with
  | 0 => rw [va_up_ne _ _ (by omega)]; rfl
  | 1 => rw [va_up_ne _ _ (by omega)]; rfl
  | 2 => rw [va_up_ne _ _ (by omega)]; rfl
  | 3 => rw [va_up_ne _ _ (by omega)]; rfl
  | 4 => rw [va_up_ne _ _ (by omega)]; rfl
  | 5 => rw [va_up_ne _ _ (by omega)]; rfl
  | 6 => rw [va_up_ne _ _ (by omega)]; rfl
  | 7 => rw [va_up_ne _ _ (by omega)]; rfl
  | 8 => rw [va_up_ne _ _ (by omega)]; rfl
  | 9 => rw [va_up_ne _ _ (by omega)]; rfl
  | 10 => rw [va_up_ne _ _ (by omega)]; rfl
  | 11 => rw [va_up_ne _ _ (by omega)]; rfl
  | 12 => rw [va_up_ne _ _ (by omega)]; rfl
  | 13 => rw [va_up_ne _ _ (by omega)]; rfl
  | 14 => rw [va_up_ne _ _ (by omega)]; rfl
  | 15 => rw [va_up_ne _ _ (by omega)]; rfl
  | 16 => rw [va_up_ne _ _ (by omega)]; rfl
  | 17 => rw [va_up_ne _ _ (by omega)]; rfl
  | 18 => rw [va_up_ne _ _ (by omega)]; rfl
  | 19 => rw [va_up_ne _ _ (by omega)]; rfl
  | 20 => rw [va_up_ne _ _ (by omega)]; rfl
  | 21 => rw [va_up_ne _ _ (by omega)]; rfl
  | 22 => rw [va_up_ne _ _ (by omega)]; rfl
  | r + 23 =>
    by_cases h : r + 23 = 3 * k + 23
    · have h0 : r = 3 * k := by omega
      subst h0
      rw [va_up_self, ct_L]
      unfold lsF us upd
      simp
    · rw [va_up_ne _ _ h]
      refine (ctL_ne (G := G) (ad := ad) (σ := σ) (a := 3) (i := k) (x := x) (Or.inr (Or.inl ⟨by decide, ?_⟩)) (Nat.mod_lt r (by decide))).symm
      omega
theorem upL4 {G : GG} {ad : Nat → Nat} {σ : St} {n : Nat} {τ : St} {j : Nat} {th : Int32} {o : OL} {od : OD} {k : Nat} {x : Int32} : va_up (ctS G ad σ n τ j th o od) (3 * k + 23) (.inr (0, (lsF ad σ k).set 1 (.int x))) = ctS G ad (us σ 4 k x) n τ j th o od := by
  funext r
  match r with
  | 0 => rw [va_up_ne _ _ (by omega)]; rfl
  | 1 => rw [va_up_ne _ _ (by omega)]; rfl
  | 2 => rw [va_up_ne _ _ (by omega)]; rfl
  | 3 => rw [va_up_ne _ _ (by omega)]; rfl
  | 4 => rw [va_up_ne _ _ (by omega)]; rfl
  | 5 => rw [va_up_ne _ _ (by omega)]; rfl
  | 6 => rw [va_up_ne _ _ (by omega)]; rfl
  | 7 => rw [va_up_ne _ _ (by omega)]; rfl
  | 8 => rw [va_up_ne _ _ (by omega)]; rfl
  | 9 => rw [va_up_ne _ _ (by omega)]; rfl
  | 10 => rw [va_up_ne _ _ (by omega)]; rfl
  | 11 => rw [va_up_ne _ _ (by omega)]; rfl
  | 12 => rw [va_up_ne _ _ (by omega)]; rfl
  | 13 => rw [va_up_ne _ _ (by omega)]; rfl
  | 14 => rw [va_up_ne _ _ (by omega)]; rfl
  | 15 => rw [va_up_ne _ _ (by omega)]; rfl
  | 16 => rw [va_up_ne _ _ (by omega)]; rfl
  | 17 => rw [va_up_ne _ _ (by omega)]; rfl
  | 18 => rw [va_up_ne _ _ (by omega)]; rfl
  | 19 => rw [va_up_ne _ _ (by omega)]; rfl
  | 20 => rw [va_up_ne _ _ (by omega)]; rfl
  | 21 => rw [va_up_ne _ _ (by omega)]; rfl
  | 22 => rw [va_up_ne _ _ (by omega)]; rfl
  | r + 23 =>
    by_cases h : r + 23 = 3 * k + 23
    · have h0 : r = 3 * k := by omega
      subst h0
      rw [va_up_self, ct_L]
      unfold lsF us upd
      simp
    · rw [va_up_ne _ _ h]
      refine (ctL_ne (G := G) (ad := ad) (σ := σ) (a := 4) (i := k) (x := x) (Or.inr (Or.inl ⟨by decide, ?_⟩)) (Nat.mod_lt r (by decide))).symm
      omega
theorem upL6 {G : GG} {ad : Nat → Nat} {σ : St} {n : Nat} {τ : St} {j : Nat} {th : Int32} {o : OL} {od : OD} {k : Nat} {x : Int32} : va_up (ctS G ad σ n τ j th o od) (3 * k + 23) (.inr (0, (lsF ad σ k).set 2 (.int x))) = ctS G ad (us σ 6 k x) n τ j th o od := by
  funext r
  match r with
  | 0 => rw [va_up_ne _ _ (by omega)]; rfl
  | 1 => rw [va_up_ne _ _ (by omega)]; rfl
  | 2 => rw [va_up_ne _ _ (by omega)]; rfl
  | 3 => rw [va_up_ne _ _ (by omega)]; rfl
  | 4 => rw [va_up_ne _ _ (by omega)]; rfl
  | 5 => rw [va_up_ne _ _ (by omega)]; rfl
  | 6 => rw [va_up_ne _ _ (by omega)]; rfl
  | 7 => rw [va_up_ne _ _ (by omega)]; rfl
  | 8 => rw [va_up_ne _ _ (by omega)]; rfl
  | 9 => rw [va_up_ne _ _ (by omega)]; rfl
  | 10 => rw [va_up_ne _ _ (by omega)]; rfl
  | 11 => rw [va_up_ne _ _ (by omega)]; rfl
  | 12 => rw [va_up_ne _ _ (by omega)]; rfl
  | 13 => rw [va_up_ne _ _ (by omega)]; rfl
  | 14 => rw [va_up_ne _ _ (by omega)]; rfl
  | 15 => rw [va_up_ne _ _ (by omega)]; rfl
  | 16 => rw [va_up_ne _ _ (by omega)]; rfl
  | 17 => rw [va_up_ne _ _ (by omega)]; rfl
  | 18 => rw [va_up_ne _ _ (by omega)]; rfl
  | 19 => rw [va_up_ne _ _ (by omega)]; rfl
  | 20 => rw [va_up_ne _ _ (by omega)]; rfl
  | 21 => rw [va_up_ne _ _ (by omega)]; rfl
  | 22 => rw [va_up_ne _ _ (by omega)]; rfl
  | r + 23 =>
    by_cases h : r + 23 = 3 * k + 23
    · have h0 : r = 3 * k := by omega
      subst h0
      rw [va_up_self, ct_L]
      unfold lsF us upd
      simp
    · rw [va_up_ne _ _ h]
      refine (ctL_ne (G := G) (ad := ad) (σ := σ) (a := 6) (i := k) (x := x) (Or.inr (Or.inl ⟨by decide, ?_⟩)) (Nat.mod_lt r (by decide))).symm
      omega
theorem upL5 {G : GG} {ad : Nat → Nat} {σ : St} {n : Nat} {τ : St} {j : Nat} {th : Int32} {o : OL} {od : OD} {k : Nat} {x : Int32} : va_up (ctS G ad σ n τ j th o od) (3 * k + 23) (.inr (0, (lsF ad σ k).set 3 (.int x))) = ctS G ad (us σ 5 k x) n τ j th o od := by
  funext r
  match r with
  | 0 => rw [va_up_ne _ _ (by omega)]; rfl
  | 1 => rw [va_up_ne _ _ (by omega)]; rfl
  | 2 => rw [va_up_ne _ _ (by omega)]; rfl
  | 3 => rw [va_up_ne _ _ (by omega)]; rfl
  | 4 => rw [va_up_ne _ _ (by omega)]; rfl
  | 5 => rw [va_up_ne _ _ (by omega)]; rfl
  | 6 => rw [va_up_ne _ _ (by omega)]; rfl
  | 7 => rw [va_up_ne _ _ (by omega)]; rfl
  | 8 => rw [va_up_ne _ _ (by omega)]; rfl
  | 9 => rw [va_up_ne _ _ (by omega)]; rfl
  | 10 => rw [va_up_ne _ _ (by omega)]; rfl
  | 11 => rw [va_up_ne _ _ (by omega)]; rfl
  | 12 => rw [va_up_ne _ _ (by omega)]; rfl
  | 13 => rw [va_up_ne _ _ (by omega)]; rfl
  | 14 => rw [va_up_ne _ _ (by omega)]; rfl
  | 15 => rw [va_up_ne _ _ (by omega)]; rfl
  | 16 => rw [va_up_ne _ _ (by omega)]; rfl
  | 17 => rw [va_up_ne _ _ (by omega)]; rfl
  | 18 => rw [va_up_ne _ _ (by omega)]; rfl
  | 19 => rw [va_up_ne _ _ (by omega)]; rfl
  | 20 => rw [va_up_ne _ _ (by omega)]; rfl
  | 21 => rw [va_up_ne _ _ (by omega)]; rfl
  | 22 => rw [va_up_ne _ _ (by omega)]; rfl
  | r + 23 =>
    by_cases h : r + 23 = 3 * k + 23
    · have h0 : r = 3 * k := by omega
      subst h0
      rw [va_up_self, ct_L]
      unfold lsF us upd
      simp
    · rw [va_up_ne _ _ h]
      refine (ctL_ne (G := G) (ad := ad) (σ := σ) (a := 5) (i := k) (x := x) (Or.inr (Or.inl ⟨by decide, ?_⟩)) (Nat.mod_lt r (by decide))).symm
      omega
theorem upL7 {G : GG} {ad : Nat → Nat} {σ : St} {n : Nat} {τ : St} {j : Nat} {th : Int32} {o : OL} {od : OD} {k : Nat} {x : Int32} : va_up (ctS G ad σ n τ j th o od) (3 * k + 23) (.inr (0, (lsF ad σ k).set 4 (.int x))) = ctS G ad (us σ 7 k x) n τ j th o od := by
  funext r
  match r with
  | 0 => rw [va_up_ne _ _ (by omega)]; rfl
  | 1 => rw [va_up_ne _ _ (by omega)]; rfl
  | 2 => rw [va_up_ne _ _ (by omega)]; rfl
  | 3 => rw [va_up_ne _ _ (by omega)]; rfl
  | 4 => rw [va_up_ne _ _ (by omega)]; rfl
  | 5 => rw [va_up_ne _ _ (by omega)]; rfl
  | 6 => rw [va_up_ne _ _ (by omega)]; rfl
  | 7 => rw [va_up_ne _ _ (by omega)]; rfl
  | 8 => rw [va_up_ne _ _ (by omega)]; rfl
  | 9 => rw [va_up_ne _ _ (by omega)]; rfl
  | 10 => rw [va_up_ne _ _ (by omega)]; rfl
  | 11 => rw [va_up_ne _ _ (by omega)]; rfl
  | 12 => rw [va_up_ne _ _ (by omega)]; rfl
  | 13 => rw [va_up_ne _ _ (by omega)]; rfl
  | 14 => rw [va_up_ne _ _ (by omega)]; rfl
  | 15 => rw [va_up_ne _ _ (by omega)]; rfl
  | 16 => rw [va_up_ne _ _ (by omega)]; rfl
  | 17 => rw [va_up_ne _ _ (by omega)]; rfl
  | 18 => rw [va_up_ne _ _ (by omega)]; rfl
  | 19 => rw [va_up_ne _ _ (by omega)]; rfl
  | 20 => rw [va_up_ne _ _ (by omega)]; rfl
  | 21 => rw [va_up_ne _ _ (by omega)]; rfl
  | 22 => rw [va_up_ne _ _ (by omega)]; rfl
  | r + 23 =>
    by_cases h : r + 23 = 3 * k + 23
    · have h0 : r = 3 * k := by omega
      subst h0
      rw [va_up_self, ct_L]
      unfold lsF us upd
      simp
    · rw [va_up_ne _ _ h]
      refine (ctL_ne (G := G) (ad := ad) (σ := σ) (a := 7) (i := k) (x := x) (Or.inr (Or.inl ⟨by decide, ?_⟩)) (Nat.mod_lt r (by decide))).symm
      omega
theorem upL8 {G : GG} {ad : Nat → Nat} {σ : St} {n : Nat} {τ : St} {j : Nat} {th : Int32} {o : OL} {od : OD} {k : Nat} {x : Int32} : va_up (ctS G ad σ n τ j th o od) (3 * k + 23) (.inr (0, (lsF ad σ k).set 5 (.int x))) = ctS G ad (us σ 8 k x) n τ j th o od := by
  funext r
  match r with
  | 0 => rw [va_up_ne _ _ (by omega)]; rfl
  | 1 => rw [va_up_ne _ _ (by omega)]; rfl
  | 2 => rw [va_up_ne _ _ (by omega)]; rfl
  | 3 => rw [va_up_ne _ _ (by omega)]; rfl
  | 4 => rw [va_up_ne _ _ (by omega)]; rfl
  | 5 => rw [va_up_ne _ _ (by omega)]; rfl
  | 6 => rw [va_up_ne _ _ (by omega)]; rfl
  | 7 => rw [va_up_ne _ _ (by omega)]; rfl
  | 8 => rw [va_up_ne _ _ (by omega)]; rfl
  | 9 => rw [va_up_ne _ _ (by omega)]; rfl
  | 10 => rw [va_up_ne _ _ (by omega)]; rfl
  | 11 => rw [va_up_ne _ _ (by omega)]; rfl
  | 12 => rw [va_up_ne _ _ (by omega)]; rfl
  | 13 => rw [va_up_ne _ _ (by omega)]; rfl
  | 14 => rw [va_up_ne _ _ (by omega)]; rfl
  | 15 => rw [va_up_ne _ _ (by omega)]; rfl
  | 16 => rw [va_up_ne _ _ (by omega)]; rfl
  | 17 => rw [va_up_ne _ _ (by omega)]; rfl
  | 18 => rw [va_up_ne _ _ (by omega)]; rfl
  | 19 => rw [va_up_ne _ _ (by omega)]; rfl
  | 20 => rw [va_up_ne _ _ (by omega)]; rfl
  | 21 => rw [va_up_ne _ _ (by omega)]; rfl
  | 22 => rw [va_up_ne _ _ (by omega)]; rfl
  | r + 23 =>
    by_cases h : r + 23 = 3 * k + 23
    · have h0 : r = 3 * k := by omega
      subst h0
      rw [va_up_self, ct_L]
      unfold lsF us upd
      simp
    · rw [va_up_ne _ _ h]
      refine (ctL_ne (G := G) (ad := ad) (σ := σ) (a := 8) (i := k) (x := x) (Or.inr (Or.inl ⟨by decide, ?_⟩)) (Nat.mod_lt r (by decide))).symm
      omega
theorem upL9 {G : GG} {ad : Nat → Nat} {σ : St} {n : Nat} {τ : St} {j : Nat} {th : Int32} {o : OL} {od : OD} {k : Nat} {x : Int32} : va_up (ctS G ad σ n τ j th o od) (3 * k + 23) (.inr (0, (lsF ad σ k).set 6 (.int x))) = ctS G ad (us σ 9 k x) n τ j th o od := by
  funext r
  match r with
  | 0 => rw [va_up_ne _ _ (by omega)]; rfl
  | 1 => rw [va_up_ne _ _ (by omega)]; rfl
  | 2 => rw [va_up_ne _ _ (by omega)]; rfl
  | 3 => rw [va_up_ne _ _ (by omega)]; rfl
  | 4 => rw [va_up_ne _ _ (by omega)]; rfl
  | 5 => rw [va_up_ne _ _ (by omega)]; rfl
  | 6 => rw [va_up_ne _ _ (by omega)]; rfl
  | 7 => rw [va_up_ne _ _ (by omega)]; rfl
  | 8 => rw [va_up_ne _ _ (by omega)]; rfl
  | 9 => rw [va_up_ne _ _ (by omega)]; rfl
  | 10 => rw [va_up_ne _ _ (by omega)]; rfl
  | 11 => rw [va_up_ne _ _ (by omega)]; rfl
  | 12 => rw [va_up_ne _ _ (by omega)]; rfl
  | 13 => rw [va_up_ne _ _ (by omega)]; rfl
  | 14 => rw [va_up_ne _ _ (by omega)]; rfl
  | 15 => rw [va_up_ne _ _ (by omega)]; rfl
  | 16 => rw [va_up_ne _ _ (by omega)]; rfl
  | 17 => rw [va_up_ne _ _ (by omega)]; rfl
  | 18 => rw [va_up_ne _ _ (by omega)]; rfl
  | 19 => rw [va_up_ne _ _ (by omega)]; rfl
  | 20 => rw [va_up_ne _ _ (by omega)]; rfl
  | 21 => rw [va_up_ne _ _ (by omega)]; rfl
  | 22 => rw [va_up_ne _ _ (by omega)]; rfl
  | r + 23 =>
    by_cases h : r + 23 = 3 * k + 23
    · have h0 : r = 3 * k := by omega
      subst h0
      rw [va_up_self, ct_L]
      unfold lsF us upd
      simp
    · rw [va_up_ne _ _ h]
      refine (ctL_ne (G := G) (ad := ad) (σ := σ) (a := 9) (i := k) (x := x) (Or.inr (Or.inl ⟨by decide, ?_⟩)) (Nat.mod_lt r (by decide))).symm
      omega
theorem upL10 {G : GG} {ad : Nat → Nat} {σ : St} {n : Nat} {τ : St} {j : Nat} {th : Int32} {o : OL} {od : OD} {k : Nat} {x : Int32} : va_up (ctS G ad σ n τ j th o od) (3 * k + 23) (.inr (0, (lsF ad σ k).set 7 (.int x))) = ctS G ad (us σ 10 k x) n τ j th o od := by
  funext r
  match r with
  | 0 => rw [va_up_ne _ _ (by omega)]; rfl
  | 1 => rw [va_up_ne _ _ (by omega)]; rfl
  | 2 => rw [va_up_ne _ _ (by omega)]; rfl
  | 3 => rw [va_up_ne _ _ (by omega)]; rfl
  | 4 => rw [va_up_ne _ _ (by omega)]; rfl
  | 5 => rw [va_up_ne _ _ (by omega)]; rfl
  | 6 => rw [va_up_ne _ _ (by omega)]; rfl
  | 7 => rw [va_up_ne _ _ (by omega)]; rfl
  | 8 => rw [va_up_ne _ _ (by omega)]; rfl
  | 9 => rw [va_up_ne _ _ (by omega)]; rfl
  | 10 => rw [va_up_ne _ _ (by omega)]; rfl
  | 11 => rw [va_up_ne _ _ (by omega)]; rfl
  | 12 => rw [va_up_ne _ _ (by omega)]; rfl
  | 13 => rw [va_up_ne _ _ (by omega)]; rfl
  | 14 => rw [va_up_ne _ _ (by omega)]; rfl
  | 15 => rw [va_up_ne _ _ (by omega)]; rfl
  | 16 => rw [va_up_ne _ _ (by omega)]; rfl
  | 17 => rw [va_up_ne _ _ (by omega)]; rfl
  | 18 => rw [va_up_ne _ _ (by omega)]; rfl
  | 19 => rw [va_up_ne _ _ (by omega)]; rfl
  | 20 => rw [va_up_ne _ _ (by omega)]; rfl
  | 21 => rw [va_up_ne _ _ (by omega)]; rfl
  | 22 => rw [va_up_ne _ _ (by omega)]; rfl
  | r + 23 =>
    by_cases h : r + 23 = 3 * k + 23
    · have h0 : r = 3 * k := by omega
      subst h0
      rw [va_up_self, ct_L]
      unfold lsF us upd
      simp
    · rw [va_up_ne _ _ h]
      refine (ctL_ne (G := G) (ad := ad) (σ := σ) (a := 10) (i := k) (x := x) (Or.inr (Or.inl ⟨by decide, ?_⟩)) (Nat.mod_lt r (by decide))).symm
      omega
theorem upL11 {G : GG} {ad : Nat → Nat} {σ : St} {n : Nat} {τ : St} {j : Nat} {th : Int32} {o : OL} {od : OD} {k : Nat} {x : Int32} : va_up (ctS G ad σ n τ j th o od) (3 * k + 23) (.inr (0, (lsF ad σ k).set 8 (.int x))) = ctS G ad (us σ 11 k x) n τ j th o od := by
  funext r
  match r with
  | 0 => rw [va_up_ne _ _ (by omega)]; rfl
  | 1 => rw [va_up_ne _ _ (by omega)]; rfl
  | 2 => rw [va_up_ne _ _ (by omega)]; rfl
  | 3 => rw [va_up_ne _ _ (by omega)]; rfl
  | 4 => rw [va_up_ne _ _ (by omega)]; rfl
  | 5 => rw [va_up_ne _ _ (by omega)]; rfl
  | 6 => rw [va_up_ne _ _ (by omega)]; rfl
  | 7 => rw [va_up_ne _ _ (by omega)]; rfl
  | 8 => rw [va_up_ne _ _ (by omega)]; rfl
  | 9 => rw [va_up_ne _ _ (by omega)]; rfl
  | 10 => rw [va_up_ne _ _ (by omega)]; rfl
  | 11 => rw [va_up_ne _ _ (by omega)]; rfl
  | 12 => rw [va_up_ne _ _ (by omega)]; rfl
  | 13 => rw [va_up_ne _ _ (by omega)]; rfl
  | 14 => rw [va_up_ne _ _ (by omega)]; rfl
  | 15 => rw [va_up_ne _ _ (by omega)]; rfl
  | 16 => rw [va_up_ne _ _ (by omega)]; rfl
  | 17 => rw [va_up_ne _ _ (by omega)]; rfl
  | 18 => rw [va_up_ne _ _ (by omega)]; rfl
  | 19 => rw [va_up_ne _ _ (by omega)]; rfl
  | 20 => rw [va_up_ne _ _ (by omega)]; rfl
  | 21 => rw [va_up_ne _ _ (by omega)]; rfl
  | 22 => rw [va_up_ne _ _ (by omega)]; rfl
  | r + 23 =>
    by_cases h : r + 23 = 3 * k + 23
    · have h0 : r = 3 * k := by omega
      subst h0
      rw [va_up_self, ct_L]
      unfold lsF us upd
      simp
    · rw [va_up_ne _ _ h]
      refine (ctL_ne (G := G) (ad := ad) (σ := σ) (a := 11) (i := k) (x := x) (Or.inr (Or.inl ⟨by decide, ?_⟩)) (Nat.mod_lt r (by decide))).symm
      omega
theorem upL12 {G : GG} {ad : Nat → Nat} {σ : St} {n : Nat} {τ : St} {j : Nat} {th : Int32} {o : OL} {od : OD} {k : Nat} {x : Int32} : va_up (ctS G ad σ n τ j th o od) (3 * k + 23) (.inr (0, (lsF ad σ k).set 11 (.int x))) = ctS G ad (us σ 12 k x) n τ j th o od := by
  funext r
  match r with
  | 0 => rw [va_up_ne _ _ (by omega)]; rfl
  | 1 => rw [va_up_ne _ _ (by omega)]; rfl
  | 2 => rw [va_up_ne _ _ (by omega)]; rfl
  | 3 => rw [va_up_ne _ _ (by omega)]; rfl
  | 4 => rw [va_up_ne _ _ (by omega)]; rfl
  | 5 => rw [va_up_ne _ _ (by omega)]; rfl
  | 6 => rw [va_up_ne _ _ (by omega)]; rfl
  | 7 => rw [va_up_ne _ _ (by omega)]; rfl
  | 8 => rw [va_up_ne _ _ (by omega)]; rfl
  | 9 => rw [va_up_ne _ _ (by omega)]; rfl
  | 10 => rw [va_up_ne _ _ (by omega)]; rfl
  | 11 => rw [va_up_ne _ _ (by omega)]; rfl
  | 12 => rw [va_up_ne _ _ (by omega)]; rfl
  | 13 => rw [va_up_ne _ _ (by omega)]; rfl
  | 14 => rw [va_up_ne _ _ (by omega)]; rfl
  | 15 => rw [va_up_ne _ _ (by omega)]; rfl
  | 16 => rw [va_up_ne _ _ (by omega)]; rfl
  | 17 => rw [va_up_ne _ _ (by omega)]; rfl
  | 18 => rw [va_up_ne _ _ (by omega)]; rfl
  | 19 => rw [va_up_ne _ _ (by omega)]; rfl
  | 20 => rw [va_up_ne _ _ (by omega)]; rfl
  | 21 => rw [va_up_ne _ _ (by omega)]; rfl
  | 22 => rw [va_up_ne _ _ (by omega)]; rfl
  | r + 23 =>
    by_cases h : r + 23 = 3 * k + 23
    · have h0 : r = 3 * k := by omega
      subst h0
      rw [va_up_self, ct_L]
      unfold lsF us upd
      simp
    · rw [va_up_ne _ _ h]
      refine (ctL_ne (G := G) (ad := ad) (σ := σ) (a := 12) (i := k) (x := x) (Or.inr (Or.inl ⟨by decide, ?_⟩)) (Nat.mod_lt r (by decide))).symm
      omega
theorem upR13 {G : GG} {ad : Nat → Nat} {σ : St} {n : Nat} {τ : St} {j : Nat} {th : Int32} {o : OL} {od : OD} {k i : Nat} {x : Int32} (hi : i < 6) : va_up (ctS G ad σ n τ j th o od) (3 * k + 24) (.inl (G.2.2 0, 6, .inl (upd (rowF σ 13 k) i x))) = ctS G ad (us σ 13 (6 * k + i) x) n τ j th o od := by
  funext r
  match r with
  | 0 => rw [va_up_ne _ _ (by omega)]; rfl
  | 1 => rw [va_up_ne _ _ (by omega)]; rfl
  | 2 => rw [va_up_ne _ _ (by omega)]; rfl
  | 3 => rw [va_up_ne _ _ (by omega)]; rfl
  | 4 => rw [va_up_ne _ _ (by omega)]; rfl
  | 5 => rw [va_up_ne _ _ (by omega)]; rfl
  | 6 => rw [va_up_ne _ _ (by omega)]; rfl
  | 7 => rw [va_up_ne _ _ (by omega)]; rfl
  | 8 => rw [va_up_ne _ _ (by omega)]; rfl
  | 9 => rw [va_up_ne _ _ (by omega)]; rfl
  | 10 => rw [va_up_ne _ _ (by omega)]; rfl
  | 11 => rw [va_up_ne _ _ (by omega)]; rfl
  | 12 => rw [va_up_ne _ _ (by omega)]; rfl
  | 13 => rw [va_up_ne _ _ (by omega)]; rfl
  | 14 => rw [va_up_ne _ _ (by omega)]; rfl
  | 15 => rw [va_up_ne _ _ (by omega)]; rfl
  | 16 => rw [va_up_ne _ _ (by omega)]; rfl
  | 17 => rw [va_up_ne _ _ (by omega)]; rfl
  | 18 => rw [va_up_ne _ _ (by omega)]; rfl
  | 19 => rw [va_up_ne _ _ (by omega)]; rfl
  | 20 => rw [va_up_ne _ _ (by omega)]; rfl
  | 21 => rw [va_up_ne _ _ (by omega)]; rfl
  | 22 => rw [va_up_ne _ _ (by omega)]; rfl
  | r + 23 =>
    by_cases h : r + 23 = 3 * k + 24
    · have h0 : r = 3 * k + 1 := by omega
      subst h0
      rw [va_up_self]
      show _ = ctS G ad (us σ 13 (6 * k + i) x) n τ j th o od (3 * k + 24)
      rw [ct_L1, rowF_eq hi]
    · rw [va_up_ne _ _ h]
      refine (ctL_ne (G := G) (ad := ad) (σ := σ) (a := 13) (i := 6 * k + i) (x := x) (Or.inr (Or.inr ⟨by decide, ?_⟩)) (Nat.mod_lt r (by decide))).symm
      omega
theorem upR14 {G : GG} {ad : Nat → Nat} {σ : St} {n : Nat} {τ : St} {j : Nat} {th : Int32} {o : OL} {od : OD} {k i : Nat} {x : Int32} (hi : i < 6) : va_up (ctS G ad σ n τ j th o od) (3 * k + 25) (.inl (G.2.2 0, 6, .inl (upd (rowF σ 14 k) i x))) = ctS G ad (us σ 14 (6 * k + i) x) n τ j th o od := by
  funext r
  match r with
  | 0 => rw [va_up_ne _ _ (by omega)]; rfl
  | 1 => rw [va_up_ne _ _ (by omega)]; rfl
  | 2 => rw [va_up_ne _ _ (by omega)]; rfl
  | 3 => rw [va_up_ne _ _ (by omega)]; rfl
  | 4 => rw [va_up_ne _ _ (by omega)]; rfl
  | 5 => rw [va_up_ne _ _ (by omega)]; rfl
  | 6 => rw [va_up_ne _ _ (by omega)]; rfl
  | 7 => rw [va_up_ne _ _ (by omega)]; rfl
  | 8 => rw [va_up_ne _ _ (by omega)]; rfl
  | 9 => rw [va_up_ne _ _ (by omega)]; rfl
  | 10 => rw [va_up_ne _ _ (by omega)]; rfl
  | 11 => rw [va_up_ne _ _ (by omega)]; rfl
  | 12 => rw [va_up_ne _ _ (by omega)]; rfl
  | 13 => rw [va_up_ne _ _ (by omega)]; rfl
  | 14 => rw [va_up_ne _ _ (by omega)]; rfl
  | 15 => rw [va_up_ne _ _ (by omega)]; rfl
  | 16 => rw [va_up_ne _ _ (by omega)]; rfl
  | 17 => rw [va_up_ne _ _ (by omega)]; rfl
  | 18 => rw [va_up_ne _ _ (by omega)]; rfl
  | 19 => rw [va_up_ne _ _ (by omega)]; rfl
  | 20 => rw [va_up_ne _ _ (by omega)]; rfl
  | 21 => rw [va_up_ne _ _ (by omega)]; rfl
  | 22 => rw [va_up_ne _ _ (by omega)]; rfl
  | r + 23 =>
    by_cases h : r + 23 = 3 * k + 25
    · have h0 : r = 3 * k + 2 := by omega
      subst h0
      rw [va_up_self]
      show _ = ctS G ad (us σ 14 (6 * k + i) x) n τ j th o od (3 * k + 25)
      rw [ct_L2, rowF_eq hi]
    · rw [va_up_ne _ _ h]
      refine (ctL_ne (G := G) (ad := ad) (σ := σ) (a := 14) (i := 6 * k + i) (x := x) (Or.inr (Or.inr ⟨by decide, ?_⟩)) (Nat.mod_lt r (by decide))).symm
      omega
theorem upM0 {G : GG} {ad : Nat → Nat} {σ : St} {n : Nat} {τ : St} {j : Nat} {th : Int32} {o : OL} {od : OD} {i : Nat} {x : Int32} : va_up (ctS G ad σ n τ j th o od) 6 (.inl (G.2.2 0, 6, .inl (upd (τ 0) i x))) = ctS G ad σ n (us τ 0 i x) j th o od := by
  funext r
  match r with
  | 0 => rfl
  | 1 => rfl
  | 2 => rfl
  | 3 => rfl
  | 4 => rfl
  | 5 => rfl
  | 6 => rfl
  | 7 => rfl
  | 8 => rfl
  | 9 => rfl
  | 10 => rfl
  | 11 => rfl
  | 12 => rfl
  | 13 => rfl
  | 14 => rfl
  | 15 => rfl
  | 16 => rfl
  | 17 => rfl
  | 18 => rfl
  | 19 => rfl
  | 20 => rfl
  | 21 => rfl
  | 22 => rfl
  | r + 23 => rw [va_up_ne _ _ (by omega)]; rfl
theorem upM1 {G : GG} {ad : Nat → Nat} {σ : St} {n : Nat} {τ : St} {j : Nat} {th : Int32} {o : OL} {od : OD} {i : Nat} {x : Int32} : va_up (ctS G ad σ n τ j th o od) 7 (.inl (G.2.2 0, 240, .inl (upd (τ 1) i x))) = ctS G ad σ n (us τ 1 i x) j th o od := by
  funext r
  match r with
  | 0 => rfl
  | 1 => rfl
  | 2 => rfl
  | 3 => rfl
  | 4 => rfl
  | 5 => rfl
  | 6 => rfl
  | 7 => rfl
  | 8 => rfl
  | 9 => rfl
  | 10 => rfl
  | 11 => rfl
  | 12 => rfl
  | 13 => rfl
  | 14 => rfl
  | 15 => rfl
  | 16 => rfl
  | 17 => rfl
  | 18 => rfl
  | 19 => rfl
  | 20 => rfl
  | 21 => rfl
  | 22 => rfl
  | r + 23 => rw [va_up_ne _ _ (by omega)]; rfl
theorem upM2 {G : GG} {ad : Nat → Nat} {σ : St} {n : Nat} {τ : St} {j : Nat} {th : Int32} {o : OL} {od : OD} {i : Nat} {x : Int32} : va_up (ctS G ad σ n τ j th o od) 8 (.inl (G.2.2 0, 20, .inl (upd (τ 2) i x))) = ctS G ad σ n (us τ 2 i x) j th o od := by
  funext r
  match r with
  | 0 => rfl
  | 1 => rfl
  | 2 => rfl
  | 3 => rfl
  | 4 => rfl
  | 5 => rfl
  | 6 => rfl
  | 7 => rfl
  | 8 => rfl
  | 9 => rfl
  | 10 => rfl
  | 11 => rfl
  | 12 => rfl
  | 13 => rfl
  | 14 => rfl
  | 15 => rfl
  | 16 => rfl
  | 17 => rfl
  | 18 => rfl
  | 19 => rfl
  | 20 => rfl
  | 21 => rfl
  | 22 => rfl
  | r + 23 => rw [va_up_ne _ _ (by omega)]; rfl
theorem upM3 {G : GG} {ad : Nat → Nat} {σ : St} {n : Nat} {τ : St} {j : Nat} {th : Int32} {o : OL} {od : OD} {i : Nat} {x : Int32} : va_up (ctS G ad σ n τ j th o od) 9 (.inl (G.2.2 0, 24, .inl (upd (τ 3) i x))) = ctS G ad σ n (us τ 3 i x) j th o od := by
  funext r
  match r with
  | 0 => rfl
  | 1 => rfl
  | 2 => rfl
  | 3 => rfl
  | 4 => rfl
  | 5 => rfl
  | 6 => rfl
  | 7 => rfl
  | 8 => rfl
  | 9 => rfl
  | 10 => rfl
  | 11 => rfl
  | 12 => rfl
  | 13 => rfl
  | 14 => rfl
  | 15 => rfl
  | 16 => rfl
  | 17 => rfl
  | 18 => rfl
  | 19 => rfl
  | 20 => rfl
  | 21 => rfl
  | 22 => rfl
  | r + 23 => rw [va_up_ne _ _ (by omega)]; rfl
theorem upM4 {G : GG} {ad : Nat → Nat} {σ : St} {n : Nat} {τ : St} {j : Nat} {th : Int32} {o : OL} {od : OD} {i : Nat} {x : Int32} : va_up (ctS G ad σ n τ j th o od) 10 (.inl (G.2.2 0, 24, .inl (upd (τ 4) i x))) = ctS G ad σ n (us τ 4 i x) j th o od := by
  funext r
  match r with
  | 0 => rfl
  | 1 => rfl
  | 2 => rfl
  | 3 => rfl
  | 4 => rfl
  | 5 => rfl
  | 6 => rfl
  | 7 => rfl
  | 8 => rfl
  | 9 => rfl
  | 10 => rfl
  | 11 => rfl
  | 12 => rfl
  | 13 => rfl
  | 14 => rfl
  | 15 => rfl
  | 16 => rfl
  | 17 => rfl
  | 18 => rfl
  | 19 => rfl
  | 20 => rfl
  | 21 => rfl
  | 22 => rfl
  | r + 23 => rw [va_up_ne _ _ (by omega)]; rfl
theorem upM5 {G : GG} {ad : Nat → Nat} {σ : St} {n : Nat} {τ : St} {j : Nat} {th : Int32} {o : OL} {od : OD} {i : Nat} {x : Int32} : va_up (ctS G ad σ n τ j th o od) 11 (.inl (G.2.2 0, 24, .inl (upd (τ 5) i x))) = ctS G ad σ n (us τ 5 i x) j th o od := by
  funext r
  match r with
  | 0 => rfl
  | 1 => rfl
  | 2 => rfl
  | 3 => rfl
  | 4 => rfl
  | 5 => rfl
  | 6 => rfl
  | 7 => rfl
  | 8 => rfl
  | 9 => rfl
  | 10 => rfl
  | 11 => rfl
  | 12 => rfl
  | 13 => rfl
  | 14 => rfl
  | 15 => rfl
  | 16 => rfl
  | 17 => rfl
  | 18 => rfl
  | 19 => rfl
  | 20 => rfl
  | 21 => rfl
  | 22 => rfl
  | r + 23 => rw [va_up_ne _ _ (by omega)]; rfl
theorem upM6 {G : GG} {ad : Nat → Nat} {σ : St} {n : Nat} {τ : St} {j : Nat} {th : Int32} {o : OL} {od : OD} {i : Nat} {x : Int32} : va_up (ctS G ad σ n τ j th o od) 12 (.inl (G.2.2 0, 24, .inl (upd (τ 6) i x))) = ctS G ad σ n (us τ 6 i x) j th o od := by
  funext r
  match r with
  | 0 => rfl
  | 1 => rfl
  | 2 => rfl
  | 3 => rfl
  | 4 => rfl
  | 5 => rfl
  | 6 => rfl
  | 7 => rfl
  | 8 => rfl
  | 9 => rfl
  | 10 => rfl
  | 11 => rfl
  | 12 => rfl
  | 13 => rfl
  | 14 => rfl
  | 15 => rfl
  | 16 => rfl
  | 17 => rfl
  | 18 => rfl
  | 19 => rfl
  | 20 => rfl
  | 21 => rfl
  | 22 => rfl
  | r + 23 => rw [va_up_ne _ _ (by omega)]; rfl
theorem upM7 {G : GG} {ad : Nat → Nat} {σ : St} {n : Nat} {τ : St} {j : Nat} {th : Int32} {o : OL} {od : OD} {i : Nat} {x : Int32} : va_up (ctS G ad σ n τ j th o od) 13 (.inl (G.2.2 0, 24, .inl (upd (τ 7) i x))) = ctS G ad σ n (us τ 7 i x) j th o od := by
  funext r
  match r with
  | 0 => rfl
  | 1 => rfl
  | 2 => rfl
  | 3 => rfl
  | 4 => rfl
  | 5 => rfl
  | 6 => rfl
  | 7 => rfl
  | 8 => rfl
  | 9 => rfl
  | 10 => rfl
  | 11 => rfl
  | 12 => rfl
  | 13 => rfl
  | 14 => rfl
  | 15 => rfl
  | 16 => rfl
  | 17 => rfl
  | 18 => rfl
  | 19 => rfl
  | 20 => rfl
  | 21 => rfl
  | 22 => rfl
  | r + 23 => rw [va_up_ne _ _ (by omega)]; rfl
theorem upM8 {G : GG} {ad : Nat → Nat} {σ : St} {n : Nat} {τ : St} {j : Nat} {th : Int32} {o : OL} {od : OD} {i : Nat} {x : Int32} : va_up (ctS G ad σ n τ j th o od) 14 (.inl (G.2.2 0, 24, .inl (upd (τ 8) i x))) = ctS G ad σ n (us τ 8 i x) j th o od := by
  funext r
  match r with
  | 0 => rfl
  | 1 => rfl
  | 2 => rfl
  | 3 => rfl
  | 4 => rfl
  | 5 => rfl
  | 6 => rfl
  | 7 => rfl
  | 8 => rfl
  | 9 => rfl
  | 10 => rfl
  | 11 => rfl
  | 12 => rfl
  | 13 => rfl
  | 14 => rfl
  | 15 => rfl
  | 16 => rfl
  | 17 => rfl
  | 18 => rfl
  | 19 => rfl
  | 20 => rfl
  | 21 => rfl
  | 22 => rfl
  | r + 23 => rw [va_up_ne _ _ (by omega)]; rfl
theorem upM9 {G : GG} {ad : Nat → Nat} {σ : St} {n : Nat} {τ : St} {j : Nat} {th : Int32} {o : OL} {od : OD} {i : Nat} {x : Int32} : va_up (ctS G ad σ n τ j th o od) 15 (.inl (G.2.2 0, 24, .inl (upd (τ 9) i x))) = ctS G ad σ n (us τ 9 i x) j th o od := by
  funext r
  match r with
  | 0 => rfl
  | 1 => rfl
  | 2 => rfl
  | 3 => rfl
  | 4 => rfl
  | 5 => rfl
  | 6 => rfl
  | 7 => rfl
  | 8 => rfl
  | 9 => rfl
  | 10 => rfl
  | 11 => rfl
  | 12 => rfl
  | 13 => rfl
  | 14 => rfl
  | 15 => rfl
  | 16 => rfl
  | 17 => rfl
  | 18 => rfl
  | 19 => rfl
  | 20 => rfl
  | 21 => rfl
  | 22 => rfl
  | r + 23 => rw [va_up_ne _ _ (by omega)]; rfl
theorem upM10 {G : GG} {ad : Nat → Nat} {σ : St} {n : Nat} {τ : St} {j : Nat} {th : Int32} {o : OL} {od : OD} {i : Nat} {x : Int32} : va_up (ctS G ad σ n τ j th o od) 16 (.inl (G.2.2 0, 24, .inl (upd (τ 10) i x))) = ctS G ad σ n (us τ 10 i x) j th o od := by
  funext r
  match r with
  | 0 => rfl
  | 1 => rfl
  | 2 => rfl
  | 3 => rfl
  | 4 => rfl
  | 5 => rfl
  | 6 => rfl
  | 7 => rfl
  | 8 => rfl
  | 9 => rfl
  | 10 => rfl
  | 11 => rfl
  | 12 => rfl
  | 13 => rfl
  | 14 => rfl
  | 15 => rfl
  | 16 => rfl
  | 17 => rfl
  | 18 => rfl
  | 19 => rfl
  | 20 => rfl
  | 21 => rfl
  | 22 => rfl
  | r + 23 => rw [va_up_ne _ _ (by omega)]; rfl
theorem upM11 {G : GG} {ad : Nat → Nat} {σ : St} {n : Nat} {τ : St} {j : Nat} {th : Int32} {o : OL} {od : OD} {i : Nat} {x : Int32} : va_up (ctS G ad σ n τ j th o od) 17 (.inl (G.2.2 0, 24, .inl (upd (τ 11) i x))) = ctS G ad σ n (us τ 11 i x) j th o od := by
  funext r
  match r with
  | 0 => rfl
  | 1 => rfl
  | 2 => rfl
  | 3 => rfl
  | 4 => rfl
  | 5 => rfl
  | 6 => rfl
  | 7 => rfl
  | 8 => rfl
  | 9 => rfl
  | 10 => rfl
  | 11 => rfl
  | 12 => rfl
  | 13 => rfl
  | 14 => rfl
  | 15 => rfl
  | 16 => rfl
  | 17 => rfl
  | 18 => rfl
  | 19 => rfl
  | 20 => rfl
  | 21 => rfl
  | 22 => rfl
  | r + 23 => rw [va_up_ne _ _ (by omega)]; rfl
theorem upM12 {G : GG} {ad : Nat → Nat} {σ : St} {n : Nat} {τ : St} {j : Nat} {th : Int32} {o : OL} {od : OD} {i : Nat} {x : Int32} : va_up (ctS G ad σ n τ j th o od) 18 (.inl (G.2.2 0, 24, .inl (upd (τ 12) i x))) = ctS G ad σ n (us τ 12 i x) j th o od := by
  funext r
  match r with
  | 0 => rfl
  | 1 => rfl
  | 2 => rfl
  | 3 => rfl
  | 4 => rfl
  | 5 => rfl
  | 6 => rfl
  | 7 => rfl
  | 8 => rfl
  | 9 => rfl
  | 10 => rfl
  | 11 => rfl
  | 12 => rfl
  | 13 => rfl
  | 14 => rfl
  | 15 => rfl
  | 16 => rfl
  | 17 => rfl
  | 18 => rfl
  | 19 => rfl
  | 20 => rfl
  | 21 => rfl
  | 22 => rfl
  | r + 23 => rw [va_up_ne _ _ (by omega)]; rfl
theorem upM13 {G : GG} {ad : Nat → Nat} {σ : St} {n : Nat} {τ : St} {j : Nat} {th : Int32} {o : OL} {od : OD} {i : Nat} {x : Int32} : va_up (ctS G ad σ n τ j th o od) 19 (.inl (G.2.2 0, 144, .inl (upd (τ 13) i x))) = ctS G ad σ n (us τ 13 i x) j th o od := by
  funext r
  match r with
  | 0 => rfl
  | 1 => rfl
  | 2 => rfl
  | 3 => rfl
  | 4 => rfl
  | 5 => rfl
  | 6 => rfl
  | 7 => rfl
  | 8 => rfl
  | 9 => rfl
  | 10 => rfl
  | 11 => rfl
  | 12 => rfl
  | 13 => rfl
  | 14 => rfl
  | 15 => rfl
  | 16 => rfl
  | 17 => rfl
  | 18 => rfl
  | 19 => rfl
  | 20 => rfl
  | 21 => rfl
  | 22 => rfl
  | r + 23 => rw [va_up_ne _ _ (by omega)]; rfl
theorem upM14 {G : GG} {ad : Nat → Nat} {σ : St} {n : Nat} {τ : St} {j : Nat} {th : Int32} {o : OL} {od : OD} {i : Nat} {x : Int32} : va_up (ctS G ad σ n τ j th o od) 20 (.inl (G.2.2 0, 144, .inl (upd (τ 14) i x))) = ctS G ad σ n (us τ 14 i x) j th o od := by
  funext r
  match r with
  | 0 => rfl
  | 1 => rfl
  | 2 => rfl
  | 3 => rfl
  | 4 => rfl
  | 5 => rfl
  | 6 => rfl
  | 7 => rfl
  | 8 => rfl
  | 9 => rfl
  | 10 => rfl
  | 11 => rfl
  | 12 => rfl
  | 13 => rfl
  | 14 => rfl
  | 15 => rfl
  | 16 => rfl
  | 17 => rfl
  | 18 => rfl
  | 19 => rfl
  | 20 => rfl
  | 21 => rfl
  | 22 => rfl
  | r + 23 => rw [va_up_ne _ _ (by omega)]; rfl
theorem upTh {G : GG} {ad : Nat → Nat} {σ : St} {n : Nat} {τ : St} {j : Nat} {th : Int32} {o : OL} {od : OD} {x : Int32} : va_up (ctS G ad σ n τ j th o od) 5 (.inr (2, (mdF ad j th).set 0 (.int x))) = ctS G ad σ n τ j x o od := by
  funext r
  match r with
  | 0 => rfl
  | 1 => rfl
  | 2 => rfl
  | 3 => rfl
  | 4 => rfl
  | 5 => rfl
  | 6 => rfl
  | 7 => rfl
  | 8 => rfl
  | 9 => rfl
  | 10 => rfl
  | 11 => rfl
  | 12 => rfl
  | 13 => rfl
  | 14 => rfl
  | 15 => rfl
  | 16 => rfl
  | 17 => rfl
  | 18 => rfl
  | 19 => rfl
  | 20 => rfl
  | 21 => rfl
  | 22 => rfl
  | r + 23 => rw [va_up_ne _ _ (by omega)]; rfl
theorem upJ {G : GG} {ad : Nat → Nat} {σ : St} {n : Nat} {τ : St} {j : Nat} {th : Int32} {o : OL} {od : OD} {j' : Nat} : va_up (ctS G ad σ n τ j th o od) 5 (.inr (2, (mdF ad j th).set 4 (.int (nI j')))) = ctS G ad σ n τ j' th o od := by
  funext r
  match r with
  | 0 => rfl
  | 1 => rfl
  | 2 => rfl
  | 3 => rfl
  | 4 => rfl
  | 5 => rfl
  | 6 => rfl
  | 7 => rfl
  | 8 => rfl
  | 9 => rfl
  | 10 => rfl
  | 11 => rfl
  | 12 => rfl
  | 13 => rfl
  | 14 => rfl
  | 15 => rfl
  | 16 => rfl
  | 17 => rfl
  | 18 => rfl
  | 19 => rfl
  | 20 => rfl
  | 21 => rfl
  | 22 => rfl
  | r + 23 => rw [va_up_ne _ _ (by omega)]; rfl
theorem upO {G : GG} {ad : Nat → Nat} {σ : St} {n : Nat} {τ : St} {j : Nat} {th : Int32} {o : OL} {od : OD} {o' : OL} : va_up (ctS G ad σ n τ j th o od) 21 (.inl (G.2.2 2, 1, .inr (.inl o'))) = ctS G ad σ n τ j th o' od := by
  funext r
  match r with
  | 0 => rfl
  | 1 => rfl
  | 2 => rfl
  | 3 => rfl
  | 4 => rfl
  | 5 => rfl
  | 6 => rfl
  | 7 => rfl
  | 8 => rfl
  | 9 => rfl
  | 10 => rfl
  | 11 => rfl
  | 12 => rfl
  | 13 => rfl
  | 14 => rfl
  | 15 => rfl
  | 16 => rfl
  | 17 => rfl
  | 18 => rfl
  | 19 => rfl
  | 20 => rfl
  | 21 => rfl
  | 22 => rfl
  | r + 23 => rw [va_up_ne _ _ (by omega)]; rfl
theorem upOD {G : GG} {ad : Nat → Nat} {σ : St} {n : Nat} {τ : St} {j : Nat} {th : Int32} {o : OL} {od : OD} {o' : OD} : va_up (ctS G ad σ n τ j th o od) 22 (.inl (G.2.2 3, 1, .inr (.inr (.inr (.inl o'))))) = ctS G ad σ n τ j th o o' := by
  funext r
  match r with
  | 0 => rfl
  | 1 => rfl
  | 2 => rfl
  | 3 => rfl
  | 4 => rfl
  | 5 => rfl
  | 6 => rfl
  | 7 => rfl
  | 8 => rfl
  | 9 => rfl
  | 10 => rfl
  | 11 => rfl
  | 12 => rfl
  | 13 => rfl
  | 14 => rfl
  | 15 => rfl
  | 16 => rfl
  | 17 => rfl
  | 18 => rfl
  | 19 => rfl
  | 20 => rfl
  | 21 => rfl
  | 22 => rfl
  | r + 23 => rw [va_up_ne _ _ (by omega)]; rfl
section GS
variable {p : Program} {l : Launch} {e : Env} {R : Room} {s : State} {m : MethodId} {args : Array Value} {below : List Frame} {meth : Method} {c : Code} {H : Heap} {locs : List Loc} {cells slots : Nat} {Q : State → Prop}
variable {cc : ByteArray} {nL : Nat} {Ts : List Cond} {own : String} {pc : Nat} {ls : Array Slot} {rest : List Value} {G : GG} {ad : Nat → Nat} {σ : St} {n : Nat} {τ : St} {j : Nat} {th : Int32} {o : OL} {od : OD}
theorem rdA0 (hC : CallFix p m c cc nL s args Ts own) (hY : SyS G ad σ n τ j th o od s H locs)  {i : Int32} (hin : 0 ≤ i.toInt ∧ i.toInt < 6) (hdg : decode cc pc = .ok (.iaload, 1)) (kk : W p l e R s m args below meth c H locs cells slots Q (F0 m (pc + 1) ls (.int (σ 0 (ix i)) :: rest))) : W p l e R s m args below meth c H locs cells slots Q (F0 m pc ls (.int i :: .ref (ad (1)) :: rest)) :=
  g_iald hC hY (1) (by omega) (n := 6) (f := σ 0) rfl hin hdg kk
theorem wrA0 (hC : CallFix p m c cc nL s args Ts own) (hY : SyS G ad σ n τ j th o od s H locs)  {i x : Int32} (hin : 0 ≤ i.toInt ∧ i.toInt < 6) (hdg : decode cc pc = .ok (.iastore, 1)) (kk : ∀ (H1 : Heap) (locs1 : List Loc), SyS G ad (us σ 0 (ix i) x) n τ j th o od s H1 locs1 → W p l e R s m args below meth c H1 locs1 cells slots Q (F0 m (pc + 1) ls (rest))) : W p l e R s m args below meth c H locs cells slots Q (F0 m pc ls (.int x :: .int i :: .ref (ad (1)) :: rest)) :=
  g_iast hC hY (1) (by omega) (n := 6) (f := σ 0) rfl hin hdg (fun H1 locs1 h => kk H1 locs1 (by rw [upA0] at h; exact h))
theorem rdA1 (hC : CallFix p m c cc nL s args Ts own) (hY : SyS G ad σ n τ j th o od s H locs)  {i : Int32} (hin : 0 ≤ i.toInt ∧ i.toInt < 240) (hdg : decode cc pc = .ok (.iaload, 1)) (kk : W p l e R s m args below meth c H locs cells slots Q (F0 m (pc + 1) ls (.int (σ 1 (ix i)) :: rest))) : W p l e R s m args below meth c H locs cells slots Q (F0 m pc ls (.int i :: .ref (ad (2)) :: rest)) :=
  g_iald hC hY (2) (by omega) (n := 240) (f := σ 1) rfl hin hdg kk
theorem wrA1 (hC : CallFix p m c cc nL s args Ts own) (hY : SyS G ad σ n τ j th o od s H locs)  {i x : Int32} (hin : 0 ≤ i.toInt ∧ i.toInt < 240) (hdg : decode cc pc = .ok (.iastore, 1)) (kk : ∀ (H1 : Heap) (locs1 : List Loc), SyS G ad (us σ 1 (ix i) x) n τ j th o od s H1 locs1 → W p l e R s m args below meth c H1 locs1 cells slots Q (F0 m (pc + 1) ls (rest))) : W p l e R s m args below meth c H locs cells slots Q (F0 m pc ls (.int x :: .int i :: .ref (ad (2)) :: rest)) :=
  g_iast hC hY (2) (by omega) (n := 240) (f := σ 1) rfl hin hdg (fun H1 locs1 h => kk H1 locs1 (by rw [upA1] at h; exact h))
theorem rdA2 (hC : CallFix p m c cc nL s args Ts own) (hY : SyS G ad σ n τ j th o od s H locs)  {i : Int32} (hin : 0 ≤ i.toInt ∧ i.toInt < 20) (hdg : decode cc pc = .ok (.iaload, 1)) (kk : W p l e R s m args below meth c H locs cells slots Q (F0 m (pc + 1) ls (.int (σ 2 (ix i)) :: rest))) : W p l e R s m args below meth c H locs cells slots Q (F0 m pc ls (.int i :: .ref (ad (3)) :: rest)) :=
  g_iald hC hY (3) (by omega) (n := 20) (f := σ 2) rfl hin hdg kk
theorem wrA2 (hC : CallFix p m c cc nL s args Ts own) (hY : SyS G ad σ n τ j th o od s H locs)  {i x : Int32} (hin : 0 ≤ i.toInt ∧ i.toInt < 20) (hdg : decode cc pc = .ok (.iastore, 1)) (kk : ∀ (H1 : Heap) (locs1 : List Loc), SyS G ad (us σ 2 (ix i) x) n τ j th o od s H1 locs1 → W p l e R s m args below meth c H1 locs1 cells slots Q (F0 m (pc + 1) ls (rest))) : W p l e R s m args below meth c H locs cells slots Q (F0 m pc ls (.int x :: .int i :: .ref (ad (3)) :: rest)) :=
  g_iast hC hY (3) (by omega) (n := 20) (f := σ 2) rfl hin hdg (fun H1 locs1 h => kk H1 locs1 (by rw [upA2] at h; exact h))
theorem rdM0 (hC : CallFix p m c cc nL s args Ts own) (hY : SyS G ad σ n τ j th o od s H locs)  {i : Int32} (hin : 0 ≤ i.toInt ∧ i.toInt < 6) (hdg : decode cc pc = .ok (.iaload, 1)) (kk : W p l e R s m args below meth c H locs cells slots Q (F0 m (pc + 1) ls (.int (τ 0 (ix i)) :: rest))) : W p l e R s m args below meth c H locs cells slots Q (F0 m pc ls (.int i :: .ref (ad (6)) :: rest)) :=
  g_iald hC hY (6) (by omega) (n := 6) (f := τ 0) rfl hin hdg kk
theorem wrM0 (hC : CallFix p m c cc nL s args Ts own) (hY : SyS G ad σ n τ j th o od s H locs)  {i x : Int32} (hin : 0 ≤ i.toInt ∧ i.toInt < 6) (hdg : decode cc pc = .ok (.iastore, 1)) (kk : ∀ (H1 : Heap) (locs1 : List Loc), SyS G ad σ n (us τ 0 (ix i) x) j th o od s H1 locs1 → W p l e R s m args below meth c H1 locs1 cells slots Q (F0 m (pc + 1) ls (rest))) : W p l e R s m args below meth c H locs cells slots Q (F0 m pc ls (.int x :: .int i :: .ref (ad (6)) :: rest)) :=
  g_iast hC hY (6) (by omega) (n := 6) (f := τ 0) rfl hin hdg (fun H1 locs1 h => kk H1 locs1 (by rw [upM0] at h; exact h))
theorem rdM1 (hC : CallFix p m c cc nL s args Ts own) (hY : SyS G ad σ n τ j th o od s H locs)  {i : Int32} (hin : 0 ≤ i.toInt ∧ i.toInt < 240) (hdg : decode cc pc = .ok (.iaload, 1)) (kk : W p l e R s m args below meth c H locs cells slots Q (F0 m (pc + 1) ls (.int (τ 1 (ix i)) :: rest))) : W p l e R s m args below meth c H locs cells slots Q (F0 m pc ls (.int i :: .ref (ad (7)) :: rest)) :=
  g_iald hC hY (7) (by omega) (n := 240) (f := τ 1) rfl hin hdg kk
theorem wrM1 (hC : CallFix p m c cc nL s args Ts own) (hY : SyS G ad σ n τ j th o od s H locs)  {i x : Int32} (hin : 0 ≤ i.toInt ∧ i.toInt < 240) (hdg : decode cc pc = .ok (.iastore, 1)) (kk : ∀ (H1 : Heap) (locs1 : List Loc), SyS G ad σ n (us τ 1 (ix i) x) j th o od s H1 locs1 → W p l e R s m args below meth c H1 locs1 cells slots Q (F0 m (pc + 1) ls (rest))) : W p l e R s m args below meth c H locs cells slots Q (F0 m pc ls (.int x :: .int i :: .ref (ad (7)) :: rest)) :=
  g_iast hC hY (7) (by omega) (n := 240) (f := τ 1) rfl hin hdg (fun H1 locs1 h => kk H1 locs1 (by rw [upM1] at h; exact h))
theorem rdM2 (hC : CallFix p m c cc nL s args Ts own) (hY : SyS G ad σ n τ j th o od s H locs)  {i : Int32} (hin : 0 ≤ i.toInt ∧ i.toInt < 20) (hdg : decode cc pc = .ok (.iaload, 1)) (kk : W p l e R s m args below meth c H locs cells slots Q (F0 m (pc + 1) ls (.int (τ 2 (ix i)) :: rest))) : W p l e R s m args below meth c H locs cells slots Q (F0 m pc ls (.int i :: .ref (ad (8)) :: rest)) :=
  g_iald hC hY (8) (by omega) (n := 20) (f := τ 2) rfl hin hdg kk
theorem wrM2 (hC : CallFix p m c cc nL s args Ts own) (hY : SyS G ad σ n τ j th o od s H locs)  {i x : Int32} (hin : 0 ≤ i.toInt ∧ i.toInt < 20) (hdg : decode cc pc = .ok (.iastore, 1)) (kk : ∀ (H1 : Heap) (locs1 : List Loc), SyS G ad σ n (us τ 2 (ix i) x) j th o od s H1 locs1 → W p l e R s m args below meth c H1 locs1 cells slots Q (F0 m (pc + 1) ls (rest))) : W p l e R s m args below meth c H locs cells slots Q (F0 m pc ls (.int x :: .int i :: .ref (ad (8)) :: rest)) :=
  g_iast hC hY (8) (by omega) (n := 20) (f := τ 2) rfl hin hdg (fun H1 locs1 h => kk H1 locs1 (by rw [upM2] at h; exact h))
theorem rdM3 (hC : CallFix p m c cc nL s args Ts own) (hY : SyS G ad σ n τ j th o od s H locs)  {i : Int32} (hin : 0 ≤ i.toInt ∧ i.toInt < 24) (hdg : decode cc pc = .ok (.iaload, 1)) (kk : W p l e R s m args below meth c H locs cells slots Q (F0 m (pc + 1) ls (.int (τ 3 (ix i)) :: rest))) : W p l e R s m args below meth c H locs cells slots Q (F0 m pc ls (.int i :: .ref (ad (9)) :: rest)) :=
  g_iald hC hY (9) (by omega) (n := 24) (f := τ 3) rfl hin hdg kk
theorem wrM3 (hC : CallFix p m c cc nL s args Ts own) (hY : SyS G ad σ n τ j th o od s H locs)  {i x : Int32} (hin : 0 ≤ i.toInt ∧ i.toInt < 24) (hdg : decode cc pc = .ok (.iastore, 1)) (kk : ∀ (H1 : Heap) (locs1 : List Loc), SyS G ad σ n (us τ 3 (ix i) x) j th o od s H1 locs1 → W p l e R s m args below meth c H1 locs1 cells slots Q (F0 m (pc + 1) ls (rest))) : W p l e R s m args below meth c H locs cells slots Q (F0 m pc ls (.int x :: .int i :: .ref (ad (9)) :: rest)) :=
  g_iast hC hY (9) (by omega) (n := 24) (f := τ 3) rfl hin hdg (fun H1 locs1 h => kk H1 locs1 (by rw [upM3] at h; exact h))
theorem rdM4 (hC : CallFix p m c cc nL s args Ts own) (hY : SyS G ad σ n τ j th o od s H locs)  {i : Int32} (hin : 0 ≤ i.toInt ∧ i.toInt < 24) (hdg : decode cc pc = .ok (.iaload, 1)) (kk : W p l e R s m args below meth c H locs cells slots Q (F0 m (pc + 1) ls (.int (τ 4 (ix i)) :: rest))) : W p l e R s m args below meth c H locs cells slots Q (F0 m pc ls (.int i :: .ref (ad (10)) :: rest)) :=
  g_iald hC hY (10) (by omega) (n := 24) (f := τ 4) rfl hin hdg kk
theorem wrM4 (hC : CallFix p m c cc nL s args Ts own) (hY : SyS G ad σ n τ j th o od s H locs)  {i x : Int32} (hin : 0 ≤ i.toInt ∧ i.toInt < 24) (hdg : decode cc pc = .ok (.iastore, 1)) (kk : ∀ (H1 : Heap) (locs1 : List Loc), SyS G ad σ n (us τ 4 (ix i) x) j th o od s H1 locs1 → W p l e R s m args below meth c H1 locs1 cells slots Q (F0 m (pc + 1) ls (rest))) : W p l e R s m args below meth c H locs cells slots Q (F0 m pc ls (.int x :: .int i :: .ref (ad (10)) :: rest)) :=
  g_iast hC hY (10) (by omega) (n := 24) (f := τ 4) rfl hin hdg (fun H1 locs1 h => kk H1 locs1 (by rw [upM4] at h; exact h))
theorem rdM5 (hC : CallFix p m c cc nL s args Ts own) (hY : SyS G ad σ n τ j th o od s H locs)  {i : Int32} (hin : 0 ≤ i.toInt ∧ i.toInt < 24) (hdg : decode cc pc = .ok (.iaload, 1)) (kk : W p l e R s m args below meth c H locs cells slots Q (F0 m (pc + 1) ls (.int (τ 5 (ix i)) :: rest))) : W p l e R s m args below meth c H locs cells slots Q (F0 m pc ls (.int i :: .ref (ad (11)) :: rest)) :=
  g_iald hC hY (11) (by omega) (n := 24) (f := τ 5) rfl hin hdg kk
theorem wrM5 (hC : CallFix p m c cc nL s args Ts own) (hY : SyS G ad σ n τ j th o od s H locs)  {i x : Int32} (hin : 0 ≤ i.toInt ∧ i.toInt < 24) (hdg : decode cc pc = .ok (.iastore, 1)) (kk : ∀ (H1 : Heap) (locs1 : List Loc), SyS G ad σ n (us τ 5 (ix i) x) j th o od s H1 locs1 → W p l e R s m args below meth c H1 locs1 cells slots Q (F0 m (pc + 1) ls (rest))) : W p l e R s m args below meth c H locs cells slots Q (F0 m pc ls (.int x :: .int i :: .ref (ad (11)) :: rest)) :=
  g_iast hC hY (11) (by omega) (n := 24) (f := τ 5) rfl hin hdg (fun H1 locs1 h => kk H1 locs1 (by rw [upM5] at h; exact h))
theorem rdM6 (hC : CallFix p m c cc nL s args Ts own) (hY : SyS G ad σ n τ j th o od s H locs)  {i : Int32} (hin : 0 ≤ i.toInt ∧ i.toInt < 24) (hdg : decode cc pc = .ok (.iaload, 1)) (kk : W p l e R s m args below meth c H locs cells slots Q (F0 m (pc + 1) ls (.int (τ 6 (ix i)) :: rest))) : W p l e R s m args below meth c H locs cells slots Q (F0 m pc ls (.int i :: .ref (ad (12)) :: rest)) :=
  g_iald hC hY (12) (by omega) (n := 24) (f := τ 6) rfl hin hdg kk
theorem wrM6 (hC : CallFix p m c cc nL s args Ts own) (hY : SyS G ad σ n τ j th o od s H locs)  {i x : Int32} (hin : 0 ≤ i.toInt ∧ i.toInt < 24) (hdg : decode cc pc = .ok (.iastore, 1)) (kk : ∀ (H1 : Heap) (locs1 : List Loc), SyS G ad σ n (us τ 6 (ix i) x) j th o od s H1 locs1 → W p l e R s m args below meth c H1 locs1 cells slots Q (F0 m (pc + 1) ls (rest))) : W p l e R s m args below meth c H locs cells slots Q (F0 m pc ls (.int x :: .int i :: .ref (ad (12)) :: rest)) :=
  g_iast hC hY (12) (by omega) (n := 24) (f := τ 6) rfl hin hdg (fun H1 locs1 h => kk H1 locs1 (by rw [upM6] at h; exact h))
theorem rdM7 (hC : CallFix p m c cc nL s args Ts own) (hY : SyS G ad σ n τ j th o od s H locs)  {i : Int32} (hin : 0 ≤ i.toInt ∧ i.toInt < 24) (hdg : decode cc pc = .ok (.iaload, 1)) (kk : W p l e R s m args below meth c H locs cells slots Q (F0 m (pc + 1) ls (.int (τ 7 (ix i)) :: rest))) : W p l e R s m args below meth c H locs cells slots Q (F0 m pc ls (.int i :: .ref (ad (13)) :: rest)) :=
  g_iald hC hY (13) (by omega) (n := 24) (f := τ 7) rfl hin hdg kk
theorem wrM7 (hC : CallFix p m c cc nL s args Ts own) (hY : SyS G ad σ n τ j th o od s H locs)  {i x : Int32} (hin : 0 ≤ i.toInt ∧ i.toInt < 24) (hdg : decode cc pc = .ok (.iastore, 1)) (kk : ∀ (H1 : Heap) (locs1 : List Loc), SyS G ad σ n (us τ 7 (ix i) x) j th o od s H1 locs1 → W p l e R s m args below meth c H1 locs1 cells slots Q (F0 m (pc + 1) ls (rest))) : W p l e R s m args below meth c H locs cells slots Q (F0 m pc ls (.int x :: .int i :: .ref (ad (13)) :: rest)) :=
  g_iast hC hY (13) (by omega) (n := 24) (f := τ 7) rfl hin hdg (fun H1 locs1 h => kk H1 locs1 (by rw [upM7] at h; exact h))
theorem rdM8 (hC : CallFix p m c cc nL s args Ts own) (hY : SyS G ad σ n τ j th o od s H locs)  {i : Int32} (hin : 0 ≤ i.toInt ∧ i.toInt < 24) (hdg : decode cc pc = .ok (.iaload, 1)) (kk : W p l e R s m args below meth c H locs cells slots Q (F0 m (pc + 1) ls (.int (τ 8 (ix i)) :: rest))) : W p l e R s m args below meth c H locs cells slots Q (F0 m pc ls (.int i :: .ref (ad (14)) :: rest)) :=
  g_iald hC hY (14) (by omega) (n := 24) (f := τ 8) rfl hin hdg kk
theorem wrM8 (hC : CallFix p m c cc nL s args Ts own) (hY : SyS G ad σ n τ j th o od s H locs)  {i x : Int32} (hin : 0 ≤ i.toInt ∧ i.toInt < 24) (hdg : decode cc pc = .ok (.iastore, 1)) (kk : ∀ (H1 : Heap) (locs1 : List Loc), SyS G ad σ n (us τ 8 (ix i) x) j th o od s H1 locs1 → W p l e R s m args below meth c H1 locs1 cells slots Q (F0 m (pc + 1) ls (rest))) : W p l e R s m args below meth c H locs cells slots Q (F0 m pc ls (.int x :: .int i :: .ref (ad (14)) :: rest)) :=
  g_iast hC hY (14) (by omega) (n := 24) (f := τ 8) rfl hin hdg (fun H1 locs1 h => kk H1 locs1 (by rw [upM8] at h; exact h))
theorem rdM9 (hC : CallFix p m c cc nL s args Ts own) (hY : SyS G ad σ n τ j th o od s H locs)  {i : Int32} (hin : 0 ≤ i.toInt ∧ i.toInt < 24) (hdg : decode cc pc = .ok (.iaload, 1)) (kk : W p l e R s m args below meth c H locs cells slots Q (F0 m (pc + 1) ls (.int (τ 9 (ix i)) :: rest))) : W p l e R s m args below meth c H locs cells slots Q (F0 m pc ls (.int i :: .ref (ad (15)) :: rest)) :=
  g_iald hC hY (15) (by omega) (n := 24) (f := τ 9) rfl hin hdg kk
theorem wrM9 (hC : CallFix p m c cc nL s args Ts own) (hY : SyS G ad σ n τ j th o od s H locs)  {i x : Int32} (hin : 0 ≤ i.toInt ∧ i.toInt < 24) (hdg : decode cc pc = .ok (.iastore, 1)) (kk : ∀ (H1 : Heap) (locs1 : List Loc), SyS G ad σ n (us τ 9 (ix i) x) j th o od s H1 locs1 → W p l e R s m args below meth c H1 locs1 cells slots Q (F0 m (pc + 1) ls (rest))) : W p l e R s m args below meth c H locs cells slots Q (F0 m pc ls (.int x :: .int i :: .ref (ad (15)) :: rest)) :=
  g_iast hC hY (15) (by omega) (n := 24) (f := τ 9) rfl hin hdg (fun H1 locs1 h => kk H1 locs1 (by rw [upM9] at h; exact h))
theorem rdM10 (hC : CallFix p m c cc nL s args Ts own) (hY : SyS G ad σ n τ j th o od s H locs)  {i : Int32} (hin : 0 ≤ i.toInt ∧ i.toInt < 24) (hdg : decode cc pc = .ok (.iaload, 1)) (kk : W p l e R s m args below meth c H locs cells slots Q (F0 m (pc + 1) ls (.int (τ 10 (ix i)) :: rest))) : W p l e R s m args below meth c H locs cells slots Q (F0 m pc ls (.int i :: .ref (ad (16)) :: rest)) :=
  g_iald hC hY (16) (by omega) (n := 24) (f := τ 10) rfl hin hdg kk
theorem wrM10 (hC : CallFix p m c cc nL s args Ts own) (hY : SyS G ad σ n τ j th o od s H locs)  {i x : Int32} (hin : 0 ≤ i.toInt ∧ i.toInt < 24) (hdg : decode cc pc = .ok (.iastore, 1)) (kk : ∀ (H1 : Heap) (locs1 : List Loc), SyS G ad σ n (us τ 10 (ix i) x) j th o od s H1 locs1 → W p l e R s m args below meth c H1 locs1 cells slots Q (F0 m (pc + 1) ls (rest))) : W p l e R s m args below meth c H locs cells slots Q (F0 m pc ls (.int x :: .int i :: .ref (ad (16)) :: rest)) :=
  g_iast hC hY (16) (by omega) (n := 24) (f := τ 10) rfl hin hdg (fun H1 locs1 h => kk H1 locs1 (by rw [upM10] at h; exact h))
theorem rdM11 (hC : CallFix p m c cc nL s args Ts own) (hY : SyS G ad σ n τ j th o od s H locs)  {i : Int32} (hin : 0 ≤ i.toInt ∧ i.toInt < 24) (hdg : decode cc pc = .ok (.iaload, 1)) (kk : W p l e R s m args below meth c H locs cells slots Q (F0 m (pc + 1) ls (.int (τ 11 (ix i)) :: rest))) : W p l e R s m args below meth c H locs cells slots Q (F0 m pc ls (.int i :: .ref (ad (17)) :: rest)) :=
  g_iald hC hY (17) (by omega) (n := 24) (f := τ 11) rfl hin hdg kk
theorem wrM11 (hC : CallFix p m c cc nL s args Ts own) (hY : SyS G ad σ n τ j th o od s H locs)  {i x : Int32} (hin : 0 ≤ i.toInt ∧ i.toInt < 24) (hdg : decode cc pc = .ok (.iastore, 1)) (kk : ∀ (H1 : Heap) (locs1 : List Loc), SyS G ad σ n (us τ 11 (ix i) x) j th o od s H1 locs1 → W p l e R s m args below meth c H1 locs1 cells slots Q (F0 m (pc + 1) ls (rest))) : W p l e R s m args below meth c H locs cells slots Q (F0 m pc ls (.int x :: .int i :: .ref (ad (17)) :: rest)) :=
  g_iast hC hY (17) (by omega) (n := 24) (f := τ 11) rfl hin hdg (fun H1 locs1 h => kk H1 locs1 (by rw [upM11] at h; exact h))
theorem rdM12 (hC : CallFix p m c cc nL s args Ts own) (hY : SyS G ad σ n τ j th o od s H locs)  {i : Int32} (hin : 0 ≤ i.toInt ∧ i.toInt < 24) (hdg : decode cc pc = .ok (.iaload, 1)) (kk : W p l e R s m args below meth c H locs cells slots Q (F0 m (pc + 1) ls (.int (τ 12 (ix i)) :: rest))) : W p l e R s m args below meth c H locs cells slots Q (F0 m pc ls (.int i :: .ref (ad (18)) :: rest)) :=
  g_iald hC hY (18) (by omega) (n := 24) (f := τ 12) rfl hin hdg kk
theorem wrM12 (hC : CallFix p m c cc nL s args Ts own) (hY : SyS G ad σ n τ j th o od s H locs)  {i x : Int32} (hin : 0 ≤ i.toInt ∧ i.toInt < 24) (hdg : decode cc pc = .ok (.iastore, 1)) (kk : ∀ (H1 : Heap) (locs1 : List Loc), SyS G ad σ n (us τ 12 (ix i) x) j th o od s H1 locs1 → W p l e R s m args below meth c H1 locs1 cells slots Q (F0 m (pc + 1) ls (rest))) : W p l e R s m args below meth c H locs cells slots Q (F0 m pc ls (.int x :: .int i :: .ref (ad (18)) :: rest)) :=
  g_iast hC hY (18) (by omega) (n := 24) (f := τ 12) rfl hin hdg (fun H1 locs1 h => kk H1 locs1 (by rw [upM12] at h; exact h))
theorem rdM13 (hC : CallFix p m c cc nL s args Ts own) (hY : SyS G ad σ n τ j th o od s H locs)  {i : Int32} (hin : 0 ≤ i.toInt ∧ i.toInt < 144) (hdg : decode cc pc = .ok (.iaload, 1)) (kk : W p l e R s m args below meth c H locs cells slots Q (F0 m (pc + 1) ls (.int (τ 13 (ix i)) :: rest))) : W p l e R s m args below meth c H locs cells slots Q (F0 m pc ls (.int i :: .ref (ad (19)) :: rest)) :=
  g_iald hC hY (19) (by omega) (n := 144) (f := τ 13) rfl hin hdg kk
theorem wrM13 (hC : CallFix p m c cc nL s args Ts own) (hY : SyS G ad σ n τ j th o od s H locs)  {i x : Int32} (hin : 0 ≤ i.toInt ∧ i.toInt < 144) (hdg : decode cc pc = .ok (.iastore, 1)) (kk : ∀ (H1 : Heap) (locs1 : List Loc), SyS G ad σ n (us τ 13 (ix i) x) j th o od s H1 locs1 → W p l e R s m args below meth c H1 locs1 cells slots Q (F0 m (pc + 1) ls (rest))) : W p l e R s m args below meth c H locs cells slots Q (F0 m pc ls (.int x :: .int i :: .ref (ad (19)) :: rest)) :=
  g_iast hC hY (19) (by omega) (n := 144) (f := τ 13) rfl hin hdg (fun H1 locs1 h => kk H1 locs1 (by rw [upM13] at h; exact h))
theorem rdM14 (hC : CallFix p m c cc nL s args Ts own) (hY : SyS G ad σ n τ j th o od s H locs)  {i : Int32} (hin : 0 ≤ i.toInt ∧ i.toInt < 144) (hdg : decode cc pc = .ok (.iaload, 1)) (kk : W p l e R s m args below meth c H locs cells slots Q (F0 m (pc + 1) ls (.int (τ 14 (ix i)) :: rest))) : W p l e R s m args below meth c H locs cells slots Q (F0 m pc ls (.int i :: .ref (ad (20)) :: rest)) :=
  g_iald hC hY (20) (by omega) (n := 144) (f := τ 14) rfl hin hdg kk
theorem wrM14 (hC : CallFix p m c cc nL s args Ts own) (hY : SyS G ad σ n τ j th o od s H locs)  {i x : Int32} (hin : 0 ≤ i.toInt ∧ i.toInt < 144) (hdg : decode cc pc = .ok (.iastore, 1)) (kk : ∀ (H1 : Heap) (locs1 : List Loc), SyS G ad σ n (us τ 14 (ix i) x) j th o od s H1 locs1 → W p l e R s m args below meth c H1 locs1 cells slots Q (F0 m (pc + 1) ls (rest))) : W p l e R s m args below meth c H locs cells slots Q (F0 m pc ls (.int x :: .int i :: .ref (ad (20)) :: rest)) :=
  g_iast hC hY (20) (by omega) (n := 144) (f := τ 14) rfl hin hdg (fun H1 locs1 h => kk H1 locs1 (by rw [upM14] at h; exact h))
theorem ix_lt {i : Int32} {N : Nat} (h : 0 ≤ i.toInt ∧ i.toInt < N) : ix i < N := by
  have h1 : ¬ i < 0 := by rw [Int32.lt_iff_toInt_lt]; have := h.1; simp; omega
  obtain ⟨k, hk, rfl⟩ := nI_of h1
  have h2 := h.2
  rw [nI_toInt hk] at h2
  show (nI k).toNatClampNeg < N
  rw [nI_clamp hk]
  omega
theorem ix_toInt {i : Int32} (h : 0 ≤ i.toInt) : (ix i : Int) = i.toInt := by
  have h1 : ¬ i < 0 := by rw [Int32.lt_iff_toInt_lt]; simp; omega
  obtain ⟨k, hk, rfl⟩ := nI_of h1
  rw [nI_toInt hk]
  show ((nI k).toNatClampNeg : Int) = k
  rw [nI_clamp hk]
theorem rdL13 (hC : CallFix p m c cc nL s args Ts own) (hY : SyS G ad σ n τ j th o od s H locs) {k : Nat} (hk : k < n) {i : Int32} (hin : 0 ≤ i.toInt ∧ i.toInt < 6) (hdg : decode cc pc = .ok (.iaload, 1)) (kk : W p l e R s m args below meth c H locs cells slots Q (F0 m (pc + 1) ls (.int (rowF σ 13 k (ix i)) :: rest))) : W p l e R s m args below meth c H locs cells slots Q (F0 m pc ls (.int i :: .ref (ad (3 * k + 24)) :: rest)) :=
  g_iald hC hY (3 * k + 24) (by omega) (n := 6) (f := rowF σ 13 k) (ct_L1 k) hin hdg kk
theorem wrL13 (hC : CallFix p m c cc nL s args Ts own) (hY : SyS G ad σ n τ j th o od s H locs) {k : Nat} (hk : k < n) {i x : Int32} (hin : 0 ≤ i.toInt ∧ i.toInt < 6) (hdg : decode cc pc = .ok (.iastore, 1)) (kk : ∀ (H1 : Heap) (locs1 : List Loc), SyS G ad (us σ 13 (6 * k + ix i) x) n τ j th o od s H1 locs1 → W p l e R s m args below meth c H1 locs1 cells slots Q (F0 m (pc + 1) ls (rest))) : W p l e R s m args below meth c H locs cells slots Q (F0 m pc ls (.int x :: .int i :: .ref (ad (3 * k + 24)) :: rest)) :=
  g_iast hC hY (3 * k + 24) (by omega) (n := 6) (f := rowF σ 13 k) (ct_L1 k) hin hdg (fun H1 locs1 h => kk H1 locs1 (by rw [upR13 (ix_lt (N := 6) hin)] at h; exact h))
theorem rdL14 (hC : CallFix p m c cc nL s args Ts own) (hY : SyS G ad σ n τ j th o od s H locs) {k : Nat} (hk : k < n) {i : Int32} (hin : 0 ≤ i.toInt ∧ i.toInt < 6) (hdg : decode cc pc = .ok (.iaload, 1)) (kk : W p l e R s m args below meth c H locs cells slots Q (F0 m (pc + 1) ls (.int (rowF σ 14 k (ix i)) :: rest))) : W p l e R s m args below meth c H locs cells slots Q (F0 m pc ls (.int i :: .ref (ad (3 * k + 25)) :: rest)) :=
  g_iald hC hY (3 * k + 25) (by omega) (n := 6) (f := rowF σ 14 k) (ct_L2 k) hin hdg kk
theorem wrL14 (hC : CallFix p m c cc nL s args Ts own) (hY : SyS G ad σ n τ j th o od s H locs) {k : Nat} (hk : k < n) {i x : Int32} (hin : 0 ≤ i.toInt ∧ i.toInt < 6) (hdg : decode cc pc = .ok (.iastore, 1)) (kk : ∀ (H1 : Heap) (locs1 : List Loc), SyS G ad (us σ 14 (6 * k + ix i) x) n τ j th o od s H1 locs1 → W p l e R s m args below meth c H1 locs1 cells slots Q (F0 m (pc + 1) ls (rest))) : W p l e R s m args below meth c H locs cells slots Q (F0 m pc ls (.int x :: .int i :: .ref (ad (3 * k + 25)) :: rest)) :=
  g_iast hC hY (3 * k + 25) (by omega) (n := 6) (f := rowF σ 14 k) (ct_L2 k) hin hdg (fun H1 locs1 h => kk H1 locs1 (by rw [upR14 (ix_lt (N := 6) hin)] at h; exact h))
theorem rdO (hC : CallFix p m c cc nL s args Ts own) (hY : SyS G ad σ n τ j th o od s H locs) (hdg : decode cc pc = .ok (.laload, 1)) (kk : W p l e R s m args below meth c H locs cells slots Q (F0 m (pc + 1) ls (.long (o 0) :: rest))) : W p l e R s m args below meth c H locs cells slots Q (F0 m pc ls (.int 0 :: .ref (ad 21) :: rest)) :=
  g_lald hC hY 21 (by omega) (n := 1) (f := o) rfl (i := 0) (by decide) hdg kk
theorem wrO (hC : CallFix p m c cc nL s args Ts own) (hY : SyS G ad σ n τ j th o od s H locs) {x : Int64} (hdg : decode cc pc = .ok (.lastore, 1)) (kk : ∀ (H1 : Heap) (locs1 : List Loc), SyS G ad σ n τ j th (vp_updL o 0 x) od s H1 locs1 → W p l e R s m args below meth c H1 locs1 cells slots Q (F0 m (pc + 1) ls (rest))) : W p l e R s m args below meth c H locs cells slots Q (F0 m pc ls (.long x :: .int 0 :: .ref (ad 21) :: rest)) :=
  g_last hC hY 21 (by omega) (n := 1) (f := o) rfl (i := 0) (by decide) hdg (fun H1 locs1 h => kk H1 locs1 (by rw [upO] at h; exact h))
theorem rdOD (hC : CallFix p m c cc nL s args Ts own) (hY : SyS G ad σ n τ j th o od s H locs) (hdg : decode cc pc = .ok (.daload, 1)) (kk : W p l e R s m args below meth c H locs cells slots Q (F0 m (pc + 1) ls (.double (od 0) :: rest))) : W p l e R s m args below meth c H locs cells slots Q (F0 m pc ls (.int 0 :: .ref (ad 22) :: rest)) :=
  g_dald hC hY 22 (by omega) (n := 1) (f := od) rfl (i := 0) (by decide) hdg kk
theorem wrOD (hC : CallFix p m c cc nL s args Ts own) (hY : SyS G ad σ n τ j th o od s H locs) {x : UInt64} (hdg : decode cc pc = .ok (.dastore, 1)) (kk : ∀ (od' : OD) (H1 : Heap) (locs1 : List Loc), od' 0 = x → SyS G ad σ n τ j th o od' s H1 locs1 → W p l e R s m args below meth c H1 locs1 cells slots Q (F0 m (pc + 1) ls (rest))) : W p l e R s m args below meth c H locs cells slots Q (F0 m pc ls (.double x :: .int 0 :: .ref (ad 22) :: rest)) :=
  g_dast hC hY 22 (by omega) (n := 1) (f := od) rfl (i := 0) (by decide) hdg (fun H1 locs1 h => by
    obtain ⟨f', h1, h2⟩ := h
    rw [upOD] at h2
    exact kk f' H1 locs1 h1 h2)
theorem rdRoll (hC : CallFix p m c cc nL s args Ts own) (hY : SyS G ad σ n τ j th o od s H locs) {i : Int32} (hin : 0 ≤ i.toInt ∧ i.toInt < 24) (hdg : decode cc pc = .ok (.aaload, 1)) (kk : W p l e R s m args below meth c H locs cells slots Q (F0 m (pc + 1) ls (va_rf (roF ad n (ix i)) :: rest))) : W p l e R s m args below meth c H locs cells slots Q (F0 m pc ls (.int i :: .ref (ad 4) :: rest)) :=
  g_aald hC hY 4 (by omega) (n := 24) (f := roF ad n) rfl hin hdg kk
theorem gtL_unit (hC : CallFix p m c cc nL s args Ts own) (hin : ∀ w ∈ wsX00, w ∈ Ts) (hY : SyS G ad σ n τ j th o od s H locs) {k : Nat} (hk : k < n) {index : Nat} (hlink : Cond.fieldLink own index (TX0 0).1 (TX0 0).2.1 (TX0 0).2.2.1 ∈ Ts) (hdg : decode cc pc = .ok (.getfield index, 3)) (kk : W p l e R s m args below meth c H locs cells slots Q (F0 m (pc + 3) ls (.int (σ 3 k) :: rest))) : W p l e R s m args below meth c H locs cells slots Q (F0 m pc ls (.ref (ad (3 * k + 23)) :: rest)) :=
  g_get hC hY (3 * k + 23) (by omega) (ct_L k) (q := (RX0, TX0, 12)) rfl hin 0 (by decide) hlink rfl hdg kk
theorem gtL_from (hC : CallFix p m c cc nL s args Ts own) (hin : ∀ w ∈ wsX00, w ∈ Ts) (hY : SyS G ad σ n τ j th o od s H locs) {k : Nat} (hk : k < n) {index : Nat} (hlink : Cond.fieldLink own index (TX0 1).1 (TX0 1).2.1 (TX0 1).2.2.1 ∈ Ts) (hdg : decode cc pc = .ok (.getfield index, 3)) (kk : W p l e R s m args below meth c H locs cells slots Q (F0 m (pc + 3) ls (.int (σ 4 k) :: rest))) : W p l e R s m args below meth c H locs cells slots Q (F0 m pc ls (.ref (ad (3 * k + 23)) :: rest)) :=
  g_get hC hY (3 * k + 23) (by omega) (ct_L k) (q := (RX0, TX0, 12)) rfl hin 1 (by decide) hlink rfl hdg kk
theorem gtL_firstRent (hC : CallFix p m c cc nL s args Ts own) (hin : ∀ w ∈ wsX00, w ∈ Ts) (hY : SyS G ad σ n τ j th o od s H locs) {k : Nat} (hk : k < n) {index : Nat} (hlink : Cond.fieldLink own index (TX0 2).1 (TX0 2).2.1 (TX0 2).2.2.1 ∈ Ts) (hdg : decode cc pc = .ok (.getfield index, 3)) (kk : W p l e R s m args below meth c H locs cells slots Q (F0 m (pc + 3) ls (.int (σ 6 k) :: rest))) : W p l e R s m args below meth c H locs cells slots Q (F0 m pc ls (.ref (ad (3 * k + 23)) :: rest)) :=
  g_get hC hY (3 * k + 23) (by omega) (ct_L k) (q := (RX0, TX0, 12)) rfl hin 2 (by decide) hlink rfl hdg kk
theorem gtL_to (hC : CallFix p m c cc nL s args Ts own) (hin : ∀ w ∈ wsX00, w ∈ Ts) (hY : SyS G ad σ n τ j th o od s H locs) {k : Nat} (hk : k < n) {index : Nat} (hlink : Cond.fieldLink own index (TX0 3).1 (TX0 3).2.1 (TX0 3).2.2.1 ∈ Ts) (hdg : decode cc pc = .ok (.getfield index, 3)) (kk : W p l e R s m args below meth c H locs cells slots Q (F0 m (pc + 3) ls (.int (σ 5 k) :: rest))) : W p l e R s m args below meth c H locs cells slots Q (F0 m pc ls (.ref (ad (3 * k + 23)) :: rest)) :=
  g_get hC hY (3 * k + 23) (by omega) (ct_L k) (q := (RX0, TX0, 12)) rfl hin 3 (by decide) hlink rfl hdg kk
theorem ptL_to (hC : CallFix p m c cc nL s args Ts own) (hin : ∀ w ∈ wsX00, w ∈ Ts) (hY : SyS G ad σ n τ j th o od s H locs) {k : Nat} (hk : k < n) {index : Nat} (hlink : Cond.fieldLink own index (TX0 3).1 (TX0 3).2.1 (TX0 3).2.2.1 ∈ Ts) {x : Int32} (hdg : decode cc pc = .ok (.putfield index, 3)) (kk : ∀ (H1 : Heap) (locs1 : List Loc), SyS G ad (us σ 5 k x) n τ j th o od s H1 locs1 → W p l e R s m args below meth c H1 locs1 cells slots Q (F0 m (pc + 3) ls (rest))) : W p l e R s m args below meth c H locs cells slots Q (F0 m pc ls (.int x :: .ref (ad (3 * k + 23)) :: rest)) :=
  g_put hC hY (3 * k + 23) (by omega) (ct_L k) (q := (RX0, TX0, 12)) rfl hin tyX0 tyX0_ok nmX0 3 (by decide) hlink (Or.inl rfl) rfl rfl (Nat.le_of_ble_eq_true rfl) hdg (fun H1 locs1 h => kk H1 locs1 (by rw [upL5] at h; exact h))
theorem gtL_free (hC : CallFix p m c cc nL s args Ts own) (hin : ∀ w ∈ wsX00, w ∈ Ts) (hY : SyS G ad σ n τ j th o od s H locs) {k : Nat} (hk : k < n) {index : Nat} (hlink : Cond.fieldLink own index (TX0 4).1 (TX0 4).2.1 (TX0 4).2.2.1 ∈ Ts) (hdg : decode cc pc = .ok (.getfield index, 3)) (kk : W p l e R s m args below meth c H locs cells slots Q (F0 m (pc + 3) ls (.int (σ 7 k) :: rest))) : W p l e R s m args below meth c H locs cells slots Q (F0 m pc ls (.ref (ad (3 * k + 23)) :: rest)) :=
  g_get hC hY (3 * k + 23) (by omega) (ct_L k) (q := (RX0, TX0, 12)) rfl hin 4 (by decide) hlink rfl hdg kk
theorem ptL_free (hC : CallFix p m c cc nL s args Ts own) (hin : ∀ w ∈ wsX00, w ∈ Ts) (hY : SyS G ad σ n τ j th o od s H locs) {k : Nat} (hk : k < n) {index : Nat} (hlink : Cond.fieldLink own index (TX0 4).1 (TX0 4).2.1 (TX0 4).2.2.1 ∈ Ts) {x : Int32} (hdg : decode cc pc = .ok (.putfield index, 3)) (kk : ∀ (H1 : Heap) (locs1 : List Loc), SyS G ad (us σ 7 k x) n τ j th o od s H1 locs1 → W p l e R s m args below meth c H1 locs1 cells slots Q (F0 m (pc + 3) ls (rest))) : W p l e R s m args below meth c H locs cells slots Q (F0 m pc ls (.int x :: .ref (ad (3 * k + 23)) :: rest)) :=
  g_put hC hY (3 * k + 23) (by omega) (ct_L k) (q := (RX0, TX0, 12)) rfl hin tyX0 tyX0_ok nmX0 4 (by decide) hlink (Or.inl rfl) rfl rfl (Nat.le_of_ble_eq_true rfl) hdg (fun H1 locs1 h => kk H1 locs1 (by rw [upL7] at h; exact h))
theorem gtL_every (hC : CallFix p m c cc nL s args Ts own) (hin : ∀ w ∈ wsX00, w ∈ Ts) (hY : SyS G ad σ n τ j th o od s H locs) {k : Nat} (hk : k < n) {index : Nat} (hlink : Cond.fieldLink own index (TX0 5).1 (TX0 5).2.1 (TX0 5).2.2.1 ∈ Ts) (hdg : decode cc pc = .ok (.getfield index, 3)) (kk : W p l e R s m args below meth c H locs cells slots Q (F0 m (pc + 3) ls (.int (σ 8 k) :: rest))) : W p l e R s m args below meth c H locs cells slots Q (F0 m pc ls (.ref (ad (3 * k + 23)) :: rest)) :=
  g_get hC hY (3 * k + 23) (by omega) (ct_L k) (q := (RX0, TX0, 12)) rfl hin 5 (by decide) hlink rfl hdg kk
theorem ptL_every (hC : CallFix p m c cc nL s args Ts own) (hin : ∀ w ∈ wsX00, w ∈ Ts) (hY : SyS G ad σ n τ j th o od s H locs) {k : Nat} (hk : k < n) {index : Nat} (hlink : Cond.fieldLink own index (TX0 5).1 (TX0 5).2.1 (TX0 5).2.2.1 ∈ Ts) {x : Int32} (hdg : decode cc pc = .ok (.putfield index, 3)) (kk : ∀ (H1 : Heap) (locs1 : List Loc), SyS G ad (us σ 8 k x) n τ j th o od s H1 locs1 → W p l e R s m args below meth c H1 locs1 cells slots Q (F0 m (pc + 3) ls (rest))) : W p l e R s m args below meth c H locs cells slots Q (F0 m pc ls (.int x :: .ref (ad (3 * k + 23)) :: rest)) :=
  g_put hC hY (3 * k + 23) (by omega) (ct_L k) (q := (RX0, TX0, 12)) rfl hin tyX0 tyX0_ok nmX0 5 (by decide) hlink (Or.inl rfl) rfl rfl (Nat.le_of_ble_eq_true rfl) hdg (fun H1 locs1 h => kk H1 locs1 (by rw [upL8] at h; exact h))
theorem gtL_cap (hC : CallFix p m c cc nL s args Ts own) (hin : ∀ w ∈ wsX00, w ∈ Ts) (hY : SyS G ad σ n τ j th o od s H locs) {k : Nat} (hk : k < n) {index : Nat} (hlink : Cond.fieldLink own index (TX0 6).1 (TX0 6).2.1 (TX0 6).2.2.1 ∈ Ts) (hdg : decode cc pc = .ok (.getfield index, 3)) (kk : W p l e R s m args below meth c H locs cells slots Q (F0 m (pc + 3) ls (.int (σ 9 k) :: rest))) : W p l e R s m args below meth c H locs cells slots Q (F0 m pc ls (.ref (ad (3 * k + 23)) :: rest)) :=
  g_get hC hY (3 * k + 23) (by omega) (ct_L k) (q := (RX0, TX0, 12)) rfl hin 6 (by decide) hlink rfl hdg kk
theorem ptL_cap (hC : CallFix p m c cc nL s args Ts own) (hin : ∀ w ∈ wsX00, w ∈ Ts) (hY : SyS G ad σ n τ j th o od s H locs) {k : Nat} (hk : k < n) {index : Nat} (hlink : Cond.fieldLink own index (TX0 6).1 (TX0 6).2.1 (TX0 6).2.2.1 ∈ Ts) {x : Int32} (hdg : decode cc pc = .ok (.putfield index, 3)) (kk : ∀ (H1 : Heap) (locs1 : List Loc), SyS G ad (us σ 9 k x) n τ j th o od s H1 locs1 → W p l e R s m args below meth c H1 locs1 cells slots Q (F0 m (pc + 3) ls (rest))) : W p l e R s m args below meth c H locs cells slots Q (F0 m pc ls (.int x :: .ref (ad (3 * k + 23)) :: rest)) :=
  g_put hC hY (3 * k + 23) (by omega) (ct_L k) (q := (RX0, TX0, 12)) rfl hin tyX0 tyX0_ok nmX0 6 (by decide) hlink (Or.inl rfl) rfl rfl (Nat.le_of_ble_eq_true rfl) hdg (fun H1 locs1 h => kk H1 locs1 (by rw [upL9] at h; exact h))
theorem gtL_prepaid (hC : CallFix p m c cc nL s args Ts own) (hin : ∀ w ∈ wsX00, w ∈ Ts) (hY : SyS G ad σ n τ j th o od s H locs) {k : Nat} (hk : k < n) {index : Nat} (hlink : Cond.fieldLink own index (TX0 7).1 (TX0 7).2.1 (TX0 7).2.2.1 ∈ Ts) (hdg : decode cc pc = .ok (.getfield index, 3)) (kk : W p l e R s m args below meth c H locs cells slots Q (F0 m (pc + 3) ls (.int (σ 10 k) :: rest))) : W p l e R s m args below meth c H locs cells slots Q (F0 m pc ls (.ref (ad (3 * k + 23)) :: rest)) :=
  g_get hC hY (3 * k + 23) (by omega) (ct_L k) (q := (RX0, TX0, 12)) rfl hin 7 (by decide) hlink rfl hdg kk
theorem ptL_prepaid (hC : CallFix p m c cc nL s args Ts own) (hin : ∀ w ∈ wsX00, w ∈ Ts) (hY : SyS G ad σ n τ j th o od s H locs) {k : Nat} (hk : k < n) {index : Nat} (hlink : Cond.fieldLink own index (TX0 7).1 (TX0 7).2.1 (TX0 7).2.2.1 ∈ Ts) {x : Int32} (hdg : decode cc pc = .ok (.putfield index, 3)) (kk : ∀ (H1 : Heap) (locs1 : List Loc), SyS G ad (us σ 10 k x) n τ j th o od s H1 locs1 → W p l e R s m args below meth c H1 locs1 cells slots Q (F0 m (pc + 3) ls (rest))) : W p l e R s m args below meth c H locs cells slots Q (F0 m pc ls (.int x :: .ref (ad (3 * k + 23)) :: rest)) :=
  g_put hC hY (3 * k + 23) (by omega) (ct_L k) (q := (RX0, TX0, 12)) rfl hin tyX0 tyX0_ok nmX0 7 (by decide) hlink (Or.inl rfl) rfl rfl (Nat.le_of_ble_eq_true rfl) hdg (fun H1 locs1 h => kk H1 locs1 (by rw [upL10] at h; exact h))
theorem gtL_deposit (hC : CallFix p m c cc nL s args Ts own) (hin : ∀ w ∈ wsX00, w ∈ Ts) (hY : SyS G ad σ n τ j th o od s H locs) {k : Nat} (hk : k < n) {index : Nat} (hlink : Cond.fieldLink own index (TX0 8).1 (TX0 8).2.1 (TX0 8).2.2.1 ∈ Ts) (hdg : decode cc pc = .ok (.getfield index, 3)) (kk : W p l e R s m args below meth c H locs cells slots Q (F0 m (pc + 3) ls (.int (σ 11 k) :: rest))) : W p l e R s m args below meth c H locs cells slots Q (F0 m pc ls (.ref (ad (3 * k + 23)) :: rest)) :=
  g_get hC hY (3 * k + 23) (by omega) (ct_L k) (q := (RX0, TX0, 12)) rfl hin 8 (by decide) hlink rfl hdg kk
theorem ptL_deposit (hC : CallFix p m c cc nL s args Ts own) (hin : ∀ w ∈ wsX00, w ∈ Ts) (hY : SyS G ad σ n τ j th o od s H locs) {k : Nat} (hk : k < n) {index : Nat} (hlink : Cond.fieldLink own index (TX0 8).1 (TX0 8).2.1 (TX0 8).2.2.1 ∈ Ts) {x : Int32} (hdg : decode cc pc = .ok (.putfield index, 3)) (kk : ∀ (H1 : Heap) (locs1 : List Loc), SyS G ad (us σ 11 k x) n τ j th o od s H1 locs1 → W p l e R s m args below meth c H1 locs1 cells slots Q (F0 m (pc + 3) ls (rest))) : W p l e R s m args below meth c H locs cells slots Q (F0 m pc ls (.int x :: .ref (ad (3 * k + 23)) :: rest)) :=
  g_put hC hY (3 * k + 23) (by omega) (ct_L k) (q := (RX0, TX0, 12)) rfl hin tyX0 tyX0_ok nmX0 8 (by decide) hlink (Or.inl rfl) rfl rfl (Nat.le_of_ble_eq_true rfl) hdg (fun H1 locs1 h => kk H1 locs1 (by rw [upL11] at h; exact h))
theorem gtL_stepDays (hC : CallFix p m c cc nL s args Ts own) (hin : ∀ w ∈ wsX00, w ∈ Ts) (hY : SyS G ad σ n τ j th o od s H locs) {k : Nat} (hk : k < n) {index : Nat} (hlink : Cond.fieldLink own index (TX0 9).1 (TX0 9).2.1 (TX0 9).2.2.1 ∈ Ts) (hdg : decode cc pc = .ok (.getfield index, 3)) (kk : W p l e R s m args below meth c H locs cells slots Q (F0 m (pc + 3) ls (.ref (ad (3 * k + 24)) :: rest))) : W p l e R s m args below meth c H locs cells slots Q (F0 m pc ls (.ref (ad (3 * k + 23)) :: rest)) :=
  g_get hC hY (3 * k + 23) (by omega) (ct_L k) (q := (RX0, TX0, 12)) rfl hin 9 (by decide) hlink rfl hdg kk
theorem gtL_stepRents (hC : CallFix p m c cc nL s args Ts own) (hin : ∀ w ∈ wsX00, w ∈ Ts) (hY : SyS G ad σ n τ j th o od s H locs) {k : Nat} (hk : k < n) {index : Nat} (hlink : Cond.fieldLink own index (TX0 10).1 (TX0 10).2.1 (TX0 10).2.2.1 ∈ Ts) (hdg : decode cc pc = .ok (.getfield index, 3)) (kk : W p l e R s m args below meth c H locs cells slots Q (F0 m (pc + 3) ls (.ref (ad (3 * k + 25)) :: rest))) : W p l e R s m args below meth c H locs cells slots Q (F0 m pc ls (.ref (ad (3 * k + 23)) :: rest)) :=
  g_get hC hY (3 * k + 23) (by omega) (ct_L k) (q := (RX0, TX0, 12)) rfl hin 10 (by decide) hlink rfl hdg kk
theorem gtL_steps (hC : CallFix p m c cc nL s args Ts own) (hin : ∀ w ∈ wsX00, w ∈ Ts) (hY : SyS G ad σ n τ j th o od s H locs) {k : Nat} (hk : k < n) {index : Nat} (hlink : Cond.fieldLink own index (TX0 11).1 (TX0 11).2.1 (TX0 11).2.2.1 ∈ Ts) (hdg : decode cc pc = .ok (.getfield index, 3)) (kk : W p l e R s m args below meth c H locs cells slots Q (F0 m (pc + 3) ls (.int (σ 12 k) :: rest))) : W p l e R s m args below meth c H locs cells slots Q (F0 m pc ls (.ref (ad (3 * k + 23)) :: rest)) :=
  g_get hC hY (3 * k + 23) (by omega) (ct_L k) (q := (RX0, TX0, 12)) rfl hin 11 (by decide) hlink rfl hdg kk
theorem ptL_steps (hC : CallFix p m c cc nL s args Ts own) (hin : ∀ w ∈ wsX00, w ∈ Ts) (hY : SyS G ad σ n τ j th o od s H locs) {k : Nat} (hk : k < n) {index : Nat} (hlink : Cond.fieldLink own index (TX0 11).1 (TX0 11).2.1 (TX0 11).2.2.1 ∈ Ts) {x : Int32} (hdg : decode cc pc = .ok (.putfield index, 3)) (kk : ∀ (H1 : Heap) (locs1 : List Loc), SyS G ad (us σ 12 k x) n τ j th o od s H1 locs1 → W p l e R s m args below meth c H1 locs1 cells slots Q (F0 m (pc + 3) ls (rest))) : W p l e R s m args below meth c H locs cells slots Q (F0 m pc ls (.int x :: .ref (ad (3 * k + 23)) :: rest)) :=
  g_put hC hY (3 * k + 23) (by omega) (ct_L k) (q := (RX0, TX0, 12)) rfl hin tyX0 tyX0_ok nmX0 11 (by decide) hlink (Or.inl rfl) rfl rfl (Nat.le_of_ble_eq_true rfl) hdg (fun H1 locs1 h => kk H1 locs1 (by rw [upL12] at h; exact h))
theorem gtV_areas (hC : CallFix p m c cc nL s args Ts own) (hin : ∀ w ∈ wsX10, w ∈ Ts) (hY : SyS G ad σ n τ j th o od s H locs) {index : Nat} (hlink : Cond.fieldLink own index (TX1 0).1 (TX1 0).2.1 (TX1 0).2.2.1 ∈ Ts) (hdg : decode cc pc = .ok (.getfield index, 3)) (kk : W p l e R s m args below meth c H locs cells slots Q (F0 m (pc + 3) ls (.ref (ad 1) :: rest))) : W p l e R s m args below meth c H locs cells slots Q (F0 m pc ls (.ref (ad 0) :: rest)) :=
  g_get hC hY 0 (by omega) (ci := 1) (fs := [.ref (ad 1), .ref (ad 2), .ref (ad 3), .ref (ad 4), .int (nI n)]) rfl (q := (RX1, TX1, 5)) rfl hin 0 (by decide) hlink rfl hdg kk
theorem gtV_indices (hC : CallFix p m c cc nL s args Ts own) (hin : ∀ w ∈ wsX10, w ∈ Ts) (hY : SyS G ad σ n τ j th o od s H locs) {index : Nat} (hlink : Cond.fieldLink own index (TX1 1).1 (TX1 1).2.1 (TX1 1).2.2.1 ∈ Ts) (hdg : decode cc pc = .ok (.getfield index, 3)) (kk : W p l e R s m args below meth c H locs cells slots Q (F0 m (pc + 3) ls (.ref (ad 2) :: rest))) : W p l e R s m args below meth c H locs cells slots Q (F0 m pc ls (.ref (ad 0) :: rest)) :=
  g_get hC hY 0 (by omega) (ci := 1) (fs := [.ref (ad 1), .ref (ad 2), .ref (ad 3), .ref (ad 4), .int (nI n)]) rfl (q := (RX1, TX1, 5)) rfl hin 1 (by decide) hlink rfl hdg kk
theorem gtV_costs (hC : CallFix p m c cc nL s args Ts own) (hin : ∀ w ∈ wsX10, w ∈ Ts) (hY : SyS G ad σ n τ j th o od s H locs) {index : Nat} (hlink : Cond.fieldLink own index (TX1 2).1 (TX1 2).2.1 (TX1 2).2.2.1 ∈ Ts) (hdg : decode cc pc = .ok (.getfield index, 3)) (kk : W p l e R s m args below meth c H locs cells slots Q (F0 m (pc + 3) ls (.ref (ad 3) :: rest))) : W p l e R s m args below meth c H locs cells slots Q (F0 m pc ls (.ref (ad 0) :: rest)) :=
  g_get hC hY 0 (by omega) (ci := 1) (fs := [.ref (ad 1), .ref (ad 2), .ref (ad 3), .ref (ad 4), .int (nI n)]) rfl (q := (RX1, TX1, 5)) rfl hin 2 (by decide) hlink rfl hdg kk
theorem gtV_roll (hC : CallFix p m c cc nL s args Ts own) (hin : ∀ w ∈ wsX10, w ∈ Ts) (hY : SyS G ad σ n τ j th o od s H locs) {index : Nat} (hlink : Cond.fieldLink own index (TX1 3).1 (TX1 3).2.1 (TX1 3).2.2.1 ∈ Ts) (hdg : decode cc pc = .ok (.getfield index, 3)) (kk : W p l e R s m args below meth c H locs cells slots Q (F0 m (pc + 3) ls (.ref (ad 4) :: rest))) : W p l e R s m args below meth c H locs cells slots Q (F0 m pc ls (.ref (ad 0) :: rest)) :=
  g_get hC hY 0 (by omega) (ci := 1) (fs := [.ref (ad 1), .ref (ad 2), .ref (ad 3), .ref (ad 4), .int (nI n)]) rfl (q := (RX1, TX1, 5)) rfl hin 3 (by decide) hlink rfl hdg kk
theorem gtV_count (hC : CallFix p m c cc nL s args Ts own) (hin : ∀ w ∈ wsX10, w ∈ Ts) (hY : SyS G ad σ n τ j th o od s H locs) {index : Nat} (hlink : Cond.fieldLink own index (TX1 4).1 (TX1 4).2.1 (TX1 4).2.2.1 ∈ Ts) (hdg : decode cc pc = .ok (.getfield index, 3)) (kk : W p l e R s m args below meth c H locs cells slots Q (F0 m (pc + 3) ls (.int (nI n) :: rest))) : W p l e R s m args below meth c H locs cells slots Q (F0 m pc ls (.ref (ad 0) :: rest)) :=
  g_get hC hY 0 (by omega) (ci := 1) (fs := [.ref (ad 1), .ref (ad 2), .ref (ad 3), .ref (ad 4), .int (nI n)]) rfl (q := (RX1, TX1, 5)) rfl hin 4 (by decide) hlink rfl hdg kk
theorem gtM_thrown (hC : CallFix p m c cc nL s args Ts own) (hin : ∀ w ∈ wsX20, w ∈ Ts) (hY : SyS G ad σ n τ j th o od s H locs) {index : Nat} (hlink : Cond.fieldLink own index (TX2 0).1 (TX2 0).2.1 (TX2 0).2.2.1 ∈ Ts) (hdg : decode cc pc = .ok (.getfield index, 3)) (kk : W p l e R s m args below meth c H locs cells slots Q (F0 m (pc + 3) ls (.int th :: rest))) : W p l e R s m args below meth c H locs cells slots Q (F0 m pc ls (.ref (ad 5) :: rest)) :=
  g_get hC hY 5 (by omega) (ci := 2) (fs := mdF ad j th) rfl (q := (RX2, TX2, 17)) rfl hin 0 (by decide) hlink rfl hdg kk
theorem gtM_areas (hC : CallFix p m c cc nL s args Ts own) (hin : ∀ w ∈ wsX20, w ∈ Ts) (hY : SyS G ad σ n τ j th o od s H locs) {index : Nat} (hlink : Cond.fieldLink own index (TX2 1).1 (TX2 1).2.1 (TX2 1).2.2.1 ∈ Ts) (hdg : decode cc pc = .ok (.getfield index, 3)) (kk : W p l e R s m args below meth c H locs cells slots Q (F0 m (pc + 3) ls (.ref (ad 6) :: rest))) : W p l e R s m args below meth c H locs cells slots Q (F0 m pc ls (.ref (ad 5) :: rest)) :=
  g_get hC hY 5 (by omega) (ci := 2) (fs := mdF ad j th) rfl (q := (RX2, TX2, 17)) rfl hin 1 (by decide) hlink rfl hdg kk
theorem gtM_indices (hC : CallFix p m c cc nL s args Ts own) (hin : ∀ w ∈ wsX20, w ∈ Ts) (hY : SyS G ad σ n τ j th o od s H locs) {index : Nat} (hlink : Cond.fieldLink own index (TX2 2).1 (TX2 2).2.1 (TX2 2).2.2.1 ∈ Ts) (hdg : decode cc pc = .ok (.getfield index, 3)) (kk : W p l e R s m args below meth c H locs cells slots Q (F0 m (pc + 3) ls (.ref (ad 7) :: rest))) : W p l e R s m args below meth c H locs cells slots Q (F0 m pc ls (.ref (ad 5) :: rest)) :=
  g_get hC hY 5 (by omega) (ci := 2) (fs := mdF ad j th) rfl (q := (RX2, TX2, 17)) rfl hin 2 (by decide) hlink rfl hdg kk
theorem gtM_costs (hC : CallFix p m c cc nL s args Ts own) (hin : ∀ w ∈ wsX20, w ∈ Ts) (hY : SyS G ad σ n τ j th o od s H locs) {index : Nat} (hlink : Cond.fieldLink own index (TX2 3).1 (TX2 3).2.1 (TX2 3).2.2.1 ∈ Ts) (hdg : decode cc pc = .ok (.getfield index, 3)) (kk : W p l e R s m args below meth c H locs cells slots Q (F0 m (pc + 3) ls (.ref (ad 8) :: rest))) : W p l e R s m args below meth c H locs cells slots Q (F0 m pc ls (.ref (ad 5) :: rest)) :=
  g_get hC hY 5 (by omega) (ci := 2) (fs := mdF ad j th) rfl (q := (RX2, TX2, 17)) rfl hin 3 (by decide) hlink rfl hdg kk
theorem gtM_leases (hC : CallFix p m c cc nL s args Ts own) (hin : ∀ w ∈ wsX20, w ∈ Ts) (hY : SyS G ad σ n τ j th o od s H locs) {index : Nat} (hlink : Cond.fieldLink own index (TX2 4).1 (TX2 4).2.1 (TX2 4).2.2.1 ∈ Ts) (hdg : decode cc pc = .ok (.getfield index, 3)) (kk : W p l e R s m args below meth c H locs cells slots Q (F0 m (pc + 3) ls (.int (nI j) :: rest))) : W p l e R s m args below meth c H locs cells slots Q (F0 m pc ls (.ref (ad 5) :: rest)) :=
  g_get hC hY 5 (by omega) (ci := 2) (fs := mdF ad j th) rfl (q := (RX2, TX2, 17)) rfl hin 4 (by decide) hlink rfl hdg kk
theorem gtM_units (hC : CallFix p m c cc nL s args Ts own) (hin : ∀ w ∈ wsX20, w ∈ Ts) (hY : SyS G ad σ n τ j th o od s H locs) {index : Nat} (hlink : Cond.fieldLink own index (TX2 5).1 (TX2 5).2.1 (TX2 5).2.2.1 ∈ Ts) (hdg : decode cc pc = .ok (.getfield index, 3)) (kk : W p l e R s m args below meth c H locs cells slots Q (F0 m (pc + 3) ls (.ref (ad 9) :: rest))) : W p l e R s m args below meth c H locs cells slots Q (F0 m pc ls (.ref (ad 5) :: rest)) :=
  g_get hC hY 5 (by omega) (ci := 2) (fs := mdF ad j th) rfl (q := (RX2, TX2, 17)) rfl hin 5 (by decide) hlink rfl hdg kk
theorem gtM_froms (hC : CallFix p m c cc nL s args Ts own) (hin : ∀ w ∈ wsX20, w ∈ Ts) (hY : SyS G ad σ n τ j th o od s H locs) {index : Nat} (hlink : Cond.fieldLink own index (TX2 6).1 (TX2 6).2.1 (TX2 6).2.2.1 ∈ Ts) (hdg : decode cc pc = .ok (.getfield index, 3)) (kk : W p l e R s m args below meth c H locs cells slots Q (F0 m (pc + 3) ls (.ref (ad 10) :: rest))) : W p l e R s m args below meth c H locs cells slots Q (F0 m pc ls (.ref (ad 5) :: rest)) :=
  g_get hC hY 5 (by omega) (ci := 2) (fs := mdF ad j th) rfl (q := (RX2, TX2, 17)) rfl hin 6 (by decide) hlink rfl hdg kk
theorem gtM_tos (hC : CallFix p m c cc nL s args Ts own) (hin : ∀ w ∈ wsX20, w ∈ Ts) (hY : SyS G ad σ n τ j th o od s H locs) {index : Nat} (hlink : Cond.fieldLink own index (TX2 7).1 (TX2 7).2.1 (TX2 7).2.2.1 ∈ Ts) (hdg : decode cc pc = .ok (.getfield index, 3)) (kk : W p l e R s m args below meth c H locs cells slots Q (F0 m (pc + 3) ls (.ref (ad 11) :: rest))) : W p l e R s m args below meth c H locs cells slots Q (F0 m pc ls (.ref (ad 5) :: rest)) :=
  g_get hC hY 5 (by omega) (ci := 2) (fs := mdF ad j th) rfl (q := (RX2, TX2, 17)) rfl hin 7 (by decide) hlink rfl hdg kk
theorem gtM_rents (hC : CallFix p m c cc nL s args Ts own) (hin : ∀ w ∈ wsX20, w ∈ Ts) (hY : SyS G ad σ n τ j th o od s H locs) {index : Nat} (hlink : Cond.fieldLink own index (TX2 8).1 (TX2 8).2.1 (TX2 8).2.2.1 ∈ Ts) (hdg : decode cc pc = .ok (.getfield index, 3)) (kk : W p l e R s m args below meth c H locs cells slots Q (F0 m (pc + 3) ls (.ref (ad 12) :: rest))) : W p l e R s m args below meth c H locs cells slots Q (F0 m pc ls (.ref (ad 5) :: rest)) :=
  g_get hC hY 5 (by omega) (ci := 2) (fs := mdF ad j th) rfl (q := (RX2, TX2, 17)) rfl hin 8 (by decide) hlink rfl hdg kk
theorem gtM_frees (hC : CallFix p m c cc nL s args Ts own) (hin : ∀ w ∈ wsX20, w ∈ Ts) (hY : SyS G ad σ n τ j th o od s H locs) {index : Nat} (hlink : Cond.fieldLink own index (TX2 9).1 (TX2 9).2.1 (TX2 9).2.2.1 ∈ Ts) (hdg : decode cc pc = .ok (.getfield index, 3)) (kk : W p l e R s m args below meth c H locs cells slots Q (F0 m (pc + 3) ls (.ref (ad 13) :: rest))) : W p l e R s m args below meth c H locs cells slots Q (F0 m pc ls (.ref (ad 5) :: rest)) :=
  g_get hC hY 5 (by omega) (ci := 2) (fs := mdF ad j th) rfl (q := (RX2, TX2, 17)) rfl hin 9 (by decide) hlink rfl hdg kk
theorem gtM_everies (hC : CallFix p m c cc nL s args Ts own) (hin : ∀ w ∈ wsX20, w ∈ Ts) (hY : SyS G ad σ n τ j th o od s H locs) {index : Nat} (hlink : Cond.fieldLink own index (TX2 10).1 (TX2 10).2.1 (TX2 10).2.2.1 ∈ Ts) (hdg : decode cc pc = .ok (.getfield index, 3)) (kk : W p l e R s m args below meth c H locs cells slots Q (F0 m (pc + 3) ls (.ref (ad 14) :: rest))) : W p l e R s m args below meth c H locs cells slots Q (F0 m pc ls (.ref (ad 5) :: rest)) :=
  g_get hC hY 5 (by omega) (ci := 2) (fs := mdF ad j th) rfl (q := (RX2, TX2, 17)) rfl hin 10 (by decide) hlink rfl hdg kk
theorem gtM_caps (hC : CallFix p m c cc nL s args Ts own) (hin : ∀ w ∈ wsX20, w ∈ Ts) (hY : SyS G ad σ n τ j th o od s H locs) {index : Nat} (hlink : Cond.fieldLink own index (TX2 11).1 (TX2 11).2.1 (TX2 11).2.2.1 ∈ Ts) (hdg : decode cc pc = .ok (.getfield index, 3)) (kk : W p l e R s m args below meth c H locs cells slots Q (F0 m (pc + 3) ls (.ref (ad 15) :: rest))) : W p l e R s m args below meth c H locs cells slots Q (F0 m pc ls (.ref (ad 5) :: rest)) :=
  g_get hC hY 5 (by omega) (ci := 2) (fs := mdF ad j th) rfl (q := (RX2, TX2, 17)) rfl hin 11 (by decide) hlink rfl hdg kk
theorem gtM_prepaids (hC : CallFix p m c cc nL s args Ts own) (hin : ∀ w ∈ wsX20, w ∈ Ts) (hY : SyS G ad σ n τ j th o od s H locs) {index : Nat} (hlink : Cond.fieldLink own index (TX2 12).1 (TX2 12).2.1 (TX2 12).2.2.1 ∈ Ts) (hdg : decode cc pc = .ok (.getfield index, 3)) (kk : W p l e R s m args below meth c H locs cells slots Q (F0 m (pc + 3) ls (.ref (ad 16) :: rest))) : W p l e R s m args below meth c H locs cells slots Q (F0 m pc ls (.ref (ad 5) :: rest)) :=
  g_get hC hY 5 (by omega) (ci := 2) (fs := mdF ad j th) rfl (q := (RX2, TX2, 17)) rfl hin 12 (by decide) hlink rfl hdg kk
theorem gtM_deposits (hC : CallFix p m c cc nL s args Ts own) (hin : ∀ w ∈ wsX20, w ∈ Ts) (hY : SyS G ad σ n τ j th o od s H locs) {index : Nat} (hlink : Cond.fieldLink own index (TX2 13).1 (TX2 13).2.1 (TX2 13).2.2.1 ∈ Ts) (hdg : decode cc pc = .ok (.getfield index, 3)) (kk : W p l e R s m args below meth c H locs cells slots Q (F0 m (pc + 3) ls (.ref (ad 17) :: rest))) : W p l e R s m args below meth c H locs cells slots Q (F0 m pc ls (.ref (ad 5) :: rest)) :=
  g_get hC hY 5 (by omega) (ci := 2) (fs := mdF ad j th) rfl (q := (RX2, TX2, 17)) rfl hin 13 (by decide) hlink rfl hdg kk
theorem gtM_steps (hC : CallFix p m c cc nL s args Ts own) (hin : ∀ w ∈ wsX20, w ∈ Ts) (hY : SyS G ad σ n τ j th o od s H locs) {index : Nat} (hlink : Cond.fieldLink own index (TX2 14).1 (TX2 14).2.1 (TX2 14).2.2.1 ∈ Ts) (hdg : decode cc pc = .ok (.getfield index, 3)) (kk : W p l e R s m args below meth c H locs cells slots Q (F0 m (pc + 3) ls (.ref (ad 18) :: rest))) : W p l e R s m args below meth c H locs cells slots Q (F0 m pc ls (.ref (ad 5) :: rest)) :=
  g_get hC hY 5 (by omega) (ci := 2) (fs := mdF ad j th) rfl (q := (RX2, TX2, 17)) rfl hin 14 (by decide) hlink rfl hdg kk
theorem gtM_stepDays (hC : CallFix p m c cc nL s args Ts own) (hin : ∀ w ∈ wsX20, w ∈ Ts) (hY : SyS G ad σ n τ j th o od s H locs) {index : Nat} (hlink : Cond.fieldLink own index (TX2 15).1 (TX2 15).2.1 (TX2 15).2.2.1 ∈ Ts) (hdg : decode cc pc = .ok (.getfield index, 3)) (kk : W p l e R s m args below meth c H locs cells slots Q (F0 m (pc + 3) ls (.ref (ad 19) :: rest))) : W p l e R s m args below meth c H locs cells slots Q (F0 m pc ls (.ref (ad 5) :: rest)) :=
  g_get hC hY 5 (by omega) (ci := 2) (fs := mdF ad j th) rfl (q := (RX2, TX2, 17)) rfl hin 15 (by decide) hlink rfl hdg kk
theorem gtM_stepRents (hC : CallFix p m c cc nL s args Ts own) (hin : ∀ w ∈ wsX20, w ∈ Ts) (hY : SyS G ad σ n τ j th o od s H locs) {index : Nat} (hlink : Cond.fieldLink own index (TX2 16).1 (TX2 16).2.1 (TX2 16).2.2.1 ∈ Ts) (hdg : decode cc pc = .ok (.getfield index, 3)) (kk : W p l e R s m args below meth c H locs cells slots Q (F0 m (pc + 3) ls (.ref (ad 20) :: rest))) : W p l e R s m args below meth c H locs cells slots Q (F0 m pc ls (.ref (ad 5) :: rest)) :=
  g_get hC hY 5 (by omega) (ci := 2) (fs := mdF ad j th) rfl (q := (RX2, TX2, 17)) rfl hin 16 (by decide) hlink rfl hdg kk
theorem ptM_thrown (hC : CallFix p m c cc nL s args Ts own) (hin : ∀ w ∈ wsX20, w ∈ Ts) (hY : SyS G ad σ n τ j th o od s H locs) {index : Nat} (hlink : Cond.fieldLink own index (TX2 0).1 (TX2 0).2.1 (TX2 0).2.2.1 ∈ Ts) {x : Int32} (hdg : decode cc pc = .ok (.putfield index, 3)) (kk : ∀ (H1 : Heap) (locs1 : List Loc), SyS G ad σ n τ j x o od s H1 locs1 → W p l e R s m args below meth c H1 locs1 cells slots Q (F0 m (pc + 3) ls (rest))) : W p l e R s m args below meth c H locs cells slots Q (F0 m pc ls (.int x :: .ref (ad 5) :: rest)) :=
  g_put hC hY 5 (by omega) (ci := 2) (fs := mdF ad j th) rfl (q := (RX2, TX2, 17)) rfl hin tyX2 tyX2_ok nmX2 0 (by decide) hlink (Or.inl rfl) rfl rfl (Nat.le_of_ble_eq_true rfl) hdg (fun H1 locs1 h => kk H1 locs1 (by rw [upTh] at h; exact h))
theorem ptM_leases (hC : CallFix p m c cc nL s args Ts own) (hin : ∀ w ∈ wsX20, w ∈ Ts) (hY : SyS G ad σ n τ j th o od s H locs) {index : Nat} (hlink : Cond.fieldLink own index (TX2 4).1 (TX2 4).2.1 (TX2 4).2.2.1 ∈ Ts) {j' : Nat} (hdg : decode cc pc = .ok (.putfield index, 3)) (kk : ∀ (H1 : Heap) (locs1 : List Loc), SyS G ad σ n τ j' th o od s H1 locs1 → W p l e R s m args below meth c H1 locs1 cells slots Q (F0 m (pc + 3) ls (rest))) : W p l e R s m args below meth c H locs cells slots Q (F0 m pc ls (.int (nI j') :: .ref (ad 5) :: rest)) :=
  g_put hC hY 5 (by omega) (ci := 2) (fs := mdF ad j th) rfl (q := (RX2, TX2, 17)) rfl hin tyX2 tyX2_ok nmX2 4 (by decide) hlink (Or.inl rfl) rfl rfl (Nat.le_of_ble_eq_true rfl) hdg (fun H1 locs1 h => kk H1 locs1 (by rw [upJ] at h; exact h))
theorem gtN_unit (hC : CallFix p m c cc nL s args Ts RX1) (hin : ∀ w ∈ wsX00, w ∈ Ts) (hY : SyS G ad σ n τ j th o od s H locs) {k : Nat} (hk : k < n) {index : Nat} (hm : (index, "unit") ∈ nstL) (hdg : decode cc pc = .ok (.getfield index, 3)) (kk : W p l e R s m args below meth c H locs cells slots Q (F0 m (pc + 3) ls (.int (σ 3 k) :: rest))) : W p l e R s m args below meth c H locs cells slots Q (F0 m pc ls (.ref (ad (3 * k + 23)) :: rest)) := by
  have he := wl_get (ad := ad) (ct := ctS G ad σ n τ j th o od) (show 3 * k + 23 < 3 * n + 23 by omega)
  rw [ct_L] at he
  exact va_getN (own := RX1) (ref := RX0) (C := RX0) (host := RX1) (T := TX0) (N := 12) (index := index) hC.1 hC.2.1 hC.2.2.2.2 hin hC.2.2.2.1 hY.1 hY.2.1 (3 * k + 23) he rfl 0 (by decide) (va_Nw.use rfl (hY.2.2.2.2.2.2.2.2.2.2.2.2.2 _ hm)) (fun _ h => h) rfl hdg kk
theorem gtN_from (hC : CallFix p m c cc nL s args Ts RX1) (hin : ∀ w ∈ wsX00, w ∈ Ts) (hY : SyS G ad σ n τ j th o od s H locs) {k : Nat} (hk : k < n) {index : Nat} (hm : (index, "from") ∈ nstL) (hdg : decode cc pc = .ok (.getfield index, 3)) (kk : W p l e R s m args below meth c H locs cells slots Q (F0 m (pc + 3) ls (.int (σ 4 k) :: rest))) : W p l e R s m args below meth c H locs cells slots Q (F0 m pc ls (.ref (ad (3 * k + 23)) :: rest)) := by
  have he := wl_get (ad := ad) (ct := ctS G ad σ n τ j th o od) (show 3 * k + 23 < 3 * n + 23 by omega)
  rw [ct_L] at he
  exact va_getN (own := RX1) (ref := RX0) (C := RX0) (host := RX1) (T := TX0) (N := 12) (index := index) hC.1 hC.2.1 hC.2.2.2.2 hin hC.2.2.2.1 hY.1 hY.2.1 (3 * k + 23) he rfl 1 (by decide) (va_Nw.use rfl (hY.2.2.2.2.2.2.2.2.2.2.2.2.2 _ hm)) (fun _ h => h) rfl hdg kk
theorem gtN_to (hC : CallFix p m c cc nL s args Ts RX1) (hin : ∀ w ∈ wsX00, w ∈ Ts) (hY : SyS G ad σ n τ j th o od s H locs) {k : Nat} (hk : k < n) {index : Nat} (hm : (index, "to") ∈ nstL) (hdg : decode cc pc = .ok (.getfield index, 3)) (kk : W p l e R s m args below meth c H locs cells slots Q (F0 m (pc + 3) ls (.int (σ 5 k) :: rest))) : W p l e R s m args below meth c H locs cells slots Q (F0 m pc ls (.ref (ad (3 * k + 23)) :: rest)) := by
  have he := wl_get (ad := ad) (ct := ctS G ad σ n τ j th o od) (show 3 * k + 23 < 3 * n + 23 by omega)
  rw [ct_L] at he
  exact va_getN (own := RX1) (ref := RX0) (C := RX0) (host := RX1) (T := TX0) (N := 12) (index := index) hC.1 hC.2.1 hC.2.2.2.2 hin hC.2.2.2.1 hY.1 hY.2.1 (3 * k + 23) he rfl 3 (by decide) (va_Nw.use rfl (hY.2.2.2.2.2.2.2.2.2.2.2.2.2 _ hm)) (fun _ h => h) rfl hdg kk
theorem ptN_to (hC : CallFix p m c cc nL s args Ts RX1) (hin : ∀ w ∈ wsX00, w ∈ Ts) (hY : SyS G ad σ n τ j th o od s H locs) {k : Nat} (hk : k < n) {index : Nat} (hm : (index, "to") ∈ nstL) {x : Int32} (hdg : decode cc pc = .ok (.putfield index, 3)) (kk : ∀ (H1 : Heap) (locs1 : List Loc), SyS G ad (us σ 5 k x) n τ j th o od s H1 locs1 → W p l e R s m args below meth c H1 locs1 cells slots Q (F0 m (pc + 3) ls (rest))) : W p l e R s m args below meth c H locs cells slots Q (F0 m pc ls (.int x :: .ref (ad (3 * k + 23)) :: rest)) := by
  have hr : 3 * k + 23 < 3 * n + 23 := by omega
  have he := wl_get (ad := ad) (ct := ctS G ad σ n τ j th o od) hr
  rw [ct_L] at he
  refine va_putN (own := RX1) (ref := RX0) (C := RX0) (host := RX1) (T := TX0) (N := 12) (index := index) (ty := .int) hC.1 hC.2.1 hC.2.2.2.2 hin tyX0 tyX0_ok nmX0 hC.2.2.2.1 hY.1 hY.2.1 hY.2.2.1 hY.2.2.2.1 (3 * k + 23) he rfl 3 (by decide) (va_Nw.use rfl (hY.2.2.2.2.2.2.2.2.2.2.2.2.2 _ hm)) (fun _ h => h) rfl (by decide +kernel) rfl rfl (Nat.le_of_ble_eq_true rfl) hdg (fun H1 locs1 h1 h2 h3 => ?_)
  rw [wl_set hr] at h1 h2
  rw [upL5] at h1 h2
  exact kk H1 locs1 ⟨hY.1, h1, h2, h3, hY.2.2.2.2.1, hY.2.2.2.2.2⟩
theorem gtN_free (hC : CallFix p m c cc nL s args Ts RX1) (hin : ∀ w ∈ wsX00, w ∈ Ts) (hY : SyS G ad σ n τ j th o od s H locs) {k : Nat} (hk : k < n) {index : Nat} (hm : (index, "free") ∈ nstL) (hdg : decode cc pc = .ok (.getfield index, 3)) (kk : W p l e R s m args below meth c H locs cells slots Q (F0 m (pc + 3) ls (.int (σ 7 k) :: rest))) : W p l e R s m args below meth c H locs cells slots Q (F0 m pc ls (.ref (ad (3 * k + 23)) :: rest)) := by
  have he := wl_get (ad := ad) (ct := ctS G ad σ n τ j th o od) (show 3 * k + 23 < 3 * n + 23 by omega)
  rw [ct_L] at he
  exact va_getN (own := RX1) (ref := RX0) (C := RX0) (host := RX1) (T := TX0) (N := 12) (index := index) hC.1 hC.2.1 hC.2.2.2.2 hin hC.2.2.2.1 hY.1 hY.2.1 (3 * k + 23) he rfl 4 (by decide) (va_Nw.use rfl (hY.2.2.2.2.2.2.2.2.2.2.2.2.2 _ hm)) (fun _ h => h) rfl hdg kk
theorem ptN_free (hC : CallFix p m c cc nL s args Ts RX1) (hin : ∀ w ∈ wsX00, w ∈ Ts) (hY : SyS G ad σ n τ j th o od s H locs) {k : Nat} (hk : k < n) {index : Nat} (hm : (index, "free") ∈ nstL) {x : Int32} (hdg : decode cc pc = .ok (.putfield index, 3)) (kk : ∀ (H1 : Heap) (locs1 : List Loc), SyS G ad (us σ 7 k x) n τ j th o od s H1 locs1 → W p l e R s m args below meth c H1 locs1 cells slots Q (F0 m (pc + 3) ls (rest))) : W p l e R s m args below meth c H locs cells slots Q (F0 m pc ls (.int x :: .ref (ad (3 * k + 23)) :: rest)) := by
  have hr : 3 * k + 23 < 3 * n + 23 := by omega
  have he := wl_get (ad := ad) (ct := ctS G ad σ n τ j th o od) hr
  rw [ct_L] at he
  refine va_putN (own := RX1) (ref := RX0) (C := RX0) (host := RX1) (T := TX0) (N := 12) (index := index) (ty := .int) hC.1 hC.2.1 hC.2.2.2.2 hin tyX0 tyX0_ok nmX0 hC.2.2.2.1 hY.1 hY.2.1 hY.2.2.1 hY.2.2.2.1 (3 * k + 23) he rfl 4 (by decide) (va_Nw.use rfl (hY.2.2.2.2.2.2.2.2.2.2.2.2.2 _ hm)) (fun _ h => h) rfl (by decide +kernel) rfl rfl (Nat.le_of_ble_eq_true rfl) hdg (fun H1 locs1 h1 h2 h3 => ?_)
  rw [wl_set hr] at h1 h2
  rw [upL7] at h1 h2
  exact kk H1 locs1 ⟨hY.1, h1, h2, h3, hY.2.2.2.2.1, hY.2.2.2.2.2⟩
theorem gtN_every (hC : CallFix p m c cc nL s args Ts RX1) (hin : ∀ w ∈ wsX00, w ∈ Ts) (hY : SyS G ad σ n τ j th o od s H locs) {k : Nat} (hk : k < n) {index : Nat} (hm : (index, "every") ∈ nstL) (hdg : decode cc pc = .ok (.getfield index, 3)) (kk : W p l e R s m args below meth c H locs cells slots Q (F0 m (pc + 3) ls (.int (σ 8 k) :: rest))) : W p l e R s m args below meth c H locs cells slots Q (F0 m pc ls (.ref (ad (3 * k + 23)) :: rest)) := by
  have he := wl_get (ad := ad) (ct := ctS G ad σ n τ j th o od) (show 3 * k + 23 < 3 * n + 23 by omega)
  rw [ct_L] at he
  exact va_getN (own := RX1) (ref := RX0) (C := RX0) (host := RX1) (T := TX0) (N := 12) (index := index) hC.1 hC.2.1 hC.2.2.2.2 hin hC.2.2.2.1 hY.1 hY.2.1 (3 * k + 23) he rfl 5 (by decide) (va_Nw.use rfl (hY.2.2.2.2.2.2.2.2.2.2.2.2.2 _ hm)) (fun _ h => h) rfl hdg kk
theorem ptN_every (hC : CallFix p m c cc nL s args Ts RX1) (hin : ∀ w ∈ wsX00, w ∈ Ts) (hY : SyS G ad σ n τ j th o od s H locs) {k : Nat} (hk : k < n) {index : Nat} (hm : (index, "every") ∈ nstL) {x : Int32} (hdg : decode cc pc = .ok (.putfield index, 3)) (kk : ∀ (H1 : Heap) (locs1 : List Loc), SyS G ad (us σ 8 k x) n τ j th o od s H1 locs1 → W p l e R s m args below meth c H1 locs1 cells slots Q (F0 m (pc + 3) ls (rest))) : W p l e R s m args below meth c H locs cells slots Q (F0 m pc ls (.int x :: .ref (ad (3 * k + 23)) :: rest)) := by
  have hr : 3 * k + 23 < 3 * n + 23 := by omega
  have he := wl_get (ad := ad) (ct := ctS G ad σ n τ j th o od) hr
  rw [ct_L] at he
  refine va_putN (own := RX1) (ref := RX0) (C := RX0) (host := RX1) (T := TX0) (N := 12) (index := index) (ty := .int) hC.1 hC.2.1 hC.2.2.2.2 hin tyX0 tyX0_ok nmX0 hC.2.2.2.1 hY.1 hY.2.1 hY.2.2.1 hY.2.2.2.1 (3 * k + 23) he rfl 5 (by decide) (va_Nw.use rfl (hY.2.2.2.2.2.2.2.2.2.2.2.2.2 _ hm)) (fun _ h => h) rfl (by decide +kernel) rfl rfl (Nat.le_of_ble_eq_true rfl) hdg (fun H1 locs1 h1 h2 h3 => ?_)
  rw [wl_set hr] at h1 h2
  rw [upL8] at h1 h2
  exact kk H1 locs1 ⟨hY.1, h1, h2, h3, hY.2.2.2.2.1, hY.2.2.2.2.2⟩
theorem gtN_cap (hC : CallFix p m c cc nL s args Ts RX1) (hin : ∀ w ∈ wsX00, w ∈ Ts) (hY : SyS G ad σ n τ j th o od s H locs) {k : Nat} (hk : k < n) {index : Nat} (hm : (index, "cap") ∈ nstL) (hdg : decode cc pc = .ok (.getfield index, 3)) (kk : W p l e R s m args below meth c H locs cells slots Q (F0 m (pc + 3) ls (.int (σ 9 k) :: rest))) : W p l e R s m args below meth c H locs cells slots Q (F0 m pc ls (.ref (ad (3 * k + 23)) :: rest)) := by
  have he := wl_get (ad := ad) (ct := ctS G ad σ n τ j th o od) (show 3 * k + 23 < 3 * n + 23 by omega)
  rw [ct_L] at he
  exact va_getN (own := RX1) (ref := RX0) (C := RX0) (host := RX1) (T := TX0) (N := 12) (index := index) hC.1 hC.2.1 hC.2.2.2.2 hin hC.2.2.2.1 hY.1 hY.2.1 (3 * k + 23) he rfl 6 (by decide) (va_Nw.use rfl (hY.2.2.2.2.2.2.2.2.2.2.2.2.2 _ hm)) (fun _ h => h) rfl hdg kk
theorem ptN_cap (hC : CallFix p m c cc nL s args Ts RX1) (hin : ∀ w ∈ wsX00, w ∈ Ts) (hY : SyS G ad σ n τ j th o od s H locs) {k : Nat} (hk : k < n) {index : Nat} (hm : (index, "cap") ∈ nstL) {x : Int32} (hdg : decode cc pc = .ok (.putfield index, 3)) (kk : ∀ (H1 : Heap) (locs1 : List Loc), SyS G ad (us σ 9 k x) n τ j th o od s H1 locs1 → W p l e R s m args below meth c H1 locs1 cells slots Q (F0 m (pc + 3) ls (rest))) : W p l e R s m args below meth c H locs cells slots Q (F0 m pc ls (.int x :: .ref (ad (3 * k + 23)) :: rest)) := by
  have hr : 3 * k + 23 < 3 * n + 23 := by omega
  have he := wl_get (ad := ad) (ct := ctS G ad σ n τ j th o od) hr
  rw [ct_L] at he
  refine va_putN (own := RX1) (ref := RX0) (C := RX0) (host := RX1) (T := TX0) (N := 12) (index := index) (ty := .int) hC.1 hC.2.1 hC.2.2.2.2 hin tyX0 tyX0_ok nmX0 hC.2.2.2.1 hY.1 hY.2.1 hY.2.2.1 hY.2.2.2.1 (3 * k + 23) he rfl 6 (by decide) (va_Nw.use rfl (hY.2.2.2.2.2.2.2.2.2.2.2.2.2 _ hm)) (fun _ h => h) rfl (by decide +kernel) rfl rfl (Nat.le_of_ble_eq_true rfl) hdg (fun H1 locs1 h1 h2 h3 => ?_)
  rw [wl_set hr] at h1 h2
  rw [upL9] at h1 h2
  exact kk H1 locs1 ⟨hY.1, h1, h2, h3, hY.2.2.2.2.1, hY.2.2.2.2.2⟩
theorem gtN_prepaid (hC : CallFix p m c cc nL s args Ts RX1) (hin : ∀ w ∈ wsX00, w ∈ Ts) (hY : SyS G ad σ n τ j th o od s H locs) {k : Nat} (hk : k < n) {index : Nat} (hm : (index, "prepaid") ∈ nstL) (hdg : decode cc pc = .ok (.getfield index, 3)) (kk : W p l e R s m args below meth c H locs cells slots Q (F0 m (pc + 3) ls (.int (σ 10 k) :: rest))) : W p l e R s m args below meth c H locs cells slots Q (F0 m pc ls (.ref (ad (3 * k + 23)) :: rest)) := by
  have he := wl_get (ad := ad) (ct := ctS G ad σ n τ j th o od) (show 3 * k + 23 < 3 * n + 23 by omega)
  rw [ct_L] at he
  exact va_getN (own := RX1) (ref := RX0) (C := RX0) (host := RX1) (T := TX0) (N := 12) (index := index) hC.1 hC.2.1 hC.2.2.2.2 hin hC.2.2.2.1 hY.1 hY.2.1 (3 * k + 23) he rfl 7 (by decide) (va_Nw.use rfl (hY.2.2.2.2.2.2.2.2.2.2.2.2.2 _ hm)) (fun _ h => h) rfl hdg kk
theorem ptN_prepaid (hC : CallFix p m c cc nL s args Ts RX1) (hin : ∀ w ∈ wsX00, w ∈ Ts) (hY : SyS G ad σ n τ j th o od s H locs) {k : Nat} (hk : k < n) {index : Nat} (hm : (index, "prepaid") ∈ nstL) {x : Int32} (hdg : decode cc pc = .ok (.putfield index, 3)) (kk : ∀ (H1 : Heap) (locs1 : List Loc), SyS G ad (us σ 10 k x) n τ j th o od s H1 locs1 → W p l e R s m args below meth c H1 locs1 cells slots Q (F0 m (pc + 3) ls (rest))) : W p l e R s m args below meth c H locs cells slots Q (F0 m pc ls (.int x :: .ref (ad (3 * k + 23)) :: rest)) := by
  have hr : 3 * k + 23 < 3 * n + 23 := by omega
  have he := wl_get (ad := ad) (ct := ctS G ad σ n τ j th o od) hr
  rw [ct_L] at he
  refine va_putN (own := RX1) (ref := RX0) (C := RX0) (host := RX1) (T := TX0) (N := 12) (index := index) (ty := .int) hC.1 hC.2.1 hC.2.2.2.2 hin tyX0 tyX0_ok nmX0 hC.2.2.2.1 hY.1 hY.2.1 hY.2.2.1 hY.2.2.2.1 (3 * k + 23) he rfl 7 (by decide) (va_Nw.use rfl (hY.2.2.2.2.2.2.2.2.2.2.2.2.2 _ hm)) (fun _ h => h) rfl (by decide +kernel) rfl rfl (Nat.le_of_ble_eq_true rfl) hdg (fun H1 locs1 h1 h2 h3 => ?_)
  rw [wl_set hr] at h1 h2
  rw [upL10] at h1 h2
  exact kk H1 locs1 ⟨hY.1, h1, h2, h3, hY.2.2.2.2.1, hY.2.2.2.2.2⟩
theorem gtN_deposit (hC : CallFix p m c cc nL s args Ts RX1) (hin : ∀ w ∈ wsX00, w ∈ Ts) (hY : SyS G ad σ n τ j th o od s H locs) {k : Nat} (hk : k < n) {index : Nat} (hm : (index, "deposit") ∈ nstL) (hdg : decode cc pc = .ok (.getfield index, 3)) (kk : W p l e R s m args below meth c H locs cells slots Q (F0 m (pc + 3) ls (.int (σ 11 k) :: rest))) : W p l e R s m args below meth c H locs cells slots Q (F0 m pc ls (.ref (ad (3 * k + 23)) :: rest)) := by
  have he := wl_get (ad := ad) (ct := ctS G ad σ n τ j th o od) (show 3 * k + 23 < 3 * n + 23 by omega)
  rw [ct_L] at he
  exact va_getN (own := RX1) (ref := RX0) (C := RX0) (host := RX1) (T := TX0) (N := 12) (index := index) hC.1 hC.2.1 hC.2.2.2.2 hin hC.2.2.2.1 hY.1 hY.2.1 (3 * k + 23) he rfl 8 (by decide) (va_Nw.use rfl (hY.2.2.2.2.2.2.2.2.2.2.2.2.2 _ hm)) (fun _ h => h) rfl hdg kk
theorem ptN_deposit (hC : CallFix p m c cc nL s args Ts RX1) (hin : ∀ w ∈ wsX00, w ∈ Ts) (hY : SyS G ad σ n τ j th o od s H locs) {k : Nat} (hk : k < n) {index : Nat} (hm : (index, "deposit") ∈ nstL) {x : Int32} (hdg : decode cc pc = .ok (.putfield index, 3)) (kk : ∀ (H1 : Heap) (locs1 : List Loc), SyS G ad (us σ 11 k x) n τ j th o od s H1 locs1 → W p l e R s m args below meth c H1 locs1 cells slots Q (F0 m (pc + 3) ls (rest))) : W p l e R s m args below meth c H locs cells slots Q (F0 m pc ls (.int x :: .ref (ad (3 * k + 23)) :: rest)) := by
  have hr : 3 * k + 23 < 3 * n + 23 := by omega
  have he := wl_get (ad := ad) (ct := ctS G ad σ n τ j th o od) hr
  rw [ct_L] at he
  refine va_putN (own := RX1) (ref := RX0) (C := RX0) (host := RX1) (T := TX0) (N := 12) (index := index) (ty := .int) hC.1 hC.2.1 hC.2.2.2.2 hin tyX0 tyX0_ok nmX0 hC.2.2.2.1 hY.1 hY.2.1 hY.2.2.1 hY.2.2.2.1 (3 * k + 23) he rfl 8 (by decide) (va_Nw.use rfl (hY.2.2.2.2.2.2.2.2.2.2.2.2.2 _ hm)) (fun _ h => h) rfl (by decide +kernel) rfl rfl (Nat.le_of_ble_eq_true rfl) hdg (fun H1 locs1 h1 h2 h3 => ?_)
  rw [wl_set hr] at h1 h2
  rw [upL11] at h1 h2
  exact kk H1 locs1 ⟨hY.1, h1, h2, h3, hY.2.2.2.2.1, hY.2.2.2.2.2⟩
theorem gtN_steps (hC : CallFix p m c cc nL s args Ts RX1) (hin : ∀ w ∈ wsX00, w ∈ Ts) (hY : SyS G ad σ n τ j th o od s H locs) {k : Nat} (hk : k < n) {index : Nat} (hm : (index, "steps") ∈ nstL) (hdg : decode cc pc = .ok (.getfield index, 3)) (kk : W p l e R s m args below meth c H locs cells slots Q (F0 m (pc + 3) ls (.int (σ 12 k) :: rest))) : W p l e R s m args below meth c H locs cells slots Q (F0 m pc ls (.ref (ad (3 * k + 23)) :: rest)) := by
  have he := wl_get (ad := ad) (ct := ctS G ad σ n τ j th o od) (show 3 * k + 23 < 3 * n + 23 by omega)
  rw [ct_L] at he
  exact va_getN (own := RX1) (ref := RX0) (C := RX0) (host := RX1) (T := TX0) (N := 12) (index := index) hC.1 hC.2.1 hC.2.2.2.2 hin hC.2.2.2.1 hY.1 hY.2.1 (3 * k + 23) he rfl 11 (by decide) (va_Nw.use rfl (hY.2.2.2.2.2.2.2.2.2.2.2.2.2 _ hm)) (fun _ h => h) rfl hdg kk
theorem ptN_steps (hC : CallFix p m c cc nL s args Ts RX1) (hin : ∀ w ∈ wsX00, w ∈ Ts) (hY : SyS G ad σ n τ j th o od s H locs) {k : Nat} (hk : k < n) {index : Nat} (hm : (index, "steps") ∈ nstL) {x : Int32} (hdg : decode cc pc = .ok (.putfield index, 3)) (kk : ∀ (H1 : Heap) (locs1 : List Loc), SyS G ad (us σ 12 k x) n τ j th o od s H1 locs1 → W p l e R s m args below meth c H1 locs1 cells slots Q (F0 m (pc + 3) ls (rest))) : W p l e R s m args below meth c H locs cells slots Q (F0 m pc ls (.int x :: .ref (ad (3 * k + 23)) :: rest)) := by
  have hr : 3 * k + 23 < 3 * n + 23 := by omega
  have he := wl_get (ad := ad) (ct := ctS G ad σ n τ j th o od) hr
  rw [ct_L] at he
  refine va_putN (own := RX1) (ref := RX0) (C := RX0) (host := RX1) (T := TX0) (N := 12) (index := index) (ty := .int) hC.1 hC.2.1 hC.2.2.2.2 hin tyX0 tyX0_ok nmX0 hC.2.2.2.1 hY.1 hY.2.1 hY.2.2.1 hY.2.2.2.1 (3 * k + 23) he rfl 11 (by decide) (va_Nw.use rfl (hY.2.2.2.2.2.2.2.2.2.2.2.2.2 _ hm)) (fun _ h => h) rfl (by decide +kernel) rfl rfl (Nat.le_of_ble_eq_true rfl) hdg (fun H1 locs1 h1 h2 h3 => ?_)
  rw [wl_set hr] at h1 h2
  rw [upL12] at h1 h2
  exact kk H1 locs1 ⟨hY.1, h1, h2, h3, hY.2.2.2.2.1, hY.2.2.2.2.2⟩
end GS

/-! what the law's walk asks: no code is one of a throw; ends; shared tails -/
theorem cdArea_0 {p0 p1 : Int32} (h : 0 ≤ p0.toInt ∧ p0.toInt < 6) (h1 : 0 ≤ p1.toInt ∧ p1.toInt ≤ 999) : cdArea p0 p1 = 0 := by unfold cdArea; rw [if_pos h, if_pos h1]
theorem cdIndex_0 {p0 p1 : Int32} (h : 0 ≤ p0.toInt ∧ p0.toInt < 240) (h1 : 10 ≤ p1.toInt ∧ p1.toInt ≤ 999) : cdIndex p0 p1 = 0 := by unfold cdIndex; rw [if_pos h, if_pos h1]
theorem cdCost_0 {p0 p1 : Int32} (h : 0 ≤ p0.toInt ∧ p0.toInt < 20) (h1 : 0 ≤ p1.toInt ∧ p1.toInt ≤ 999999) : cdCost p0 p1 = 0 := by unfold cdCost; rw [if_pos h, if_pos h1]
theorem cdEnd_0 {σ : St} {n : Nat} {p0 p1 : Int32} (h : 0 ≤ p0.toInt ∧ p0.toInt < (n : Int)) (h1 : (σ 4 (ix p0)).toInt < p1.toInt ∧ p1.toInt < (σ 5 (ix p0)).toInt) : cdEnd σ n p0 p1 = 0 := by unfold cdEnd; rw [if_pos h, if_pos h1]
theorem cdStep_0 {σ : St} {n : Nat} {p0 p1 p2 : Int32} (h : 0 ≤ p0.toInt ∧ p0.toInt < (n : Int)) (h1 : (σ 4 (ix p0)).toInt < p1.toInt ∧ p1.toInt < (σ 5 (ix p0)).toInt) (h2 : 1 ≤ p2.toInt ∧ p2.toInt ≤ 99999) (h3 : plF σ (ix p0) p1 < 6) : cdStep σ n p0 p1 p2 = 0 := by unfold cdStep; rw [if_pos h, if_pos ⟨h1, h2⟩, if_pos h3]
theorem cdTerms_0 {n : Nat} {p0 p1 p2 : Int32} (h : 0 ≤ p0.toInt ∧ p0.toInt < (n : Int)) (h1 : 0 ≤ p1.toInt ∧ p1.toInt ≤ 720) (h2 : p2.toInt = 0 ∨ (30 ≤ p2.toInt ∧ p2.toInt ≤ 1800)) : cdTerms n p0 p1 p2 = 0 := by unfold cdTerms; rw [if_pos h, if_pos ⟨h1, h2⟩]
theorem cdServ_0 {n : Nat} {p0 p1 p2 : Int32} (h : 0 ≤ p0.toInt ∧ p0.toInt < (n : Int)) (h1 : -1 ≤ p1.toInt ∧ p1.toInt ≤ 999999) (h2 : 0 ≤ p2.toInt ∧ p2.toInt ≤ 9999) : cdServ n p0 p1 p2 = 0 := by unfold cdServ; rw [if_pos h, if_pos ⟨h1, h2⟩]
theorem cdTop_0 {σ : St} {n : Nat} {p0 p1 p2 : Int32} (h : 0 ≤ p0.toInt ∧ p0.toInt < (n : Int)) (h1 : (σ 4 (ix p0)).toInt ≤ p1.toInt ∧ p1.toInt < (σ 5 (ix p0)).toInt) (h2 : 1 ≤ p2.toInt ∧ p2.toInt ≤ 6) : cdTop σ n p0 p1 p2 = 0 := by unfold cdTop; rw [if_pos h, if_pos ⟨h1, h2⟩]
theorem cdDraw_0 {σ : St} {n : Nat} {p0 p1 : Int32} (h : 0 ≤ p0.toInt ∧ p0.toInt < (n : Int)) (h1 : 1 ≤ p1.toInt ∧ p1.toInt ≤ 999999) (h2 : ¬ (σ 11 (ix p0)).toInt < p1.toInt) : cdDraw σ n p0 p1 = 0 := by unfold cdDraw; rw [if_pos h, if_pos h1, if_neg h2]
theorem cdHeld_0 {n : Nat} {p0 : Int32} (h : 0 ≤ p0.toInt ∧ p0.toInt < (n : Int)) : cdHeld n p0 = 0 := if_pos h
theorem cdLOn_0 {p0 p1 : Int32} (h : 0 ≤ p0.toInt ∧ p0.toInt < 6) (h1 : 0 ≤ p1.toInt ∧ p1.toInt < 7200) : cdLOn p0 p1 = 0 := by unfold cdLOn; rw [if_pos h, if_pos h1]
theorem cdLX_0 {n : Nat} {N : Int} {p0 p1 : Int32} (h : 0 ≤ p0.toInt ∧ p0.toInt < (n : Int)) (h1 : 0 ≤ p1.toInt ∧ p1.toInt < N) : cdLX n N p0 p1 = 0 := by unfold cdLX; rw [if_pos h, if_pos h1]
theorem cdBills_0 {n : Nat} {p0 p1 p2 : Int32} (h : 0 ≤ p0.toInt ∧ p0.toInt < (n : Int)) (h1 : 0 ≤ p1.toInt ∧ p1.toInt < 240) (h2 : 0 ≤ p2.toInt ∧ p2.toInt < 240) (h3 : p1.toInt ≤ p2.toInt) : cdBills n p0 p1 p2 = 0 := by unfold cdBills; rw [if_pos h, if_pos ⟨h1, h2⟩, if_pos h3]
theorem cdUX_0 {M N : Int} {p0 p1 : Int32} (h : 0 ≤ p0.toInt ∧ p0.toInt < M) (h1 : 0 ≤ p1.toInt ∧ p1.toInt < N) : cdUX M N p0 p1 = 0 := by unfold cdUX; rw [if_pos h, if_pos h1]
theorem cdU1_0 {N : Int} {p0 : Int32} (h : 0 ≤ p0.toInt ∧ p0.toInt < N) : cdU1 N p0 = 0 := if_pos h
theorem lg_eq {x y : Int64} (h : x = y) : lg_cmp x y = 0 := by
  unfold lg_cmp
  subst h
  rw [if_neg (fun q => by rw [gt_iff_lt, Int64.lt_iff_toInt_lt] at q; omega), if_pos rfl]
theorem i_cn {q c : Int32} {C j : Nat} (hc : c.toInt = (C : Int)) (hq : q.toInt = (j : Int)) (hj : j < 1000 ∧ C < 1000) : (c + q).toInt = ((C + j : Nat) : Int) := by
  rw [i_add (by omega), hc, hq]
  omega
theorem us_self {σ : St} {a i : Nat} : us σ a i (σ a i) = σ := by
  funext b q
  rw [us_at]
  split
  · rename_i h; rw [h.1, h.2]
  · rfl
theorem m_1 {n : Nat} {q : Int32} (h : 0 ≤ q.toInt ∧ q.toInt < (n : Int)) : ix q < n := ix_lt h
abbrev QLs : Type := (Nat → Nat) × St × Nat × St
/-- the ends of the law's turns: true, and the rows hold the roll again -/
abbrev QL (G : GG) (ad : Nat → Nat) : Array Value → State → Outcome → State → Prop := va_Qi (fun r (x : QLs) => r = 1 ∧ (∀ q, q < 9 → x.1 q = ad q) ∧ LI x.2.1 x.2.2.1 x.2.2.2) (fun x t => Sz G (3 * x.2.2.1 + 9) x.1 (ctS G x.1 x.2.1 x.2.2.1 x.2.2.2) t) (gF G)
section GH
variable {p : Program} {l : Launch} {e : Env} {R : Room} {s : State} {m : MethodId} {args : Array Value} {below : List Frame} {meth : Method} {c : Code} {H : Heap} {locs : List Loc} {cells slots : Nat} {Q : State → Prop}
variable {cc : ByteArray} {nL : Nat} {Ts : List Cond} {own : String} {pc : Nat} {ls : Array Slot} {rest st0 st : List Value} {G : GG} {ad : Nat → Nat} {N : Nat} {ct : Nat → va_E} {mc ms : Nat} {a : Array Value}
theorem g_zretL (hC : CallFix p m c cc nL s args Ts own) (hr : meth.sig.returnType = some .boolean) (hlocks : meth.locks = false) {u : Nat → Nat} {σ : St} {n : Nat} {τ : St} (hY : SyS G u σ n τ s H locs) (hu : ∀ q, q < 9 → u q = ad q) (hLI : LI σ n τ) (hcm : cells ≤ mc ∧ slots ≤ ms) (hdg : decode cc pc = .ok (.ireturn, 1)) : W p l e R s m args below meth c H locs cells slots (MQ below (QL G ad) args s mc ms (gF G)) (F0 m pc ls [.int 1]) :=
  W.widen hcm.1 hcm.2 (W.zret hC.1 hC.2.1 hr (by decide) (fun t ht hW => ⟨⟨1, (u, σ, n, τ), rfl, ⟨rfl, hu, hLI⟩, hY.post ht hW.alike⟩, hY.2.2.2.1.F ht⟩) hY.2.2.2.1.2.2 hdg hlocks)
theorem gn_callL (hY : Sy G N ad ct s H locs) (hr : va_Run p l e R s m args below meth c H locs cells slots mc ms (F0 m pc ls st0) rest (QL G ad a) (gF G))
    (kk : ∀ (u : Nat → Nat) (σ : St) (n : Nat) (τ : St) (H1 : Heap) (locs1 : List Loc), (∀ q, q < 9 → u q = ad q) → LI σ n τ → SyS G u σ n τ s H1 locs1 → W p l e R s m args below meth c H1 locs1 (cells + mc) (slots + ms) Q (F0 m (pc + 3) ls (.int 1 :: rest))) : W p l e R s m args below meth c H locs cells slots Q (F0 m pc ls st0) :=
  va_calli hr hY.2.2.2.1 (fun _ _ h => h) (fun _ h => h) (fun r x t H1 locs1 ht hvm hp hz _ _ hS => by
    obtain ⟨rfl, h1, h2⟩ := hp
    exact kk x.1 x.2.1 x.2.2.1 x.2.2.2 H1 locs1 h1 h2 (hY.back hz ht hvm hS))
/-- two ways meet at pc2 -/
theorem w_cut {X : Type} (pc2 : Nat) (P : X → Heap → List Loc → Array Slot → Prop) (h : (∀ (x : X) (H' : Heap) (locs' : List Loc) (ls' : Array Slot), P x H' locs' ls' → W p l e R s m args below meth c H' locs' cells slots Q (F0 m pc2 ls' [])) → W p l e R s m args below meth c H locs cells slots Q (F0 m pc ls st)) (k : ∀ (x : X) (H' : Heap) (locs' : List Loc) (ls' : Array Slot), P x H' locs' ls' → W p l e R s m args below meth c H' locs' cells slots Q (F0 m pc2 ls' [])) : W p l e R s m args below meth c H locs cells slots Q (F0 m pc ls st) := h k
end GH

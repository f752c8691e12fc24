/-! calls of the class that return, as the law makes them; rows of the law; loops that make cells -/
theorem exC_0 {c : Int32} (h : c = 0) : ∀ E, ¬ exC E c := by
  intro E q
  rcases q with ⟨-, q⟩ | ⟨-, q⟩ | ⟨-, q⟩ <;> rw [h] at q <;> exact absurd q (by decide)
section GN
variable {p : Program} {l : Launch} {e : Env} {R : Room} {s : State} {m : MethodId} {args : Array Value} {below : List Frame} {meth : Method} {c : Code} {H : Heap} {locs : List Loc} {cells slots : Nat} {Q : State → Prop}
variable {cc : ByteArray} {nL : Nat} {Ts : List Cond} {own : String} {pc : Nat} {ls : Array Slot} {rest st0 : List Value} {G : GG} {N N' N2 : Nat} {ad ad' : Nat → Nat} {ct ct' : Nat → va_E} {mc ms : Nat} {a : Array Value} {ex : String → Prop}
theorem gn_calli {post : Int32 → Prop} (hY : Sy G N ad ct s H locs) (hr : vx_Run p l e R s m args below meth c H locs cells slots mc ms (F0 m pc ls st0) rest (Qi G N' ad' ct' post a) (XG G N ad ct ex) (gF G)) (hno : ∀ E, ¬ ex E)
    (kk : ∀ (r : Int32) (H1 : Heap) (locs1 : List Loc), post r → Sy G N' ad' ct' s H1 locs1 → W p l e R s m args below meth c H1 locs1 (cells + mc) (slots + ms) Q (F0 m (pc + 3) ls (.int r :: rest))) : W p l e R s m args below meth c H locs cells slots Q (F0 m pc ls st0) :=
  vx_calli hr hY.2.2.2.1 (fun _ _ h => h) (fun _ h => h) (fun _ _ h => h) (fun E ce q9 _ t H1 locs1 ht hvm _ hb _ _ hS hce hcv hcl => absurd hb.1 (hno E)) (fun r _ t H1 locs1 ht hvm hp hz _ _ hS => kk r H1 locs1 hp (hY.back hz ht hvm hS))
theorem gn_calll {post : Int64 → Prop} (hY : Sy G N ad ct s H locs) (hr : vx_Run p l e R s m args below meth c H locs cells slots mc ms (F0 m pc ls st0) rest (Ql G N' ad' ct' post a) (XG G N ad ct ex) (gF G)) (hno : ∀ E, ¬ ex E)
    (kk : ∀ (r : Int64) (H1 : Heap) (locs1 : List Loc), post r → Sy G N' ad' ct' s H1 locs1 → W p l e R s m args below meth c H1 locs1 (cells + mc) (slots + ms) Q (F0 m (pc + 3) ls (.long r :: rest))) : W p l e R s m args below meth c H locs cells slots Q (F0 m pc ls st0) :=
  vx_calll hr hY.2.2.2.1 (fun _ _ h => h) (fun _ h => h) (fun _ _ h => h) (fun E ce q9 _ t H1 locs1 ht hvm _ hb _ _ hS hce hcv hcl => absurd hb.1 (hno E)) (fun r _ t H1 locs1 ht hvm hp hz _ _ hS => kk r H1 locs1 hp (hY.back hz ht hvm hS))
theorem gn_calld {post : UInt64 → Prop} (hY : Sy G N ad ct s H locs) (hr : vx_Run p l e R s m args below meth c H locs cells slots mc ms (F0 m pc ls st0) rest (Qd G N' ad' ct' post a) (XG G N ad ct ex) (gF G)) (hno : ∀ E, ¬ ex E)
    (kk : ∀ (r : UInt64) (H1 : Heap) (locs1 : List Loc), post r → Sy G N' ad' ct' s H1 locs1 → W p l e R s m args below meth c H1 locs1 (cells + mc) (slots + ms) Q (F0 m (pc + 3) ls (.double r :: rest))) : W p l e R s m args below meth c H locs cells slots Q (F0 m pc ls st0) :=
  vx_calld hr hY.2.2.2.1 (fun _ _ h => h) (fun _ h => h) (fun _ _ h => h) (fun E ce q9 _ t H1 locs1 ht hvm _ hb _ _ hS hce hcv hcl => absurd hb.1 (hno E)) (fun r _ t H1 locs1 ht hvm hp hz _ _ hS => kk r H1 locs1 hp (hY.back hz ht hvm hS))
theorem gn_callv {post : Prop} (hY : Sy G N ad ct s H locs) (hr : vx_Run p l e R s m args below meth c H locs cells slots mc ms (F0 m pc ls st0) rest (Qv G N' ad' ct' post a) (XG G N ad ct ex) (gF G)) (hno : ∀ E, ¬ ex E)
    (kk : ∀ (H1 : Heap) (locs1 : List Loc), post → Sy G N' ad' ct' s H1 locs1 → W p l e R s m args below meth c H1 locs1 (cells + mc) (slots + ms) Q (F0 m (pc + 3) ls rest)) : W p l e R s m args below meth c H locs cells slots Q (F0 m pc ls st0) :=
  vx_callv hr hY.2.2.2.1 (fun _ _ h => h) (fun _ h => h) (fun _ _ h => h) (fun E ce q9 _ t H1 locs1 ht hvm _ hb _ _ hS hce hcv hcl => absurd hb.1 (hno E)) (fun _ t H1 locs1 ht hvm hp hz _ _ hS => kk H1 locs1 hp (hY.back hz ht hvm hS))
theorem gn_callU {post : Int32 → (Nat → Nat) → Prop} {ct2 : (Nat → Nat) → Nat → va_E} (hY : Sy G N ad ct s H locs) (hr : vx_Run p l e R s m args below meth c H locs cells slots mc ms (F0 m pc ls st0) rest (va_Qi post (fun u t => Sz G N2 u (ct2 u) t) (gF G) a) (XG G N ad ct ex) (gF G)) (hno : ∀ E, ¬ ex E)
    (kk : ∀ (r : Int32) (u : Nat → Nat) (H1 : Heap) (locs1 : List Loc), post r u → Sy G N2 u (ct2 u) s H1 locs1 → W p l e R s m args below meth c H1 locs1 (cells + mc) (slots + ms) Q (F0 m (pc + 3) ls (.int r :: rest))) : W p l e R s m args below meth c H locs cells slots Q (F0 m pc ls st0) :=
  vx_calliU hY hr (fun E _ _ _ _ hex _ _ _ _ => absurd hex (hno E)) kk
/-- a value under another name -/
theorem g_top {x y : Int32} (h : x = y) (k : W p l e R s m args below meth c H locs cells slots Q (F0 m pc ls (.int y :: rest))) : W p l e R s m args below meth c H locs cells slots Q (F0 m pc ls (.int x :: rest)) := by rw [h]; exact k
end GN
section GLC
variable {p : Program} {l : Launch} {e : Env} {R : Room} {s : State} {m : MethodId} {args : Array Value} {below : List Frame} {meth : Method} {c : Code} {Q : State → Prop} {pc : Nat}
/-- (w_loop, where a turn makes up to dc cells of ds slots) -/
theorem w_loopC {X : Type} (I : Nat → X → Heap → List Loc → Array Slot → Prop) (B dc ds c0 s0 : Nat)
    (hs : ∀ (i : Nat) (x : X) (H : Heap) (locs : List Loc) (ls : Array Slot), I i x H locs ls → (∀ (x' : X) (H' : Heap) (locs' : List Loc) (ls' : Array Slot), I (i + 1) x' H' locs' ls' → W p l e R s m args below meth c H' locs' (c0 + (i + 1) * dc) (s0 + (i + 1) * ds) Q (F0 m pc ls' [])) → W p l e R s m args below meth c H locs (c0 + i * dc) (s0 + i * ds) Q (F0 m pc ls []))
    (hb : ∀ (i : Nat) (x : X) (H : Heap) (locs : List Loc) (ls : Array Slot), I i x H locs ls → i ≤ B) (x : X) {H : Heap} {locs : List Loc} {ls : Array Slot} (h0 : I 0 x H locs ls) : W p l e R s m args below meth c H locs c0 s0 Q (F0 m pc ls []) := by
  have key : ∀ (f i : Nat) (x : X) (H : Heap) (locs : List Loc) (ls : Array Slot), B < i + f → I i x H locs ls → W p l e R s m args below meth c H locs (c0 + i * dc) (s0 + i * ds) Q (F0 m pc ls []) := by
    intro f
    induction f with
    | zero => intro i x H locs ls hf hI; have := hb i x H locs ls hI; omega
    | succ f ih => intro i x H locs ls hf hI; exact hs i x H locs ls hI (fun x' H' locs' ls' hI' => ih (i + 1) x' H' locs' ls' (by omega) hI')
  have h := key (B + 1) 0 x H locs ls (by omega) h0
  rw [Nat.zero_mul, Nat.zero_mul] at h
  exact h
end GLC
/-! numbers -/
def rmI (x y : Int32) : Int32 := x - x / y * y
theorem i_addR {x y : Int32} {X Y : Int} (hx : x.toInt = X) (hy : y.toInt = Y) (h : -2147483648 ≤ X + Y ∧ X + Y < 2147483648) : (x + y).toInt = X + Y := by
  subst hx hy; exact i_add h
theorem i_subR {x y : Int32} {X Y : Int} (hx : x.toInt = X) (hy : y.toInt = Y) (h : -2147483648 ≤ X - Y ∧ X - Y < 2147483648) : (x - y).toInt = X - Y := by
  subst hx hy; exact i_sub h
theorem i_mulR {x y : Int32} {X Y : Int} (hx : x.toInt = X) (hy : y.toInt = Y) (h : -2147483648 ≤ X * Y ∧ X * Y < 2147483648) : (x * y).toInt = X * Y := by
  subst hx hy; exact i_mul h
theorem i_divR {x y : Int32} {X Y : Int} (hx : x.toInt = X) (hy : y.toInt = Y) (h : 0 ≤ X ∧ 0 < Y) : (x / y).toInt = X / Y := by
  subst hx hy
  rw [i_div (by omega)]
  exact Int.tdiv_eq_ediv_of_nonneg h.1
theorem i_rmR {x y : Int32} {X Y : Int} (hx : x.toInt = X) (hy : y.toInt = Y) (h : 0 ≤ X ∧ 0 < Y) : (rmI x y).toInt = X % Y := by
  subst hx hy
  have hd := i_divR (x := x) (y := y) rfl rfl h
  have hb := i_bnd x
  have h1 : x.toInt / y.toInt * y.toInt ≤ x.toInt := Int.ediv_mul_le _ (by omega)
  have h2 : 0 ≤ x.toInt / y.toInt * y.toInt := Int.mul_nonneg (Int.ediv_nonneg h.1 (by omega)) (by omega)
  have hm : (x / y * y).toInt = x.toInt / y.toInt * y.toInt := by rw [i_mul (by rw [hd]; omega), hd]
  unfold rmI
  rw [i_sub (by rw [hm]; omega), hm, Int.emod_def, Int.mul_comm y.toInt]
theorem i_rmB {x y : Int32} (h : 0 ≤ x.toInt ∧ 0 < y.toInt) : 0 ≤ (rmI x y).toInt ∧ (rmI x y).toInt < y.toInt := by
  rw [i_rmR rfl rfl h]
  exact ⟨Int.emod_nonneg _ (by omega), Int.emod_lt_of_pos _ h.2⟩
theorem i_ixc {q c : Int32} {C : Nat} (hc : c.toInt = (C : Int)) (hq : 0 ≤ q.toInt ∧ q.toInt < 1000) (hC : C < 1000) : (c + q).toInt = ((C + ix q : Nat) : Int) := by
  have h := ix_toInt hq.1
  rw [i_add (by omega), hc]
  omega
theorem ix_of {q : Int32} (hq : 0 ≤ q.toInt) : q.toInt = ((ix q : Nat) : Int) := (ix_toInt hq).symm
section GM
variable {p : Program} {l : Launch} {e : Env} {R : Room} {s : State} {m : MethodId} {args : Array Value} {below : List Frame} {meth : Method} {c : Code} {H : Heap} {locs : List Loc} {cells slots : Nat} {Q : State → Prop}
variable {cc : ByteArray} {nL : Nat} {Ts : List Cond} {own : String} {pc : Nat} {ls : Array Slot} {rest st0 : List Value} {G : GG} {ad : Nat → Nat} {σ : St} {n : Nat} {τ : St}
theorem g_irem (hexec : p.tables.exec = Jvm.exec) (hb : c.code = cc) {x y : Int32} (hdg : decode cc pc = .ok (.irem, 1)) (hne : ¬ y = 0) (k : W p l e R s m args below meth c H locs cells slots Q (F0 m (pc + 1) ls (.int (rmI x y) :: rest))) : W p l e R s m args below meth c H locs cells slots Q (F0 m pc ls (.int y :: .int x :: rest)) := lv_irem hexec hb hdg hne k
theorem rdN0 (hC : CallFix p m c cc nL s args Ts own) (hY : SyS G ad σ n τ s H locs) {i : Int32} (j : Nat) (hj : i.toInt = (j : Int)) (hl : j < 60) {v : Int32} (hv : τ 0 j = v) (hdg : decode cc pc = .ok (.iaload, 1)) (kk : W p l e R s m args below meth c H locs cells slots Q (F0 m (pc + 1) ls (.int v :: rest))) : W p l e R s m args below meth c H locs cells slots Q (F0 m pc ls (.int i :: .ref (ad 5) :: rest)) :=
  rdM0 hC hY ⟨by omega, by omega⟩ hdg (by rw [i_ix hj, hv]; exact kk)
theorem wrN0 (hC : CallFix p m c cc nL s args Ts own) (hY : SyS G ad σ n τ s H locs) {i x : Int32} (j : Nat) (hj : i.toInt = (j : Int)) (hl : j < 60) (hdg : decode cc pc = .ok (.iastore, 1)) (kk : ∀ (H1 : Heap) (locs1 : List Loc), SyS G ad σ n (us τ 0 j x) s H1 locs1 → W p l e R s m args below meth c H1 locs1 cells slots Q (F0 m (pc + 1) ls rest)) : W p l e R s m args below meth c H locs cells slots Q (F0 m pc ls (.int x :: .int i :: .ref (ad 5) :: rest)) :=
  wrM0 hC hY ⟨by omega, by omega⟩ hdg (fun H1 locs1 h => kk H1 locs1 (by rw [i_ix hj] at h; exact h))
theorem rdN1 (hC : CallFix p m c cc nL s args Ts own) (hY : SyS G ad σ n τ s H locs) {i : Int32} (j : Nat) (hj : i.toInt = (j : Int)) (hl : j < 7) {v : Int32} (hv : τ 1 j = v) (hdg : decode cc pc = .ok (.iaload, 1)) (kk : W p l e R s m args below meth c H locs cells slots Q (F0 m (pc + 1) ls (.int v :: rest))) : W p l e R s m args below meth c H locs cells slots Q (F0 m pc ls (.int i :: .ref (ad 6) :: rest)) :=
  rdM1 hC hY ⟨by omega, by omega⟩ hdg (by rw [i_ix hj, hv]; exact kk)
theorem wrN1 (hC : CallFix p m c cc nL s args Ts own) (hY : SyS G ad σ n τ s H locs) {i x : Int32} (j : Nat) (hj : i.toInt = (j : Int)) (hl : j < 7) (hdg : decode cc pc = .ok (.iastore, 1)) (kk : ∀ (H1 : Heap) (locs1 : List Loc), SyS G ad σ n (us τ 1 j x) s H1 locs1 → W p l e R s m args below meth c H1 locs1 cells slots Q (F0 m (pc + 1) ls rest)) : W p l e R s m args below meth c H locs cells slots Q (F0 m pc ls (.int x :: .int i :: .ref (ad 6) :: rest)) :=
  wrM1 hC hY ⟨by omega, by omega⟩ hdg (fun H1 locs1 h => kk H1 locs1 (by rw [i_ix hj] at h; exact h))
theorem rdN2 (hC : CallFix p m c cc nL s args Ts own) (hY : SyS G ad σ n τ s H locs) {i : Int32} (j : Nat) (hj : i.toInt = (j : Int)) (hl : j < 12) {v : Int32} (hv : τ 2 j = v) (hdg : decode cc pc = .ok (.iaload, 1)) (kk : W p l e R s m args below meth c H locs cells slots Q (F0 m (pc + 1) ls (.int v :: rest))) : W p l e R s m args below meth c H locs cells slots Q (F0 m pc ls (.int i :: .ref (ad 7) :: rest)) :=
  rdM2 hC hY ⟨by omega, by omega⟩ hdg (by rw [i_ix hj, hv]; exact kk)
theorem wrN2 (hC : CallFix p m c cc nL s args Ts own) (hY : SyS G ad σ n τ s H locs) {i x : Int32} (j : Nat) (hj : i.toInt = (j : Int)) (hl : j < 12) (hdg : decode cc pc = .ok (.iastore, 1)) (kk : ∀ (H1 : Heap) (locs1 : List Loc), SyS G ad σ n (us τ 2 j x) s H1 locs1 → W p l e R s m args below meth c H1 locs1 cells slots Q (F0 m (pc + 1) ls rest)) : W p l e R s m args below meth c H locs cells slots Q (F0 m pc ls (.int x :: .int i :: .ref (ad 7) :: rest)) :=
  wrM2 hC hY ⟨by omega, by omega⟩ hdg (fun H1 locs1 h => kk H1 locs1 (by rw [i_ix hj] at h; exact h))
theorem rdN3 (hC : CallFix p m c cc nL s args Ts own) (hY : SyS G ad σ n τ s H locs) {i : Int32} (j : Nat) (hj : i.toInt = (j : Int)) (hl : j < 36) {v : Int32} (hv : τ 3 j = v) (hdg : decode cc pc = .ok (.iaload, 1)) (kk : W p l e R s m args below meth c H locs cells slots Q (F0 m (pc + 1) ls (.int v :: rest))) : W p l e R s m args below meth c H locs cells slots Q (F0 m pc ls (.int i :: .ref (ad 8) :: rest)) :=
  rdM3 hC hY ⟨by omega, by omega⟩ hdg (by rw [i_ix hj, hv]; exact kk)
theorem wrN3 (hC : CallFix p m c cc nL s args Ts own) (hY : SyS G ad σ n τ s H locs) {i x : Int32} (j : Nat) (hj : i.toInt = (j : Int)) (hl : j < 36) (hdg : decode cc pc = .ok (.iastore, 1)) (kk : ∀ (H1 : Heap) (locs1 : List Loc), SyS G ad σ n (us τ 3 j x) s H1 locs1 → W p l e R s m args below meth c H1 locs1 cells slots Q (F0 m (pc + 1) ls rest)) : W p l e R s m args below meth c H locs cells slots Q (F0 m pc ls (.int x :: .int i :: .ref (ad 8) :: rest)) :=
  wrM3 hC hY ⟨by omega, by omega⟩ hdg (fun H1 locs1 h => kk H1 locs1 (by rw [i_ix hj] at h; exact h))
end GM

/-! my own layer over the kit: one world for the whole system, cells by their roles -/
abbrev St : Type := Nat → Nat → Int32
abbrev GG : Type := Nat × va_G × (Nat → ClassId)
abbrev xI : String := "java/lang/IndexOutOfBoundsException"
abbrev xA : String := "java/lang/IllegalArgumentException"
abbrev xS : String := "java/lang/IllegalStateException"
abbrev xnm : List String := ["java/lang/RuntimeException", "java/lang/Exception"]
abbrev xstr : List (Nat × String) := [(41, "no more leases"), (50, "the unit is let on one of these days"), (69, "no more steps"), (99, "less is held"), (128, "no such number"), (133, "out of range"), (136, "no such lease")]
abbrev nstL : List (Nat × String) := [(101, "unit"), (59, "from"), (62, "to"), (71, "steps"), (74, "free"), (77, "every"), (80, "cap"), (83, "prepaid"), (90, "deposit")]
def us (σ : St) (a i : Nat) (x : Int32) : St := fun b => if b = a then upd (σ b) i x else σ b
def wl (N : Nat) (ad : Nat → Nat) (ct : Nat → va_E) : va_W := (List.range N).map fun r => (ad r, ct r)
theorem wl_get {N r : Nat} {ad : Nat → Nat} {ct : Nat → va_E} (h : r < N) : (wl N ad ct)[r]? = some (ad r, ct r) := by simp [wl, h]
theorem wl_inv {N k : Nat} {ad : Nat → Nat} {ct : Nat → va_E} {q : Nat × va_E} (h : (wl N ad ct)[k]? = some q) : k < N ∧ q = (ad k, ct k) := by
  simp only [wl, List.getElem?_map] at h
  by_cases hk : k < N
  · rw [List.getElem?_range hk] at h
    exact ⟨hk, (Option.some.inj h).symm⟩
  · rw [List.getElem?_eq_none (by simpa using Nat.not_lt.mp hk)] at h
    cases h
theorem wl_ext {N : Nat} {ad ad' : Nat → Nat} {ct ct' : Nat → va_E} (h1 : ∀ r, r < N → ad r = ad' r) (h2 : ∀ r, r < N → ct r = ct' r) : wl N ad ct = wl N ad' ct' := by
  unfold wl
  refine List.map_congr_left (fun r hr => ?_)
  have := List.mem_range.mp hr
  rw [h1 r this, h2 r this]
theorem wl_set {N r : Nat} {ad : Nat → Nat} {ct : Nat → va_E} {e : va_E} (h : r < N) : (wl N ad ct).set r (ad r, e) = wl N ad (va_up ct r e) := by
  apply List.ext_getElem?
  intro i
  by_cases hi : i < N
  · rw [wl_get hi]
    by_cases hr : r = i
    · subst hr
      rw [List.getElem?_set_self (by simpa [wl] using hi), va_up_self]
    · rw [List.getElem?_set_ne hr, wl_get hi, va_up_ne _ _ (fun h => hr h.symm)]
  · rw [List.getElem?_eq_none (by simpa [wl] using Nat.not_lt.mp hi), List.getElem?_eq_none (by simpa [wl] using Nat.not_lt.mp hi)]
theorem wl_push {N q : Nat} {ad : Nat → Nat} {ct : Nat → va_E} {e : va_E} : wl N ad ct ++ [(q, e)] = wl (N + 1) (va_up ad N q) (va_up ct N e) := by
  unfold wl
  rw [List.range_succ, List.map_append]
  congr 1
  · refine List.map_congr_left (fun r hr => ?_)
    have h := Nat.ne_of_lt (List.mem_range.mp hr)
    rw [va_up_ne _ _ h, va_up_ne _ _ h]
  · simp [va_up_self]
/-- what a method that may throw asks of the start -/
def Xs (lo : Nat) (U : State) : Prop := (va_Nw (.castable xI xI) U ∧ va_Nw (.castable xA xA) U ∧ va_Nw (.castable xS xS) U) ∧ True ∧ vx_Zq Bundle.tN "UNASSIGNED_STACK" Bundle.steD (fun q => lo ≤ q) U U.heap ∧ vx_Zq Bundle.tN "SUPPRESSED_SENTINEL" Bundle.listD (fun q => lo ≤ q) U U.heap ∧ (∀ q ∈ xstr, ∃ sa : Nat, vk_R "Voidrent" q.1 q.2 sa U) ∧ va_Nw (.declares (Bundle.initS "java/lang/RuntimeException")) U ∧ va_Nw (.declares (Bundle.initS "java/lang/Exception")) U ∧ va_Nw (.declares (Bundle.initS Bundle.tN)) U ∧ ∀ q ∈ nstL, va_Nw (.fieldLinkNest "Voidrent" q.1 "Voidrent$Lease" q.2 "I" "Voidrent") U
theorem Xs.go {lo : Nat} {s U : State} {H : Heap} {locs : List Loc} (h : Xs lo s) (hS : va_S (fun q => lo ≤ q) s.heap H locs) (hU : U.heap = H) (hW : s.WarmedH U.vm) : Xs lo U := by
  obtain ⟨⟨a1, a2, a3⟩, -, c1, c2, d, f1, f2, f3, f4⟩ := h
  refine ⟨⟨va_Nw.warmC hW a1, va_Nw.warmC hW a2, va_Nw.warmC hW a3⟩, trivial, ?_, ?_, fun q hq => ?_, va_Nw.warmD hW f1, va_Nw.warmD hW f2, va_Nw.warmD hW f3, fun q hq => va_Nw.warmF hW (f4 q hq)⟩
  · rw [hU]; exact vx_Zq.moved hW.alike (c1.kept hS.2.1)
  · rw [hU]; exact vx_Zq.moved hW.alike (c2.kept hS.2.1)
  · obtain ⟨sa, h⟩ := d q hq
    exact ⟨sa, vk_R.warm hW h⟩
abbrev tyL (G : GG) : List (ClassId × FieldType) := [(G.2.2 0, .int), (G.2.2 1, .object RX0)]
abbrev gF (G : GG) : Nat → Prop := fun q => G.1 ≤ q
/-- the walk's state: tables, world, frame, start -/
def Sy (G : GG) (N : Nat) (ad : Nat → Nat) (ct : Nat → va_E) (s : State) (H : Heap) (locs : List Loc) : Prop := va_K G.2.1 vwCl (tyL G) s ∧ va_P G.2.1 vwCl (wl N ad ct) H ∧ va_D (gF G) (wl N ad ct) ∧ va_S (gF G) s.heap H locs ∧ G.1 ≤ s.heap.size ∧ Xs G.1 s
def Sz (G : GG) (N : Nat) (ad : Nat → Nat) (ct : Nat → va_E) (t : State) : Prop := va_K G.2.1 vwCl (tyL G) t ∧ va_P G.2.1 vwCl (wl N ad ct) t.heap ∧ va_D (gF G) (wl N ad ct)
theorem Sy.pre {G : GG} {N : Nat} {ad : Nat → Nat} {ct : Nat → va_E} {s U : State} {H : Heap} {locs : List Loc} (h : Sy G N ad ct s H locs) (hU : U.heap = H) (hW : s.WarmedH U.vm) : Sy G N ad ct U U.heap [] := by
  obtain ⟨hK, hP, hD, hS, hlo, hX⟩ := h
  exact ⟨va_K.moved hW.alike hK, by rw [hU]; exact hP, hD, va_S.rf, by rw [hU]; exact Nat.le_trans hlo hS.1, hX.go hS hU hW⟩
theorem Sy.blind {G : GG} {N : Nat} {ad : Nat → Nat} {ct : Nat → va_E} {av : List Value} : FrameBlind (va_Pc av (fun U => Sy G N ad ct U U.heap [])) := by
  intro a U g mk h
  exact ⟨h.1, h.2.pre rfl (State.WarmedH.refl U)⟩
theorem Sy.post {G : GG} {N : Nat} {ad : Nat → Nat} {ct : Nat → va_E} {s t : State} {H : Heap} {locs : List Loc} (h : Sy G N ad ct s H locs) (ht : t.heap = H) (hW : s.vm.Alike t.vm) : Sz G N ad ct t := by
  obtain ⟨hK, hP, hD, hS, hlo, hX⟩ := h
  exact ⟨va_K.moved hW hK, by rw [ht]; exact hP, hD⟩
theorem Sy.back {G : GG} {N N' : Nat} {ad ad' : Nat → Nat} {ct ct' : Nat → va_E} {s t : State} {H H1 : Heap} {locs locs1 : List Loc} (h : Sy G N ad ct s H locs) (hz : Sz G N' ad' ct' t) (ht : t.heap = H1) (hW : s.vm.Alike t.vm) (hS : va_S (gF G) s.heap H1 locs1) : Sy G N' ad' ct' s H1 locs1 := by
  obtain ⟨hK, hP, hD, -, hlo, hX⟩ := h
  obtain ⟨-, hP1, hD1⟩ := hz
  exact ⟨hK, by rw [← ht]; exact hP1, hD1, hS, hlo, hX⟩
theorem Sy.ctE {G : GG} {N : Nat} {ad : Nat → Nat} {ct ct' : Nat → va_E} {s : State} {H : Heap} {locs : List Loc} (h : Sy G N ad ct s H locs) (he : ∀ r, r < N → ct r = ct' r) : Sy G N ad ct' s H locs := by
  unfold Sy at h ⊢
  rw [← wl_ext (fun r _ => rfl) he]
  exact h
theorem Sy.adE {G : GG} {N : Nat} {ad ad' : Nat → Nat} {ct ct' : Nat → va_E} {s : State} {H : Heap} {locs : List Loc} (h : Sy G N ad ct s H locs) (h1 : ∀ r, r < N → ad r = ad' r) (he : ∀ r, r < N → ct r = ct' r) : Sy G N ad' ct' s H locs := by
  unfold Sy at h ⊢
  rw [← wl_ext h1 he]
  exact h
theorem Sy.inj {G : GG} {N : Nat} {ad : Nat → Nat} {ct : Nat → va_E} {s : State} {H : Heap} {locs : List Loc} (h : Sy G N ad ct s H locs) {i j : Nat} (hi : i < N) (hj : j < N) (e : ad i = ad j) : i = j := h.2.2.1.1 i j _ _ (wl_get hi) (wl_get hj) e
section GB
variable {p : Program} {l : Launch} {e : Env} {R : Room} {s : State} {m : MethodId} {args : Array Value} {below : List Frame} {meth : Method} {c : Code} {H : Heap} {locs : List Loc} {cells slots : Nat} {Q : State → Prop}
variable {cc : ByteArray} {nL : Nat} {Ts : List Cond} {own : String} {pc : Nat} {ls : Array Slot} {rest st0 : List Value} {G : GG} {N N' : Nat} {ad ad' : Nat → Nat} {ct ct' : Nat → va_E} {mc ms : Nat}
theorem g_get (hC : CallFix p m c cc nL s args Ts own) (hY : Sy G N ad ct s H locs) (r : Nat) (hr : r < N) {ci : Nat} {fs : List Value} (hct : ct r = .inr (ci, fs)) {q : vw_C} (hc : vwCl[ci]? = some q) (hin : ∀ w ∈ u_ws q.1 q.2.1 q.2.2, w ∈ Ts) (k : Nat) (hk : k < q.2.2) {index : Nat} (hlink : (Cond.fieldLink own index (q.2.1 k).1 (q.2.1 k).2.1 (q.2.1 k).2.2.1) ∈ Ts) {v : Value} (hv : fs[k]? = some v) (hdg : decode cc pc = .ok (.getfield index, 3))
    (kk : W p l e R s m args below meth c H locs cells slots Q (F0 m (pc + 3) ls (v :: rest))) : W p l e R s m args below meth c H locs cells slots Q (F0 m pc ls (.ref (ad r) :: rest)) := by
  obtain ⟨hx, hb, hml, hown, hts⟩ := hC
  obtain ⟨hK, hP, hD, hS, hlo, hX⟩ := hY
  have he := wl_get (ad := ad) (ct := ct) hr
  rw [hct] at he
  exact va_get (C := q.1) (T := q.2.1) (N := q.2.2) hx hb hts hin hown hK hP r he (by rw [hc]) k hk (hts _ hlink) (fun _ h => h) hv hdg kk
theorem g_put (hC : CallFix p m c cc nL s args Ts own) (hY : Sy G N ad ct s H locs) (r : Nat) (hr : r < N) {ci : Nat} {fs : List Value} (hct : ct r = .inr (ci, fs)) {q : vw_C} (hc : vwCl[ci]? = some q) (hin : ∀ w ∈ u_ws q.1 q.2.1 q.2.2, w ∈ Ts) (ty0 : Nat → FieldType) (hty : ∀ k, k < q.2.2 → parseFieldDescriptor (q.2.1 k).2.2.1 = some (ty0 k)) (hnm : ∀ a, a < q.2.2 → ∀ b, b < q.2.2 → a ≠ b → (q.2.1 a).2.1 ≠ (q.2.1 b).2.1) (k : Nat) (hk : k < q.2.2) {index : Nat} (hlink : (Cond.fieldLink own index (q.2.1 k).1 (q.2.1 k).2.1 (q.2.1 k).2.2.1) ∈ Ts) (hfin : (q.2.1 k).2.2.2 = false ∨ ((q.2.1 k).2.2.2 = true ∧ meth.name = "<init>" ∧ (q.2.1 k).1 = own)) {v : Value} (hn : narrow (ty0 k) v = v) (hfit : fits (ty0 k) v = true) (hl : k < fs.length) (hdg : decode cc pc = .ok (.putfield index, 3))
    (kk : ∀ (H1 : Heap) (locs1 : List Loc), Sy G N ad (va_up ct r (.inr (ci, fs.set k v))) s H1 locs1 → W p l e R s m args below meth c H1 locs1 cells slots Q (F0 m (pc + 3) ls rest)) : W p l e R s m args below meth c H locs cells slots Q (F0 m pc ls (v :: .ref (ad r) :: rest)) := by
  obtain ⟨hx, hb, hml, hown, hts⟩ := hC
  obtain ⟨hK, hP, hD, hS, hlo, hX⟩ := hY
  have he := wl_get (ad := ad) (ct := ct) hr
  rw [hct] at he
  rcases hfin with hfin | ⟨hfin, hi, hd⟩
  · refine va_put (C := q.1) (T := q.2.1) (N := q.2.2) hx hb hts hin ty0 hty hnm hown hK hP hD hS r he (by rw [hc]) k hk (hts _ hlink) (fun _ h => h) hfin (hty k hk) hn hfit hl hdg (fun H1 locs1 h1 h2 h3 => ?_)
    rw [wl_set hr] at h1 h2
    exact kk H1 locs1 ⟨hK, h1, h2, h3, hlo, hX⟩
  · refine va_putF (C := q.1) (T := q.2.1) (N := q.2.2) hx hb hts hin ty0 hty hnm hown hK hP hD hS r he (by rw [hc]) k hk (hts _ hlink) (fun _ h => h) hfin hi hd (hty k hk) hn hfit hl hdg (fun H1 locs1 h1 h2 h3 => ?_)
    rw [wl_set hr] at h1 h2
    exact kk H1 locs1 ⟨hK, h1, h2, h3, hlo, hX⟩
theorem g_iald (hC : CallFix p m c cc nL s args Ts own) (hY : Sy G N ad ct s H locs) (r : Nat) (hr : r < N) {n : Nat} {f : Nat → Int32} (hct : ct r = .inl (G.2.2 0, n, .inl f)) {i : Int32} (hin : 0 ≤ i.toInt ∧ i.toInt < n) (hdg : decode cc pc = .ok (.iaload, 1))
    (kk : W p l e R s m args below meth c H locs cells slots Q (F0 m (pc + 1) ls (.int (f i.toNatClampNeg) :: rest))) : W p l e R s m args below meth c H locs cells slots Q (F0 m pc ls (.int i :: .ref (ad r) :: rest)) := by
  obtain ⟨hx, hb, hml, hown, hts⟩ := hC
  obtain ⟨hK, hP, hD, hS, hlo, hX⟩ := hY
  have he := wl_get (ad := ad) (ct := ct) hr
  rw [hct] at he
  exact va_iald hx hb hK hP r 0 he rfl (vp_in_iff.mpr hin) hdg kk
theorem g_iast (hC : CallFix p m c cc nL s args Ts own) (hY : Sy G N ad ct s H locs) (r : Nat) (hr : r < N) {n : Nat} {f : Nat → Int32} (hct : ct r = .inl (G.2.2 0, n, .inl f)) {i x : Int32} (hin : 0 ≤ i.toInt ∧ i.toInt < n) (hdg : decode cc pc = .ok (.iastore, 1))
    (kk : ∀ (H1 : Heap) (locs1 : List Loc), Sy G N ad (va_up ct r (.inl (G.2.2 0, n, .inl (upd f i.toNatClampNeg x)))) s H1 locs1 → W p l e R s m args below meth c H1 locs1 cells slots Q (F0 m (pc + 1) ls rest)) : W p l e R s m args below meth c H locs cells slots Q (F0 m pc ls (.int x :: .int i :: .ref (ad r) :: rest)) := by
  obtain ⟨hx, hb, hml, hown, hts⟩ := hC
  obtain ⟨hK, hP, hD, hS, hlo, hX⟩ := hY
  have he := wl_get (ad := ad) (ct := ct) hr
  rw [hct] at he
  refine va_iast hx hb hK hP hD hS r 0 he rfl (vp_in_iff.mpr hin) hdg (fun H1 locs1 h1 h2 h3 => ?_)
  rw [wl_set hr] at h1 h2
  exact kk H1 locs1 ⟨hK, h1, h2, h3, hlo, hX⟩
theorem g_aald (hC : CallFix p m c cc nL s args Ts own) (hY : Sy G N ad ct s H locs) (r : Nat) (hr : r < N) {n : Nat} {f : Nat → Option Nat} (hct : ct r = .inl (G.2.2 1, n, .inr (.inr (.inr (.inr f))))) {i : Int32} (hin : 0 ≤ i.toInt ∧ i.toInt < n) (hdg : decode cc pc = .ok (.aaload, 1))
    (kk : W p l e R s m args below meth c H locs cells slots Q (F0 m (pc + 1) ls (va_rf (f i.toNatClampNeg) :: rest))) : W p l e R s m args below meth c H locs cells slots Q (F0 m pc ls (.int i :: .ref (ad r) :: rest)) := by
  obtain ⟨hx, hb, hml, hown, hts⟩ := hC
  obtain ⟨hK, hP, hD, hS, hlo, hX⟩ := hY
  have he := wl_get (ad := ad) (ct := ct) hr
  rw [hct] at he
  exact va_aldq hx hb hK hP r 1 he rfl (vp_in_iff.mpr hin) hdg kk
theorem g_aast (hC : CallFix p m c cc nL s args Ts own) (hY : Sy G N ad ct s H locs) (r : Nat) (hr : r < N) {n : Nat} {f : Nat → Option Nat} (hct : ct r = .inl (G.2.2 1, n, .inr (.inr (.inr (.inr f))))) (rv : Nat) (hrv : rv < N) {fs : List Value} (hcv : ct rv = .inr (0, fs)) {i : Int32} (hin : 0 ≤ i.toInt ∧ i.toInt < n) (hdg : decode cc pc = .ok (.aastore, 1))
    (kk : ∀ (H1 : Heap) (locs1 : List Loc), Sy G N ad (va_up ct r (.inl (G.2.2 1, n, .inr (.inr (.inr (.inr (va_up f i.toNatClampNeg (some (ad rv))))))))) s H1 locs1 → W p l e R s m args below meth c H1 locs1 cells slots Q (F0 m (pc + 1) ls rest)) : W p l e R s m args below meth c H locs cells slots Q (F0 m pc ls (.ref (ad rv) :: .int i :: .ref (ad r) :: rest)) := by
  obtain ⟨hx, hb, hml, hown, hts⟩ := hC
  obtain ⟨hK, hP, hD, hS, hlo, hX⟩ := hY
  have he := wl_get (ad := ad) (ct := ct) hr
  rw [hct] at he
  have hv := wl_get (ad := ad) (ct := ct) hrv
  rw [hcv] at hv
  refine va_astq hx hb hK hP hD hS r 1 rv 0 (r := (RX0, TX0, 12)) he rfl hv rfl (vp_in_iff.mpr hin) hdg (fun H1 locs1 h1 h2 h3 => ?_)
  rw [wl_set hr] at h1 h2
  exact kk H1 locs1 ⟨hK, h1, h2, h3, hlo, hX⟩
theorem g_alen (hC : CallFix p m c cc nL s args Ts own) (hY : Sy G N ad ct s H locs) (r : Nat) (hr : r < N) (tq : Nat) {cA : ClassId} {x : vp_A} (hct : ct r = .inl (cA, x)) {ty : FieldType} (ht : (tyL G)[tq]? = some (cA, ty)) {v : Int32} (hv : Int32.ofNat x.1 = v) (hdg : decode cc pc = .ok (.arraylength, 1))
    (kk : W p l e R s m args below meth c H locs cells slots Q (F0 m (pc + 1) ls (.int v :: rest))) : W p l e R s m args below meth c H locs cells slots Q (F0 m pc ls (.ref (ad r) :: rest)) := by
  obtain ⟨hx, hb, hml, hown, hts⟩ := hC
  obtain ⟨hK, hP, hD, hS, hlo, hX⟩ := hY
  have he := wl_get (ad := ad) (ct := ct) hr
  rw [hct] at he
  exact va_alen hx hb hK hP r tq he ht hv hdg kk
end GB

/-! the law's own calls: what a throw answers -/
section GCC
variable {p : Program} {l : Launch} {e : Env} {R : Room} {s : State} {m : MethodId} {args : Array Value} {below : List Frame} {meth : Method} {c : Code} {H : Heap} {locs : List Loc} {cells slots : Nat} {Q : State → Prop}
variable {cc : ByteArray} {nL : Nat} {Ts : List Cond} {pc : Nat} {ls : Array Slot} {rest st0 : List Value} {G : GG} {N N' : Nat} {ad ad' : Nat → Nat} {ct ct' : Nat → va_E} {mc ms : Nat}
theorem gx_callCi {a : Array Value} {post : Int32 → Prop} {ex : String → Prop} (hY : Sy G N ad ct s H locs) (hr : vx_Run p l e R s m args below meth c H locs cells slots mc ms (F0 m pc ls st0) rest (Qi G N' ad' ct' post a) (XG G N ad ct ex) (gF G))
    (kx : ∀ (E : String) (H1 : Heap) (locs1 : List Loc) (q9 : Addr) (ce : Cell), ex E → Sy G N ad ct s H1 locs1 → H1[q9]? = some ce → ce.vm = .none → s.vm.findClass E = some ce.cls → vx_W p l e R s m args below meth c H1 locs1 (cells + mc) (slots + ms) Q (F0 m pc ls rest) q9)
    (kk : ∀ (r : Int32) (H1 : Heap) (locs1 : List Loc), post r → Sy G N' ad' ct' s H1 locs1 → W p l e R s m args below meth c H1 locs1 (cells + mc) (slots + ms) Q (F0 m (pc + 3) ls (.int r :: rest))) : W p l e R s m args below meth c H locs cells slots Q (F0 m pc ls st0) :=
  vx_calli hr hY.2.2.2.1 (fun _ _ h => h) (fun _ h => h) (fun _ _ h => h) (fun E ce q9 _ t H1 locs1 ht hvm _ hb _ _ hS hce hcv hcl => kx E H1 locs1 q9 ce hb.1 (hY.back hb.2 ht hvm hS) hce hcv hcl) (fun r _ t H1 locs1 ht hvm hp hz _ _ hS => kk r H1 locs1 hp (hY.back hz ht hvm hS))
theorem gx_callCl {a : Array Value} {post : Int64 → Prop} {ex : String → Prop} (hY : Sy G N ad ct s H locs) (hr : vx_Run p l e R s m args below meth c H locs cells slots mc ms (F0 m pc ls st0) rest (Ql G N' ad' ct' post a) (XG G N ad ct ex) (gF G))
    (kx : ∀ (E : String) (H1 : Heap) (locs1 : List Loc) (q9 : Addr) (ce : Cell), ex E → Sy G N ad ct s H1 locs1 → H1[q9]? = some ce → ce.vm = .none → s.vm.findClass E = some ce.cls → vx_W p l e R s m args below meth c H1 locs1 (cells + mc) (slots + ms) Q (F0 m pc ls rest) q9)
    (kk : ∀ (r : Int64) (H1 : Heap) (locs1 : List Loc), post r → Sy G N' ad' ct' s H1 locs1 → W p l e R s m args below meth c H1 locs1 (cells + mc) (slots + ms) Q (F0 m (pc + 3) ls (.long r :: rest))) : W p l e R s m args below meth c H locs cells slots Q (F0 m pc ls st0) :=
  vx_calll hr hY.2.2.2.1 (fun _ _ h => h) (fun _ h => h) (fun _ _ h => h) (fun E ce q9 _ t H1 locs1 ht hvm _ hb _ _ hS hce hcv hcl => kx E H1 locs1 q9 ce hb.1 (hY.back hb.2 ht hvm hS) hce hcv hcl) (fun r _ t H1 locs1 ht hvm hp hz _ _ hS => kk r H1 locs1 hp (hY.back hz ht hvm hS))
theorem gx_callCd {a : Array Value} {post : UInt64 → Prop} {ex : String → Prop} (hY : Sy G N ad ct s H locs) (hr : vx_Run p l e R s m args below meth c H locs cells slots mc ms (F0 m pc ls st0) rest (Qd G N' ad' ct' post a) (XG G N ad ct ex) (gF G))
    (kx : ∀ (E : String) (H1 : Heap) (locs1 : List Loc) (q9 : Addr) (ce : Cell), ex E → Sy G N ad ct s H1 locs1 → H1[q9]? = some ce → ce.vm = .none → s.vm.findClass E = some ce.cls → vx_W p l e R s m args below meth c H1 locs1 (cells + mc) (slots + ms) Q (F0 m pc ls rest) q9)
    (kk : ∀ (r : UInt64) (H1 : Heap) (locs1 : List Loc), post r → Sy G N' ad' ct' s H1 locs1 → W p l e R s m args below meth c H1 locs1 (cells + mc) (slots + ms) Q (F0 m (pc + 3) ls (.double r :: rest))) : W p l e R s m args below meth c H locs cells slots Q (F0 m pc ls st0) :=
  vx_calld hr hY.2.2.2.1 (fun _ _ h => h) (fun _ h => h) (fun _ _ h => h) (fun E ce q9 _ t H1 locs1 ht hvm _ hb _ _ hS hce hcv hcl => kx E H1 locs1 q9 ce hb.1 (hY.back hb.2 ht hvm hS) hce hcv hcl) (fun r _ t H1 locs1 ht hvm hp hz _ _ hS => kk r H1 locs1 hp (hY.back hz ht hvm hS))
theorem gx_callCv {a : Array Value} {post : Prop} {ex : String → Prop} (hY : Sy G N ad ct s H locs) (hr : vx_Run p l e R s m args below meth c H locs cells slots mc ms (F0 m pc ls st0) rest (Qv G N' ad' ct' post a) (XG G N ad ct ex) (gF G))
    (kx : ∀ (E : String) (H1 : Heap) (locs1 : List Loc) (q9 : Addr) (ce : Cell), ex E → Sy G N ad ct s H1 locs1 → H1[q9]? = some ce → ce.vm = .none → s.vm.findClass E = some ce.cls → vx_W p l e R s m args below meth c H1 locs1 (cells + mc) (slots + ms) Q (F0 m pc ls rest) q9)
    (kk : ∀ (H1 : Heap) (locs1 : List Loc), post → Sy G N' ad' ct' s H1 locs1 → W p l e R s m args below meth c H1 locs1 (cells + mc) (slots + ms) Q (F0 m (pc + 3) ls rest)) : W p l e R s m args below meth c H locs cells slots Q (F0 m pc ls st0) :=
  vx_callv hr hY.2.2.2.1 (fun _ _ h => h) (fun _ h => h) (fun _ _ h => h) (fun E ce q9 _ t H1 locs1 ht hvm _ hb _ _ hS hce hcv hcl => kx E H1 locs1 q9 ce hb.1 (hY.back hb.2 ht hvm hS) hce hcv hcl) (fun _ t H1 locs1 ht hvm hp hz _ _ hS => kk H1 locs1 hp (hY.back hz ht hvm hS))
theorem g_catch1 {e1 h1 : Nat} {hs : List (Nat × Nat × Nat × Nat)} {hh : List (Nat × Nat × Nat × Nat)} {q : Addr} {ce : Cell} (hC : CallFix p m c cc nL s args Ts RL) (hY : Sy G N ad ct s H locs) (hT : c.exceptionTable.toList = tableOf hh) (hh0 : hh = (0, e1, h1, 13) :: hs) (hpc : pc < e1) (hl1 : Cond.classLink RL 13 xI ∈ Ts) (hcell : H[q]? = some ce) (hv : ce.vm = .none) (hcl : s.vm.findClass xI = some ce.cls)
    (kk : W p l e R s m args below meth c H locs cells slots Q (F0 m h1 ls [.ref q])) : vx_W p l e R s m args below meth c H locs cells slots Q (F0 m pc ls rest) q := by
  subst hh0
  exact vx_catch (name := xI) hC.2.2.2.1 [] ⟨0, e1, h1, 13⟩ (tableOf hs) hT (fun z hz => absurd hz List.not_mem_nil) (by simp [covers, hpc]) (show (13 : Nat) ≠ 0 from by decide) (hC.2.2.2.2 _ hl1) (va_Nw.use rfl hY.2.2.2.2.2.1.1) hcell hv hcl kk
theorem g_catch2 {e1 h1 h2 : Nat} {hs : List (Nat × Nat × Nat × Nat)} {hh : List (Nat × Nat × Nat × Nat)} {q : Addr} {ce : Cell} (hC : CallFix p m c cc nL s args Ts RL) (hY : Sy G N ad ct s H locs) (hT : c.exceptionTable.toList = tableOf hh) (hh0 : hh = (0, e1, h1, 13) :: (0, e1, h2, 15) :: hs) (hpc : pc < e1) (hl1 : Cond.classLink RL 13 xI ∈ Ts) (hl2 : Cond.classLink RL 15 xA ∈ Ts) (hcell : H[q]? = some ce) (hv : ce.vm = .none) (hcl : s.vm.findClass xA = some ce.cls)
    (kk : W p l e R s m args below meth c H locs cells slots Q (F0 m h2 ls [.ref q])) : vx_W p l e R s m args below meth c H locs cells slots Q (F0 m pc ls rest) q := by
  subst hh0
  refine vx_catch (name := xA) hC.2.2.2.1 [⟨0, e1, h1, 13⟩] ⟨0, e1, h2, 15⟩ (tableOf hs) hT (fun z hz => ?_) (by simp [covers, hpc]) (show (15 : Nat) ≠ 0 from by decide) (hC.2.2.2.2 _ hl2) (va_Nw.use rfl hY.2.2.2.2.2.1.2.1) hcell hv hcl kk
  rcases List.mem_singleton.mp hz with rfl
  exact Or.inr ⟨show (13 : Nat) ≠ 0 from by decide, xI, hC.2.2.2.2 _ hl1, hY.2.2.2.2.2.2.1.1⟩
theorem g_catch3 {e1 h1 h2 h3 : Nat} {hs : List (Nat × Nat × Nat × Nat)} {hh : List (Nat × Nat × Nat × Nat)} {q : Addr} {ce : Cell} (hC : CallFix p m c cc nL s args Ts RL) (hY : Sy G N ad ct s H locs) (hT : c.exceptionTable.toList = tableOf hh) (hh0 : hh = (0, e1, h1, 13) :: (0, e1, h2, 15) :: (0, e1, h3, 27) :: hs) (hpc : pc < e1) (hl1 : Cond.classLink RL 13 xI ∈ Ts) (hl2 : Cond.classLink RL 15 xA ∈ Ts) (hl3 : Cond.classLink RL 27 xS ∈ Ts) (hcell : H[q]? = some ce) (hv : ce.vm = .none) (hcl : s.vm.findClass xS = some ce.cls)
    (kk : W p l e R s m args below meth c H locs cells slots Q (F0 m h3 ls [.ref q])) : vx_W p l e R s m args below meth c H locs cells slots Q (F0 m pc ls rest) q := by
  subst hh0
  refine vx_catch (name := xS) hC.2.2.2.1 [⟨0, e1, h1, 13⟩, ⟨0, e1, h2, 15⟩] ⟨0, e1, h3, 27⟩ (tableOf hs) hT (fun z hz => ?_) (by simp [covers, hpc]) (show (27 : Nat) ≠ 0 from by decide) (hC.2.2.2.2 _ hl3) (va_Nw.use rfl hY.2.2.2.2.2.1.2.2) hcell hv hcl kk
  rcases List.mem_cons.mp hz with rfl | hz
  · exact Or.inr ⟨show (13 : Nat) ≠ 0 from by decide, xI, hC.2.2.2.2 _ hl1, hY.2.2.2.2.2.2.1.2.1⟩
  · rcases List.mem_singleton.mp hz with rfl
    exact Or.inr ⟨show (15 : Nat) ≠ 0 from by decide, xA, hC.2.2.2.2 _ hl2, hY.2.2.2.2.2.2.1.2.2⟩
end GCC
set_option maxHeartbeats 4000000 in
set_option maxRecDepth 100000 in
theorem c_L_setArea (l : Launch) (G : GG) (ad : Nat → Nat) (σ : St) (n : Nat) (τ : St) (j : Nat) (th : Int32) (o : OL) (od : OD) (hst : l.stackTraces = false) (hn : n ≤ 24) (hI : ∀ k, k < n → okL σ k) (p0 p1 : Int32)  : vx_Met l yL_setArea wsL_setArea ({ frames := 9, cells := 6, slots := 36, locals := 200 }) (PcS G ad σ n τ j th o od [.ref (ad 0), .int p0, .int p1, .ref (ad 21)]) (Qi G (3 * n + 23) ad (ctS G ad (if cdArea p0 p1 = 0 then us σ 0 (ix p0) p1 else σ) n τ j th (if cdArea p0 p1 = 0 then vp_updL o 0 ((σ 0 (ix p0)).toInt64) else o) od) (fun r => r = cdArea p0 p1)) (fun _ _ _ => False) 6 36 (gF G) := by
  refine vx_ofWH (cc := cL_setArea) (maxL := 5) (ret := (some .int)) (hh := [(0, 10, 13, 13), (0, 10, 17, 15)]) (by decide) rfl ?_
  intro p e s m args below meth c s₁ B hml hv
  obtain ⟨rfl, hY⟩ := hv
  have hts := atoms_spec (ws := wsL_setArea) B.pre
  have hC : CallFix p m c cL_setArea 5 s _ wsL_setArea RL := ⟨B.exec, B.bytes, hml, findClass_of_methodNamed B.named, hts⟩
  have hxt := vx_table (x := yL_setArea) B (hts _ List.mem_cons_self)
  have hx := hC.1
  have hb := hC.2.1
  have hr := B.returns
  have hlocks := B.notSynchronized
  have hl := lv_entry ([.ref (ad 0), .int p0, .int p1, .ref (ad 21)]) (n := 5) (Nat.le_of_ble_eq_true rfl)
  rw [lg_entry_eq]
  generalize (lg_sl ([.ref (ad 0), .int p0, .int p1, .ref (ad 21)]) ++ List.replicate (5 - (lg_sl ([.ref (ad 0), .int p0, .int p1, .ref (ad 21)])).length) Slot.unset).toArray = ls at hl ⊢
  have hl : lv_has ls 5 [(0, .ref (ad 0)), (1, .int p0), (2, .int p1), (3, .ref (ad 21))] := hl
  refine lv_aload_n hx hb dL_setArea_0 rfl (lv_at hl 3 rfl) ?_
  refine lv_iconst (v := 0) hx hb dL_setArea_1 (by decide) ?_
  refine lv_aload_n hx hb dL_setArea_2 rfl (lv_at hl 0 rfl) ?_
  refine lv_iload_n hx hb dL_setArea_3 rfl (lv_at hl 1 rfl) ?_
  refine lv_iload_n hx hb dL_setArea_4 rfl (lv_at hl 2 rfl) ?_
  refine gx_callCi hY (gx_runV (n := 2) (q := (RX1, TX1, 5)) (r := 0) hC (c_X1_setArea l G ad σ n τ j th o od hst  p0 p1) gL_setArea_X1_setArea rfl ⟨rfl, rfl⟩ (by decide +kernel) ⟨Nat.le_of_ble_eq_true rfl, Nat.le_of_ble_eq_true rfl⟩ hY (by omega) rfl (ci := 1) rfl rfl hl.1 rfl (Nat.le_of_ble_eq_true rfl) dL_setArea_5 ⟨Nat.le_of_ble_eq_true rfl, Nat.le_of_ble_eq_true rfl⟩) (fun E H locs q9 ce hex hY hc1 hc2 hc3 => ?_) (fun r1 H locs h2 hY => ?_)
  · rcases hex with ⟨rfl, hcd⟩ | ⟨rfl, hcd⟩ | ⟨rfl, hcd⟩
    · refine g_catch1 hC hY hxt rfl (by decide) (by decide +kernel) hc1 hc2 hc3 ?_
      refine lv_astore (lv' := [(4, .ref q9), (0, .ref (ad 0)), (1, .int p0), (2, .int p1), (3, .ref (ad 21))]) hx hb dL_setArea_13 hl (by decide) rfl (fun ls hl => ?_)
      refine lv_iconst (v := 1) hx hb dL_setArea_15 (by decide) ?_
      rw [hcd, if_neg (by decide), if_neg (by decide)]
      exact vx_ret (g_iret hC hr hlocks hY ⟨Nat.le_of_ble_eq_true rfl, Nat.le_of_ble_eq_true rfl⟩ dL_setArea_16 (rfl))
    · refine g_catch2 hC hY hxt rfl (by decide) (by decide +kernel) (by decide +kernel) hc1 hc2 hc3 ?_
      refine lv_astore (lv' := [(4, .ref q9), (0, .ref (ad 0)), (1, .int p0), (2, .int p1), (3, .ref (ad 21))]) hx hb dL_setArea_17 hl (by decide) rfl (fun ls hl => ?_)
      refine lv_iconst (v := 2) hx hb dL_setArea_19 (by decide) ?_
      rw [hcd, if_neg (by decide), if_neg (by decide)]
      exact vx_ret (g_iret hC hr hlocks hY ⟨Nat.le_of_ble_eq_true rfl, Nat.le_of_ble_eq_true rfl⟩ dL_setArea_20 (rfl))
    · exact absurd hcd (by unfold cdArea; (repeat' split) <;> decide)
  · obtain ⟨hcd, rfl⟩ := h2
    refine lv_i2l hx hb dL_setArea_8 rfl ?_
    refine wrO hC hY dL_setArea_9 (fun H locs hY => ?_)
    refine lv_goto (tgt := 21) hx hb dL_setArea_10 (by decide) ?_
    refine lv_iconst (v := 0) hx hb dL_setArea_21 (by decide) ?_
    rw [hcd, if_pos rfl, if_pos rfl]
    exact vx_ret (g_iret hC hr hlocks hY ⟨Nat.le_of_ble_eq_true rfl, Nat.le_of_ble_eq_true rfl⟩ dL_setArea_22 (rfl))

set_option maxHeartbeats 4000000 in
set_option maxRecDepth 100000 in
theorem c_L_setIndex (l : Launch) (G : GG) (ad : Nat → Nat) (σ : St) (n : Nat) (τ : St) (j : Nat) (th : Int32) (o : OL) (od : OD) (hst : l.stackTraces = false) (hn : n ≤ 24) (hI : ∀ k, k < n → okL σ k) (p0 p1 : Int32)  : vx_Met l yL_setIndex wsL_setIndex ({ frames := 9, cells := 6, slots := 36, locals := 200 }) (PcS G ad σ n τ j th o od [.ref (ad 0), .int p0, .int p1, .ref (ad 21)]) (Qi G (3 * n + 23) ad (ctS G ad (if cdIndex p0 p1 = 0 then us σ 1 (ix p0) p1 else σ) n τ j th (if cdIndex p0 p1 = 0 then vp_updL o 0 ((σ 1 (ix p0)).toInt64) else o) od) (fun r => r = cdIndex p0 p1)) (fun _ _ _ => False) 6 36 (gF G) := by
  refine vx_ofWH (cc := cL_setIndex) (maxL := 5) (ret := (some .int)) (hh := [(0, 10, 13, 13), (0, 10, 17, 15)]) (by decide) rfl ?_
  intro p e s m args below meth c s₁ B hml hv
  obtain ⟨rfl, hY⟩ := hv
  have hts := atoms_spec (ws := wsL_setIndex) B.pre
  have hC : CallFix p m c cL_setIndex 5 s _ wsL_setIndex RL := ⟨B.exec, B.bytes, hml, findClass_of_methodNamed B.named, hts⟩
  have hxt := vx_table (x := yL_setIndex) B (hts _ List.mem_cons_self)
  have hx := hC.1
  have hb := hC.2.1
  have hr := B.returns
  have hlocks := B.notSynchronized
  have hl := lv_entry ([.ref (ad 0), .int p0, .int p1, .ref (ad 21)]) (n := 5) (Nat.le_of_ble_eq_true rfl)
  rw [lg_entry_eq]
  generalize (lg_sl ([.ref (ad 0), .int p0, .int p1, .ref (ad 21)]) ++ List.replicate (5 - (lg_sl ([.ref (ad 0), .int p0, .int p1, .ref (ad 21)])).length) Slot.unset).toArray = ls at hl ⊢
  have hl : lv_has ls 5 [(0, .ref (ad 0)), (1, .int p0), (2, .int p1), (3, .ref (ad 21))] := hl
  refine lv_aload_n hx hb dL_setIndex_0 rfl (lv_at hl 3 rfl) ?_
  refine lv_iconst (v := 0) hx hb dL_setIndex_1 (by decide) ?_
  refine lv_aload_n hx hb dL_setIndex_2 rfl (lv_at hl 0 rfl) ?_
  refine lv_iload_n hx hb dL_setIndex_3 rfl (lv_at hl 1 rfl) ?_
  refine lv_iload_n hx hb dL_setIndex_4 rfl (lv_at hl 2 rfl) ?_
  refine gx_callCi hY (gx_runV (n := 2) (q := (RX1, TX1, 5)) (r := 0) hC (c_X1_setIndex l G ad σ n τ j th o od hst  p0 p1) gL_setIndex_X1_setIndex rfl ⟨rfl, rfl⟩ (by decide +kernel) ⟨Nat.le_of_ble_eq_true rfl, Nat.le_of_ble_eq_true rfl⟩ hY (by omega) rfl (ci := 1) rfl rfl hl.1 rfl (Nat.le_of_ble_eq_true rfl) dL_setIndex_5 ⟨Nat.le_of_ble_eq_true rfl, Nat.le_of_ble_eq_true rfl⟩) (fun E H locs q9 ce hex hY hc1 hc2 hc3 => ?_) (fun r1 H locs h2 hY => ?_)
  · rcases hex with ⟨rfl, hcd⟩ | ⟨rfl, hcd⟩ | ⟨rfl, hcd⟩
    · refine g_catch1 hC hY hxt rfl (by decide) (by decide +kernel) hc1 hc2 hc3 ?_
      refine lv_astore (lv' := [(4, .ref q9), (0, .ref (ad 0)), (1, .int p0), (2, .int p1), (3, .ref (ad 21))]) hx hb dL_setIndex_13 hl (by decide) rfl (fun ls hl => ?_)
      refine lv_iconst (v := 1) hx hb dL_setIndex_15 (by decide) ?_
      rw [hcd, if_neg (by decide), if_neg (by decide)]
      exact vx_ret (g_iret hC hr hlocks hY ⟨Nat.le_of_ble_eq_true rfl, Nat.le_of_ble_eq_true rfl⟩ dL_setIndex_16 (rfl))
    · refine g_catch2 hC hY hxt rfl (by decide) (by decide +kernel) (by decide +kernel) hc1 hc2 hc3 ?_
      refine lv_astore (lv' := [(4, .ref q9), (0, .ref (ad 0)), (1, .int p0), (2, .int p1), (3, .ref (ad 21))]) hx hb dL_setIndex_17 hl (by decide) rfl (fun ls hl => ?_)
      refine lv_iconst (v := 2) hx hb dL_setIndex_19 (by decide) ?_
      rw [hcd, if_neg (by decide), if_neg (by decide)]
      exact vx_ret (g_iret hC hr hlocks hY ⟨Nat.le_of_ble_eq_true rfl, Nat.le_of_ble_eq_true rfl⟩ dL_setIndex_20 (rfl))
    · exact absurd hcd (by unfold cdIndex; (repeat' split) <;> decide)
  · obtain ⟨hcd, rfl⟩ := h2
    refine lv_i2l hx hb dL_setIndex_8 rfl ?_
    refine wrO hC hY dL_setIndex_9 (fun H locs hY => ?_)
    refine lv_goto (tgt := 21) hx hb dL_setIndex_10 (by decide) ?_
    refine lv_iconst (v := 0) hx hb dL_setIndex_21 (by decide) ?_
    rw [hcd, if_pos rfl, if_pos rfl]
    exact vx_ret (g_iret hC hr hlocks hY ⟨Nat.le_of_ble_eq_true rfl, Nat.le_of_ble_eq_true rfl⟩ dL_setIndex_22 (rfl))

set_option maxHeartbeats 4000000 in
set_option maxRecDepth 100000 in
theorem c_L_setCost (l : Launch) (G : GG) (ad : Nat → Nat) (σ : St) (n : Nat) (τ : St) (j : Nat) (th : Int32) (o : OL) (od : OD) (hst : l.stackTraces = false) (hn : n ≤ 24) (hI : ∀ k, k < n → okL σ k) (p0 p1 : Int32)  : vx_Met l yL_setCost wsL_setCost ({ frames := 9, cells := 6, slots := 36, locals := 200 }) (PcS G ad σ n τ j th o od [.ref (ad 0), .int p0, .int p1, .ref (ad 21)]) (Qi G (3 * n + 23) ad (ctS G ad (if cdCost p0 p1 = 0 then us σ 2 (ix p0) p1 else σ) n τ j th (if cdCost p0 p1 = 0 then vp_updL o 0 ((σ 2 (ix p0)).toInt64) else o) od) (fun r => r = cdCost p0 p1)) (fun _ _ _ => False) 6 36 (gF G) := by
  refine vx_ofWH (cc := cL_setCost) (maxL := 5) (ret := (some .int)) (hh := [(0, 10, 13, 13), (0, 10, 17, 15)]) (by decide) rfl ?_
  intro p e s m args below meth c s₁ B hml hv
  obtain ⟨rfl, hY⟩ := hv
  have hts := atoms_spec (ws := wsL_setCost) B.pre
  have hC : CallFix p m c cL_setCost 5 s _ wsL_setCost RL := ⟨B.exec, B.bytes, hml, findClass_of_methodNamed B.named, hts⟩
  have hxt := vx_table (x := yL_setCost) B (hts _ List.mem_cons_self)
  have hx := hC.1
  have hb := hC.2.1
  have hr := B.returns
  have hlocks := B.notSynchronized
  have hl := lv_entry ([.ref (ad 0), .int p0, .int p1, .ref (ad 21)]) (n := 5) (Nat.le_of_ble_eq_true rfl)
  rw [lg_entry_eq]
  generalize (lg_sl ([.ref (ad 0), .int p0, .int p1, .ref (ad 21)]) ++ List.replicate (5 - (lg_sl ([.ref (ad 0), .int p0, .int p1, .ref (ad 21)])).length) Slot.unset).toArray = ls at hl ⊢
  have hl : lv_has ls 5 [(0, .ref (ad 0)), (1, .int p0), (2, .int p1), (3, .ref (ad 21))] := hl
  refine lv_aload_n hx hb dL_setCost_0 rfl (lv_at hl 3 rfl) ?_
  refine lv_iconst (v := 0) hx hb dL_setCost_1 (by decide) ?_
  refine lv_aload_n hx hb dL_setCost_2 rfl (lv_at hl 0 rfl) ?_
  refine lv_iload_n hx hb dL_setCost_3 rfl (lv_at hl 1 rfl) ?_
  refine lv_iload_n hx hb dL_setCost_4 rfl (lv_at hl 2 rfl) ?_
  refine gx_callCi hY (gx_runV (n := 2) (q := (RX1, TX1, 5)) (r := 0) hC (c_X1_setCost l G ad σ n τ j th o od hst  p0 p1) gL_setCost_X1_setCost rfl ⟨rfl, rfl⟩ (by decide +kernel) ⟨Nat.le_of_ble_eq_true rfl, Nat.le_of_ble_eq_true rfl⟩ hY (by omega) rfl (ci := 1) rfl rfl hl.1 rfl (Nat.le_of_ble_eq_true rfl) dL_setCost_5 ⟨Nat.le_of_ble_eq_true rfl, Nat.le_of_ble_eq_true rfl⟩) (fun E H locs q9 ce hex hY hc1 hc2 hc3 => ?_) (fun r1 H locs h2 hY => ?_)
  · rcases hex with ⟨rfl, hcd⟩ | ⟨rfl, hcd⟩ | ⟨rfl, hcd⟩
    · refine g_catch1 hC hY hxt rfl (by decide) (by decide +kernel) hc1 hc2 hc3 ?_
      refine lv_astore (lv' := [(4, .ref q9), (0, .ref (ad 0)), (1, .int p0), (2, .int p1), (3, .ref (ad 21))]) hx hb dL_setCost_13 hl (by decide) rfl (fun ls hl => ?_)
      refine lv_iconst (v := 1) hx hb dL_setCost_15 (by decide) ?_
      rw [hcd, if_neg (by decide), if_neg (by decide)]
      exact vx_ret (g_iret hC hr hlocks hY ⟨Nat.le_of_ble_eq_true rfl, Nat.le_of_ble_eq_true rfl⟩ dL_setCost_16 (rfl))
    · refine g_catch2 hC hY hxt rfl (by decide) (by decide +kernel) (by decide +kernel) hc1 hc2 hc3 ?_
      refine lv_astore (lv' := [(4, .ref q9), (0, .ref (ad 0)), (1, .int p0), (2, .int p1), (3, .ref (ad 21))]) hx hb dL_setCost_17 hl (by decide) rfl (fun ls hl => ?_)
      refine lv_iconst (v := 2) hx hb dL_setCost_19 (by decide) ?_
      rw [hcd, if_neg (by decide), if_neg (by decide)]
      exact vx_ret (g_iret hC hr hlocks hY ⟨Nat.le_of_ble_eq_true rfl, Nat.le_of_ble_eq_true rfl⟩ dL_setCost_20 (rfl))
    · exact absurd hcd (by unfold cdCost; (repeat' split) <;> decide)
  · obtain ⟨hcd, rfl⟩ := h2
    refine lv_i2l hx hb dL_setCost_8 rfl ?_
    refine wrO hC hY dL_setCost_9 (fun H locs hY => ?_)
    refine lv_goto (tgt := 21) hx hb dL_setCost_10 (by decide) ?_
    refine lv_iconst (v := 0) hx hb dL_setCost_21 (by decide) ?_
    rw [hcd, if_pos rfl, if_pos rfl]
    exact vx_ret (g_iret hC hr hlocks hY ⟨Nat.le_of_ble_eq_true rfl, Nat.le_of_ble_eq_true rfl⟩ dL_setCost_22 (rfl))

set_option maxHeartbeats 4000000 in
set_option maxRecDepth 100000 in
theorem c_L_end (l : Launch) (G : GG) (ad : Nat → Nat) (σ : St) (n : Nat) (τ : St) (j : Nat) (th : Int32) (o : OL) (od : OD) (hst : l.stackTraces = false) (hn : n ≤ 24) (hI : ∀ k, k < n → okL σ k) (p0 p1 : Int32)  : vx_Met l yL_end wsL_end ({ frames := 9, cells := 6, slots := 36, locals := 200 }) (PcS G ad σ n τ j th o od [.ref (ad 0), .int p0, .int p1, .ref (ad 21)]) (Qi G (3 * n + 23) ad (ctS G ad (if cdEnd σ n p0 p1 = 0 then us σ 5 (ix p0) p1 else σ) n τ j th (if cdEnd σ n p0 p1 = 0 then vp_updL o 0 ((σ 5 (ix p0)).toInt64) else o) od) (fun r => r = cdEnd σ n p0 p1)) (fun _ _ _ => False) 6 36 (gF G) := by
  refine vx_ofWH (cc := cL_end) (maxL := 5) (ret := (some .int)) (hh := [(0, 10, 13, 13), (0, 10, 17, 15)]) (by decide) rfl ?_
  intro p e s m args below meth c s₁ B hml hv
  obtain ⟨rfl, hY⟩ := hv
  have hts := atoms_spec (ws := wsL_end) B.pre
  have hC : CallFix p m c cL_end 5 s _ wsL_end RL := ⟨B.exec, B.bytes, hml, findClass_of_methodNamed B.named, hts⟩
  have hxt := vx_table (x := yL_end) B (hts _ List.mem_cons_self)
  have hx := hC.1
  have hb := hC.2.1
  have hr := B.returns
  have hlocks := B.notSynchronized
  have hl := lv_entry ([.ref (ad 0), .int p0, .int p1, .ref (ad 21)]) (n := 5) (Nat.le_of_ble_eq_true rfl)
  rw [lg_entry_eq]
  generalize (lg_sl ([.ref (ad 0), .int p0, .int p1, .ref (ad 21)]) ++ List.replicate (5 - (lg_sl ([.ref (ad 0), .int p0, .int p1, .ref (ad 21)])).length) Slot.unset).toArray = ls at hl ⊢
  have hl : lv_has ls 5 [(0, .ref (ad 0)), (1, .int p0), (2, .int p1), (3, .ref (ad 21))] := hl
  refine lv_aload_n hx hb dL_end_0 rfl (lv_at hl 3 rfl) ?_
  refine lv_iconst (v := 0) hx hb dL_end_1 (by decide) ?_
  refine lv_aload_n hx hb dL_end_2 rfl (lv_at hl 0 rfl) ?_
  refine lv_iload_n hx hb dL_end_3 rfl (lv_at hl 1 rfl) ?_
  refine lv_iload_n hx hb dL_end_4 rfl (lv_at hl 2 rfl) ?_
  refine gx_callCi hY (gx_runV (n := 2) (q := (RX1, TX1, 5)) (r := 0) hC (c_X1_end l G ad σ n τ j th o od hst hn hI p0 p1) gL_end_X1_end rfl ⟨rfl, rfl⟩ (by decide +kernel) ⟨Nat.le_of_ble_eq_true rfl, Nat.le_of_ble_eq_true rfl⟩ hY (by omega) rfl (ci := 1) rfl rfl hl.1 rfl (Nat.le_of_ble_eq_true rfl) dL_end_5 ⟨Nat.le_of_ble_eq_true rfl, Nat.le_of_ble_eq_true rfl⟩) (fun E H locs q9 ce hex hY hc1 hc2 hc3 => ?_) (fun r1 H locs h2 hY => ?_)
  · rcases hex with ⟨rfl, hcd⟩ | ⟨rfl, hcd⟩ | ⟨rfl, hcd⟩
    · refine g_catch1 hC hY hxt rfl (by decide) (by decide +kernel) hc1 hc2 hc3 ?_
      refine lv_astore (lv' := [(4, .ref q9), (0, .ref (ad 0)), (1, .int p0), (2, .int p1), (3, .ref (ad 21))]) hx hb dL_end_13 hl (by decide) rfl (fun ls hl => ?_)
      refine lv_iconst (v := 1) hx hb dL_end_15 (by decide) ?_
      rw [hcd, if_neg (by decide), if_neg (by decide)]
      exact vx_ret (g_iret hC hr hlocks hY ⟨Nat.le_of_ble_eq_true rfl, Nat.le_of_ble_eq_true rfl⟩ dL_end_16 (rfl))
    · refine g_catch2 hC hY hxt rfl (by decide) (by decide +kernel) (by decide +kernel) hc1 hc2 hc3 ?_
      refine lv_astore (lv' := [(4, .ref q9), (0, .ref (ad 0)), (1, .int p0), (2, .int p1), (3, .ref (ad 21))]) hx hb dL_end_17 hl (by decide) rfl (fun ls hl => ?_)
      refine lv_iconst (v := 2) hx hb dL_end_19 (by decide) ?_
      rw [hcd, if_neg (by decide), if_neg (by decide)]
      exact vx_ret (g_iret hC hr hlocks hY ⟨Nat.le_of_ble_eq_true rfl, Nat.le_of_ble_eq_true rfl⟩ dL_end_20 (rfl))
    · exact absurd hcd (by unfold cdEnd; (repeat' split) <;> decide)
  · obtain ⟨hcd, rfl⟩ := h2
    refine lv_i2l hx hb dL_end_8 rfl ?_
    refine wrO hC hY dL_end_9 (fun H locs hY => ?_)
    refine lv_goto (tgt := 21) hx hb dL_end_10 (by decide) ?_
    refine lv_iconst (v := 0) hx hb dL_end_21 (by decide) ?_
    rw [hcd, if_pos rfl, if_pos rfl]
    exact vx_ret (g_iret hC hr hlocks hY ⟨Nat.le_of_ble_eq_true rfl, Nat.le_of_ble_eq_true rfl⟩ dL_end_22 (rfl))

set_option maxHeartbeats 4000000 in
set_option maxRecDepth 100000 in
theorem c_L_step (l : Launch) (G : GG) (ad : Nat → Nat) (σ : St) (n : Nat) (τ : St) (j : Nat) (th : Int32) (o : OL) (od : OD) (hst : l.stackTraces = false) (hn : n ≤ 24) (hI : ∀ k, k < n → okL σ k) (p0 p1 p2 : Int32)  : vx_Met l yL_step wsL_step ({ frames := 9, cells := 6, slots := 36, locals := 200 }) (PcS G ad σ n τ j th o od [.ref (ad 0), .int p0, .int p1, .int p2, .ref (ad 21)]) (Qi G (3 * n + 23) ad (ctS G ad (if cdStep σ n p0 p1 p2 = 0 then psS σ (ix p0) p1 p2 else σ) n τ j th (if cdStep σ n p0 p1 p2 = 0 then vp_updL o 0 ((psS σ (ix p0) p1 p2 12 (ix p0)).toInt64) else o) od) (fun r => r = cdStep σ n p0 p1 p2)) (fun _ _ _ => False) 6 36 (gF G) := by
  refine vx_ofWH (cc := cL_step) (maxL := 6) (ret := (some .int)) (hh := [(0, 12, 15, 13), (0, 12, 19, 15), (0, 12, 23, 27)]) (by decide) rfl ?_
  intro p e s m args below meth c s₁ B hml hv
  obtain ⟨rfl, hY⟩ := hv
  have hts := atoms_spec (ws := wsL_step) B.pre
  have hC : CallFix p m c cL_step 6 s _ wsL_step RL := ⟨B.exec, B.bytes, hml, findClass_of_methodNamed B.named, hts⟩
  have hxt := vx_table (x := yL_step) B (hts _ List.mem_cons_self)
  have hx := hC.1
  have hb := hC.2.1
  have hr := B.returns
  have hlocks := B.notSynchronized
  have hl := lv_entry ([.ref (ad 0), .int p0, .int p1, .int p2, .ref (ad 21)]) (n := 6) (Nat.le_of_ble_eq_true rfl)
  rw [lg_entry_eq]
  generalize (lg_sl ([.ref (ad 0), .int p0, .int p1, .int p2, .ref (ad 21)]) ++ List.replicate (6 - (lg_sl ([.ref (ad 0), .int p0, .int p1, .int p2, .ref (ad 21)])).length) Slot.unset).toArray = ls at hl ⊢
  have hl : lv_has ls 6 [(0, .ref (ad 0)), (1, .int p0), (2, .int p1), (3, .int p2), (4, .ref (ad 21))] := hl
  refine lv_aload hx hb dL_step_0 (lv_at hl 4 rfl) ?_
  refine lv_iconst (v := 0) hx hb dL_step_2 (by decide) ?_
  refine lv_aload_n hx hb dL_step_3 rfl (lv_at hl 0 rfl) ?_
  refine lv_iload_n hx hb dL_step_4 rfl (lv_at hl 1 rfl) ?_
  refine lv_iload_n hx hb dL_step_5 rfl (lv_at hl 2 rfl) ?_
  refine lv_iload_n hx hb dL_step_6 rfl (lv_at hl 3 rfl) ?_
  refine gx_callCi hY (gx_runV (n := 3) (q := (RX1, TX1, 5)) (r := 0) hC (c_X1_step l G ad σ n τ j th o od hst hn hI p0 p1 p2) gL_step_X1_step rfl ⟨rfl, rfl⟩ (by decide +kernel) ⟨Nat.le_of_ble_eq_true rfl, Nat.le_of_ble_eq_true rfl⟩ hY (by omega) rfl (ci := 1) rfl rfl hl.1 rfl (Nat.le_of_ble_eq_true rfl) dL_step_7 ⟨Nat.le_of_ble_eq_true rfl, Nat.le_of_ble_eq_true rfl⟩) (fun E H locs q9 ce hex hY hc1 hc2 hc3 => ?_) (fun r1 H locs h2 hY => ?_)
  · rcases hex with ⟨rfl, hcd⟩ | ⟨rfl, hcd⟩ | ⟨rfl, hcd⟩
    · refine g_catch1 hC hY hxt rfl (by decide) (by decide +kernel) hc1 hc2 hc3 ?_
      refine lv_astore (lv' := [(5, .ref q9), (0, .ref (ad 0)), (1, .int p0), (2, .int p1), (3, .int p2), (4, .ref (ad 21))]) hx hb dL_step_15 hl (by decide) rfl (fun ls hl => ?_)
      refine lv_iconst (v := 1) hx hb dL_step_17 (by decide) ?_
      rw [hcd, if_neg (by decide), if_neg (by decide)]
      exact vx_ret (g_iret hC hr hlocks hY ⟨Nat.le_of_ble_eq_true rfl, Nat.le_of_ble_eq_true rfl⟩ dL_step_18 (rfl))
    · refine g_catch2 hC hY hxt rfl (by decide) (by decide +kernel) (by decide +kernel) hc1 hc2 hc3 ?_
      refine lv_astore (lv' := [(5, .ref q9), (0, .ref (ad 0)), (1, .int p0), (2, .int p1), (3, .int p2), (4, .ref (ad 21))]) hx hb dL_step_19 hl (by decide) rfl (fun ls hl => ?_)
      refine lv_iconst (v := 2) hx hb dL_step_21 (by decide) ?_
      rw [hcd, if_neg (by decide), if_neg (by decide)]
      exact vx_ret (g_iret hC hr hlocks hY ⟨Nat.le_of_ble_eq_true rfl, Nat.le_of_ble_eq_true rfl⟩ dL_step_22 (rfl))
    · refine g_catch3 hC hY hxt rfl (by decide) (by decide +kernel) (by decide +kernel) (by decide +kernel) hc1 hc2 hc3 ?_
      refine lv_astore (lv' := [(5, .ref q9), (0, .ref (ad 0)), (1, .int p0), (2, .int p1), (3, .int p2), (4, .ref (ad 21))]) hx hb dL_step_23 hl (by decide) rfl (fun ls hl => ?_)
      refine lv_iconst (v := 3) hx hb dL_step_25 (by decide) ?_
      rw [hcd, if_neg (by decide), if_neg (by decide)]
      exact vx_ret (g_iret hC hr hlocks hY ⟨Nat.le_of_ble_eq_true rfl, Nat.le_of_ble_eq_true rfl⟩ dL_step_26 (rfl))
  · obtain ⟨hcd, rfl⟩ := h2
    refine lv_i2l hx hb dL_step_10 rfl ?_
    refine wrO hC hY dL_step_11 (fun H locs hY => ?_)
    refine lv_goto (tgt := 27) hx hb dL_step_12 (by decide) ?_
    refine lv_iconst (v := 0) hx hb dL_step_27 (by decide) ?_
    rw [hcd, if_pos rfl, if_pos rfl]
    exact vx_ret (g_iret hC hr hlocks hY ⟨Nat.le_of_ble_eq_true rfl, Nat.le_of_ble_eq_true rfl⟩ dL_step_28 (rfl))

set_option maxHeartbeats 4000000 in
set_option maxRecDepth 100000 in
theorem c_L_setTerms (l : Launch) (G : GG) (ad : Nat → Nat) (σ : St) (n : Nat) (τ : St) (j : Nat) (th : Int32) (o : OL) (od : OD) (hst : l.stackTraces = false) (hn : n ≤ 24) (hI : ∀ k, k < n → okL σ k) (p0 p1 p2 : Int32)  : vx_Met l yL_setTerms wsL_setTerms ({ frames := 9, cells := 6, slots := 36, locals := 200 }) (PcS G ad σ n τ j th o od [.ref (ad 0), .int p0, .int p1, .int p2]) (Qi G (3 * n + 23) ad (ctS G ad (if cdTerms n p0 p1 p2 = 0 then us (us σ 7 (ix p0) p1) 8 (ix p0) p2 else σ) n τ j th o od) (fun r => r = cdTerms n p0 p1 p2)) (fun _ _ _ => False) 6 36 (gF G) := by
  refine vx_ofWH (cc := cL_setTerms) (maxL := 5) (ret := (some .int)) (hh := [(0, 7, 10, 13), (0, 7, 14, 15)]) (by decide) rfl ?_
  intro p e s m args below meth c s₁ B hml hv
  obtain ⟨rfl, hY⟩ := hv
  have hts := atoms_spec (ws := wsL_setTerms) B.pre
  have hC : CallFix p m c cL_setTerms 5 s _ wsL_setTerms RL := ⟨B.exec, B.bytes, hml, findClass_of_methodNamed B.named, hts⟩
  have hxt := vx_table (x := yL_setTerms) B (hts _ List.mem_cons_self)
  have hx := hC.1
  have hb := hC.2.1
  have hr := B.returns
  have hlocks := B.notSynchronized
  have hl := lv_entry ([.ref (ad 0), .int p0, .int p1, .int p2]) (n := 5) (Nat.le_of_ble_eq_true rfl)
  rw [lg_entry_eq]
  generalize (lg_sl ([.ref (ad 0), .int p0, .int p1, .int p2]) ++ List.replicate (5 - (lg_sl ([.ref (ad 0), .int p0, .int p1, .int p2])).length) Slot.unset).toArray = ls at hl ⊢
  have hl : lv_has ls 5 [(0, .ref (ad 0)), (1, .int p0), (2, .int p1), (3, .int p2)] := hl
  refine lv_aload_n hx hb dL_setTerms_0 rfl (lv_at hl 0 rfl) ?_
  refine lv_iload_n hx hb dL_setTerms_1 rfl (lv_at hl 1 rfl) ?_
  refine lv_iload_n hx hb dL_setTerms_2 rfl (lv_at hl 2 rfl) ?_
  refine lv_iload_n hx hb dL_setTerms_3 rfl (lv_at hl 3 rfl) ?_
  refine gx_callCv hY (gx_runV (n := 3) (q := (RX1, TX1, 5)) (r := 0) hC (c_X1_setTerms l G ad σ n τ j th o od hst hn p0 p1 p2) gL_setTerms_X1_setTerms rfl ⟨rfl, rfl⟩ (by decide +kernel) ⟨Nat.le_of_ble_eq_true rfl, Nat.le_of_ble_eq_true rfl⟩ hY (by omega) rfl (ci := 1) rfl rfl hl.1 rfl (Nat.le_of_ble_eq_true rfl) dL_setTerms_4 ⟨Nat.le_of_ble_eq_true rfl, Nat.le_of_ble_eq_true rfl⟩) (fun E H locs q9 ce hex hY hc1 hc2 hc3 => ?_) (fun H locs h2 hY => ?_)
  · rcases hex with ⟨rfl, hcd⟩ | ⟨rfl, hcd⟩ | ⟨rfl, hcd⟩
    · refine g_catch1 hC hY hxt rfl (by decide) (by decide +kernel) hc1 hc2 hc3 ?_
      refine lv_astore (lv' := [(4, .ref q9), (0, .ref (ad 0)), (1, .int p0), (2, .int p1), (3, .int p2)]) hx hb dL_setTerms_10 hl (by decide) rfl (fun ls hl => ?_)
      refine lv_iconst (v := 1) hx hb dL_setTerms_12 (by decide) ?_
      rw [hcd, if_neg (by decide)]
      exact vx_ret (g_iret hC hr hlocks hY ⟨Nat.le_of_ble_eq_true rfl, Nat.le_of_ble_eq_true rfl⟩ dL_setTerms_13 (rfl))
    · refine g_catch2 hC hY hxt rfl (by decide) (by decide +kernel) (by decide +kernel) hc1 hc2 hc3 ?_
      refine lv_astore (lv' := [(4, .ref q9), (0, .ref (ad 0)), (1, .int p0), (2, .int p1), (3, .int p2)]) hx hb dL_setTerms_14 hl (by decide) rfl (fun ls hl => ?_)
      refine lv_iconst (v := 2) hx hb dL_setTerms_16 (by decide) ?_
      rw [hcd, if_neg (by decide)]
      exact vx_ret (g_iret hC hr hlocks hY ⟨Nat.le_of_ble_eq_true rfl, Nat.le_of_ble_eq_true rfl⟩ dL_setTerms_17 (rfl))
    · exact absurd hcd (by unfold cdTerms; (repeat' split) <;> decide)
  · have hcd := h2
    refine lv_goto (tgt := 18) hx hb dL_setTerms_7 (by decide) ?_
    refine lv_iconst (v := 0) hx hb dL_setTerms_18 (by decide) ?_
    rw [hcd, if_pos rfl]
    exact vx_ret (g_iret hC hr hlocks hY ⟨Nat.le_of_ble_eq_true rfl, Nat.le_of_ble_eq_true rfl⟩ dL_setTerms_19 (rfl))

set_option maxHeartbeats 4000000 in
set_option maxRecDepth 100000 in
theorem c_L_setService (l : Launch) (G : GG) (ad : Nat → Nat) (σ : St) (n : Nat) (τ : St) (j : Nat) (th : Int32) (o : OL) (od : OD) (hst : l.stackTraces = false) (hn : n ≤ 24) (hI : ∀ k, k < n → okL σ k) (p0 p1 p2 : Int32)  : vx_Met l yL_setService wsL_setService ({ frames := 9, cells := 6, slots := 36, locals := 200 }) (PcS G ad σ n τ j th o od [.ref (ad 0), .int p0, .int p1, .int p2]) (Qi G (3 * n + 23) ad (ctS G ad (if cdServ n p0 p1 p2 = 0 then us (us σ 9 (ix p0) p1) 10 (ix p0) p2 else σ) n τ j th o od) (fun r => r = cdServ n p0 p1 p2)) (fun _ _ _ => False) 6 36 (gF G) := by
  refine vx_ofWH (cc := cL_setService) (maxL := 5) (ret := (some .int)) (hh := [(0, 7, 10, 13), (0, 7, 14, 15)]) (by decide) rfl ?_
  intro p e s m args below meth c s₁ B hml hv
  obtain ⟨rfl, hY⟩ := hv
  have hts := atoms_spec (ws := wsL_setService) B.pre
  have hC : CallFix p m c cL_setService 5 s _ wsL_setService RL := ⟨B.exec, B.bytes, hml, findClass_of_methodNamed B.named, hts⟩
  have hxt := vx_table (x := yL_setService) B (hts _ List.mem_cons_self)
  have hx := hC.1
  have hb := hC.2.1
  have hr := B.returns
  have hlocks := B.notSynchronized
  have hl := lv_entry ([.ref (ad 0), .int p0, .int p1, .int p2]) (n := 5) (Nat.le_of_ble_eq_true rfl)
  rw [lg_entry_eq]
  generalize (lg_sl ([.ref (ad 0), .int p0, .int p1, .int p2]) ++ List.replicate (5 - (lg_sl ([.ref (ad 0), .int p0, .int p1, .int p2])).length) Slot.unset).toArray = ls at hl ⊢
  have hl : lv_has ls 5 [(0, .ref (ad 0)), (1, .int p0), (2, .int p1), (3, .int p2)] := hl
  refine lv_aload_n hx hb dL_setService_0 rfl (lv_at hl 0 rfl) ?_
  refine lv_iload_n hx hb dL_setService_1 rfl (lv_at hl 1 rfl) ?_
  refine lv_iload_n hx hb dL_setService_2 rfl (lv_at hl 2 rfl) ?_
  refine lv_iload_n hx hb dL_setService_3 rfl (lv_at hl 3 rfl) ?_
  refine gx_callCv hY (gx_runV (n := 3) (q := (RX1, TX1, 5)) (r := 0) hC (c_X1_setService l G ad σ n τ j th o od hst hn p0 p1 p2) gL_setService_X1_setService rfl ⟨rfl, rfl⟩ (by decide +kernel) ⟨Nat.le_of_ble_eq_true rfl, Nat.le_of_ble_eq_true rfl⟩ hY (by omega) rfl (ci := 1) rfl rfl hl.1 rfl (Nat.le_of_ble_eq_true rfl) dL_setService_4 ⟨Nat.le_of_ble_eq_true rfl, Nat.le_of_ble_eq_true rfl⟩) (fun E H locs q9 ce hex hY hc1 hc2 hc3 => ?_) (fun H locs h2 hY => ?_)
  · rcases hex with ⟨rfl, hcd⟩ | ⟨rfl, hcd⟩ | ⟨rfl, hcd⟩
    · refine g_catch1 hC hY hxt rfl (by decide) (by decide +kernel) hc1 hc2 hc3 ?_
      refine lv_astore (lv' := [(4, .ref q9), (0, .ref (ad 0)), (1, .int p0), (2, .int p1), (3, .int p2)]) hx hb dL_setService_10 hl (by decide) rfl (fun ls hl => ?_)
      refine lv_iconst (v := 1) hx hb dL_setService_12 (by decide) ?_
      rw [hcd, if_neg (by decide)]
      exact vx_ret (g_iret hC hr hlocks hY ⟨Nat.le_of_ble_eq_true rfl, Nat.le_of_ble_eq_true rfl⟩ dL_setService_13 (rfl))
    · refine g_catch2 hC hY hxt rfl (by decide) (by decide +kernel) (by decide +kernel) hc1 hc2 hc3 ?_
      refine lv_astore (lv' := [(4, .ref q9), (0, .ref (ad 0)), (1, .int p0), (2, .int p1), (3, .int p2)]) hx hb dL_setService_14 hl (by decide) rfl (fun ls hl => ?_)
      refine lv_iconst (v := 2) hx hb dL_setService_16 (by decide) ?_
      rw [hcd, if_neg (by decide)]
      exact vx_ret (g_iret hC hr hlocks hY ⟨Nat.le_of_ble_eq_true rfl, Nat.le_of_ble_eq_true rfl⟩ dL_setService_17 (rfl))
    · exact absurd hcd (by unfold cdServ; (repeat' split) <;> decide)
  · have hcd := h2
    refine lv_goto (tgt := 18) hx hb dL_setService_7 (by decide) ?_
    refine lv_iconst (v := 0) hx hb dL_setService_18 (by decide) ?_
    rw [hcd, if_pos rfl]
    exact vx_ret (g_iret hC hr hlocks hY ⟨Nat.le_of_ble_eq_true rfl, Nat.le_of_ble_eq_true rfl⟩ dL_setService_19 (rfl))

set_option maxHeartbeats 4000000 in
set_option maxRecDepth 100000 in
theorem c_L_topUp (l : Launch) (G : GG) (ad : Nat → Nat) (σ : St) (n : Nat) (τ : St) (j : Nat) (th : Int32) (o : OL) (od : OD) (hst : l.stackTraces = false) (hn : n ≤ 24) (hI : ∀ k, k < n → okL σ k) (p0 p1 p2 : Int32)  : vx_Met l yL_topUp wsL_topUp ({ frames := 9, cells := 6, slots := 36, locals := 200 }) (PcS G ad σ n τ j th o od [.ref (ad 0), .int p0, .int p1, .int p2, .ref (ad 21)]) (Qi G (3 * n + 23) ad (ctS G ad (if cdTop σ n p0 p1 p2 = 0 then us σ 11 (ix p0) (σ 11 (ix p0) + tpV σ (ix p0) p1 p2) else σ) n τ j th (if cdTop σ n p0 p1 p2 = 0 then vp_updL o 0 ((tpV σ (ix p0) p1 p2).toInt64) else o) od) (fun r => r = cdTop σ n p0 p1 p2)) (fun _ _ _ => False) 6 36 (gF G) := by
  refine vx_ofWH (cc := cL_topUp) (maxL := 6) (ret := (some .int)) (hh := [(0, 12, 15, 13), (0, 12, 19, 15)]) (by decide) rfl ?_
  intro p e s m args below meth c s₁ B hml hv
  obtain ⟨rfl, hY⟩ := hv
  have hts := atoms_spec (ws := wsL_topUp) B.pre
  have hC : CallFix p m c cL_topUp 6 s _ wsL_topUp RL := ⟨B.exec, B.bytes, hml, findClass_of_methodNamed B.named, hts⟩
  have hxt := vx_table (x := yL_topUp) B (hts _ List.mem_cons_self)
  have hx := hC.1
  have hb := hC.2.1
  have hr := B.returns
  have hlocks := B.notSynchronized
  have hl := lv_entry ([.ref (ad 0), .int p0, .int p1, .int p2, .ref (ad 21)]) (n := 6) (Nat.le_of_ble_eq_true rfl)
  rw [lg_entry_eq]
  generalize (lg_sl ([.ref (ad 0), .int p0, .int p1, .int p2, .ref (ad 21)]) ++ List.replicate (6 - (lg_sl ([.ref (ad 0), .int p0, .int p1, .int p2, .ref (ad 21)])).length) Slot.unset).toArray = ls at hl ⊢
  have hl : lv_has ls 6 [(0, .ref (ad 0)), (1, .int p0), (2, .int p1), (3, .int p2), (4, .ref (ad 21))] := hl
  refine lv_aload hx hb dL_topUp_0 (lv_at hl 4 rfl) ?_
  refine lv_iconst (v := 0) hx hb dL_topUp_2 (by decide) ?_
  refine lv_aload_n hx hb dL_topUp_3 rfl (lv_at hl 0 rfl) ?_
  refine lv_iload_n hx hb dL_topUp_4 rfl (lv_at hl 1 rfl) ?_
  refine lv_iload_n hx hb dL_topUp_5 rfl (lv_at hl 2 rfl) ?_
  refine lv_iload_n hx hb dL_topUp_6 rfl (lv_at hl 3 rfl) ?_
  refine gx_callCi hY (gx_runV (n := 3) (q := (RX1, TX1, 5)) (r := 0) hC (c_X1_topUp l G ad σ n τ j th o od hst hn hI p0 p1 p2) gL_topUp_X1_topUp rfl ⟨rfl, rfl⟩ (by decide +kernel) ⟨Nat.le_of_ble_eq_true rfl, Nat.le_of_ble_eq_true rfl⟩ hY (by omega) rfl (ci := 1) rfl rfl hl.1 rfl (Nat.le_of_ble_eq_true rfl) dL_topUp_7 ⟨Nat.le_of_ble_eq_true rfl, Nat.le_of_ble_eq_true rfl⟩) (fun E H locs q9 ce hex hY hc1 hc2 hc3 => ?_) (fun r1 H locs h2 hY => ?_)
  · rcases hex with ⟨rfl, hcd⟩ | ⟨rfl, hcd⟩ | ⟨rfl, hcd⟩
    · refine g_catch1 hC hY hxt rfl (by decide) (by decide +kernel) hc1 hc2 hc3 ?_
      refine lv_astore (lv' := [(5, .ref q9), (0, .ref (ad 0)), (1, .int p0), (2, .int p1), (3, .int p2), (4, .ref (ad 21))]) hx hb dL_topUp_15 hl (by decide) rfl (fun ls hl => ?_)
      refine lv_iconst (v := 1) hx hb dL_topUp_17 (by decide) ?_
      rw [hcd, if_neg (by decide), if_neg (by decide)]
      exact vx_ret (g_iret hC hr hlocks hY ⟨Nat.le_of_ble_eq_true rfl, Nat.le_of_ble_eq_true rfl⟩ dL_topUp_18 (rfl))
    · refine g_catch2 hC hY hxt rfl (by decide) (by decide +kernel) (by decide +kernel) hc1 hc2 hc3 ?_
      refine lv_astore (lv' := [(5, .ref q9), (0, .ref (ad 0)), (1, .int p0), (2, .int p1), (3, .int p2), (4, .ref (ad 21))]) hx hb dL_topUp_19 hl (by decide) rfl (fun ls hl => ?_)
      refine lv_iconst (v := 2) hx hb dL_topUp_21 (by decide) ?_
      rw [hcd, if_neg (by decide), if_neg (by decide)]
      exact vx_ret (g_iret hC hr hlocks hY ⟨Nat.le_of_ble_eq_true rfl, Nat.le_of_ble_eq_true rfl⟩ dL_topUp_22 (rfl))
    · exact absurd hcd (by unfold cdTop; (repeat' split) <;> decide)
  · obtain ⟨hcd, rfl⟩ := h2
    refine lv_i2l hx hb dL_topUp_10 rfl ?_
    refine wrO hC hY dL_topUp_11 (fun H locs hY => ?_)
    refine lv_goto (tgt := 23) hx hb dL_topUp_12 (by decide) ?_
    refine lv_iconst (v := 0) hx hb dL_topUp_23 (by decide) ?_
    rw [hcd, if_pos rfl, if_pos rfl]
    exact vx_ret (g_iret hC hr hlocks hY ⟨Nat.le_of_ble_eq_true rfl, Nat.le_of_ble_eq_true rfl⟩ dL_topUp_24 (rfl))

set_option maxHeartbeats 4000000 in
set_option maxRecDepth 100000 in
theorem c_L_draw (l : Launch) (G : GG) (ad : Nat → Nat) (σ : St) (n : Nat) (τ : St) (j : Nat) (th : Int32) (o : OL) (od : OD) (hst : l.stackTraces = false) (hn : n ≤ 24) (hI : ∀ k, k < n → okL σ k) (p0 p1 : Int32)  : vx_Met l yL_draw wsL_draw ({ frames := 9, cells := 6, slots := 36, locals := 200 }) (PcS G ad σ n τ j th o od [.ref (ad 0), .int p0, .int p1, .ref (ad 21)]) (Qi G (3 * n + 23) ad (ctS G ad (if cdDraw σ n p0 p1 = 0 then us σ 11 (ix p0) (σ 11 (ix p0) - p1) else σ) n τ j th (if cdDraw σ n p0 p1 = 0 then vp_updL o 0 ((us σ 11 (ix p0) (σ 11 (ix p0) - p1) 11 (ix p0)).toInt64) else o) od) (fun r => r = cdDraw σ n p0 p1)) (fun _ _ _ => False) 6 36 (gF G) := by
  refine vx_ofWH (cc := cL_draw) (maxL := 5) (ret := (some .int)) (hh := [(0, 10, 13, 13), (0, 10, 17, 15), (0, 10, 21, 27)]) (by decide) rfl ?_
  intro p e s m args below meth c s₁ B hml hv
  obtain ⟨rfl, hY⟩ := hv
  have hts := atoms_spec (ws := wsL_draw) B.pre
  have hC : CallFix p m c cL_draw 5 s _ wsL_draw RL := ⟨B.exec, B.bytes, hml, findClass_of_methodNamed B.named, hts⟩
  have hxt := vx_table (x := yL_draw) B (hts _ List.mem_cons_self)
  have hx := hC.1
  have hb := hC.2.1
  have hr := B.returns
  have hlocks := B.notSynchronized
  have hl := lv_entry ([.ref (ad 0), .int p0, .int p1, .ref (ad 21)]) (n := 5) (Nat.le_of_ble_eq_true rfl)
  rw [lg_entry_eq]
  generalize (lg_sl ([.ref (ad 0), .int p0, .int p1, .ref (ad 21)]) ++ List.replicate (5 - (lg_sl ([.ref (ad 0), .int p0, .int p1, .ref (ad 21)])).length) Slot.unset).toArray = ls at hl ⊢
  have hl : lv_has ls 5 [(0, .ref (ad 0)), (1, .int p0), (2, .int p1), (3, .ref (ad 21))] := hl
  refine lv_aload_n hx hb dL_draw_0 rfl (lv_at hl 3 rfl) ?_
  refine lv_iconst (v := 0) hx hb dL_draw_1 (by decide) ?_
  refine lv_aload_n hx hb dL_draw_2 rfl (lv_at hl 0 rfl) ?_
  refine lv_iload_n hx hb dL_draw_3 rfl (lv_at hl 1 rfl) ?_
  refine lv_iload_n hx hb dL_draw_4 rfl (lv_at hl 2 rfl) ?_
  refine gx_callCi hY (gx_runV (n := 2) (q := (RX1, TX1, 5)) (r := 0) hC (c_X1_draw l G ad σ n τ j th o od hst hn p0 p1) gL_draw_X1_draw rfl ⟨rfl, rfl⟩ (by decide +kernel) ⟨Nat.le_of_ble_eq_true rfl, Nat.le_of_ble_eq_true rfl⟩ hY (by omega) rfl (ci := 1) rfl rfl hl.1 rfl (Nat.le_of_ble_eq_true rfl) dL_draw_5 ⟨Nat.le_of_ble_eq_true rfl, Nat.le_of_ble_eq_true rfl⟩) (fun E H locs q9 ce hex hY hc1 hc2 hc3 => ?_) (fun r1 H locs h2 hY => ?_)
  · rcases hex with ⟨rfl, hcd⟩ | ⟨rfl, hcd⟩ | ⟨rfl, hcd⟩
    · refine g_catch1 hC hY hxt rfl (by decide) (by decide +kernel) hc1 hc2 hc3 ?_
      refine lv_astore (lv' := [(4, .ref q9), (0, .ref (ad 0)), (1, .int p0), (2, .int p1), (3, .ref (ad 21))]) hx hb dL_draw_13 hl (by decide) rfl (fun ls hl => ?_)
      refine lv_iconst (v := 1) hx hb dL_draw_15 (by decide) ?_
      rw [hcd, if_neg (by decide), if_neg (by decide)]
      exact vx_ret (g_iret hC hr hlocks hY ⟨Nat.le_of_ble_eq_true rfl, Nat.le_of_ble_eq_true rfl⟩ dL_draw_16 (rfl))
    · refine g_catch2 hC hY hxt rfl (by decide) (by decide +kernel) (by decide +kernel) hc1 hc2 hc3 ?_
      refine lv_astore (lv' := [(4, .ref q9), (0, .ref (ad 0)), (1, .int p0), (2, .int p1), (3, .ref (ad 21))]) hx hb dL_draw_17 hl (by decide) rfl (fun ls hl => ?_)
      refine lv_iconst (v := 2) hx hb dL_draw_19 (by decide) ?_
      rw [hcd, if_neg (by decide), if_neg (by decide)]
      exact vx_ret (g_iret hC hr hlocks hY ⟨Nat.le_of_ble_eq_true rfl, Nat.le_of_ble_eq_true rfl⟩ dL_draw_20 (rfl))
    · refine g_catch3 hC hY hxt rfl (by decide) (by decide +kernel) (by decide +kernel) (by decide +kernel) hc1 hc2 hc3 ?_
      refine lv_astore (lv' := [(4, .ref q9), (0, .ref (ad 0)), (1, .int p0), (2, .int p1), (3, .ref (ad 21))]) hx hb dL_draw_21 hl (by decide) rfl (fun ls hl => ?_)
      refine lv_iconst (v := 3) hx hb dL_draw_23 (by decide) ?_
      rw [hcd, if_neg (by decide), if_neg (by decide)]
      exact vx_ret (g_iret hC hr hlocks hY ⟨Nat.le_of_ble_eq_true rfl, Nat.le_of_ble_eq_true rfl⟩ dL_draw_24 (rfl))
  · obtain ⟨hcd, rfl⟩ := h2
    refine lv_i2l hx hb dL_draw_8 rfl ?_
    refine wrO hC hY dL_draw_9 (fun H locs hY => ?_)
    refine lv_goto (tgt := 25) hx hb dL_draw_10 (by decide) ?_
    refine lv_iconst (v := 0) hx hb dL_draw_25 (by decide) ?_
    rw [hcd, if_pos rfl, if_pos rfl]
    exact vx_ret (g_iret hC hr hlocks hY ⟨Nat.le_of_ble_eq_true rfl, Nat.le_of_ble_eq_true rfl⟩ dL_draw_26 (rfl))

set_option maxHeartbeats 4000000 in
set_option maxRecDepth 100000 in
theorem c_L_held (l : Launch) (G : GG) (ad : Nat → Nat) (σ : St) (n : Nat) (τ : St) (j : Nat) (th : Int32) (o : OL) (od : OD) (hst : l.stackTraces = false) (hn : n ≤ 24) (hI : ∀ k, k < n → okL σ k) (p0 : Int32)  : vx_Met l yL_held wsL_held ({ frames := 9, cells := 6, slots := 36, locals := 200 }) (PcS G ad σ n τ j th o od [.ref (ad 0), .int p0, .ref (ad 21)]) (Qi G (3 * n + 23) ad (ctS G ad σ n τ j th (if cdHeld n p0 = 0 then vp_updL o 0 ((σ 11 (ix p0)).toInt64) else o) od) (fun r => r = cdHeld n p0)) (fun _ _ _ => False) 6 36 (gF G) := by
  refine vx_ofWH (cc := cL_held) (maxL := 4) (ret := (some .int)) (hh := [(0, 9, 12, 13)]) (by decide) rfl ?_
  intro p e s m args below meth c s₁ B hml hv
  obtain ⟨rfl, hY⟩ := hv
  have hts := atoms_spec (ws := wsL_held) B.pre
  have hC : CallFix p m c cL_held 4 s _ wsL_held RL := ⟨B.exec, B.bytes, hml, findClass_of_methodNamed B.named, hts⟩
  have hxt := vx_table (x := yL_held) B (hts _ List.mem_cons_self)
  have hx := hC.1
  have hb := hC.2.1
  have hr := B.returns
  have hlocks := B.notSynchronized
  have hl := lv_entry ([.ref (ad 0), .int p0, .ref (ad 21)]) (n := 4) (Nat.le_of_ble_eq_true rfl)
  rw [lg_entry_eq]
  generalize (lg_sl ([.ref (ad 0), .int p0, .ref (ad 21)]) ++ List.replicate (4 - (lg_sl ([.ref (ad 0), .int p0, .ref (ad 21)])).length) Slot.unset).toArray = ls at hl ⊢
  have hl : lv_has ls 4 [(0, .ref (ad 0)), (1, .int p0), (2, .ref (ad 21))] := hl
  refine lv_aload_n hx hb dL_held_0 rfl (lv_at hl 2 rfl) ?_
  refine lv_iconst (v := 0) hx hb dL_held_1 (by decide) ?_
  refine lv_aload_n hx hb dL_held_2 rfl (lv_at hl 0 rfl) ?_
  refine lv_iload_n hx hb dL_held_3 rfl (lv_at hl 1 rfl) ?_
  refine gx_callCi hY (gx_runV (n := 1) (q := (RX1, TX1, 5)) (r := 0) hC (c_X1_held l G ad σ n τ j th o od hst hn p0) gL_held_X1_held rfl ⟨rfl, rfl⟩ (by decide +kernel) ⟨Nat.le_of_ble_eq_true rfl, Nat.le_of_ble_eq_true rfl⟩ hY (by omega) rfl (ci := 1) rfl rfl hl.1 rfl (Nat.le_of_ble_eq_true rfl) dL_held_4 ⟨Nat.le_of_ble_eq_true rfl, Nat.le_of_ble_eq_true rfl⟩) (fun E H locs q9 ce hex hY hc1 hc2 hc3 => ?_) (fun r1 H locs h2 hY => ?_)
  · rcases hex with ⟨rfl, hcd⟩ | ⟨rfl, hcd⟩ | ⟨rfl, hcd⟩
    · refine g_catch1 hC hY hxt rfl (by decide) (by decide +kernel) hc1 hc2 hc3 ?_
      refine lv_astore_n (lv' := [(3, .ref q9), (0, .ref (ad 0)), (1, .int p0), (2, .ref (ad 21))]) hx hb dL_held_12 rfl hl (by decide) rfl (fun ls hl => ?_)
      refine lv_iconst (v := 1) hx hb dL_held_13 (by decide) ?_
      rw [hcd, if_neg (by decide)]
      exact vx_ret (g_iret hC hr hlocks hY ⟨Nat.le_of_ble_eq_true rfl, Nat.le_of_ble_eq_true rfl⟩ dL_held_14 (rfl))
    · exact absurd hcd (by unfold cdHeld; (repeat' split) <;> decide)
    · exact absurd hcd (by unfold cdHeld; (repeat' split) <;> decide)
  · obtain ⟨hcd, rfl⟩ := h2
    refine lv_i2l hx hb dL_held_7 rfl ?_
    refine wrO hC hY dL_held_8 (fun H locs hY => ?_)
    refine lv_goto (tgt := 15) hx hb dL_held_9 (by decide) ?_
    refine lv_iconst (v := 0) hx hb dL_held_15 (by decide) ?_
    rw [hcd, if_pos rfl]
    exact vx_ret (g_iret hC hr hlocks hY ⟨Nat.le_of_ble_eq_true rfl, Nat.le_of_ble_eq_true rfl⟩ dL_held_16 (rfl))

set_option maxHeartbeats 4000000 in
set_option maxRecDepth 100000 in
theorem c_L_leaseOn (l : Launch) (G : GG) (ad : Nat → Nat) (σ : St) (n : Nat) (τ : St) (j : Nat) (th : Int32) (o : OL) (od : OD) (hst : l.stackTraces = false) (hn : n ≤ 24) (hI : ∀ k, k < n → okL σ k) (p0 p1 : Int32)  : vx_Met l yL_leaseOn wsL_leaseOn ({ frames := 9, cells := 6, slots := 36, locals := 200 }) (PcS G ad σ n τ j th o od [.ref (ad 0), .int p0, .int p1, .ref (ad 21)]) (Qi G (3 * n + 23) ad (ctS G ad σ n τ j th (if cdLOn p0 p1 = 0 then vp_updL o 0 ((lnG σ n p0 p1 24 0).toInt64) else o) od) (fun r => r = cdLOn p0 p1)) (fun _ _ _ => False) 6 36 (gF G) := by
  refine vx_ofWH (cc := cL_leaseOn) (maxL := 5) (ret := (some .int)) (hh := [(0, 10, 13, 13)]) (by decide) rfl ?_
  intro p e s m args below meth c s₁ B hml hv
  obtain ⟨rfl, hY⟩ := hv
  have hts := atoms_spec (ws := wsL_leaseOn) B.pre
  have hC : CallFix p m c cL_leaseOn 5 s _ wsL_leaseOn RL := ⟨B.exec, B.bytes, hml, findClass_of_methodNamed B.named, hts⟩
  have hxt := vx_table (x := yL_leaseOn) B (hts _ List.mem_cons_self)
  have hx := hC.1
  have hb := hC.2.1
  have hr := B.returns
  have hlocks := B.notSynchronized
  have hl := lv_entry ([.ref (ad 0), .int p0, .int p1, .ref (ad 21)]) (n := 5) (Nat.le_of_ble_eq_true rfl)
  rw [lg_entry_eq]
  generalize (lg_sl ([.ref (ad 0), .int p0, .int p1, .ref (ad 21)]) ++ List.replicate (5 - (lg_sl ([.ref (ad 0), .int p0, .int p1, .ref (ad 21)])).length) Slot.unset).toArray = ls at hl ⊢
  have hl : lv_has ls 5 [(0, .ref (ad 0)), (1, .int p0), (2, .int p1), (3, .ref (ad 21))] := hl
  refine lv_aload_n hx hb dL_leaseOn_0 rfl (lv_at hl 3 rfl) ?_
  refine lv_iconst (v := 0) hx hb dL_leaseOn_1 (by decide) ?_
  refine lv_aload_n hx hb dL_leaseOn_2 rfl (lv_at hl 0 rfl) ?_
  refine lv_iload_n hx hb dL_leaseOn_3 rfl (lv_at hl 1 rfl) ?_
  refine lv_iload_n hx hb dL_leaseOn_4 rfl (lv_at hl 2 rfl) ?_
  refine gx_callCi hY (gx_runV (n := 2) (q := (RX1, TX1, 5)) (r := 0) hC (c_X1_leaseOn l G ad σ n τ j th o od hst  p0 p1) gL_leaseOn_X1_leaseOn rfl ⟨rfl, rfl⟩ (by decide +kernel) ⟨Nat.le_of_ble_eq_true rfl, Nat.le_of_ble_eq_true rfl⟩ hY (by omega) rfl (ci := 1) rfl rfl hl.1 rfl (Nat.le_of_ble_eq_true rfl) dL_leaseOn_5 ⟨Nat.le_of_ble_eq_true rfl, Nat.le_of_ble_eq_true rfl⟩) (fun E H locs q9 ce hex hY hc1 hc2 hc3 => ?_) (fun r1 H locs h2 hY => ?_)
  · rcases hex with ⟨rfl, hcd⟩ | ⟨rfl, hcd⟩ | ⟨rfl, hcd⟩
    · refine g_catch1 hC hY hxt rfl (by decide) (by decide +kernel) hc1 hc2 hc3 ?_
      refine lv_astore (lv' := [(4, .ref q9), (0, .ref (ad 0)), (1, .int p0), (2, .int p1), (3, .ref (ad 21))]) hx hb dL_leaseOn_13 hl (by decide) rfl (fun ls hl => ?_)
      refine lv_iconst (v := 1) hx hb dL_leaseOn_15 (by decide) ?_
      rw [hcd, if_neg (by decide)]
      exact vx_ret (g_iret hC hr hlocks hY ⟨Nat.le_of_ble_eq_true rfl, Nat.le_of_ble_eq_true rfl⟩ dL_leaseOn_16 (rfl))
    · exact absurd hcd (by unfold cdLOn; (repeat' split) <;> decide)
    · exact absurd hcd (by unfold cdLOn; (repeat' split) <;> decide)
  · obtain ⟨hcd, rfl⟩ := h2
    refine lv_i2l hx hb dL_leaseOn_8 rfl ?_
    refine wrO hC hY dL_leaseOn_9 (fun H locs hY => ?_)
    refine lv_goto (tgt := 17) hx hb dL_leaseOn_10 (by decide) ?_
    refine lv_iconst (v := 0) hx hb dL_leaseOn_17 (by decide) ?_
    rw [hcd, if_pos rfl]
    exact vx_ret (g_iret hC hr hlocks hY ⟨Nat.le_of_ble_eq_true rfl, Nat.le_of_ble_eq_true rfl⟩ dL_leaseOn_18 (rfl))

set_option maxHeartbeats 4000000 in
set_option maxRecDepth 100000 in
theorem c_L_rentOn (l : Launch) (G : GG) (ad : Nat → Nat) (σ : St) (n : Nat) (τ : St) (j : Nat) (th : Int32) (o : OL) (od : OD) (hst : l.stackTraces = false) (hn : n ≤ 24) (hI : ∀ k, k < n → okL σ k) (p0 p1 : Int32)  : vx_Met l yL_rentOn wsL_rentOn ({ frames := 9, cells := 6, slots := 36, locals := 200 }) (PcS G ad σ n τ j th o od [.ref (ad 0), .int p0, .int p1, .ref (ad 21)]) (Qi G (3 * n + 23) ad (ctS G ad σ n τ j th (if cdLX n 7200 p0 p1 = 0 then vp_updL o 0 ((rfF σ (ix p0) p1).toInt64) else o) od) (fun r => r = cdLX n 7200 p0 p1)) (fun _ _ _ => False) 6 36 (gF G) := by
  refine vx_ofWH (cc := cL_rentOn) (maxL := 5) (ret := (some .int)) (hh := [(0, 10, 13, 13)]) (by decide) rfl ?_
  intro p e s m args below meth c s₁ B hml hv
  obtain ⟨rfl, hY⟩ := hv
  have hts := atoms_spec (ws := wsL_rentOn) B.pre
  have hC : CallFix p m c cL_rentOn 5 s _ wsL_rentOn RL := ⟨B.exec, B.bytes, hml, findClass_of_methodNamed B.named, hts⟩
  have hxt := vx_table (x := yL_rentOn) B (hts _ List.mem_cons_self)
  have hx := hC.1
  have hb := hC.2.1
  have hr := B.returns
  have hlocks := B.notSynchronized
  have hl := lv_entry ([.ref (ad 0), .int p0, .int p1, .ref (ad 21)]) (n := 5) (Nat.le_of_ble_eq_true rfl)
  rw [lg_entry_eq]
  generalize (lg_sl ([.ref (ad 0), .int p0, .int p1, .ref (ad 21)]) ++ List.replicate (5 - (lg_sl ([.ref (ad 0), .int p0, .int p1, .ref (ad 21)])).length) Slot.unset).toArray = ls at hl ⊢
  have hl : lv_has ls 5 [(0, .ref (ad 0)), (1, .int p0), (2, .int p1), (3, .ref (ad 21))] := hl
  refine lv_aload_n hx hb dL_rentOn_0 rfl (lv_at hl 3 rfl) ?_
  refine lv_iconst (v := 0) hx hb dL_rentOn_1 (by decide) ?_
  refine lv_aload_n hx hb dL_rentOn_2 rfl (lv_at hl 0 rfl) ?_
  refine lv_iload_n hx hb dL_rentOn_3 rfl (lv_at hl 1 rfl) ?_
  refine lv_iload_n hx hb dL_rentOn_4 rfl (lv_at hl 2 rfl) ?_
  refine gx_callCi hY (gx_runV (n := 2) (q := (RX1, TX1, 5)) (r := 0) hC (c_X1_rentOn l G ad σ n τ j th o od hst hn hI p0 p1) gL_rentOn_X1_rentOn rfl ⟨rfl, rfl⟩ (by decide +kernel) ⟨Nat.le_of_ble_eq_true rfl, Nat.le_of_ble_eq_true rfl⟩ hY (by omega) rfl (ci := 1) rfl rfl hl.1 rfl (Nat.le_of_ble_eq_true rfl) dL_rentOn_5 ⟨Nat.le_of_ble_eq_true rfl, Nat.le_of_ble_eq_true rfl⟩) (fun E H locs q9 ce hex hY hc1 hc2 hc3 => ?_) (fun r1 H locs h2 hY => ?_)
  · rcases hex with ⟨rfl, hcd⟩ | ⟨rfl, hcd⟩ | ⟨rfl, hcd⟩
    · refine g_catch1 hC hY hxt rfl (by decide) (by decide +kernel) hc1 hc2 hc3 ?_
      refine lv_astore (lv' := [(4, .ref q9), (0, .ref (ad 0)), (1, .int p0), (2, .int p1), (3, .ref (ad 21))]) hx hb dL_rentOn_13 hl (by decide) rfl (fun ls hl => ?_)
      refine lv_iconst (v := 1) hx hb dL_rentOn_15 (by decide) ?_
      rw [hcd, if_neg (by decide)]
      exact vx_ret (g_iret hC hr hlocks hY ⟨Nat.le_of_ble_eq_true rfl, Nat.le_of_ble_eq_true rfl⟩ dL_rentOn_16 (rfl))
    · exact absurd hcd (by unfold cdLX; (repeat' split) <;> decide)
    · exact absurd hcd (by unfold cdLX; (repeat' split) <;> decide)
  · obtain ⟨hcd, rfl⟩ := h2
    refine lv_i2l hx hb dL_rentOn_8 rfl ?_
    refine wrO hC hY dL_rentOn_9 (fun H locs hY => ?_)
    refine lv_goto (tgt := 17) hx hb dL_rentOn_10 (by decide) ?_
    refine lv_iconst (v := 0) hx hb dL_rentOn_17 (by decide) ?_
    rw [hcd, if_pos rfl]
    exact vx_ret (g_iret hC hr hlocks hY ⟨Nat.le_of_ble_eq_true rfl, Nat.le_of_ble_eq_true rfl⟩ dL_rentOn_18 (rfl))

set_option maxHeartbeats 4000000 in
set_option maxRecDepth 100000 in
theorem c_L_bill (l : Launch) (G : GG) (ad : Nat → Nat) (σ : St) (n : Nat) (τ : St) (j : Nat) (th : Int32) (o : OL) (od : OD) (hst : l.stackTraces = false) (hn : n ≤ 24) (hI : ∀ k, k < n → okL σ k) (p0 p1 : Int32)  : vx_Met l yL_bill wsL_bill ({ frames := 9, cells := 6, slots := 36, locals := 200 }) (PcS G ad σ n τ j th o od [.ref (ad 0), .int p0, .int p1, .ref (ad 21)]) (Qi G (3 * n + 23) ad (ctS G ad σ n τ j th (if cdLX n 240 p0 p1 = 0 then vp_updL o 0 ((bfF σ (ix p0) p1).toInt64) else o) od) (fun r => r = cdLX n 240 p0 p1)) (fun _ _ _ => False) 6 36 (gF G) := by
  refine vx_ofWH (cc := cL_bill) (maxL := 5) (ret := (some .int)) (hh := [(0, 10, 13, 13)]) (by decide) rfl ?_
  intro p e s m args below meth c s₁ B hml hv
  obtain ⟨rfl, hY⟩ := hv
  have hts := atoms_spec (ws := wsL_bill) B.pre
  have hC : CallFix p m c cL_bill 5 s _ wsL_bill RL := ⟨B.exec, B.bytes, hml, findClass_of_methodNamed B.named, hts⟩
  have hxt := vx_table (x := yL_bill) B (hts _ List.mem_cons_self)
  have hx := hC.1
  have hb := hC.2.1
  have hr := B.returns
  have hlocks := B.notSynchronized
  have hl := lv_entry ([.ref (ad 0), .int p0, .int p1, .ref (ad 21)]) (n := 5) (Nat.le_of_ble_eq_true rfl)
  rw [lg_entry_eq]
  generalize (lg_sl ([.ref (ad 0), .int p0, .int p1, .ref (ad 21)]) ++ List.replicate (5 - (lg_sl ([.ref (ad 0), .int p0, .int p1, .ref (ad 21)])).length) Slot.unset).toArray = ls at hl ⊢
  have hl : lv_has ls 5 [(0, .ref (ad 0)), (1, .int p0), (2, .int p1), (3, .ref (ad 21))] := hl
  refine lv_aload_n hx hb dL_bill_0 rfl (lv_at hl 3 rfl) ?_
  refine lv_iconst (v := 0) hx hb dL_bill_1 (by decide) ?_
  refine lv_aload_n hx hb dL_bill_2 rfl (lv_at hl 0 rfl) ?_
  refine lv_iload_n hx hb dL_bill_3 rfl (lv_at hl 1 rfl) ?_
  refine lv_iload_n hx hb dL_bill_4 rfl (lv_at hl 2 rfl) ?_
  refine gx_callCi hY (gx_runV (n := 2) (q := (RX1, TX1, 5)) (r := 0) hC (c_X1_bill l G ad σ n τ j th o od hst hn hI p0 p1) gL_bill_X1_bill rfl ⟨rfl, rfl⟩ (by decide +kernel) ⟨Nat.le_of_ble_eq_true rfl, Nat.le_of_ble_eq_true rfl⟩ hY (by omega) rfl (ci := 1) rfl rfl hl.1 rfl (Nat.le_of_ble_eq_true rfl) dL_bill_5 ⟨Nat.le_of_ble_eq_true rfl, Nat.le_of_ble_eq_true rfl⟩) (fun E H locs q9 ce hex hY hc1 hc2 hc3 => ?_) (fun r1 H locs h2 hY => ?_)
  · rcases hex with ⟨rfl, hcd⟩ | ⟨rfl, hcd⟩ | ⟨rfl, hcd⟩
    · refine g_catch1 hC hY hxt rfl (by decide) (by decide +kernel) hc1 hc2 hc3 ?_
      refine lv_astore (lv' := [(4, .ref q9), (0, .ref (ad 0)), (1, .int p0), (2, .int p1), (3, .ref (ad 21))]) hx hb dL_bill_13 hl (by decide) rfl (fun ls hl => ?_)
      refine lv_iconst (v := 1) hx hb dL_bill_15 (by decide) ?_
      rw [hcd, if_neg (by decide)]
      exact vx_ret (g_iret hC hr hlocks hY ⟨Nat.le_of_ble_eq_true rfl, Nat.le_of_ble_eq_true rfl⟩ dL_bill_16 (rfl))
    · exact absurd hcd (by unfold cdLX; (repeat' split) <;> decide)
    · exact absurd hcd (by unfold cdLX; (repeat' split) <;> decide)
  · obtain ⟨hcd, rfl⟩ := h2
    refine lv_i2l hx hb dL_bill_8 rfl ?_
    refine wrO hC hY dL_bill_9 (fun H locs hY => ?_)
    refine lv_goto (tgt := 17) hx hb dL_bill_10 (by decide) ?_
    refine lv_iconst (v := 0) hx hb dL_bill_17 (by decide) ?_
    rw [hcd, if_pos rfl]
    exact vx_ret (g_iret hC hr hlocks hY ⟨Nat.le_of_ble_eq_true rfl, Nat.le_of_ble_eq_true rfl⟩ dL_bill_18 (rfl))

set_option maxHeartbeats 4000000 in
set_option maxRecDepth 100000 in
theorem c_L_billByDays (l : Launch) (G : GG) (ad : Nat → Nat) (σ : St) (n : Nat) (τ : St) (j : Nat) (th : Int32) (o : OL) (od : OD) (hst : l.stackTraces = false) (hn : n ≤ 24) (hI : ∀ k, k < n → okL σ k) (p0 p1 : Int32)  : vx_Met l yL_billByDays wsL_billByDays ({ frames := 9, cells := 6, slots := 36, locals := 200 }) (PcS G ad σ n τ j th o od [.ref (ad 0), .int p0, .int p1, .ref (ad 21)]) (Qi G (3 * n + 23) ad (ctS G ad σ n τ j th (if cdLX n 240 p0 p1 = 0 then vp_updL o 0 ((bdP σ (ix p0) p1 30 / 30).toInt64) else o) od) (fun r => r = cdLX n 240 p0 p1)) (fun _ _ _ => False) 6 36 (gF G) := by
  refine vx_ofWH (cc := cL_billByDays) (maxL := 5) (ret := (some .int)) (hh := [(0, 10, 13, 13)]) (by decide) rfl ?_
  intro p e s m args below meth c s₁ B hml hv
  obtain ⟨rfl, hY⟩ := hv
  have hts := atoms_spec (ws := wsL_billByDays) B.pre
  have hC : CallFix p m c cL_billByDays 5 s _ wsL_billByDays RL := ⟨B.exec, B.bytes, hml, findClass_of_methodNamed B.named, hts⟩
  have hxt := vx_table (x := yL_billByDays) B (hts _ List.mem_cons_self)
  have hx := hC.1
  have hb := hC.2.1
  have hr := B.returns
  have hlocks := B.notSynchronized
  have hl := lv_entry ([.ref (ad 0), .int p0, .int p1, .ref (ad 21)]) (n := 5) (Nat.le_of_ble_eq_true rfl)
  rw [lg_entry_eq]
  generalize (lg_sl ([.ref (ad 0), .int p0, .int p1, .ref (ad 21)]) ++ List.replicate (5 - (lg_sl ([.ref (ad 0), .int p0, .int p1, .ref (ad 21)])).length) Slot.unset).toArray = ls at hl ⊢
  have hl : lv_has ls 5 [(0, .ref (ad 0)), (1, .int p0), (2, .int p1), (3, .ref (ad 21))] := hl
  refine lv_aload_n hx hb dL_billByDays_0 rfl (lv_at hl 3 rfl) ?_
  refine lv_iconst (v := 0) hx hb dL_billByDays_1 (by decide) ?_
  refine lv_aload_n hx hb dL_billByDays_2 rfl (lv_at hl 0 rfl) ?_
  refine lv_iload_n hx hb dL_billByDays_3 rfl (lv_at hl 1 rfl) ?_
  refine lv_iload_n hx hb dL_billByDays_4 rfl (lv_at hl 2 rfl) ?_
  refine gx_callCi hY (gx_runV (n := 2) (q := (RX1, TX1, 5)) (r := 0) hC (c_X1_billByDays l G ad σ n τ j th o od hst hn hI p0 p1) gL_billByDays_X1_billByDays rfl ⟨rfl, rfl⟩ (by decide +kernel) ⟨Nat.le_of_ble_eq_true rfl, Nat.le_of_ble_eq_true rfl⟩ hY (by omega) rfl (ci := 1) rfl rfl hl.1 rfl (Nat.le_of_ble_eq_true rfl) dL_billByDays_5 ⟨Nat.le_of_ble_eq_true rfl, Nat.le_of_ble_eq_true rfl⟩) (fun E H locs q9 ce hex hY hc1 hc2 hc3 => ?_) (fun r1 H locs h2 hY => ?_)
  · rcases hex with ⟨rfl, hcd⟩ | ⟨rfl, hcd⟩ | ⟨rfl, hcd⟩
    · refine g_catch1 hC hY hxt rfl (by decide) (by decide +kernel) hc1 hc2 hc3 ?_
      refine lv_astore (lv' := [(4, .ref q9), (0, .ref (ad 0)), (1, .int p0), (2, .int p1), (3, .ref (ad 21))]) hx hb dL_billByDays_13 hl (by decide) rfl (fun ls hl => ?_)
      refine lv_iconst (v := 1) hx hb dL_billByDays_15 (by decide) ?_
      rw [hcd, if_neg (by decide)]
      exact vx_ret (g_iret hC hr hlocks hY ⟨Nat.le_of_ble_eq_true rfl, Nat.le_of_ble_eq_true rfl⟩ dL_billByDays_16 (rfl))
    · exact absurd hcd (by unfold cdLX; (repeat' split) <;> decide)
    · exact absurd hcd (by unfold cdLX; (repeat' split) <;> decide)
  · obtain ⟨hcd, rfl⟩ := h2
    refine lv_i2l hx hb dL_billByDays_8 rfl ?_
    refine wrO hC hY dL_billByDays_9 (fun H locs hY => ?_)
    refine lv_goto (tgt := 17) hx hb dL_billByDays_10 (by decide) ?_
    refine lv_iconst (v := 0) hx hb dL_billByDays_17 (by decide) ?_
    rw [hcd, if_pos rfl]
    exact vx_ret (g_iret hC hr hlocks hY ⟨Nat.le_of_ble_eq_true rfl, Nat.le_of_ble_eq_true rfl⟩ dL_billByDays_18 (rfl))

set_option maxHeartbeats 4000000 in
set_option maxRecDepth 100000 in
theorem c_L_bills (l : Launch) (G : GG) (ad : Nat → Nat) (σ : St) (n : Nat) (τ : St) (j : Nat) (th : Int32) (o : OL) (od : OD) (hst : l.stackTraces = false) (hn : n ≤ 24) (hI : ∀ k, k < n → okL σ k) (p0 p1 p2 : Int32)  : vx_Met l yL_bills wsL_bills ({ frames := 9, cells := 6, slots := 36, locals := 200 }) (PcS G ad σ n τ j th o od [.ref (ad 0), .int p0, .int p1, .int p2, .ref (ad 21)]) (Qi G (3 * n + 23) ad (ctS G ad σ n τ j th (if cdBills n p0 p1 p2 = 0 then vp_updL o 0 (bsP σ (ix p0) p1 (p2.toInt - p1.toInt + 1).toNat) else o) od) (fun r => r = cdBills n p0 p1 p2)) (fun _ _ _ => False) 6 36 (gF G) := by
  refine vx_ofWH (cc := cL_bills) (maxL := 6) (ret := (some .int)) (hh := [(0, 11, 14, 13), (0, 11, 18, 15)]) (by decide) rfl ?_
  intro p e s m args below meth c s₁ B hml hv
  obtain ⟨rfl, hY⟩ := hv
  have hts := atoms_spec (ws := wsL_bills) B.pre
  have hC : CallFix p m c cL_bills 6 s _ wsL_bills RL := ⟨B.exec, B.bytes, hml, findClass_of_methodNamed B.named, hts⟩
  have hxt := vx_table (x := yL_bills) B (hts _ List.mem_cons_self)
  have hx := hC.1
  have hb := hC.2.1
  have hr := B.returns
  have hlocks := B.notSynchronized
  have hl := lv_entry ([.ref (ad 0), .int p0, .int p1, .int p2, .ref (ad 21)]) (n := 6) (Nat.le_of_ble_eq_true rfl)
  rw [lg_entry_eq]
  generalize (lg_sl ([.ref (ad 0), .int p0, .int p1, .int p2, .ref (ad 21)]) ++ List.replicate (6 - (lg_sl ([.ref (ad 0), .int p0, .int p1, .int p2, .ref (ad 21)])).length) Slot.unset).toArray = ls at hl ⊢
  have hl : lv_has ls 6 [(0, .ref (ad 0)), (1, .int p0), (2, .int p1), (3, .int p2), (4, .ref (ad 21))] := hl
  refine lv_aload hx hb dL_bills_0 (lv_at hl 4 rfl) ?_
  refine lv_iconst (v := 0) hx hb dL_bills_2 (by decide) ?_
  refine lv_aload_n hx hb dL_bills_3 rfl (lv_at hl 0 rfl) ?_
  refine lv_iload_n hx hb dL_bills_4 rfl (lv_at hl 1 rfl) ?_
  refine lv_iload_n hx hb dL_bills_5 rfl (lv_at hl 2 rfl) ?_
  refine lv_iload_n hx hb dL_bills_6 rfl (lv_at hl 3 rfl) ?_
  refine gx_callCl hY (gx_runV (n := 3) (q := (RX1, TX1, 5)) (r := 0) hC (c_X1_bills l G ad σ n τ j th o od hst hn hI p0 p1 p2) gL_bills_X1_bills rfl ⟨rfl, rfl⟩ (by decide +kernel) ⟨Nat.le_of_ble_eq_true rfl, Nat.le_of_ble_eq_true rfl⟩ hY (by omega) rfl (ci := 1) rfl rfl hl.1 rfl (Nat.le_of_ble_eq_true rfl) dL_bills_7 ⟨Nat.le_of_ble_eq_true rfl, Nat.le_of_ble_eq_true rfl⟩) (fun E H locs q9 ce hex hY hc1 hc2 hc3 => ?_) (fun r1 H locs h2 hY => ?_)
  · rcases hex with ⟨rfl, hcd⟩ | ⟨rfl, hcd⟩ | ⟨rfl, hcd⟩
    · refine g_catch1 hC hY hxt rfl (by decide) (by decide +kernel) hc1 hc2 hc3 ?_
      refine lv_astore (lv' := [(5, .ref q9), (0, .ref (ad 0)), (1, .int p0), (2, .int p1), (3, .int p2), (4, .ref (ad 21))]) hx hb dL_bills_14 hl (by decide) rfl (fun ls hl => ?_)
      refine lv_iconst (v := 1) hx hb dL_bills_16 (by decide) ?_
      rw [hcd, if_neg (by decide)]
      exact vx_ret (g_iret hC hr hlocks hY ⟨Nat.le_of_ble_eq_true rfl, Nat.le_of_ble_eq_true rfl⟩ dL_bills_17 (rfl))
    · refine g_catch2 hC hY hxt rfl (by decide) (by decide +kernel) (by decide +kernel) hc1 hc2 hc3 ?_
      refine lv_astore (lv' := [(5, .ref q9), (0, .ref (ad 0)), (1, .int p0), (2, .int p1), (3, .int p2), (4, .ref (ad 21))]) hx hb dL_bills_18 hl (by decide) rfl (fun ls hl => ?_)
      refine lv_iconst (v := 2) hx hb dL_bills_20 (by decide) ?_
      rw [hcd, if_neg (by decide)]
      exact vx_ret (g_iret hC hr hlocks hY ⟨Nat.le_of_ble_eq_true rfl, Nat.le_of_ble_eq_true rfl⟩ dL_bills_21 (rfl))
    · exact absurd hcd (by unfold cdBills; (repeat' split) <;> decide)
  · obtain ⟨hcd, rfl⟩ := h2
    refine wrO hC hY dL_bills_10 (fun H locs hY => ?_)
    refine lv_goto (tgt := 22) hx hb dL_bills_11 (by decide) ?_
    refine lv_iconst (v := 0) hx hb dL_bills_22 (by decide) ?_
    rw [hcd, if_pos rfl]
    exact vx_ret (g_iret hC hr hlocks hY ⟨Nat.le_of_ble_eq_true rfl, Nat.le_of_ble_eq_true rfl⟩ dL_bills_23 (rfl))

set_option maxHeartbeats 4000000 in
set_option maxRecDepth 100000 in
theorem c_L_nextChange (l : Launch) (G : GG) (ad : Nat → Nat) (σ : St) (n : Nat) (τ : St) (j : Nat) (th : Int32) (o : OL) (od : OD) (hst : l.stackTraces = false) (hn : n ≤ 24) (hI : ∀ k, k < n → okL σ k) (p0 p1 : Int32)  : vx_Met l yL_nextChange wsL_nextChange ({ frames := 9, cells := 6, slots := 36, locals := 200 }) (PcS G ad σ n τ j th o od [.ref (ad 0), .int p0, .int p1, .ref (ad 21)]) (Qi G (3 * n + 23) ad (ctS G ad σ n τ j th (if cdLX n 7200 p0 p1 = 0 then vp_updL o 0 ((ncG σ (ix p0) 7200 (ntF σ (ix p0) p1)).toInt64) else o) od) (fun r => r = cdLX n 7200 p0 p1)) (fun _ _ _ => False) 6 36 (gF G) := by
  refine vx_ofWH (cc := cL_nextChange) (maxL := 5) (ret := (some .int)) (hh := [(0, 10, 13, 13)]) (by decide) rfl ?_
  intro p e s m args below meth c s₁ B hml hv
  obtain ⟨rfl, hY⟩ := hv
  have hts := atoms_spec (ws := wsL_nextChange) B.pre
  have hC : CallFix p m c cL_nextChange 5 s _ wsL_nextChange RL := ⟨B.exec, B.bytes, hml, findClass_of_methodNamed B.named, hts⟩
  have hxt := vx_table (x := yL_nextChange) B (hts _ List.mem_cons_self)
  have hx := hC.1
  have hb := hC.2.1
  have hr := B.returns
  have hlocks := B.notSynchronized
  have hl := lv_entry ([.ref (ad 0), .int p0, .int p1, .ref (ad 21)]) (n := 5) (Nat.le_of_ble_eq_true rfl)
  rw [lg_entry_eq]
  generalize (lg_sl ([.ref (ad 0), .int p0, .int p1, .ref (ad 21)]) ++ List.replicate (5 - (lg_sl ([.ref (ad 0), .int p0, .int p1, .ref (ad 21)])).length) Slot.unset).toArray = ls at hl ⊢
  have hl : lv_has ls 5 [(0, .ref (ad 0)), (1, .int p0), (2, .int p1), (3, .ref (ad 21))] := hl
  refine lv_aload_n hx hb dL_nextChange_0 rfl (lv_at hl 3 rfl) ?_
  refine lv_iconst (v := 0) hx hb dL_nextChange_1 (by decide) ?_
  refine lv_aload_n hx hb dL_nextChange_2 rfl (lv_at hl 0 rfl) ?_
  refine lv_iload_n hx hb dL_nextChange_3 rfl (lv_at hl 1 rfl) ?_
  refine lv_iload_n hx hb dL_nextChange_4 rfl (lv_at hl 2 rfl) ?_
  refine gx_callCi hY (gx_runV (n := 2) (q := (RX1, TX1, 5)) (r := 0) hC (c_X1_nextChange l G ad σ n τ j th o od hst hn hI p0 p1) gL_nextChange_X1_nextChange rfl ⟨rfl, rfl⟩ (by decide +kernel) ⟨Nat.le_of_ble_eq_true rfl, Nat.le_of_ble_eq_true rfl⟩ hY (by omega) rfl (ci := 1) rfl rfl hl.1 rfl (Nat.le_of_ble_eq_true rfl) dL_nextChange_5 ⟨Nat.le_of_ble_eq_true rfl, Nat.le_of_ble_eq_true rfl⟩) (fun E H locs q9 ce hex hY hc1 hc2 hc3 => ?_) (fun r1 H locs h2 hY => ?_)
  · rcases hex with ⟨rfl, hcd⟩ | ⟨rfl, hcd⟩ | ⟨rfl, hcd⟩
    · refine g_catch1 hC hY hxt rfl (by decide) (by decide +kernel) hc1 hc2 hc3 ?_
      refine lv_astore (lv' := [(4, .ref q9), (0, .ref (ad 0)), (1, .int p0), (2, .int p1), (3, .ref (ad 21))]) hx hb dL_nextChange_13 hl (by decide) rfl (fun ls hl => ?_)
      refine lv_iconst (v := 1) hx hb dL_nextChange_15 (by decide) ?_
      rw [hcd, if_neg (by decide)]
      exact vx_ret (g_iret hC hr hlocks hY ⟨Nat.le_of_ble_eq_true rfl, Nat.le_of_ble_eq_true rfl⟩ dL_nextChange_16 (rfl))
    · exact absurd hcd (by unfold cdLX; (repeat' split) <;> decide)
    · exact absurd hcd (by unfold cdLX; (repeat' split) <;> decide)
  · obtain ⟨hcd, rfl⟩ := h2
    refine lv_i2l hx hb dL_nextChange_8 rfl ?_
    refine wrO hC hY dL_nextChange_9 (fun H locs hY => ?_)
    refine lv_goto (tgt := 17) hx hb dL_nextChange_10 (by decide) ?_
    refine lv_iconst (v := 0) hx hb dL_nextChange_17 (by decide) ?_
    rw [hcd, if_pos rfl]
    exact vx_ret (g_iret hC hr hlocks hY ⟨Nat.le_of_ble_eq_true rfl, Nat.le_of_ble_eq_true rfl⟩ dL_nextChange_18 (rfl))

set_option maxHeartbeats 4000000 in
set_option maxRecDepth 100000 in
theorem c_L_voids (l : Launch) (G : GG) (ad : Nat → Nat) (σ : St) (n : Nat) (τ : St) (j : Nat) (th : Int32) (o : OL) (od : OD) (hst : l.stackTraces = false) (hn : n ≤ 24) (hI : ∀ k, k < n → okL σ k) (p0 p1 : Int32)  : vx_Met l yL_voids wsL_voids ({ frames := 9, cells := 6, slots := 36, locals := 200 }) (PcS G ad σ n τ j th o od [.ref (ad 0), .int p0, .int p1, .ref (ad 21)]) (Qi G (3 * n + 23) ad (ctS G ad σ n τ j th (if cdUX 6 20 p0 p1 = 0 then vp_updL o 0 ((360 - dlP σ n p0 (p1 * 360) (p1 * 360 + 360) 24).toInt64) else o) od) (fun r => r = cdUX 6 20 p0 p1)) (fun _ _ _ => False) 6 36 (gF G) := by
  refine vx_ofWH (cc := cL_voids) (maxL := 5) (ret := (some .int)) (hh := [(0, 10, 13, 13)]) (by decide) rfl ?_
  intro p e s m args below meth c s₁ B hml hv
  obtain ⟨rfl, hY⟩ := hv
  have hts := atoms_spec (ws := wsL_voids) B.pre
  have hC : CallFix p m c cL_voids 5 s _ wsL_voids RL := ⟨B.exec, B.bytes, hml, findClass_of_methodNamed B.named, hts⟩
  have hxt := vx_table (x := yL_voids) B (hts _ List.mem_cons_self)
  have hx := hC.1
  have hb := hC.2.1
  have hr := B.returns
  have hlocks := B.notSynchronized
  have hl := lv_entry ([.ref (ad 0), .int p0, .int p1, .ref (ad 21)]) (n := 5) (Nat.le_of_ble_eq_true rfl)
  rw [lg_entry_eq]
  generalize (lg_sl ([.ref (ad 0), .int p0, .int p1, .ref (ad 21)]) ++ List.replicate (5 - (lg_sl ([.ref (ad 0), .int p0, .int p1, .ref (ad 21)])).length) Slot.unset).toArray = ls at hl ⊢
  have hl : lv_has ls 5 [(0, .ref (ad 0)), (1, .int p0), (2, .int p1), (3, .ref (ad 21))] := hl
  refine lv_aload_n hx hb dL_voids_0 rfl (lv_at hl 3 rfl) ?_
  refine lv_iconst (v := 0) hx hb dL_voids_1 (by decide) ?_
  refine lv_aload_n hx hb dL_voids_2 rfl (lv_at hl 0 rfl) ?_
  refine lv_iload_n hx hb dL_voids_3 rfl (lv_at hl 1 rfl) ?_
  refine lv_iload_n hx hb dL_voids_4 rfl (lv_at hl 2 rfl) ?_
  refine gx_callCi hY (gx_runV (n := 2) (q := (RX1, TX1, 5)) (r := 0) hC (c_X1_voids l G ad σ n τ j th o od hst  p0 p1) gL_voids_X1_voids rfl ⟨rfl, rfl⟩ (by decide +kernel) ⟨Nat.le_of_ble_eq_true rfl, Nat.le_of_ble_eq_true rfl⟩ hY (by omega) rfl (ci := 1) rfl rfl hl.1 rfl (Nat.le_of_ble_eq_true rfl) dL_voids_5 ⟨Nat.le_of_ble_eq_true rfl, Nat.le_of_ble_eq_true rfl⟩) (fun E H locs q9 ce hex hY hc1 hc2 hc3 => ?_) (fun r1 H locs h2 hY => ?_)
  · rcases hex with ⟨rfl, hcd⟩ | ⟨rfl, hcd⟩ | ⟨rfl, hcd⟩
    · refine g_catch1 hC hY hxt rfl (by decide) (by decide +kernel) hc1 hc2 hc3 ?_
      refine lv_astore (lv' := [(4, .ref q9), (0, .ref (ad 0)), (1, .int p0), (2, .int p1), (3, .ref (ad 21))]) hx hb dL_voids_13 hl (by decide) rfl (fun ls hl => ?_)
      refine lv_iconst (v := 1) hx hb dL_voids_15 (by decide) ?_
      rw [hcd, if_neg (by decide)]
      exact vx_ret (g_iret hC hr hlocks hY ⟨Nat.le_of_ble_eq_true rfl, Nat.le_of_ble_eq_true rfl⟩ dL_voids_16 (rfl))
    · exact absurd hcd (by unfold cdUX; (repeat' split) <;> decide)
    · exact absurd hcd (by unfold cdUX; (repeat' split) <;> decide)
  · obtain ⟨hcd, rfl⟩ := h2
    refine lv_i2l hx hb dL_voids_8 rfl ?_
    refine wrO hC hY dL_voids_9 (fun H locs hY => ?_)
    refine lv_goto (tgt := 17) hx hb dL_voids_10 (by decide) ?_
    refine lv_iconst (v := 0) hx hb dL_voids_17 (by decide) ?_
    rw [hcd, if_pos rfl]
    exact vx_ret (g_iret hC hr hlocks hY ⟨Nat.le_of_ble_eq_true rfl, Nat.le_of_ble_eq_true rfl⟩ dL_voids_18 (rfl))

set_option maxHeartbeats 4000000 in
set_option maxRecDepth 100000 in
theorem c_L_part (l : Launch) (G : GG) (ad : Nat → Nat) (σ : St) (n : Nat) (τ : St) (j : Nat) (th : Int32) (o : OL) (od : OD) (hst : l.stackTraces = false) (hn : n ≤ 24) (hI : ∀ k, k < n → okL σ k) (p0 p1 : Int32)  : vx_Met l yL_part wsL_part ({ frames := 9, cells := 6, slots := 36, locals := 200 }) (PcS G ad σ n τ j th o od [.ref (ad 0), .int p0, .int p1, .ref (ad 21)]) (Qi G (3 * n + 23) ad (ctS G ad σ n τ j th (if cdLX n 20 p0 p1 = 0 then vp_updL o 0 ((ptF σ (ix p0) p1 (σ 2 (ix p1))).toInt64) else o) od) (fun r => r = cdLX n 20 p0 p1)) (fun _ _ _ => False) 6 36 (gF G) := by
  refine vx_ofWH (cc := cL_part) (maxL := 5) (ret := (some .int)) (hh := [(0, 10, 13, 13)]) (by decide) rfl ?_
  intro p e s m args below meth c s₁ B hml hv
  obtain ⟨rfl, hY⟩ := hv
  have hts := atoms_spec (ws := wsL_part) B.pre
  have hC : CallFix p m c cL_part 5 s _ wsL_part RL := ⟨B.exec, B.bytes, hml, findClass_of_methodNamed B.named, hts⟩
  have hxt := vx_table (x := yL_part) B (hts _ List.mem_cons_self)
  have hx := hC.1
  have hb := hC.2.1
  have hr := B.returns
  have hlocks := B.notSynchronized
  have hl := lv_entry ([.ref (ad 0), .int p0, .int p1, .ref (ad 21)]) (n := 5) (Nat.le_of_ble_eq_true rfl)
  rw [lg_entry_eq]
  generalize (lg_sl ([.ref (ad 0), .int p0, .int p1, .ref (ad 21)]) ++ List.replicate (5 - (lg_sl ([.ref (ad 0), .int p0, .int p1, .ref (ad 21)])).length) Slot.unset).toArray = ls at hl ⊢
  have hl : lv_has ls 5 [(0, .ref (ad 0)), (1, .int p0), (2, .int p1), (3, .ref (ad 21))] := hl
  refine lv_aload_n hx hb dL_part_0 rfl (lv_at hl 3 rfl) ?_
  refine lv_iconst (v := 0) hx hb dL_part_1 (by decide) ?_
  refine lv_aload_n hx hb dL_part_2 rfl (lv_at hl 0 rfl) ?_
  refine lv_iload_n hx hb dL_part_3 rfl (lv_at hl 1 rfl) ?_
  refine lv_iload_n hx hb dL_part_4 rfl (lv_at hl 2 rfl) ?_
  refine gx_callCi hY (gx_runV (n := 2) (q := (RX1, TX1, 5)) (r := 0) hC (c_X1_part l G ad σ n τ j th o od hst hn p0 p1) gL_part_X1_part rfl ⟨rfl, rfl⟩ (by decide +kernel) ⟨Nat.le_of_ble_eq_true rfl, Nat.le_of_ble_eq_true rfl⟩ hY (by omega) rfl (ci := 1) rfl rfl hl.1 rfl (Nat.le_of_ble_eq_true rfl) dL_part_5 ⟨Nat.le_of_ble_eq_true rfl, Nat.le_of_ble_eq_true rfl⟩) (fun E H locs q9 ce hex hY hc1 hc2 hc3 => ?_) (fun r1 H locs h2 hY => ?_)
  · rcases hex with ⟨rfl, hcd⟩ | ⟨rfl, hcd⟩ | ⟨rfl, hcd⟩
    · refine g_catch1 hC hY hxt rfl (by decide) (by decide +kernel) hc1 hc2 hc3 ?_
      refine lv_astore (lv' := [(4, .ref q9), (0, .ref (ad 0)), (1, .int p0), (2, .int p1), (3, .ref (ad 21))]) hx hb dL_part_13 hl (by decide) rfl (fun ls hl => ?_)
      refine lv_iconst (v := 1) hx hb dL_part_15 (by decide) ?_
      rw [hcd, if_neg (by decide)]
      exact vx_ret (g_iret hC hr hlocks hY ⟨Nat.le_of_ble_eq_true rfl, Nat.le_of_ble_eq_true rfl⟩ dL_part_16 (rfl))
    · exact absurd hcd (by unfold cdLX; (repeat' split) <;> decide)
    · exact absurd hcd (by unfold cdLX; (repeat' split) <;> decide)
  · obtain ⟨hcd, rfl⟩ := h2
    refine lv_i2l hx hb dL_part_8 rfl ?_
    refine wrO hC hY dL_part_9 (fun H locs hY => ?_)
    refine lv_goto (tgt := 17) hx hb dL_part_10 (by decide) ?_
    refine lv_iconst (v := 0) hx hb dL_part_17 (by decide) ?_
    rw [hcd, if_pos rfl]
    exact vx_ret (g_iret hC hr hlocks hY ⟨Nat.le_of_ble_eq_true rfl, Nat.le_of_ble_eq_true rfl⟩ dL_part_18 (rfl))

set_option maxHeartbeats 4000000 in
set_option maxRecDepth 100000 in
theorem c_L_owners (l : Launch) (G : GG) (ad : Nat → Nat) (σ : St) (n : Nat) (τ : St) (j : Nat) (th : Int32) (o : OL) (od : OD) (hst : l.stackTraces = false) (hn : n ≤ 24) (hI : ∀ k, k < n → okL σ k) (p0 : Int32)  : vx_Met l yL_owners wsL_owners ({ frames := 9, cells := 6, slots := 36, locals := 200 }) (PcS G ad σ n τ j th o od [.ref (ad 0), .int p0, .ref (ad 21)]) (Qi G (3 * n + 23) ad (ctS G ad σ n τ j th (if cdU1 20 p0 = 0 then vp_updL o 0 ((owP σ n p0 24).toInt64) else o) od) (fun r => r = cdU1 20 p0)) (fun _ _ _ => False) 6 36 (gF G) := by
  refine vx_ofWH (cc := cL_owners) (maxL := 4) (ret := (some .int)) (hh := [(0, 9, 12, 13)]) (by decide) rfl ?_
  intro p e s m args below meth c s₁ B hml hv
  obtain ⟨rfl, hY⟩ := hv
  have hts := atoms_spec (ws := wsL_owners) B.pre
  have hC : CallFix p m c cL_owners 4 s _ wsL_owners RL := ⟨B.exec, B.bytes, hml, findClass_of_methodNamed B.named, hts⟩
  have hxt := vx_table (x := yL_owners) B (hts _ List.mem_cons_self)
  have hx := hC.1
  have hb := hC.2.1
  have hr := B.returns
  have hlocks := B.notSynchronized
  have hl := lv_entry ([.ref (ad 0), .int p0, .ref (ad 21)]) (n := 4) (Nat.le_of_ble_eq_true rfl)
  rw [lg_entry_eq]
  generalize (lg_sl ([.ref (ad 0), .int p0, .ref (ad 21)]) ++ List.replicate (4 - (lg_sl ([.ref (ad 0), .int p0, .ref (ad 21)])).length) Slot.unset).toArray = ls at hl ⊢
  have hl : lv_has ls 4 [(0, .ref (ad 0)), (1, .int p0), (2, .ref (ad 21))] := hl
  refine lv_aload_n hx hb dL_owners_0 rfl (lv_at hl 2 rfl) ?_
  refine lv_iconst (v := 0) hx hb dL_owners_1 (by decide) ?_
  refine lv_aload_n hx hb dL_owners_2 rfl (lv_at hl 0 rfl) ?_
  refine lv_iload_n hx hb dL_owners_3 rfl (lv_at hl 1 rfl) ?_
  refine gx_callCi hY (gx_runV (n := 1) (q := (RX1, TX1, 5)) (r := 0) hC (c_X1_owners l G ad σ n τ j th o od hst  p0) gL_owners_X1_owners rfl ⟨rfl, rfl⟩ (by decide +kernel) ⟨Nat.le_of_ble_eq_true rfl, Nat.le_of_ble_eq_true rfl⟩ hY (by omega) rfl (ci := 1) rfl rfl hl.1 rfl (Nat.le_of_ble_eq_true rfl) dL_owners_4 ⟨Nat.le_of_ble_eq_true rfl, Nat.le_of_ble_eq_true rfl⟩) (fun E H locs q9 ce hex hY hc1 hc2 hc3 => ?_) (fun r1 H locs h2 hY => ?_)
  · rcases hex with ⟨rfl, hcd⟩ | ⟨rfl, hcd⟩ | ⟨rfl, hcd⟩
    · refine g_catch1 hC hY hxt rfl (by decide) (by decide +kernel) hc1 hc2 hc3 ?_
      refine lv_astore_n (lv' := [(3, .ref q9), (0, .ref (ad 0)), (1, .int p0), (2, .ref (ad 21))]) hx hb dL_owners_12 rfl hl (by decide) rfl (fun ls hl => ?_)
      refine lv_iconst (v := 1) hx hb dL_owners_13 (by decide) ?_
      rw [hcd, if_neg (by decide)]
      exact vx_ret (g_iret hC hr hlocks hY ⟨Nat.le_of_ble_eq_true rfl, Nat.le_of_ble_eq_true rfl⟩ dL_owners_14 (rfl))
    · exact absurd hcd (by unfold cdU1; (repeat' split) <;> decide)
    · exact absurd hcd (by unfold cdU1; (repeat' split) <;> decide)
  · obtain ⟨hcd, rfl⟩ := h2
    refine lv_i2l hx hb dL_owners_7 rfl ?_
    refine wrO hC hY dL_owners_8 (fun H locs hY => ?_)
    refine lv_goto (tgt := 15) hx hb dL_owners_9 (by decide) ?_
    refine lv_iconst (v := 0) hx hb dL_owners_15 (by decide) ?_
    rw [hcd, if_pos rfl]
    exact vx_ret (g_iret hC hr hlocks hY ⟨Nat.le_of_ble_eq_true rfl, Nat.le_of_ble_eq_true rfl⟩ dL_owners_16 (rfl))

set_option maxHeartbeats 4000000 in
set_option maxRecDepth 100000 in
theorem c_L_balance (l : Launch) (G : GG) (ad : Nat → Nat) (σ : St) (n : Nat) (τ : St) (j : Nat) (th : Int32) (o : OL) (od : OD) (hst : l.stackTraces = false) (hn : n ≤ 24) (hI : ∀ k, k < n → okL σ k) (p0 p1 : Int32)  : vx_Met l yL_balance wsL_balance ({ frames := 9, cells := 6, slots := 36, locals := 200 }) (PcS G ad σ n τ j th o od [.ref (ad 0), .int p0, .int p1, .ref (ad 21)]) (Qi G (3 * n + 23) ad (ctS G ad σ n τ j th (if cdLX n 20 p0 p1 = 0 then vp_updL o 0 ((ptF σ (ix p0) p1 (σ 2 (ix p1)) - σ 10 (ix p0) * diF σ (ix p0) p1 / 30).toInt64) else o) od) (fun r => r = cdLX n 20 p0 p1)) (fun _ _ _ => False) 6 36 (gF G) := by
  refine vx_ofWH (cc := cL_balance) (maxL := 5) (ret := (some .int)) (hh := [(0, 10, 13, 13)]) (by decide) rfl ?_
  intro p e s m args below meth c s₁ B hml hv
  obtain ⟨rfl, hY⟩ := hv
  have hts := atoms_spec (ws := wsL_balance) B.pre
  have hC : CallFix p m c cL_balance 5 s _ wsL_balance RL := ⟨B.exec, B.bytes, hml, findClass_of_methodNamed B.named, hts⟩
  have hxt := vx_table (x := yL_balance) B (hts _ List.mem_cons_self)
  have hx := hC.1
  have hb := hC.2.1
  have hr := B.returns
  have hlocks := B.notSynchronized
  have hl := lv_entry ([.ref (ad 0), .int p0, .int p1, .ref (ad 21)]) (n := 5) (Nat.le_of_ble_eq_true rfl)
  rw [lg_entry_eq]
  generalize (lg_sl ([.ref (ad 0), .int p0, .int p1, .ref (ad 21)]) ++ List.replicate (5 - (lg_sl ([.ref (ad 0), .int p0, .int p1, .ref (ad 21)])).length) Slot.unset).toArray = ls at hl ⊢
  have hl : lv_has ls 5 [(0, .ref (ad 0)), (1, .int p0), (2, .int p1), (3, .ref (ad 21))] := hl
  refine lv_aload_n hx hb dL_balance_0 rfl (lv_at hl 3 rfl) ?_
  refine lv_iconst (v := 0) hx hb dL_balance_1 (by decide) ?_
  refine lv_aload_n hx hb dL_balance_2 rfl (lv_at hl 0 rfl) ?_
  refine lv_iload_n hx hb dL_balance_3 rfl (lv_at hl 1 rfl) ?_
  refine lv_iload_n hx hb dL_balance_4 rfl (lv_at hl 2 rfl) ?_
  refine gx_callCi hY (gx_runV (n := 2) (q := (RX1, TX1, 5)) (r := 0) hC (c_X1_balance l G ad σ n τ j th o od hst hn p0 p1) gL_balance_X1_balance rfl ⟨rfl, rfl⟩ (by decide +kernel) ⟨Nat.le_of_ble_eq_true rfl, Nat.le_of_ble_eq_true rfl⟩ hY (by omega) rfl (ci := 1) rfl rfl hl.1 rfl (Nat.le_of_ble_eq_true rfl) dL_balance_5 ⟨Nat.le_of_ble_eq_true rfl, Nat.le_of_ble_eq_true rfl⟩) (fun E H locs q9 ce hex hY hc1 hc2 hc3 => ?_) (fun r1 H locs h2 hY => ?_)
  · rcases hex with ⟨rfl, hcd⟩ | ⟨rfl, hcd⟩ | ⟨rfl, hcd⟩
    · refine g_catch1 hC hY hxt rfl (by decide) (by decide +kernel) hc1 hc2 hc3 ?_
      refine lv_astore (lv' := [(4, .ref q9), (0, .ref (ad 0)), (1, .int p0), (2, .int p1), (3, .ref (ad 21))]) hx hb dL_balance_13 hl (by decide) rfl (fun ls hl => ?_)
      refine lv_iconst (v := 1) hx hb dL_balance_15 (by decide) ?_
      rw [hcd, if_neg (by decide)]
      exact vx_ret (g_iret hC hr hlocks hY ⟨Nat.le_of_ble_eq_true rfl, Nat.le_of_ble_eq_true rfl⟩ dL_balance_16 (rfl))
    · exact absurd hcd (by unfold cdLX; (repeat' split) <;> decide)
    · exact absurd hcd (by unfold cdLX; (repeat' split) <;> decide)
  · obtain ⟨hcd, rfl⟩ := h2
    refine lv_i2l hx hb dL_balance_8 rfl ?_
    refine wrO hC hY dL_balance_9 (fun H locs hY => ?_)
    refine lv_goto (tgt := 17) hx hb dL_balance_10 (by decide) ?_
    refine lv_iconst (v := 0) hx hb dL_balance_17 (by decide) ?_
    rw [hcd, if_pos rfl]
    exact vx_ret (g_iret hC hr hlocks hY ⟨Nat.le_of_ble_eq_true rfl, Nat.le_of_ble_eq_true rfl⟩ dL_balance_18 (rfl))


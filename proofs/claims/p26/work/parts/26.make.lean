/-! making objects and rows -/
section GMK
variable {p : Program} {l : Launch} {e : Env} {R : Room} {s : State} {m : MethodId} {args : Array Value} {below : List Frame} {meth : Method} {c : Code} {H : Heap} {locs : List Loc} {cells slots : Nat} {Q : State → Prop}
variable {cc : ByteArray} {nL : Nat} {Ts : List Cond} {own : String} {pc : Nat} {ls : Array Slot} {rest st0 : List Value} {G : GG} {N N' : Nat} {ad ad' : Nat → Nat} {ct ct' : Nat → va_E} {mc ms : Nat}
theorem g_newi (hC : CallFix p m c cc nL s args Ts own) (hY : Sy G N ad ct s H locs) (harr : Cond.arrayClass .int ∈ Ts) {n : Int32} {L : Nat} (hn : ¬ n < 0) (hN : n.toNatClampNeg = L) (hbytes : L * 4 ≤ 536870912) (hcells : cells + 1 ≤ R.cells) (hslots : slots + L ≤ R.slots) (hdg : decode cc pc = .ok (.newarray .int, 2))
    (kk : ∀ (q : Nat) (H1 : Heap), Sy G (N + 1) (va_up ad N q) (va_up ct N (.inl (G.2.2 0, L, .inl (fun _ => 0)))) s H1 locs → W p l e R s m args below meth c H1 locs (cells + 1) (slots + L) Q (F0 m (pc + 2) ls (.ref q :: rest))) : W p l e R s m args below meth c H locs cells slots Q (F0 m pc ls (.int n :: rest)) := by
  obtain ⟨hx, hb, hml, hown, hts⟩ := hC
  obtain ⟨hK, hP, hD, hS, hlo, hX⟩ := hY
  refine va_newa (atype := .int) hx hb (hts _ harr) (ty := .int) rfl hK hP hD hS (fun q h => Nat.le_trans hlo h) (N' := L) (a0 := (L, .inl (fun _ => 0))) (fun cA => rfl) hn hN hbytes hcells hslots hdg (fun q cA H1 k1 k2 k3 k4 => ?_)
  have e1 : s.vm.findClass ("[" ++ FieldType.int.toString) = some (G.2.2 0) := (hK.2 0 _ rfl).2
  have e2 : s.vm.findClass ("[" ++ FieldType.int.toString) = some cA := (k1.2 2 _ rfl).2
  cases Option.some.inj (e1.symm.trans e2)
  rw [wl_push] at k2 k3
  exact kk q H1 ⟨hK, k2, k3, k4, hlo, hX⟩
theorem g_newq (hC : CallFix p m c cc nL s args Ts own) (hY : Sy G N ad ct s H locs) {index : Nat} (hcl : Cond.classLink own index RX0 ∈ Ts) (hover : va_AO RX0 s) {n : Int32} {L : Nat} (hn : ¬ n < 0) (hN : n.toNatClampNeg = L) (hbytes : L * 4 ≤ 536870912) (hcells : cells + 1 ≤ R.cells) (hslots : slots + L ≤ R.slots) (hdg : decode cc pc = .ok (.anewarray index, 3))
    (kk : ∀ (q : Nat) (H1 : Heap), Sy G (N + 1) (va_up ad N q) (va_up ct N (.inl (G.2.2 1, L, .inr (.inr (.inr (.inr (fun _ => none))))))) s H1 locs → W p l e R s m args below meth c H1 locs (cells + 1) (slots + L) Q (F0 m (pc + 3) ls (.ref q :: rest))) : W p l e R s m args below meth c H locs cells slots Q (F0 m pc ls (.int n :: rest)) := by
  obtain ⟨hx, hb, hml, hown, hts⟩ := hC
  obtain ⟨hK, hP, hD, hS, hlo, hX⟩ := hY
  refine va_newq hx hb hown (hts _ hcl) hover hK hP hD hS (fun q h => Nat.le_trans hlo h) hn hN hbytes hcells hslots hdg (fun q cA H1 k1 k2 k3 k4 => ?_)
  obtain ⟨-, -, -, -, -, e1⟩ : ∃ (kA : Class) (comp : ClassId), s.vm.classes[G.2.2 1]? = some kA ∧ kA.kind = .array comp (.object RX0) ∧ s.vm.findClass RX0 = some comp ∧ s.vm.findClass ("[" ++ (FieldType.object RX0).toString) = some (G.2.2 1) := (hK.2 1 _ rfl).2
  obtain ⟨-, -, -, -, -, e2⟩ : ∃ (kA : Class) (comp : ClassId), s.vm.classes[cA]? = some kA ∧ kA.kind = .array comp (.object RX0) ∧ s.vm.findClass RX0 = some comp ∧ s.vm.findClass ("[" ++ (FieldType.object RX0).toString) = some cA := (k1.2 2 _ rfl).2
  cases Option.some.inj (e1.symm.trans e2)
  rw [wl_push] at k2 k3
  exact kk q H1 ⟨hK, k2, k3, k4, hlo, hX⟩
theorem g_new (hC : CallFix p m c cc nL s args Ts own) (hY : Sy G N ad ct s H locs) {ci : Nat} {q : vw_C} (hc : vwCl[ci]? = some q) (hin : ∀ w ∈ u_ws q.1 q.2.1 q.2.2, w ∈ Ts) (ty0 : Nat → FieldType) (hty : ∀ k, k < q.2.2 → parseFieldDescriptor (q.2.1 k).2.2.1 = some (ty0 k)) {index : Nat} (hcl : Cond.classLink own index q.1 ∈ Ts) (hinst : Cond.instantiable q.1 q.2.2 ∈ Ts) (hini : Cond.initialized q.1 ∈ Ts) {fs : List Value} (hfs : ∀ j, j < q.2.2 → defaultValue (ty0 j) = vp_V fs j) (hcells : cells + 1 ≤ R.cells) (hslots : slots + q.2.2 ≤ R.slots) (hdg : decode cc pc = .ok (.new index, 3))
    (kk : ∀ (a : Nat) (H1 : Heap), Sy G (N + 1) (va_up ad N a) (va_up ct N (.inr (ci, fs))) s H1 locs → W p l e R s m args below meth c H1 locs (cells + 1) (slots + q.2.2) Q (F0 m (pc + 3) ls (.ref a :: rest))) : W p l e R s m args below meth c H locs cells slots Q (F0 m pc ls rest) := by
  obtain ⟨hx, hb, hml, hown, hts⟩ := hC
  obtain ⟨hK, hP, hD, hS, hlo, hX⟩ := hY
  refine va_new (C := q.1) (T := q.2.1) (N := q.2.2) hx hb hts hin ty0 hty hown (hts _ hcl) (hts _ hinst) (hts _ hini) hK hP hD hS (fun q h => Nat.le_trans hlo h) (by rw [hc]) hfs hcells hslots hdg (fun a H1 k2 k3 k4 => ?_)
  rw [wl_push] at k2 k3
  exact kk a H1 ⟨hK, k2, k3, k4, hlo, hX⟩
/-- (g_put on an address that has a name) -/
theorem g_putA (hC : CallFix p m c cc nL s args Ts own) (hY : Sy G N ad ct s H locs) (r : Nat) (hr : r < N) {a : Nat} (ha : ad r = a) {ci : Nat} {fs : List Value} (hct : ct r = .inr (ci, fs)) {q : vw_C} (hc : vwCl[ci]? = some q) (hin : ∀ w ∈ u_ws q.1 q.2.1 q.2.2, w ∈ Ts) (ty0 : Nat → FieldType) (hty : ∀ k, k < q.2.2 → parseFieldDescriptor (q.2.1 k).2.2.1 = some (ty0 k)) (hnm : ∀ a, a < q.2.2 → ∀ b, b < q.2.2 → a ≠ b → (q.2.1 a).2.1 ≠ (q.2.1 b).2.1) (k : Nat) (hk : k < q.2.2) {index : Nat} (hlink : (Cond.fieldLink own index (q.2.1 k).1 (q.2.1 k).2.1 (q.2.1 k).2.2.1) ∈ Ts) (hfin : (q.2.1 k).2.2.2 = false ∨ ((q.2.1 k).2.2.2 = true ∧ meth.name = "<init>" ∧ (q.2.1 k).1 = own)) {v : Value} (hn : narrow (ty0 k) v = v) (hfit : fits (ty0 k) v = true) (hl : k < fs.length) (hdg : decode cc pc = .ok (.putfield index, 3))
    (kk : ∀ (H1 : Heap) (locs1 : List Loc), Sy G N ad (va_up ct r (.inr (ci, fs.set k v))) s H1 locs1 → W p l e R s m args below meth c H1 locs1 cells slots Q (F0 m (pc + 3) ls rest)) : W p l e R s m args below meth c H locs cells slots Q (F0 m pc ls (v :: .ref a :: rest)) := by
  subst ha
  exact g_put hC hY r hr hct hc hin ty0 hty hnm k hk hlink hfin hn hfit hl hdg kk
theorem g_getA (hC : CallFix p m c cc nL s args Ts own) (hY : Sy G N ad ct s H locs) (r : Nat) (hr : r < N) {a : Nat} (ha : ad r = a) {ci : Nat} {fs : List Value} (hct : ct r = .inr (ci, fs)) {q : vw_C} (hc : vwCl[ci]? = some q) (hin : ∀ w ∈ u_ws q.1 q.2.1 q.2.2, w ∈ Ts) (k : Nat) (hk : k < q.2.2) {index : Nat} (hlink : (Cond.fieldLink own index (q.2.1 k).1 (q.2.1 k).2.1 (q.2.1 k).2.2.1) ∈ Ts) {v : Value} (hv : fs[k]? = some v) (hdg : decode cc pc = .ok (.getfield index, 3))
    (kk : W p l e R s m args below meth c H locs cells slots Q (F0 m (pc + 3) ls (v :: rest))) : W p l e R s m args below meth c H locs cells slots Q (F0 m pc ls (.ref a :: rest)) := by
  subst ha
  exact g_get hC hY r hr hct hc hin k hk hlink hv hdg kk
theorem g_runI {y : MethodName} {ws ws' : List Cond} {rm : Room} {Qc : Array Value → State → Outcome → State → Prop} {bytes : ByteArray} {maxL index n : Nat} {As : List Value} {b : Nat} (hC : CallFix p m c cc nL s args Ts own) (hM : Met l y ws rm (va_Pc (.ref b :: As) (fun U => Sy G N ad ct U U.heap [])) Qc mc ms (gF G)) (hT : GoodIn Ts ws) (hw : ws = Cond.code y bytes maxL none :: ws') (hrc : rm.cells = mc ∧ rm.slots = ms) (hini : Cond.initialized y.cls ∈ Ts) (hlk : Cond.methodLink own index y ∈ Ts) (him : Cond.instanceMethod y ∈ Ts) (hnm : y.name = "<init>") (hd : y.cls ≠ "java/lang/invoke/MethodHandle" ∧ y.cls ≠ "java/lang/invoke/VarHandle" ∧ (parseMethodDescriptor y.desc).map (fun d => d.parameters.length) = some n) (hR : rm.frames + 1 ≤ R.frames ∧ 8 + (maxL + 11) + rm.locals ≤ R.locals)
    (hY : Sy G N ad ct s H locs) (hn : As.length = n) (hsize : ls.size = nL) (hst : st0 = As.reverse ++ .ref b :: rest) (hW : (rest.map fun v => v.category).sum ≤ 8) (hdg : decode cc pc = .ok (.invokespecial index, 3)) (hf : cells + mc ≤ R.cells ∧ slots + ms ≤ R.slots) :
    va_Run p l e R s m args below meth c H locs cells slots mc ms (F0 m pc ls st0) rest (Qc (Value.ref b :: As).toArray) (gF G) :=
  va_runI (As := As) (rest := rest) hC hM (cwI n hC.2.2.2.2 hT hw hrc.1 hrc.2 (hC.2.2.2.2 _ hini) (hC.2.2.2.2 _ hlk) (hC.2.2.2.2 _ him) hnm hd hR) ⟨Sy.blind, fun U hU hW => ⟨rfl, hY.pre hU hW⟩⟩ rfl hn hsize hst (lv_room hW) hdg hf
/-- a constructor's call: its world's addresses come with it -/
theorem g_callI {a : Array Value} {post : (Nat → Nat) → Prop} {N2 : Nat} {ct2 : (Nat → Nat) → Nat → va_E} (hY : Sy G N ad ct s H locs) (hr : va_Run p l e R s m args below meth c H locs cells slots mc ms (F0 m pc ls st0) rest (va_Qv post (fun u t => Sz G N2 u (ct2 u) t) (gF G) a) (gF G))
    (kk : ∀ (u : Nat → Nat) (H1 : Heap) (locs1 : List Loc), post u → Sy G N2 u (ct2 u) s H1 locs1 → W p l e R s m args below meth c H1 locs1 (cells + mc) (slots + ms) Q (F0 m (pc + 3) ls rest)) : W p l e R s m args below meth c H locs cells slots Q (F0 m pc ls st0) :=
  va_callv hr hY.2.2.2.1 (fun _ _ h => h) (fun _ h => h) (fun u t H1 locs1 ht hvm hp hz _ _ hS => kk u H1 locs1 hp (hY.back hz ht hvm hS))
theorem g_retI (hC : CallFix p m c cc nL s args Ts own) (hr : meth.sig.returnType = none) (hlocks : meth.locks = false) {post : (Nat → Nat) → Prop} {ct2 : (Nat → Nat) → Nat → va_E} (u : Nat → Nat) (hY : Sy G N u (ct2 u) s H locs) (hcm : cells ≤ mc ∧ slots ≤ ms) (hdg : decode cc pc = .ok (.return_, 1)) (hp : post u) : W p l e R s m args below meth c H locs cells slots (MQ below (va_Qv post (fun u t => Sz G N u (ct2 u) t) (gF G)) args s mc ms (gF G)) (F0 m pc ls []) :=
  W.widen hcm.1 hcm.2 (W.vret hC.1 hC.2.1 hr (fun t ht hW => ⟨⟨u, rfl, hp, hY.post ht hW.alike⟩, hY.2.2.2.1.F ht⟩) hY.2.2.2.1.2.2 hdg hlocks)
end GMK

/-- the world behind a lease's making -/
def ctI (G : GG) (R : Nat) (ct : Nat → va_E) (p0 p1 p2 p3 : Int32) (u : Nat → Nat) : Nat → va_E := fun r => if r = R then .inr (0, [.int p0, .int p1, .int p3, .int p2, .int 0, .int 0, .int (-1), .int 0, .int 0, .ref (u (R + 1)), .ref (u (R + 2)), .int 0]) else if r = R + 1 ∨ r = R + 2 then .inl (G.2.2 0, 6, .inl (fun _ => 0)) else ct r
set_option maxHeartbeats 4000000 in
set_option maxRecDepth 100000 in
theorem c_X0_init (l : Launch) (G : GG) (R : Nat) (ad : Nat → Nat) (ct : Nat → va_E) (hct : ct R = .inr (0, [.int 0, .int 0, .int 0, .int 0, .int 0, .int 0, .int 0, .int 0, .int 0, .null, .null, .int 0])) (p0 p1 p2 p3 : Int32) : Met l yX0_init wsX0_init ({ frames := 1, cells := 2, slots := 12, locals := 20 }) (va_Pc [.ref (ad R), .int p0, .int p1, .int p2, .int p3] (fun U => Sy G (R + 1) ad ct U U.heap [])) (va_Qv (fun u => ∀ r, r ≤ R → u r = ad r) (fun u t => Sz G (R + 3) u (ctI G R ct p0 p1 p2 p3 u) t) (gF G)) 2 12 (gF G) := by
  refine Met.ofW (cc := cX0_init) (maxL := 5) (ret := none) (by decide) rfl ?_
  intro p e s m args below meth c s₁ B hml hv
  obtain ⟨rfl, hY⟩ := hv
  have hts := atoms_spec (ws := wsX0_init) B.pre
  have hC : CallFix p m c cX0_init 5 s _ wsX0_init RX0 := ⟨B.exec, B.bytes, hml, findClass_of_methodNamed B.named, hts⟩
  have hx := hC.1
  have hb := hC.2.1
  have hr := B.returns
  have hlocks := B.notSynchronized
  have hin : meth.name = "<init>" := (name_of_methodNamed B.named B.method).1
  have hin0 : ∀ w ∈ wsX00, w ∈ wsX0_init := by decide +kernel
  have hl := lv_entry ([.ref (ad R), .int p0, .int p1, .int p2, .int p3]) (n := 5) (Nat.le_of_ble_eq_true rfl)
  rw [lg_entry_eq]
  generalize (lg_sl ([.ref (ad R), .int p0, .int p1, .int p2, .int p3]) ++ List.replicate (5 - (lg_sl ([.ref (ad R), .int p0, .int p1, .int p2, .int p3])).length) Slot.unset).toArray = ls at hl ⊢
  have hl : lv_has ls 5 [(0, .ref (ad R)), (1, .int p0), (2, .int p1), (3, .int p2), (4, .int p3)] := hl
  refine lv_aload_n hx hb dX0_init_0 rfl (lv_at hl 0 rfl) ?_
  refine W.objInit hx hb hC.2.2.2.1 (hts (.methodLink RX0 3 objectInit) (by decide +kernel)) (hts (.instanceMethod objectInit) (by decide +kernel)) (hts _ (by decide +kernel)) rfl (by rw [hml]; exact hl.1) rfl dX0_init_1 (Nat.le_of_ble_eq_true rfl) (Nat.le_of_ble_eq_true rfl) ?_
  refine W.eq (g2 := F0 m 4 ls []) rfl ?_
  refine lv_aload_n hx hb dX0_init_4 rfl (lv_at hl 0 rfl) ?_
  refine lv_iconst (v := 0) hx hb dX0_init_5 (by decide) ?_
  refine g_putA hC hY R (by omega) (a := ad R) rfl hct (q := (RX0, TX0, 12)) rfl hin0 tyX0 tyX0_ok nmX0 4 (by decide) (by decide +kernel) (Or.inl rfl) rfl rfl (Nat.le_of_ble_eq_true rfl) dX0_init_6 (fun H locs hY => ?_)
  refine lv_aload_n hx hb dX0_init_9 rfl (lv_at hl 0 rfl) ?_
  refine lv_iconst (v := 0) hx hb dX0_init_10 (by decide) ?_
  refine g_putA hC hY R (by omega) (a := ad R) rfl (va_up_self _ _ _) (q := (RX0, TX0, 12)) rfl hin0 tyX0 tyX0_ok nmX0 5 (by decide) (by decide +kernel) (Or.inl rfl) rfl rfl (Nat.le_of_ble_eq_true rfl) dX0_init_11 (fun H locs hY => ?_)
  refine lv_aload_n hx hb dX0_init_14 rfl (lv_at hl 0 rfl) ?_
  refine lv_iconst (v := (-1)) hx hb dX0_init_15 (by decide) ?_
  refine g_putA hC hY R (by omega) (a := ad R) rfl (va_up_self _ _ _) (q := (RX0, TX0, 12)) rfl hin0 tyX0 tyX0_ok nmX0 6 (by decide) (by decide +kernel) (Or.inl rfl) rfl rfl (Nat.le_of_ble_eq_true rfl) dX0_init_16 (fun H locs hY => ?_)
  refine lv_aload_n hx hb dX0_init_19 rfl (lv_at hl 0 rfl) ?_
  refine lv_iconst (v := 0) hx hb dX0_init_20 (by decide) ?_
  refine g_putA hC hY R (by omega) (a := ad R) rfl (va_up_self _ _ _) (q := (RX0, TX0, 12)) rfl hin0 tyX0 tyX0_ok nmX0 7 (by decide) (by decide +kernel) (Or.inl rfl) rfl rfl (Nat.le_of_ble_eq_true rfl) dX0_init_21 (fun H locs hY => ?_)
  refine lv_aload_n hx hb dX0_init_24 rfl (lv_at hl 0 rfl) ?_
  refine lv_iconst (v := 0) hx hb dX0_init_25 (by decide) ?_
  refine g_putA hC hY R (by omega) (a := ad R) rfl (va_up_self _ _ _) (q := (RX0, TX0, 12)) rfl hin0 tyX0 tyX0_ok nmX0 8 (by decide) (by decide +kernel) (Or.inl rfl) rfl rfl (Nat.le_of_ble_eq_true rfl) dX0_init_26 (fun H locs hY => ?_)
  refine lv_aload_n hx hb dX0_init_29 rfl (lv_at hl 0 rfl) ?_
  refine lv_bipush (v := 6) hx hb dX0_init_30 (by decide) ?_
  refine g_newi hC hY (by decide +kernel) (L := 6) (by decide) (by decide) (by decide) (Nat.le_of_ble_eq_true rfl) (Nat.le_of_ble_eq_true rfl) dX0_init_32 (fun q1 H hY => ?_)
  refine g_putA hC hY R (by omega) (a := ad R) (va_up_ne _ _ (by omega)) ((va_up_ne _ _ (by omega)).trans (va_up_self _ _ _)) (q := (RX0, TX0, 12)) rfl hin0 tyX0 tyX0_ok nmX0 9 (by decide) (by decide +kernel) (Or.inr ⟨rfl, hin, rfl⟩) rfl rfl (Nat.le_of_ble_eq_true rfl) dX0_init_34 (fun H locs hY => ?_)
  refine lv_aload_n hx hb dX0_init_37 rfl (lv_at hl 0 rfl) ?_
  refine lv_bipush (v := 6) hx hb dX0_init_38 (by decide) ?_
  refine g_newi hC hY (by decide +kernel) (L := 6) (by decide) (by decide) (by decide) (Nat.le_of_ble_eq_true rfl) (Nat.le_of_ble_eq_true rfl) dX0_init_40 (fun q2 H hY => ?_)
  refine g_putA hC hY R (by omega) (a := ad R) ((va_up_ne _ _ (by omega)).trans (va_up_ne _ _ (by omega))) ((va_up_ne _ _ (by omega)).trans (va_up_self _ _ _)) (q := (RX0, TX0, 12)) rfl hin0 tyX0 tyX0_ok nmX0 10 (by decide) (by decide +kernel) (Or.inr ⟨rfl, hin, rfl⟩) rfl rfl (Nat.le_of_ble_eq_true rfl) dX0_init_42 (fun H locs hY => ?_)
  refine lv_aload_n hx hb dX0_init_45 rfl (lv_at hl 0 rfl) ?_
  refine lv_iconst (v := 0) hx hb dX0_init_46 (by decide) ?_
  refine g_putA hC hY R (by omega) (a := ad R) ((va_up_ne _ _ (by omega)).trans (va_up_ne _ _ (by omega))) (va_up_self _ _ _) (q := (RX0, TX0, 12)) rfl hin0 tyX0 tyX0_ok nmX0 11 (by decide) (by decide +kernel) (Or.inl rfl) rfl rfl (Nat.le_of_ble_eq_true rfl) dX0_init_47 (fun H locs hY => ?_)
  refine lv_aload_n hx hb dX0_init_50 rfl (lv_at hl 0 rfl) ?_
  refine lv_iload_n hx hb dX0_init_51 rfl (lv_at hl 1 rfl) ?_
  refine g_putA hC hY R (by omega) (a := ad R) ((va_up_ne _ _ (by omega)).trans (va_up_ne _ _ (by omega))) (va_up_self _ _ _) (q := (RX0, TX0, 12)) rfl hin0 tyX0 tyX0_ok nmX0 0 (by decide) (by decide +kernel) (Or.inr ⟨rfl, hin, rfl⟩) rfl rfl (Nat.le_of_ble_eq_true rfl) dX0_init_52 (fun H locs hY => ?_)
  refine lv_aload_n hx hb dX0_init_55 rfl (lv_at hl 0 rfl) ?_
  refine lv_iload_n hx hb dX0_init_56 rfl (lv_at hl 2 rfl) ?_
  refine g_putA hC hY R (by omega) (a := ad R) ((va_up_ne _ _ (by omega)).trans (va_up_ne _ _ (by omega))) (va_up_self _ _ _) (q := (RX0, TX0, 12)) rfl hin0 tyX0 tyX0_ok nmX0 1 (by decide) (by decide +kernel) (Or.inr ⟨rfl, hin, rfl⟩) rfl rfl (Nat.le_of_ble_eq_true rfl) dX0_init_57 (fun H locs hY => ?_)
  refine lv_aload_n hx hb dX0_init_60 rfl (lv_at hl 0 rfl) ?_
  refine lv_iload_n hx hb dX0_init_61 rfl (lv_at hl 3 rfl) ?_
  refine g_putA hC hY R (by omega) (a := ad R) ((va_up_ne _ _ (by omega)).trans (va_up_ne _ _ (by omega))) (va_up_self _ _ _) (q := (RX0, TX0, 12)) rfl hin0 tyX0 tyX0_ok nmX0 3 (by decide) (by decide +kernel) (Or.inl rfl) rfl rfl (Nat.le_of_ble_eq_true rfl) dX0_init_62 (fun H locs hY => ?_)
  refine lv_aload_n hx hb dX0_init_65 rfl (lv_at hl 0 rfl) ?_
  refine lv_iload hx hb dX0_init_66 (lv_at hl 4 rfl) ?_
  refine g_putA hC hY R (by omega) (a := ad R) ((va_up_ne _ _ (by omega)).trans (va_up_ne _ _ (by omega))) (va_up_self _ _ _) (q := (RX0, TX0, 12)) rfl hin0 tyX0 tyX0_ok nmX0 2 (by decide) (by decide +kernel) (Or.inr ⟨rfl, hin, rfl⟩) rfl rfl (Nat.le_of_ble_eq_true rfl) dX0_init_68 (fun H locs hY => ?_)
  have hu0 : ∀ r, r ≤ R → va_up (va_up ad (R + 1) q1) (R + 1 + 1) q2 r = ad r := fun r h => by rw [va_up_ne _ _ (by omega), va_up_ne _ _ (by omega)]
  have hu1 : va_up (va_up ad (R + 1) q1) (R + 1 + 1) q2 (R + 1) = q1 := by rw [va_up_ne _ _ (by omega), va_up_self]
  have hu2 : va_up (va_up ad (R + 1) q1) (R + 1 + 1) q2 (R + 2) = q2 := va_up_self _ _ _
  exact g_retI (ct2 := ctI G R ct p0 p1 p2 p3) hC hr hlocks _ (hY.ctE (fun r hr => by
    unfold ctI
    rw [hu1, hu2]
    by_cases h1 : r = R
    · subst h1; rw [if_pos rfl, va_up_self]; rfl
    · rw [if_neg h1]
      simp only [va_up, if_neg h1]
      by_cases h2 : r = R + 1 + 1
      · rw [if_pos h2, if_pos (by omega)]
      · rw [if_neg h2]
        by_cases h3 : r = R + 1
        · rw [if_pos h3, if_pos (by omega)]
        · rw [if_neg h3, if_neg (by omega)])) ⟨Nat.le_of_ble_eq_true rfl, Nat.le_of_ble_eq_true rfl⟩ dX0_init_71 hu0

section
-- ===== PART A: goes FIRST, ahead of the names: the tables' words, and 'selects' of the private methods out of them =====
/-- a private method of a class that the tables say can be made, by its rows of tables_1 -/
def lw_okq (q : MethodName × Nat) : Prop := (q.1.cls ≠ "java/lang/invoke/MethodHandle" ∧ q.1.cls ≠ "java/lang/invoke/VarHandle") ∧ Cond.instantiable q.1.cls q.2 ∈ tables_1 ∧ Cond.privateMethod q.1 ∈ tables_1 ∧ Cond.instanceMethod q.1 ∈ tables_1
theorem lw_p0 : lw_okq (⟨"java/lang/Throwable", "fillInStackTrace", "(I)Ljava/lang/Throwable;"⟩, 6) := ⟨⟨by decide +kernel, by decide +kernel⟩, List.mem_of_getElem? (i := 87) (by decide +kernel), List.mem_of_getElem? (i := 85) (by decide +kernel), List.mem_of_getElem? (i := 86) (by decide +kernel)⟩
theorem lw_p1 : lw_okq (⟨"Voidrent", "daysLet", "(III)I"⟩, 5) := ⟨⟨by decide +kernel, by decide +kernel⟩, List.mem_of_getElem? (i := 11) (by decide +kernel), List.mem_of_getElem? (i := 117) (by decide +kernel), List.mem_of_getElem? (i := 118) (by decide +kernel)⟩
theorem lw_p2 : lw_okq (⟨"Voidrent", "partOf", "(LVoidrent$Lease;II)I"⟩, 5) := ⟨⟨by decide +kernel, by decide +kernel⟩, List.mem_of_getElem? (i := 11) (by decide +kernel), List.mem_of_getElem? (i := 135) (by decide +kernel), List.mem_of_getElem? (i := 136) (by decide +kernel)⟩
theorem lw_p3 : lw_okq (⟨"Voidrent", "allAreas", "()I"⟩, 5) := ⟨⟨by decide +kernel, by decide +kernel⟩, List.mem_of_getElem? (i := 11) (by decide +kernel), List.mem_of_getElem? (i := 139) (by decide +kernel), List.mem_of_getElem? (i := 140) (by decide +kernel)⟩
theorem lw_p4 : lw_okq (⟨"Voidrent", "find", "(I)LVoidrent$Lease;"⟩, 5) := ⟨⟨by decide +kernel, by decide +kernel⟩, List.mem_of_getElem? (i := 11) (by decide +kernel), List.mem_of_getElem? (i := 288) (by decide +kernel), List.mem_of_getElem? (i := 289) (by decide +kernel)⟩
theorem lw_p5 : lw_okq (⟨"Voidrent", "rentFor", "(LVoidrent$Lease;I)I"⟩, 5) := ⟨⟨by decide +kernel, by decide +kernel⟩, List.mem_of_getElem? (i := 11) (by decide +kernel), List.mem_of_getElem? (i := 293) (by decide +kernel), List.mem_of_getElem? (i := 294) (by decide +kernel)⟩
theorem lw_p6 : lw_okq (⟨"Voidrent", "highestIndex", "(LVoidrent$Lease;I)I"⟩, 5) := ⟨⟨by decide +kernel, by decide +kernel⟩, List.mem_of_getElem? (i := 11) (by decide +kernel), List.mem_of_getElem? (i := 305) (by decide +kernel), List.mem_of_getElem? (i := 306) (by decide +kernel)⟩
theorem lw_p7 : lw_okq (⟨"Voidrent", "billFor", "(LVoidrent$Lease;I)I"⟩, 5) := ⟨⟨by decide +kernel, by decide +kernel⟩, List.mem_of_getElem? (i := 11) (by decide +kernel), List.mem_of_getElem? (i := 370) (by decide +kernel), List.mem_of_getElem? (i := 371) (by decide +kernel)⟩
def lw_privs_1 : List (MethodName × Nat) := [(⟨"java/lang/Throwable", "fillInStackTrace", "(I)Ljava/lang/Throwable;"⟩, 6), (⟨"Voidrent", "daysLet", "(III)I"⟩, 5), (⟨"Voidrent", "partOf", "(LVoidrent$Lease;II)I"⟩, 5), (⟨"Voidrent", "allAreas", "()I"⟩, 5), (⟨"Voidrent", "find", "(I)LVoidrent$Lease;"⟩, 5), (⟨"Voidrent", "rentFor", "(LVoidrent$Lease;I)I"⟩, 5), (⟨"Voidrent", "highestIndex", "(LVoidrent$Lease;I)I"⟩, 5), (⟨"Voidrent", "billFor", "(LVoidrent$Lease;I)I"⟩, 5)]
theorem lw_r1 : ∀ q ∈ lw_privs_1, lw_okq q := List.forall_mem_cons.mpr ⟨lw_p0, List.forall_mem_cons.mpr ⟨lw_p1, List.forall_mem_cons.mpr ⟨lw_p2, List.forall_mem_cons.mpr ⟨lw_p3, List.forall_mem_cons.mpr ⟨lw_p4, List.forall_mem_cons.mpr ⟨lw_p5, List.forall_mem_cons.mpr ⟨lw_p6, List.forall_mem_cons.mpr ⟨lw_p7, fun _ h => absurd h List.not_mem_nil⟩⟩⟩⟩⟩⟩⟩⟩
def lw_privs : List (MethodName × Nat) := lw_privs_1
def lw_tbl : List Cond := k2_sels lw_privs ++ tables_1
theorem lw_privs_ok : ∀ q ∈ lw_privs, lw_okq q := lw_r1
/-- the streams that the claim lets the run draw from -/
abbrev lw_cs : List Choice := [Jvm.Choice.named "NaN.bits"]
theorem lw_bits : nanBits ∈ lw_cs := by first | decide | exact List.mem_cons_self | simp [lw_cs, nanBits]
end
section
/-! ===== BEGIN words of one list among another's, by their places ===== -/
theorem goodIn_r {big : List Cond} (ws : List Cond) (ps : List Nat) (hp : ws = ps.filterMap (fun i => big[i]?)) (h : ws.all goodWord = true) : GoodIn big ws := by
  intro w hw
  have h1 := List.all_eq_true.mp h w hw
  rw [hp] at hw
  obtain ⟨i, -, hi⟩ := List.mem_filterMap.mp hw
  have hm : w ∈ big := by first | exact List.mem_of_getElem? hi | exact List.getElem?_mem hi
  exact ⟨hm, good_of_word h1⟩
theorem goodIn_app {big a b : List Cond} (ha : GoodIn big a) (hb : GoodIn big b) : GoodIn big (a ++ b) := fun w h => (List.mem_append.mp h).elim (ha w) (hb w)
theorem goodIn_ca {big a b : List Cond} {c : Cond} (ha : GoodIn big (c :: a)) (hb : GoodIn big b) : GoodIn big (c :: (a ++ b)) := fun w h => (List.mem_cons.mp h).elim (fun e => ha w (List.mem_cons.mpr (Or.inl e))) (fun h => (List.mem_append.mp h).elim (fun h => ha w (List.mem_cons.mpr (Or.inr h))) (hb w))
theorem goodIn_sub {big ws : List Cond} (hm : ∀ w ∈ ws, w ∈ big) (h : ws.all goodWord = true) : GoodIn big ws := fun w hw => ⟨hm w hw, good_of_word (List.all_eq_true.mp h w hw)⟩
/-! ===== END ===== -/

/-! ===== BEGIN exceptions that leave a method, and their catching by the caller (launches without stack traces) ===== -/
section VXA
/-! The laws vx_back, vx_callV, vx_callS, vx_callSW, vx_throw0, vx_throwS follow proofs of the library, with one case more: JvmDerived/Free/Laws.lean (Back.of_free), Shelf42/LK1.lean (callV, callS), Shelf/KitTraced.lean (throwNew0V, throwNewS). -/
/-- where a method has thrown q: the class by its name, the cell, what was written, the world -/
def vx_T (XC : String → State → State → Prop) (st : State) (q : Addr) (t : State) (mc ms : Nat) (free : Addr → Prop) : Prop :=
  ∃ (E : String) (ce : Cell) (L : List Loc), XC E st t ∧ t.heap[q]? = some ce ∧ ce.vm = .none ∧ st.vm.findClass E = some ce.cls ∧ st.WarmedH t.vm ∧ st.sameButNew ({ t with vm := st.vm } : State) L mc ms ∧ ∀ z ∈ L, free z.base
def vx_Q (Qc : Array Value → State → Outcome → State → Prop) (XC : String → State → State → Prop) (mc ms : Nat) (free : Addr → Prop) : Array Value → State → Outcome → State → Prop := fun a st o t =>
  (Qc a st o t ∧ ∃ L, FrameEnd st o t L mc ms ∧ ∀ q ∈ L, free q.base) ∨ ∃ q, o = .threw q ∧ vx_T XC st q t mc ms free
/-- a callee that returns or throws -/
def vx_Met (l : Launch) (y : MethodName) (ws : List Cond) (rm : Room) (Pc : Array Value → State → Prop) (Qc : Array Value → State → Outcome → State → Prop) (XC : String → State → State → Prop) (mc ms : Nat) (free : Addr → Prop) : Prop :=
  MetFree l y (headSpec ws rm) Pc (fun _ _ _ _ _ => True) (vx_Q Qc XC mc ms free)
def vx_Post (XC : String → State → State → Prop) (mc ms : Nat) (free : Addr → Prop) : Pt → Array Value → Addr → Pt → Prop := fun A a q B =>
  ∃ (g : JFrame) (mk : MethodId) (t : State) (L : List Loc) (E : String) (ce : Cell), B.U.heap = t.heap ∧ B.U.vm = t.vm ∧ XC E (A.U.calling g mk a) t ∧ t.heap[q]? = some ce ∧ ce.vm = .none ∧ A.U.vm.findClass E = some ce.cls ∧ B.locs = A.locs ++ L ∧ (∀ z ∈ L, free z.base) ∧ B.cells = A.cells + mc ∧ B.slots = A.slots + ms
def vx_Back (l : Launch) (R : Room) (p : Program) (e : Env) (below : List Frame) (s : State) (sargs : Array Value) (y : MethodName) (len W9 : Nat)
    (Pre : Pt → Array Value → Prop) (Post : Pt → Array Value → Option Value → Pt → Prop) (PostX : Pt → Array Value → Addr → Pt → Prop) : Prop :=
  ∀ (m : MethodId) (meth : Method) (c : Code) (A : Pt) (g : JFrame) (ig : Instr) (mk : MethodId) (a : Array Value),
    Stand p l e R s m sargs below meth c A.U A.locs A.cells A.slots → g.method = m → g.locals.size = c.maxLocals → decode c.code g.pc = .ok (ig, len) →
    2 * g.monitorRoom + (g.stack.map fun v => v.category).sum ≤ W9 → A.U.methodNamed? y = some mk → Pre A a →
    (∃ (v : Option Value) (B : Pt), Stand p l e R s m sargs below meth c B.U B.locs B.cells B.slots ∧ Post A a v B ∧
      Steps p.tables e below (doInvoke e (A.U.setTop g) [] mk a).1 (B.U.setTop { g with pc := g.pc + len, stack := v.toList ++ g.stack })) ∨
    (∃ (q : Addr) (B : Pt), Stand p l e R s m sargs below meth c B.U B.locs B.cells B.slots ∧ PostX A a q B ∧
      Steps p.tables e below (doInvoke e (A.U.setTop g) [] mk a).1 ((B.U.setTop g).pushFrame (.throwing q)))
section Payer
variable {l : Launch} {R : Room} {p : Program} {e : Env} {below : List Frame} {s : State} {sargs : Array Value} {y : MethodName} {len W9 : Nat}
theorem vx_back {ws : List Cond} {rm : Room} {Pc : Array Value → State → Prop} {Qc : Array Value → State → Outcome → State → Prop} {XC : String → State → State → Prop} {mc ms : Nat} {free : Addr → Prop} {bytes : ByteArray} {maxL : Nat} {ret : Option FieldType}
    (hM : vx_Met l y ws rm Pc Qc XC mc ms free) (hblind : FrameBlind Pc) (hrc : rm.cells = mc) (hrs : rm.slots = ms)
    (hframes : rm.frames + 1 ≤ R.frames) (hlocals : W9 + (maxL + 11) + rm.locals ≤ R.locals)
    (hws : ∀ w ∈ ws, ∀ a' U, s.WarmedH U.vm → w.before a' U = true) (hcode : Cond.code y bytes maxL ret ∈ ws) (hinit : ∀ a' U, s.WarmedH U.vm → (Cond.initialized y.cls).before a' U = true) :
    vx_Back l R p e below s sargs y len W9 (PreOf R mc ms Pc) (PostOf Qc mc ms free) (vx_Post XC mc ms free) := by
  intro m meth c A g ig mk a X hg hsize hdg hW hn hp
  have h1 : (headSpec ws rm).pre.before a A.U = true := atoms_intro fun w hw => hws w hw _ _ X.warmed
  have h2 : (Cond.code y bytes maxL ret).before a A.U = true := hws _ hcode _ _ X.warmed
  have h3 : (Cond.initialized y.cls).before a A.U = true := hinit _ _ X.warmed
  have h4 : A.cells + (headSpec ws rm).room.cells ≤ R.cells := by rw [show (headSpec ws rm).room.cells = mc from hrc]; exact hp.1
  have h5 : A.slots + (headSpec ws rm).room.slots ≤ R.slots := by rw [show (headSpec ws rm).room.slots = ms from hrs]; exact hp.2.1
  have hPc : Pc a (A.U.calling g mk a) := hblind _ _ _ _ hp.2.2
  obtain ⟨U, Ls, c0, s0⟩ := A
  dsimp only [Pt.U, Pt.locs, Pt.cells, Pt.slots] at h1 h2 h3 h4 h5 X hn hPc ⊢
  obtain ⟨methY, cY, hmY, hcY, -, hlY, -, -, -, -⟩ := Cond.code_spec hn h2
  obtain ⟨kY, hkY, -⟩ := className_of_methodNamed hn
  have hinitY : kY.init = .initialized := Cond.initialized_spec (findClass_of_methodNamed hn) hkY h3
  have h : At U g.method c below := by rw [hg]; exact X.here
  have hlocals9 : W9 + (maxL + 11) + (headSpec ws rm).room.locals ≤ R.locals := hlocals
  have happ : (headSpec ws rm).appliesLoose y e.platform (U.calling g mk a) = true :=
    Spec.appliesLoose_calling (g := g) h hdg hn hkY hinitY
      (X.room_calling (g := g) (R' := (headSpec ws rm).room) hsize hmY hcY hframes (by rw [hlY]; omega) h4 h5) h1
  obtain ⟨mid, hmid⟩ := h.above
  have hfr : (U.setTop g).frames = (.java g :: mid) ++ below := by rw [State.frames_setTop' g h.top, hmid]; rfl
  obtain ⟨o, s₂, hsteps, -, hend, hq⟩ := Steps.callFree hM p X.admits X.cas X.clock (acts := []) hfr happ hPc trivial
  have hq' : vx_Q Qc XC mc ms free a (U.calling g mk a) o s₂ := hq
  rw [State.frames_setTop' g h.top] at hend
  obtain ⟨g₀, hg0⟩ := Option.isSome_iff_exists.mp h.top
  obtain ⟨r, hr⟩ := State.topJava?_eq_some.mp hg0
  have hr' : (({ U with heap := s₂.heap, slotsUsed := s₂.slotsUsed } : State).setVm s₂.vm).frames = .java g₀ :: r := hr
  rcases hq' with ⟨hqc, L, hfe, hL⟩ | ⟨q, rfl, E, ce, L, hx, hce, hcv, hcl, hW₂, hsm, hL⟩
  · obtain ⟨⟨v, rfl⟩, hW₂, e2, q2, q3, q4, q5, q6⟩ := id hfe
    have e3 : s₂ = ({ (U.calling g mk a).setFrames s₂.frames with heap := s₂.heap, slotsUsed := s₂.slotsUsed } : State).setVm s₂.vm := by
      have : s₂ = ({ s₂ with vm := (U.calling g mk a).vm } : State).setVm s₂.vm := rfl
      rw [e2] at this
      exact this
    obtain ⟨c₂, i₂, len₂, hc₂, hd₂, hf₂⟩ := hend
    have hW' : U.WarmedH s₂.vm := hW₂
    have hcc : c₂ = c := by
      have h1 : s₂.code? g.method = U.code? g.method := by
        rw [State.code?_eq, State.code?_eq, hW'.alike.method?]
      exact Option.some.inj (hc₂.symm.trans (h1.trans h.code))
    subst hcc
    have hlen : len₂ = len := by rw [hdg] at hd₂; cases hd₂; rfl
    subst hlen
    have hs₂ : s₂ = (({ U with heap := s₂.heap, slotsUsed := s₂.slotsUsed } : State).setVm s₂.vm).setTop { g with pc := g.pc + len₂, stack := v.toList ++ g.stack } := by
      refine e3.trans ?_
      rw [hf₂, State.calling_eq h.top, State.setFrames_setFrames, State.setTop_of_frames _ hr', hr]
      rfl
    have hsame : U.sameButNew ({ U with heap := s₂.heap, slotsUsed := s₂.slotsUsed } : State) L mc ms := by
      refine ⟨?_, q2, q3, q4, q5, q6⟩
      obtain ⟨t, ht, -⟩ := State.frames_cons hr
      show ({ U with heap := s₂.heap, slotsUsed := s₂.slotsUsed } : State) = { U.setFrames U.frames with heap := s₂.heap, slotsUsed := s₂.slotsUsed }
      rw [State.setFrames_self ht]
    subst hg
    refine Or.inl ⟨v, ⟨(({ U with heap := s₂.heap, slotsUsed := s₂.slotsUsed } : State).setVm s₂.vm), Ls ++ L, c0 + mc, s0 + ms⟩,
      ⟨X.admits, X.cas, X.clock, X.frames, X.room, X.hears, X.method, X.code, (X.here.setHeapUsed s₂.heap s₂.slotsUsed).setVm hW'.alike, X.tail, State.WarmedH.trans X.warmed hW', X.limits, X.bytes, X.same.trans (hsame.setVm s.vm)⟩,
      ⟨g, mk, s₂, L, rfl, rfl, hqc, rfl, hL, rfl, rfl⟩, ?_⟩
    show Steps p.tables e below _ ((({ U with heap := s₂.heap, slotsUsed := s₂.slotsUsed } : State).setVm s₂.vm).setTop { g with pc := g.pc + len₂, stack := v.toList ++ g.stack })
    rw [← hs₂]
    exact hsteps
  · obtain ⟨e2, q2, q3, q4, q5, q6⟩ := id hsm
    have e3 : s₂ = ({ (U.calling g mk a).setFrames s₂.frames with heap := s₂.heap, slotsUsed := s₂.slotsUsed } : State).setVm s₂.vm := by
      have : s₂ = ({ s₂ with vm := (U.calling g mk a).vm } : State).setVm s₂.vm := rfl
      rw [e2] at this
      exact this
    have hf₂ : s₂.frames = .throwing q :: .java g :: U.frames.tail := hend
    have hW' : U.WarmedH s₂.vm := hW₂
    have hs₂ : s₂ = ((({ U with heap := s₂.heap, slotsUsed := s₂.slotsUsed } : State).setVm s₂.vm).setTop g).pushFrame (.throwing q) := by
      refine e3.trans ?_
      rw [hf₂, State.calling_eq h.top, State.setFrames_setFrames, State.pushFrame, State.frames_setTop _ hr', State.setTop_of_frames _ hr', State.setFrames_setFrames, hr]
      rfl
    have hsame : U.sameButNew ({ U with heap := s₂.heap, slotsUsed := s₂.slotsUsed } : State) L mc ms := by
      refine ⟨?_, q2, q3, q4, q5, q6⟩
      obtain ⟨t, ht, -⟩ := State.frames_cons hr
      show ({ U with heap := s₂.heap, slotsUsed := s₂.slotsUsed } : State) = { U.setFrames U.frames with heap := s₂.heap, slotsUsed := s₂.slotsUsed }
      rw [State.setFrames_self ht]
    subst hg
    refine Or.inr ⟨q, ⟨(({ U with heap := s₂.heap, slotsUsed := s₂.slotsUsed } : State).setVm s₂.vm), Ls ++ L, c0 + mc, s0 + ms⟩,
      ⟨X.admits, X.cas, X.clock, X.frames, X.room, X.hears, X.method, X.code, (X.here.setHeapUsed s₂.heap s₂.slotsUsed).setVm hW'.alike, X.tail, State.WarmedH.trans X.warmed hW', X.limits, X.bytes, X.same.trans (hsame.setVm s.vm)⟩,
      ⟨g, mk, s₂, L, E, ce, rfl, rfl, hx, hce, hcv, hcl, rfl, hL, rfl, rfl⟩, ?_⟩
    show Steps p.tables e below _ (((({ U with heap := s₂.heap, slotsUsed := s₂.slotsUsed } : State).setVm s₂.vm).setTop g).pushFrame (.throwing q))
    rw [← hs₂]
    exact hsteps
end Payer
section Calls
variable {p : Program} {l : Launch} {e : Env} {R : Room} {s : State} {m : MethodId} {args : Array Value} {below : List Frame} {meth : Method} {c : Code} {T : State} {locs : List Loc} {cells slots : Nat}
theorem vx_callV (X : Stand p l e R s m args below meth c T locs cells slots) (hexec : p.tables.exec = Jvm.exec) {own C : String} {index : Nat} {y : MethodName} {bytes : ByteArray} {maxL : Nat} {ret : Option FieldType}
    (hown : s.vm.findClass own = some m.cls) (hlink : (Cond.methodLink own index y).before args s = true) (hinst : (Cond.instanceMethod y).before args s = true) (hsel : (Cond.selects C y y).before args s = true)
    (hcode : (Cond.code y bytes maxL ret).before args s = true) (hy : y.cls ≠ "java/lang/invoke/MethodHandle" ∧ y.cls ≠ "java/lang/invoke/VarHandle")
    {W9 : Nat} {Pre : Pt → Array Value → Prop} {Post : Pt → Array Value → Option Value → Pt → Prop} {PostX : Pt → Array Value → Addr → Pt → Prop} (hK : vx_Back l R p e below s args y 3 W9 Pre Post PostX)
    {b : Addr} {cellB : Cell} (hcell : T.heap[b]? = some cellB) (hobj : cellB.vm.isStatics = false) (hcls : s.vm.findClass C = some cellB.cls)
    {g : JFrame} (hg : g.method = m) (hsize : g.locals.size = c.maxLocals) {argsL rest : List Value} (hlen : ∀ sig, parseMethodDescriptor y.desc = some sig → argsL.length = sig.parameters.length)
    (hstack : g.stack = argsL.reverse ++ .ref b :: rest) (hW : 2 * g.monitorRoom + (rest.map fun v => v.category).sum ≤ W9) (hdg : decode c.code g.pc = .ok (.invokevirtual index, 3))
    (hpre : ∀ vm₁, s.WarmedH vm₁ → Pre ⟨T.setVm vm₁, locs, cells, slots⟩ (Value.ref b :: argsL).toArray) :
    (∃ (v : Option Value) (vm₁ : Vm) (B : Pt), s.WarmedH vm₁ ∧ Stand p l e R s m args below meth c B.U B.locs B.cells B.slots ∧ Post ⟨T.setVm vm₁, locs, cells, slots⟩ (Value.ref b :: argsL).toArray v B ∧
      ∀ target, Steps p.tables e below (B.U.setTop { g with pc := g.pc + 3, stack := v.toList ++ rest }) target → Steps p.tables e below (T.setTop g) target) ∨
    (∃ (q : Addr) (vm₁ : Vm) (B : Pt), s.WarmedH vm₁ ∧ Stand p l e R s m args below meth c B.U B.locs B.cells B.slots ∧ PostX ⟨T.setVm vm₁, locs, cells, slots⟩ (Value.ref b :: argsL).toArray q B ∧
      Steps p.tables e below (T.setTop g) ((B.U.setTop { g with stack := rest }).pushFrame (.throwing q))) := by
  obtain ⟨mk, methM, hnamed, hmethM, hstM, habM⟩ := Cond.instanceMethod_spec hinst
  obtain ⟨methM', cM, hmethM', -, -, -, -, -, -, hsigM⟩ := Cond.code_spec hnamed hcode
  cases hmethM.symm.trans hmethM'
  obtain ⟨c2, r2, m2, q1, q2, q3, q4, kP, hkP, hkPi⟩ := Cond.selects_spec hsel
  cases hcls.symm.trans q1
  cases (State.methodFound?_of_named hnamed hy).symm.trans q2
  cases hnamed.symm.trans q3
  have hselP : selectMethod e.platform s.vm cellB.cls mk = .method mk := by rw [Launch.admits_selectMethod X.admits]; exact q4
  obtain ⟨vm₁, X₁, hstep₁⟩ := X.invokevirtual hexec hown hlink hnamed hmethM hstM hkP hkPi hy (a := b) (cell := cellB) hcell
    (fun z h => by rw [h] at hobj; cases hobj) hselP hmethM habM hkP hkPi (g := g) hg (argsL := argsL) (rest := rest) (hlen _ hsigM) hstack hdg
  rcases hK m meth c ⟨T.setVm vm₁, locs, cells, slots⟩ { g with stack := rest } (.invokevirtual index) mk (Value.ref b :: argsL).toArray X₁ hg hsize hdg hW (X₁.named hnamed) (hpre vm₁ X₁.warmed) with ⟨v, B, X', hpost, hsteps⟩ | ⟨q, B, X', hpost, hsteps⟩
  · exact Or.inl ⟨v, vm₁, B, X₁.warmed, X', hpost, fun target h => hstep₁ _ fun acts => by rw [doInvoke_state]; exact hsteps.trans h⟩
  · exact Or.inr ⟨q, vm₁, B, X₁.warmed, X', hpost, hstep₁ _ fun acts => by rw [doInvoke_state]; exact hsteps⟩
theorem vx_callS (X : Stand p l e R s m args below meth c T locs cells slots) (hexec : p.tables.exec = Jvm.exec) {own : String} {index : Nat} {y : MethodName} {bytes : ByteArray} {maxL : Nat} {ret : Option FieldType}
    (hown : s.vm.findClass own = some m.cls) (hlink : (Cond.methodLink own index y).before args s = true) (hstat : (Cond.static y).before args s = true) (hinit : (Cond.initialized y.cls).before args s = true)
    (hcode : (Cond.code y bytes maxL ret).before args s = true) (hy : y.cls ≠ "java/lang/invoke/MethodHandle" ∧ y.cls ≠ "java/lang/invoke/VarHandle")
    {W9 : Nat} {Pre : Pt → Array Value → Prop} {Post : Pt → Array Value → Option Value → Pt → Prop} {PostX : Pt → Array Value → Addr → Pt → Prop} (hK : vx_Back l R p e below s args y 3 W9 Pre Post PostX)
    {g : JFrame} (hg : g.method = m) (hsize : g.locals.size = c.maxLocals) {argsL rest : List Value} (hlen : ∀ sig, parseMethodDescriptor y.desc = some sig → argsL.length = sig.parameters.length)
    (hstack : g.stack = argsL.reverse ++ rest) (hW : 2 * g.monitorRoom + (rest.map fun v => v.category).sum ≤ W9) (hdg : decode c.code g.pc = .ok (.invokestatic index, 3))
    (hpre : ∀ vm₁, s.WarmedH vm₁ → Pre ⟨T.setVm vm₁, locs, cells, slots⟩ argsL.toArray) :
    (∃ (v : Option Value) (vm₁ : Vm) (B : Pt), s.WarmedH vm₁ ∧ Stand p l e R s m args below meth c B.U B.locs B.cells B.slots ∧ Post ⟨T.setVm vm₁, locs, cells, slots⟩ argsL.toArray v B ∧
      ∀ target, Steps p.tables e below (B.U.setTop { g with pc := g.pc + 3, stack := v.toList ++ rest }) target → Steps p.tables e below (T.setTop g) target) ∨
    (∃ (q : Addr) (vm₁ : Vm) (B : Pt), s.WarmedH vm₁ ∧ Stand p l e R s m args below meth c B.U B.locs B.cells B.slots ∧ PostX ⟨T.setVm vm₁, locs, cells, slots⟩ argsL.toArray q B ∧
      Steps p.tables e below (T.setTop g) ((B.U.setTop { g with stack := rest }).pushFrame (.throwing q))) := by
  obtain ⟨mk, hnamed⟩ := Cond.code_named hcode
  obtain ⟨methM, cM, hmethM, -, -, -, -, -, -, hsigM⟩ := Cond.code_spec hnamed hcode
  have hstatic : methM.isStatic = true := Cond.static_spec hnamed hmethM hstat
  obtain ⟨kP, hkP, -⟩ := className_of_methodNamed hnamed
  have hinitP : kP.init = .initialized := Cond.initialized_spec (findClass_of_methodNamed hnamed) hkP hinit
  obtain ⟨vm₁, X₁, hstep₁⟩ := X.invokestatic hexec hown hlink hnamed hmethM hstatic hkP hinitP hy (g := g) hg (argsL := argsL) (rest := rest) (hlen _ hsigM) hstack hdg
  rcases hK m meth c ⟨T.setVm vm₁, locs, cells, slots⟩ { g with stack := rest } (.invokestatic index) mk argsL.toArray X₁ hg hsize hdg hW (X₁.named hnamed) (hpre vm₁ X₁.warmed) with ⟨v, B, X', hpost, hsteps⟩ | ⟨q, B, X', hpost, hsteps⟩
  · exact Or.inl ⟨v, vm₁, B, X₁.warmed, X', hpost, fun target h => hstep₁ _ fun acts => by rw [doInvoke_state]; exact hsteps.trans h⟩
  · exact Or.inr ⟨q, vm₁, B, X₁.warmed, X', hpost, hstep₁ _ fun acts => by rw [doInvoke_state]; exact hsteps⟩
end Calls
theorem vx_cls {s : State} {T : State} {vm₁ : Vm} {E : String} {k : ClassId} (hW : s.WarmedH vm₁) (h : (T.setVm vm₁).vm.findClass E = some k) : s.vm.findClass E = some k := by
  have h1 : vm₁.findClass E = some k := h
  rw [hW.alike.findClass] at h1
  exact h1
/-- the method's frame g, with q thrown over it -/
def vx_W (p : Program) (l : Launch) (e : Env) (R : Room) (s : State) (m : MethodId) (args : Array Value) (below : List Frame) (meth : Method) (c : Code) (H : Heap) (locs : List Loc) (cells slots : Nat) (Q : State → Prop) (g : JFrame) (q : Addr) : Prop :=
  ∀ T : State, T.heap = H → Stand p l e R s m args below meth c T locs cells slots → ∃ t, Steps p.tables e below ((T.setTop g).pushFrame (.throwing q)) t ∧ Q t
def vx_Run (p : Program) (l : Launch) (e : Env) (R : Room) (s : State) (m : MethodId) (args : Array Value) (below : List Frame) (meth : Method) (c : Code) (H : Heap) (locs : List Loc) (cells slots mc ms : Nat) (g : JFrame) (rest : List Value) (Qa : State → Outcome → State → Prop) (XC : String → State → State → Prop) (free : Addr → Prop) : Prop :=
  ∀ T : State, T.heap = H → Stand p l e R s m args below meth c T locs cells slots →
    (∃ (v : Option Value) (st₀ t T' : State) (L : List Loc), st₀.heap = H ∧ Stand p l e R s m args below meth c T' (locs ++ L) (cells + mc) (slots + ms) ∧ (∀ q ∈ L, free q.base) ∧ T'.heap = t.heap ∧ T'.vm = t.vm ∧ Qa st₀ (.returned v) t ∧
      Goes p e below T g T' { g with pc := g.pc + 3, stack := v.toList ++ rest }) ∨
    (∃ (q : Addr) (st₀ t T' : State) (L : List Loc) (E : String) (ce : Cell), st₀.heap = H ∧ Stand p l e R s m args below meth c T' (locs ++ L) (cells + mc) (slots + ms) ∧ (∀ z ∈ L, free z.base) ∧ T'.heap = t.heap ∧ T'.vm = t.vm ∧ XC E st₀ t ∧ t.heap[q]? = some ce ∧ ce.vm = .none ∧ s.vm.findClass E = some ce.cls ∧
      Steps p.tables e below (T.setTop g) ((T'.setTop { g with stack := rest }).pushFrame (.throwing q)))
def vx_X {S : Type} (px : S → Prop) (B : String → S → State → Prop) (A : Nat → Prop) : String → State → State → Prop := fun E st t => ∃ u : S, px u ∧ B E u t ∧ va_F A st t
section Runs
variable {p : Program} {l : Launch} {e : Env} {R : Room} {s : State} {m : MethodId} {args : Array Value} {below : List Frame} {meth : Method} {c : Code} {H : Heap} {locs : List Loc} {cells slots : Nat}
variable {y : MethodName} {bytes cc : ByteArray} {maxL nL mc ms n index : Nat} {ret : Option FieldType} {ws : List Cond} {rm : Room} {Pc : Array Value → State → Prop} {Qc : Array Value → State → Outcome → State → Prop} {XC : String → State → State → Prop} {free : Addr → Prop} {Ts : List Cond} {own C : String} {b : Addr} {As rest : List Value} {g : JFrame}
theorem vx_callBack (cb : CallB R s args own index y bytes maxL ret ws rm mc ms n) (hM : vx_Met l y ws rm Pc Qc XC mc ms free) (hbl : FrameBlind Pc) : vx_Back l R p e below s args y 3 8 (PreOf R mc ms Pc) (PostOf Qc mc ms free) (vx_Post XC mc ms free) := by
  obtain ⟨hrc, hrs, hfr, hlo, hws, hcw, -, hini, -⟩ := cb
  exact vx_back (bytes := bytes) (maxL := maxL) (ret := ret) hM hbl hrc hrs hfr hlo hws hcw (fun a' U hW => word_at hW (Or.inl (by first | rfl | simp [Cond.onTables, Cond.keeps, Cond.steady])) hini)
theorem vx_runV (S : CallFix p m c cc nL s args Ts own) (hM : vx_Met l y ws rm Pc Qc XC mc ms free) (cw : CallW R s args own C index y bytes maxL ret ws rm mc ms n) (hp : PreV s H C b Pc As)
    (hg : g.method = m) (hn : As.length = n) (hsize : g.locals.size = nL) (hstack : g.stack = As.reverse ++ .ref b :: rest) (hW : 2 * g.monitorRoom + (rest.map fun v => v.category).sum ≤ 8) (hdg : decode cc g.pc = .ok (.invokevirtual index, 3)) (hf : cells + mc ≤ R.cells ∧ slots + ms ≤ R.slots) :
    vx_Run p l e R s m args below meth c H locs cells slots mc ms g rest (Qc (Value.ref b :: As).toArray) XC free := by
  have hK : vx_Back l R p e below s args y 3 8 (PreOf R mc ms Pc) (PostOf Qc mc ms free) (vx_Post XC mc ms free) := vx_callBack cw.1 hM hp.1
  obtain ⟨⟨-, -, -, -, -, -, hcode, -, hy, hlen, hl⟩, hin, hse⟩ := cw
  obtain ⟨hx, hb, hml, ho, -⟩ := S
  obtain ⟨-, ⟨cellB, hcB, hoB, hclB⟩, hPc⟩ := hp
  intro T hT X
  rcases vx_callV X hx (C := C) (bytes := bytes) (maxL := maxL) (ret := ret) ho hl hin hse hcode hy hK (by rw [hT]; exact hcB) hoB hclB hg (hsize.trans hml.symm) (argsL := As) (rest := rest) (fun sig h => hn.trans (hlen sig h)) hstack hW (by rw [hb]; exact hdg)
    (fun vm₁ hW₁ => ⟨hf.1, hf.2, hPc (T.setVm vm₁) hT hW₁⟩) with ⟨v, vm₁, ⟨U', l2, c2, s2⟩, hW₁, X', ⟨g', mk, t, L, e1, e2, hq, h1, hL, h2, h3⟩, st⟩ | ⟨q, vm₁, ⟨U', l2, c2, s2⟩, hW₁, X', ⟨g', mk, t, L, E, ce, e1, e2, hq, hce, hcv, hcl, h1, hL, h2, h3⟩, st⟩
  · dsimp only [Pt.U, Pt.locs, Pt.cells, Pt.slots] at X' e1 e2 h1 h2 h3 st
    subst h1; subst h2; subst h3
    exact Or.inl ⟨v, (T.setVm vm₁).calling g' mk (Value.ref b :: As).toArray, t, U', L, hT, X', hL, e1, e2, hq, st⟩
  · dsimp only [Pt.U, Pt.locs, Pt.cells, Pt.slots] at X' e1 e2 h1 h2 h3 st hcl
    subst h1; subst h2; subst h3
    exact Or.inr ⟨q, (T.setVm vm₁).calling g' mk (Value.ref b :: As).toArray, t, U', L, E, ce, hT, X', hL, e1, e2, hq, hce, hcv, vx_cls hW₁ hcl, st⟩
theorem vx_runS (S : CallFix p m c cc nL s args Ts own) (hM : vx_Met l y ws rm Pc Qc XC mc ms free) (cw : CallB R s args own index y bytes maxL ret ws rm mc ms n ∧ (Cond.static y).before args s = true) (hp : PreS s H Pc As)
    (hg : g.method = m) (hn : As.length = n) (hsize : g.locals.size = nL) (hstack : g.stack = As.reverse ++ rest) (hW : 2 * g.monitorRoom + (rest.map fun v => v.category).sum ≤ 8) (hdg : decode cc g.pc = .ok (.invokestatic index, 3)) (hf : cells + mc ≤ R.cells ∧ slots + ms ≤ R.slots) :
    vx_Run p l e R s m args below meth c H locs cells slots mc ms g rest (Qc As.toArray) XC free := by
  have hK : vx_Back l R p e below s args y 3 8 (PreOf R mc ms Pc) (PostOf Qc mc ms free) (vx_Post XC mc ms free) := vx_callBack cw.1 hM hp.1
  obtain ⟨⟨-, -, -, -, -, -, hcode, hini, hy, hlen, hl⟩, hstt⟩ := cw
  obtain ⟨hx, hb, hml, ho, -⟩ := S
  intro T hT X
  rcases vx_callS X hx (bytes := bytes) (maxL := maxL) (ret := ret) ho hl hstt hini hcode hy hK hg (hsize.trans hml.symm) (argsL := As) (rest := rest) (fun sig h => hn.trans (hlen sig h)) hstack hW (by rw [hb]; exact hdg)
    (fun vm₁ hW₁ => ⟨hf.1, hf.2, hp.2 (T.setVm vm₁) hT hW₁⟩) with ⟨v, vm₁, ⟨U', l2, c2, s2⟩, hW₁, X', ⟨g', mk, t, L, e1, e2, hq, h1, hL, h2, h3⟩, st⟩ | ⟨q, vm₁, ⟨U', l2, c2, s2⟩, hW₁, X', ⟨g', mk, t, L, E, ce, e1, e2, hq, hce, hcv, hcl, h1, hL, h2, h3⟩, st⟩
  · dsimp only [Pt.U, Pt.locs, Pt.cells, Pt.slots] at X' e1 e2 h1 h2 h3 st
    subst h1; subst h2; subst h3
    exact Or.inl ⟨v, (T.setVm vm₁).calling g' mk As.toArray, t, U', L, hT, X', hL, e1, e2, hq, st⟩
  · dsimp only [Pt.U, Pt.locs, Pt.cells, Pt.slots] at X' e1 e2 h1 h2 h3 st hcl
    subst h1; subst h2; subst h3
    exact Or.inr ⟨q, (T.setVm vm₁).calling g' mk As.toArray, t, U', L, E, ce, hT, X', hL, e1, e2, hq, hce, hcv, vx_cls hW₁ hcl, st⟩
end Runs
section Rows
variable {p : Program} {l : Launch} {e : Env} {R : Room} {s : State} {m : MethodId} {args : Array Value} {below : List Frame} {meth : Method} {c : Code} {H : Heap} {locs : List Loc} {cells slots : Nat} {Q : State → Prop}
variable {mc ms : Nat} {free : Addr → Prop} {A0 A1 : Nat → Prop} {H0 : Heap} {a : Array Value} {pc : Nat} {ls : Array Slot} {st0 rest : List Value}
theorem vx_keep {st₀ t T' : State} {L : List Loc} (h0 : st₀.heap = H) (e1 : T'.heap = t.heap) (hS : va_S A0 H0 H locs) (hA : ∀ q, q < H.size → A1 q → A0 q) (hf : ∀ q, free q → A0 q) (hL : ∀ q ∈ L, free q.base) (hF : va_F A1 st₀ t) :
    H.size ≤ T'.heap.size ∧ (∀ q : Nat, q < H.size → ¬ A1 q → T'.heap[q]? = H[q]?) ∧ va_S A0 H0 T'.heap (locs ++ L) := by
  obtain ⟨hz, hk⟩ := hF
  rw [h0] at hz hk
  exact ⟨by rw [e1]; exact hz, fun q h1 h2 => by rw [e1]; exact hk q h1 h2,
    ⟨Nat.le_trans hS.1 (by rw [e1]; exact hz), fun q h1 h2 => by rw [e1, hk q (Nat.lt_of_lt_of_le h1 hS.1) (fun z => h2 (hA q (Nat.lt_of_lt_of_le h1 hS.1) z))]; exact hS.2.1 q h1 h2, fun q hq => by
      rcases List.mem_append.mp hq with h | h
      · exact hS.2.2 q h
      · exact hf _ (hL q h)⟩⟩
theorem vx_calli {S SX : Type} {post : Int32 → S → Prop} {px : SX → Prop} {B : S → State → Prop} {BX : String → SX → State → Prop} {AX : Nat → Prop} (hr : vx_Run p l e R s m args below meth c H locs cells slots mc ms (F0 m pc ls st0) rest (va_Qi post B A1 a) (vx_X px BX AX) free) (hS : va_S A0 H0 H locs) (hA : ∀ q, q < H.size → A1 q → A0 q) (hf : ∀ q, free q → A0 q) (hAX : ∀ q, q < H.size → AX q → A0 q)
    (kx : ∀ (E : String) (ce : Cell) (q9 : Addr) (u : SX) (t : State) (H1 : Heap) (locs1 : List Loc), t.heap = H1 → s.vm.Alike t.vm → px u → BX E u t → H.size ≤ H1.size → (∀ q : Nat, q < H.size → ¬ AX q → H1[q]? = H[q]?) → va_S A0 H0 H1 locs1 → H1[q9]? = some ce → ce.vm = .none → s.vm.findClass E = some ce.cls → vx_W p l e R s m args below meth c H1 locs1 (cells + mc) (slots + ms) Q (F0 m pc ls rest) q9)
    (kk : ∀ (r : Int32) (u : S) (t : State) (H1 : Heap) (locs1 : List Loc), t.heap = H1 → s.vm.Alike t.vm → post r u → B u t → H.size ≤ H1.size → (∀ q : Nat, q < H.size → ¬ A1 q → H1[q]? = H[q]?) → va_S A0 H0 H1 locs1 → W p l e R s m args below meth c H1 locs1 (cells + mc) (slots + ms) Q (F0 m (pc + 3) ls (.int r :: rest))) : W p l e R s m args below meth c H locs cells slots Q (F0 m pc ls st0) := by
  intro T hT X
  rcases hr T hT X with ⟨v, st₀, t, T', L, h0, X', hL, e1, e2, ⟨⟨r, u, hv, hp, hb⟩, hF⟩, st⟩ | ⟨q, st₀, t, T', L, E, ce, h0, X', hL, e1, e2, ⟨u, hp, hb, hF⟩, hce, hcv, hcl, st⟩
  · cases hv
    obtain ⟨k1, k2, k3⟩ := vx_keep h0 e1 hS hA hf hL hF
    obtain ⟨t2, a1, b1⟩ := kk r u t T'.heap (locs ++ L) e1.symm (by rw [← e2]; exact X'.warmed.alike) hp hb k1 k2 k3 T' rfl X'
    exact ⟨t2, st t2 a1, b1⟩
  · obtain ⟨k1, k2, k3⟩ := vx_keep h0 e1 hS hAX hf hL hF
    obtain ⟨t2, a1, b1⟩ := kx E ce q u t T'.heap (locs ++ L) e1.symm (by rw [← e2]; exact X'.warmed.alike) hp hb k1 k2 k3 (by rw [e1]; exact hce) hcv hcl T' rfl X'
    exact ⟨t2, st.trans a1, b1⟩
theorem vx_calll {S SX : Type} {post : Int64 → S → Prop} {px : SX → Prop} {B : S → State → Prop} {BX : String → SX → State → Prop} {AX : Nat → Prop} (hr : vx_Run p l e R s m args below meth c H locs cells slots mc ms (F0 m pc ls st0) rest (va_Ql post B A1 a) (vx_X px BX AX) free) (hS : va_S A0 H0 H locs) (hA : ∀ q, q < H.size → A1 q → A0 q) (hf : ∀ q, free q → A0 q) (hAX : ∀ q, q < H.size → AX q → A0 q)
    (kx : ∀ (E : String) (ce : Cell) (q9 : Addr) (u : SX) (t : State) (H1 : Heap) (locs1 : List Loc), t.heap = H1 → s.vm.Alike t.vm → px u → BX E u t → H.size ≤ H1.size → (∀ q : Nat, q < H.size → ¬ AX q → H1[q]? = H[q]?) → va_S A0 H0 H1 locs1 → H1[q9]? = some ce → ce.vm = .none → s.vm.findClass E = some ce.cls → vx_W p l e R s m args below meth c H1 locs1 (cells + mc) (slots + ms) Q (F0 m pc ls rest) q9)
    (kk : ∀ (r : Int64) (u : S) (t : State) (H1 : Heap) (locs1 : List Loc), t.heap = H1 → s.vm.Alike t.vm → post r u → B u t → H.size ≤ H1.size → (∀ q : Nat, q < H.size → ¬ A1 q → H1[q]? = H[q]?) → va_S A0 H0 H1 locs1 → W p l e R s m args below meth c H1 locs1 (cells + mc) (slots + ms) Q (F0 m (pc + 3) ls (.long r :: rest))) : W p l e R s m args below meth c H locs cells slots Q (F0 m pc ls st0) := by
  intro T hT X
  rcases hr T hT X with ⟨v, st₀, t, T', L, h0, X', hL, e1, e2, ⟨⟨r, u, hv, hp, hb⟩, hF⟩, st⟩ | ⟨q, st₀, t, T', L, E, ce, h0, X', hL, e1, e2, ⟨u, hp, hb, hF⟩, hce, hcv, hcl, st⟩
  · cases hv
    obtain ⟨k1, k2, k3⟩ := vx_keep h0 e1 hS hA hf hL hF
    obtain ⟨t2, a1, b1⟩ := kk r u t T'.heap (locs ++ L) e1.symm (by rw [← e2]; exact X'.warmed.alike) hp hb k1 k2 k3 T' rfl X'
    exact ⟨t2, st t2 a1, b1⟩
  · obtain ⟨k1, k2, k3⟩ := vx_keep h0 e1 hS hAX hf hL hF
    obtain ⟨t2, a1, b1⟩ := kx E ce q u t T'.heap (locs ++ L) e1.symm (by rw [← e2]; exact X'.warmed.alike) hp hb k1 k2 k3 (by rw [e1]; exact hce) hcv hcl T' rfl X'
    exact ⟨t2, st.trans a1, b1⟩
theorem vx_callf {S SX : Type} {post : UInt32 → S → Prop} {px : SX → Prop} {B : S → State → Prop} {BX : String → SX → State → Prop} {AX : Nat → Prop} (hr : vx_Run p l e R s m args below meth c H locs cells slots mc ms (F0 m pc ls st0) rest (va_Qf post B A1 a) (vx_X px BX AX) free) (hS : va_S A0 H0 H locs) (hA : ∀ q, q < H.size → A1 q → A0 q) (hf : ∀ q, free q → A0 q) (hAX : ∀ q, q < H.size → AX q → A0 q)
    (kx : ∀ (E : String) (ce : Cell) (q9 : Addr) (u : SX) (t : State) (H1 : Heap) (locs1 : List Loc), t.heap = H1 → s.vm.Alike t.vm → px u → BX E u t → H.size ≤ H1.size → (∀ q : Nat, q < H.size → ¬ AX q → H1[q]? = H[q]?) → va_S A0 H0 H1 locs1 → H1[q9]? = some ce → ce.vm = .none → s.vm.findClass E = some ce.cls → vx_W p l e R s m args below meth c H1 locs1 (cells + mc) (slots + ms) Q (F0 m pc ls rest) q9)
    (kk : ∀ (r : UInt32) (u : S) (t : State) (H1 : Heap) (locs1 : List Loc), t.heap = H1 → s.vm.Alike t.vm → post r u → B u t → H.size ≤ H1.size → (∀ q : Nat, q < H.size → ¬ A1 q → H1[q]? = H[q]?) → va_S A0 H0 H1 locs1 → W p l e R s m args below meth c H1 locs1 (cells + mc) (slots + ms) Q (F0 m (pc + 3) ls (.float r :: rest))) : W p l e R s m args below meth c H locs cells slots Q (F0 m pc ls st0) := by
  intro T hT X
  rcases hr T hT X with ⟨v, st₀, t, T', L, h0, X', hL, e1, e2, ⟨⟨r, u, hv, hp, hb⟩, hF⟩, st⟩ | ⟨q, st₀, t, T', L, E, ce, h0, X', hL, e1, e2, ⟨u, hp, hb, hF⟩, hce, hcv, hcl, st⟩
  · cases hv
    obtain ⟨k1, k2, k3⟩ := vx_keep h0 e1 hS hA hf hL hF
    obtain ⟨t2, a1, b1⟩ := kk r u t T'.heap (locs ++ L) e1.symm (by rw [← e2]; exact X'.warmed.alike) hp hb k1 k2 k3 T' rfl X'
    exact ⟨t2, st t2 a1, b1⟩
  · obtain ⟨k1, k2, k3⟩ := vx_keep h0 e1 hS hAX hf hL hF
    obtain ⟨t2, a1, b1⟩ := kx E ce q u t T'.heap (locs ++ L) e1.symm (by rw [← e2]; exact X'.warmed.alike) hp hb k1 k2 k3 (by rw [e1]; exact hce) hcv hcl T' rfl X'
    exact ⟨t2, st.trans a1, b1⟩
theorem vx_calld {S SX : Type} {post : UInt64 → S → Prop} {px : SX → Prop} {B : S → State → Prop} {BX : String → SX → State → Prop} {AX : Nat → Prop} (hr : vx_Run p l e R s m args below meth c H locs cells slots mc ms (F0 m pc ls st0) rest (va_Qd post B A1 a) (vx_X px BX AX) free) (hS : va_S A0 H0 H locs) (hA : ∀ q, q < H.size → A1 q → A0 q) (hf : ∀ q, free q → A0 q) (hAX : ∀ q, q < H.size → AX q → A0 q)
    (kx : ∀ (E : String) (ce : Cell) (q9 : Addr) (u : SX) (t : State) (H1 : Heap) (locs1 : List Loc), t.heap = H1 → s.vm.Alike t.vm → px u → BX E u t → H.size ≤ H1.size → (∀ q : Nat, q < H.size → ¬ AX q → H1[q]? = H[q]?) → va_S A0 H0 H1 locs1 → H1[q9]? = some ce → ce.vm = .none → s.vm.findClass E = some ce.cls → vx_W p l e R s m args below meth c H1 locs1 (cells + mc) (slots + ms) Q (F0 m pc ls rest) q9)
    (kk : ∀ (r : UInt64) (u : S) (t : State) (H1 : Heap) (locs1 : List Loc), t.heap = H1 → s.vm.Alike t.vm → post r u → B u t → H.size ≤ H1.size → (∀ q : Nat, q < H.size → ¬ A1 q → H1[q]? = H[q]?) → va_S A0 H0 H1 locs1 → W p l e R s m args below meth c H1 locs1 (cells + mc) (slots + ms) Q (F0 m (pc + 3) ls (.double r :: rest))) : W p l e R s m args below meth c H locs cells slots Q (F0 m pc ls st0) := by
  intro T hT X
  rcases hr T hT X with ⟨v, st₀, t, T', L, h0, X', hL, e1, e2, ⟨⟨r, u, hv, hp, hb⟩, hF⟩, st⟩ | ⟨q, st₀, t, T', L, E, ce, h0, X', hL, e1, e2, ⟨u, hp, hb, hF⟩, hce, hcv, hcl, st⟩
  · cases hv
    obtain ⟨k1, k2, k3⟩ := vx_keep h0 e1 hS hA hf hL hF
    obtain ⟨t2, a1, b1⟩ := kk r u t T'.heap (locs ++ L) e1.symm (by rw [← e2]; exact X'.warmed.alike) hp hb k1 k2 k3 T' rfl X'
    exact ⟨t2, st t2 a1, b1⟩
  · obtain ⟨k1, k2, k3⟩ := vx_keep h0 e1 hS hAX hf hL hF
    obtain ⟨t2, a1, b1⟩ := kx E ce q u t T'.heap (locs ++ L) e1.symm (by rw [← e2]; exact X'.warmed.alike) hp hb k1 k2 k3 (by rw [e1]; exact hce) hcv hcl T' rfl X'
    exact ⟨t2, st.trans a1, b1⟩
theorem vx_callv {S SX : Type} {post : S → Prop} {px : SX → Prop} {B : S → State → Prop} {BX : String → SX → State → Prop} {AX : Nat → Prop} (hr : vx_Run p l e R s m args below meth c H locs cells slots mc ms (F0 m pc ls st0) rest (va_Qv post B A1 a) (vx_X px BX AX) free) (hS : va_S A0 H0 H locs) (hA : ∀ q, q < H.size → A1 q → A0 q) (hf : ∀ q, free q → A0 q) (hAX : ∀ q, q < H.size → AX q → A0 q)
    (kx : ∀ (E : String) (ce : Cell) (q9 : Addr) (u : SX) (t : State) (H1 : Heap) (locs1 : List Loc), t.heap = H1 → s.vm.Alike t.vm → px u → BX E u t → H.size ≤ H1.size → (∀ q : Nat, q < H.size → ¬ AX q → H1[q]? = H[q]?) → va_S A0 H0 H1 locs1 → H1[q9]? = some ce → ce.vm = .none → s.vm.findClass E = some ce.cls → vx_W p l e R s m args below meth c H1 locs1 (cells + mc) (slots + ms) Q (F0 m pc ls rest) q9)
    (kk : ∀ (u : S) (t : State) (H1 : Heap) (locs1 : List Loc), t.heap = H1 → s.vm.Alike t.vm → post u → B u t → H.size ≤ H1.size → (∀ q : Nat, q < H.size → ¬ A1 q → H1[q]? = H[q]?) → va_S A0 H0 H1 locs1 → W p l e R s m args below meth c H1 locs1 (cells + mc) (slots + ms) Q (F0 m (pc + 3) ls (rest))) : W p l e R s m args below meth c H locs cells slots Q (F0 m pc ls st0) := by
  intro T hT X
  rcases hr T hT X with ⟨v, st₀, t, T', L, h0, X', hL, e1, e2, ⟨⟨u, hv, hp, hb⟩, hF⟩, st⟩ | ⟨q, st₀, t, T', L, E, ce, h0, X', hL, e1, e2, ⟨u, hp, hb, hF⟩, hce, hcv, hcl, st⟩
  · cases hv
    obtain ⟨k1, k2, k3⟩ := vx_keep h0 e1 hS hA hf hL hF
    obtain ⟨t2, a1, b1⟩ := kk u t T'.heap (locs ++ L) e1.symm (by rw [← e2]; exact X'.warmed.alike) hp hb k1 k2 k3 T' rfl X'
    exact ⟨t2, st t2 a1, b1⟩
  · obtain ⟨k1, k2, k3⟩ := vx_keep h0 e1 hS hAX hf hL hF
    obtain ⟨t2, a1, b1⟩ := kx E ce q u t T'.heap (locs ++ L) e1.symm (by rw [← e2]; exact X'.warmed.alike) hp hb k1 k2 k3 (by rw [e1]; exact hce) hcv hcl T' rfl X'
    exact ⟨t2, st.trans a1, b1⟩
/-- caught by the row x of this method's table; the rows ahead don't take it -/
theorem vx_catch {own name : String} {E : String} {ce : Cell} {q : Addr} (hown : s.vm.findClass own = some m.cls) (pre : List ExceptionTableEntry) (x : ExceptionTableEntry) (suf : List ExceptionTableEntry) (hsplit : c.exceptionTable.toList = pre ++ x :: suf)
    (hpass : ∀ z ∈ pre, covers z pc = false ∨ (z.catchType ≠ 0 ∧ ∃ nm : String, (Cond.classLink own z.catchType nm).before args s = true ∧ va_Nc E nm s)) (hx : covers x pc = true) (h0 : x.catchType ≠ 0)
    (hlink : (Cond.classLink own x.catchType name).before args s = true) (hcast : (Cond.castable E name).before args s = true) (hcell : H[q]? = some ce) (hv : ce.vm = .none) (hcl : s.vm.findClass E = some ce.cls)
    (kk : W p l e R s m args below meth c H locs cells slots Q (F0 m x.handlerPc ls [.ref q])) : vx_W p l e R s m args below meth c H locs cells slots Q (F0 m pc ls rest) q := by
  intro T hT X
  have hpl : e.platform.magicAccessors = ({} : Platform).magicAccessors := by rw [X.admits.platform]
  obtain ⟨c3, c4, hc3, hc4, hasg⟩ := Cond.castable_spec hcast
  cases Option.some.inj (hc3.symm.trans hcl)
  obtain ⟨c5, hc5, hcl5⟩ := Cond.classLink_spec hown hlink e.platform hpl
  cases Option.some.inj (hc4.symm.trans hc5)
  obtain ⟨vm', X', st⟩ := X.thenCaughtThrough q (g := F0 m pc ls rest) rfl (Steps.refl _) (by rw [hT]; exact hcell) (by rw [hv]; rfl) (by obtain ⟨k9, h9, -⟩ := Vm.findClass_spec hcl; exact ⟨k9, h9⟩) pre x suf hsplit
    (fun z hz => by
      rcases hpass z hz with h | ⟨hz0, nm, hl1, hn1⟩
      · exact Or.inl h
      · obtain ⟨c6, hc6, hcl6⟩ := Cond.classLink_spec hown hl1 e.platform hpl
        obtain ⟨a8, b8, h1, h2, h3⟩ := hn1
        cases Option.some.inj (h1.symm.trans hcl)
        cases Option.some.inj (h2.symm.trans hc6)
        exact Or.inr ⟨hz0, _, hcl6, h3⟩) hx (Or.inr ⟨h0, c4, hcl5, hasg⟩)
  obtain ⟨t, a1, b1⟩ := kk (T.setVm vm') hT X'
  exact ⟨t, st.trans a1, b1⟩
end Rows
section Ends
variable {p : Program} {l : Launch} {e : Env} {R : Room} {s : State} {m : MethodId} {args : Array Value} {below : List Frame} {meth : Method} {c : Code} {H : Heap} {locs : List Loc} {cells slots : Nat} {Q : State → Prop}
variable {mc ms : Nat} {free : Addr → Prop} {A0 A1 : Nat → Prop} {H0 : Heap} {a : Array Value} {ls : Array Slot} {st0 rest : List Value}
variable {Qc : Array Value → State → Outcome → State → Prop} {XC : String → State → State → Prop}
/-- what a body that may throw owes at its end -/
def vx_MQ (below : List Frame) (Qc : Array Value → State → Outcome → State → Prop) (XC : String → State → State → Prop) (a : Array Value) (s : State) (mc ms : Nat) (free : Addr → Prop) : State → Prop := fun t =>
  ∃ o, t.status = .running ∧ Ended t below o ∧ vx_Q Qc XC mc ms free a s o t
theorem vx_ret {g : JFrame} {mc ms : Nat} (k : W p l e R s m args below meth c H locs cells slots (MQ below Qc args s mc ms free) g) : W p l e R s m args below meth c H locs cells slots (vx_MQ below Qc XC args s mc ms free) g := by
  intro T hT X
  obtain ⟨t, a1, o, b1, b2, b3, b4⟩ := k T hT X
  exact ⟨t, a1, o, b1, b2, Or.inl ⟨b3, b4⟩⟩
/-- not caught here: it goes on to the caller -/
theorem vx_widen {g : JFrame} {q : Addr} {k n : Nat} (h1 : cells ≤ k) (h2 : slots ≤ n) (kk : vx_W p l e R s m args below meth c H locs k n Q g q) : vx_W p l e R s m args below meth c H locs cells slots Q g q := fun T hT X => kk T hT (stand_widen X h1 h2)
theorem vx_out {pc : Nat} {E : String} {ce : Cell} {q : Addr} {mc ms : Nat} (hout : ∀ x ∈ c.exceptionTable.toList, covers x pc = false) (hlocks : meth.locks = false) (hcell : H[q]? = some ce) (hv : ce.vm = .none) (hcl : s.vm.findClass E = some ce.cls)
    (hx : ∀ t : State, t.heap = H → s.vm.Alike t.vm → XC E s t) (hf : ∀ z ∈ locs, free z.base) (hc : cells ≤ mc) (hs : slots ≤ ms) :
    vx_W p l e R s m args below meth c H locs cells slots (vx_MQ below Qc XC args s mc ms free) (F0 m pc ls rest) q := by
  intro T hT X
  obtain ⟨st1, hrun, hend, hW, hsm⟩ := X.leaveThrown q (g := F0 m pc ls rest) rfl rfl rfl hout hlocks
  have hcell9 : (T.setFrames (.throwing q :: below)).heap[q]? = some ce := by
    show T.heap[q]? = some ce
    rw [hT]; exact hcell
  exact ⟨_, st1, .threw q, hrun, hend, Or.inr ⟨q, rfl, E, ce, locs, hx _ hT hW.alike, hcell9, hv, hcl, hW, hsm.mono hc hs, hf⟩⟩
theorem vx_frame {U : State} {k n : Nat} (h : s.sameButNew ({ U with vm := s.vm } : State) locs k n) : s.heap.size ≤ U.heap.size ∧ ∀ q : Nat, q < s.heap.size → (∀ z ∈ locs, z.base ≠ q) → U.heap[q]? = s.heap[q]? := by
  obtain ⟨-, h2, -, -, -, h6⟩ := h
  refine ⟨h2, fun q hq hz => ?_⟩
  obtain ⟨c9, e1, e2, e3, e4⟩ := h6 q _ (Array.getElem?_eq_getElem hq)
  have hs : c9.slots = (s.heap[q]).slots := Array.ext_getElem? fun i => e4 i fun hm => hz _ hm rfl
  have h9 : c9 = s.heap[q] := by
    rw [hs] at e2
    exact e2
  have e5 : U.heap[q]? = some c9 := e1
  rw [e5, h9, Array.getElem?_eq_getElem hq]
/-- the words of a throw but the four that speak of the heap -/
def vx_no (w : Cond) : Bool := decide (w ≠ .isRef (.static Bundle.tN "UNASSIGNED_STACK" Bundle.steD)) && decide (w ≠ .isRef (.static Bundle.tN "SUPPRESSED_SENTINEL" Bundle.listD)) && decide (w ≠ .laysStatic Bundle.tN "UNASSIGNED_STACK" Bundle.steD) && decide (w ≠ .laysStatic Bundle.tN "SUPPRESSED_SENTINEL" Bundle.listD)
def vx_at0 (own : String) (ic : Nat) (X : String) (names : List String) : List Cond := (Bundle.ownAtoms0 own ic X names).filter vx_no
def vx_atS (own : String) (ic : Nat) (X : String) (names : List String) : List Cond := (Bundle.ownAtoms own ic X names).filter vx_no
/-- a word that the tables alone decide, or a good one -/
def vx_ot (w : Cond) : Bool := w.onTables || goodWord w
theorem vx_ot_at {args a' : Array Value} {s U : State} {w : Cond} (hW : s.WarmedH U.vm) (hvm : s.vm = U.vm) (hg : vx_ot w = true) (h : w.before args s = true) : w.before a' U = true := by
  simp only [vx_ot, Bool.or_eq_true] at hg
  rcases hg with hg | hg
  · exact va_tabs hg hvm h
  · exact word_at hW (good_of_word hg) h
/-- a list's words: the good ones out of the method's own list, the others by premises of their own -/
theorem vx_hat {args : Array Value} {s : State} {L B : List Cond} (h1 : ∀ w ∈ L.filter goodWord, w.before args s = true) (h2 : ∀ w ∈ L.filter (fun w => !goodWord w), w ∈ B) (h3 : ∀ w ∈ B, w.before args s = true) : ∀ w ∈ L, w.before args s = true := by
  intro w hw
  by_cases g : goodWord w = true
  · exact h1 w (List.mem_filter.mpr ⟨hw, g⟩)
  · refine h3 w (h2 w (List.mem_filter.mpr ⟨hw, ?_⟩))
    show (!goodWord w) = true
    cases hgw : goodWord w
    · rfl
    · exact absurd hgw g
theorem vx_c {args : Array Value} {s : State} {w : Cond} {B : List Cond} (h : w.before args s = true) (t : ∀ w ∈ B, w.before args s = true) : ∀ w' ∈ w :: B, w'.before args s = true := fun w' h' => (List.mem_cons.mp h').elim (fun e => by rw [e]; exact h) (t w')
theorem vx_n {args : Array Value} {s : State} : ∀ w ∈ ([] : List Cond), w.before args s = true := fun _ h => nomatch h
theorem vx_own {args : Array Value} {s : State} {L : List Cond} (h1 : ∀ w ∈ L.filter vx_no, w.before args s = true)
    (hU : (Cond.isRef (.static Bundle.tN "UNASSIGNED_STACK" Bundle.steD)).before args s = true) (hN : (Cond.isRef (.static Bundle.tN "SUPPRESSED_SENTINEL" Bundle.listD)).before args s = true)
    (lU : (Cond.laysStatic Bundle.tN "UNASSIGNED_STACK" Bundle.steD).before args s = true) (lN : (Cond.laysStatic Bundle.tN "SUPPRESSED_SENTINEL" Bundle.listD).before args s = true) : ∀ w ∈ L, w.before args s = true := by
  intro w hw
  by_cases e1 : w = .isRef (.static Bundle.tN "UNASSIGNED_STACK" Bundle.steD)
  · rw [e1]; exact hU
  · by_cases e2 : w = .isRef (.static Bundle.tN "SUPPRESSED_SENTINEL" Bundle.listD)
    · rw [e2]; exact hN
    · by_cases e3 : w = .laysStatic Bundle.tN "UNASSIGNED_STACK" Bundle.steD
      · rw [e3]; exact lU
      · by_cases e4 : w = .laysStatic Bundle.tN "SUPPRESSED_SENTINEL" Bundle.listD
        · rw [e4]; exact lN
        · exact h1 w (List.mem_filter.mpr ⟨hw, by unfold vx_no; rw [decide_eq_true e1, decide_eq_true e2, decide_eq_true e3, decide_eq_true e4]; rfl⟩)
/-- where a static field lies, its class's statics cell in H -/
def vx_L (C n d : String) (A : Nat → Prop) (U : State) (H : Heap) : Prop := ∃ (c : ClassId) (k : Class) (i : Nat) (f : Field) (a : Nat) (cell : Cell), U.vm.findClass C = some c ∧ U.fieldFound? C n d = some (c, k, i, f) ∧ f.isStatic = true ∧ k.statics = some a ∧ H[a]? = some cell ∧ cell.vm.isStatics = true ∧ cell.cls = c ∧ f.slot < cell.slots.size ∧ k.staticTypes[f.slot]? = some f.type ∧ ¬ A a
theorem vx_L.moved {C n d : String} {A : Nat → Prop} {u U : State} {H : Heap} (hvm : u.vm.Alike U.vm) (h : vx_L C n d A u H) : vx_L C n d A U H := by
  obtain ⟨c, k, i, f, a, cell, h1, h2, h3, h4, h5, h6, h7, h8, h9, h10⟩ := h
  obtain ⟨k', hi', he⟩ := State.fieldFound?_setVm hvm h2
  exact ⟨c, k', i, f, a, cell, by rw [hvm.findClass]; exact h1, hi', h3, by rw [he]; exact h4, h5, h6, h7, h8, by rw [he]; exact h9, h10⟩
theorem vx_L.kept {C n d : String} {A : Nat → Prop} {U : State} {H H1 : Heap} (h : vx_L C n d A U H) (hq : ∀ a : Nat, a < H.size → ¬ A a → H1[a]? = H[a]?) : vx_L C n d A U H1 := by
  obtain ⟨c, k, i, f, a, cell, h1, h2, h3, h4, h5, h6, h7, h8, h9, h10⟩ := h
  exact ⟨c, k, i, f, a, cell, h1, h2, h3, h4, by rw [hq a (Array.getElem?_eq_some_iff.mp h5).1 h10]; exact h5, h6, h7, h8, h9, h10⟩
theorem vx_L.narrow {C n d : String} {A B : Nat → Prop} {U : State} {H : Heap} (h : vx_L C n d A U H) (hAB : ∀ q, B q → A q) : vx_L C n d B U H := by
  obtain ⟨c, k, i, f, a, cell, h1, h2, h3, h4, h5, h6, h7, h8, h9, h10⟩ := h
  exact ⟨c, k, i, f, a, cell, h1, h2, h3, h4, h5, h6, h7, h8, h9, fun z => h10 (hAB _ z)⟩
theorem vx_L.word {C n d : String} {A : Nat → Prop} {s : State} {args : Array Value} (h : vx_L C n d A s s.heap) : (Cond.laysStatic C n d).before args s = true := by
  obtain ⟨c, k, i, f, a, cell, h1, h2, h3, h4, h5, h6, h7, h8, h9, -⟩ := h
  show (Cond.laysStatic C n d).holds args s none s [] = true
  exact Cond.laysStatic_of h1 h2 h3 h4 h5 h6 h7 h8 h9
/-- .. and what it holds: null or some reference -/
def vx_Zq (C n d : String) (A : Nat → Prop) (U : State) (H : Heap) : Prop := va_Zq C n d A U H ∧ vx_L C n d A U H
theorem vx_Zq.moved {C n d : String} {A : Nat → Prop} {u U : State} {H : Heap} (hvm : u.vm.Alike U.vm) (h : vx_Zq C n d A u H) : vx_Zq C n d A U H := ⟨va_Zq.moved hvm h.1, vx_L.moved hvm h.2⟩
theorem vx_Zq.kept {C n d : String} {A : Nat → Prop} {U : State} {H H1 : Heap} (h : vx_Zq C n d A U H) (hq : ∀ a : Nat, a < H.size → ¬ A a → H1[a]? = H[a]?) : vx_Zq C n d A U H1 := ⟨va_Zq.kept h.1 hq, vx_L.kept h.2 hq⟩
theorem vx_Zq.narrow {C n d : String} {A B : Nat → Prop} {U : State} {H : Heap} (h : vx_Zq C n d A U H) (hAB : ∀ q, B q → A q) : vx_Zq C n d B U H := ⟨va_Zq.narrow h.1 hAB, vx_L.narrow h.2 hAB⟩
theorem vx_Zqof {args : Array Value} {s : State} {C n d : String} {A : Nat → Prop} (hl : (Cond.laysStatic C n d).before args s = true) (hini : (Cond.initialized C).before args s = true) (h : (Cond.isRef (.static C n d)).before args s = true) (hA : ∀ a : Nat, a < s.heap.size → ¬ A a) : vx_Zq C n d A s s.heap := by
  refine ⟨va_Zqof hl hini h hA, ?_⟩
  obtain ⟨c, k, i, f, a, cell, h1, h2, h3, h4, h5, h6, h7, h8, h9⟩ := Cond.laysStatic_spec hl
  exact ⟨c, k, i, f, a, cell, h1, h2, h3, h4, h5, h6, h7, h8, h9, hA a (Array.getElem?_eq_some_iff.mp h5).1⟩
theorem vx_isRef {C n d : String} {v : Value} {A : Nat → Prop} {s : State} {args : Array Value} (h : va_Z C n d v A s s.heap) (hv : v.isRef = true) : (Cond.isRef (.static C n d)).before args s = true := by
  obtain ⟨cf, kf, fi, f, a, cell, h1, h2, h3, h4, h5, h6, h7, -⟩ := h
  have he : (Term.static C n d).eval args s none [] s = some v := by
    simp [Term.eval, State.fieldNamed?, h1, h2, h4, h5, h6, h7]
  simp only [Cond.before, Cond.holds, Cond.value, he]
  cases v <;> simp_all [Value.isRef]
theorem vx_isRefq {C n d : String} {A : Nat → Prop} {s : State} {args : Array Value} (h : va_Zq C n d A s s.heap) : (Cond.isRef (.static C n d)).before args s = true := by
  rcases h with h | ⟨t, h⟩
  · exact vx_isRef h rfl
  · exact vx_isRef h rfl
/-- the same frame, seen from here: as if the method were called anew in this heap -/
theorem vx_rebase {T : State} (X : Stand p l e R s m args below meth c T locs cells slots) {R' : Room} (hf : R'.frames ≤ R.frames) (hl : R'.locals ≤ R.locals) (hc : cells + R'.cells ≤ R.cells) (hs : slots + R'.slots ≤ R.slots) :
    Stand p l e R' ((T.setVm s.vm).setFrames (.invoking m args :: below)) m args below meth c T [] 0 0 := by
  have htop : (T.setVm s.vm).topJava?.isSome := X.here.top
  have hF : ((T.setVm s.vm).setFrames (.invoking m args :: below)).frames = .invoking m args :: below := State.frames_setFrames _ (State.cur_lt_of_top htop)
  obtain ⟨g₀, hg0⟩ := Option.isSome_iff_exists.mp htop
  obtain ⟨r, hr⟩ := State.topJava?_eq_some.mp hg0
  have hl9 : e.platform.stackLimits (T.setVm s.vm).me = e.platform.stackLimits s.me := X.limits
  have hb9 : (T.setVm s.vm).me.stackBytes = s.me.stackBytes := X.bytes
  refine ⟨X.admits, X.cas, X.clock, hF, ?_, X.hears, X.method, X.code, X.here, X.tail, X.warmed, ?_, ?_, ?_⟩
  · have h := X.room
    have hU : ((T.setVm s.vm).setFrames (.invoking m args :: below)).localsInUse = s.localsInUse := by
      rw [State.localsInUse_invoking hF (meth := meth) (c := c) X.method X.code, State.localsInUse_invoking X.frames X.method X.code]
    simp only [State.hasRoom, Bool.and_eq_true, decide_eq_true_eq] at h ⊢
    obtain ⟨⟨⟨⟨h1, h2, h3, h4, h5, h6⟩, h7⟩, h8⟩, h9⟩ := h
    rw [X.frames, List.length_cons] at h2 h3
    have q1 := X.heapSize
    have q2 := X.used
    simp only [hF, hU, List.length_cons, State.stackLimits_setFrames, State.stackBytes_setFrames, hl9, hb9]
    refine ⟨⟨⟨⟨by omega, by omega, by omega, by omega, by omega, h6⟩, ?_⟩, ?_⟩, X.book⟩
    · show T.heap.size + R'.cells ≤ e.platform.maxCells
      omega
    · show T.slotsUsed + R'.slots ≤ e.platform.maxSlots
      omega
  · rw [State.stackLimits_setFrames]; rfl
  · rw [State.stackBytes_setFrames]; rfl
  · refine ⟨?_, Nat.le_refl _, Nat.le_refl _, ?_, ?_, fun a c9 h9 => ⟨c9, h9, rfl, rfl, fun _ _ => rfl⟩⟩
    · obtain ⟨t, ht, -⟩ := State.frames_cons hr
      show T.setVm s.vm = { ((T.setVm s.vm).setFrames (.invoking m args :: below)).setFrames (T.setVm s.vm).frames with heap := T.heap, slotsUsed := T.slotsUsed }
      rw [State.setFrames_setFrames, State.setFrames_self ht]
      rfl
    · show T.slotsUsed = T.slotsUsed + ((T.heap.toList.drop T.heap.size).map (·.slots.size)).sum
      rw [List.drop_eq_nil_of_le (Nat.le_of_eq Array.length_toList)]
      rfl
    · show ((T.heap.toList.drop T.heap.size).map (·.slots.size)).sum ≤ 0
      rw [List.drop_eq_nil_of_le (Nat.le_of_eq Array.length_toList)]
      exact Nat.le_refl _
/-- 'throw new E()': new; dup; invokespecial; athrow -/
theorem vx_throw0 {cc : ByteArray} {pc : Nat} (hexec : p.tables.exec = Jvm.exec) (hb : c.code = cc) (hl : l.stackTraces = false) {own cls : String} {names : List String} {ik ic mc ms : Nat} {A : Nat → Prop}
    (hown : s.vm.findClass own = some m.cls) (hcls : Bundle.fit cls = true) (hnames : ∀ n ∈ names, Bundle.fit n = true)
    (hk : (Cond.classLink own ik cls).before args s = true) (hini : (Cond.initialized cls).before args s = true) (hat : ∀ w ∈ vx_at0 own ic cls names, w.before args s = true)
    (hgood : ∀ w ∈ Cond.classLink own ik cls :: Cond.initialized cls :: vx_at0 own ic cls names, vx_ot w = true)
    (hU : vx_Zq Bundle.tN "UNASSIGNED_STACK" Bundle.steD A s s.heap) (hN : vx_Zq Bundle.tN "SUPPRESSED_SENTINEL" Bundle.listD A s s.heap) (hS : va_S A s.heap H locs) (hsize : ls.size = c.maxLocals)
    (d0 : decode cc pc = .ok (.new ik, 3)) (d3 : decode cc (pc + 3) = .ok (.dup, 1)) (d4 : decode cc (pc + 4) = .ok (.invokespecial ic, 3)) (d7 : decode cc (pc + 7) = .ok (.athrow, 1))
    (hout : ∀ x ∈ c.exceptionTable.toList, covers x (pc + 7) = false)
    (hRframes : names.length + 3 < R.frames) (hRlocals : (rest.map fun v => v.category).sum + (13 * (names.length + 1) + 42) ≤ R.locals) (hRcells : cells + 1 ≤ R.cells) (hRslots : slots + 6 ≤ R.slots) (hlocks : meth.locks = false)
    (hx : ∀ t : State, s.vm.Alike t.vm → H.size ≤ t.heap.size → (∀ q : Nat, q < H.size → t.heap[q]? = H[q]?) → XC cls s t)
    (hf : ∀ z ∈ locs, free z.base) (hc : cells + 1 ≤ mc) (hs : slots + 6 ≤ ms) :
    W p l e R s m args below meth c H locs cells slots (vx_MQ below Qc XC args s mc ms free) (F0 m pc ls rest) := by
  intro T hT X
  have htr : e.platform.stackTraces = false := (show e.platform.stackTraces = l.stackTraces by rw [X.admits.platform]).trans hl
  have Y := vx_rebase X (R' := { frames := R.frames, locals := R.locals, cells := 1, slots := 6 }) (Nat.le_refl _) (Nat.le_refl _) hRcells hRslots
  obtain ⟨s', hA⟩ : ∃ z, z = (T.setVm s.vm).setFrames (.invoking m args :: below) := ⟨_, rfl⟩
  rw [← hA] at Y
  have hvm : s'.vm = s.vm := by rw [hA]; rfl
  have hhp : s'.heap = H := by rw [hA]; exact hT
  have hW0 : s.WarmedH s'.vm := by rw [hvm]; exact State.WarmedH.refl s
  have hat' : ∀ w ∈ vx_at0 own ic cls names, w.before args s' = true := fun w hw => vx_ot_at hW0 hvm.symm (hgood w (List.mem_cons_of_mem _ (List.mem_cons_of_mem _ hw))) (hat w hw)
  have hk' : (Cond.classLink own ik cls).before args s' = true := vx_ot_at hW0 hvm.symm (hgood _ List.mem_cons_self) hk
  have hini' : (Cond.initialized cls).before args s' = true := vx_ot_at hW0 hvm.symm (hgood _ (List.mem_cons_of_mem _ List.mem_cons_self)) hini
  have hU' : vx_Zq Bundle.tN "UNASSIGNED_STACK" Bundle.steD A s' s'.heap := by rw [hhp]; exact vx_Zq.moved hW0.alike (hU.kept hS.2.1)
  have hN' : vx_Zq Bundle.tN "SUPPRESSED_SENTINEL" Bundle.listD A s' s'.heap := by rw [hhp]; exact vx_Zq.moved hW0.alike (hN.kept hS.2.1)
  have h : ∀ w ∈ Bundle.ownAtoms0 own ic cls names, w.before args s' = true := vx_own hat' (vx_isRefq hU'.1) (vx_isRefq hN'.1) hU'.2.word hN'.2.word
  have hown' : s'.vm.findClass own = some m.cls := by rw [hvm]; exact hown
  have hins : (Cond.instantiable cls 6).before args s' = true := h _ (by simp [Bundle.ownAtoms0])
  obtain ⟨vm₁, cX, kX, hfX, hkX, -, -, X₁, st1⟩ := Y.newCold hexec (own := own) (C := cls) (index := ik) (n := 6) hown' hk' hins hini'
    (g := F0 m pc ls rest) rfl (by rw [hb]; exact d0) (Nat.le_refl _) (Nat.le_refl _)
  generalize hT1 : (T.setVm vm₁).pushCell { cls := cX, slots := kX.instanceTypes.map defaultValue, vm := .none } = T1 at X₁ st1
  have hcat : (Value.ref T.heap.size).category = 1 := rfl
  have hcellA : T1.heap[T.heap.size]? = some (freshCell cX kX) := by rw [← hT1]; exact State.heap_pushCell_size _ _
  have d3' : decode c.code (pc + 3) = .ok (.dup, 1) := by rw [hb]; exact d3
  obtain ⟨U, hsteps, hrun, hend, hW, hsame, ce, hce, hO⟩ := X₁.ctorThrow0 hexec htr (own := own) (cls := cls) (names := names) (ic := ic) hown' hcls hnames h (fun x hx => nomatch hx) hfX hkX hcellA (by rw [hhp, hT]; exact Nat.le_refl _)
    (g := { method := m, pc := pc + 4, locals := ls, stack := .ref T.heap.size :: .ref T.heap.size :: rest, locked := none }) rfl hsize rfl rfl (rest := rest) rfl
    (by rw [hb]; exact d4) (by rw [hb]; exact d7) hout hRframes (by simp only [List.map_cons, List.sum_cons, hcat]; omega) hlocks
  obtain ⟨f1, f2⟩ := vx_frame hsame
  rw [hhp] at f1 f2
  have hWs : s.WarmedH U.vm := State.WarmedH.trans hW0 hW
  have hcl : s.vm.findClass cls = some ce.cls := by
    have h9 := hO.cls
    rw [hvm] at h9
    exact h9
  have hall : s.sameButNew ({ U with vm := s.vm } : State) locs mc ms := by
    subst hA
    obtain ⟨e1, e2⟩ := hsame
    rw [State.setFrames_setFrames] at e1
    have h2 : (T.setVm s.vm).sameButNew ({ U with vm := s.vm } : State) [] (0 + 1) (0 + 6) := ⟨e1, e2⟩
    have h3 := X.same.trans h2
    rw [List.append_nil] at h3
    exact h3.mono hc hs
  refine ⟨U, ?_, .threw T.heap.size, hrun, hend, Or.inr ⟨T.heap.size, rfl, cls, ce, locs, hx U hWs.alike f1 (fun q hq => f2 q hq (fun z hz => nomatch hz)), hce, hO.vm, hcl, hWs, hall, hf⟩⟩
  refine st1 _ ?_
  show Steps p.tables e below (T1.setTop { method := m, pc := pc + 3, locals := ls, stack := .ref T.heap.size :: rest, locked := none }) _
  jvm_step X₁.here [X₁.here.top, hexec, d3', Value.category]
  exact hsteps
/-- 'throw new E("text")': new; dup; ldc; invokespecial; athrow -/
theorem vx_throwS {cc : ByteArray} {pc : Nat} (hexec : p.tables.exec = Jvm.exec) (hb : c.code = cc) (hl : l.stackTraces = false) {own cls text : String} {names : List String} {ik is ic mc ms sa : Nat} {A : Nat → Prop}
    (hown : s.vm.findClass own = some m.cls) (hcls : Bundle.fit cls = true) (hnames : ∀ n ∈ names, Bundle.fit n = true)
    (hk : (Cond.classLink own ik cls).before args s = true) (hini : (Cond.initialized cls).before args s = true) (hstr : vk_R own is text sa s) (hat : ∀ w ∈ vx_atS own ic cls names, w.before args s = true)
    (hgood : ∀ w ∈ Cond.classLink own ik cls :: Cond.initialized cls :: vx_atS own ic cls names, vx_ot w = true)
    (hU : vx_Zq Bundle.tN "UNASSIGNED_STACK" Bundle.steD A s s.heap) (hN : vx_Zq Bundle.tN "SUPPRESSED_SENTINEL" Bundle.listD A s s.heap) (hS : va_S A s.heap H locs) (hsize : ls.size = c.maxLocals)
    (d0 : decode cc pc = .ok (.new ik, 3)) (d3 : decode cc (pc + 3) = .ok (.dup, 1)) (d4 : decode cc (pc + 4) = .ok (.ldc is, 2)) (d6 : decode cc (pc + 6) = .ok (.invokespecial ic, 3)) (d9 : decode cc (pc + 9) = .ok (.athrow, 1))
    (hout : ∀ x ∈ c.exceptionTable.toList, covers x (pc + 9) = false)
    (hRframes : names.length + 3 < R.frames) (hRlocals : (rest.map fun v => v.category).sum + (13 * (names.length + 1) + 43) ≤ R.locals) (hRcells : cells + 1 ≤ R.cells) (hRslots : slots + 6 ≤ R.slots) (hlocks : meth.locks = false)
    (hx : ∀ t : State, s.vm.Alike t.vm → H.size ≤ t.heap.size → (∀ q : Nat, q < H.size → t.heap[q]? = H[q]?) → XC cls s t)
    (hf : ∀ z ∈ locs, free z.base) (hc : cells + 1 ≤ mc) (hs : slots + 6 ≤ ms) :
    W p l e R s m args below meth c H locs cells slots (vx_MQ below Qc XC args s mc ms free) (F0 m pc ls rest) := by
  intro T hT X
  have htr : e.platform.stackTraces = false := (show e.platform.stackTraces = l.stackTraces by rw [X.admits.platform]).trans hl
  have Y := vx_rebase X (R' := { frames := R.frames, locals := R.locals, cells := 1, slots := 6 }) (Nat.le_refl _) (Nat.le_refl _) hRcells hRslots
  obtain ⟨s', hA⟩ : ∃ z, z = (T.setVm s.vm).setFrames (.invoking m args :: below) := ⟨_, rfl⟩
  rw [← hA] at Y
  have hvm : s'.vm = s.vm := by rw [hA]; rfl
  have hhp : s'.heap = H := by rw [hA]; exact hT
  have hW0 : s.WarmedH s'.vm := by rw [hvm]; exact State.WarmedH.refl s
  have hat' : ∀ w ∈ vx_atS own ic cls names, w.before args s' = true := fun w hw => vx_ot_at hW0 hvm.symm (hgood w (List.mem_cons_of_mem _ (List.mem_cons_of_mem _ hw))) (hat w hw)
  have hk' : (Cond.classLink own ik cls).before args s' = true := vx_ot_at hW0 hvm.symm (hgood _ List.mem_cons_self) hk
  have hini' : (Cond.initialized cls).before args s' = true := vx_ot_at hW0 hvm.symm (hgood _ (List.mem_cons_of_mem _ List.mem_cons_self)) hini
  have hU' : vx_Zq Bundle.tN "UNASSIGNED_STACK" Bundle.steD A s' s'.heap := by rw [hhp]; exact vx_Zq.moved hW0.alike (hU.kept hS.2.1)
  have hN' : vx_Zq Bundle.tN "SUPPRESSED_SENTINEL" Bundle.listD A s' s'.heap := by rw [hhp]; exact vx_Zq.moved hW0.alike (hN.kept hS.2.1)
  have h : ∀ w ∈ Bundle.ownAtoms own ic cls names, w.before args s' = true := vx_own hat' (vx_isRefq hU'.1) (vx_isRefq hN'.1) hU'.2.word hN'.2.word
  have hown' : s'.vm.findClass own = some m.cls := by rw [hvm]; exact hown
  have hins : (Cond.instantiable cls 6).before args s' = true := h _ (by simp [Bundle.ownAtoms])
  obtain ⟨vm₁, cX, kX, hfX, hkX, -, -, X₁, st1⟩ := Y.newCold hexec (own := own) (C := cls) (index := ik) (n := 6) hown' hk' hins hini'
    (g := F0 m pc ls rest) rfl (by rw [hb]; exact d0) (Nat.le_refl _) (Nat.le_refl _)
  generalize hT1 : (T.setVm vm₁).pushCell { cls := cX, slots := kX.instanceTypes.map defaultValue, vm := .none } = T1 at X₁ st1
  have hcat : (Value.ref T.heap.size).category = 1 := rfl
  have hcellA : T1.heap[T.heap.size]? = some (freshCell cX kX) := by rw [← hT1]; exact State.heap_pushCell_size _ _
  have d3' : decode c.code (pc + 3) = .ok (.dup, 1) := by rw [hb]; exact d3
  have d4' : decode c.code (pc + 4) = .ok (.ldc is, 2) := by rw [hb]; exact d4
  have hstr' : vk_R own is text sa s' := vk_R.warm hW0 hstr
  obtain ⟨U, hsteps, hrun, hend, hW, hsame, ce, hce, hO⟩ := X₁.ctorThrowS hexec htr (own := own) (cls := cls) (names := names) (ic := ic) hown' hcls hnames h (fun x hx => nomatch hx) hfX hkX hcellA (by rw [hhp, hT]; exact Nat.le_refl _) (msg := .ref sa) rfl
    (g := { method := m, pc := pc + 6, locals := ls, stack := .ref sa :: .ref T.heap.size :: .ref T.heap.size :: rest, locked := none }) rfl hsize rfl rfl (rest := rest) rfl
    (by rw [hb]; exact d6) (by rw [hb]; exact d9) hout hRframes (by simp only [List.map_cons, List.sum_cons, hcat]; omega) hlocks
  obtain ⟨f1, f2⟩ := vx_frame hsame
  rw [hhp] at f1 f2
  have hWs : s.WarmedH U.vm := State.WarmedH.trans hW0 hW
  have hcl : s.vm.findClass cls = some ce.cls := by
    have h9 := hO.cls
    rw [hvm] at h9
    exact h9
  have hall : s.sameButNew ({ U with vm := s.vm } : State) locs mc ms := by
    subst hA
    obtain ⟨e1, e2⟩ := hsame
    rw [State.setFrames_setFrames] at e1
    have h2 : (T.setVm s.vm).sameButNew ({ U with vm := s.vm } : State) [] (0 + 1) (0 + 6) := ⟨e1, e2⟩
    have h3 := X.same.trans h2
    rw [List.append_nil] at h3
    exact h3.mono hc hs
  refine ⟨U, ?_, .threw T.heap.size, hrun, hend, Or.inr ⟨T.heap.size, rfl, cls, ce, locs, hx U hWs.alike f1 (fun q hq => f2 q hq (fun z hz => nomatch hz)), hce, hO.vm, hcl, hWs, hall, hf⟩⟩
  refine st1 _ ?_
  show Steps p.tables e below (T1.setTop { method := m, pc := pc + 3, locals := ls, stack := .ref T.heap.size :: rest, locked := none }) _
  jvm_step X₁.here [X₁.here.top, hexec, d3', Value.category]
  exact X₁.ldcString hexec (own := own) (text := text) (index := is) (a := sa) hown' hstr'.1 hstr'.2
    (g := { method := m, pc := pc + 4, locals := ls, stack := .ref T.heap.size :: .ref T.heap.size :: rest, locked := none }) rfl d4' _ hsteps
/-- 'throw new E("text")', the text by a wide index -/
theorem vx_throwSW {cc : ByteArray} {pc : Nat} (hexec : p.tables.exec = Jvm.exec) (hb : c.code = cc) (hl : l.stackTraces = false) {own cls text : String} {names : List String} {ik is ic mc ms sa : Nat} {A : Nat → Prop}
    (hown : s.vm.findClass own = some m.cls) (hcls : Bundle.fit cls = true) (hnames : ∀ n ∈ names, Bundle.fit n = true)
    (hk : (Cond.classLink own ik cls).before args s = true) (hini : (Cond.initialized cls).before args s = true) (hstr : vk_R own is text sa s) (hat : ∀ w ∈ vx_atS own ic cls names, w.before args s = true)
    (hgood : ∀ w ∈ Cond.classLink own ik cls :: Cond.initialized cls :: vx_atS own ic cls names, vx_ot w = true)
    (hU : vx_Zq Bundle.tN "UNASSIGNED_STACK" Bundle.steD A s s.heap) (hN : vx_Zq Bundle.tN "SUPPRESSED_SENTINEL" Bundle.listD A s s.heap) (hS : va_S A s.heap H locs) (hsize : ls.size = c.maxLocals)
    (d0 : decode cc pc = .ok (.new ik, 3)) (d3 : decode cc (pc + 3) = .ok (.dup, 1)) (d4 : decode cc (pc + 4) = .ok (.ldc_w is, 3)) (d7 : decode cc (pc + 7) = .ok (.invokespecial ic, 3)) (d10 : decode cc (pc + 10) = .ok (.athrow, 1))
    (hout : ∀ x ∈ c.exceptionTable.toList, covers x (pc + 10) = false)
    (hRframes : names.length + 3 < R.frames) (hRlocals : (rest.map fun v => v.category).sum + (13 * (names.length + 1) + 43) ≤ R.locals) (hRcells : cells + 1 ≤ R.cells) (hRslots : slots + 6 ≤ R.slots) (hlocks : meth.locks = false)
    (hx : ∀ t : State, s.vm.Alike t.vm → H.size ≤ t.heap.size → (∀ q : Nat, q < H.size → t.heap[q]? = H[q]?) → XC cls s t)
    (hf : ∀ z ∈ locs, free z.base) (hc : cells + 1 ≤ mc) (hs : slots + 6 ≤ ms) :
    W p l e R s m args below meth c H locs cells slots (vx_MQ below Qc XC args s mc ms free) (F0 m pc ls rest) := by
  intro T hT X
  have htr : e.platform.stackTraces = false := (show e.platform.stackTraces = l.stackTraces by rw [X.admits.platform]).trans hl
  have Y := vx_rebase X (R' := { frames := R.frames, locals := R.locals, cells := 1, slots := 6 }) (Nat.le_refl _) (Nat.le_refl _) hRcells hRslots
  obtain ⟨s', hA⟩ : ∃ z, z = (T.setVm s.vm).setFrames (.invoking m args :: below) := ⟨_, rfl⟩
  rw [← hA] at Y
  have hvm : s'.vm = s.vm := by rw [hA]; rfl
  have hhp : s'.heap = H := by rw [hA]; exact hT
  have hW0 : s.WarmedH s'.vm := by rw [hvm]; exact State.WarmedH.refl s
  have hat' : ∀ w ∈ vx_atS own ic cls names, w.before args s' = true := fun w hw => vx_ot_at hW0 hvm.symm (hgood w (List.mem_cons_of_mem _ (List.mem_cons_of_mem _ hw))) (hat w hw)
  have hk' : (Cond.classLink own ik cls).before args s' = true := vx_ot_at hW0 hvm.symm (hgood _ List.mem_cons_self) hk
  have hini' : (Cond.initialized cls).before args s' = true := vx_ot_at hW0 hvm.symm (hgood _ (List.mem_cons_of_mem _ List.mem_cons_self)) hini
  have hU' : vx_Zq Bundle.tN "UNASSIGNED_STACK" Bundle.steD A s' s'.heap := by rw [hhp]; exact vx_Zq.moved hW0.alike (hU.kept hS.2.1)
  have hN' : vx_Zq Bundle.tN "SUPPRESSED_SENTINEL" Bundle.listD A s' s'.heap := by rw [hhp]; exact vx_Zq.moved hW0.alike (hN.kept hS.2.1)
  have h : ∀ w ∈ Bundle.ownAtoms own ic cls names, w.before args s' = true := vx_own hat' (vx_isRefq hU'.1) (vx_isRefq hN'.1) hU'.2.word hN'.2.word
  have hown' : s'.vm.findClass own = some m.cls := by rw [hvm]; exact hown
  have hins : (Cond.instantiable cls 6).before args s' = true := h _ (by simp [Bundle.ownAtoms])
  obtain ⟨vm₁, cX, kX, hfX, hkX, -, -, X₁, st1⟩ := Y.newCold hexec (own := own) (C := cls) (index := ik) (n := 6) hown' hk' hins hini'
    (g := F0 m pc ls rest) rfl (by rw [hb]; exact d0) (Nat.le_refl _) (Nat.le_refl _)
  generalize hT1 : (T.setVm vm₁).pushCell { cls := cX, slots := kX.instanceTypes.map defaultValue, vm := .none } = T1 at X₁ st1
  have hcat : (Value.ref T.heap.size).category = 1 := rfl
  have hcellA : T1.heap[T.heap.size]? = some (freshCell cX kX) := by rw [← hT1]; exact State.heap_pushCell_size _ _
  have d3' : decode c.code (pc + 3) = .ok (.dup, 1) := by rw [hb]; exact d3
  have d4' : decode c.code (pc + 4) = .ok (.ldc_w is, 3) := by rw [hb]; exact d4
  have hstr' : vk_R own is text sa s' := vk_R.warm hW0 hstr
  obtain ⟨U, hsteps, hrun, hend, hW, hsame, ce, hce, hO⟩ := X₁.ctorThrowS hexec htr (own := own) (cls := cls) (names := names) (ic := ic) hown' hcls hnames h (fun x hx => nomatch hx) hfX hkX hcellA (by rw [hhp, hT]; exact Nat.le_refl _) (msg := .ref sa) rfl
    (g := { method := m, pc := pc + 7, locals := ls, stack := .ref sa :: .ref T.heap.size :: .ref T.heap.size :: rest, locked := none }) rfl hsize rfl rfl (rest := rest) rfl
    (by rw [hb]; exact d7) (by rw [hb]; exact d10) hout hRframes (by simp only [List.map_cons, List.sum_cons, hcat]; omega) hlocks
  obtain ⟨f1, f2⟩ := vx_frame hsame
  rw [hhp] at f1 f2
  have hWs : s.WarmedH U.vm := State.WarmedH.trans hW0 hW
  have hcl : s.vm.findClass cls = some ce.cls := by
    have h9 := hO.cls
    rw [hvm] at h9
    exact h9
  have hall : s.sameButNew ({ U with vm := s.vm } : State) locs mc ms := by
    subst hA
    obtain ⟨e1, e2⟩ := hsame
    rw [State.setFrames_setFrames] at e1
    have h2 : (T.setVm s.vm).sameButNew ({ U with vm := s.vm } : State) [] (0 + 1) (0 + 6) := ⟨e1, e2⟩
    have h3 := X.same.trans h2
    rw [List.append_nil] at h3
    exact h3.mono hc hs
  refine ⟨U, ?_, .threw T.heap.size, hrun, hend, Or.inr ⟨T.heap.size, rfl, cls, ce, locs, hx U hWs.alike f1 (fun q hq => f2 q hq (fun z hz => nomatch hz)), hce, hO.vm, hcl, hWs, hall, hf⟩⟩
  refine st1 _ ?_
  show Steps p.tables e below (T1.setTop { method := m, pc := pc + 3, locals := ls, stack := .ref T.heap.size :: rest, locked := none }) _
  jvm_step X₁.here [X₁.here.top, hexec, d3', Value.category]
  exact X₁.ldcStringW hexec (own := own) (text := text) (index := is) (a := sa) hown' hstr'.1 hstr'.2
    (g := { method := m, pc := pc + 4, locals := ls, stack := .ref T.heap.size :: .ref T.heap.size :: rest, locked := none }) rfl d4' _ hsteps
end Ends
section Bodies
variable {l : Launch}
theorem vx_ofW {y : MethodName} {ws ws' : List Cond} {rm : Room} {Pc : Array Value → State → Prop} {Qc : Array Value → State → Outcome → State → Prop} {XC : String → State → State → Prop} {mc ms : Nat} {free : Addr → Prop} {cc : ByteArray} {maxL : Nat} {ret : Option FieldType}
    (hy : plainName y.cls = true) (hw : ws = Cond.code y cc maxL ret :: ws')
    (body : ∀ p e s m args below meth c s₁, BodyLoose p l y (headSpec ws rm) cc maxL ret e s m args below meth c s₁ → c.maxLocals = maxL → (∀ x ∈ c.exceptionTable.toList, False) → Pc args s →
      W p l e (headSpec ws rm).room s m args below meth c s.heap [] 0 0 (vx_MQ below Qc XC args s mc ms free) (entryFrame m args maxL)) : vx_Met l y ws rm Pc Qc XC mc ms free := by
  refine MetFree.of_bodyS (code := cc) (maxLocals := maxL) (ret := ret) hy ?_ ?_
  · intro args s m h hn
    obtain ⟨meth, c, h1, h2, h3, h4, h5, h6, -, -⟩ := Cond.code_spec hn (atoms_spec (ws := ws) h _ (by rw [hw]; exact List.mem_cons_self))
    exact ⟨meth, c, h1, h2, h3, h4, h5, h6⟩
  · intro p e s m args below meth c s₁ B hml hP _
    have hh0 : s₁.heap = s.heap := by rw [B.state]; rfl
    have ht : ∀ x ∈ c.exceptionTable.toList, False := by
      obtain ⟨meth9, c9, h1, h2, -, -, -, -, h7, -⟩ := Cond.code_spec B.named (atoms_spec (ws := ws) B.pre _ (by rw [hw]; exact List.mem_cons_self))
      cases Option.some.inj (h1.symm.trans B.method)
      cases Option.some.inj (h2.symm.trans (Stand.of_body B).code)
      intro x hx
      rw [Array.isEmpty_iff.mp h7] at hx
      cases hx
    obtain ⟨t, a1, o, b1, b2, b3⟩ := body p e s m args below meth c s₁ B hml ht hP s₁ hh0 (Stand.of_body B)
    exact ⟨t, o, a1, b1, b2, b3⟩
/-- the table of a body with handlers -/
theorem vx_table {p : Program} {x y : MethodName} {S : Spec} {cc bytes : ByteArray} {maxL maxL' : Nat} {ret ret' : Option FieldType} {e : Env} {s s₁ : State} {m : MethodId} {args : Array Value} {below : List Frame} {meth : Method} {c : Code} {hh : List (Nat × Nat × Nat × Nat)}
    (B : BodyLoose p l y S cc maxL ret e s m args below meth c s₁) (h : (Cond.codeWith y bytes maxL' ret' hh).before args s = true) : c.exceptionTable.toList = tableOf hh := by
  obtain ⟨m9, meth9, c9, hn9, h1, h2, -, -, h6, -⟩ := Cond.codeWith_spec h
  cases Option.some.inj (hn9.symm.trans B.named)
  cases Option.some.inj (h1.symm.trans B.method)
  cases Option.some.inj (h2.symm.trans (Stand.of_body B).code)
  rw [← h6, table_eq]
end Bodies
end VXA
/-! ===== END ===== -/
/-! ===== BEGIN a static call of a method with an exception table ===== -/
section VXS
variable {p : Program} {l : Launch} {e : Env} {R : Room} {s : State} {m : MethodId} {args : Array Value} {below : List Frame} {meth : Method} {c : Code} {T : State} {H : Heap} {locs : List Loc} {cells slots : Nat}
abbrev vx_CSW (R : Room) (s : State) (args : Array Value) (own : String) (index : Nat) (y : MethodName) (bytes : ByteArray) (maxL : Nat) (ret : Option FieldType) (hh : List (Nat × Nat × Nat × Nat)) (ws : List Cond) (rm : Room) (mc ms n : Nat) : Prop :=
  (rm.cells = mc ∧ rm.slots = ms ∧ rm.frames + 1 ≤ R.frames ∧ 8 + (maxL + 11) + rm.locals ≤ R.locals ∧ (∀ w ∈ ws, ∀ (a' : Array Value) (U : State), s.WarmedH U.vm → w.before a' U = true) ∧ Cond.codeWith y bytes maxL ret hh ∈ ws) ∧
  (Cond.codeWith y bytes maxL ret hh).before args s = true ∧ (Cond.initialized y.cls).before args s = true ∧ (y.cls ≠ "java/lang/invoke/MethodHandle" ∧ y.cls ≠ "java/lang/invoke/VarHandle") ∧
  (∀ sig, parseMethodDescriptor y.desc = some sig → n = sig.parameters.length) ∧ (Cond.methodLink own index y).before args s = true ∧ (Cond.static y).before args s = true
theorem vx_cwSW {own : String} {index maxL mc ms : Nat} {y : MethodName} {bytes : ByteArray} {ret : Option FieldType} {hh : List (Nat × Nat × Nat × Nat)} {Ts ws ws' : List Cond} {rm : Room} (n : Nat) (ht : ∀ w ∈ Ts, w.before args s = true) (hT : GoodIn Ts (va_wsS own index y ws)) (hw : ws = Cond.codeWith y bytes maxL ret hh :: ws') (hrc : rm.cells = mc) (hrs : rm.slots = ms)
    (hd : y.cls ≠ "java/lang/invoke/MethodHandle" ∧ y.cls ≠ "java/lang/invoke/VarHandle" ∧ (parseMethodDescriptor y.desc).map (fun d => d.parameters.length) = some n) (hR : rm.frames + 1 ≤ R.frames ∧ 8 + (maxL + 11) + rm.locals ≤ R.locals) :
    vx_CSW R s args own index y bytes maxL ret hh ws rm mc ms n := by
  have ok : ∀ w ∈ va_wsS own index y ws, w.before args s = true := fun w h => ht w (hT w h).1
  have hG : GoodIn Ts ws := fun w h => hT w (by unfold va_wsS; exact List.mem_append_right _ h)
  have hc : Cond.codeWith y bytes maxL ret hh ∈ ws := by rw [hw]; exact List.mem_cons_self
  refine ⟨⟨hrc, hrs, hR.1, hR.2, pay_in ht hG, hc⟩, ht _ (hG _ hc).1, ok _ (by simp [va_wsS]), ⟨hd.1, hd.2.1⟩, fun sig h => ?_, ok _ (by simp [va_wsS]), ok _ (by simp [va_wsS])⟩
  have h2 := hd.2.2
  rw [h] at h2
  exact (Option.some.inj h2).symm
theorem vx_callSW (X : Stand p l e R s m args below meth c T locs cells slots) (hexec : p.tables.exec = Jvm.exec) {own : String} {index : Nat} {y : MethodName} {bytes : ByteArray} {maxL : Nat} {ret : Option FieldType} {hh : List (Nat × Nat × Nat × Nat)}
    (hown : s.vm.findClass own = some m.cls) (hlink : (Cond.methodLink own index y).before args s = true) (hstat : (Cond.static y).before args s = true) (hinit : (Cond.initialized y.cls).before args s = true)
    (hcode : (Cond.codeWith y bytes maxL ret hh).before args s = true) (hy : y.cls ≠ "java/lang/invoke/MethodHandle" ∧ y.cls ≠ "java/lang/invoke/VarHandle")
    {W9 : Nat} {Pre : Pt → Array Value → Prop} {Post : Pt → Array Value → Option Value → Pt → Prop} (hK : Back l R p e below s args y 3 W9 Pre Post)
    {g : JFrame} (hg : g.method = m) (hsize : g.locals.size = c.maxLocals) {argsL rest : List Value} (hlen : ∀ sig, parseMethodDescriptor y.desc = some sig → argsL.length = sig.parameters.length)
    (hstack : g.stack = argsL.reverse ++ rest) (hW : 2 * g.monitorRoom + (rest.map fun v => v.category).sum ≤ W9) (hdg : decode c.code g.pc = .ok (.invokestatic index, 3))
    (hpre : ∀ vm₁, s.WarmedH vm₁ → Pre ⟨T.setVm vm₁, locs, cells, slots⟩ argsL.toArray) :
    ∃ (v : Option Value) (vm₁ : Vm) (B : Pt), s.WarmedH vm₁ ∧ Stand p l e R s m args below meth c B.U B.locs B.cells B.slots ∧ Post ⟨T.setVm vm₁, locs, cells, slots⟩ argsL.toArray v B ∧
      ∀ target, Steps p.tables e below (B.U.setTop { g with pc := g.pc + 3, stack := v.toList ++ rest }) target → Steps p.tables e below (T.setTop g) target := by
  obtain ⟨mk, methM, cM, hnamed, hmethM, -, -, -, -, -, -, hsigM⟩ := Cond.codeWith_spec hcode
  have hstatic : methM.isStatic = true := Cond.static_spec hnamed hmethM hstat
  obtain ⟨kP, hkP, -⟩ := className_of_methodNamed hnamed
  have hinitP : kP.init = .initialized := Cond.initialized_spec (findClass_of_methodNamed hnamed) hkP hinit
  obtain ⟨vm₁, X₁, hstep₁⟩ := X.invokestatic hexec hown hlink hnamed hmethM hstatic hkP hinitP hy (g := g) hg (argsL := argsL) (rest := rest) (hlen _ hsigM) hstack hdg
  obtain ⟨v, B, X', hpost, hsteps⟩ := hK m meth c ⟨T.setVm vm₁, locs, cells, slots⟩ { g with stack := rest } (.invokestatic index) mk argsL.toArray X₁ hg hsize hdg hW (X₁.named hnamed) (hpre vm₁ X₁.warmed)
  exact ⟨v, vm₁, B, X₁.warmed, X', hpost, fun target h => hstep₁ _ fun acts => by rw [doInvoke_state]; exact hsteps.trans h⟩
theorem vx_runSW {y : MethodName} {bytes cc : ByteArray} {maxL nL mc ms n index : Nat} {ret : Option FieldType} {hh : List (Nat × Nat × Nat × Nat)} {ws : List Cond} {rm : Room} {Pc : Array Value → State → Prop} {Qc : Array Value → State → Outcome → State → Prop} {free : Addr → Prop} {Ts : List Cond} {own : String} {As rest : List Value} {g : JFrame}
    (S : CallFix p m c cc nL s args Ts own) (hM : Met l y ws rm Pc Qc mc ms free) (cw : vx_CSW R s args own index y bytes maxL ret hh ws rm mc ms n) (hp : PreS s H Pc As)
    (hg : g.method = m) (hn : As.length = n) (hsize : g.locals.size = nL) (hstack : g.stack = As.reverse ++ rest) (hW : 2 * g.monitorRoom + (rest.map fun v => v.category).sum ≤ 8) (hdg : decode cc g.pc = .ok (.invokestatic index, 3)) (hf : cells + mc ≤ R.cells ∧ slots + ms ≤ R.slots) :
    va_Run p l e R s m args below meth c H locs cells slots mc ms g rest (Qc As.toArray) (free) := by
  obtain ⟨⟨hrc, hrs, hfr, hlo, hws, hcw⟩, hcode, hini, hy, hlen, hl, hstt⟩ := cw
  have hK : Back l R p e below s args y 3 8 (PreOf R mc ms Pc) (PostOf Qc mc ms free) := va_backW (hh := hh) (bytes := bytes) (maxL := maxL) (ret := ret) hM hp.1 hrc hrs hfr hlo hws hcw (fun a' U hW => word_at hW (Or.inl (by first | rfl | simp [Cond.onTables, Cond.keeps, Cond.steady])) hini)
  obtain ⟨hx, hb, hml, ho, -⟩ := S
  intro T hT X
  obtain ⟨v, vm₁, ⟨U', l2, c2, s2⟩, hW₁, X', ⟨g', mk, t, L, e1, e2, hq, h1, hL, h2, h3⟩, st⟩ := vx_callSW X hx (hh := hh) (bytes := bytes) (maxL := maxL) (ret := ret) ho hl hstt hini hcode hy hK hg (hsize.trans hml.symm) (argsL := As) (rest := rest) (fun sig h => hn.trans (hlen sig h)) hstack hW (by rw [hb]; exact hdg)
    (fun vm₁ hW₁ => ⟨hf.1, hf.2, hp.2 (T.setVm vm₁) hT hW₁⟩)
  dsimp only [Pt.U, Pt.locs, Pt.cells, Pt.slots] at X' e1 e2 h1 h2 h3 st
  subst h1; subst h2; subst h3
  exact ⟨v, (T.setVm vm₁).calling g' mk As.toArray, t, U', L, hT, X', hL, e1, e2, hq, st⟩
/-- not caught here, past rows that name other classes: it goes on to the caller -/
theorem vx_outP {p : Program} {l : Launch} {e : Env} {R : Room} {s : State} {m : MethodId} {args : Array Value} {below : List Frame} {meth : Method} {c : Code} {H : Heap} {locs : List Loc} {cells slots : Nat} {free : Addr → Prop} {ls : Array Slot} {rest : List Value} {Qc : Array Value → State → Outcome → State → Prop} {XC : String → State → State → Prop}
    {pc : Nat} {own E : String} {ce : Cell} {q : Addr} {mc ms : Nat} (hown : s.vm.findClass own = some m.cls) (hlocks : meth.locks = false)
    (hpass : ∀ z ∈ c.exceptionTable.toList, covers z pc = false ∨ (z.catchType ≠ 0 ∧ ∃ nm : String, (Cond.classLink own z.catchType nm).before args s = true ∧ va_Nc E nm s)) (hcell : H[q]? = some ce) (hv : ce.vm = .none) (hcl : s.vm.findClass E = some ce.cls)
    (hx : ∀ t : State, t.heap = H → s.vm.Alike t.vm → XC E s t) (hf : ∀ z ∈ locs, free z.base) (hc : cells ≤ mc) (hs : slots ≤ ms) :
    vx_W p l e R s m args below meth c H locs cells slots (vx_MQ below Qc XC args s mc ms free) (F0 m pc ls rest) q := by
  intro T hT X
  have hpl : e.platform.magicAccessors = ({} : Platform).magicAccessors := by rw [X.admits.platform]
  obtain ⟨vm', hW', X', st⟩ := X.outThrough hlocks q (g := F0 m pc ls rest) rfl rfl rfl (cell := ce) (by rw [hT]; exact hcell) (by rw [hv]; rfl)
    (by obtain ⟨k9, h9, -⟩ := Vm.findClass_spec hcl; exact ⟨k9, h9⟩) (fun z hz => by
      rcases hpass z hz with h | ⟨hz0, nm, hl1, hn1⟩
      · exact Or.inl h
      · obtain ⟨c6, hc6, hcl6⟩ := Cond.classLink_spec hown hl1 e.platform hpl
        obtain ⟨a8, b8, h1, h2, h3⟩ := hn1
        cases Option.some.inj (h1.symm.trans hcl)
        cases Option.some.inj (h2.symm.trans hc6)
        exact Or.inr ⟨hz0, _, hcl6, h3⟩)
  obtain ⟨g₀, hfr⟩ := X'.frames_eq
  have hcell9 : ((T.setVm vm').setFrames (.throwing q :: below)).heap[q]? = some ce := by
    show T.heap[q]? = some ce
    rw [hT]; exact hcell
  have hend : Ended ((T.setVm vm').setFrames (.throwing q :: below)) below (.threw q) := State.frames_setFrames _ (State.cur_lt_of_frames hfr)
  refine ⟨(T.setVm vm').setFrames (.throwing q :: below), ?_, .threw q, X'.here.running, hend, Or.inr ⟨q, rfl, E, ce, locs, hx _ hT (X'.ends _).1.alike, hcell9, hv, hcl, (X'.ends _).1, (X'.ends _).2.mono hc hs, hf⟩⟩
  rw [X.pushThrowing_eq]
  exact st
/-- a thing of a world lies in the heap -/
theorem vx_lt {D : va_G} {cl : List vw_C} {ws : va_W} {H1 : Heap} (h : va_P D cl ws H1) {k : Nat} {q : Nat × va_E} (hk : ws[k]? = some q) : q.1 < H1.size := (h k q hk).lt
end VXS
/-! ===== END ===== -/
/-! ===== BEGIN methods with a table of their own: called by a name, returning or throwing ===== -/
section VXH
/-! vx_backW, vx_callVX, vx_callSX, vx_callVW, vx_runVW, vx_runVX, vx_runSX, vx_ofWH follow the same proofs as their sisters above (Free/Laws.lean, Shelf42/LK1.lean); vx_outP calls Shelf42/NT130.lean (outThrough). -/
section
variable {l : Launch} {R : Room} {p : Program} {e : Env} {below : List Frame} {s : State} {sargs : Array Value} {y : MethodName} {len W9 : Nat}
theorem vx_backW {ws : List Cond} {rm : Room} {Pc : Array Value → State → Prop} {Qc : Array Value → State → Outcome → State → Prop} {XC : String → State → State → Prop} {mc ms : Nat} {free : Addr → Prop} {bytes : ByteArray} {maxL : Nat} {ret : Option FieldType} {hh : List (Nat × Nat × Nat × Nat)}
    (hM : vx_Met l y ws rm Pc Qc XC mc ms free) (hblind : FrameBlind Pc) (hrc : rm.cells = mc) (hrs : rm.slots = ms)
    (hframes : rm.frames + 1 ≤ R.frames) (hlocals : W9 + (maxL + 11) + rm.locals ≤ R.locals)
    (hws : ∀ w ∈ ws, ∀ a' U, s.WarmedH U.vm → w.before a' U = true) (hcode : Cond.codeWith y bytes maxL ret hh ∈ ws) (hinit : ∀ a' U, s.WarmedH U.vm → (Cond.initialized y.cls).before a' U = true) :
    vx_Back l R p e below s sargs y len W9 (PreOf R mc ms Pc) (PostOf Qc mc ms free) (vx_Post XC mc ms free) := by
  intro m meth c A g ig mk a X hg hsize hdg hW hn hp
  have h1 : (headSpec ws rm).pre.before a A.U = true := atoms_intro fun w hw => hws w hw _ _ X.warmed
  have h2 : (Cond.codeWith y bytes maxL ret hh).before a A.U = true := hws _ hcode _ _ X.warmed
  have h3 : (Cond.initialized y.cls).before a A.U = true := hinit _ _ X.warmed
  have h4 : A.cells + (headSpec ws rm).room.cells ≤ R.cells := by rw [show (headSpec ws rm).room.cells = mc from hrc]; exact hp.1
  have h5 : A.slots + (headSpec ws rm).room.slots ≤ R.slots := by rw [show (headSpec ws rm).room.slots = ms from hrs]; exact hp.2.1
  have hPc : Pc a (A.U.calling g mk a) := hblind _ _ _ _ hp.2.2
  obtain ⟨U, Ls, c0, s0⟩ := A
  dsimp only [Pt.U, Pt.locs, Pt.cells, Pt.slots] at h1 h2 h3 h4 h5 X hn hPc ⊢
  obtain ⟨m9, methY, cY, hn9, hmY, hcY, -, hlY, -⟩ := Cond.codeWith_spec h2
  cases Option.some.inj (hn9.symm.trans hn)
  obtain ⟨kY, hkY, -⟩ := className_of_methodNamed hn
  have hinitY : kY.init = .initialized := Cond.initialized_spec (findClass_of_methodNamed hn) hkY h3
  have h : At U g.method c below := by rw [hg]; exact X.here
  have hlocals9 : W9 + (maxL + 11) + (headSpec ws rm).room.locals ≤ R.locals := hlocals
  have happ : (headSpec ws rm).appliesLoose y e.platform (U.calling g mk a) = true :=
    Spec.appliesLoose_calling (g := g) h hdg hn hkY hinitY
      (X.room_calling (g := g) (R' := (headSpec ws rm).room) hsize hmY hcY hframes (by rw [hlY]; omega) h4 h5) h1
  obtain ⟨mid, hmid⟩ := h.above
  have hfr : (U.setTop g).frames = (.java g :: mid) ++ below := by rw [State.frames_setTop' g h.top, hmid]; rfl
  obtain ⟨o, s₂, hsteps, -, hend, hq⟩ := Steps.callFree hM p X.admits X.cas X.clock (acts := []) hfr happ hPc trivial
  have hq' : vx_Q Qc XC mc ms free a (U.calling g mk a) o s₂ := hq
  rw [State.frames_setTop' g h.top] at hend
  obtain ⟨g₀, hg0⟩ := Option.isSome_iff_exists.mp h.top
  obtain ⟨r, hr⟩ := State.topJava?_eq_some.mp hg0
  have hr' : (({ U with heap := s₂.heap, slotsUsed := s₂.slotsUsed } : State).setVm s₂.vm).frames = .java g₀ :: r := hr
  rcases hq' with ⟨hqc, L, hfe, hL⟩ | ⟨q, rfl, E, ce, L, hx, hce, hcv, hcl, hW₂, hsm, hL⟩
  · obtain ⟨⟨v, rfl⟩, hW₂, e2, q2, q3, q4, q5, q6⟩ := id hfe
    have e3 : s₂ = ({ (U.calling g mk a).setFrames s₂.frames with heap := s₂.heap, slotsUsed := s₂.slotsUsed } : State).setVm s₂.vm := by
      have : s₂ = ({ s₂ with vm := (U.calling g mk a).vm } : State).setVm s₂.vm := rfl
      rw [e2] at this
      exact this
    obtain ⟨c₂, i₂, len₂, hc₂, hd₂, hf₂⟩ := hend
    have hW' : U.WarmedH s₂.vm := hW₂
    have hcc : c₂ = c := by
      have h1 : s₂.code? g.method = U.code? g.method := by
        rw [State.code?_eq, State.code?_eq, hW'.alike.method?]
      exact Option.some.inj (hc₂.symm.trans (h1.trans h.code))
    subst hcc
    have hlen : len₂ = len := by rw [hdg] at hd₂; cases hd₂; rfl
    subst hlen
    have hs₂ : s₂ = (({ U with heap := s₂.heap, slotsUsed := s₂.slotsUsed } : State).setVm s₂.vm).setTop { g with pc := g.pc + len₂, stack := v.toList ++ g.stack } := by
      refine e3.trans ?_
      rw [hf₂, State.calling_eq h.top, State.setFrames_setFrames, State.setTop_of_frames _ hr', hr]
      rfl
    have hsame : U.sameButNew ({ U with heap := s₂.heap, slotsUsed := s₂.slotsUsed } : State) L mc ms := by
      refine ⟨?_, q2, q3, q4, q5, q6⟩
      obtain ⟨t, ht, -⟩ := State.frames_cons hr
      show ({ U with heap := s₂.heap, slotsUsed := s₂.slotsUsed } : State) = { U.setFrames U.frames with heap := s₂.heap, slotsUsed := s₂.slotsUsed }
      rw [State.setFrames_self ht]
    subst hg
    refine Or.inl ⟨v, ⟨(({ U with heap := s₂.heap, slotsUsed := s₂.slotsUsed } : State).setVm s₂.vm), Ls ++ L, c0 + mc, s0 + ms⟩,
      ⟨X.admits, X.cas, X.clock, X.frames, X.room, X.hears, X.method, X.code, (X.here.setHeapUsed s₂.heap s₂.slotsUsed).setVm hW'.alike, X.tail, State.WarmedH.trans X.warmed hW', X.limits, X.bytes, X.same.trans (hsame.setVm s.vm)⟩,
      ⟨g, mk, s₂, L, rfl, rfl, hqc, rfl, hL, rfl, rfl⟩, ?_⟩
    show Steps p.tables e below _ ((({ U with heap := s₂.heap, slotsUsed := s₂.slotsUsed } : State).setVm s₂.vm).setTop { g with pc := g.pc + len₂, stack := v.toList ++ g.stack })
    rw [← hs₂]
    exact hsteps
  · obtain ⟨e2, q2, q3, q4, q5, q6⟩ := id hsm
    have e3 : s₂ = ({ (U.calling g mk a).setFrames s₂.frames with heap := s₂.heap, slotsUsed := s₂.slotsUsed } : State).setVm s₂.vm := by
      have : s₂ = ({ s₂ with vm := (U.calling g mk a).vm } : State).setVm s₂.vm := rfl
      rw [e2] at this
      exact this
    have hf₂ : s₂.frames = .throwing q :: .java g :: U.frames.tail := hend
    have hW' : U.WarmedH s₂.vm := hW₂
    have hs₂ : s₂ = ((({ U with heap := s₂.heap, slotsUsed := s₂.slotsUsed } : State).setVm s₂.vm).setTop g).pushFrame (.throwing q) := by
      refine e3.trans ?_
      rw [hf₂, State.calling_eq h.top, State.setFrames_setFrames, State.pushFrame, State.frames_setTop _ hr', State.setTop_of_frames _ hr', State.setFrames_setFrames, hr]
      rfl
    have hsame : U.sameButNew ({ U with heap := s₂.heap, slotsUsed := s₂.slotsUsed } : State) L mc ms := by
      refine ⟨?_, q2, q3, q4, q5, q6⟩
      obtain ⟨t, ht, -⟩ := State.frames_cons hr
      show ({ U with heap := s₂.heap, slotsUsed := s₂.slotsUsed } : State) = { U.setFrames U.frames with heap := s₂.heap, slotsUsed := s₂.slotsUsed }
      rw [State.setFrames_self ht]
    subst hg
    refine Or.inr ⟨q, ⟨(({ U with heap := s₂.heap, slotsUsed := s₂.slotsUsed } : State).setVm s₂.vm), Ls ++ L, c0 + mc, s0 + ms⟩,
      ⟨X.admits, X.cas, X.clock, X.frames, X.room, X.hears, X.method, X.code, (X.here.setHeapUsed s₂.heap s₂.slotsUsed).setVm hW'.alike, X.tail, State.WarmedH.trans X.warmed hW', X.limits, X.bytes, X.same.trans (hsame.setVm s.vm)⟩,
      ⟨g, mk, s₂, L, E, ce, rfl, rfl, hx, hce, hcv, hcl, rfl, hL, rfl, rfl⟩, ?_⟩
    show Steps p.tables e below _ (((({ U with heap := s₂.heap, slotsUsed := s₂.slotsUsed } : State).setVm s₂.vm).setTop g).pushFrame (.throwing q))
    rw [← hs₂]
    exact hsteps
end
variable {p : Program} {l : Launch} {e : Env} {R : Room} {s : State} {m : MethodId} {args : Array Value} {below : List Frame} {meth : Method} {c : Code} {T : State} {H : Heap} {locs : List Loc} {cells slots : Nat}
theorem vx_callVX (X : Stand p l e R s m args below meth c T locs cells slots) (hexec : p.tables.exec = Jvm.exec) {own C : String} {index : Nat} {y : MethodName} {bytes : ByteArray} {maxL : Nat} {ret : Option FieldType} {hh : List (Nat × Nat × Nat × Nat)}
    (hown : s.vm.findClass own = some m.cls) (hlink : (Cond.methodLink own index y).before args s = true) (hinst : (Cond.instanceMethod y).before args s = true) (hsel : (Cond.selects C y y).before args s = true)
    (hcode : (Cond.codeWith y bytes maxL ret hh).before args s = true) (hy : y.cls ≠ "java/lang/invoke/MethodHandle" ∧ y.cls ≠ "java/lang/invoke/VarHandle")
    {W9 : Nat} {Pre : Pt → Array Value → Prop} {Post : Pt → Array Value → Option Value → Pt → Prop} {PostX : Pt → Array Value → Addr → Pt → Prop} (hK : vx_Back l R p e below s args y 3 W9 Pre Post PostX)
    {b : Addr} {cellB : Cell} (hcell : T.heap[b]? = some cellB) (hobj : cellB.vm.isStatics = false) (hcls : s.vm.findClass C = some cellB.cls)
    {g : JFrame} (hg : g.method = m) (hsize : g.locals.size = c.maxLocals) {argsL rest : List Value} (hlen : ∀ sig, parseMethodDescriptor y.desc = some sig → argsL.length = sig.parameters.length)
    (hstack : g.stack = argsL.reverse ++ .ref b :: rest) (hW : 2 * g.monitorRoom + (rest.map fun v => v.category).sum ≤ W9) (hdg : decode c.code g.pc = .ok (.invokevirtual index, 3))
    (hpre : ∀ vm₁, s.WarmedH vm₁ → Pre ⟨T.setVm vm₁, locs, cells, slots⟩ (Value.ref b :: argsL).toArray) :
    (∃ (v : Option Value) (vm₁ : Vm) (B : Pt), s.WarmedH vm₁ ∧ Stand p l e R s m args below meth c B.U B.locs B.cells B.slots ∧ Post ⟨T.setVm vm₁, locs, cells, slots⟩ (Value.ref b :: argsL).toArray v B ∧
      ∀ target, Steps p.tables e below (B.U.setTop { g with pc := g.pc + 3, stack := v.toList ++ rest }) target → Steps p.tables e below (T.setTop g) target) ∨
    (∃ (q : Addr) (vm₁ : Vm) (B : Pt), s.WarmedH vm₁ ∧ Stand p l e R s m args below meth c B.U B.locs B.cells B.slots ∧ PostX ⟨T.setVm vm₁, locs, cells, slots⟩ (Value.ref b :: argsL).toArray q B ∧
      Steps p.tables e below (T.setTop g) ((B.U.setTop { g with stack := rest }).pushFrame (.throwing q))) := by
  obtain ⟨mk, methM, hnamed, hmethM, hstM, habM⟩ := Cond.instanceMethod_spec hinst
  obtain ⟨m8, methM', cM, hn8, hmethM', -, -, -, -, -, -, hsigM⟩ := Cond.codeWith_spec hcode
  cases Option.some.inj (hn8.symm.trans hnamed)
  cases hmethM.symm.trans hmethM'
  obtain ⟨c2, r2, m2, q1, q2, q3, q4, kP, hkP, hkPi⟩ := Cond.selects_spec hsel
  cases hcls.symm.trans q1
  cases (State.methodFound?_of_named hnamed hy).symm.trans q2
  cases hnamed.symm.trans q3
  have hselP : selectMethod e.platform s.vm cellB.cls mk = .method mk := by rw [Launch.admits_selectMethod X.admits]; exact q4
  obtain ⟨vm₁, X₁, hstep₁⟩ := X.invokevirtual hexec hown hlink hnamed hmethM hstM hkP hkPi hy (a := b) (cell := cellB) hcell
    (fun z h => by rw [h] at hobj; cases hobj) hselP hmethM habM hkP hkPi (g := g) hg (argsL := argsL) (rest := rest) (hlen _ hsigM) hstack hdg
  rcases hK m meth c ⟨T.setVm vm₁, locs, cells, slots⟩ { g with stack := rest } (.invokevirtual index) mk (Value.ref b :: argsL).toArray X₁ hg hsize hdg hW (X₁.named hnamed) (hpre vm₁ X₁.warmed) with ⟨v, B, X', hpost, hsteps⟩ | ⟨q, B, X', hpost, hsteps⟩
  · exact Or.inl ⟨v, vm₁, B, X₁.warmed, X', hpost, fun target h => hstep₁ _ fun acts => by rw [doInvoke_state]; exact hsteps.trans h⟩
  · exact Or.inr ⟨q, vm₁, B, X₁.warmed, X', hpost, hstep₁ _ fun acts => by rw [doInvoke_state]; exact hsteps⟩
theorem vx_callSX (X : Stand p l e R s m args below meth c T locs cells slots) (hexec : p.tables.exec = Jvm.exec) {own : String} {index : Nat} {y : MethodName} {bytes : ByteArray} {maxL : Nat} {ret : Option FieldType} {hh : List (Nat × Nat × Nat × Nat)}
    (hown : s.vm.findClass own = some m.cls) (hlink : (Cond.methodLink own index y).before args s = true) (hstat : (Cond.static y).before args s = true) (hinit : (Cond.initialized y.cls).before args s = true)
    (hcode : (Cond.codeWith y bytes maxL ret hh).before args s = true) (hy : y.cls ≠ "java/lang/invoke/MethodHandle" ∧ y.cls ≠ "java/lang/invoke/VarHandle")
    {W9 : Nat} {Pre : Pt → Array Value → Prop} {Post : Pt → Array Value → Option Value → Pt → Prop} {PostX : Pt → Array Value → Addr → Pt → Prop} (hK : vx_Back l R p e below s args y 3 W9 Pre Post PostX)
    {g : JFrame} (hg : g.method = m) (hsize : g.locals.size = c.maxLocals) {argsL rest : List Value} (hlen : ∀ sig, parseMethodDescriptor y.desc = some sig → argsL.length = sig.parameters.length)
    (hstack : g.stack = argsL.reverse ++ rest) (hW : 2 * g.monitorRoom + (rest.map fun v => v.category).sum ≤ W9) (hdg : decode c.code g.pc = .ok (.invokestatic index, 3))
    (hpre : ∀ vm₁, s.WarmedH vm₁ → Pre ⟨T.setVm vm₁, locs, cells, slots⟩ argsL.toArray) :
    (∃ (v : Option Value) (vm₁ : Vm) (B : Pt), s.WarmedH vm₁ ∧ Stand p l e R s m args below meth c B.U B.locs B.cells B.slots ∧ Post ⟨T.setVm vm₁, locs, cells, slots⟩ argsL.toArray v B ∧
      ∀ target, Steps p.tables e below (B.U.setTop { g with pc := g.pc + 3, stack := v.toList ++ rest }) target → Steps p.tables e below (T.setTop g) target) ∨
    (∃ (q : Addr) (vm₁ : Vm) (B : Pt), s.WarmedH vm₁ ∧ Stand p l e R s m args below meth c B.U B.locs B.cells B.slots ∧ PostX ⟨T.setVm vm₁, locs, cells, slots⟩ argsL.toArray q B ∧
      Steps p.tables e below (T.setTop g) ((B.U.setTop { g with stack := rest }).pushFrame (.throwing q))) := by
  obtain ⟨mk, methM, cM, hnamed, hmethM, -, -, -, -, -, -, hsigM⟩ := Cond.codeWith_spec hcode
  have hstatic : methM.isStatic = true := Cond.static_spec hnamed hmethM hstat
  obtain ⟨kP, hkP, -⟩ := className_of_methodNamed hnamed
  have hinitP : kP.init = .initialized := Cond.initialized_spec (findClass_of_methodNamed hnamed) hkP hinit
  obtain ⟨vm₁, X₁, hstep₁⟩ := X.invokestatic hexec hown hlink hnamed hmethM hstatic hkP hinitP hy (g := g) hg (argsL := argsL) (rest := rest) (hlen _ hsigM) hstack hdg
  rcases hK m meth c ⟨T.setVm vm₁, locs, cells, slots⟩ { g with stack := rest } (.invokestatic index) mk argsL.toArray X₁ hg hsize hdg hW (X₁.named hnamed) (hpre vm₁ X₁.warmed) with ⟨v, B, X', hpost, hsteps⟩ | ⟨q, B, X', hpost, hsteps⟩
  · exact Or.inl ⟨v, vm₁, B, X₁.warmed, X', hpost, fun target h => hstep₁ _ fun acts => by rw [doInvoke_state]; exact hsteps.trans h⟩
  · exact Or.inr ⟨q, vm₁, B, X₁.warmed, X', hpost, hstep₁ _ fun acts => by rw [doInvoke_state]; exact hsteps⟩
theorem vx_callVW (X : Stand p l e R s m args below meth c T locs cells slots) (hexec : p.tables.exec = Jvm.exec) {own C : String} {index : Nat} {y : MethodName} {bytes : ByteArray} {maxL : Nat} {ret : Option FieldType} {hh : List (Nat × Nat × Nat × Nat)}
    (hown : s.vm.findClass own = some m.cls) (hlink : (Cond.methodLink own index y).before args s = true) (hinst : (Cond.instanceMethod y).before args s = true) (hsel : (Cond.selects C y y).before args s = true)
    (hcode : (Cond.codeWith y bytes maxL ret hh).before args s = true) (hy : y.cls ≠ "java/lang/invoke/MethodHandle" ∧ y.cls ≠ "java/lang/invoke/VarHandle")
    {W9 : Nat} {Pre : Pt → Array Value → Prop} {Post : Pt → Array Value → Option Value → Pt → Prop} (hK : Back l R p e below s args y 3 W9 Pre Post)
    {b : Addr} {cellB : Cell} (hcell : T.heap[b]? = some cellB) (hobj : cellB.vm.isStatics = false) (hcls : s.vm.findClass C = some cellB.cls)
    {g : JFrame} (hg : g.method = m) (hsize : g.locals.size = c.maxLocals) {argsL rest : List Value} (hlen : ∀ sig, parseMethodDescriptor y.desc = some sig → argsL.length = sig.parameters.length)
    (hstack : g.stack = argsL.reverse ++ .ref b :: rest) (hW : 2 * g.monitorRoom + (rest.map fun v => v.category).sum ≤ W9) (hdg : decode c.code g.pc = .ok (.invokevirtual index, 3))
    (hpre : ∀ vm₁, s.WarmedH vm₁ → Pre ⟨T.setVm vm₁, locs, cells, slots⟩ (Value.ref b :: argsL).toArray) :
    ∃ (v : Option Value) (vm₁ : Vm) (B : Pt), s.WarmedH vm₁ ∧ Stand p l e R s m args below meth c B.U B.locs B.cells B.slots ∧ Post ⟨T.setVm vm₁, locs, cells, slots⟩ (Value.ref b :: argsL).toArray v B ∧
      ∀ target, Steps p.tables e below (B.U.setTop { g with pc := g.pc + 3, stack := v.toList ++ rest }) target → Steps p.tables e below (T.setTop g) target := by
  obtain ⟨mk, methM, hnamed, hmethM, hstM, habM⟩ := Cond.instanceMethod_spec hinst
  obtain ⟨m8, methM', cM, hn8, hmethM', -, -, -, -, -, -, hsigM⟩ := Cond.codeWith_spec hcode
  cases Option.some.inj (hn8.symm.trans hnamed)
  cases hmethM.symm.trans hmethM'
  obtain ⟨c2, r2, m2, q1, q2, q3, q4, kP, hkP, hkPi⟩ := Cond.selects_spec hsel
  cases hcls.symm.trans q1
  cases (State.methodFound?_of_named hnamed hy).symm.trans q2
  cases hnamed.symm.trans q3
  have hselP : selectMethod e.platform s.vm cellB.cls mk = .method mk := by rw [Launch.admits_selectMethod X.admits]; exact q4
  obtain ⟨vm₁, X₁, hstep₁⟩ := X.invokevirtual hexec hown hlink hnamed hmethM hstM hkP hkPi hy (a := b) (cell := cellB) hcell
    (fun z h => by rw [h] at hobj; cases hobj) hselP hmethM habM hkP hkPi (g := g) hg (argsL := argsL) (rest := rest) (hlen _ hsigM) hstack hdg
  obtain ⟨v, B, X', hpost, hsteps⟩ := hK m meth c ⟨T.setVm vm₁, locs, cells, slots⟩ { g with stack := rest } (.invokevirtual index) mk (Value.ref b :: argsL).toArray X₁ hg hsize hdg hW (X₁.named hnamed) (hpre vm₁ X₁.warmed)
  exact ⟨v, vm₁, B, X₁.warmed, X', hpost, fun target h => hstep₁ _ fun acts => by rw [doInvoke_state]; exact hsteps.trans h⟩
abbrev vx_CVW (R : Room) (s : State) (args : Array Value) (own C : String) (index : Nat) (y : MethodName) (bytes : ByteArray) (maxL : Nat) (ret : Option FieldType) (hh : List (Nat × Nat × Nat × Nat)) (ws : List Cond) (rm : Room) (mc ms n : Nat) : Prop :=
  (rm.cells = mc ∧ rm.slots = ms ∧ rm.frames + 1 ≤ R.frames ∧ 8 + (maxL + 11) + rm.locals ≤ R.locals ∧ (∀ w ∈ ws, ∀ (a' : Array Value) (U : State), s.WarmedH U.vm → w.before a' U = true) ∧ Cond.codeWith y bytes maxL ret hh ∈ ws) ∧
  (Cond.codeWith y bytes maxL ret hh).before args s = true ∧ (Cond.initialized y.cls).before args s = true ∧ (y.cls ≠ "java/lang/invoke/MethodHandle" ∧ y.cls ≠ "java/lang/invoke/VarHandle") ∧
  (∀ sig, parseMethodDescriptor y.desc = some sig → n = sig.parameters.length) ∧ (Cond.methodLink own index y).before args s = true ∧ (Cond.instanceMethod y).before args s = true ∧ (Cond.selects C y y).before args s = true
theorem vx_cwVW {own C : String} {index maxL mc ms : Nat} {y : MethodName} {bytes : ByteArray} {ret : Option FieldType} {hh : List (Nat × Nat × Nat × Nat)} {Ts ws ws' : List Cond} {rm : Room} (n : Nat) (ht : ∀ w ∈ Ts, w.before args s = true) (hT : GoodIn Ts (wsV own index C y ws)) (hw : ws = Cond.codeWith y bytes maxL ret hh :: ws') (hrc : rm.cells = mc) (hrs : rm.slots = ms)
    (hd : y.cls = C ∧ y.cls ≠ "java/lang/invoke/MethodHandle" ∧ y.cls ≠ "java/lang/invoke/VarHandle" ∧ (parseMethodDescriptor y.desc).map (fun d => d.parameters.length) = some n) (hR : rm.frames + 1 ≤ R.frames ∧ 8 + (maxL + 11) + rm.locals ≤ R.locals) :
    vx_CVW R s args own C index y bytes maxL ret hh ws rm mc ms n := by
  obtain ⟨hC, hd⟩ := hd
  subst hC
  have ok : ∀ w ∈ wsV own index y.cls y ws, w.before args s = true := fun w h => ht w (hT w h).1
  have hG : GoodIn Ts ws := fun w h => hT w (by unfold wsV; exact List.mem_append_right _ h)
  have hc : Cond.codeWith y bytes maxL ret hh ∈ ws := by rw [hw]; exact List.mem_cons_self
  refine ⟨⟨hrc, hrs, hR.1, hR.2, pay_in ht hG, hc⟩, ht _ (hG _ hc).1, ok _ (by simp [wsV]), ⟨hd.1, hd.2.1⟩, fun sig h => ?_, ok _ (by simp [wsV]), ok _ (by simp [wsV]), ok _ (by simp [wsV])⟩
  have h2 := hd.2.2
  rw [h] at h2
  exact (Option.some.inj h2).symm
theorem vx_runVW {y : MethodName} {bytes cc : ByteArray} {maxL nL mc ms n index : Nat} {ret : Option FieldType} {hh : List (Nat × Nat × Nat × Nat)} {ws : List Cond} {rm : Room} {Pc : Array Value → State → Prop} {Qc : Array Value → State → Outcome → State → Prop} {free : Addr → Prop} {Ts : List Cond} {own C : String} {b : Addr} {As rest : List Value} {g : JFrame}
    (S : CallFix p m c cc nL s args Ts own) (hM : Met l y ws rm Pc Qc mc ms free) (cw : vx_CVW R s args own C index y bytes maxL ret hh ws rm mc ms n) (hp : PreV s H C b Pc As)
    (hg : g.method = m) (hn : As.length = n) (hsize : g.locals.size = nL) (hstack : g.stack = As.reverse ++ .ref b :: rest) (hW : 2 * g.monitorRoom + (rest.map fun v => v.category).sum ≤ 8) (hdg : decode cc g.pc = .ok (.invokevirtual index, 3)) (hf : cells + mc ≤ R.cells ∧ slots + ms ≤ R.slots) :
    va_Run p l e R s m args below meth c H locs cells slots mc ms g rest (Qc (Value.ref b :: As).toArray) free := by
  obtain ⟨⟨hrc, hrs, hfr, hlo, hws, hcw⟩, hcode, hini, hy, hlen, hl, hin, hse⟩ := cw
  have hK : Back l R p e below s args y 3 8 (PreOf R mc ms Pc) (PostOf Qc mc ms free) := va_backW (hh := hh) (bytes := bytes) (maxL := maxL) (ret := ret) hM hp.1 hrc hrs hfr hlo hws hcw (fun a' U hW => word_at hW (Or.inl (by first | rfl | simp [Cond.onTables, Cond.keeps, Cond.steady])) hini)
  obtain ⟨hx, hb, hml, ho, -⟩ := S
  obtain ⟨-, ⟨cellB, hcB, hoB, hclB⟩, hPc⟩ := hp
  intro T hT X
  obtain ⟨v, vm₁, ⟨U', l2, c2, s2⟩, hW₁, X', ⟨g', mk, t, L, e1, e2, hq, h1, hL, h2, h3⟩, st⟩ := vx_callVW X hx (C := C) (hh := hh) (bytes := bytes) (maxL := maxL) (ret := ret) ho hl hin hse hcode hy hK (by rw [hT]; exact hcB) hoB hclB hg (hsize.trans hml.symm) (argsL := As) (rest := rest) (fun sig h => hn.trans (hlen sig h)) hstack hW (by rw [hb]; exact hdg)
    (fun vm₁ hW₁ => ⟨hf.1, hf.2, hPc (T.setVm vm₁) hT hW₁⟩)
  dsimp only [Pt.U, Pt.locs, Pt.cells, Pt.slots] at X' e1 e2 h1 h2 h3 st
  subst h1; subst h2; subst h3
  exact ⟨v, (T.setVm vm₁).calling g' mk (Value.ref b :: As).toArray, t, U', L, hT, X', hL, e1, e2, hq, st⟩
section
variable {y : MethodName} {bytes cc : ByteArray} {maxL nL mc ms n index : Nat} {ret : Option FieldType} {ws : List Cond} {rm : Room} {Pc : Array Value → State → Prop} {Qc : Array Value → State → Outcome → State → Prop} {XC : String → State → State → Prop} {free : Addr → Prop} {Ts : List Cond} {own C : String} {b : Addr} {As rest : List Value} {g : JFrame}
theorem vx_runVX {hh : List (Nat × Nat × Nat × Nat)} (S : CallFix p m c cc nL s args Ts own) (hM : vx_Met l y ws rm Pc Qc XC mc ms free) (cw : vx_CVW R s args own C index y bytes maxL ret hh ws rm mc ms n) (hp : PreV s H C b Pc As)
    (hg : g.method = m) (hn : As.length = n) (hsize : g.locals.size = nL) (hstack : g.stack = As.reverse ++ .ref b :: rest) (hW : 2 * g.monitorRoom + (rest.map fun v => v.category).sum ≤ 8) (hdg : decode cc g.pc = .ok (.invokevirtual index, 3)) (hf : cells + mc ≤ R.cells ∧ slots + ms ≤ R.slots) :
    vx_Run p l e R s m args below meth c H locs cells slots mc ms g rest (Qc (Value.ref b :: As).toArray) XC free := by
  obtain ⟨⟨hrc, hrs, hfr, hlo, hws, hcw⟩, hcode, hini, hy, hlen, hl, hin, hse⟩ := cw
  have hK : vx_Back l R p e below s args y 3 8 (PreOf R mc ms Pc) (PostOf Qc mc ms free) (vx_Post XC mc ms free) := vx_backW (hh := hh) (bytes := bytes) (maxL := maxL) (ret := ret) hM hp.1 hrc hrs hfr hlo hws hcw (fun a' U hW => word_at hW (Or.inl (by first | rfl | simp [Cond.onTables, Cond.keeps, Cond.steady])) hini)
  obtain ⟨hx, hb, hml, ho, -⟩ := S
  obtain ⟨-, ⟨cellB, hcB, hoB, hclB⟩, hPc⟩ := hp
  intro T hT X
  rcases vx_callVX X hx (C := C) (hh := hh) (bytes := bytes) (maxL := maxL) (ret := ret) ho hl hin hse hcode hy hK (by rw [hT]; exact hcB) hoB hclB hg (hsize.trans hml.symm) (argsL := As) (rest := rest) (fun sig h => hn.trans (hlen sig h)) hstack hW (by rw [hb]; exact hdg)
    (fun vm₁ hW₁ => ⟨hf.1, hf.2, hPc (T.setVm vm₁) hT hW₁⟩) with ⟨v, vm₁, ⟨U', l2, c2, s2⟩, hW₁, X', ⟨g', mk, t, L, e1, e2, hq, h1, hL, h2, h3⟩, st⟩ | ⟨q, vm₁, ⟨U', l2, c2, s2⟩, hW₁, X', ⟨g', mk, t, L, E, ce, e1, e2, hq, hce, hcv, hcl, h1, hL, h2, h3⟩, st⟩
  · dsimp only [Pt.U, Pt.locs, Pt.cells, Pt.slots] at X' e1 e2 h1 h2 h3 st
    subst h1; subst h2; subst h3
    exact Or.inl ⟨v, (T.setVm vm₁).calling g' mk (Value.ref b :: As).toArray, t, U', L, hT, X', hL, e1, e2, hq, st⟩
  · dsimp only [Pt.U, Pt.locs, Pt.cells, Pt.slots] at X' e1 e2 h1 h2 h3 st hcl
    subst h1; subst h2; subst h3
    exact Or.inr ⟨q, (T.setVm vm₁).calling g' mk (Value.ref b :: As).toArray, t, U', L, E, ce, hT, X', hL, e1, e2, hq, hce, hcv, vx_cls hW₁ hcl, st⟩
theorem vx_runSX {hh : List (Nat × Nat × Nat × Nat)} (S : CallFix p m c cc nL s args Ts own) (hM : vx_Met l y ws rm Pc Qc XC mc ms free) (cw : vx_CSW R s args own index y bytes maxL ret hh ws rm mc ms n) (hp : PreS s H Pc As)
    (hg : g.method = m) (hn : As.length = n) (hsize : g.locals.size = nL) (hstack : g.stack = As.reverse ++ rest) (hW : 2 * g.monitorRoom + (rest.map fun v => v.category).sum ≤ 8) (hdg : decode cc g.pc = .ok (.invokestatic index, 3)) (hf : cells + mc ≤ R.cells ∧ slots + ms ≤ R.slots) :
    vx_Run p l e R s m args below meth c H locs cells slots mc ms g rest (Qc As.toArray) XC free := by
  obtain ⟨⟨hrc, hrs, hfr, hlo, hws, hcw⟩, hcode, hini, hy, hlen, hl, hstt⟩ := cw
  have hK : vx_Back l R p e below s args y 3 8 (PreOf R mc ms Pc) (PostOf Qc mc ms free) (vx_Post XC mc ms free) := vx_backW (hh := hh) (bytes := bytes) (maxL := maxL) (ret := ret) hM hp.1 hrc hrs hfr hlo hws hcw (fun a' U hW => word_at hW (Or.inl (by first | rfl | simp [Cond.onTables, Cond.keeps, Cond.steady])) hini)
  obtain ⟨hx, hb, hml, ho, -⟩ := S
  intro T hT X
  rcases vx_callSX X hx (hh := hh) (bytes := bytes) (maxL := maxL) (ret := ret) ho hl hstt hini hcode hy hK hg (hsize.trans hml.symm) (argsL := As) (rest := rest) (fun sig h => hn.trans (hlen sig h)) hstack hW (by rw [hb]; exact hdg)
    (fun vm₁ hW₁ => ⟨hf.1, hf.2, hp.2 (T.setVm vm₁) hT hW₁⟩) with ⟨v, vm₁, ⟨U', l2, c2, s2⟩, hW₁, X', ⟨g', mk, t, L, e1, e2, hq, h1, hL, h2, h3⟩, st⟩ | ⟨q, vm₁, ⟨U', l2, c2, s2⟩, hW₁, X', ⟨g', mk, t, L, E, ce, e1, e2, hq, hce, hcv, hcl, h1, hL, h2, h3⟩, st⟩
  · dsimp only [Pt.U, Pt.locs, Pt.cells, Pt.slots] at X' e1 e2 h1 h2 h3 st
    subst h1; subst h2; subst h3
    exact Or.inl ⟨v, (T.setVm vm₁).calling g' mk As.toArray, t, U', L, hT, X', hL, e1, e2, hq, st⟩
  · dsimp only [Pt.U, Pt.locs, Pt.cells, Pt.slots] at X' e1 e2 h1 h2 h3 st hcl
    subst h1; subst h2; subst h3
    exact Or.inr ⟨q, (T.setVm vm₁).calling g' mk As.toArray, t, U', L, E, ce, hT, X', hL, e1, e2, hq, hce, hcv, vx_cls hW₁ hcl, st⟩
end
end VXH
theorem vx_ofWH {l : Launch} {y : MethodName} {ws ws' : List Cond} {rm : Room} {Pc : Array Value → State → Prop} {Qc : Array Value → State → Outcome → State → Prop} {XC : String → State → State → Prop} {mc ms : Nat} {free : Addr → Prop} {cc : ByteArray} {maxL : Nat} {ret : Option FieldType} {hh : List (Nat × Nat × Nat × Nat)}
    (hy : plainName y.cls = true) (hw : ws = Cond.codeWith y cc maxL ret hh :: ws')
    (body : ∀ p e s m args below meth c s₁, BodyLoose p l y (headSpec ws rm) cc maxL ret e s m args below meth c s₁ → c.maxLocals = maxL → Pc args s →
      W p l e (headSpec ws rm).room s m args below meth c s.heap [] 0 0 (vx_MQ below Qc XC args s mc ms free) (entryFrame m args maxL)) : vx_Met l y ws rm Pc Qc XC mc ms free := by
  refine MetFree.of_bodyS (code := cc) (maxLocals := maxL) (ret := ret) hy ?_ ?_
  · intro args s m h hn
    obtain ⟨m9, meth, c, hn9, h1, h2, h3, h4, -, h5, h6, -⟩ := Cond.codeWith_spec (atoms_spec (ws := ws) h _ (by rw [hw]; exact List.mem_cons_self))
    cases hn.symm.trans hn9
    exact ⟨meth, c, h1, h2, h3, h4, h5, h6⟩
  · intro p e s m args below meth c s₁ B hml hP _
    have hh0 : s₁.heap = s.heap := by rw [B.state]; rfl
    obtain ⟨t, a1, o, b1, b2, b3⟩ := body p e s m args below meth c s₁ B hml hP s₁ hh0 (Stand.of_body B)
    exact ⟨t, o, a1, b1, b2, b3⟩
/-! ===== END ===== -/
end
section
/-! ===== BEGIN printed: names, fields, word lists, decode rows ===== -/
def RX0 : String := "Voidrent$Lease"
def TX0 : u_T := fun k => match k with
  | 0 => ("Voidrent$Lease", "unit", "I", true)
  | 1 => ("Voidrent$Lease", "from", "I", true)
  | 2 => ("Voidrent$Lease", "firstRent", "I", true)
  | 3 => ("Voidrent$Lease", "to", "I", false)
  | 4 => ("Voidrent$Lease", "free", "I", false)
  | 5 => ("Voidrent$Lease", "every", "I", false)
  | 6 => ("Voidrent$Lease", "cap", "I", false)
  | 7 => ("Voidrent$Lease", "prepaid", "I", false)
  | 8 => ("Voidrent$Lease", "deposit", "I", false)
  | 9 => ("Voidrent$Lease", "stepDays", "[I", true)
  | 10 => ("Voidrent$Lease", "stepRents", "[I", true)
  | _ => ("Voidrent$Lease", "steps", "I", false)
def tyX0 : Nat → FieldType := fun k => match k with
  | 0 => .int
  | 1 => .int
  | 2 => .int
  | 3 => .int
  | 4 => .int
  | 5 => .int
  | 6 => .int
  | 7 => .int
  | 8 => .int
  | 9 => .array .int
  | 10 => .array .int
  | _ => .int
abbrev wsX00 : List Cond := u_ws RX0 TX0 12
theorem nmX0 : ∀ a, a < 12 → ∀ b, b < 12 → a ≠ b → (TX0 a).2.1 ≠ (TX0 b).2.1 := by decide +kernel
theorem tyX0_ok : ∀ k, k < 12 → parseFieldDescriptor (TX0 k).2.2.1 = some (tyX0 k) := by decide +kernel
abbrev cX0_init : ByteArray := prog_2_method_1_code
def yX0_init : MethodName := ⟨RX0, "<init>", "(IIII)V"⟩
abbrev cX0_runsOn : ByteArray := prog_2_method_2_code
def yX0_runsOn : MethodName := ⟨RX0, "runsOn", "(I)Z"⟩
abbrev cX0_isFreeOn : ByteArray := prog_2_method_3_code
def yX0_isFreeOn : MethodName := ⟨RX0, "isFreeOn", "(I)Z"⟩
abbrev cX0_daysWithin : ByteArray := prog_2_method_4_code
def yX0_daysWithin : MethodName := ⟨RX0, "daysWithin", "(II)I"⟩
abbrev cX0_daysIn : ByteArray := prog_2_method_5_code
def yX0_daysIn : MethodName := ⟨RX0, "daysIn", "(I)I"⟩
abbrev cX0_putStep : ByteArray := prog_2_method_6_code
def yX0_putStep : MethodName := ⟨RX0, "putStep", "(II)Z"⟩
abbrev cX0_agreedOn : ByteArray := prog_2_method_7_code
def yX0_agreedOn : MethodName := ⟨RX0, "agreedOn", "(I)I"⟩
abbrev cX0_reviewsUpTo : ByteArray := prog_2_method_8_code
def yX0_reviewsUpTo : MethodName := ⟨RX0, "reviewsUpTo", "(I)I"⟩
abbrev cX0_nextTurn : ByteArray := prog_2_method_9_code
def yX0_nextTurn : MethodName := ⟨RX0, "nextTurn", "(I)I"⟩
abbrev cX0_sooner : ByteArray := prog_2_method_10_code
def yX0_sooner : MethodName := ⟨RX0, "sooner", "(III)I"⟩
def RX1 : String := "Voidrent"
def TX1 : u_T := fun k => match k with
  | 0 => ("Voidrent", "areas", "[I", true)
  | 1 => ("Voidrent", "indices", "[I", true)
  | 2 => ("Voidrent", "costs", "[I", true)
  | 3 => ("Voidrent", "roll", "[LVoidrent$Lease;", true)
  | _ => ("Voidrent", "count", "I", false)
def tyX1 : Nat → FieldType := fun k => match k with
  | 0 => .array .int
  | 1 => .array .int
  | 2 => .array .int
  | 3 => .array (.object "Voidrent$Lease")
  | _ => .int
abbrev wsX10 : List Cond := u_ws RX1 TX1 5
theorem nmX1 : ∀ a, a < 5 → ∀ b, b < 5 → a ≠ b → (TX1 a).2.1 ≠ (TX1 b).2.1 := by decide +kernel
theorem tyX1_ok : ∀ k, k < 5 → parseFieldDescriptor (TX1 k).2.2.1 = some (tyX1 k) := by decide +kernel
abbrev cX1_init : ByteArray := prog_1_method_1_code
def yX1_init : MethodName := ⟨RX1, "<init>", "()V"⟩
abbrev cX1_setArea : ByteArray := prog_1_method_2_code
def yX1_setArea : MethodName := ⟨RX1, "setArea", "(II)I"⟩
abbrev cX1_setIndex : ByteArray := prog_1_method_3_code
def yX1_setIndex : MethodName := ⟨RX1, "setIndex", "(II)I"⟩
abbrev cX1_setCost : ByteArray := prog_1_method_4_code
def yX1_setCost : MethodName := ⟨RX1, "setCost", "(II)I"⟩
abbrev cX1_let : ByteArray := prog_1_method_5_code
def yX1_let : MethodName := ⟨RX1, "let", "(IIII)I"⟩
abbrev cX1_end : ByteArray := prog_1_method_6_code
def yX1_end : MethodName := ⟨RX1, "end", "(II)I"⟩
abbrev cX1_step : ByteArray := prog_1_method_7_code
def yX1_step : MethodName := ⟨RX1, "step", "(III)I"⟩
abbrev cX1_setTerms : ByteArray := prog_1_method_8_code
def yX1_setTerms : MethodName := ⟨RX1, "setTerms", "(III)V"⟩
abbrev cX1_setService : ByteArray := prog_1_method_9_code
def yX1_setService : MethodName := ⟨RX1, "setService", "(III)V"⟩
abbrev cX1_topUp : ByteArray := prog_1_method_10_code
def yX1_topUp : MethodName := ⟨RX1, "topUp", "(III)I"⟩
abbrev cX1_draw : ByteArray := prog_1_method_11_code
def yX1_draw : MethodName := ⟨RX1, "draw", "(II)I"⟩
abbrev cX1_held : ByteArray := prog_1_method_12_code
def yX1_held : MethodName := ⟨RX1, "held", "(I)I"⟩
abbrev cX1_leases : ByteArray := prog_1_method_13_code
def yX1_leases : MethodName := ⟨RX1, "leases", "()I"⟩
abbrev cX1_leaseOn : ByteArray := prog_1_method_14_code
def yX1_leaseOn : MethodName := ⟨RX1, "leaseOn", "(II)I"⟩
abbrev cX1_rentOn : ByteArray := prog_1_method_15_code
def yX1_rentOn : MethodName := ⟨RX1, "rentOn", "(II)I"⟩
abbrev cX1_bill : ByteArray := prog_1_method_16_code
def yX1_bill : MethodName := ⟨RX1, "bill", "(II)I"⟩
abbrev cX1_billByDays : ByteArray := prog_1_method_17_code
def yX1_billByDays : MethodName := ⟨RX1, "billByDays", "(II)I"⟩
abbrev cX1_bills : ByteArray := prog_1_method_18_code
def yX1_bills : MethodName := ⟨RX1, "bills", "(III)J"⟩
abbrev cX1_nextChange : ByteArray := prog_1_method_19_code
def yX1_nextChange : MethodName := ⟨RX1, "nextChange", "(II)I"⟩
abbrev cX1_voids : ByteArray := prog_1_method_20_code
def yX1_voids : MethodName := ⟨RX1, "voids", "(II)I"⟩
abbrev cX1_part : ByteArray := prog_1_method_21_code
def yX1_part : MethodName := ⟨RX1, "part", "(II)I"⟩
abbrev cX1_owners : ByteArray := prog_1_method_22_code
def yX1_owners : MethodName := ⟨RX1, "owners", "(I)I"⟩
abbrev cX1_balance : ByteArray := prog_1_method_23_code
def yX1_balance : MethodName := ⟨RX1, "balance", "(II)I"⟩
abbrev cX1_share : ByteArray := prog_1_method_24_code
def yX1_share : MethodName := ⟨RX1, "share", "(I)D"⟩
abbrev cX1_checkNumber : ByteArray := prog_1_method_25_code
def yX1_checkNumber : MethodName := ⟨RX1, "checkNumber", "(II)V"⟩
abbrev cX1_checkRange : ByteArray := prog_1_method_26_code
def yX1_checkRange : MethodName := ⟨RX1, "checkRange", "(III)V"⟩
abbrev cX1_find : ByteArray := prog_1_method_27_code
def yX1_find : MethodName := ⟨RX1, "find", "(I)LVoidrent$Lease;"⟩
abbrev cX1_daysLet : ByteArray := prog_1_method_28_code
def yX1_daysLet : MethodName := ⟨RX1, "daysLet", "(III)I"⟩
abbrev cX1_allAreas : ByteArray := prog_1_method_29_code
def yX1_allAreas : MethodName := ⟨RX1, "allAreas", "()I"⟩
abbrev cX1_valueAt : ByteArray := prog_1_method_30_code
def yX1_valueAt : MethodName := ⟨RX1, "valueAt", "([II)I"⟩
abbrev cX1_rentFor : ByteArray := prog_1_method_31_code
def yX1_rentFor : MethodName := ⟨RX1, "rentFor", "(LVoidrent$Lease;I)I"⟩
abbrev cX1_highestIndex : ByteArray := prog_1_method_32_code
def yX1_highestIndex : MethodName := ⟨RX1, "highestIndex", "(LVoidrent$Lease;I)I"⟩
abbrev cX1_billFor : ByteArray := prog_1_method_33_code
def yX1_billFor : MethodName := ⟨RX1, "billFor", "(LVoidrent$Lease;I)I"⟩
abbrev cX1_partOf : ByteArray := prog_1_method_34_code
def yX1_partOf : MethodName := ⟨RX1, "partOf", "(LVoidrent$Lease;II)I"⟩
def RX2 : String := "VoidrentModel"
def TX2 : u_T := fun k => match k with
  | _ => ("", "", "", false)
def tyX2 : Nat → FieldType := fun k => match k with
  | _ => .int
abbrev wsX20 : List Cond := u_ws RX2 TX2 0
theorem nmX2 : ∀ a, a < 0 → ∀ b, b < 0 → a ≠ b → (TX2 a).2.1 ≠ (TX2 b).2.1 := by decide +kernel
theorem tyX2_ok : ∀ k, k < 0 → parseFieldDescriptor (TX2 k).2.2.1 = some (tyX2 k) := by decide +kernel
def RJ9 : String := "java/lang/Math"
def TJ9 : u_T := fun k => match k with
  | _ => ("", "", "", false)
def tyJ9 : Nat → FieldType := fun k => match k with
  | _ => .int
abbrev wsJ90 : List Cond := u_ws RJ9 TJ9 0
theorem nmJ9 : ∀ a, a < 0 → ∀ b, b < 0 → a ≠ b → (TJ9 a).2.1 ≠ (TJ9 b).2.1 := by decide +kernel
theorem tyJ9_ok : ∀ k, k < 0 → parseFieldDescriptor (TJ9 k).2.2.1 = some (tyJ9 k) := by decide +kernel
abbrev cJ9_max_7cf53 : ByteArray := prog_9_method_65_code
def yJ9_max_7cf53 : MethodName := ⟨RJ9, "max", "(II)I"⟩
abbrev cJ9_min_7cf53 : ByteArray := prog_9_method_69_code
def yJ9_min_7cf53 : MethodName := ⟨RJ9, "min", "(II)I"⟩
def RJ0 : String := "java/lang/String"
def TJ0 : u_T := fun k => match k with
  | _ => ("", "", "", false)
def tyJ0 : Nat → FieldType := fun k => match k with
  | _ => .int
abbrev wsJ00 : List Cond := u_ws RJ0 TJ0 0
theorem nmJ0 : ∀ a, a < 0 → ∀ b, b < 0 → a ≠ b → (TJ0 a).2.1 ≠ (TJ0 b).2.1 := by decide +kernel
theorem tyJ0_ok : ∀ k, k < 0 → parseFieldDescriptor (TJ0 k).2.2.1 = some (tyJ0 k) := by decide +kernel
def RL : String := "VoidrentLaw"
abbrev cL_draw : ByteArray := method_2_code
def yL_draw : MethodName := ⟨RL, "draw", "([II)I"⟩
abbrev cL_step : ByteArray := method_3_code
def yL_step : MethodName := ⟨RL, "step", "(LVoidrent;[I[I[I[IIII)Z"⟩
abbrev cL_lets : ByteArray := method_4_code
def yL_lets : MethodName := ⟨RL, "lets", "(LVoidrent;[I[I[IIIII)Z"⟩
abbrev cL_pays : ByteArray := method_5_code
def yL_pays : MethodName := ⟨RL, "pays", "(LVoidrent;[I[IIII)Z"⟩
abbrev cL_isLease : ByteArray := method_6_code
def yL_isLease : MethodName := ⟨RL, "isLease", "(LVoidrent;[I[III)Z"⟩
abbrev cL_isYear : ByteArray := method_7_code
def yL_isYear : MethodName := ⟨RL, "isYear", "(LVoidrent;[I[II)Z"⟩
abbrev cL_isCost : ByteArray := method_8_code
def yL_isCost : MethodName := ⟨RL, "isCost", "(LVoidrent;II)Z"⟩
abbrev cL_law : ByteArray := code
def yL_law : MethodName := ⟨RL, "law", "([I)Z"⟩
def wsX0_init : List Cond := .code yX0_init cX0_init 5 none :: ([.methodLink RX0 3 objectInit, .instanceMethod objectInit, .code objectInit ⟨#[0xb1]⟩ 1 none, .fieldLink RX0 9 "Voidrent$Lease" "free" "I", .fieldLink RX0 15 "Voidrent$Lease" "every" "I", .fieldLink RX0 18 "Voidrent$Lease" "cap" "I", .fieldLink RX0 21 "Voidrent$Lease" "prepaid" "I", .fieldLink RX0 24 "Voidrent$Lease" "deposit" "I", .arrayClass .int, .fieldLink RX0 27 "Voidrent$Lease" "stepDays" "[I", .fieldLink RX0 31 "Voidrent$Lease" "stepRents" "[I", .fieldLink RX0 34 "Voidrent$Lease" "steps" "I", .fieldLink RX0 37 "Voidrent$Lease" "unit" "I", .fieldLink RX0 40 "Voidrent$Lease" "from" "I", .fieldLink RX0 43 "Voidrent$Lease" "to" "I", .fieldLink RX0 46 "Voidrent$Lease" "firstRent" "I"] ++ wsX00)
def wsX0_runsOn : List Cond := .code yX0_runsOn cX0_runsOn 2 (some .boolean) :: ([.fieldLink RX0 40 "Voidrent$Lease" "from" "I", .fieldLink RX0 43 "Voidrent$Lease" "to" "I"] ++ wsX00)
def wsX0_isFreeOn : List Cond := .code yX0_isFreeOn cX0_isFreeOn 2 (some .boolean) :: ([.fieldLink RX0 40 "Voidrent$Lease" "from" "I", .fieldLink RX0 9 "Voidrent$Lease" "free" "I"] ++ wsX00)
def wsX0_daysWithin : List Cond := .code yX0_daysWithin cX0_daysWithin 3 (some .int) :: ([.fieldLink RX0 43 "Voidrent$Lease" "to" "I", .methodLink RX0 49 Lib.Math.min.name, .static Lib.Math.min.name, .initialized "java/lang/Math", .code Lib.Math.min.name Lib.Math.min.code 2 (some .int), .fieldLink RX0 40 "Voidrent$Lease" "from" "I", .methodLink RX0 55 Lib.Math.max.name, .static Lib.Math.max.name, .code Lib.Math.max.name Lib.Math.max.code 2 (some .int)] ++ wsX00)
def wsX0_daysIn : List Cond := .code yX0_daysIn cX0_daysIn 3 (some .int) :: ([.methodLink RX0 58 yX0_daysWithin, .instanceMethod yX0_daysWithin, .selects RX0 yX0_daysWithin yX0_daysWithin, .initialized RX0, .code yX0_daysWithin cX0_daysWithin 3 (some .int), .fieldLink RX0 43 "Voidrent$Lease" "to" "I", .methodLink RX0 49 Lib.Math.min.name, .static Lib.Math.min.name, .initialized "java/lang/Math", .code Lib.Math.min.name Lib.Math.min.code 2 (some .int), .fieldLink RX0 40 "Voidrent$Lease" "from" "I", .methodLink RX0 55 Lib.Math.max.name, .static Lib.Math.max.name, .code Lib.Math.max.name Lib.Math.max.code 2 (some .int)] ++ wsX00)
def wsX0_putStep : List Cond := .code yX0_putStep cX0_putStep 4 (some .boolean) :: ([.fieldLink RX0 34 "Voidrent$Lease" "steps" "I", .fieldLink RX0 27 "Voidrent$Lease" "stepDays" "[I", .fieldLink RX0 31 "Voidrent$Lease" "stepRents" "[I", .methodLink RX0 55 Lib.Math.max.name, .static Lib.Math.max.name, .initialized "java/lang/Math", .code Lib.Math.max.name Lib.Math.max.code 2 (some .int)] ++ wsX00)
def wsX0_agreedOn : List Cond := .code yX0_agreedOn cX0_agreedOn 5 (some .int) :: ([.fieldLink RX0 40 "Voidrent$Lease" "from" "I", .fieldLink RX0 46 "Voidrent$Lease" "firstRent" "I", .fieldLink RX0 34 "Voidrent$Lease" "steps" "I", .fieldLink RX0 27 "Voidrent$Lease" "stepDays" "[I", .fieldLink RX0 31 "Voidrent$Lease" "stepRents" "[I"] ++ wsX00)
def wsX0_reviewsUpTo : List Cond := .code yX0_reviewsUpTo cX0_reviewsUpTo 2 (some .int) :: ([.fieldLink RX0 15 "Voidrent$Lease" "every" "I", .fieldLink RX0 40 "Voidrent$Lease" "from" "I"] ++ wsX00)
def wsX0_sooner : List Cond := .code yX0_sooner cX0_sooner 3 (some .int) :: ([])
def wsX0_nextTurn : List Cond := .code yX0_nextTurn cX0_nextTurn 4 (some .int) :: ([.fieldLink RX0 40 "Voidrent$Lease" "from" "I", .fieldLink RX0 9 "Voidrent$Lease" "free" "I", .fieldLink RX0 43 "Voidrent$Lease" "to" "I", .fieldLink RX0 34 "Voidrent$Lease" "steps" "I", .fieldLink RX0 27 "Voidrent$Lease" "stepDays" "[I", .fieldLink RX0 15 "Voidrent$Lease" "every" "I", .methodLink RX0 61 yX0_sooner, .static yX0_sooner, .initialized RX0, .code yX0_sooner cX0_sooner 3 (some .int), .methodLink RX0 65 yX0_reviewsUpTo, .instanceMethod yX0_reviewsUpTo, .selects RX0 yX0_reviewsUpTo yX0_reviewsUpTo, .code yX0_reviewsUpTo cX0_reviewsUpTo 2 (some .int)] ++ wsX00)
def wsX1_init : List Cond := .code yX1_init cX1_init 2 none :: ([.methodLink RX1 1 objectInit, .instanceMethod objectInit, .code objectInit ⟨#[0xb1]⟩ 1 none, .arrayClass .int, .fieldLink RX1 9 "Voidrent" "areas" "[I", .fieldLink RX1 13 "Voidrent" "indices" "[I", .fieldLink RX1 16 "Voidrent" "costs" "[I", .classLink RX1 19 RX0, .fieldLink RX1 21 "Voidrent" "roll" "[LVoidrent$Lease;", .fieldLink RX1 25 "Voidrent" "count" "I"] ++ wsX10)
def wsX1_checkNumber : List Cond := .code yX1_checkNumber cX1_checkNumber 2 none :: ([.classLink RX1 126 "java/lang/IndexOutOfBoundsException", .initialized "java/lang/IndexOutOfBoundsException"] ++ (vx_atS RX1 130 "java/lang/IndexOutOfBoundsException" ["java/lang/RuntimeException", "java/lang/Exception"]).filter goodWord)
def wsX1_checkRange : List Cond := .code yX1_checkRange cX1_checkRange 3 none :: ([.classLink RX1 131 "java/lang/IllegalArgumentException", .initialized "java/lang/IllegalArgumentException"] ++ (vx_atS RX1 135 "java/lang/IllegalArgumentException" ["java/lang/RuntimeException", "java/lang/Exception"]).filter goodWord)
def wsX1_setArea : List Cond := .code yX1_setArea cX1_setArea 4 (some .int) :: ([.fieldLink RX1 9 "Voidrent" "areas" "[I", .methodLink RX1 29 yX1_checkNumber, .static yX1_checkNumber, .initialized RX1, .code yX1_checkNumber cX1_checkNumber 2 none, .classLink RX1 126 "java/lang/IndexOutOfBoundsException", .initialized "java/lang/IndexOutOfBoundsException", .methodLink RX1 33 yX1_checkRange, .static yX1_checkRange, .code yX1_checkRange cX1_checkRange 3 none, .classLink RX1 131 "java/lang/IllegalArgumentException", .initialized "java/lang/IllegalArgumentException"] ++ wsX10 ++ (vx_atS RX1 130 "java/lang/IndexOutOfBoundsException" ["java/lang/RuntimeException", "java/lang/Exception"]).filter goodWord ++ (vx_atS RX1 135 "java/lang/IllegalArgumentException" ["java/lang/RuntimeException", "java/lang/Exception"]).filter goodWord)
def wsX1_setIndex : List Cond := .code yX1_setIndex cX1_setIndex 4 (some .int) :: ([.fieldLink RX1 13 "Voidrent" "indices" "[I", .methodLink RX1 29 yX1_checkNumber, .static yX1_checkNumber, .initialized RX1, .code yX1_checkNumber cX1_checkNumber 2 none, .classLink RX1 126 "java/lang/IndexOutOfBoundsException", .initialized "java/lang/IndexOutOfBoundsException", .methodLink RX1 33 yX1_checkRange, .static yX1_checkRange, .code yX1_checkRange cX1_checkRange 3 none, .classLink RX1 131 "java/lang/IllegalArgumentException", .initialized "java/lang/IllegalArgumentException"] ++ wsX10 ++ (vx_atS RX1 130 "java/lang/IndexOutOfBoundsException" ["java/lang/RuntimeException", "java/lang/Exception"]).filter goodWord ++ (vx_atS RX1 135 "java/lang/IllegalArgumentException" ["java/lang/RuntimeException", "java/lang/Exception"]).filter goodWord)
def wsX1_setCost : List Cond := .code yX1_setCost cX1_setCost 4 (some .int) :: ([.fieldLink RX1 16 "Voidrent" "costs" "[I", .constant RX1 37 (999999), .methodLink RX1 29 yX1_checkNumber, .static yX1_checkNumber, .initialized RX1, .code yX1_checkNumber cX1_checkNumber 2 none, .classLink RX1 126 "java/lang/IndexOutOfBoundsException", .initialized "java/lang/IndexOutOfBoundsException", .methodLink RX1 33 yX1_checkRange, .static yX1_checkRange, .code yX1_checkRange cX1_checkRange 3 none, .classLink RX1 131 "java/lang/IllegalArgumentException", .initialized "java/lang/IllegalArgumentException"] ++ wsX10 ++ (vx_atS RX1 130 "java/lang/IndexOutOfBoundsException" ["java/lang/RuntimeException", "java/lang/Exception"]).filter goodWord ++ (vx_atS RX1 135 "java/lang/IllegalArgumentException" ["java/lang/RuntimeException", "java/lang/Exception"]).filter goodWord)
def wsX1_daysLet : List Cond := .code yX1_daysLet cX1_daysLet 9 (some .int) :: ([.fieldLink RX1 21 "Voidrent" "roll" "[LVoidrent$Lease;", .methodLink RX1 138 yX0_daysWithin, .instanceMethod yX0_daysWithin, .selects RX0 yX0_daysWithin yX0_daysWithin, .initialized RX0, .code yX0_daysWithin cX0_daysWithin 3 (some .int), .fieldLink RX0 43 "Voidrent$Lease" "to" "I", .methodLink RX0 49 Lib.Math.min.name, .static Lib.Math.min.name, .initialized "java/lang/Math", .code Lib.Math.min.name Lib.Math.min.code 2 (some .int), .fieldLink RX0 40 "Voidrent$Lease" "from" "I", .methodLink RX0 55 Lib.Math.max.name, .static Lib.Math.max.name, .code Lib.Math.max.name Lib.Math.max.code 2 (some .int)] ++ wsX10 ++ wsX00)
def wsX1_let_r1 : List Cond := [Cond.classLink RX1 39 "java/lang/IllegalStateException", Cond.initialized "java/lang/IllegalStateException", Cond.fieldLink RX1 9 "Voidrent" "areas" "[I", Cond.constant RX1 38 (99999), Cond.fieldLink RX1 25 "Voidrent" "count" "I", Cond.fieldLink RX1 21 "Voidrent" "roll" "[LVoidrent$Lease;", Cond.classLink RX1 19 RX0, Cond.instantiable RX0 12, Cond.initialized RX0, Cond.methodLink RX1 29 yX1_checkNumber, Cond.static yX1_checkNumber, Cond.initialized RX1, Cond.code yX1_checkNumber cX1_checkNumber 2 none, Cond.classLink RX1 126 "java/lang/IndexOutOfBoundsException", Cond.initialized "java/lang/IndexOutOfBoundsException", Cond.methodLink RX1 33 yX1_checkRange, Cond.static yX1_checkRange, Cond.code yX1_checkRange cX1_checkRange 3 none, Cond.classLink RX1 131 "java/lang/IllegalArgumentException", Cond.initialized "java/lang/IllegalArgumentException", Cond.methodLink RX1 46 yX1_daysLet, Cond.instanceMethod yX1_daysLet, Cond.selects RX1 yX1_daysLet yX1_daysLet, Cond.code yX1_daysLet cX1_daysLet 9 (some .int)]
def wsX1_let_r2 : List Cond := [Cond.methodLink RX1 138 yX0_daysWithin, Cond.instanceMethod yX0_daysWithin, Cond.selects RX0 yX0_daysWithin yX0_daysWithin, Cond.code yX0_daysWithin cX0_daysWithin 3 (some .int), Cond.fieldLink RX0 43 "Voidrent$Lease" "to" "I", Cond.methodLink RX0 49 Lib.Math.min.name, Cond.static Lib.Math.min.name, Cond.initialized "java/lang/Math", Cond.code Lib.Math.min.name Lib.Math.min.code 2 (some .int), Cond.fieldLink RX0 40 "Voidrent$Lease" "from" "I", Cond.methodLink RX0 55 Lib.Math.max.name, Cond.static Lib.Math.max.name, Cond.code Lib.Math.max.name Lib.Math.max.code 2 (some .int), Cond.methodLink RX1 52 yX0_init, Cond.instanceMethod yX0_init, Cond.code yX0_init cX0_init 5 none, Cond.methodLink RX0 3 objectInit, Cond.instanceMethod objectInit, Cond.code objectInit ⟨#[0xb1]⟩ 1 none, Cond.fieldLink RX0 9 "Voidrent$Lease" "free" "I", Cond.fieldLink RX0 15 "Voidrent$Lease" "every" "I", Cond.fieldLink RX0 18 "Voidrent$Lease" "cap" "I", Cond.fieldLink RX0 21 "Voidrent$Lease" "prepaid" "I", Cond.fieldLink RX0 24 "Voidrent$Lease" "deposit" "I"]
def wsX1_let_r3 : List Cond := [Cond.arrayClass .int, Cond.fieldLink RX0 27 "Voidrent$Lease" "stepDays" "[I", Cond.fieldLink RX0 31 "Voidrent$Lease" "stepRents" "[I", Cond.fieldLink RX0 34 "Voidrent$Lease" "steps" "I", Cond.fieldLink RX0 37 "Voidrent$Lease" "unit" "I", Cond.fieldLink RX0 46 "Voidrent$Lease" "firstRent" "I"]
def wsX1_let : List Cond := .code yX1_let cX1_let 6 (some .int) :: ((wsX1_let_r1 ++ (wsX1_let_r2 ++ wsX1_let_r3)) ++ wsX10 ++ wsX00 ++ (vx_atS RX1 43 "java/lang/IllegalStateException" ["java/lang/RuntimeException", "java/lang/Exception"]).filter goodWord ++ (vx_atS RX1 130 "java/lang/IndexOutOfBoundsException" ["java/lang/RuntimeException", "java/lang/Exception"]).filter goodWord ++ (vx_atS RX1 135 "java/lang/IllegalArgumentException" ["java/lang/RuntimeException", "java/lang/Exception"]).filter goodWord)
def wsX1_find : List Cond := .code yX1_find cX1_find 3 (some (.object "Voidrent$Lease")) :: ([.classLink RX1 126 "java/lang/IndexOutOfBoundsException", .initialized "java/lang/IndexOutOfBoundsException", .fieldLink RX1 21 "Voidrent" "roll" "[LVoidrent$Lease;", .methodLink RX1 29 yX1_checkNumber, .static yX1_checkNumber, .initialized RX1, .code yX1_checkNumber cX1_checkNumber 2 none] ++ wsX10 ++ (vx_atS RX1 130 "java/lang/IndexOutOfBoundsException" ["java/lang/RuntimeException", "java/lang/Exception"]).filter goodWord)
def wsX1_end : List Cond := .code yX1_end cX1_end 5 (some .int) :: ([.methodLink RX1 55 yX1_find, .instanceMethod yX1_find, .selects RX1 yX1_find yX1_find, .initialized RX1, .code yX1_find cX1_find 3 (some (.object "Voidrent$Lease")), .classLink RX1 126 "java/lang/IndexOutOfBoundsException", .initialized "java/lang/IndexOutOfBoundsException", .fieldLink RX1 21 "Voidrent" "roll" "[LVoidrent$Lease;", .methodLink RX1 29 yX1_checkNumber, .static yX1_checkNumber, .code yX1_checkNumber cX1_checkNumber 2 none, .methodLink RX1 33 yX1_checkRange, .static yX1_checkRange, .code yX1_checkRange cX1_checkRange 3 none, .classLink RX1 131 "java/lang/IllegalArgumentException", .initialized "java/lang/IllegalArgumentException"] ++ wsX00 ++ wsX10 ++ (vx_atS RX1 130 "java/lang/IndexOutOfBoundsException" ["java/lang/RuntimeException", "java/lang/Exception"]).filter goodWord ++ (vx_atS RX1 135 "java/lang/IllegalArgumentException" ["java/lang/RuntimeException", "java/lang/Exception"]).filter goodWord)
def wsX1_step_r1 : List Cond := [Cond.classLink RX1 39 "java/lang/IllegalStateException", Cond.initialized "java/lang/IllegalStateException", Cond.constant RX1 38 (99999), Cond.methodLink RX1 55 yX1_find, Cond.instanceMethod yX1_find, Cond.selects RX1 yX1_find yX1_find, Cond.initialized RX1, Cond.code yX1_find cX1_find 3 (some (.object "Voidrent$Lease")), Cond.classLink RX1 126 "java/lang/IndexOutOfBoundsException", Cond.initialized "java/lang/IndexOutOfBoundsException", Cond.fieldLink RX1 21 "Voidrent" "roll" "[LVoidrent$Lease;", Cond.methodLink RX1 29 yX1_checkNumber, Cond.static yX1_checkNumber, Cond.code yX1_checkNumber cX1_checkNumber 2 none, Cond.methodLink RX1 33 yX1_checkRange, Cond.static yX1_checkRange, Cond.code yX1_checkRange cX1_checkRange 3 none, Cond.classLink RX1 131 "java/lang/IllegalArgumentException", Cond.initialized "java/lang/IllegalArgumentException", Cond.methodLink RX1 65 yX0_putStep, Cond.instanceMethod yX0_putStep, Cond.selects RX0 yX0_putStep yX0_putStep, Cond.initialized RX0, Cond.code yX0_putStep cX0_putStep 4 (some .boolean)]
def wsX1_step_r2 : List Cond := [Cond.fieldLink RX0 34 "Voidrent$Lease" "steps" "I", Cond.fieldLink RX0 27 "Voidrent$Lease" "stepDays" "[I", Cond.fieldLink RX0 31 "Voidrent$Lease" "stepRents" "[I", Cond.methodLink RX0 55 Lib.Math.max.name, Cond.static Lib.Math.max.name, Cond.initialized "java/lang/Math", Cond.code Lib.Math.max.name Lib.Math.max.code 2 (some .int)]
def wsX1_step : List Cond := .code yX1_step cX1_step 5 (some .int) :: ((wsX1_step_r1 ++ wsX1_step_r2) ++ wsX00 ++ wsX10 ++ (vx_atS RX1 43 "java/lang/IllegalStateException" ["java/lang/RuntimeException", "java/lang/Exception"]).filter goodWord ++ (vx_atS RX1 130 "java/lang/IndexOutOfBoundsException" ["java/lang/RuntimeException", "java/lang/Exception"]).filter goodWord ++ (vx_atS RX1 135 "java/lang/IllegalArgumentException" ["java/lang/RuntimeException", "java/lang/Exception"]).filter goodWord)
def wsX1_setTerms : List Cond := .code yX1_setTerms cX1_setTerms 5 none :: ([.methodLink RX1 55 yX1_find, .instanceMethod yX1_find, .selects RX1 yX1_find yX1_find, .initialized RX1, .code yX1_find cX1_find 3 (some (.object "Voidrent$Lease")), .classLink RX1 126 "java/lang/IndexOutOfBoundsException", .initialized "java/lang/IndexOutOfBoundsException", .fieldLink RX1 21 "Voidrent" "roll" "[LVoidrent$Lease;", .methodLink RX1 29 yX1_checkNumber, .static yX1_checkNumber, .code yX1_checkNumber cX1_checkNumber 2 none, .methodLink RX1 33 yX1_checkRange, .static yX1_checkRange, .code yX1_checkRange cX1_checkRange 3 none, .classLink RX1 131 "java/lang/IllegalArgumentException", .initialized "java/lang/IllegalArgumentException"] ++ wsX00 ++ wsX10 ++ (vx_atS RX1 130 "java/lang/IndexOutOfBoundsException" ["java/lang/RuntimeException", "java/lang/Exception"]).filter goodWord ++ (vx_atS RX1 135 "java/lang/IllegalArgumentException" ["java/lang/RuntimeException", "java/lang/Exception"]).filter goodWord)
def wsX1_setService : List Cond := .code yX1_setService cX1_setService 5 none :: ([.constant RX1 37 (999999), .methodLink RX1 55 yX1_find, .instanceMethod yX1_find, .selects RX1 yX1_find yX1_find, .initialized RX1, .code yX1_find cX1_find 3 (some (.object "Voidrent$Lease")), .classLink RX1 126 "java/lang/IndexOutOfBoundsException", .initialized "java/lang/IndexOutOfBoundsException", .fieldLink RX1 21 "Voidrent" "roll" "[LVoidrent$Lease;", .methodLink RX1 29 yX1_checkNumber, .static yX1_checkNumber, .code yX1_checkNumber cX1_checkNumber 2 none, .methodLink RX1 33 yX1_checkRange, .static yX1_checkRange, .code yX1_checkRange cX1_checkRange 3 none, .classLink RX1 131 "java/lang/IllegalArgumentException", .initialized "java/lang/IllegalArgumentException"] ++ wsX00 ++ wsX10 ++ (vx_atS RX1 130 "java/lang/IndexOutOfBoundsException" ["java/lang/RuntimeException", "java/lang/Exception"]).filter goodWord ++ (vx_atS RX1 135 "java/lang/IllegalArgumentException" ["java/lang/RuntimeException", "java/lang/Exception"]).filter goodWord)
def wsX1_valueAt : List Cond := .code yX1_valueAt cX1_valueAt 2 (some .int) :: ([])
def wsX1_highestIndex : List Cond := .code yX1_highestIndex cX1_highestIndex 7 (some .int) :: ([.fieldLink RX1 13 "Voidrent" "indices" "[I", .methodLink RX1 93 Lib.Math.max.name, .static Lib.Math.max.name, .initialized "java/lang/Math", .code Lib.Math.max.name Lib.Math.max.code 2 (some .int), .methodLink RX1 154 yX0_reviewsUpTo, .instanceMethod yX0_reviewsUpTo, .selects RX0 yX0_reviewsUpTo yX0_reviewsUpTo, .initialized RX0, .code yX0_reviewsUpTo cX0_reviewsUpTo 2 (some .int), .fieldLink RX0 15 "Voidrent$Lease" "every" "I", .fieldLink RX0 40 "Voidrent$Lease" "from" "I", .methodLink RX1 147 yX1_valueAt, .static yX1_valueAt, .initialized RX1, .code yX1_valueAt cX1_valueAt 2 (some .int)] ++ wsX00 ++ wsX10)
def wsX1_rentFor_r1 : List Cond := [Cond.fieldLink RX1 13 "Voidrent" "indices" "[I", Cond.methodLink RX1 93 Lib.Math.max.name, Cond.static Lib.Math.max.name, Cond.initialized "java/lang/Math", Cond.code Lib.Math.max.name Lib.Math.max.code 2 (some .int), Cond.methodLink RX1 104 yX0_runsOn, Cond.instanceMethod yX0_runsOn, Cond.selects RX0 yX0_runsOn yX0_runsOn, Cond.initialized RX0, Cond.code yX0_runsOn cX0_runsOn 2 (some .boolean), Cond.fieldLink RX0 40 "Voidrent$Lease" "from" "I", Cond.fieldLink RX0 43 "Voidrent$Lease" "to" "I", Cond.methodLink RX1 141 yX0_isFreeOn, Cond.instanceMethod yX0_isFreeOn, Cond.selects RX0 yX0_isFreeOn yX0_isFreeOn, Cond.code yX0_isFreeOn cX0_isFreeOn 2 (some .boolean), Cond.fieldLink RX0 9 "Voidrent$Lease" "free" "I", Cond.methodLink RX1 144 yX0_agreedOn, Cond.instanceMethod yX0_agreedOn, Cond.selects RX0 yX0_agreedOn yX0_agreedOn, Cond.code yX0_agreedOn cX0_agreedOn 5 (some .int), Cond.fieldLink RX0 46 "Voidrent$Lease" "firstRent" "I", Cond.fieldLink RX0 34 "Voidrent$Lease" "steps" "I", Cond.fieldLink RX0 27 "Voidrent$Lease" "stepDays" "[I"]
def wsX1_rentFor_r2 : List Cond := [Cond.fieldLink RX0 31 "Voidrent$Lease" "stepRents" "[I", Cond.methodLink RX1 147 yX1_valueAt, Cond.static yX1_valueAt, Cond.initialized RX1, Cond.code yX1_valueAt cX1_valueAt 2 (some .int), Cond.methodLink RX1 151 yX1_highestIndex, Cond.instanceMethod yX1_highestIndex, Cond.selects RX1 yX1_highestIndex yX1_highestIndex, Cond.code yX1_highestIndex cX1_highestIndex 7 (some .int), Cond.methodLink RX1 154 yX0_reviewsUpTo, Cond.instanceMethod yX0_reviewsUpTo, Cond.selects RX0 yX0_reviewsUpTo yX0_reviewsUpTo, Cond.code yX0_reviewsUpTo cX0_reviewsUpTo 2 (some .int), Cond.fieldLink RX0 15 "Voidrent$Lease" "every" "I"]
def wsX1_rentFor : List Cond := .code yX1_rentFor cX1_rentFor 5 (some .int) :: ((wsX1_rentFor_r1 ++ wsX1_rentFor_r2) ++ wsX10 ++ wsX00)
def wsX1_topUp_r1 : List Cond := [Cond.methodLink RX1 93 Lib.Math.max.name, Cond.static Lib.Math.max.name, Cond.initialized "java/lang/Math", Cond.code Lib.Math.max.name Lib.Math.max.code 2 (some .int), Cond.methodLink RX1 55 yX1_find, Cond.instanceMethod yX1_find, Cond.selects RX1 yX1_find yX1_find, Cond.initialized RX1, Cond.code yX1_find cX1_find 3 (some (.object "Voidrent$Lease")), Cond.classLink RX1 126 "java/lang/IndexOutOfBoundsException", Cond.initialized "java/lang/IndexOutOfBoundsException", Cond.fieldLink RX1 21 "Voidrent" "roll" "[LVoidrent$Lease;", Cond.methodLink RX1 29 yX1_checkNumber, Cond.static yX1_checkNumber, Cond.code yX1_checkNumber cX1_checkNumber 2 none, Cond.methodLink RX1 33 yX1_checkRange, Cond.static yX1_checkRange, Cond.code yX1_checkRange cX1_checkRange 3 none, Cond.classLink RX1 131 "java/lang/IllegalArgumentException", Cond.initialized "java/lang/IllegalArgumentException", Cond.methodLink RX1 86 yX1_rentFor, Cond.instanceMethod yX1_rentFor, Cond.selects RX1 yX1_rentFor yX1_rentFor, Cond.code yX1_rentFor cX1_rentFor 5 (some .int)]
def wsX1_topUp_r2 : List Cond := [Cond.fieldLink RX1 13 "Voidrent" "indices" "[I", Cond.methodLink RX1 104 yX0_runsOn, Cond.instanceMethod yX0_runsOn, Cond.selects RX0 yX0_runsOn yX0_runsOn, Cond.initialized RX0, Cond.code yX0_runsOn cX0_runsOn 2 (some .boolean), Cond.fieldLink RX0 40 "Voidrent$Lease" "from" "I", Cond.fieldLink RX0 43 "Voidrent$Lease" "to" "I", Cond.methodLink RX1 141 yX0_isFreeOn, Cond.instanceMethod yX0_isFreeOn, Cond.selects RX0 yX0_isFreeOn yX0_isFreeOn, Cond.code yX0_isFreeOn cX0_isFreeOn 2 (some .boolean), Cond.fieldLink RX0 9 "Voidrent$Lease" "free" "I", Cond.methodLink RX1 144 yX0_agreedOn, Cond.instanceMethod yX0_agreedOn, Cond.selects RX0 yX0_agreedOn yX0_agreedOn, Cond.code yX0_agreedOn cX0_agreedOn 5 (some .int), Cond.fieldLink RX0 46 "Voidrent$Lease" "firstRent" "I", Cond.fieldLink RX0 34 "Voidrent$Lease" "steps" "I", Cond.fieldLink RX0 27 "Voidrent$Lease" "stepDays" "[I", Cond.fieldLink RX0 31 "Voidrent$Lease" "stepRents" "[I", Cond.methodLink RX1 147 yX1_valueAt, Cond.static yX1_valueAt, Cond.code yX1_valueAt cX1_valueAt 2 (some .int)]
def wsX1_topUp_r3 : List Cond := [Cond.methodLink RX1 151 yX1_highestIndex, Cond.instanceMethod yX1_highestIndex, Cond.selects RX1 yX1_highestIndex yX1_highestIndex, Cond.code yX1_highestIndex cX1_highestIndex 7 (some .int), Cond.methodLink RX1 154 yX0_reviewsUpTo, Cond.instanceMethod yX0_reviewsUpTo, Cond.selects RX0 yX0_reviewsUpTo yX0_reviewsUpTo, Cond.code yX0_reviewsUpTo cX0_reviewsUpTo 2 (some .int), Cond.fieldLink RX0 15 "Voidrent$Lease" "every" "I"]
def wsX1_topUp : List Cond := .code yX1_topUp cX1_topUp 6 (some .int) :: ((wsX1_topUp_r1 ++ (wsX1_topUp_r2 ++ wsX1_topUp_r3)) ++ wsX00 ++ wsX10 ++ (vx_atS RX1 130 "java/lang/IndexOutOfBoundsException" ["java/lang/RuntimeException", "java/lang/Exception"]).filter goodWord ++ (vx_atS RX1 135 "java/lang/IllegalArgumentException" ["java/lang/RuntimeException", "java/lang/Exception"]).filter goodWord)
def wsX1_draw : List Cond := .code yX1_draw cX1_draw 4 (some .int) :: ([.classLink RX1 39 "java/lang/IllegalStateException", .initialized "java/lang/IllegalStateException", .constant RX1 37 (999999), .methodLink RX1 55 yX1_find, .instanceMethod yX1_find, .selects RX1 yX1_find yX1_find, .initialized RX1, .code yX1_find cX1_find 3 (some (.object "Voidrent$Lease")), .classLink RX1 126 "java/lang/IndexOutOfBoundsException", .initialized "java/lang/IndexOutOfBoundsException", .fieldLink RX1 21 "Voidrent" "roll" "[LVoidrent$Lease;", .methodLink RX1 29 yX1_checkNumber, .static yX1_checkNumber, .code yX1_checkNumber cX1_checkNumber 2 none, .methodLink RX1 33 yX1_checkRange, .static yX1_checkRange, .code yX1_checkRange cX1_checkRange 3 none, .classLink RX1 131 "java/lang/IllegalArgumentException", .initialized "java/lang/IllegalArgumentException"] ++ wsX00 ++ wsX10 ++ (vx_atS RX1 43 "java/lang/IllegalStateException" ["java/lang/RuntimeException", "java/lang/Exception"]).filter goodWord ++ (vx_atS RX1 130 "java/lang/IndexOutOfBoundsException" ["java/lang/RuntimeException", "java/lang/Exception"]).filter goodWord ++ (vx_atS RX1 135 "java/lang/IllegalArgumentException" ["java/lang/RuntimeException", "java/lang/Exception"]).filter goodWord)
def wsX1_held : List Cond := .code yX1_held cX1_held 2 (some .int) :: ([.methodLink RX1 55 yX1_find, .instanceMethod yX1_find, .selects RX1 yX1_find yX1_find, .initialized RX1, .code yX1_find cX1_find 3 (some (.object "Voidrent$Lease")), .classLink RX1 126 "java/lang/IndexOutOfBoundsException", .initialized "java/lang/IndexOutOfBoundsException", .fieldLink RX1 21 "Voidrent" "roll" "[LVoidrent$Lease;", .methodLink RX1 29 yX1_checkNumber, .static yX1_checkNumber, .code yX1_checkNumber cX1_checkNumber 2 none] ++ wsX00 ++ wsX10 ++ (vx_atS RX1 130 "java/lang/IndexOutOfBoundsException" ["java/lang/RuntimeException", "java/lang/Exception"]).filter goodWord)
def wsX1_leases : List Cond := .code yX1_leases cX1_leases 1 (some .int) :: ([.fieldLink RX1 25 "Voidrent" "count" "I"] ++ wsX10)
def wsX1_leaseOn : List Cond := .code yX1_leaseOn cX1_leaseOn 5 (some .int) :: ([.fieldLink RX1 9 "Voidrent" "areas" "[I", .fieldLink RX1 21 "Voidrent" "roll" "[LVoidrent$Lease;", .methodLink RX1 29 yX1_checkNumber, .static yX1_checkNumber, .initialized RX1, .code yX1_checkNumber cX1_checkNumber 2 none, .classLink RX1 126 "java/lang/IndexOutOfBoundsException", .initialized "java/lang/IndexOutOfBoundsException", .methodLink RX1 104 yX0_runsOn, .instanceMethod yX0_runsOn, .selects RX0 yX0_runsOn yX0_runsOn, .initialized RX0, .code yX0_runsOn cX0_runsOn 2 (some .boolean), .fieldLink RX0 40 "Voidrent$Lease" "from" "I", .fieldLink RX0 43 "Voidrent$Lease" "to" "I"] ++ wsX10 ++ wsX00 ++ (vx_atS RX1 130 "java/lang/IndexOutOfBoundsException" ["java/lang/RuntimeException", "java/lang/Exception"]).filter goodWord)
def wsX1_rentOn_r1 : List Cond := [Cond.methodLink RX1 55 yX1_find, Cond.instanceMethod yX1_find, Cond.selects RX1 yX1_find yX1_find, Cond.initialized RX1, Cond.code yX1_find cX1_find 3 (some (.object "Voidrent$Lease")), Cond.classLink RX1 126 "java/lang/IndexOutOfBoundsException", Cond.initialized "java/lang/IndexOutOfBoundsException", Cond.fieldLink RX1 21 "Voidrent" "roll" "[LVoidrent$Lease;", Cond.methodLink RX1 29 yX1_checkNumber, Cond.static yX1_checkNumber, Cond.code yX1_checkNumber cX1_checkNumber 2 none, Cond.methodLink RX1 86 yX1_rentFor, Cond.instanceMethod yX1_rentFor, Cond.selects RX1 yX1_rentFor yX1_rentFor, Cond.code yX1_rentFor cX1_rentFor 5 (some .int), Cond.fieldLink RX1 13 "Voidrent" "indices" "[I", Cond.methodLink RX1 93 Lib.Math.max.name, Cond.static Lib.Math.max.name, Cond.initialized "java/lang/Math", Cond.code Lib.Math.max.name Lib.Math.max.code 2 (some .int), Cond.methodLink RX1 104 yX0_runsOn, Cond.instanceMethod yX0_runsOn, Cond.selects RX0 yX0_runsOn yX0_runsOn, Cond.initialized RX0]
def wsX1_rentOn_r2 : List Cond := [Cond.code yX0_runsOn cX0_runsOn 2 (some .boolean), Cond.fieldLink RX0 40 "Voidrent$Lease" "from" "I", Cond.fieldLink RX0 43 "Voidrent$Lease" "to" "I", Cond.methodLink RX1 141 yX0_isFreeOn, Cond.instanceMethod yX0_isFreeOn, Cond.selects RX0 yX0_isFreeOn yX0_isFreeOn, Cond.code yX0_isFreeOn cX0_isFreeOn 2 (some .boolean), Cond.fieldLink RX0 9 "Voidrent$Lease" "free" "I", Cond.methodLink RX1 144 yX0_agreedOn, Cond.instanceMethod yX0_agreedOn, Cond.selects RX0 yX0_agreedOn yX0_agreedOn, Cond.code yX0_agreedOn cX0_agreedOn 5 (some .int), Cond.fieldLink RX0 46 "Voidrent$Lease" "firstRent" "I", Cond.fieldLink RX0 34 "Voidrent$Lease" "steps" "I", Cond.fieldLink RX0 27 "Voidrent$Lease" "stepDays" "[I", Cond.fieldLink RX0 31 "Voidrent$Lease" "stepRents" "[I", Cond.methodLink RX1 147 yX1_valueAt, Cond.static yX1_valueAt, Cond.code yX1_valueAt cX1_valueAt 2 (some .int), Cond.methodLink RX1 151 yX1_highestIndex, Cond.instanceMethod yX1_highestIndex, Cond.selects RX1 yX1_highestIndex yX1_highestIndex, Cond.code yX1_highestIndex cX1_highestIndex 7 (some .int), Cond.methodLink RX1 154 yX0_reviewsUpTo]
def wsX1_rentOn_r3 : List Cond := [Cond.instanceMethod yX0_reviewsUpTo, Cond.selects RX0 yX0_reviewsUpTo yX0_reviewsUpTo, Cond.code yX0_reviewsUpTo cX0_reviewsUpTo 2 (some .int), Cond.fieldLink RX0 15 "Voidrent$Lease" "every" "I"]
def wsX1_rentOn : List Cond := .code yX1_rentOn cX1_rentOn 4 (some .int) :: ((wsX1_rentOn_r1 ++ (wsX1_rentOn_r2 ++ wsX1_rentOn_r3)) ++ wsX10 ++ wsX00 ++ (vx_atS RX1 130 "java/lang/IndexOutOfBoundsException" ["java/lang/RuntimeException", "java/lang/Exception"]).filter goodWord)
def wsX1_billFor_r1 : List Cond := [Cond.methodLink RX1 157 Lib.Math.min.name, Cond.static Lib.Math.min.name, Cond.initialized "java/lang/Math", Cond.code Lib.Math.min.name Lib.Math.min.code 2 (some .int), Cond.methodLink RX1 111 yX0_nextTurn, Cond.instanceMethod yX0_nextTurn, Cond.selects RX0 yX0_nextTurn yX0_nextTurn, Cond.initialized RX0, Cond.code yX0_nextTurn cX0_nextTurn 4 (some .int), Cond.fieldLink RX0 40 "Voidrent$Lease" "from" "I", Cond.fieldLink RX0 9 "Voidrent$Lease" "free" "I", Cond.fieldLink RX0 43 "Voidrent$Lease" "to" "I", Cond.fieldLink RX0 34 "Voidrent$Lease" "steps" "I", Cond.fieldLink RX0 27 "Voidrent$Lease" "stepDays" "[I", Cond.fieldLink RX0 15 "Voidrent$Lease" "every" "I", Cond.methodLink RX0 61 yX0_sooner, Cond.static yX0_sooner, Cond.code yX0_sooner cX0_sooner 3 (some .int), Cond.methodLink RX0 65 yX0_reviewsUpTo, Cond.instanceMethod yX0_reviewsUpTo, Cond.selects RX0 yX0_reviewsUpTo yX0_reviewsUpTo, Cond.code yX0_reviewsUpTo cX0_reviewsUpTo 2 (some .int), Cond.methodLink RX1 86 yX1_rentFor, Cond.instanceMethod yX1_rentFor]
def wsX1_billFor_r2 : List Cond := [Cond.selects RX1 yX1_rentFor yX1_rentFor, Cond.initialized RX1, Cond.code yX1_rentFor cX1_rentFor 5 (some .int), Cond.fieldLink RX1 13 "Voidrent" "indices" "[I", Cond.methodLink RX1 93 Lib.Math.max.name, Cond.static Lib.Math.max.name, Cond.code Lib.Math.max.name Lib.Math.max.code 2 (some .int), Cond.methodLink RX1 104 yX0_runsOn, Cond.instanceMethod yX0_runsOn, Cond.selects RX0 yX0_runsOn yX0_runsOn, Cond.code yX0_runsOn cX0_runsOn 2 (some .boolean), Cond.methodLink RX1 141 yX0_isFreeOn, Cond.instanceMethod yX0_isFreeOn, Cond.selects RX0 yX0_isFreeOn yX0_isFreeOn, Cond.code yX0_isFreeOn cX0_isFreeOn 2 (some .boolean), Cond.methodLink RX1 144 yX0_agreedOn, Cond.instanceMethod yX0_agreedOn, Cond.selects RX0 yX0_agreedOn yX0_agreedOn, Cond.code yX0_agreedOn cX0_agreedOn 5 (some .int), Cond.fieldLink RX0 46 "Voidrent$Lease" "firstRent" "I", Cond.fieldLink RX0 31 "Voidrent$Lease" "stepRents" "[I", Cond.methodLink RX1 147 yX1_valueAt, Cond.static yX1_valueAt, Cond.code yX1_valueAt cX1_valueAt 2 (some .int)]
def wsX1_billFor_r3 : List Cond := [Cond.methodLink RX1 151 yX1_highestIndex, Cond.instanceMethod yX1_highestIndex, Cond.selects RX1 yX1_highestIndex yX1_highestIndex, Cond.code yX1_highestIndex cX1_highestIndex 7 (some .int), Cond.methodLink RX1 154 yX0_reviewsUpTo]
def wsX1_billFor : List Cond := .code yX1_billFor cX1_billFor 8 (some .int) :: ((wsX1_billFor_r1 ++ (wsX1_billFor_r2 ++ wsX1_billFor_r3)) ++ wsX00 ++ wsX10)
def wsX1_bill_r1 : List Cond := [Cond.methodLink RX1 55 yX1_find, Cond.instanceMethod yX1_find, Cond.selects RX1 yX1_find yX1_find, Cond.initialized RX1, Cond.code yX1_find cX1_find 3 (some (.object "Voidrent$Lease")), Cond.classLink RX1 126 "java/lang/IndexOutOfBoundsException", Cond.initialized "java/lang/IndexOutOfBoundsException", Cond.fieldLink RX1 21 "Voidrent" "roll" "[LVoidrent$Lease;", Cond.methodLink RX1 29 yX1_checkNumber, Cond.static yX1_checkNumber, Cond.code yX1_checkNumber cX1_checkNumber 2 none, Cond.methodLink RX1 108 yX1_billFor, Cond.instanceMethod yX1_billFor, Cond.selects RX1 yX1_billFor yX1_billFor, Cond.code yX1_billFor cX1_billFor 8 (some .int), Cond.methodLink RX1 157 Lib.Math.min.name, Cond.static Lib.Math.min.name, Cond.initialized "java/lang/Math", Cond.code Lib.Math.min.name Lib.Math.min.code 2 (some .int), Cond.methodLink RX1 111 yX0_nextTurn, Cond.instanceMethod yX0_nextTurn, Cond.selects RX0 yX0_nextTurn yX0_nextTurn, Cond.initialized RX0, Cond.code yX0_nextTurn cX0_nextTurn 4 (some .int)]
def wsX1_bill_r2 : List Cond := [Cond.fieldLink RX0 40 "Voidrent$Lease" "from" "I", Cond.fieldLink RX0 9 "Voidrent$Lease" "free" "I", Cond.fieldLink RX0 43 "Voidrent$Lease" "to" "I", Cond.fieldLink RX0 34 "Voidrent$Lease" "steps" "I", Cond.fieldLink RX0 27 "Voidrent$Lease" "stepDays" "[I", Cond.fieldLink RX0 15 "Voidrent$Lease" "every" "I", Cond.methodLink RX0 61 yX0_sooner, Cond.static yX0_sooner, Cond.code yX0_sooner cX0_sooner 3 (some .int), Cond.methodLink RX0 65 yX0_reviewsUpTo, Cond.instanceMethod yX0_reviewsUpTo, Cond.selects RX0 yX0_reviewsUpTo yX0_reviewsUpTo, Cond.code yX0_reviewsUpTo cX0_reviewsUpTo 2 (some .int), Cond.methodLink RX1 86 yX1_rentFor, Cond.instanceMethod yX1_rentFor, Cond.selects RX1 yX1_rentFor yX1_rentFor, Cond.code yX1_rentFor cX1_rentFor 5 (some .int), Cond.fieldLink RX1 13 "Voidrent" "indices" "[I", Cond.methodLink RX1 93 Lib.Math.max.name, Cond.static Lib.Math.max.name, Cond.code Lib.Math.max.name Lib.Math.max.code 2 (some .int), Cond.methodLink RX1 104 yX0_runsOn, Cond.instanceMethod yX0_runsOn, Cond.selects RX0 yX0_runsOn yX0_runsOn]
def wsX1_bill_r3 : List Cond := [Cond.code yX0_runsOn cX0_runsOn 2 (some .boolean), Cond.methodLink RX1 141 yX0_isFreeOn, Cond.instanceMethod yX0_isFreeOn, Cond.selects RX0 yX0_isFreeOn yX0_isFreeOn, Cond.code yX0_isFreeOn cX0_isFreeOn 2 (some .boolean), Cond.methodLink RX1 144 yX0_agreedOn, Cond.instanceMethod yX0_agreedOn, Cond.selects RX0 yX0_agreedOn yX0_agreedOn, Cond.code yX0_agreedOn cX0_agreedOn 5 (some .int), Cond.fieldLink RX0 46 "Voidrent$Lease" "firstRent" "I", Cond.fieldLink RX0 31 "Voidrent$Lease" "stepRents" "[I", Cond.methodLink RX1 147 yX1_valueAt, Cond.static yX1_valueAt, Cond.code yX1_valueAt cX1_valueAt 2 (some .int), Cond.methodLink RX1 151 yX1_highestIndex, Cond.instanceMethod yX1_highestIndex, Cond.selects RX1 yX1_highestIndex yX1_highestIndex, Cond.code yX1_highestIndex cX1_highestIndex 7 (some .int), Cond.methodLink RX1 154 yX0_reviewsUpTo]
def wsX1_bill : List Cond := .code yX1_bill cX1_bill 4 (some .int) :: ((wsX1_bill_r1 ++ (wsX1_bill_r2 ++ wsX1_bill_r3)) ++ wsX10 ++ wsX00 ++ (vx_atS RX1 130 "java/lang/IndexOutOfBoundsException" ["java/lang/RuntimeException", "java/lang/Exception"]).filter goodWord)
def wsX1_billByDays_r1 : List Cond := [Cond.methodLink RX1 55 yX1_find, Cond.instanceMethod yX1_find, Cond.selects RX1 yX1_find yX1_find, Cond.initialized RX1, Cond.code yX1_find cX1_find 3 (some (.object "Voidrent$Lease")), Cond.classLink RX1 126 "java/lang/IndexOutOfBoundsException", Cond.initialized "java/lang/IndexOutOfBoundsException", Cond.fieldLink RX1 21 "Voidrent" "roll" "[LVoidrent$Lease;", Cond.methodLink RX1 29 yX1_checkNumber, Cond.static yX1_checkNumber, Cond.code yX1_checkNumber cX1_checkNumber 2 none, Cond.methodLink RX1 86 yX1_rentFor, Cond.instanceMethod yX1_rentFor, Cond.selects RX1 yX1_rentFor yX1_rentFor, Cond.code yX1_rentFor cX1_rentFor 5 (some .int), Cond.fieldLink RX1 13 "Voidrent" "indices" "[I", Cond.methodLink RX1 93 Lib.Math.max.name, Cond.static Lib.Math.max.name, Cond.initialized "java/lang/Math", Cond.code Lib.Math.max.name Lib.Math.max.code 2 (some .int), Cond.methodLink RX1 104 yX0_runsOn, Cond.instanceMethod yX0_runsOn, Cond.selects RX0 yX0_runsOn yX0_runsOn, Cond.initialized RX0]
def wsX1_billByDays_r2 : List Cond := [Cond.code yX0_runsOn cX0_runsOn 2 (some .boolean), Cond.fieldLink RX0 40 "Voidrent$Lease" "from" "I", Cond.fieldLink RX0 43 "Voidrent$Lease" "to" "I", Cond.methodLink RX1 141 yX0_isFreeOn, Cond.instanceMethod yX0_isFreeOn, Cond.selects RX0 yX0_isFreeOn yX0_isFreeOn, Cond.code yX0_isFreeOn cX0_isFreeOn 2 (some .boolean), Cond.fieldLink RX0 9 "Voidrent$Lease" "free" "I", Cond.methodLink RX1 144 yX0_agreedOn, Cond.instanceMethod yX0_agreedOn, Cond.selects RX0 yX0_agreedOn yX0_agreedOn, Cond.code yX0_agreedOn cX0_agreedOn 5 (some .int), Cond.fieldLink RX0 46 "Voidrent$Lease" "firstRent" "I", Cond.fieldLink RX0 34 "Voidrent$Lease" "steps" "I", Cond.fieldLink RX0 27 "Voidrent$Lease" "stepDays" "[I", Cond.fieldLink RX0 31 "Voidrent$Lease" "stepRents" "[I", Cond.methodLink RX1 147 yX1_valueAt, Cond.static yX1_valueAt, Cond.code yX1_valueAt cX1_valueAt 2 (some .int), Cond.methodLink RX1 151 yX1_highestIndex, Cond.instanceMethod yX1_highestIndex, Cond.selects RX1 yX1_highestIndex yX1_highestIndex, Cond.code yX1_highestIndex cX1_highestIndex 7 (some .int), Cond.methodLink RX1 154 yX0_reviewsUpTo]
def wsX1_billByDays_r3 : List Cond := [Cond.instanceMethod yX0_reviewsUpTo, Cond.selects RX0 yX0_reviewsUpTo yX0_reviewsUpTo, Cond.code yX0_reviewsUpTo cX0_reviewsUpTo 2 (some .int), Cond.fieldLink RX0 15 "Voidrent$Lease" "every" "I"]
def wsX1_billByDays : List Cond := .code yX1_billByDays cX1_billByDays 7 (some .int) :: ((wsX1_billByDays_r1 ++ (wsX1_billByDays_r2 ++ wsX1_billByDays_r3)) ++ wsX10 ++ wsX00 ++ (vx_atS RX1 130 "java/lang/IndexOutOfBoundsException" ["java/lang/RuntimeException", "java/lang/Exception"]).filter goodWord)
def wsX1_bills_r1 : List Cond := [Cond.methodLink RX1 55 yX1_find, Cond.instanceMethod yX1_find, Cond.selects RX1 yX1_find yX1_find, Cond.initialized RX1, Cond.code yX1_find cX1_find 3 (some (.object "Voidrent$Lease")), Cond.classLink RX1 126 "java/lang/IndexOutOfBoundsException", Cond.initialized "java/lang/IndexOutOfBoundsException", Cond.fieldLink RX1 21 "Voidrent" "roll" "[LVoidrent$Lease;", Cond.methodLink RX1 29 yX1_checkNumber, Cond.static yX1_checkNumber, Cond.code yX1_checkNumber cX1_checkNumber 2 none, Cond.methodLink RX1 33 yX1_checkRange, Cond.static yX1_checkRange, Cond.code yX1_checkRange cX1_checkRange 3 none, Cond.classLink RX1 131 "java/lang/IllegalArgumentException", Cond.initialized "java/lang/IllegalArgumentException", Cond.methodLink RX1 108 yX1_billFor, Cond.instanceMethod yX1_billFor, Cond.selects RX1 yX1_billFor yX1_billFor, Cond.code yX1_billFor cX1_billFor 8 (some .int), Cond.methodLink RX1 157 Lib.Math.min.name, Cond.static Lib.Math.min.name, Cond.initialized "java/lang/Math", Cond.code Lib.Math.min.name Lib.Math.min.code 2 (some .int)]
def wsX1_bills_r2 : List Cond := [Cond.methodLink RX1 111 yX0_nextTurn, Cond.instanceMethod yX0_nextTurn, Cond.selects RX0 yX0_nextTurn yX0_nextTurn, Cond.initialized RX0, Cond.code yX0_nextTurn cX0_nextTurn 4 (some .int), Cond.fieldLink RX0 40 "Voidrent$Lease" "from" "I", Cond.fieldLink RX0 9 "Voidrent$Lease" "free" "I", Cond.fieldLink RX0 43 "Voidrent$Lease" "to" "I", Cond.fieldLink RX0 34 "Voidrent$Lease" "steps" "I", Cond.fieldLink RX0 27 "Voidrent$Lease" "stepDays" "[I", Cond.fieldLink RX0 15 "Voidrent$Lease" "every" "I", Cond.methodLink RX0 61 yX0_sooner, Cond.static yX0_sooner, Cond.code yX0_sooner cX0_sooner 3 (some .int), Cond.methodLink RX0 65 yX0_reviewsUpTo, Cond.instanceMethod yX0_reviewsUpTo, Cond.selects RX0 yX0_reviewsUpTo yX0_reviewsUpTo, Cond.code yX0_reviewsUpTo cX0_reviewsUpTo 2 (some .int), Cond.methodLink RX1 86 yX1_rentFor, Cond.instanceMethod yX1_rentFor, Cond.selects RX1 yX1_rentFor yX1_rentFor, Cond.code yX1_rentFor cX1_rentFor 5 (some .int), Cond.fieldLink RX1 13 "Voidrent" "indices" "[I", Cond.methodLink RX1 93 Lib.Math.max.name]
def wsX1_bills_r3 : List Cond := [Cond.static Lib.Math.max.name, Cond.code Lib.Math.max.name Lib.Math.max.code 2 (some .int), Cond.methodLink RX1 104 yX0_runsOn, Cond.instanceMethod yX0_runsOn, Cond.selects RX0 yX0_runsOn yX0_runsOn, Cond.code yX0_runsOn cX0_runsOn 2 (some .boolean), Cond.methodLink RX1 141 yX0_isFreeOn, Cond.instanceMethod yX0_isFreeOn, Cond.selects RX0 yX0_isFreeOn yX0_isFreeOn, Cond.code yX0_isFreeOn cX0_isFreeOn 2 (some .boolean), Cond.methodLink RX1 144 yX0_agreedOn, Cond.instanceMethod yX0_agreedOn, Cond.selects RX0 yX0_agreedOn yX0_agreedOn, Cond.code yX0_agreedOn cX0_agreedOn 5 (some .int), Cond.fieldLink RX0 46 "Voidrent$Lease" "firstRent" "I", Cond.fieldLink RX0 31 "Voidrent$Lease" "stepRents" "[I", Cond.methodLink RX1 147 yX1_valueAt, Cond.static yX1_valueAt, Cond.code yX1_valueAt cX1_valueAt 2 (some .int), Cond.methodLink RX1 151 yX1_highestIndex, Cond.instanceMethod yX1_highestIndex, Cond.selects RX1 yX1_highestIndex yX1_highestIndex, Cond.code yX1_highestIndex cX1_highestIndex 7 (some .int), Cond.methodLink RX1 154 yX0_reviewsUpTo]
def wsX1_bills : List Cond := .code yX1_bills cX1_bills 8 (some .long) :: ((wsX1_bills_r1 ++ (wsX1_bills_r2 ++ wsX1_bills_r3)) ++ wsX10 ++ wsX00 ++ (vx_atS RX1 130 "java/lang/IndexOutOfBoundsException" ["java/lang/RuntimeException", "java/lang/Exception"]).filter goodWord ++ (vx_atS RX1 135 "java/lang/IllegalArgumentException" ["java/lang/RuntimeException", "java/lang/Exception"]).filter goodWord)
def wsX1_nextChange_r1 : List Cond := [Cond.methodLink RX1 55 yX1_find, Cond.instanceMethod yX1_find, Cond.selects RX1 yX1_find yX1_find, Cond.initialized RX1, Cond.code yX1_find cX1_find 3 (some (.object "Voidrent$Lease")), Cond.classLink RX1 126 "java/lang/IndexOutOfBoundsException", Cond.initialized "java/lang/IndexOutOfBoundsException", Cond.fieldLink RX1 21 "Voidrent" "roll" "[LVoidrent$Lease;", Cond.methodLink RX1 29 yX1_checkNumber, Cond.static yX1_checkNumber, Cond.code yX1_checkNumber cX1_checkNumber 2 none, Cond.methodLink RX1 111 yX0_nextTurn, Cond.instanceMethod yX0_nextTurn, Cond.selects RX0 yX0_nextTurn yX0_nextTurn, Cond.initialized RX0, Cond.code yX0_nextTurn cX0_nextTurn 4 (some .int), Cond.fieldLink RX0 40 "Voidrent$Lease" "from" "I", Cond.fieldLink RX0 9 "Voidrent$Lease" "free" "I", Cond.fieldLink RX0 43 "Voidrent$Lease" "to" "I", Cond.fieldLink RX0 34 "Voidrent$Lease" "steps" "I", Cond.fieldLink RX0 27 "Voidrent$Lease" "stepDays" "[I", Cond.fieldLink RX0 15 "Voidrent$Lease" "every" "I", Cond.methodLink RX0 61 yX0_sooner, Cond.static yX0_sooner]
def wsX1_nextChange_r2 : List Cond := [Cond.code yX0_sooner cX0_sooner 3 (some .int), Cond.methodLink RX0 65 yX0_reviewsUpTo, Cond.instanceMethod yX0_reviewsUpTo, Cond.selects RX0 yX0_reviewsUpTo yX0_reviewsUpTo, Cond.code yX0_reviewsUpTo cX0_reviewsUpTo 2 (some .int), Cond.methodLink RX1 86 yX1_rentFor, Cond.instanceMethod yX1_rentFor, Cond.selects RX1 yX1_rentFor yX1_rentFor, Cond.code yX1_rentFor cX1_rentFor 5 (some .int), Cond.fieldLink RX1 13 "Voidrent" "indices" "[I", Cond.methodLink RX1 93 Lib.Math.max.name, Cond.static Lib.Math.max.name, Cond.initialized "java/lang/Math", Cond.code Lib.Math.max.name Lib.Math.max.code 2 (some .int), Cond.methodLink RX1 104 yX0_runsOn, Cond.instanceMethod yX0_runsOn, Cond.selects RX0 yX0_runsOn yX0_runsOn, Cond.code yX0_runsOn cX0_runsOn 2 (some .boolean), Cond.methodLink RX1 141 yX0_isFreeOn, Cond.instanceMethod yX0_isFreeOn, Cond.selects RX0 yX0_isFreeOn yX0_isFreeOn, Cond.code yX0_isFreeOn cX0_isFreeOn 2 (some .boolean), Cond.methodLink RX1 144 yX0_agreedOn, Cond.instanceMethod yX0_agreedOn]
def wsX1_nextChange_r3 : List Cond := [Cond.selects RX0 yX0_agreedOn yX0_agreedOn, Cond.code yX0_agreedOn cX0_agreedOn 5 (some .int), Cond.fieldLink RX0 46 "Voidrent$Lease" "firstRent" "I", Cond.fieldLink RX0 31 "Voidrent$Lease" "stepRents" "[I", Cond.methodLink RX1 147 yX1_valueAt, Cond.static yX1_valueAt, Cond.code yX1_valueAt cX1_valueAt 2 (some .int), Cond.methodLink RX1 151 yX1_highestIndex, Cond.instanceMethod yX1_highestIndex, Cond.selects RX1 yX1_highestIndex yX1_highestIndex, Cond.code yX1_highestIndex cX1_highestIndex 7 (some .int), Cond.methodLink RX1 154 yX0_reviewsUpTo]
def wsX1_nextChange : List Cond := .code yX1_nextChange cX1_nextChange 6 (some .int) :: ((wsX1_nextChange_r1 ++ (wsX1_nextChange_r2 ++ wsX1_nextChange_r3)) ++ wsX10 ++ wsX00 ++ (vx_atS RX1 130 "java/lang/IndexOutOfBoundsException" ["java/lang/RuntimeException", "java/lang/Exception"]).filter goodWord)
def wsX1_voids_r1 : List Cond := [Cond.fieldLink RX1 9 "Voidrent" "areas" "[I", Cond.methodLink RX1 29 yX1_checkNumber, Cond.static yX1_checkNumber, Cond.initialized RX1, Cond.code yX1_checkNumber cX1_checkNumber 2 none, Cond.classLink RX1 126 "java/lang/IndexOutOfBoundsException", Cond.initialized "java/lang/IndexOutOfBoundsException", Cond.methodLink RX1 46 yX1_daysLet, Cond.instanceMethod yX1_daysLet, Cond.selects RX1 yX1_daysLet yX1_daysLet, Cond.code yX1_daysLet cX1_daysLet 9 (some .int), Cond.fieldLink RX1 21 "Voidrent" "roll" "[LVoidrent$Lease;", Cond.methodLink RX1 138 yX0_daysWithin, Cond.instanceMethod yX0_daysWithin, Cond.selects RX0 yX0_daysWithin yX0_daysWithin, Cond.initialized RX0, Cond.code yX0_daysWithin cX0_daysWithin 3 (some .int), Cond.fieldLink RX0 43 "Voidrent$Lease" "to" "I", Cond.methodLink RX0 49 Lib.Math.min.name, Cond.static Lib.Math.min.name, Cond.initialized "java/lang/Math", Cond.code Lib.Math.min.name Lib.Math.min.code 2 (some .int), Cond.fieldLink RX0 40 "Voidrent$Lease" "from" "I", Cond.methodLink RX0 55 Lib.Math.max.name]
def wsX1_voids_r2 : List Cond := [Cond.static Lib.Math.max.name, Cond.code Lib.Math.max.name Lib.Math.max.code 2 (some .int)]
def wsX1_voids : List Cond := .code yX1_voids cX1_voids 4 (some .int) :: ((wsX1_voids_r1 ++ wsX1_voids_r2) ++ wsX10 ++ wsX00 ++ (vx_atS RX1 130 "java/lang/IndexOutOfBoundsException" ["java/lang/RuntimeException", "java/lang/Exception"]).filter goodWord)
def wsX1_allAreas : List Cond := .code yX1_allAreas cX1_allAreas 6 (some .int) :: ([.fieldLink RX1 9 "Voidrent" "areas" "[I"] ++ wsX10)
def wsX1_partOf_r1 : List Cond := [Cond.fieldLink RX1 9 "Voidrent" "areas" "[I", Cond.constantLong RX1 160 (360), Cond.methodLink RX1 157 Lib.Math.min.name, Cond.static Lib.Math.min.name, Cond.initialized "java/lang/Math", Cond.code Lib.Math.min.name Lib.Math.min.code 2 (some .int), Cond.methodLink RX1 122 yX1_allAreas, Cond.instanceMethod yX1_allAreas, Cond.selects RX1 yX1_allAreas yX1_allAreas, Cond.initialized RX1, Cond.code yX1_allAreas cX1_allAreas 6 (some .int), Cond.methodLink RX1 119 yX0_daysIn, Cond.instanceMethod yX0_daysIn, Cond.selects RX0 yX0_daysIn yX0_daysIn, Cond.initialized RX0, Cond.code yX0_daysIn cX0_daysIn 3 (some .int), Cond.methodLink RX0 58 yX0_daysWithin, Cond.instanceMethod yX0_daysWithin, Cond.selects RX0 yX0_daysWithin yX0_daysWithin, Cond.code yX0_daysWithin cX0_daysWithin 3 (some .int), Cond.fieldLink RX0 43 "Voidrent$Lease" "to" "I", Cond.methodLink RX0 49 Lib.Math.min.name, Cond.fieldLink RX0 40 "Voidrent$Lease" "from" "I", Cond.methodLink RX0 55 Lib.Math.max.name]
def wsX1_partOf_r2 : List Cond := [Cond.static Lib.Math.max.name, Cond.code Lib.Math.max.name Lib.Math.max.code 2 (some .int), Cond.methodLink RX1 147 yX1_valueAt, Cond.static yX1_valueAt, Cond.code yX1_valueAt cX1_valueAt 2 (some .int)]
def wsX1_partOf : List Cond := .code yX1_partOf cX1_partOf 8 (some .int) :: ((wsX1_partOf_r1 ++ wsX1_partOf_r2) ++ wsX10 ++ wsX00)
def wsX1_part_r1 : List Cond := [Cond.fieldLink RX1 16 "Voidrent" "costs" "[I", Cond.methodLink RX1 55 yX1_find, Cond.instanceMethod yX1_find, Cond.selects RX1 yX1_find yX1_find, Cond.initialized RX1, Cond.code yX1_find cX1_find 3 (some (.object "Voidrent$Lease")), Cond.classLink RX1 126 "java/lang/IndexOutOfBoundsException", Cond.initialized "java/lang/IndexOutOfBoundsException", Cond.fieldLink RX1 21 "Voidrent" "roll" "[LVoidrent$Lease;", Cond.methodLink RX1 29 yX1_checkNumber, Cond.static yX1_checkNumber, Cond.code yX1_checkNumber cX1_checkNumber 2 none, Cond.methodLink RX1 115 yX1_partOf, Cond.instanceMethod yX1_partOf, Cond.selects RX1 yX1_partOf yX1_partOf, Cond.code yX1_partOf cX1_partOf 8 (some .int), Cond.fieldLink RX1 9 "Voidrent" "areas" "[I", Cond.constantLong RX1 160 (360), Cond.methodLink RX1 157 Lib.Math.min.name, Cond.static Lib.Math.min.name, Cond.initialized "java/lang/Math", Cond.code Lib.Math.min.name Lib.Math.min.code 2 (some .int), Cond.methodLink RX1 122 yX1_allAreas, Cond.instanceMethod yX1_allAreas]
def wsX1_part_r2 : List Cond := [Cond.selects RX1 yX1_allAreas yX1_allAreas, Cond.code yX1_allAreas cX1_allAreas 6 (some .int), Cond.methodLink RX1 119 yX0_daysIn, Cond.instanceMethod yX0_daysIn, Cond.selects RX0 yX0_daysIn yX0_daysIn, Cond.initialized RX0, Cond.code yX0_daysIn cX0_daysIn 3 (some .int), Cond.methodLink RX0 58 yX0_daysWithin, Cond.instanceMethod yX0_daysWithin, Cond.selects RX0 yX0_daysWithin yX0_daysWithin, Cond.code yX0_daysWithin cX0_daysWithin 3 (some .int), Cond.fieldLink RX0 43 "Voidrent$Lease" "to" "I", Cond.methodLink RX0 49 Lib.Math.min.name, Cond.fieldLink RX0 40 "Voidrent$Lease" "from" "I", Cond.methodLink RX0 55 Lib.Math.max.name, Cond.static Lib.Math.max.name, Cond.code Lib.Math.max.name Lib.Math.max.code 2 (some .int), Cond.methodLink RX1 147 yX1_valueAt, Cond.static yX1_valueAt, Cond.code yX1_valueAt cX1_valueAt 2 (some .int)]
def wsX1_part : List Cond := .code yX1_part cX1_part 4 (some .int) :: ((wsX1_part_r1 ++ wsX1_part_r2) ++ wsX10 ++ wsX00 ++ (vx_atS RX1 130 "java/lang/IndexOutOfBoundsException" ["java/lang/RuntimeException", "java/lang/Exception"]).filter goodWord)
def wsX1_owners_r1 : List Cond := [Cond.fieldLink RX1 16 "Voidrent" "costs" "[I", Cond.fieldLink RX1 21 "Voidrent" "roll" "[LVoidrent$Lease;", Cond.methodLink RX1 29 yX1_checkNumber, Cond.static yX1_checkNumber, Cond.initialized RX1, Cond.code yX1_checkNumber cX1_checkNumber 2 none, Cond.classLink RX1 126 "java/lang/IndexOutOfBoundsException", Cond.initialized "java/lang/IndexOutOfBoundsException", Cond.methodLink RX1 115 yX1_partOf, Cond.instanceMethod yX1_partOf, Cond.selects RX1 yX1_partOf yX1_partOf, Cond.code yX1_partOf cX1_partOf 8 (some .int), Cond.fieldLink RX1 9 "Voidrent" "areas" "[I", Cond.constantLong RX1 160 (360), Cond.methodLink RX1 157 Lib.Math.min.name, Cond.static Lib.Math.min.name, Cond.initialized "java/lang/Math", Cond.code Lib.Math.min.name Lib.Math.min.code 2 (some .int), Cond.methodLink RX1 122 yX1_allAreas, Cond.instanceMethod yX1_allAreas, Cond.selects RX1 yX1_allAreas yX1_allAreas, Cond.code yX1_allAreas cX1_allAreas 6 (some .int), Cond.methodLink RX1 119 yX0_daysIn, Cond.instanceMethod yX0_daysIn]
def wsX1_owners_r2 : List Cond := [Cond.selects RX0 yX0_daysIn yX0_daysIn, Cond.initialized RX0, Cond.code yX0_daysIn cX0_daysIn 3 (some .int), Cond.methodLink RX0 58 yX0_daysWithin, Cond.instanceMethod yX0_daysWithin, Cond.selects RX0 yX0_daysWithin yX0_daysWithin, Cond.code yX0_daysWithin cX0_daysWithin 3 (some .int), Cond.fieldLink RX0 43 "Voidrent$Lease" "to" "I", Cond.methodLink RX0 49 Lib.Math.min.name, Cond.fieldLink RX0 40 "Voidrent$Lease" "from" "I", Cond.methodLink RX0 55 Lib.Math.max.name, Cond.static Lib.Math.max.name, Cond.code Lib.Math.max.name Lib.Math.max.code 2 (some .int), Cond.methodLink RX1 147 yX1_valueAt, Cond.static yX1_valueAt, Cond.code yX1_valueAt cX1_valueAt 2 (some .int)]
def wsX1_owners : List Cond := .code yX1_owners cX1_owners 7 (some .int) :: ((wsX1_owners_r1 ++ wsX1_owners_r2) ++ wsX10 ++ wsX00 ++ (vx_atS RX1 130 "java/lang/IndexOutOfBoundsException" ["java/lang/RuntimeException", "java/lang/Exception"]).filter goodWord)
def wsX1_balance_r1 : List Cond := [Cond.fieldLink RX1 16 "Voidrent" "costs" "[I", Cond.methodLink RX1 55 yX1_find, Cond.instanceMethod yX1_find, Cond.selects RX1 yX1_find yX1_find, Cond.initialized RX1, Cond.code yX1_find cX1_find 3 (some (.object "Voidrent$Lease")), Cond.classLink RX1 126 "java/lang/IndexOutOfBoundsException", Cond.initialized "java/lang/IndexOutOfBoundsException", Cond.fieldLink RX1 21 "Voidrent" "roll" "[LVoidrent$Lease;", Cond.methodLink RX1 29 yX1_checkNumber, Cond.static yX1_checkNumber, Cond.code yX1_checkNumber cX1_checkNumber 2 none, Cond.methodLink RX1 119 yX0_daysIn, Cond.instanceMethod yX0_daysIn, Cond.selects RX0 yX0_daysIn yX0_daysIn, Cond.initialized RX0, Cond.code yX0_daysIn cX0_daysIn 3 (some .int), Cond.methodLink RX0 58 yX0_daysWithin, Cond.instanceMethod yX0_daysWithin, Cond.selects RX0 yX0_daysWithin yX0_daysWithin, Cond.code yX0_daysWithin cX0_daysWithin 3 (some .int), Cond.fieldLink RX0 43 "Voidrent$Lease" "to" "I", Cond.methodLink RX0 49 Lib.Math.min.name, Cond.static Lib.Math.min.name]
def wsX1_balance_r2 : List Cond := [Cond.initialized "java/lang/Math", Cond.code Lib.Math.min.name Lib.Math.min.code 2 (some .int), Cond.fieldLink RX0 40 "Voidrent$Lease" "from" "I", Cond.methodLink RX0 55 Lib.Math.max.name, Cond.static Lib.Math.max.name, Cond.code Lib.Math.max.name Lib.Math.max.code 2 (some .int), Cond.methodLink RX1 115 yX1_partOf, Cond.instanceMethod yX1_partOf, Cond.selects RX1 yX1_partOf yX1_partOf, Cond.code yX1_partOf cX1_partOf 8 (some .int), Cond.fieldLink RX1 9 "Voidrent" "areas" "[I", Cond.constantLong RX1 160 (360), Cond.methodLink RX1 157 Lib.Math.min.name, Cond.methodLink RX1 122 yX1_allAreas, Cond.instanceMethod yX1_allAreas, Cond.selects RX1 yX1_allAreas yX1_allAreas, Cond.code yX1_allAreas cX1_allAreas 6 (some .int), Cond.methodLink RX1 147 yX1_valueAt, Cond.static yX1_valueAt, Cond.code yX1_valueAt cX1_valueAt 2 (some .int)]
def wsX1_balance : List Cond := .code yX1_balance cX1_balance 5 (some .int) :: ((wsX1_balance_r1 ++ wsX1_balance_r2) ++ wsX10 ++ wsX00 ++ (vx_atS RX1 130 "java/lang/IndexOutOfBoundsException" ["java/lang/RuntimeException", "java/lang/Exception"]).filter goodWord)
def wsX1_share : List Cond := .code yX1_share cX1_share 3 (some .double) :: ([.fieldLink RX1 9 "Voidrent" "areas" "[I", .methodLink RX1 29 yX1_checkNumber, .static yX1_checkNumber, .initialized RX1, .code yX1_checkNumber cX1_checkNumber 2 none, .classLink RX1 126 "java/lang/IndexOutOfBoundsException", .initialized "java/lang/IndexOutOfBoundsException", .methodLink RX1 122 yX1_allAreas, .instanceMethod yX1_allAreas, .selects RX1 yX1_allAreas yX1_allAreas, .code yX1_allAreas cX1_allAreas 6 (some .int)] ++ wsX10 ++ (vx_atS RX1 130 "java/lang/IndexOutOfBoundsException" ["java/lang/RuntimeException", "java/lang/Exception"]).filter goodWord)
def wsJ9_max_7cf53 : List Cond := .code yJ9_max_7cf53 cJ9_max_7cf53 2 (some .int) :: ([])
def wsJ9_min_7cf53 : List Cond := .code yJ9_min_7cf53 cJ9_min_7cf53 2 (some .int) :: ([])
def wsL_draw : List Cond := .code yL_draw cL_draw 2 (some .int) :: ([.constant RL 7 (2147483647), .constant RL 8 (104729), .constant RL 9 (65521)])
def wsL_lets_r1 : List Cond := [Cond.methodLink RL 30 yX1_leases, Cond.instanceMethod yX1_leases, Cond.selects RX1 yX1_leases yX1_leases, Cond.initialized RX1, Cond.code yX1_leases cX1_leases 1 (some .int), Cond.fieldLink RX1 25 "Voidrent" "count" "I", Cond.methodLink RL 55 yX1_let, Cond.instanceMethod yX1_let, Cond.selects RX1 yX1_let yX1_let, Cond.code yX1_let cX1_let 6 (some .int), Cond.classLink RX1 39 "java/lang/IllegalStateException", Cond.initialized "java/lang/IllegalStateException", Cond.fieldLink RX1 9 "Voidrent" "areas" "[I", Cond.constant RX1 38 (99999), Cond.fieldLink RX1 21 "Voidrent" "roll" "[LVoidrent$Lease;", Cond.classLink RX1 19 RX0, Cond.instantiable RX0 12, Cond.initialized RX0, Cond.methodLink RX1 29 yX1_checkNumber, Cond.static yX1_checkNumber, Cond.code yX1_checkNumber cX1_checkNumber 2 none, Cond.classLink RX1 126 "java/lang/IndexOutOfBoundsException", Cond.initialized "java/lang/IndexOutOfBoundsException", Cond.methodLink RX1 33 yX1_checkRange]
def wsL_lets_r2 : List Cond := [Cond.static yX1_checkRange, Cond.code yX1_checkRange cX1_checkRange 3 none, Cond.classLink RX1 131 "java/lang/IllegalArgumentException", Cond.initialized "java/lang/IllegalArgumentException", Cond.methodLink RX1 46 yX1_daysLet, Cond.instanceMethod yX1_daysLet, Cond.selects RX1 yX1_daysLet yX1_daysLet, Cond.code yX1_daysLet cX1_daysLet 9 (some .int), Cond.methodLink RX1 138 yX0_daysWithin, Cond.instanceMethod yX0_daysWithin, Cond.selects RX0 yX0_daysWithin yX0_daysWithin, Cond.code yX0_daysWithin cX0_daysWithin 3 (some .int), Cond.fieldLink RX0 43 "Voidrent$Lease" "to" "I", Cond.methodLink RX0 49 Lib.Math.min.name, Cond.static Lib.Math.min.name, Cond.initialized "java/lang/Math", Cond.code Lib.Math.min.name Lib.Math.min.code 2 (some .int), Cond.fieldLink RX0 40 "Voidrent$Lease" "from" "I", Cond.methodLink RX0 55 Lib.Math.max.name, Cond.static Lib.Math.max.name, Cond.code Lib.Math.max.name Lib.Math.max.code 2 (some .int), Cond.methodLink RX1 52 yX0_init, Cond.instanceMethod yX0_init, Cond.code yX0_init cX0_init 5 none]
def wsL_lets_r3 : List Cond := [Cond.methodLink RX0 3 objectInit, Cond.instanceMethod objectInit, Cond.code objectInit ⟨#[0xb1]⟩ 1 none, Cond.fieldLink RX0 9 "Voidrent$Lease" "free" "I", Cond.fieldLink RX0 15 "Voidrent$Lease" "every" "I", Cond.fieldLink RX0 18 "Voidrent$Lease" "cap" "I", Cond.fieldLink RX0 21 "Voidrent$Lease" "prepaid" "I", Cond.fieldLink RX0 24 "Voidrent$Lease" "deposit" "I", Cond.arrayClass .int, Cond.fieldLink RX0 27 "Voidrent$Lease" "stepDays" "[I", Cond.fieldLink RX0 31 "Voidrent$Lease" "stepRents" "[I", Cond.fieldLink RX0 34 "Voidrent$Lease" "steps" "I", Cond.fieldLink RX0 37 "Voidrent$Lease" "unit" "I", Cond.fieldLink RX0 46 "Voidrent$Lease" "firstRent" "I", Cond.methodLink RL 59 yX1_leaseOn, Cond.instanceMethod yX1_leaseOn, Cond.selects RX1 yX1_leaseOn yX1_leaseOn, Cond.code yX1_leaseOn cX1_leaseOn 5 (some .int), Cond.methodLink RX1 104 yX0_runsOn, Cond.instanceMethod yX0_runsOn, Cond.selects RX0 yX0_runsOn yX0_runsOn, Cond.code yX0_runsOn cX0_runsOn 2 (some .boolean), Cond.methodLink RL 37 yX1_rentOn, Cond.instanceMethod yX1_rentOn]
def wsL_lets_r4 : List Cond := [Cond.selects RX1 yX1_rentOn yX1_rentOn, Cond.code yX1_rentOn cX1_rentOn 4 (some .int), Cond.methodLink RX1 55 yX1_find, Cond.instanceMethod yX1_find, Cond.selects RX1 yX1_find yX1_find, Cond.code yX1_find cX1_find 3 (some (.object "Voidrent$Lease")), Cond.methodLink RX1 86 yX1_rentFor, Cond.instanceMethod yX1_rentFor, Cond.selects RX1 yX1_rentFor yX1_rentFor, Cond.code yX1_rentFor cX1_rentFor 5 (some .int), Cond.fieldLink RX1 13 "Voidrent" "indices" "[I", Cond.methodLink RX1 93 Lib.Math.max.name, Cond.methodLink RX1 141 yX0_isFreeOn, Cond.instanceMethod yX0_isFreeOn, Cond.selects RX0 yX0_isFreeOn yX0_isFreeOn, Cond.code yX0_isFreeOn cX0_isFreeOn 2 (some .boolean), Cond.methodLink RX1 144 yX0_agreedOn, Cond.instanceMethod yX0_agreedOn, Cond.selects RX0 yX0_agreedOn yX0_agreedOn, Cond.code yX0_agreedOn cX0_agreedOn 5 (some .int), Cond.methodLink RX1 147 yX1_valueAt, Cond.static yX1_valueAt, Cond.code yX1_valueAt cX1_valueAt 2 (some .int), Cond.methodLink RX1 151 yX1_highestIndex]
def wsL_lets_r5 : List Cond := [Cond.instanceMethod yX1_highestIndex, Cond.selects RX1 yX1_highestIndex yX1_highestIndex, Cond.code yX1_highestIndex cX1_highestIndex 7 (some .int), Cond.methodLink RX1 154 yX0_reviewsUpTo, Cond.instanceMethod yX0_reviewsUpTo, Cond.selects RX0 yX0_reviewsUpTo yX0_reviewsUpTo, Cond.code yX0_reviewsUpTo cX0_reviewsUpTo 2 (some .int), Cond.methodLink RL 62 yX1_held, Cond.instanceMethod yX1_held, Cond.selects RX1 yX1_held yX1_held, Cond.code yX1_held cX1_held 2 (some .int)]
def wsL_lets : List Cond := .code yL_lets cL_lets 10 (some .boolean) :: ((wsL_lets_r1 ++ (wsL_lets_r2 ++ (wsL_lets_r3 ++ (wsL_lets_r4 ++ wsL_lets_r5)))) ++ wsX10 ++ wsX00 ++ (vx_atS RX1 43 "java/lang/IllegalStateException" ["java/lang/RuntimeException", "java/lang/Exception"]).filter goodWord ++ (vx_atS RX1 130 "java/lang/IndexOutOfBoundsException" ["java/lang/RuntimeException", "java/lang/Exception"]).filter goodWord ++ (vx_atS RX1 135 "java/lang/IllegalArgumentException" ["java/lang/RuntimeException", "java/lang/Exception"]).filter goodWord)
def wsL_pays_r1 : List Cond := [Cond.methodLink RL 62 yX1_held, Cond.instanceMethod yX1_held, Cond.selects RX1 yX1_held yX1_held, Cond.initialized RX1, Cond.code yX1_held cX1_held 2 (some .int), Cond.methodLink RX1 55 yX1_find, Cond.instanceMethod yX1_find, Cond.selects RX1 yX1_find yX1_find, Cond.code yX1_find cX1_find 3 (some (.object "Voidrent$Lease")), Cond.classLink RX1 126 "java/lang/IndexOutOfBoundsException", Cond.initialized "java/lang/IndexOutOfBoundsException", Cond.fieldLink RX1 21 "Voidrent" "roll" "[LVoidrent$Lease;", Cond.methodLink RX1 29 yX1_checkNumber, Cond.static yX1_checkNumber, Cond.code yX1_checkNumber cX1_checkNumber 2 none, Cond.methodLink RL 66 yX1_draw, Cond.instanceMethod yX1_draw, Cond.selects RX1 yX1_draw yX1_draw, Cond.code yX1_draw cX1_draw 4 (some .int), Cond.classLink RX1 39 "java/lang/IllegalStateException", Cond.initialized "java/lang/IllegalStateException", Cond.constant RX1 37 (999999), Cond.methodLink RX1 33 yX1_checkRange, Cond.static yX1_checkRange]
def wsL_pays_r2 : List Cond := [Cond.code yX1_checkRange cX1_checkRange 3 none, Cond.classLink RX1 131 "java/lang/IllegalArgumentException", Cond.initialized "java/lang/IllegalArgumentException", Cond.methodLink RL 37 yX1_rentOn, Cond.instanceMethod yX1_rentOn, Cond.selects RX1 yX1_rentOn yX1_rentOn, Cond.code yX1_rentOn cX1_rentOn 4 (some .int), Cond.methodLink RX1 86 yX1_rentFor, Cond.instanceMethod yX1_rentFor, Cond.selects RX1 yX1_rentFor yX1_rentFor, Cond.code yX1_rentFor cX1_rentFor 5 (some .int), Cond.fieldLink RX1 13 "Voidrent" "indices" "[I", Cond.methodLink RX1 93 Lib.Math.max.name, Cond.static Lib.Math.max.name, Cond.initialized "java/lang/Math", Cond.code Lib.Math.max.name Lib.Math.max.code 2 (some .int), Cond.methodLink RX1 104 yX0_runsOn, Cond.instanceMethod yX0_runsOn, Cond.selects RX0 yX0_runsOn yX0_runsOn, Cond.initialized RX0, Cond.code yX0_runsOn cX0_runsOn 2 (some .boolean), Cond.fieldLink RX0 40 "Voidrent$Lease" "from" "I", Cond.fieldLink RX0 43 "Voidrent$Lease" "to" "I", Cond.methodLink RX1 141 yX0_isFreeOn]
def wsL_pays_r3 : List Cond := [Cond.instanceMethod yX0_isFreeOn, Cond.selects RX0 yX0_isFreeOn yX0_isFreeOn, Cond.code yX0_isFreeOn cX0_isFreeOn 2 (some .boolean), Cond.fieldLink RX0 9 "Voidrent$Lease" "free" "I", Cond.methodLink RX1 144 yX0_agreedOn, Cond.instanceMethod yX0_agreedOn, Cond.selects RX0 yX0_agreedOn yX0_agreedOn, Cond.code yX0_agreedOn cX0_agreedOn 5 (some .int), Cond.fieldLink RX0 46 "Voidrent$Lease" "firstRent" "I", Cond.fieldLink RX0 34 "Voidrent$Lease" "steps" "I", Cond.fieldLink RX0 27 "Voidrent$Lease" "stepDays" "[I", Cond.fieldLink RX0 31 "Voidrent$Lease" "stepRents" "[I", Cond.methodLink RX1 147 yX1_valueAt, Cond.static yX1_valueAt, Cond.code yX1_valueAt cX1_valueAt 2 (some .int), Cond.methodLink RX1 151 yX1_highestIndex, Cond.instanceMethod yX1_highestIndex, Cond.selects RX1 yX1_highestIndex yX1_highestIndex, Cond.code yX1_highestIndex cX1_highestIndex 7 (some .int), Cond.methodLink RX1 154 yX0_reviewsUpTo, Cond.instanceMethod yX0_reviewsUpTo, Cond.selects RX0 yX0_reviewsUpTo yX0_reviewsUpTo, Cond.code yX0_reviewsUpTo cX0_reviewsUpTo 2 (some .int), Cond.fieldLink RX0 15 "Voidrent$Lease" "every" "I"]
def wsL_pays_r4 : List Cond := [Cond.methodLink RL 69 yX1_topUp, Cond.instanceMethod yX1_topUp, Cond.selects RX1 yX1_topUp yX1_topUp, Cond.code yX1_topUp cX1_topUp 6 (some .int)]
def wsL_pays : List Cond := .code yL_pays cL_pays 9 (some .boolean) :: ((wsL_pays_r1 ++ (wsL_pays_r2 ++ (wsL_pays_r3 ++ wsL_pays_r4))) ++ wsX00 ++ wsX10 ++ (vx_atS RX1 130 "java/lang/IndexOutOfBoundsException" ["java/lang/RuntimeException", "java/lang/Exception"]).filter goodWord ++ (vx_atS RX1 43 "java/lang/IllegalStateException" ["java/lang/RuntimeException", "java/lang/Exception"]).filter goodWord ++ (vx_atS RX1 135 "java/lang/IllegalArgumentException" ["java/lang/RuntimeException", "java/lang/Exception"]).filter goodWord)
def wsL_step_r1 : List Cond := [Cond.constant RL 19 (1000000), Cond.constant RL 23 (99999), Cond.methodLink RL 10 yX1_setArea, Cond.instanceMethod yX1_setArea, Cond.selects RX1 yX1_setArea yX1_setArea, Cond.initialized RX1, Cond.code yX1_setArea cX1_setArea 4 (some .int), Cond.fieldLink RX1 9 "Voidrent" "areas" "[I", Cond.methodLink RX1 29 yX1_checkNumber, Cond.static yX1_checkNumber, Cond.code yX1_checkNumber cX1_checkNumber 2 none, Cond.classLink RX1 126 "java/lang/IndexOutOfBoundsException", Cond.initialized "java/lang/IndexOutOfBoundsException", Cond.methodLink RX1 33 yX1_checkRange, Cond.static yX1_checkRange, Cond.code yX1_checkRange cX1_checkRange 3 none, Cond.classLink RX1 131 "java/lang/IllegalArgumentException", Cond.initialized "java/lang/IllegalArgumentException", Cond.methodLink RL 16 yX1_setIndex, Cond.instanceMethod yX1_setIndex, Cond.selects RX1 yX1_setIndex yX1_setIndex, Cond.code yX1_setIndex cX1_setIndex 4 (some .int), Cond.fieldLink RX1 13 "Voidrent" "indices" "[I", Cond.methodLink RL 20 yX1_setCost]
def wsL_step_r2 : List Cond := [Cond.instanceMethod yX1_setCost, Cond.selects RX1 yX1_setCost yX1_setCost, Cond.code yX1_setCost cX1_setCost 4 (some .int), Cond.fieldLink RX1 16 "Voidrent" "costs" "[I", Cond.constant RX1 37 (999999), Cond.methodLink RL 24 yL_lets, Cond.static yL_lets, Cond.initialized RL, Cond.code yL_lets cL_lets 10 (some .boolean), Cond.methodLink RL 30 yX1_leases, Cond.instanceMethod yX1_leases, Cond.selects RX1 yX1_leases yX1_leases, Cond.code yX1_leases cX1_leases 1 (some .int), Cond.fieldLink RX1 25 "Voidrent" "count" "I", Cond.methodLink RL 55 yX1_let, Cond.instanceMethod yX1_let, Cond.selects RX1 yX1_let yX1_let, Cond.code yX1_let cX1_let 6 (some .int), Cond.classLink RX1 39 "java/lang/IllegalStateException", Cond.initialized "java/lang/IllegalStateException", Cond.constant RX1 38 (99999), Cond.fieldLink RX1 21 "Voidrent" "roll" "[LVoidrent$Lease;", Cond.classLink RX1 19 RX0, Cond.instantiable RX0 12]
def wsL_step_r3 : List Cond := [Cond.initialized RX0, Cond.methodLink RX1 46 yX1_daysLet, Cond.instanceMethod yX1_daysLet, Cond.selects RX1 yX1_daysLet yX1_daysLet, Cond.code yX1_daysLet cX1_daysLet 9 (some .int), Cond.methodLink RX1 138 yX0_daysWithin, Cond.instanceMethod yX0_daysWithin, Cond.selects RX0 yX0_daysWithin yX0_daysWithin, Cond.code yX0_daysWithin cX0_daysWithin 3 (some .int), Cond.fieldLink RX0 43 "Voidrent$Lease" "to" "I", Cond.methodLink RX0 49 Lib.Math.min.name, Cond.static Lib.Math.min.name, Cond.initialized "java/lang/Math", Cond.code Lib.Math.min.name Lib.Math.min.code 2 (some .int), Cond.fieldLink RX0 40 "Voidrent$Lease" "from" "I", Cond.methodLink RX0 55 Lib.Math.max.name, Cond.static Lib.Math.max.name, Cond.code Lib.Math.max.name Lib.Math.max.code 2 (some .int), Cond.methodLink RX1 52 yX0_init, Cond.instanceMethod yX0_init, Cond.code yX0_init cX0_init 5 none, Cond.methodLink RX0 3 objectInit, Cond.instanceMethod objectInit, Cond.code objectInit ⟨#[0xb1]⟩ 1 none]
def wsL_step_r4 : List Cond := [Cond.fieldLink RX0 9 "Voidrent$Lease" "free" "I", Cond.fieldLink RX0 15 "Voidrent$Lease" "every" "I", Cond.fieldLink RX0 18 "Voidrent$Lease" "cap" "I", Cond.fieldLink RX0 21 "Voidrent$Lease" "prepaid" "I", Cond.fieldLink RX0 24 "Voidrent$Lease" "deposit" "I", Cond.arrayClass .int, Cond.fieldLink RX0 27 "Voidrent$Lease" "stepDays" "[I", Cond.fieldLink RX0 31 "Voidrent$Lease" "stepRents" "[I", Cond.fieldLink RX0 34 "Voidrent$Lease" "steps" "I", Cond.fieldLink RX0 37 "Voidrent$Lease" "unit" "I", Cond.fieldLink RX0 46 "Voidrent$Lease" "firstRent" "I", Cond.methodLink RL 59 yX1_leaseOn, Cond.instanceMethod yX1_leaseOn, Cond.selects RX1 yX1_leaseOn yX1_leaseOn, Cond.code yX1_leaseOn cX1_leaseOn 5 (some .int), Cond.methodLink RX1 104 yX0_runsOn, Cond.instanceMethod yX0_runsOn, Cond.selects RX0 yX0_runsOn yX0_runsOn, Cond.code yX0_runsOn cX0_runsOn 2 (some .boolean), Cond.methodLink RL 37 yX1_rentOn, Cond.instanceMethod yX1_rentOn, Cond.selects RX1 yX1_rentOn yX1_rentOn, Cond.code yX1_rentOn cX1_rentOn 4 (some .int), Cond.methodLink RX1 55 yX1_find]
def wsL_step_r5 : List Cond := [Cond.instanceMethod yX1_find, Cond.selects RX1 yX1_find yX1_find, Cond.code yX1_find cX1_find 3 (some (.object "Voidrent$Lease")), Cond.methodLink RX1 86 yX1_rentFor, Cond.instanceMethod yX1_rentFor, Cond.selects RX1 yX1_rentFor yX1_rentFor, Cond.code yX1_rentFor cX1_rentFor 5 (some .int), Cond.methodLink RX1 93 Lib.Math.max.name, Cond.methodLink RX1 141 yX0_isFreeOn, Cond.instanceMethod yX0_isFreeOn, Cond.selects RX0 yX0_isFreeOn yX0_isFreeOn, Cond.code yX0_isFreeOn cX0_isFreeOn 2 (some .boolean), Cond.methodLink RX1 144 yX0_agreedOn, Cond.instanceMethod yX0_agreedOn, Cond.selects RX0 yX0_agreedOn yX0_agreedOn, Cond.code yX0_agreedOn cX0_agreedOn 5 (some .int), Cond.methodLink RX1 147 yX1_valueAt, Cond.static yX1_valueAt, Cond.code yX1_valueAt cX1_valueAt 2 (some .int), Cond.methodLink RX1 151 yX1_highestIndex, Cond.instanceMethod yX1_highestIndex, Cond.selects RX1 yX1_highestIndex yX1_highestIndex, Cond.code yX1_highestIndex cX1_highestIndex 7 (some .int), Cond.methodLink RX1 154 yX0_reviewsUpTo]
def wsL_step_r6 : List Cond := [Cond.instanceMethod yX0_reviewsUpTo, Cond.selects RX0 yX0_reviewsUpTo yX0_reviewsUpTo, Cond.code yX0_reviewsUpTo cX0_reviewsUpTo 2 (some .int), Cond.methodLink RL 62 yX1_held, Cond.instanceMethod yX1_held, Cond.selects RX1 yX1_held yX1_held, Cond.code yX1_held cX1_held 2 (some .int), Cond.methodLink RL 34 yX1_end, Cond.instanceMethod yX1_end, Cond.selects RX1 yX1_end yX1_end, Cond.code yX1_end cX1_end 5 (some .int), Cond.methodLink RL 40 yX1_step, Cond.instanceMethod yX1_step, Cond.selects RX1 yX1_step yX1_step, Cond.code yX1_step cX1_step 5 (some .int), Cond.methodLink RX1 65 yX0_putStep, Cond.instanceMethod yX0_putStep, Cond.selects RX0 yX0_putStep yX0_putStep, Cond.code yX0_putStep cX0_putStep 4 (some .boolean), Cond.methodLink RL 44 yX1_setTerms, Cond.instanceMethod yX1_setTerms, Cond.selects RX1 yX1_setTerms yX1_setTerms, Cond.code yX1_setTerms cX1_setTerms 5 none, Cond.methodLink RL 48 yX1_setService]
def wsL_step_r7 : List Cond := [Cond.instanceMethod yX1_setService, Cond.selects RX1 yX1_setService yX1_setService, Cond.code yX1_setService cX1_setService 5 none, Cond.methodLink RL 51 yL_pays, Cond.static yL_pays, Cond.code yL_pays cL_pays 9 (some .boolean), Cond.methodLink RL 66 yX1_draw, Cond.instanceMethod yX1_draw, Cond.selects RX1 yX1_draw yX1_draw, Cond.code yX1_draw cX1_draw 4 (some .int), Cond.methodLink RL 69 yX1_topUp, Cond.instanceMethod yX1_topUp, Cond.selects RX1 yX1_topUp yX1_topUp, Cond.code yX1_topUp cX1_topUp 6 (some .int)]
def wsL_step : List Cond := .code yL_step cL_step 17 (some .boolean) :: ((wsL_step_r1 ++ (wsL_step_r2 ++ (wsL_step_r3 ++ (wsL_step_r4 ++ (wsL_step_r5 ++ (wsL_step_r6 ++ wsL_step_r7)))))) ++ wsX10 ++ wsX00 ++ (vx_atS RX1 130 "java/lang/IndexOutOfBoundsException" ["java/lang/RuntimeException", "java/lang/Exception"]).filter goodWord ++ (vx_atS RX1 135 "java/lang/IllegalArgumentException" ["java/lang/RuntimeException", "java/lang/Exception"]).filter goodWord ++ (vx_atS RX1 43 "java/lang/IllegalStateException" ["java/lang/RuntimeException", "java/lang/Exception"]).filter goodWord)
def wsL_isLease_r1 : List Cond := [Cond.methodLink RL 37 yX1_rentOn, Cond.instanceMethod yX1_rentOn, Cond.selects RX1 yX1_rentOn yX1_rentOn, Cond.initialized RX1, Cond.code yX1_rentOn cX1_rentOn 4 (some .int), Cond.methodLink RX1 55 yX1_find, Cond.instanceMethod yX1_find, Cond.selects RX1 yX1_find yX1_find, Cond.code yX1_find cX1_find 3 (some (.object "Voidrent$Lease")), Cond.classLink RX1 126 "java/lang/IndexOutOfBoundsException", Cond.initialized "java/lang/IndexOutOfBoundsException", Cond.fieldLink RX1 21 "Voidrent" "roll" "[LVoidrent$Lease;", Cond.methodLink RX1 29 yX1_checkNumber, Cond.static yX1_checkNumber, Cond.code yX1_checkNumber cX1_checkNumber 2 none, Cond.methodLink RX1 86 yX1_rentFor, Cond.instanceMethod yX1_rentFor, Cond.selects RX1 yX1_rentFor yX1_rentFor, Cond.code yX1_rentFor cX1_rentFor 5 (some .int), Cond.fieldLink RX1 13 "Voidrent" "indices" "[I", Cond.methodLink RX1 93 Lib.Math.max.name, Cond.static Lib.Math.max.name, Cond.initialized "java/lang/Math", Cond.code Lib.Math.max.name Lib.Math.max.code 2 (some .int)]
def wsL_isLease_r2 : List Cond := [Cond.methodLink RX1 104 yX0_runsOn, Cond.instanceMethod yX0_runsOn, Cond.selects RX0 yX0_runsOn yX0_runsOn, Cond.initialized RX0, Cond.code yX0_runsOn cX0_runsOn 2 (some .boolean), Cond.fieldLink RX0 40 "Voidrent$Lease" "from" "I", Cond.fieldLink RX0 43 "Voidrent$Lease" "to" "I", Cond.methodLink RX1 141 yX0_isFreeOn, Cond.instanceMethod yX0_isFreeOn, Cond.selects RX0 yX0_isFreeOn yX0_isFreeOn, Cond.code yX0_isFreeOn cX0_isFreeOn 2 (some .boolean), Cond.fieldLink RX0 9 "Voidrent$Lease" "free" "I", Cond.methodLink RX1 144 yX0_agreedOn, Cond.instanceMethod yX0_agreedOn, Cond.selects RX0 yX0_agreedOn yX0_agreedOn, Cond.code yX0_agreedOn cX0_agreedOn 5 (some .int), Cond.fieldLink RX0 46 "Voidrent$Lease" "firstRent" "I", Cond.fieldLink RX0 34 "Voidrent$Lease" "steps" "I", Cond.fieldLink RX0 27 "Voidrent$Lease" "stepDays" "[I", Cond.fieldLink RX0 31 "Voidrent$Lease" "stepRents" "[I", Cond.methodLink RX1 147 yX1_valueAt, Cond.static yX1_valueAt, Cond.code yX1_valueAt cX1_valueAt 2 (some .int), Cond.methodLink RX1 151 yX1_highestIndex]
def wsL_isLease_r3 : List Cond := [Cond.instanceMethod yX1_highestIndex, Cond.selects RX1 yX1_highestIndex yX1_highestIndex, Cond.code yX1_highestIndex cX1_highestIndex 7 (some .int), Cond.methodLink RX1 154 yX0_reviewsUpTo, Cond.instanceMethod yX0_reviewsUpTo, Cond.selects RX0 yX0_reviewsUpTo yX0_reviewsUpTo, Cond.code yX0_reviewsUpTo cX0_reviewsUpTo 2 (some .int), Cond.fieldLink RX0 15 "Voidrent$Lease" "every" "I", Cond.methodLink RL 59 yX1_leaseOn, Cond.instanceMethod yX1_leaseOn, Cond.selects RX1 yX1_leaseOn yX1_leaseOn, Cond.code yX1_leaseOn cX1_leaseOn 5 (some .int), Cond.fieldLink RX1 9 "Voidrent" "areas" "[I", Cond.methodLink RL 72 yX1_nextChange, Cond.instanceMethod yX1_nextChange, Cond.selects RX1 yX1_nextChange yX1_nextChange, Cond.code yX1_nextChange cX1_nextChange 6 (some .int), Cond.methodLink RX1 111 yX0_nextTurn, Cond.instanceMethod yX0_nextTurn, Cond.selects RX0 yX0_nextTurn yX0_nextTurn, Cond.code yX0_nextTurn cX0_nextTurn 4 (some .int), Cond.methodLink RX0 61 yX0_sooner, Cond.static yX0_sooner, Cond.code yX0_sooner cX0_sooner 3 (some .int)]
def wsL_isLease_r4 : List Cond := [Cond.methodLink RX0 65 yX0_reviewsUpTo, Cond.methodLink RL 75 yX1_bill, Cond.instanceMethod yX1_bill, Cond.selects RX1 yX1_bill yX1_bill, Cond.code yX1_bill cX1_bill 4 (some .int), Cond.methodLink RX1 108 yX1_billFor, Cond.instanceMethod yX1_billFor, Cond.selects RX1 yX1_billFor yX1_billFor, Cond.code yX1_billFor cX1_billFor 8 (some .int), Cond.methodLink RX1 157 Lib.Math.min.name, Cond.static Lib.Math.min.name, Cond.code Lib.Math.min.name Lib.Math.min.code 2 (some .int), Cond.methodLink RL 78 yX1_billByDays, Cond.instanceMethod yX1_billByDays, Cond.selects RX1 yX1_billByDays yX1_billByDays, Cond.code yX1_billByDays cX1_billByDays 7 (some .int), Cond.methodLink RL 81 yX1_bills, Cond.instanceMethod yX1_bills, Cond.selects RX1 yX1_bills yX1_bills, Cond.code yX1_bills cX1_bills 8 (some .long), Cond.methodLink RX1 33 yX1_checkRange, Cond.static yX1_checkRange, Cond.code yX1_checkRange cX1_checkRange 3 none, Cond.classLink RX1 131 "java/lang/IllegalArgumentException"]
def wsL_isLease_r5 : List Cond := [Cond.initialized "java/lang/IllegalArgumentException"]
def wsL_isLease : List Cond := .code yL_isLease cL_isLease 12 (some .boolean) :: ((wsL_isLease_r1 ++ (wsL_isLease_r2 ++ (wsL_isLease_r3 ++ (wsL_isLease_r4 ++ wsL_isLease_r5)))) ++ wsX10 ++ wsX00 ++ (vx_atS RX1 130 "java/lang/IndexOutOfBoundsException" ["java/lang/RuntimeException", "java/lang/Exception"]).filter goodWord ++ (vx_atS RX1 135 "java/lang/IllegalArgumentException" ["java/lang/RuntimeException", "java/lang/Exception"]).filter goodWord)
def wsL_isCost_r1 : List Cond := [Cond.methodLink RL 98 yX1_owners, Cond.instanceMethod yX1_owners, Cond.selects RX1 yX1_owners yX1_owners, Cond.initialized RX1, Cond.code yX1_owners cX1_owners 7 (some .int), Cond.fieldLink RX1 16 "Voidrent" "costs" "[I", Cond.fieldLink RX1 21 "Voidrent" "roll" "[LVoidrent$Lease;", Cond.methodLink RX1 29 yX1_checkNumber, Cond.static yX1_checkNumber, Cond.code yX1_checkNumber cX1_checkNumber 2 none, Cond.classLink RX1 126 "java/lang/IndexOutOfBoundsException", Cond.initialized "java/lang/IndexOutOfBoundsException", Cond.methodLink RX1 115 yX1_partOf, Cond.instanceMethod yX1_partOf, Cond.selects RX1 yX1_partOf yX1_partOf, Cond.code yX1_partOf cX1_partOf 8 (some .int), Cond.fieldLink RX1 9 "Voidrent" "areas" "[I", Cond.constantLong RX1 160 (360), Cond.methodLink RX1 157 Lib.Math.min.name, Cond.static Lib.Math.min.name, Cond.initialized "java/lang/Math", Cond.code Lib.Math.min.name Lib.Math.min.code 2 (some .int), Cond.methodLink RX1 122 yX1_allAreas, Cond.instanceMethod yX1_allAreas]
def wsL_isCost_r2 : List Cond := [Cond.selects RX1 yX1_allAreas yX1_allAreas, Cond.code yX1_allAreas cX1_allAreas 6 (some .int), Cond.methodLink RX1 119 yX0_daysIn, Cond.instanceMethod yX0_daysIn, Cond.selects RX0 yX0_daysIn yX0_daysIn, Cond.initialized RX0, Cond.code yX0_daysIn cX0_daysIn 3 (some .int), Cond.methodLink RX0 58 yX0_daysWithin, Cond.instanceMethod yX0_daysWithin, Cond.selects RX0 yX0_daysWithin yX0_daysWithin, Cond.code yX0_daysWithin cX0_daysWithin 3 (some .int), Cond.fieldLink RX0 43 "Voidrent$Lease" "to" "I", Cond.methodLink RX0 49 Lib.Math.min.name, Cond.fieldLink RX0 40 "Voidrent$Lease" "from" "I", Cond.methodLink RX0 55 Lib.Math.max.name, Cond.static Lib.Math.max.name, Cond.code Lib.Math.max.name Lib.Math.max.code 2 (some .int), Cond.methodLink RX1 147 yX1_valueAt, Cond.static yX1_valueAt, Cond.code yX1_valueAt cX1_valueAt 2 (some .int), Cond.methodLink RL 20 yX1_setCost, Cond.instanceMethod yX1_setCost, Cond.selects RX1 yX1_setCost yX1_setCost, Cond.code yX1_setCost cX1_setCost 4 (some .int)]
def wsL_isCost_r3 : List Cond := [Cond.constant RX1 37 (999999), Cond.methodLink RX1 33 yX1_checkRange, Cond.static yX1_checkRange, Cond.code yX1_checkRange cX1_checkRange 3 none, Cond.classLink RX1 131 "java/lang/IllegalArgumentException", Cond.initialized "java/lang/IllegalArgumentException"]
def wsL_isCost : List Cond := .code yL_isCost cL_isCost 6 (some .boolean) :: ((wsL_isCost_r1 ++ (wsL_isCost_r2 ++ wsL_isCost_r3)) ++ wsX10 ++ wsX00 ++ (vx_atS RX1 130 "java/lang/IndexOutOfBoundsException" ["java/lang/RuntimeException", "java/lang/Exception"]).filter goodWord ++ (vx_atS RX1 135 "java/lang/IllegalArgumentException" ["java/lang/RuntimeException", "java/lang/Exception"]).filter goodWord)
def wsL_isYear_r1 : List Cond := [Cond.constantDouble RL 105 (4607173411600762667), Cond.constantDouble RL 107 (4607186922399644778), Cond.methodLink RL 85 yX1_share, Cond.instanceMethod yX1_share, Cond.selects RX1 yX1_share yX1_share, Cond.initialized RX1, Cond.code yX1_share cX1_share 3 (some .double), Cond.fieldLink RX1 9 "Voidrent" "areas" "[I", Cond.methodLink RX1 29 yX1_checkNumber, Cond.static yX1_checkNumber, Cond.code yX1_checkNumber cX1_checkNumber 2 none, Cond.classLink RX1 126 "java/lang/IndexOutOfBoundsException", Cond.initialized "java/lang/IndexOutOfBoundsException", Cond.methodLink RX1 122 yX1_allAreas, Cond.instanceMethod yX1_allAreas, Cond.selects RX1 yX1_allAreas yX1_allAreas, Cond.code yX1_allAreas cX1_allAreas 6 (some .int), Cond.methodLink RL 89 yX1_voids, Cond.instanceMethod yX1_voids, Cond.selects RX1 yX1_voids yX1_voids, Cond.code yX1_voids cX1_voids 4 (some .int), Cond.methodLink RX1 46 yX1_daysLet, Cond.instanceMethod yX1_daysLet, Cond.selects RX1 yX1_daysLet yX1_daysLet]
def wsL_isYear_r2 : List Cond := [Cond.code yX1_daysLet cX1_daysLet 9 (some .int), Cond.fieldLink RX1 21 "Voidrent" "roll" "[LVoidrent$Lease;", Cond.methodLink RX1 138 yX0_daysWithin, Cond.instanceMethod yX0_daysWithin, Cond.selects RX0 yX0_daysWithin yX0_daysWithin, Cond.initialized RX0, Cond.code yX0_daysWithin cX0_daysWithin 3 (some .int), Cond.fieldLink RX0 43 "Voidrent$Lease" "to" "I", Cond.methodLink RX0 49 Lib.Math.min.name, Cond.static Lib.Math.min.name, Cond.initialized "java/lang/Math", Cond.code Lib.Math.min.name Lib.Math.min.code 2 (some .int), Cond.fieldLink RX0 40 "Voidrent$Lease" "from" "I", Cond.methodLink RX0 55 Lib.Math.max.name, Cond.static Lib.Math.max.name, Cond.code Lib.Math.max.name Lib.Math.max.code 2 (some .int), Cond.methodLink RL 92 yX1_part, Cond.instanceMethod yX1_part, Cond.selects RX1 yX1_part yX1_part, Cond.code yX1_part cX1_part 4 (some .int), Cond.fieldLink RX1 16 "Voidrent" "costs" "[I", Cond.methodLink RX1 55 yX1_find, Cond.instanceMethod yX1_find, Cond.selects RX1 yX1_find yX1_find]
def wsL_isYear_r3 : List Cond := [Cond.code yX1_find cX1_find 3 (some (.object "Voidrent$Lease")), Cond.methodLink RX1 115 yX1_partOf, Cond.instanceMethod yX1_partOf, Cond.selects RX1 yX1_partOf yX1_partOf, Cond.code yX1_partOf cX1_partOf 8 (some .int), Cond.constantLong RX1 160 (360), Cond.methodLink RX1 157 Lib.Math.min.name, Cond.methodLink RX1 119 yX0_daysIn, Cond.instanceMethod yX0_daysIn, Cond.selects RX0 yX0_daysIn yX0_daysIn, Cond.code yX0_daysIn cX0_daysIn 3 (some .int), Cond.methodLink RX0 58 yX0_daysWithin, Cond.methodLink RX1 147 yX1_valueAt, Cond.static yX1_valueAt, Cond.code yX1_valueAt cX1_valueAt 2 (some .int), Cond.methodLink RL 95 yX1_balance, Cond.instanceMethod yX1_balance, Cond.selects RX1 yX1_balance yX1_balance, Cond.code yX1_balance cX1_balance 5 (some .int), Cond.methodLink RL 98 yX1_owners, Cond.instanceMethod yX1_owners, Cond.selects RX1 yX1_owners yX1_owners, Cond.code yX1_owners cX1_owners 7 (some .int), Cond.methodLink RL 101 yL_isCost]
def wsL_isYear_r4 : List Cond := [Cond.static yL_isCost, Cond.initialized RL, Cond.code yL_isCost cL_isCost 6 (some .boolean), Cond.methodLink RL 20 yX1_setCost, Cond.instanceMethod yX1_setCost, Cond.selects RX1 yX1_setCost yX1_setCost, Cond.code yX1_setCost cX1_setCost 4 (some .int), Cond.constant RX1 37 (999999), Cond.methodLink RX1 33 yX1_checkRange, Cond.static yX1_checkRange, Cond.code yX1_checkRange cX1_checkRange 3 none, Cond.classLink RX1 131 "java/lang/IllegalArgumentException", Cond.initialized "java/lang/IllegalArgumentException"]
def wsL_isYear : List Cond := .code yL_isYear cL_isYear 14 (some .boolean) :: ((wsL_isYear_r1 ++ (wsL_isYear_r2 ++ (wsL_isYear_r3 ++ wsL_isYear_r4))) ++ wsX10 ++ wsX00 ++ (vx_atS RX1 130 "java/lang/IndexOutOfBoundsException" ["java/lang/RuntimeException", "java/lang/Exception"]).filter goodWord ++ (vx_atS RX1 135 "java/lang/IllegalArgumentException" ["java/lang/RuntimeException", "java/lang/Exception"]).filter goodWord)
def wsL_law0_r1 : List Cond := [Cond.classLink RL 11 RX1, Cond.instantiable RX1 5, Cond.initialized RX1, Cond.arrayClass .int, Cond.methodLink RL 109 yX1_init, Cond.instanceMethod yX1_init, Cond.code yX1_init cX1_init 2 none, Cond.methodLink RX1 1 objectInit, Cond.instanceMethod objectInit, Cond.code objectInit ⟨#[0xb1]⟩ 1 none, Cond.fieldLink RX1 9 "Voidrent" "areas" "[I", Cond.fieldLink RX1 13 "Voidrent" "indices" "[I", Cond.fieldLink RX1 16 "Voidrent" "costs" "[I", Cond.classLink RX1 19 RX0, Cond.fieldLink RX1 21 "Voidrent" "roll" "[LVoidrent$Lease;", Cond.fieldLink RX1 25 "Voidrent" "count" "I", Cond.methodLink RL 30 yX1_leases, Cond.instanceMethod yX1_leases, Cond.selects RX1 yX1_leases yX1_leases, Cond.code yX1_leases cX1_leases 1 (some .int), Cond.methodLink RL 98 yX1_owners, Cond.instanceMethod yX1_owners, Cond.selects RX1 yX1_owners yX1_owners, Cond.code yX1_owners cX1_owners 7 (some .int)]
def wsL_law0_r2 : List Cond := [Cond.methodLink RX1 29 yX1_checkNumber, Cond.static yX1_checkNumber, Cond.code yX1_checkNumber cX1_checkNumber 2 none, Cond.classLink RX1 126 "java/lang/IndexOutOfBoundsException", Cond.initialized "java/lang/IndexOutOfBoundsException", Cond.methodLink RX1 115 yX1_partOf, Cond.instanceMethod yX1_partOf, Cond.selects RX1 yX1_partOf yX1_partOf, Cond.code yX1_partOf cX1_partOf 8 (some .int), Cond.constantLong RX1 160 (360), Cond.methodLink RX1 157 Lib.Math.min.name, Cond.static Lib.Math.min.name, Cond.initialized "java/lang/Math", Cond.code Lib.Math.min.name Lib.Math.min.code 2 (some .int), Cond.methodLink RX1 122 yX1_allAreas, Cond.instanceMethod yX1_allAreas, Cond.selects RX1 yX1_allAreas yX1_allAreas, Cond.code yX1_allAreas cX1_allAreas 6 (some .int), Cond.methodLink RX1 119 yX0_daysIn, Cond.instanceMethod yX0_daysIn, Cond.selects RX0 yX0_daysIn yX0_daysIn, Cond.initialized RX0, Cond.code yX0_daysIn cX0_daysIn 3 (some .int), Cond.methodLink RX0 58 yX0_daysWithin]
def wsL_law0_r3 : List Cond := [Cond.instanceMethod yX0_daysWithin, Cond.selects RX0 yX0_daysWithin yX0_daysWithin, Cond.code yX0_daysWithin cX0_daysWithin 3 (some .int), Cond.fieldLink RX0 43 "Voidrent$Lease" "to" "I", Cond.methodLink RX0 49 Lib.Math.min.name, Cond.fieldLink RX0 40 "Voidrent$Lease" "from" "I", Cond.methodLink RX0 55 Lib.Math.max.name, Cond.static Lib.Math.max.name, Cond.code Lib.Math.max.name Lib.Math.max.code 2 (some .int), Cond.methodLink RX1 147 yX1_valueAt, Cond.static yX1_valueAt, Cond.code yX1_valueAt cX1_valueAt 2 (some .int), Cond.methodLink RL 85 yX1_share, Cond.instanceMethod yX1_share, Cond.selects RX1 yX1_share yX1_share, Cond.code yX1_share cX1_share 3 (some .double), Cond.methodLink RL 89 yX1_voids, Cond.instanceMethod yX1_voids, Cond.selects RX1 yX1_voids yX1_voids, Cond.code yX1_voids cX1_voids 4 (some .int), Cond.methodLink RX1 46 yX1_daysLet, Cond.instanceMethod yX1_daysLet, Cond.selects RX1 yX1_daysLet yX1_daysLet, Cond.code yX1_daysLet cX1_daysLet 9 (some .int)]
def wsL_law0_r4 : List Cond := [Cond.methodLink RX1 138 yX0_daysWithin, Cond.methodLink RL 110 yL_draw, Cond.static yL_draw, Cond.initialized RL, Cond.code yL_draw cL_draw 2 (some .int), Cond.constant RL 7 (2147483647), Cond.constant RL 8 (104729), Cond.constant RL 9 (65521), Cond.methodLink RL 113 yL_step, Cond.static yL_step, Cond.code yL_step cL_step 17 (some .boolean), Cond.constant RL 19 (1000000), Cond.constant RL 23 (99999), Cond.methodLink RL 10 yX1_setArea, Cond.instanceMethod yX1_setArea, Cond.selects RX1 yX1_setArea yX1_setArea, Cond.code yX1_setArea cX1_setArea 4 (some .int), Cond.methodLink RX1 33 yX1_checkRange, Cond.static yX1_checkRange, Cond.code yX1_checkRange cX1_checkRange 3 none, Cond.classLink RX1 131 "java/lang/IllegalArgumentException", Cond.initialized "java/lang/IllegalArgumentException", Cond.methodLink RL 16 yX1_setIndex, Cond.instanceMethod yX1_setIndex]
def wsL_law0_r5 : List Cond := [Cond.selects RX1 yX1_setIndex yX1_setIndex, Cond.code yX1_setIndex cX1_setIndex 4 (some .int), Cond.methodLink RL 20 yX1_setCost, Cond.instanceMethod yX1_setCost, Cond.selects RX1 yX1_setCost yX1_setCost, Cond.code yX1_setCost cX1_setCost 4 (some .int), Cond.constant RX1 37 (999999), Cond.methodLink RL 24 yL_lets, Cond.static yL_lets, Cond.code yL_lets cL_lets 10 (some .boolean), Cond.methodLink RL 55 yX1_let, Cond.instanceMethod yX1_let, Cond.selects RX1 yX1_let yX1_let, Cond.code yX1_let cX1_let 6 (some .int), Cond.classLink RX1 39 "java/lang/IllegalStateException", Cond.initialized "java/lang/IllegalStateException", Cond.constant RX1 38 (99999), Cond.instantiable RX0 12, Cond.methodLink RX1 52 yX0_init, Cond.instanceMethod yX0_init, Cond.code yX0_init cX0_init 5 none, Cond.methodLink RX0 3 objectInit, Cond.fieldLink RX0 9 "Voidrent$Lease" "free" "I", Cond.fieldLink RX0 15 "Voidrent$Lease" "every" "I"]
def wsL_law0_r6 : List Cond := [Cond.fieldLink RX0 18 "Voidrent$Lease" "cap" "I", Cond.fieldLink RX0 21 "Voidrent$Lease" "prepaid" "I", Cond.fieldLink RX0 24 "Voidrent$Lease" "deposit" "I", Cond.fieldLink RX0 27 "Voidrent$Lease" "stepDays" "[I", Cond.fieldLink RX0 31 "Voidrent$Lease" "stepRents" "[I", Cond.fieldLink RX0 34 "Voidrent$Lease" "steps" "I", Cond.fieldLink RX0 37 "Voidrent$Lease" "unit" "I", Cond.fieldLink RX0 46 "Voidrent$Lease" "firstRent" "I", Cond.methodLink RL 59 yX1_leaseOn, Cond.instanceMethod yX1_leaseOn, Cond.selects RX1 yX1_leaseOn yX1_leaseOn, Cond.code yX1_leaseOn cX1_leaseOn 5 (some .int), Cond.methodLink RX1 104 yX0_runsOn, Cond.instanceMethod yX0_runsOn, Cond.selects RX0 yX0_runsOn yX0_runsOn, Cond.code yX0_runsOn cX0_runsOn 2 (some .boolean), Cond.methodLink RL 37 yX1_rentOn, Cond.instanceMethod yX1_rentOn, Cond.selects RX1 yX1_rentOn yX1_rentOn, Cond.code yX1_rentOn cX1_rentOn 4 (some .int), Cond.methodLink RX1 55 yX1_find, Cond.instanceMethod yX1_find, Cond.selects RX1 yX1_find yX1_find, Cond.code yX1_find cX1_find 3 (some (.object "Voidrent$Lease"))]
def wsL_law0_r7 : List Cond := [Cond.methodLink RX1 86 yX1_rentFor, Cond.instanceMethod yX1_rentFor, Cond.selects RX1 yX1_rentFor yX1_rentFor, Cond.code yX1_rentFor cX1_rentFor 5 (some .int), Cond.methodLink RX1 93 Lib.Math.max.name, Cond.methodLink RX1 141 yX0_isFreeOn, Cond.instanceMethod yX0_isFreeOn, Cond.selects RX0 yX0_isFreeOn yX0_isFreeOn, Cond.code yX0_isFreeOn cX0_isFreeOn 2 (some .boolean), Cond.methodLink RX1 144 yX0_agreedOn, Cond.instanceMethod yX0_agreedOn, Cond.selects RX0 yX0_agreedOn yX0_agreedOn, Cond.code yX0_agreedOn cX0_agreedOn 5 (some .int), Cond.methodLink RX1 151 yX1_highestIndex, Cond.instanceMethod yX1_highestIndex, Cond.selects RX1 yX1_highestIndex yX1_highestIndex, Cond.code yX1_highestIndex cX1_highestIndex 7 (some .int), Cond.methodLink RX1 154 yX0_reviewsUpTo, Cond.instanceMethod yX0_reviewsUpTo, Cond.selects RX0 yX0_reviewsUpTo yX0_reviewsUpTo, Cond.code yX0_reviewsUpTo cX0_reviewsUpTo 2 (some .int), Cond.methodLink RL 62 yX1_held, Cond.instanceMethod yX1_held, Cond.selects RX1 yX1_held yX1_held]
def wsL_law0_r8 : List Cond := [Cond.code yX1_held cX1_held 2 (some .int), Cond.methodLink RL 34 yX1_end, Cond.instanceMethod yX1_end, Cond.selects RX1 yX1_end yX1_end, Cond.code yX1_end cX1_end 5 (some .int), Cond.methodLink RL 40 yX1_step, Cond.instanceMethod yX1_step, Cond.selects RX1 yX1_step yX1_step, Cond.code yX1_step cX1_step 5 (some .int), Cond.methodLink RX1 65 yX0_putStep, Cond.instanceMethod yX0_putStep, Cond.selects RX0 yX0_putStep yX0_putStep, Cond.code yX0_putStep cX0_putStep 4 (some .boolean), Cond.methodLink RL 44 yX1_setTerms, Cond.instanceMethod yX1_setTerms, Cond.selects RX1 yX1_setTerms yX1_setTerms, Cond.code yX1_setTerms cX1_setTerms 5 none, Cond.methodLink RL 48 yX1_setService, Cond.instanceMethod yX1_setService, Cond.selects RX1 yX1_setService yX1_setService, Cond.code yX1_setService cX1_setService 5 none, Cond.methodLink RL 51 yL_pays, Cond.static yL_pays, Cond.code yL_pays cL_pays 9 (some .boolean)]
def wsL_law0_r9 : List Cond := [Cond.methodLink RL 66 yX1_draw, Cond.instanceMethod yX1_draw, Cond.selects RX1 yX1_draw yX1_draw, Cond.code yX1_draw cX1_draw 4 (some .int), Cond.methodLink RL 69 yX1_topUp, Cond.instanceMethod yX1_topUp, Cond.selects RX1 yX1_topUp yX1_topUp, Cond.code yX1_topUp cX1_topUp 6 (some .int), Cond.methodLink RL 116 yL_isLease, Cond.static yL_isLease, Cond.code yL_isLease cL_isLease 12 (some .boolean), Cond.methodLink RL 72 yX1_nextChange, Cond.instanceMethod yX1_nextChange, Cond.selects RX1 yX1_nextChange yX1_nextChange, Cond.code yX1_nextChange cX1_nextChange 6 (some .int), Cond.methodLink RX1 111 yX0_nextTurn, Cond.instanceMethod yX0_nextTurn, Cond.selects RX0 yX0_nextTurn yX0_nextTurn, Cond.code yX0_nextTurn cX0_nextTurn 4 (some .int), Cond.methodLink RX0 61 yX0_sooner, Cond.static yX0_sooner, Cond.code yX0_sooner cX0_sooner 3 (some .int), Cond.methodLink RX0 65 yX0_reviewsUpTo, Cond.methodLink RL 75 yX1_bill]
def wsL_law0_r10 : List Cond := [Cond.instanceMethod yX1_bill, Cond.selects RX1 yX1_bill yX1_bill, Cond.code yX1_bill cX1_bill 4 (some .int), Cond.methodLink RX1 108 yX1_billFor, Cond.instanceMethod yX1_billFor, Cond.selects RX1 yX1_billFor yX1_billFor, Cond.code yX1_billFor cX1_billFor 8 (some .int), Cond.methodLink RL 78 yX1_billByDays, Cond.instanceMethod yX1_billByDays, Cond.selects RX1 yX1_billByDays yX1_billByDays, Cond.code yX1_billByDays cX1_billByDays 7 (some .int), Cond.methodLink RL 81 yX1_bills, Cond.instanceMethod yX1_bills, Cond.selects RX1 yX1_bills yX1_bills, Cond.code yX1_bills cX1_bills 8 (some .long), Cond.methodLink RL 120 yL_isYear, Cond.static yL_isYear, Cond.code yL_isYear cL_isYear 14 (some .boolean), Cond.constantDouble RL 105 (4607173411600762667), Cond.constantDouble RL 107 (4607186922399644778), Cond.methodLink RL 92 yX1_part, Cond.instanceMethod yX1_part, Cond.selects RX1 yX1_part yX1_part, Cond.code yX1_part cX1_part 4 (some .int)]
def wsL_law0_r11 : List Cond := [Cond.methodLink RL 95 yX1_balance, Cond.instanceMethod yX1_balance, Cond.selects RX1 yX1_balance yX1_balance, Cond.code yX1_balance cX1_balance 5 (some .int), Cond.methodLink RL 101 yL_isCost, Cond.static yL_isCost, Cond.code yL_isCost cL_isCost 6 (some .boolean)]
def wsL_law0 : List Cond := (wsL_law0_r1 ++ (wsL_law0_r2 ++ (wsL_law0_r3 ++ (wsL_law0_r4 ++ (wsL_law0_r5 ++ (wsL_law0_r6 ++ (wsL_law0_r7 ++ (wsL_law0_r8 ++ (wsL_law0_r9 ++ (wsL_law0_r10 ++ wsL_law0_r11)))))))))) ++ wsX10 ++ wsX00 ++ ([] : List Cond)
def wsL_law : List Cond := wsL_law0 ++ (vx_atS RX1 130 "java/lang/IndexOutOfBoundsException" ["java/lang/RuntimeException", "java/lang/Exception"]).filter goodWord ++ (vx_atS RX1 135 "java/lang/IllegalArgumentException" ["java/lang/RuntimeException", "java/lang/Exception"]).filter goodWord ++ (vx_atS RX1 43 "java/lang/IllegalStateException" ["java/lang/RuntimeException", "java/lang/Exception"]).filter goodWord
end
section
set_option maxRecDepth 20000 in
theorem in0_wsL_law0_r1 : ∀ w ∈ wsL_law0_r1, w ∈ lw_tbl := fun w h => (goodIn_p wsL_law0_r1 [22, 25, 48, 141] (by decide +kernel) (by decide +kernel) w h).1
set_option maxRecDepth 20000 in
theorem in0_wsL_law0_r2 : ∀ w ∈ wsL_law0_r2, w ∈ lw_tbl := fun w h => (goodIn_p wsL_law0_r2 [55, 145, 134, 149, 153] (by decide +kernel) (by decide +kernel) w h).1
set_option maxRecDepth 20000 in
theorem in0_wsL_law0_r3 : ∀ w ∈ wsL_law0_r3, w ∈ lw_tbl := fun w h => (goodIn_p wsL_law0_r3 [131, 137, 157, 163, 52, 127] (by decide +kernel) (by decide +kernel) w h).1
set_option maxRecDepth 20000 in
theorem in0_wsL_law0_r4 : ∀ w ∈ wsL_law0_r4, w ∈ lw_tbl := fun w h => (goodIn_p wsL_law0_r4 [166, 172, 176, 179] rfl (by decide +kernel) w h).1
set_option maxRecDepth 20000 in
theorem in0_wsL_law0_r5 : ∀ w ∈ wsL_law0_r5, w ∈ lw_tbl := fun w h => (goodIn_p wsL_law0_r5 [199, 204, 209, 213, 235] rfl (by decide +kernel) w h).1
set_option maxRecDepth 20000 in
theorem in0_wsL_law0_r6 : ∀ w ∈ wsL_law0_r6, w ∈ lw_tbl := fun w h => (goodIn_p wsL_law0_r6 [286, 290, 294, 298] (by decide +kernel) (by decide +kernel) w h).1
set_option maxRecDepth 20000 in
theorem in0_wsL_law0_r7 : ∀ w ∈ wsL_law0_r7, w ∈ lw_tbl := fun w h => (goodIn_p wsL_law0_r7 [303, 307, 311, 315, 319] (by decide +kernel) (by decide +kernel) w h).1
set_option maxRecDepth 20000 in
theorem in0_wsL_law0_r8 : ∀ w ∈ wsL_law0_r8, w ∈ lw_tbl := fun w h => (goodIn_p wsL_law0_r8 [324, 328, 332, 336, 341, 345, 348] rfl (by decide +kernel) w h).1
set_option maxRecDepth 20000 in
theorem in0_wsL_law0_r9 : ∀ w ∈ wsL_law0_r9, w ∈ lw_tbl := fun w h => (goodIn_p wsL_law0_r9 [352, 357, 360, 364, 368, 371] rfl (by decide +kernel) w h).1
set_option maxRecDepth 20000 in
theorem in0_wsL_law0_r10 : ∀ w ∈ wsL_law0_r10, w ∈ lw_tbl := fun w h => (goodIn_p wsL_law0_r10 [376, 380, 384, 388, 391, 395] rfl (by decide +kernel) w h).1
set_option maxRecDepth 20000 in
theorem in0_wsL_law0_r11 : ∀ w ∈ wsL_law0_r11, w ∈ lw_tbl := fun w h => (goodIn_p wsL_law0_r11 [399, 402] rfl (by decide +kernel) w h).1
set_option maxRecDepth 20000 in
theorem in0_wsX10 : ∀ w ∈ wsX10, w ∈ lw_tbl := fun w h => (goodIn_p wsX10 [] (by decide +kernel) (by decide +kernel) w h).1
set_option maxRecDepth 20000 in
theorem in0_wsX00 : ∀ w ∈ wsX00, w ∈ lw_tbl := fun w h => (goodIn_p wsX00 [] (by decide +kernel) (by decide +kernel) w h).1
theorem wsL_law_in0 : ∀ w ∈ wsL_law0, w ∈ lw_tbl := by
  intro w h
  rcases List.mem_append.mp h with h | h
  · rcases List.mem_append.mp h with h | h
    · rcases List.mem_append.mp h with h | h
      · rcases List.mem_append.mp h with h | h
        · exact in0_wsL_law0_r1 w h
        rcases List.mem_append.mp h with h | h
        · exact in0_wsL_law0_r2 w h
        rcases List.mem_append.mp h with h | h
        · exact in0_wsL_law0_r3 w h
        rcases List.mem_append.mp h with h | h
        · exact in0_wsL_law0_r4 w h
        rcases List.mem_append.mp h with h | h
        · exact in0_wsL_law0_r5 w h
        rcases List.mem_append.mp h with h | h
        · exact in0_wsL_law0_r6 w h
        rcases List.mem_append.mp h with h | h
        · exact in0_wsL_law0_r7 w h
        rcases List.mem_append.mp h with h | h
        · exact in0_wsL_law0_r8 w h
        rcases List.mem_append.mp h with h | h
        · exact in0_wsL_law0_r9 w h
        rcases List.mem_append.mp h with h | h
        · exact in0_wsL_law0_r10 w h
        exact in0_wsL_law0_r11 w h
      · exact in0_wsX10 w h
    · exact in0_wsX00 w h
  · exact absurd h List.not_mem_nil
theorem wsL_law_x0 : ∀ w ∈ (vx_atS RX1 130 "java/lang/IndexOutOfBoundsException" ["java/lang/RuntimeException", "java/lang/Exception"]).filter goodWord, w ∈ lw_tbl := by decide +kernel
theorem wsL_law_x1 : ∀ w ∈ (vx_atS RX1 135 "java/lang/IllegalArgumentException" ["java/lang/RuntimeException", "java/lang/Exception"]).filter goodWord, w ∈ lw_tbl := by decide +kernel
theorem wsL_law_x2 : ∀ w ∈ (vx_atS RX1 43 "java/lang/IllegalStateException" ["java/lang/RuntimeException", "java/lang/Exception"]).filter goodWord, w ∈ lw_tbl := by decide +kernel
theorem wsL_law_in : ∀ w ∈ wsL_law, w ∈ lw_tbl := fun w h => (List.mem_append.mp h).elim (fun h => (List.mem_append.mp h).elim (fun h => (List.mem_append.mp h).elim (fun h => wsL_law_in0 w h) (fun h => wsL_law_x0 w h)) (fun h => wsL_law_x1 w h)) (fun h => wsL_law_x2 w h)
theorem inlX0 : ∀ w ∈ wsX00, w ∈ wsL_law := fun _ h => List.mem_append_left _ (List.mem_append_left _ (List.mem_append_left _ (List.mem_append_left _ (List.mem_append_right _ h))))
theorem inX0 : ∀ w ∈ wsX00, w ∈ lw_tbl := fun w h => wsL_law_in w (inlX0 w h)
theorem inlX1 : ∀ w ∈ wsX10, w ∈ wsL_law := fun _ h => List.mem_append_left _ (List.mem_append_left _ (List.mem_append_left _ (List.mem_append_left _ (List.mem_append_left _ (List.mem_append_right _ h)))))
theorem inX1 : ∀ w ∈ wsX10, w ∈ lw_tbl := fun w h => wsL_law_in w (inlX1 w h)
theorem inX2 : ∀ w ∈ wsX20, w ∈ lw_tbl := by decide +kernel
theorem inJ9 : ∀ w ∈ wsJ90, w ∈ lw_tbl := by decide +kernel
theorem inJ0 : ∀ w ∈ wsJ00, w ∈ lw_tbl := by decide +kernel
end
section
theorem dX0_init_0 : decode cX0_init 0 = .ok (.aload_n 0, 1) := by decide +kernel
theorem dX0_init_1 : decode cX0_init 1 = .ok (.invokespecial 3, 3) := by decide +kernel
theorem dX0_init_4 : decode cX0_init 4 = .ok (.aload_n 0, 1) := by decide +kernel
theorem dX0_init_5 : decode cX0_init 5 = .ok (.iconst 0, 1) := by decide +kernel
theorem dX0_init_6 : decode cX0_init 6 = .ok (.putfield 9, 3) := by decide +kernel
theorem dX0_init_9 : decode cX0_init 9 = .ok (.aload_n 0, 1) := by decide +kernel
theorem dX0_init_10 : decode cX0_init 10 = .ok (.iconst 0, 1) := by decide +kernel
theorem dX0_init_11 : decode cX0_init 11 = .ok (.putfield 15, 3) := by decide +kernel
theorem dX0_init_14 : decode cX0_init 14 = .ok (.aload_n 0, 1) := by decide +kernel
theorem dX0_init_15 : decode cX0_init 15 = .ok (.iconst (-1), 1) := by decide +kernel
theorem dX0_init_16 : decode cX0_init 16 = .ok (.putfield 18, 3) := by decide +kernel
theorem dX0_init_19 : decode cX0_init 19 = .ok (.aload_n 0, 1) := by decide +kernel
theorem dX0_init_20 : decode cX0_init 20 = .ok (.iconst 0, 1) := by decide +kernel
theorem dX0_init_21 : decode cX0_init 21 = .ok (.putfield 21, 3) := by decide +kernel
theorem dX0_init_24 : decode cX0_init 24 = .ok (.aload_n 0, 1) := by decide +kernel
theorem dX0_init_25 : decode cX0_init 25 = .ok (.iconst 0, 1) := by decide +kernel
theorem dX0_init_26 : decode cX0_init 26 = .ok (.putfield 24, 3) := by decide +kernel
theorem dX0_init_29 : decode cX0_init 29 = .ok (.aload_n 0, 1) := by decide +kernel
theorem dX0_init_30 : decode cX0_init 30 = .ok (.bipush 6, 2) := by decide +kernel
theorem dX0_init_32 : decode cX0_init 32 = .ok (.newarray .int, 2) := by decide +kernel
theorem dX0_init_34 : decode cX0_init 34 = .ok (.putfield 27, 3) := by decide +kernel
theorem dX0_init_37 : decode cX0_init 37 = .ok (.aload_n 0, 1) := by decide +kernel
theorem dX0_init_38 : decode cX0_init 38 = .ok (.bipush 6, 2) := by decide +kernel
theorem dX0_init_40 : decode cX0_init 40 = .ok (.newarray .int, 2) := by decide +kernel
theorem dX0_init_42 : decode cX0_init 42 = .ok (.putfield 31, 3) := by decide +kernel
theorem dX0_init_45 : decode cX0_init 45 = .ok (.aload_n 0, 1) := by decide +kernel
theorem dX0_init_46 : decode cX0_init 46 = .ok (.iconst 0, 1) := by decide +kernel
theorem dX0_init_47 : decode cX0_init 47 = .ok (.putfield 34, 3) := by decide +kernel
theorem dX0_init_50 : decode cX0_init 50 = .ok (.aload_n 0, 1) := by decide +kernel
theorem dX0_init_51 : decode cX0_init 51 = .ok (.iload_n 1, 1) := by decide +kernel
theorem dX0_init_52 : decode cX0_init 52 = .ok (.putfield 37, 3) := by decide +kernel
theorem dX0_init_55 : decode cX0_init 55 = .ok (.aload_n 0, 1) := by decide +kernel
theorem dX0_init_56 : decode cX0_init 56 = .ok (.iload_n 2, 1) := by decide +kernel
theorem dX0_init_57 : decode cX0_init 57 = .ok (.putfield 40, 3) := by decide +kernel
theorem dX0_init_60 : decode cX0_init 60 = .ok (.aload_n 0, 1) := by decide +kernel
theorem dX0_init_61 : decode cX0_init 61 = .ok (.iload_n 3, 1) := by decide +kernel
theorem dX0_init_62 : decode cX0_init 62 = .ok (.putfield 43, 3) := by decide +kernel
theorem dX0_init_65 : decode cX0_init 65 = .ok (.aload_n 0, 1) := by decide +kernel
theorem dX0_init_66 : decode cX0_init 66 = .ok (.iload 4, 2) := by decide +kernel
theorem dX0_init_68 : decode cX0_init 68 = .ok (.putfield 46, 3) := by decide +kernel
theorem dX0_init_71 : decode cX0_init 71 = .ok (.return_, 1) := by decide +kernel
theorem dX0_runsOn_0 : decode cX0_runsOn 0 = .ok (.iload_n 1, 1) := by decide +kernel
theorem dX0_runsOn_1 : decode cX0_runsOn 1 = .ok (.aload_n 0, 1) := by decide +kernel
theorem dX0_runsOn_2 : decode cX0_runsOn 2 = .ok (.getfield 40, 3) := by decide +kernel
theorem dX0_runsOn_5 : decode cX0_runsOn 5 = .ok (.if_icmp .lt 15, 3) := by decide +kernel
theorem dX0_runsOn_8 : decode cX0_runsOn 8 = .ok (.iload_n 1, 1) := by decide +kernel
theorem dX0_runsOn_9 : decode cX0_runsOn 9 = .ok (.aload_n 0, 1) := by decide +kernel
theorem dX0_runsOn_10 : decode cX0_runsOn 10 = .ok (.getfield 43, 3) := by decide +kernel
theorem dX0_runsOn_13 : decode cX0_runsOn 13 = .ok (.if_icmp .ge 7, 3) := by decide +kernel
theorem dX0_runsOn_16 : decode cX0_runsOn 16 = .ok (.iconst 1, 1) := by decide +kernel
theorem dX0_runsOn_17 : decode cX0_runsOn 17 = .ok (.goto 4, 3) := by decide +kernel
theorem dX0_runsOn_20 : decode cX0_runsOn 20 = .ok (.iconst 0, 1) := by decide +kernel
theorem dX0_runsOn_21 : decode cX0_runsOn 21 = .ok (.ireturn, 1) := by decide +kernel
theorem dX0_isFreeOn_0 : decode cX0_isFreeOn 0 = .ok (.iload_n 1, 1) := by decide +kernel
theorem dX0_isFreeOn_1 : decode cX0_isFreeOn 1 = .ok (.aload_n 0, 1) := by decide +kernel
theorem dX0_isFreeOn_2 : decode cX0_isFreeOn 2 = .ok (.getfield 40, 3) := by decide +kernel
theorem dX0_isFreeOn_5 : decode cX0_isFreeOn 5 = .ok (.aload_n 0, 1) := by decide +kernel
theorem dX0_isFreeOn_6 : decode cX0_isFreeOn 6 = .ok (.getfield 9, 3) := by decide +kernel
theorem dX0_isFreeOn_9 : decode cX0_isFreeOn 9 = .ok (.iadd, 1) := by decide +kernel
theorem dX0_isFreeOn_10 : decode cX0_isFreeOn 10 = .ok (.if_icmp .ge 7, 3) := by decide +kernel
theorem dX0_isFreeOn_13 : decode cX0_isFreeOn 13 = .ok (.iconst 1, 1) := by decide +kernel
theorem dX0_isFreeOn_14 : decode cX0_isFreeOn 14 = .ok (.goto 4, 3) := by decide +kernel
theorem dX0_isFreeOn_17 : decode cX0_isFreeOn 17 = .ok (.iconst 0, 1) := by decide +kernel
theorem dX0_isFreeOn_18 : decode cX0_isFreeOn 18 = .ok (.ireturn, 1) := by decide +kernel
theorem dX0_daysWithin_0 : decode cX0_daysWithin 0 = .ok (.iconst 0, 1) := by decide +kernel
theorem dX0_daysWithin_1 : decode cX0_daysWithin 1 = .ok (.aload_n 0, 1) := by decide +kernel
theorem dX0_daysWithin_2 : decode cX0_daysWithin 2 = .ok (.getfield 43, 3) := by decide +kernel
theorem dX0_daysWithin_5 : decode cX0_daysWithin 5 = .ok (.iload_n 2, 1) := by decide +kernel
theorem dX0_daysWithin_6 : decode cX0_daysWithin 6 = .ok (.invokestatic 49, 3) := by decide +kernel
theorem dX0_daysWithin_9 : decode cX0_daysWithin 9 = .ok (.aload_n 0, 1) := by decide +kernel
theorem dX0_daysWithin_10 : decode cX0_daysWithin 10 = .ok (.getfield 40, 3) := by decide +kernel
theorem dX0_daysWithin_13 : decode cX0_daysWithin 13 = .ok (.iload_n 1, 1) := by decide +kernel
theorem dX0_daysWithin_14 : decode cX0_daysWithin 14 = .ok (.invokestatic 55, 3) := by decide +kernel
theorem dX0_daysWithin_17 : decode cX0_daysWithin 17 = .ok (.isub, 1) := by decide +kernel
theorem dX0_daysWithin_18 : decode cX0_daysWithin 18 = .ok (.invokestatic 55, 3) := by decide +kernel
theorem dX0_daysWithin_21 : decode cX0_daysWithin 21 = .ok (.ireturn, 1) := by decide +kernel
set_option maxRecDepth 20000 in
theorem ggX0_daysIn_X0_daysWithin : GoodIn wsX0_daysIn wsX0_daysWithin := goodIn_r _ [5, 6, 7, 8, 9, 10, 11, 12, 13, 14, 15, 16, 17, 18, 19, 20, 21, 22, 23, 24, 25, 26] (by decide +kernel) (by decide +kernel)
set_option maxRecDepth 20000 in
theorem gX0_daysIn_X0_daysWithin : GoodIn wsX0_daysIn (wsV RX0 58 RX0 yX0_daysWithin wsX0_daysWithin) := goodIn_app (goodIn_of _ (by decide +kernel)) ggX0_daysIn_X0_daysWithin
theorem dX0_daysIn_0 : decode cX0_daysIn 0 = .ok (.iload_n 1, 1) := by decide +kernel
theorem dX0_daysIn_1 : decode cX0_daysIn 1 = .ok (.sipush 360, 3) := by decide +kernel
theorem dX0_daysIn_4 : decode cX0_daysIn 4 = .ok (.imul, 1) := by decide +kernel
theorem dX0_daysIn_5 : decode cX0_daysIn 5 = .ok (.istore_n 2, 1) := by decide +kernel
theorem dX0_daysIn_6 : decode cX0_daysIn 6 = .ok (.aload_n 0, 1) := by decide +kernel
theorem dX0_daysIn_7 : decode cX0_daysIn 7 = .ok (.iload_n 2, 1) := by decide +kernel
theorem dX0_daysIn_8 : decode cX0_daysIn 8 = .ok (.iload_n 2, 1) := by decide +kernel
theorem dX0_daysIn_9 : decode cX0_daysIn 9 = .ok (.sipush 360, 3) := by decide +kernel
theorem dX0_daysIn_12 : decode cX0_daysIn 12 = .ok (.iadd, 1) := by decide +kernel
theorem dX0_daysIn_13 : decode cX0_daysIn 13 = .ok (.invokevirtual 58, 3) := by decide +kernel
theorem dX0_daysIn_16 : decode cX0_daysIn 16 = .ok (.ireturn, 1) := by decide +kernel
theorem dX0_putStep_0 : decode cX0_putStep 0 = .ok (.iconst 0, 1) := by decide +kernel
theorem dX0_putStep_1 : decode cX0_putStep 1 = .ok (.istore_n 3, 1) := by decide +kernel
theorem dX0_putStep_2 : decode cX0_putStep 2 = .ok (.iload_n 3, 1) := by decide +kernel
theorem dX0_putStep_3 : decode cX0_putStep 3 = .ok (.aload_n 0, 1) := by decide +kernel
theorem dX0_putStep_4 : decode cX0_putStep 4 = .ok (.getfield 34, 3) := by decide +kernel
theorem dX0_putStep_7 : decode cX0_putStep 7 = .ok (.if_icmp .ge 25, 3) := by decide +kernel
theorem dX0_putStep_10 : decode cX0_putStep 10 = .ok (.iload_n 3, 1) := by decide +kernel
theorem dX0_putStep_11 : decode cX0_putStep 11 = .ok (.bipush 6, 2) := by decide +kernel
theorem dX0_putStep_13 : decode cX0_putStep 13 = .ok (.if_icmp .ge 19, 3) := by decide +kernel
theorem dX0_putStep_16 : decode cX0_putStep 16 = .ok (.aload_n 0, 1) := by decide +kernel
theorem dX0_putStep_17 : decode cX0_putStep 17 = .ok (.getfield 27, 3) := by decide +kernel
theorem dX0_putStep_20 : decode cX0_putStep 20 = .ok (.iload_n 3, 1) := by decide +kernel
theorem dX0_putStep_21 : decode cX0_putStep 21 = .ok (.iaload, 1) := by decide +kernel
theorem dX0_putStep_22 : decode cX0_putStep 22 = .ok (.iload_n 1, 1) := by decide +kernel
theorem dX0_putStep_23 : decode cX0_putStep 23 = .ok (.if_icmp .eq 9, 3) := by decide +kernel
theorem dX0_putStep_26 : decode cX0_putStep 26 = .ok (.iinc 3 1, 3) := by decide +kernel
theorem dX0_putStep_29 : decode cX0_putStep 29 = .ok (.goto (-27), 3) := by decide +kernel
theorem dX0_putStep_32 : decode cX0_putStep 32 = .ok (.iload_n 3, 1) := by decide +kernel
theorem dX0_putStep_33 : decode cX0_putStep 33 = .ok (.bipush 6, 2) := by decide +kernel
theorem dX0_putStep_35 : decode cX0_putStep 35 = .ok (.if_icmp .lt 5, 3) := by decide +kernel
theorem dX0_putStep_38 : decode cX0_putStep 38 = .ok (.iconst 0, 1) := by decide +kernel
theorem dX0_putStep_39 : decode cX0_putStep 39 = .ok (.ireturn, 1) := by decide +kernel
theorem dX0_putStep_40 : decode cX0_putStep 40 = .ok (.aload_n 0, 1) := by decide +kernel
theorem dX0_putStep_41 : decode cX0_putStep 41 = .ok (.getfield 27, 3) := by decide +kernel
theorem dX0_putStep_44 : decode cX0_putStep 44 = .ok (.iload_n 3, 1) := by decide +kernel
theorem dX0_putStep_45 : decode cX0_putStep 45 = .ok (.iload_n 1, 1) := by decide +kernel
theorem dX0_putStep_46 : decode cX0_putStep 46 = .ok (.iastore, 1) := by decide +kernel
theorem dX0_putStep_47 : decode cX0_putStep 47 = .ok (.aload_n 0, 1) := by decide +kernel
theorem dX0_putStep_48 : decode cX0_putStep 48 = .ok (.getfield 31, 3) := by decide +kernel
theorem dX0_putStep_51 : decode cX0_putStep 51 = .ok (.iload_n 3, 1) := by decide +kernel
theorem dX0_putStep_52 : decode cX0_putStep 52 = .ok (.iload_n 2, 1) := by decide +kernel
theorem dX0_putStep_53 : decode cX0_putStep 53 = .ok (.iastore, 1) := by decide +kernel
theorem dX0_putStep_54 : decode cX0_putStep 54 = .ok (.aload_n 0, 1) := by decide +kernel
theorem dX0_putStep_55 : decode cX0_putStep 55 = .ok (.aload_n 0, 1) := by decide +kernel
theorem dX0_putStep_56 : decode cX0_putStep 56 = .ok (.getfield 34, 3) := by decide +kernel
theorem dX0_putStep_59 : decode cX0_putStep 59 = .ok (.iload_n 3, 1) := by decide +kernel
theorem dX0_putStep_60 : decode cX0_putStep 60 = .ok (.iconst 1, 1) := by decide +kernel
theorem dX0_putStep_61 : decode cX0_putStep 61 = .ok (.iadd, 1) := by decide +kernel
theorem dX0_putStep_62 : decode cX0_putStep 62 = .ok (.invokestatic 55, 3) := by decide +kernel
theorem dX0_putStep_65 : decode cX0_putStep 65 = .ok (.putfield 34, 3) := by decide +kernel
theorem dX0_putStep_68 : decode cX0_putStep 68 = .ok (.iconst 1, 1) := by decide +kernel
theorem dX0_putStep_69 : decode cX0_putStep 69 = .ok (.ireturn, 1) := by decide +kernel
theorem dX0_agreedOn_0 : decode cX0_agreedOn 0 = .ok (.aload_n 0, 1) := by decide +kernel
theorem dX0_agreedOn_1 : decode cX0_agreedOn 1 = .ok (.getfield 40, 3) := by decide +kernel
theorem dX0_agreedOn_4 : decode cX0_agreedOn 4 = .ok (.istore_n 2, 1) := by decide +kernel
theorem dX0_agreedOn_5 : decode cX0_agreedOn 5 = .ok (.aload_n 0, 1) := by decide +kernel
theorem dX0_agreedOn_6 : decode cX0_agreedOn 6 = .ok (.getfield 46, 3) := by decide +kernel
theorem dX0_agreedOn_9 : decode cX0_agreedOn 9 = .ok (.istore_n 3, 1) := by decide +kernel
theorem dX0_agreedOn_10 : decode cX0_agreedOn 10 = .ok (.iconst 0, 1) := by decide +kernel
theorem dX0_agreedOn_11 : decode cX0_agreedOn 11 = .ok (.istore 4, 2) := by decide +kernel
theorem dX0_agreedOn_13 : decode cX0_agreedOn 13 = .ok (.iload 4, 2) := by decide +kernel
theorem dX0_agreedOn_15 : decode cX0_agreedOn 15 = .ok (.aload_n 0, 1) := by decide +kernel
theorem dX0_agreedOn_16 : decode cX0_agreedOn 16 = .ok (.getfield 34, 3) := by decide +kernel
theorem dX0_agreedOn_19 : decode cX0_agreedOn 19 = .ok (.if_icmp .ge 54, 3) := by decide +kernel
theorem dX0_agreedOn_22 : decode cX0_agreedOn 22 = .ok (.iload 4, 2) := by decide +kernel
theorem dX0_agreedOn_24 : decode cX0_agreedOn 24 = .ok (.bipush 6, 2) := by decide +kernel
theorem dX0_agreedOn_26 : decode cX0_agreedOn 26 = .ok (.if_icmp .ge 47, 3) := by decide +kernel
theorem dX0_agreedOn_29 : decode cX0_agreedOn 29 = .ok (.aload_n 0, 1) := by decide +kernel
theorem dX0_agreedOn_30 : decode cX0_agreedOn 30 = .ok (.getfield 27, 3) := by decide +kernel
theorem dX0_agreedOn_33 : decode cX0_agreedOn 33 = .ok (.iload 4, 2) := by decide +kernel
theorem dX0_agreedOn_35 : decode cX0_agreedOn 35 = .ok (.iaload, 1) := by decide +kernel
theorem dX0_agreedOn_36 : decode cX0_agreedOn 36 = .ok (.iload_n 1, 1) := by decide +kernel
theorem dX0_agreedOn_37 : decode cX0_agreedOn 37 = .ok (.if_icmp .gt 30, 3) := by decide +kernel
theorem dX0_agreedOn_40 : decode cX0_agreedOn 40 = .ok (.aload_n 0, 1) := by decide +kernel
theorem dX0_agreedOn_41 : decode cX0_agreedOn 41 = .ok (.getfield 27, 3) := by decide +kernel
theorem dX0_agreedOn_44 : decode cX0_agreedOn 44 = .ok (.iload 4, 2) := by decide +kernel
theorem dX0_agreedOn_46 : decode cX0_agreedOn 46 = .ok (.iaload, 1) := by decide +kernel
theorem dX0_agreedOn_47 : decode cX0_agreedOn 47 = .ok (.iload_n 2, 1) := by decide +kernel
theorem dX0_agreedOn_48 : decode cX0_agreedOn 48 = .ok (.if_icmp .le 19, 3) := by decide +kernel
theorem dX0_agreedOn_51 : decode cX0_agreedOn 51 = .ok (.aload_n 0, 1) := by decide +kernel
theorem dX0_agreedOn_52 : decode cX0_agreedOn 52 = .ok (.getfield 27, 3) := by decide +kernel
theorem dX0_agreedOn_55 : decode cX0_agreedOn 55 = .ok (.iload 4, 2) := by decide +kernel
theorem dX0_agreedOn_57 : decode cX0_agreedOn 57 = .ok (.iaload, 1) := by decide +kernel
theorem dX0_agreedOn_58 : decode cX0_agreedOn 58 = .ok (.istore_n 2, 1) := by decide +kernel
theorem dX0_agreedOn_59 : decode cX0_agreedOn 59 = .ok (.aload_n 0, 1) := by decide +kernel
theorem dX0_agreedOn_60 : decode cX0_agreedOn 60 = .ok (.getfield 31, 3) := by decide +kernel
theorem dX0_agreedOn_63 : decode cX0_agreedOn 63 = .ok (.iload 4, 2) := by decide +kernel
theorem dX0_agreedOn_65 : decode cX0_agreedOn 65 = .ok (.iaload, 1) := by decide +kernel
theorem dX0_agreedOn_66 : decode cX0_agreedOn 66 = .ok (.istore_n 3, 1) := by decide +kernel
theorem dX0_agreedOn_67 : decode cX0_agreedOn 67 = .ok (.iinc 4 1, 3) := by decide +kernel
theorem dX0_agreedOn_70 : decode cX0_agreedOn 70 = .ok (.goto (-57), 3) := by decide +kernel
theorem dX0_agreedOn_73 : decode cX0_agreedOn 73 = .ok (.iload_n 3, 1) := by decide +kernel
theorem dX0_agreedOn_74 : decode cX0_agreedOn 74 = .ok (.ireturn, 1) := by decide +kernel
theorem dX0_reviewsUpTo_0 : decode cX0_reviewsUpTo 0 = .ok (.aload_n 0, 1) := by decide +kernel
theorem dX0_reviewsUpTo_1 : decode cX0_reviewsUpTo 1 = .ok (.getfield 15, 3) := by decide +kernel
theorem dX0_reviewsUpTo_4 : decode cX0_reviewsUpTo 4 = .ok (.ifCond .le 25, 3) := by decide +kernel
theorem dX0_reviewsUpTo_7 : decode cX0_reviewsUpTo 7 = .ok (.iload_n 1, 1) := by decide +kernel
theorem dX0_reviewsUpTo_8 : decode cX0_reviewsUpTo 8 = .ok (.aload_n 0, 1) := by decide +kernel
theorem dX0_reviewsUpTo_9 : decode cX0_reviewsUpTo 9 = .ok (.getfield 40, 3) := by decide +kernel
theorem dX0_reviewsUpTo_12 : decode cX0_reviewsUpTo 12 = .ok (.if_icmp .le 17, 3) := by decide +kernel
theorem dX0_reviewsUpTo_15 : decode cX0_reviewsUpTo 15 = .ok (.iload_n 1, 1) := by decide +kernel
theorem dX0_reviewsUpTo_16 : decode cX0_reviewsUpTo 16 = .ok (.aload_n 0, 1) := by decide +kernel
theorem dX0_reviewsUpTo_17 : decode cX0_reviewsUpTo 17 = .ok (.getfield 40, 3) := by decide +kernel
theorem dX0_reviewsUpTo_20 : decode cX0_reviewsUpTo 20 = .ok (.isub, 1) := by decide +kernel
theorem dX0_reviewsUpTo_21 : decode cX0_reviewsUpTo 21 = .ok (.aload_n 0, 1) := by decide +kernel
theorem dX0_reviewsUpTo_22 : decode cX0_reviewsUpTo 22 = .ok (.getfield 15, 3) := by decide +kernel
theorem dX0_reviewsUpTo_25 : decode cX0_reviewsUpTo 25 = .ok (.idiv, 1) := by decide +kernel
theorem dX0_reviewsUpTo_26 : decode cX0_reviewsUpTo 26 = .ok (.goto 4, 3) := by decide +kernel
theorem dX0_reviewsUpTo_29 : decode cX0_reviewsUpTo 29 = .ok (.iconst 0, 1) := by decide +kernel
theorem dX0_reviewsUpTo_30 : decode cX0_reviewsUpTo 30 = .ok (.ireturn, 1) := by decide +kernel
set_option maxRecDepth 20000 in
theorem ggX0_nextTurn_X0_sooner : GoodIn wsX0_nextTurn wsX0_sooner := goodIn_r _ [10] (by decide +kernel) (by decide +kernel)
set_option maxRecDepth 20000 in
theorem gX0_nextTurn_X0_sooner : GoodIn wsX0_nextTurn (va_wsS RX0 61 yX0_sooner wsX0_sooner) := goodIn_app (goodIn_of _ (by decide +kernel)) ggX0_nextTurn_X0_sooner
set_option maxRecDepth 20000 in
theorem ggX0_nextTurn_X0_reviewsUpTo : GoodIn wsX0_nextTurn wsX0_reviewsUpTo := goodIn_r _ [14, 6, 1, 15, 16, 17, 18, 19, 20, 21, 22, 23, 24, 25, 26] (by decide +kernel) (by decide +kernel)
set_option maxRecDepth 20000 in
theorem gX0_nextTurn_X0_reviewsUpTo : GoodIn wsX0_nextTurn (wsV RX0 65 RX0 yX0_reviewsUpTo wsX0_reviewsUpTo) := goodIn_app (goodIn_of _ (by decide +kernel)) ggX0_nextTurn_X0_reviewsUpTo
theorem dX0_nextTurn_0 : decode cX0_nextTurn 0 = .ok (.iload_n 1, 1) := by decide +kernel
theorem dX0_nextTurn_1 : decode cX0_nextTurn 1 = .ok (.aload_n 0, 1) := by decide +kernel
theorem dX0_nextTurn_2 : decode cX0_nextTurn 2 = .ok (.getfield 40, 3) := by decide +kernel
theorem dX0_nextTurn_5 : decode cX0_nextTurn 5 = .ok (.sipush 7200, 3) := by decide +kernel
theorem dX0_nextTurn_8 : decode cX0_nextTurn 8 = .ok (.invokestatic 61, 3) := by decide +kernel
theorem dX0_nextTurn_11 : decode cX0_nextTurn 11 = .ok (.istore_n 2, 1) := by decide +kernel
theorem dX0_nextTurn_12 : decode cX0_nextTurn 12 = .ok (.iload_n 1, 1) := by decide +kernel
theorem dX0_nextTurn_13 : decode cX0_nextTurn 13 = .ok (.aload_n 0, 1) := by decide +kernel
theorem dX0_nextTurn_14 : decode cX0_nextTurn 14 = .ok (.getfield 40, 3) := by decide +kernel
theorem dX0_nextTurn_17 : decode cX0_nextTurn 17 = .ok (.aload_n 0, 1) := by decide +kernel
theorem dX0_nextTurn_18 : decode cX0_nextTurn 18 = .ok (.getfield 9, 3) := by decide +kernel
theorem dX0_nextTurn_21 : decode cX0_nextTurn 21 = .ok (.iadd, 1) := by decide +kernel
theorem dX0_nextTurn_22 : decode cX0_nextTurn 22 = .ok (.iload_n 2, 1) := by decide +kernel
theorem dX0_nextTurn_23 : decode cX0_nextTurn 23 = .ok (.invokestatic 61, 3) := by decide +kernel
theorem dX0_nextTurn_26 : decode cX0_nextTurn 26 = .ok (.istore_n 2, 1) := by decide +kernel
theorem dX0_nextTurn_27 : decode cX0_nextTurn 27 = .ok (.iload_n 1, 1) := by decide +kernel
theorem dX0_nextTurn_28 : decode cX0_nextTurn 28 = .ok (.aload_n 0, 1) := by decide +kernel
theorem dX0_nextTurn_29 : decode cX0_nextTurn 29 = .ok (.getfield 43, 3) := by decide +kernel
theorem dX0_nextTurn_32 : decode cX0_nextTurn 32 = .ok (.iload_n 2, 1) := by decide +kernel
theorem dX0_nextTurn_33 : decode cX0_nextTurn 33 = .ok (.invokestatic 61, 3) := by decide +kernel
theorem dX0_nextTurn_36 : decode cX0_nextTurn 36 = .ok (.istore_n 2, 1) := by decide +kernel
theorem dX0_nextTurn_37 : decode cX0_nextTurn 37 = .ok (.iconst 0, 1) := by decide +kernel
theorem dX0_nextTurn_38 : decode cX0_nextTurn 38 = .ok (.istore_n 3, 1) := by decide +kernel
theorem dX0_nextTurn_39 : decode cX0_nextTurn 39 = .ok (.iload_n 3, 1) := by decide +kernel
theorem dX0_nextTurn_40 : decode cX0_nextTurn 40 = .ok (.aload_n 0, 1) := by decide +kernel
theorem dX0_nextTurn_41 : decode cX0_nextTurn 41 = .ok (.getfield 34, 3) := by decide +kernel
theorem dX0_nextTurn_44 : decode cX0_nextTurn 44 = .ok (.if_icmp .ge 27, 3) := by decide +kernel
theorem dX0_nextTurn_47 : decode cX0_nextTurn 47 = .ok (.iload_n 3, 1) := by decide +kernel
theorem dX0_nextTurn_48 : decode cX0_nextTurn 48 = .ok (.bipush 6, 2) := by decide +kernel
theorem dX0_nextTurn_50 : decode cX0_nextTurn 50 = .ok (.if_icmp .ge 21, 3) := by decide +kernel
theorem dX0_nextTurn_53 : decode cX0_nextTurn 53 = .ok (.iload_n 1, 1) := by decide +kernel
theorem dX0_nextTurn_54 : decode cX0_nextTurn 54 = .ok (.aload_n 0, 1) := by decide +kernel
theorem dX0_nextTurn_55 : decode cX0_nextTurn 55 = .ok (.getfield 27, 3) := by decide +kernel
theorem dX0_nextTurn_58 : decode cX0_nextTurn 58 = .ok (.iload_n 3, 1) := by decide +kernel
theorem dX0_nextTurn_59 : decode cX0_nextTurn 59 = .ok (.iaload, 1) := by decide +kernel
theorem dX0_nextTurn_60 : decode cX0_nextTurn 60 = .ok (.iload_n 2, 1) := by decide +kernel
theorem dX0_nextTurn_61 : decode cX0_nextTurn 61 = .ok (.invokestatic 61, 3) := by decide +kernel
theorem dX0_nextTurn_64 : decode cX0_nextTurn 64 = .ok (.istore_n 2, 1) := by decide +kernel
theorem dX0_nextTurn_65 : decode cX0_nextTurn 65 = .ok (.iinc 3 1, 3) := by decide +kernel
theorem dX0_nextTurn_68 : decode cX0_nextTurn 68 = .ok (.goto (-29), 3) := by decide +kernel
theorem dX0_nextTurn_71 : decode cX0_nextTurn 71 = .ok (.aload_n 0, 1) := by decide +kernel
theorem dX0_nextTurn_72 : decode cX0_nextTurn 72 = .ok (.getfield 15, 3) := by decide +kernel
theorem dX0_nextTurn_75 : decode cX0_nextTurn 75 = .ok (.ifCond .le 26, 3) := by decide +kernel
theorem dX0_nextTurn_78 : decode cX0_nextTurn 78 = .ok (.iload_n 1, 1) := by decide +kernel
theorem dX0_nextTurn_79 : decode cX0_nextTurn 79 = .ok (.aload_n 0, 1) := by decide +kernel
theorem dX0_nextTurn_80 : decode cX0_nextTurn 80 = .ok (.getfield 40, 3) := by decide +kernel
theorem dX0_nextTurn_83 : decode cX0_nextTurn 83 = .ok (.aload_n 0, 1) := by decide +kernel
theorem dX0_nextTurn_84 : decode cX0_nextTurn 84 = .ok (.iload_n 1, 1) := by decide +kernel
theorem dX0_nextTurn_85 : decode cX0_nextTurn 85 = .ok (.invokevirtual 65, 3) := by decide +kernel
theorem dX0_nextTurn_88 : decode cX0_nextTurn 88 = .ok (.iconst 1, 1) := by decide +kernel
theorem dX0_nextTurn_89 : decode cX0_nextTurn 89 = .ok (.iadd, 1) := by decide +kernel
theorem dX0_nextTurn_90 : decode cX0_nextTurn 90 = .ok (.aload_n 0, 1) := by decide +kernel
theorem dX0_nextTurn_91 : decode cX0_nextTurn 91 = .ok (.getfield 15, 3) := by decide +kernel
theorem dX0_nextTurn_94 : decode cX0_nextTurn 94 = .ok (.imul, 1) := by decide +kernel
theorem dX0_nextTurn_95 : decode cX0_nextTurn 95 = .ok (.iadd, 1) := by decide +kernel
theorem dX0_nextTurn_96 : decode cX0_nextTurn 96 = .ok (.iload_n 2, 1) := by decide +kernel
theorem dX0_nextTurn_97 : decode cX0_nextTurn 97 = .ok (.invokestatic 61, 3) := by decide +kernel
theorem dX0_nextTurn_100 : decode cX0_nextTurn 100 = .ok (.istore_n 2, 1) := by decide +kernel
theorem dX0_nextTurn_101 : decode cX0_nextTurn 101 = .ok (.iload_n 2, 1) := by decide +kernel
theorem dX0_nextTurn_102 : decode cX0_nextTurn 102 = .ok (.ireturn, 1) := by decide +kernel
theorem dX0_sooner_0 : decode cX0_sooner 0 = .ok (.iload_n 1, 1) := by decide +kernel
theorem dX0_sooner_1 : decode cX0_sooner 1 = .ok (.iload_n 0, 1) := by decide +kernel
theorem dX0_sooner_2 : decode cX0_sooner 2 = .ok (.if_icmp .le 12, 3) := by decide +kernel
theorem dX0_sooner_5 : decode cX0_sooner 5 = .ok (.iload_n 1, 1) := by decide +kernel
theorem dX0_sooner_6 : decode cX0_sooner 6 = .ok (.iload_n 2, 1) := by decide +kernel
theorem dX0_sooner_7 : decode cX0_sooner 7 = .ok (.if_icmp .ge 7, 3) := by decide +kernel
theorem dX0_sooner_10 : decode cX0_sooner 10 = .ok (.iload_n 1, 1) := by decide +kernel
theorem dX0_sooner_11 : decode cX0_sooner 11 = .ok (.goto 4, 3) := by decide +kernel
theorem dX0_sooner_14 : decode cX0_sooner 14 = .ok (.iload_n 2, 1) := by decide +kernel
theorem dX0_sooner_15 : decode cX0_sooner 15 = .ok (.ireturn, 1) := by decide +kernel
theorem dX1_init_0 : decode cX1_init 0 = .ok (.aload_n 0, 1) := by decide +kernel
theorem dX1_init_1 : decode cX1_init 1 = .ok (.invokespecial 1, 3) := by decide +kernel
theorem dX1_init_4 : decode cX1_init 4 = .ok (.aload_n 0, 1) := by decide +kernel
theorem dX1_init_5 : decode cX1_init 5 = .ok (.bipush 6, 2) := by decide +kernel
theorem dX1_init_7 : decode cX1_init 7 = .ok (.newarray .int, 2) := by decide +kernel
theorem dX1_init_9 : decode cX1_init 9 = .ok (.putfield 9, 3) := by decide +kernel
theorem dX1_init_12 : decode cX1_init 12 = .ok (.aload_n 0, 1) := by decide +kernel
theorem dX1_init_13 : decode cX1_init 13 = .ok (.sipush 240, 3) := by decide +kernel
theorem dX1_init_16 : decode cX1_init 16 = .ok (.newarray .int, 2) := by decide +kernel
theorem dX1_init_18 : decode cX1_init 18 = .ok (.putfield 13, 3) := by decide +kernel
theorem dX1_init_21 : decode cX1_init 21 = .ok (.aload_n 0, 1) := by decide +kernel
theorem dX1_init_22 : decode cX1_init 22 = .ok (.bipush 20, 2) := by decide +kernel
theorem dX1_init_24 : decode cX1_init 24 = .ok (.newarray .int, 2) := by decide +kernel
theorem dX1_init_26 : decode cX1_init 26 = .ok (.putfield 16, 3) := by decide +kernel
theorem dX1_init_29 : decode cX1_init 29 = .ok (.aload_n 0, 1) := by decide +kernel
theorem dX1_init_30 : decode cX1_init 30 = .ok (.bipush 24, 2) := by decide +kernel
theorem dX1_init_32 : decode cX1_init 32 = .ok (.anewarray 19, 3) := by decide +kernel
theorem dX1_init_35 : decode cX1_init 35 = .ok (.putfield 21, 3) := by decide +kernel
theorem dX1_init_38 : decode cX1_init 38 = .ok (.aload_n 0, 1) := by decide +kernel
theorem dX1_init_39 : decode cX1_init 39 = .ok (.iconst 0, 1) := by decide +kernel
theorem dX1_init_40 : decode cX1_init 40 = .ok (.putfield 25, 3) := by decide +kernel
theorem dX1_init_43 : decode cX1_init 43 = .ok (.iconst 0, 1) := by decide +kernel
theorem dX1_init_44 : decode cX1_init 44 = .ok (.istore_n 1, 1) := by decide +kernel
theorem dX1_init_45 : decode cX1_init 45 = .ok (.iload_n 1, 1) := by decide +kernel
theorem dX1_init_46 : decode cX1_init 46 = .ok (.aload_n 0, 1) := by decide +kernel
theorem dX1_init_47 : decode cX1_init 47 = .ok (.getfield 13, 3) := by decide +kernel
theorem dX1_init_50 : decode cX1_init 50 = .ok (.arraylength, 1) := by decide +kernel
theorem dX1_init_51 : decode cX1_init 51 = .ok (.if_icmp .ge 17, 3) := by decide +kernel
theorem dX1_init_54 : decode cX1_init 54 = .ok (.aload_n 0, 1) := by decide +kernel
theorem dX1_init_55 : decode cX1_init 55 = .ok (.getfield 13, 3) := by decide +kernel
theorem dX1_init_58 : decode cX1_init 58 = .ok (.iload_n 1, 1) := by decide +kernel
theorem dX1_init_59 : decode cX1_init 59 = .ok (.bipush 100, 2) := by decide +kernel
theorem dX1_init_61 : decode cX1_init 61 = .ok (.iastore, 1) := by decide +kernel
theorem dX1_init_62 : decode cX1_init 62 = .ok (.iinc 1 1, 3) := by decide +kernel
theorem dX1_init_65 : decode cX1_init 65 = .ok (.goto (-20), 3) := by decide +kernel
theorem dX1_init_68 : decode cX1_init 68 = .ok (.return_, 1) := by decide +kernel
set_option maxRecDepth 20000 in
theorem ggX1_setArea_X1_checkNumber : GoodIn wsX1_setArea wsX1_checkNumber := goodIn_ca (goodIn_r _ [5, 6, 7] (by decide +kernel) (by decide +kernel)) (goodIn_sub (fun _ h => List.mem_cons_of_mem _ (List.mem_append_left _ (List.mem_append_right _ h))) (by decide +kernel))
set_option maxRecDepth 20000 in
theorem gX1_setArea_X1_checkNumber : GoodIn wsX1_setArea (va_wsS RX1 29 yX1_checkNumber wsX1_checkNumber) := goodIn_app (goodIn_of _ (by decide +kernel)) ggX1_setArea_X1_checkNumber
set_option maxRecDepth 20000 in
theorem ggX1_setArea_X1_checkRange : GoodIn wsX1_setArea wsX1_checkRange := goodIn_ca (goodIn_r _ [10, 11, 12] (by decide +kernel) (by decide +kernel)) (goodIn_sub (fun _ h => List.mem_cons_of_mem _ (List.mem_append_right _ h)) (by decide +kernel))
set_option maxRecDepth 20000 in
theorem gX1_setArea_X1_checkRange : GoodIn wsX1_setArea (va_wsS RX1 33 yX1_checkRange wsX1_checkRange) := goodIn_app (goodIn_of _ (by decide +kernel)) ggX1_setArea_X1_checkRange
theorem dX1_setArea_0 : decode cX1_setArea 0 = .ok (.iload_n 1, 1) := by decide +kernel
theorem dX1_setArea_1 : decode cX1_setArea 1 = .ok (.aload_n 0, 1) := by decide +kernel
theorem dX1_setArea_2 : decode cX1_setArea 2 = .ok (.getfield 9, 3) := by decide +kernel
theorem dX1_setArea_5 : decode cX1_setArea 5 = .ok (.arraylength, 1) := by decide +kernel
theorem dX1_setArea_6 : decode cX1_setArea 6 = .ok (.invokestatic 29, 3) := by decide +kernel
theorem dX1_setArea_9 : decode cX1_setArea 9 = .ok (.iload_n 2, 1) := by decide +kernel
theorem dX1_setArea_10 : decode cX1_setArea 10 = .ok (.iconst 0, 1) := by decide +kernel
theorem dX1_setArea_11 : decode cX1_setArea 11 = .ok (.sipush 999, 3) := by decide +kernel
theorem dX1_setArea_14 : decode cX1_setArea 14 = .ok (.invokestatic 33, 3) := by decide +kernel
theorem dX1_setArea_17 : decode cX1_setArea 17 = .ok (.aload_n 0, 1) := by decide +kernel
theorem dX1_setArea_18 : decode cX1_setArea 18 = .ok (.getfield 9, 3) := by decide +kernel
theorem dX1_setArea_21 : decode cX1_setArea 21 = .ok (.iload_n 1, 1) := by decide +kernel
theorem dX1_setArea_22 : decode cX1_setArea 22 = .ok (.iaload, 1) := by decide +kernel
theorem dX1_setArea_23 : decode cX1_setArea 23 = .ok (.istore_n 3, 1) := by decide +kernel
theorem dX1_setArea_24 : decode cX1_setArea 24 = .ok (.aload_n 0, 1) := by decide +kernel
theorem dX1_setArea_25 : decode cX1_setArea 25 = .ok (.getfield 9, 3) := by decide +kernel
theorem dX1_setArea_28 : decode cX1_setArea 28 = .ok (.iload_n 1, 1) := by decide +kernel
theorem dX1_setArea_29 : decode cX1_setArea 29 = .ok (.iload_n 2, 1) := by decide +kernel
theorem dX1_setArea_30 : decode cX1_setArea 30 = .ok (.iastore, 1) := by decide +kernel
theorem dX1_setArea_31 : decode cX1_setArea 31 = .ok (.iload_n 3, 1) := by decide +kernel
theorem dX1_setArea_32 : decode cX1_setArea 32 = .ok (.ireturn, 1) := by decide +kernel
set_option maxRecDepth 20000 in
theorem ggX1_setIndex_X1_checkNumber : GoodIn wsX1_setIndex wsX1_checkNumber := goodIn_ca (goodIn_r _ [5, 6, 7] (by decide +kernel) (by decide +kernel)) (goodIn_sub (fun _ h => List.mem_cons_of_mem _ (List.mem_append_left _ (List.mem_append_right _ h))) (by decide +kernel))
set_option maxRecDepth 20000 in
theorem gX1_setIndex_X1_checkNumber : GoodIn wsX1_setIndex (va_wsS RX1 29 yX1_checkNumber wsX1_checkNumber) := goodIn_app (goodIn_of _ (by decide +kernel)) ggX1_setIndex_X1_checkNumber
set_option maxRecDepth 20000 in
theorem ggX1_setIndex_X1_checkRange : GoodIn wsX1_setIndex wsX1_checkRange := goodIn_ca (goodIn_r _ [10, 11, 12] (by decide +kernel) (by decide +kernel)) (goodIn_sub (fun _ h => List.mem_cons_of_mem _ (List.mem_append_right _ h)) (by decide +kernel))
set_option maxRecDepth 20000 in
theorem gX1_setIndex_X1_checkRange : GoodIn wsX1_setIndex (va_wsS RX1 33 yX1_checkRange wsX1_checkRange) := goodIn_app (goodIn_of _ (by decide +kernel)) ggX1_setIndex_X1_checkRange
theorem dX1_setIndex_0 : decode cX1_setIndex 0 = .ok (.iload_n 1, 1) := by decide +kernel
theorem dX1_setIndex_1 : decode cX1_setIndex 1 = .ok (.aload_n 0, 1) := by decide +kernel
theorem dX1_setIndex_2 : decode cX1_setIndex 2 = .ok (.getfield 13, 3) := by decide +kernel
theorem dX1_setIndex_5 : decode cX1_setIndex 5 = .ok (.arraylength, 1) := by decide +kernel
theorem dX1_setIndex_6 : decode cX1_setIndex 6 = .ok (.invokestatic 29, 3) := by decide +kernel
theorem dX1_setIndex_9 : decode cX1_setIndex 9 = .ok (.iload_n 2, 1) := by decide +kernel
theorem dX1_setIndex_10 : decode cX1_setIndex 10 = .ok (.bipush 10, 2) := by decide +kernel
theorem dX1_setIndex_12 : decode cX1_setIndex 12 = .ok (.sipush 999, 3) := by decide +kernel
theorem dX1_setIndex_15 : decode cX1_setIndex 15 = .ok (.invokestatic 33, 3) := by decide +kernel
theorem dX1_setIndex_18 : decode cX1_setIndex 18 = .ok (.aload_n 0, 1) := by decide +kernel
theorem dX1_setIndex_19 : decode cX1_setIndex 19 = .ok (.getfield 13, 3) := by decide +kernel
theorem dX1_setIndex_22 : decode cX1_setIndex 22 = .ok (.iload_n 1, 1) := by decide +kernel
theorem dX1_setIndex_23 : decode cX1_setIndex 23 = .ok (.iaload, 1) := by decide +kernel
theorem dX1_setIndex_24 : decode cX1_setIndex 24 = .ok (.istore_n 3, 1) := by decide +kernel
theorem dX1_setIndex_25 : decode cX1_setIndex 25 = .ok (.aload_n 0, 1) := by decide +kernel
theorem dX1_setIndex_26 : decode cX1_setIndex 26 = .ok (.getfield 13, 3) := by decide +kernel
theorem dX1_setIndex_29 : decode cX1_setIndex 29 = .ok (.iload_n 1, 1) := by decide +kernel
theorem dX1_setIndex_30 : decode cX1_setIndex 30 = .ok (.iload_n 2, 1) := by decide +kernel
theorem dX1_setIndex_31 : decode cX1_setIndex 31 = .ok (.iastore, 1) := by decide +kernel
theorem dX1_setIndex_32 : decode cX1_setIndex 32 = .ok (.iload_n 3, 1) := by decide +kernel
theorem dX1_setIndex_33 : decode cX1_setIndex 33 = .ok (.ireturn, 1) := by decide +kernel
set_option maxRecDepth 20000 in
theorem ggX1_setCost_X1_checkNumber : GoodIn wsX1_setCost wsX1_checkNumber := goodIn_ca (goodIn_r _ [6, 7, 8] (by decide +kernel) (by decide +kernel)) (goodIn_sub (fun _ h => List.mem_cons_of_mem _ (List.mem_append_left _ (List.mem_append_right _ h))) (by decide +kernel))
set_option maxRecDepth 20000 in
theorem gX1_setCost_X1_checkNumber : GoodIn wsX1_setCost (va_wsS RX1 29 yX1_checkNumber wsX1_checkNumber) := goodIn_app (goodIn_of _ (by decide +kernel)) ggX1_setCost_X1_checkNumber
set_option maxRecDepth 20000 in
theorem ggX1_setCost_X1_checkRange : GoodIn wsX1_setCost wsX1_checkRange := goodIn_ca (goodIn_r _ [11, 12, 13] (by decide +kernel) (by decide +kernel)) (goodIn_sub (fun _ h => List.mem_cons_of_mem _ (List.mem_append_right _ h)) (by decide +kernel))
set_option maxRecDepth 20000 in
theorem gX1_setCost_X1_checkRange : GoodIn wsX1_setCost (va_wsS RX1 33 yX1_checkRange wsX1_checkRange) := goodIn_app (goodIn_of _ (by decide +kernel)) ggX1_setCost_X1_checkRange
theorem dX1_setCost_0 : decode cX1_setCost 0 = .ok (.iload_n 1, 1) := by decide +kernel
theorem dX1_setCost_1 : decode cX1_setCost 1 = .ok (.aload_n 0, 1) := by decide +kernel
theorem dX1_setCost_2 : decode cX1_setCost 2 = .ok (.getfield 16, 3) := by decide +kernel
theorem dX1_setCost_5 : decode cX1_setCost 5 = .ok (.arraylength, 1) := by decide +kernel
theorem dX1_setCost_6 : decode cX1_setCost 6 = .ok (.invokestatic 29, 3) := by decide +kernel
theorem dX1_setCost_9 : decode cX1_setCost 9 = .ok (.iload_n 2, 1) := by decide +kernel
theorem dX1_setCost_10 : decode cX1_setCost 10 = .ok (.iconst 0, 1) := by decide +kernel
theorem dX1_setCost_11 : decode cX1_setCost 11 = .ok (.ldc 37, 2) := by decide +kernel
theorem dX1_setCost_13 : decode cX1_setCost 13 = .ok (.invokestatic 33, 3) := by decide +kernel
theorem dX1_setCost_16 : decode cX1_setCost 16 = .ok (.aload_n 0, 1) := by decide +kernel
theorem dX1_setCost_17 : decode cX1_setCost 17 = .ok (.getfield 16, 3) := by decide +kernel
theorem dX1_setCost_20 : decode cX1_setCost 20 = .ok (.iload_n 1, 1) := by decide +kernel
theorem dX1_setCost_21 : decode cX1_setCost 21 = .ok (.iaload, 1) := by decide +kernel
theorem dX1_setCost_22 : decode cX1_setCost 22 = .ok (.istore_n 3, 1) := by decide +kernel
theorem dX1_setCost_23 : decode cX1_setCost 23 = .ok (.aload_n 0, 1) := by decide +kernel
theorem dX1_setCost_24 : decode cX1_setCost 24 = .ok (.getfield 16, 3) := by decide +kernel
theorem dX1_setCost_27 : decode cX1_setCost 27 = .ok (.iload_n 1, 1) := by decide +kernel
theorem dX1_setCost_28 : decode cX1_setCost 28 = .ok (.iload_n 2, 1) := by decide +kernel
theorem dX1_setCost_29 : decode cX1_setCost 29 = .ok (.iastore, 1) := by decide +kernel
theorem dX1_setCost_30 : decode cX1_setCost 30 = .ok (.iload_n 3, 1) := by decide +kernel
theorem dX1_setCost_31 : decode cX1_setCost 31 = .ok (.ireturn, 1) := by decide +kernel
set_option maxRecDepth 20000 in
theorem ggX1_let_X1_checkNumber : GoodIn wsX1_let wsX1_checkNumber := goodIn_ca (goodIn_r _ [13, 14, 15] (by decide +kernel) (by decide +kernel)) (goodIn_sub (fun _ h => List.mem_cons_of_mem _ (List.mem_append_left _ (List.mem_append_right _ h))) (by decide +kernel))
set_option maxRecDepth 20000 in
theorem gX1_let_X1_checkNumber : GoodIn wsX1_let (va_wsS RX1 29 yX1_checkNumber wsX1_checkNumber) := goodIn_app (goodIn_of _ (by decide +kernel)) ggX1_let_X1_checkNumber
set_option maxRecDepth 20000 in
theorem ggX1_let_X1_checkRange : GoodIn wsX1_let wsX1_checkRange := goodIn_ca (goodIn_r _ [18, 19, 20] (by decide +kernel) (by decide +kernel)) (goodIn_sub (fun _ h => List.mem_cons_of_mem _ (List.mem_append_right _ h)) (by decide +kernel))
set_option maxRecDepth 20000 in
theorem gX1_let_X1_checkRange : GoodIn wsX1_let (va_wsS RX1 33 yX1_checkRange wsX1_checkRange) := goodIn_app (goodIn_of _ (by decide +kernel)) ggX1_let_X1_checkRange
set_option maxRecDepth 20000 in
theorem ggX1_let_X1_daysLet : GoodIn wsX1_let wsX1_daysLet := goodIn_r _ [24, 6, 25, 26, 27, 9, 28, 29, 30, 31, 32, 33, 34, 35, 36, 37, 55, 56, 57, 58, 59, 60, 61, 62, 63, 64, 65, 66, 67, 68, 69, 70, 71] (by decide +kernel) (by decide +kernel)
set_option maxRecDepth 20000 in
theorem gX1_let_X1_daysLet : GoodIn wsX1_let (wsV RX1 46 RX1 yX1_daysLet wsX1_daysLet) := goodIn_app (goodIn_of _ (by decide +kernel)) ggX1_let_X1_daysLet
set_option maxRecDepth 20000 in
theorem ggX1_let_X0_init : GoodIn wsX1_let wsX0_init := goodIn_r _ [40, 41, 42, 43, 44, 45, 46, 47, 48, 49, 50, 51, 52, 53, 34, 29, 54, 60, 61, 62, 63, 64, 65, 66, 67, 68, 69, 70, 71] (by decide +kernel) (by decide +kernel)
set_option maxRecDepth 20000 in
theorem gX1_let_X0_init : GoodIn wsX1_let (wsX0_init) := ggX1_let_X0_init
theorem dX1_let_0 : decode cX1_let 0 = .ok (.iload_n 1, 1) := by decide +kernel
theorem dX1_let_1 : decode cX1_let 1 = .ok (.aload_n 0, 1) := by decide +kernel
theorem dX1_let_2 : decode cX1_let 2 = .ok (.getfield 9, 3) := by decide +kernel
theorem dX1_let_5 : decode cX1_let 5 = .ok (.arraylength, 1) := by decide +kernel
theorem dX1_let_6 : decode cX1_let 6 = .ok (.invokestatic 29, 3) := by decide +kernel
theorem dX1_let_9 : decode cX1_let 9 = .ok (.iload_n 2, 1) := by decide +kernel
theorem dX1_let_10 : decode cX1_let 10 = .ok (.iconst 0, 1) := by decide +kernel
theorem dX1_let_11 : decode cX1_let 11 = .ok (.sipush 7199, 3) := by decide +kernel
theorem dX1_let_14 : decode cX1_let 14 = .ok (.invokestatic 33, 3) := by decide +kernel
theorem dX1_let_17 : decode cX1_let 17 = .ok (.iload_n 3, 1) := by decide +kernel
theorem dX1_let_18 : decode cX1_let 18 = .ok (.iload_n 2, 1) := by decide +kernel
theorem dX1_let_19 : decode cX1_let 19 = .ok (.iconst 1, 1) := by decide +kernel
theorem dX1_let_20 : decode cX1_let 20 = .ok (.iadd, 1) := by decide +kernel
theorem dX1_let_21 : decode cX1_let 21 = .ok (.sipush 7200, 3) := by decide +kernel
theorem dX1_let_24 : decode cX1_let 24 = .ok (.invokestatic 33, 3) := by decide +kernel
theorem dX1_let_27 : decode cX1_let 27 = .ok (.iload 4, 2) := by decide +kernel
theorem dX1_let_29 : decode cX1_let 29 = .ok (.iconst 1, 1) := by decide +kernel
theorem dX1_let_30 : decode cX1_let 30 = .ok (.ldc 38, 2) := by decide +kernel
theorem dX1_let_32 : decode cX1_let 32 = .ok (.invokestatic 33, 3) := by decide +kernel
theorem dX1_let_35 : decode cX1_let 35 = .ok (.aload_n 0, 1) := by decide +kernel
theorem dX1_let_36 : decode cX1_let 36 = .ok (.getfield 25, 3) := by decide +kernel
theorem dX1_let_39 : decode cX1_let 39 = .ok (.aload_n 0, 1) := by decide +kernel
theorem dX1_let_40 : decode cX1_let 40 = .ok (.getfield 21, 3) := by decide +kernel
theorem dX1_let_43 : decode cX1_let 43 = .ok (.arraylength, 1) := by decide +kernel
theorem dX1_let_44 : decode cX1_let 44 = .ok (.if_icmp .lt 13, 3) := by decide +kernel
theorem dX1_let_47 : decode cX1_let 47 = .ok (.new 39, 3) := by decide +kernel
theorem dX1_let_50 : decode cX1_let 50 = .ok (.dup, 1) := by decide +kernel
theorem dX1_let_51 : decode cX1_let 51 = .ok (.ldc 41, 2) := by decide +kernel
theorem dX1_let_53 : decode cX1_let 53 = .ok (.invokespecial 43, 3) := by decide +kernel
theorem dX1_let_56 : decode cX1_let 56 = .ok (.athrow, 1) := by decide +kernel
theorem dX1_let_57 : decode cX1_let 57 = .ok (.aload_n 0, 1) := by decide +kernel
theorem dX1_let_58 : decode cX1_let 58 = .ok (.iload_n 1, 1) := by decide +kernel
theorem dX1_let_59 : decode cX1_let 59 = .ok (.iload_n 2, 1) := by decide +kernel
theorem dX1_let_60 : decode cX1_let 60 = .ok (.iload_n 3, 1) := by decide +kernel
theorem dX1_let_61 : decode cX1_let 61 = .ok (.invokevirtual 46, 3) := by decide +kernel
theorem dX1_let_64 : decode cX1_let 64 = .ok (.ifCond .le 13, 3) := by decide +kernel
theorem dX1_let_67 : decode cX1_let 67 = .ok (.new 39, 3) := by decide +kernel
theorem dX1_let_70 : decode cX1_let 70 = .ok (.dup, 1) := by decide +kernel
theorem dX1_let_71 : decode cX1_let 71 = .ok (.ldc 50, 2) := by decide +kernel
theorem dX1_let_73 : decode cX1_let 73 = .ok (.invokespecial 43, 3) := by decide +kernel
theorem dX1_let_76 : decode cX1_let 76 = .ok (.athrow, 1) := by decide +kernel
theorem dX1_let_77 : decode cX1_let 77 = .ok (.aload_n 0, 1) := by decide +kernel
theorem dX1_let_78 : decode cX1_let 78 = .ok (.getfield 25, 3) := by decide +kernel
theorem dX1_let_81 : decode cX1_let 81 = .ok (.istore 5, 2) := by decide +kernel
theorem dX1_let_83 : decode cX1_let 83 = .ok (.aload_n 0, 1) := by decide +kernel
theorem dX1_let_84 : decode cX1_let 84 = .ok (.getfield 21, 3) := by decide +kernel
theorem dX1_let_87 : decode cX1_let 87 = .ok (.iload 5, 2) := by decide +kernel
theorem dX1_let_89 : decode cX1_let 89 = .ok (.new 19, 3) := by decide +kernel
theorem dX1_let_92 : decode cX1_let 92 = .ok (.dup, 1) := by decide +kernel
theorem dX1_let_93 : decode cX1_let 93 = .ok (.iload_n 1, 1) := by decide +kernel
theorem dX1_let_94 : decode cX1_let 94 = .ok (.iload_n 2, 1) := by decide +kernel
theorem dX1_let_95 : decode cX1_let 95 = .ok (.iload_n 3, 1) := by decide +kernel
theorem dX1_let_96 : decode cX1_let 96 = .ok (.iload 4, 2) := by decide +kernel
theorem dX1_let_98 : decode cX1_let 98 = .ok (.invokespecial 52, 3) := by decide +kernel
theorem dX1_let_101 : decode cX1_let 101 = .ok (.aastore, 1) := by decide +kernel
theorem dX1_let_102 : decode cX1_let 102 = .ok (.aload_n 0, 1) := by decide +kernel
theorem dX1_let_103 : decode cX1_let 103 = .ok (.iload 5, 2) := by decide +kernel
theorem dX1_let_105 : decode cX1_let 105 = .ok (.iconst 1, 1) := by decide +kernel
theorem dX1_let_106 : decode cX1_let 106 = .ok (.iadd, 1) := by decide +kernel
theorem dX1_let_107 : decode cX1_let 107 = .ok (.putfield 25, 3) := by decide +kernel
theorem dX1_let_110 : decode cX1_let 110 = .ok (.iload 5, 2) := by decide +kernel
theorem dX1_let_112 : decode cX1_let 112 = .ok (.ireturn, 1) := by decide +kernel
set_option maxRecDepth 20000 in
theorem ggX1_end_X1_find : GoodIn wsX1_end wsX1_find := goodIn_ca (goodIn_r _ [5, 6, 7, 8, 9, 10, 4, 11, 29, 30, 31, 32, 33] (by decide +kernel) (by decide +kernel)) (goodIn_sub (fun _ h => List.mem_cons_of_mem _ (List.mem_append_left _ (List.mem_append_right _ h))) (by decide +kernel))
set_option maxRecDepth 20000 in
theorem gX1_end_X1_find : GoodIn wsX1_end (wsV RX1 55 RX1 yX1_find wsX1_find) := goodIn_app (goodIn_of _ (by decide +kernel)) ggX1_end_X1_find
set_option maxRecDepth 20000 in
theorem ggX1_end_X1_checkRange : GoodIn wsX1_end wsX1_checkRange := goodIn_ca (goodIn_r _ [14, 15, 16] (by decide +kernel) (by decide +kernel)) (goodIn_sub (fun _ h => List.mem_cons_of_mem _ (List.mem_append_right _ h)) (by decide +kernel))
set_option maxRecDepth 20000 in
theorem gX1_end_X1_checkRange : GoodIn wsX1_end (va_wsS RX1 33 yX1_checkRange wsX1_checkRange) := goodIn_app (goodIn_of _ (by decide +kernel)) ggX1_end_X1_checkRange
theorem dX1_end_0 : decode cX1_end 0 = .ok (.aload_n 0, 1) := by decide +kernel
theorem dX1_end_1 : decode cX1_end 1 = .ok (.iload_n 1, 1) := by decide +kernel
theorem dX1_end_2 : decode cX1_end 2 = .ok (.invokevirtual 55, 3) := by decide +kernel
theorem dX1_end_5 : decode cX1_end 5 = .ok (.astore_n 3, 1) := by decide +kernel
theorem dX1_end_6 : decode cX1_end 6 = .ok (.iload_n 2, 1) := by decide +kernel
theorem dX1_end_7 : decode cX1_end 7 = .ok (.aload_n 3, 1) := by decide +kernel
theorem dX1_end_8 : decode cX1_end 8 = .ok (.getfield 59, 3) := by decide +kernel
theorem dX1_end_11 : decode cX1_end 11 = .ok (.iconst 1, 1) := by decide +kernel
theorem dX1_end_12 : decode cX1_end 12 = .ok (.iadd, 1) := by decide +kernel
theorem dX1_end_13 : decode cX1_end 13 = .ok (.aload_n 3, 1) := by decide +kernel
theorem dX1_end_14 : decode cX1_end 14 = .ok (.getfield 62, 3) := by decide +kernel
theorem dX1_end_17 : decode cX1_end 17 = .ok (.iconst 1, 1) := by decide +kernel
theorem dX1_end_18 : decode cX1_end 18 = .ok (.isub, 1) := by decide +kernel
theorem dX1_end_19 : decode cX1_end 19 = .ok (.invokestatic 33, 3) := by decide +kernel
theorem dX1_end_22 : decode cX1_end 22 = .ok (.aload_n 3, 1) := by decide +kernel
theorem dX1_end_23 : decode cX1_end 23 = .ok (.getfield 62, 3) := by decide +kernel
theorem dX1_end_26 : decode cX1_end 26 = .ok (.istore 4, 2) := by decide +kernel
theorem dX1_end_28 : decode cX1_end 28 = .ok (.aload_n 3, 1) := by decide +kernel
theorem dX1_end_29 : decode cX1_end 29 = .ok (.iload_n 2, 1) := by decide +kernel
theorem dX1_end_30 : decode cX1_end 30 = .ok (.putfield 62, 3) := by decide +kernel
theorem dX1_end_33 : decode cX1_end 33 = .ok (.iload 4, 2) := by decide +kernel
theorem dX1_end_35 : decode cX1_end 35 = .ok (.ireturn, 1) := by decide +kernel
set_option maxRecDepth 20000 in
theorem ggX1_step_X1_find : GoodIn wsX1_step wsX1_find := goodIn_ca (goodIn_r _ [8, 9, 10, 11, 12, 13, 7, 14, 44, 45, 46, 47, 48] (by decide +kernel) (by decide +kernel)) (goodIn_sub (fun _ h => List.mem_cons_of_mem _ (List.mem_append_left _ (List.mem_append_right _ h))) (by decide +kernel))
set_option maxRecDepth 20000 in
theorem gX1_step_X1_find : GoodIn wsX1_step (wsV RX1 55 RX1 yX1_find wsX1_find) := goodIn_app (goodIn_of _ (by decide +kernel)) ggX1_step_X1_find
set_option maxRecDepth 20000 in
theorem ggX1_step_X1_checkRange : GoodIn wsX1_step wsX1_checkRange := goodIn_ca (goodIn_r _ [17, 18, 19] (by decide +kernel) (by decide +kernel)) (goodIn_sub (fun _ h => List.mem_cons_of_mem _ (List.mem_append_right _ h)) (by decide +kernel))
set_option maxRecDepth 20000 in
theorem gX1_step_X1_checkRange : GoodIn wsX1_step (va_wsS RX1 33 yX1_checkRange wsX1_checkRange) := goodIn_app (goodIn_of _ (by decide +kernel)) ggX1_step_X1_checkRange
set_option maxRecDepth 20000 in
theorem ggX1_step_X0_putStep : GoodIn wsX1_step wsX0_putStep := goodIn_r _ [24, 25, 26, 27, 28, 29, 30, 31, 32, 33, 34, 35, 36, 37, 38, 39, 40, 41, 42, 43] (by decide +kernel) (by decide +kernel)
set_option maxRecDepth 20000 in
theorem gX1_step_X0_putStep : GoodIn wsX1_step (wsV RX1 65 RX0 yX0_putStep wsX0_putStep) := goodIn_app (goodIn_of _ (by decide +kernel)) ggX1_step_X0_putStep
theorem dX1_step_0 : decode cX1_step 0 = .ok (.aload_n 0, 1) := by decide +kernel
theorem dX1_step_1 : decode cX1_step 1 = .ok (.iload_n 1, 1) := by decide +kernel
theorem dX1_step_2 : decode cX1_step 2 = .ok (.invokevirtual 55, 3) := by decide +kernel
theorem dX1_step_5 : decode cX1_step 5 = .ok (.astore 4, 2) := by decide +kernel
theorem dX1_step_7 : decode cX1_step 7 = .ok (.iload_n 2, 1) := by decide +kernel
theorem dX1_step_8 : decode cX1_step 8 = .ok (.aload 4, 2) := by decide +kernel
theorem dX1_step_10 : decode cX1_step 10 = .ok (.getfield 59, 3) := by decide +kernel
theorem dX1_step_13 : decode cX1_step 13 = .ok (.iconst 1, 1) := by decide +kernel
theorem dX1_step_14 : decode cX1_step 14 = .ok (.iadd, 1) := by decide +kernel
theorem dX1_step_15 : decode cX1_step 15 = .ok (.aload 4, 2) := by decide +kernel
theorem dX1_step_17 : decode cX1_step 17 = .ok (.getfield 62, 3) := by decide +kernel
theorem dX1_step_20 : decode cX1_step 20 = .ok (.iconst 1, 1) := by decide +kernel
theorem dX1_step_21 : decode cX1_step 21 = .ok (.isub, 1) := by decide +kernel
theorem dX1_step_22 : decode cX1_step 22 = .ok (.invokestatic 33, 3) := by decide +kernel
theorem dX1_step_25 : decode cX1_step 25 = .ok (.iload_n 3, 1) := by decide +kernel
theorem dX1_step_26 : decode cX1_step 26 = .ok (.iconst 1, 1) := by decide +kernel
theorem dX1_step_27 : decode cX1_step 27 = .ok (.ldc 38, 2) := by decide +kernel
theorem dX1_step_29 : decode cX1_step 29 = .ok (.invokestatic 33, 3) := by decide +kernel
theorem dX1_step_32 : decode cX1_step 32 = .ok (.aload 4, 2) := by decide +kernel
theorem dX1_step_34 : decode cX1_step 34 = .ok (.iload_n 2, 1) := by decide +kernel
theorem dX1_step_35 : decode cX1_step 35 = .ok (.iload_n 3, 1) := by decide +kernel
theorem dX1_step_36 : decode cX1_step 36 = .ok (.invokevirtual 65, 3) := by decide +kernel
theorem dX1_step_39 : decode cX1_step 39 = .ok (.ifCond .ne 13, 3) := by decide +kernel
theorem dX1_step_42 : decode cX1_step 42 = .ok (.new 39, 3) := by decide +kernel
theorem dX1_step_45 : decode cX1_step 45 = .ok (.dup, 1) := by decide +kernel
theorem dX1_step_46 : decode cX1_step 46 = .ok (.ldc 69, 2) := by decide +kernel
theorem dX1_step_48 : decode cX1_step 48 = .ok (.invokespecial 43, 3) := by decide +kernel
theorem dX1_step_51 : decode cX1_step 51 = .ok (.athrow, 1) := by decide +kernel
theorem dX1_step_52 : decode cX1_step 52 = .ok (.aload 4, 2) := by decide +kernel
theorem dX1_step_54 : decode cX1_step 54 = .ok (.getfield 71, 3) := by decide +kernel
theorem dX1_step_57 : decode cX1_step 57 = .ok (.ireturn, 1) := by decide +kernel
set_option maxRecDepth 20000 in
theorem ggX1_setTerms_X1_find : GoodIn wsX1_setTerms wsX1_find := goodIn_ca (goodIn_r _ [5, 6, 7, 8, 9, 10, 4, 11, 29, 30, 31, 32, 33] (by decide +kernel) (by decide +kernel)) (goodIn_sub (fun _ h => List.mem_cons_of_mem _ (List.mem_append_left _ (List.mem_append_right _ h))) (by decide +kernel))
set_option maxRecDepth 20000 in
theorem gX1_setTerms_X1_find : GoodIn wsX1_setTerms (wsV RX1 55 RX1 yX1_find wsX1_find) := goodIn_app (goodIn_of _ (by decide +kernel)) ggX1_setTerms_X1_find
set_option maxRecDepth 20000 in
theorem ggX1_setTerms_X1_checkRange : GoodIn wsX1_setTerms wsX1_checkRange := goodIn_ca (goodIn_r _ [14, 15, 16] (by decide +kernel) (by decide +kernel)) (goodIn_sub (fun _ h => List.mem_cons_of_mem _ (List.mem_append_right _ h)) (by decide +kernel))
set_option maxRecDepth 20000 in
theorem gX1_setTerms_X1_checkRange : GoodIn wsX1_setTerms (va_wsS RX1 33 yX1_checkRange wsX1_checkRange) := goodIn_app (goodIn_of _ (by decide +kernel)) ggX1_setTerms_X1_checkRange
theorem dX1_setTerms_0 : decode cX1_setTerms 0 = .ok (.aload_n 0, 1) := by decide +kernel
theorem dX1_setTerms_1 : decode cX1_setTerms 1 = .ok (.iload_n 1, 1) := by decide +kernel
theorem dX1_setTerms_2 : decode cX1_setTerms 2 = .ok (.invokevirtual 55, 3) := by decide +kernel
theorem dX1_setTerms_5 : decode cX1_setTerms 5 = .ok (.astore 4, 2) := by decide +kernel
theorem dX1_setTerms_7 : decode cX1_setTerms 7 = .ok (.iload_n 2, 1) := by decide +kernel
theorem dX1_setTerms_8 : decode cX1_setTerms 8 = .ok (.iconst 0, 1) := by decide +kernel
theorem dX1_setTerms_9 : decode cX1_setTerms 9 = .ok (.sipush 720, 3) := by decide +kernel
theorem dX1_setTerms_12 : decode cX1_setTerms 12 = .ok (.invokestatic 33, 3) := by decide +kernel
theorem dX1_setTerms_15 : decode cX1_setTerms 15 = .ok (.iload_n 3, 1) := by decide +kernel
theorem dX1_setTerms_16 : decode cX1_setTerms 16 = .ok (.ifCond .eq 12, 3) := by decide +kernel
theorem dX1_setTerms_19 : decode cX1_setTerms 19 = .ok (.iload_n 3, 1) := by decide +kernel
theorem dX1_setTerms_20 : decode cX1_setTerms 20 = .ok (.bipush 30, 2) := by decide +kernel
theorem dX1_setTerms_22 : decode cX1_setTerms 22 = .ok (.sipush 1800, 3) := by decide +kernel
theorem dX1_setTerms_25 : decode cX1_setTerms 25 = .ok (.invokestatic 33, 3) := by decide +kernel
theorem dX1_setTerms_28 : decode cX1_setTerms 28 = .ok (.aload 4, 2) := by decide +kernel
theorem dX1_setTerms_30 : decode cX1_setTerms 30 = .ok (.iload_n 2, 1) := by decide +kernel
theorem dX1_setTerms_31 : decode cX1_setTerms 31 = .ok (.putfield 74, 3) := by decide +kernel
theorem dX1_setTerms_34 : decode cX1_setTerms 34 = .ok (.aload 4, 2) := by decide +kernel
theorem dX1_setTerms_36 : decode cX1_setTerms 36 = .ok (.iload_n 3, 1) := by decide +kernel
theorem dX1_setTerms_37 : decode cX1_setTerms 37 = .ok (.putfield 77, 3) := by decide +kernel
theorem dX1_setTerms_40 : decode cX1_setTerms 40 = .ok (.return_, 1) := by decide +kernel
set_option maxRecDepth 20000 in
theorem ggX1_setService_X1_find : GoodIn wsX1_setService wsX1_find := goodIn_ca (goodIn_r _ [6, 7, 8, 9, 10, 11, 5, 12, 30, 31, 32, 33, 34] (by decide +kernel) (by decide +kernel)) (goodIn_sub (fun _ h => List.mem_cons_of_mem _ (List.mem_append_left _ (List.mem_append_right _ h))) (by decide +kernel))
set_option maxRecDepth 20000 in
theorem gX1_setService_X1_find : GoodIn wsX1_setService (wsV RX1 55 RX1 yX1_find wsX1_find) := goodIn_app (goodIn_of _ (by decide +kernel)) ggX1_setService_X1_find
set_option maxRecDepth 20000 in
theorem ggX1_setService_X1_checkRange : GoodIn wsX1_setService wsX1_checkRange := goodIn_ca (goodIn_r _ [15, 16, 17] (by decide +kernel) (by decide +kernel)) (goodIn_sub (fun _ h => List.mem_cons_of_mem _ (List.mem_append_right _ h)) (by decide +kernel))
set_option maxRecDepth 20000 in
theorem gX1_setService_X1_checkRange : GoodIn wsX1_setService (va_wsS RX1 33 yX1_checkRange wsX1_checkRange) := goodIn_app (goodIn_of _ (by decide +kernel)) ggX1_setService_X1_checkRange
theorem dX1_setService_0 : decode cX1_setService 0 = .ok (.aload_n 0, 1) := by decide +kernel
theorem dX1_setService_1 : decode cX1_setService 1 = .ok (.iload_n 1, 1) := by decide +kernel
theorem dX1_setService_2 : decode cX1_setService 2 = .ok (.invokevirtual 55, 3) := by decide +kernel
theorem dX1_setService_5 : decode cX1_setService 5 = .ok (.astore 4, 2) := by decide +kernel
theorem dX1_setService_7 : decode cX1_setService 7 = .ok (.iload_n 2, 1) := by decide +kernel
theorem dX1_setService_8 : decode cX1_setService 8 = .ok (.iconst (-1), 1) := by decide +kernel
theorem dX1_setService_9 : decode cX1_setService 9 = .ok (.if_icmp .eq 10, 3) := by decide +kernel
theorem dX1_setService_12 : decode cX1_setService 12 = .ok (.iload_n 2, 1) := by decide +kernel
theorem dX1_setService_13 : decode cX1_setService 13 = .ok (.iconst 0, 1) := by decide +kernel
theorem dX1_setService_14 : decode cX1_setService 14 = .ok (.ldc 37, 2) := by decide +kernel
theorem dX1_setService_16 : decode cX1_setService 16 = .ok (.invokestatic 33, 3) := by decide +kernel
theorem dX1_setService_19 : decode cX1_setService 19 = .ok (.iload_n 3, 1) := by decide +kernel
theorem dX1_setService_20 : decode cX1_setService 20 = .ok (.iconst 0, 1) := by decide +kernel
theorem dX1_setService_21 : decode cX1_setService 21 = .ok (.sipush 9999, 3) := by decide +kernel
theorem dX1_setService_24 : decode cX1_setService 24 = .ok (.invokestatic 33, 3) := by decide +kernel
theorem dX1_setService_27 : decode cX1_setService 27 = .ok (.aload 4, 2) := by decide +kernel
theorem dX1_setService_29 : decode cX1_setService 29 = .ok (.iload_n 2, 1) := by decide +kernel
theorem dX1_setService_30 : decode cX1_setService 30 = .ok (.putfield 80, 3) := by decide +kernel
theorem dX1_setService_33 : decode cX1_setService 33 = .ok (.aload 4, 2) := by decide +kernel
theorem dX1_setService_35 : decode cX1_setService 35 = .ok (.iload_n 3, 1) := by decide +kernel
theorem dX1_setService_36 : decode cX1_setService 36 = .ok (.putfield 83, 3) := by decide +kernel
theorem dX1_setService_39 : decode cX1_setService 39 = .ok (.return_, 1) := by decide +kernel
set_option maxRecDepth 20000 in
theorem ggX1_topUp_X1_find : GoodIn wsX1_topUp wsX1_find := goodIn_ca (goodIn_r _ [9, 10, 11, 12, 13, 14, 8, 15, 70, 71, 72, 73, 74] (by decide +kernel) (by decide +kernel)) (goodIn_sub (fun _ h => List.mem_cons_of_mem _ (List.mem_append_left _ (List.mem_append_right _ h))) (by decide +kernel))
set_option maxRecDepth 20000 in
theorem gX1_topUp_X1_find : GoodIn wsX1_topUp (wsV RX1 55 RX1 yX1_find wsX1_find) := goodIn_app (goodIn_of _ (by decide +kernel)) ggX1_topUp_X1_find
set_option maxRecDepth 20000 in
theorem ggX1_topUp_X1_checkRange : GoodIn wsX1_topUp wsX1_checkRange := goodIn_ca (goodIn_r _ [18, 19, 20] (by decide +kernel) (by decide +kernel)) (goodIn_sub (fun _ h => List.mem_cons_of_mem _ (List.mem_append_right _ h)) (by decide +kernel))
set_option maxRecDepth 20000 in
theorem gX1_topUp_X1_checkRange : GoodIn wsX1_topUp (va_wsS RX1 33 yX1_checkRange wsX1_checkRange) := goodIn_app (goodIn_of _ (by decide +kernel)) ggX1_topUp_X1_checkRange
set_option maxRecDepth 20000 in
theorem ggX1_topUp_X1_rentFor : GoodIn wsX1_topUp wsX1_rentFor := goodIn_r _ [24, 25, 1, 2, 3, 4, 26, 27, 28, 29, 30, 31, 32, 33, 34, 35, 36, 37, 38, 39, 40, 41, 42, 43, 44, 45, 46, 47, 8, 48, 49, 50, 51, 52, 53, 54, 55, 56, 57, 70, 71, 72, 73, 74, 58, 59, 60, 61, 62, 63, 64, 65, 66, 67, 68, 69] (by decide +kernel) (by decide +kernel)
set_option maxRecDepth 20000 in
theorem gX1_topUp_X1_rentFor : GoodIn wsX1_topUp (wsV RX1 86 RX1 yX1_rentFor wsX1_rentFor) := goodIn_app (goodIn_of _ (by decide +kernel)) ggX1_topUp_X1_rentFor
theorem dX1_topUp_0 : decode cX1_topUp 0 = .ok (.aload_n 0, 1) := by decide +kernel
theorem dX1_topUp_1 : decode cX1_topUp 1 = .ok (.iload_n 1, 1) := by decide +kernel
theorem dX1_topUp_2 : decode cX1_topUp 2 = .ok (.invokevirtual 55, 3) := by decide +kernel
theorem dX1_topUp_5 : decode cX1_topUp 5 = .ok (.astore 4, 2) := by decide +kernel
theorem dX1_topUp_7 : decode cX1_topUp 7 = .ok (.iload_n 2, 1) := by decide +kernel
theorem dX1_topUp_8 : decode cX1_topUp 8 = .ok (.aload 4, 2) := by decide +kernel
theorem dX1_topUp_10 : decode cX1_topUp 10 = .ok (.getfield 59, 3) := by decide +kernel
theorem dX1_topUp_13 : decode cX1_topUp 13 = .ok (.aload 4, 2) := by decide +kernel
theorem dX1_topUp_15 : decode cX1_topUp 15 = .ok (.getfield 62, 3) := by decide +kernel
theorem dX1_topUp_18 : decode cX1_topUp 18 = .ok (.iconst 1, 1) := by decide +kernel
theorem dX1_topUp_19 : decode cX1_topUp 19 = .ok (.isub, 1) := by decide +kernel
theorem dX1_topUp_20 : decode cX1_topUp 20 = .ok (.invokestatic 33, 3) := by decide +kernel
theorem dX1_topUp_23 : decode cX1_topUp 23 = .ok (.iload_n 3, 1) := by decide +kernel
theorem dX1_topUp_24 : decode cX1_topUp 24 = .ok (.iconst 1, 1) := by decide +kernel
theorem dX1_topUp_25 : decode cX1_topUp 25 = .ok (.bipush 6, 2) := by decide +kernel
theorem dX1_topUp_27 : decode cX1_topUp 27 = .ok (.invokestatic 33, 3) := by decide +kernel
theorem dX1_topUp_30 : decode cX1_topUp 30 = .ok (.iconst 0, 1) := by decide +kernel
theorem dX1_topUp_31 : decode cX1_topUp 31 = .ok (.iload_n 3, 1) := by decide +kernel
theorem dX1_topUp_32 : decode cX1_topUp 32 = .ok (.aload_n 0, 1) := by decide +kernel
theorem dX1_topUp_33 : decode cX1_topUp 33 = .ok (.aload 4, 2) := by decide +kernel
theorem dX1_topUp_35 : decode cX1_topUp 35 = .ok (.iload_n 2, 1) := by decide +kernel
theorem dX1_topUp_36 : decode cX1_topUp 36 = .ok (.invokevirtual 86, 3) := by decide +kernel
theorem dX1_topUp_39 : decode cX1_topUp 39 = .ok (.imul, 1) := by decide +kernel
theorem dX1_topUp_40 : decode cX1_topUp 40 = .ok (.aload 4, 2) := by decide +kernel
theorem dX1_topUp_42 : decode cX1_topUp 42 = .ok (.getfield 90, 3) := by decide +kernel
theorem dX1_topUp_45 : decode cX1_topUp 45 = .ok (.isub, 1) := by decide +kernel
theorem dX1_topUp_46 : decode cX1_topUp 46 = .ok (.invokestatic 93, 3) := by decide +kernel
theorem dX1_topUp_49 : decode cX1_topUp 49 = .ok (.istore 5, 2) := by decide +kernel
theorem dX1_topUp_51 : decode cX1_topUp 51 = .ok (.aload 4, 2) := by decide +kernel
theorem dX1_topUp_53 : decode cX1_topUp 53 = .ok (.dup, 1) := by decide +kernel
theorem dX1_topUp_54 : decode cX1_topUp 54 = .ok (.getfield 90, 3) := by decide +kernel
theorem dX1_topUp_57 : decode cX1_topUp 57 = .ok (.iload 5, 2) := by decide +kernel
theorem dX1_topUp_59 : decode cX1_topUp 59 = .ok (.iadd, 1) := by decide +kernel
theorem dX1_topUp_60 : decode cX1_topUp 60 = .ok (.putfield 90, 3) := by decide +kernel
theorem dX1_topUp_63 : decode cX1_topUp 63 = .ok (.iload 5, 2) := by decide +kernel
theorem dX1_topUp_65 : decode cX1_topUp 65 = .ok (.ireturn, 1) := by decide +kernel
set_option maxRecDepth 20000 in
theorem ggX1_draw_X1_find : GoodIn wsX1_draw wsX1_find := goodIn_ca (goodIn_r _ [8, 9, 10, 11, 12, 13, 7, 14, 32, 33, 34, 35, 36] (by decide +kernel) (by decide +kernel)) (goodIn_sub (fun _ h => List.mem_cons_of_mem _ (List.mem_append_left _ (List.mem_append_right _ h))) (by decide +kernel))
set_option maxRecDepth 20000 in
theorem gX1_draw_X1_find : GoodIn wsX1_draw (wsV RX1 55 RX1 yX1_find wsX1_find) := goodIn_app (goodIn_of _ (by decide +kernel)) ggX1_draw_X1_find
set_option maxRecDepth 20000 in
theorem ggX1_draw_X1_checkRange : GoodIn wsX1_draw wsX1_checkRange := goodIn_ca (goodIn_r _ [17, 18, 19] (by decide +kernel) (by decide +kernel)) (goodIn_sub (fun _ h => List.mem_cons_of_mem _ (List.mem_append_right _ h)) (by decide +kernel))
set_option maxRecDepth 20000 in
theorem gX1_draw_X1_checkRange : GoodIn wsX1_draw (va_wsS RX1 33 yX1_checkRange wsX1_checkRange) := goodIn_app (goodIn_of _ (by decide +kernel)) ggX1_draw_X1_checkRange
theorem dX1_draw_0 : decode cX1_draw 0 = .ok (.aload_n 0, 1) := by decide +kernel
theorem dX1_draw_1 : decode cX1_draw 1 = .ok (.iload_n 1, 1) := by decide +kernel
theorem dX1_draw_2 : decode cX1_draw 2 = .ok (.invokevirtual 55, 3) := by decide +kernel
theorem dX1_draw_5 : decode cX1_draw 5 = .ok (.astore_n 3, 1) := by decide +kernel
theorem dX1_draw_6 : decode cX1_draw 6 = .ok (.iload_n 2, 1) := by decide +kernel
theorem dX1_draw_7 : decode cX1_draw 7 = .ok (.iconst 1, 1) := by decide +kernel
theorem dX1_draw_8 : decode cX1_draw 8 = .ok (.ldc 37, 2) := by decide +kernel
theorem dX1_draw_10 : decode cX1_draw 10 = .ok (.invokestatic 33, 3) := by decide +kernel
theorem dX1_draw_13 : decode cX1_draw 13 = .ok (.aload_n 3, 1) := by decide +kernel
theorem dX1_draw_14 : decode cX1_draw 14 = .ok (.getfield 90, 3) := by decide +kernel
theorem dX1_draw_17 : decode cX1_draw 17 = .ok (.iload_n 2, 1) := by decide +kernel
theorem dX1_draw_18 : decode cX1_draw 18 = .ok (.if_icmp .ge 13, 3) := by decide +kernel
theorem dX1_draw_21 : decode cX1_draw 21 = .ok (.new 39, 3) := by decide +kernel
theorem dX1_draw_24 : decode cX1_draw 24 = .ok (.dup, 1) := by decide +kernel
theorem dX1_draw_25 : decode cX1_draw 25 = .ok (.ldc 99, 2) := by decide +kernel
theorem dX1_draw_27 : decode cX1_draw 27 = .ok (.invokespecial 43, 3) := by decide +kernel
theorem dX1_draw_30 : decode cX1_draw 30 = .ok (.athrow, 1) := by decide +kernel
theorem dX1_draw_31 : decode cX1_draw 31 = .ok (.aload_n 3, 1) := by decide +kernel
theorem dX1_draw_32 : decode cX1_draw 32 = .ok (.dup, 1) := by decide +kernel
theorem dX1_draw_33 : decode cX1_draw 33 = .ok (.getfield 90, 3) := by decide +kernel
theorem dX1_draw_36 : decode cX1_draw 36 = .ok (.iload_n 2, 1) := by decide +kernel
theorem dX1_draw_37 : decode cX1_draw 37 = .ok (.isub, 1) := by decide +kernel
theorem dX1_draw_38 : decode cX1_draw 38 = .ok (.putfield 90, 3) := by decide +kernel
theorem dX1_draw_41 : decode cX1_draw 41 = .ok (.aload_n 3, 1) := by decide +kernel
theorem dX1_draw_42 : decode cX1_draw 42 = .ok (.getfield 90, 3) := by decide +kernel
theorem dX1_draw_45 : decode cX1_draw 45 = .ok (.ireturn, 1) := by decide +kernel
set_option maxRecDepth 20000 in
theorem ggX1_held_X1_find : GoodIn wsX1_held wsX1_find := goodIn_ca (goodIn_r _ [5, 6, 7, 8, 9, 10, 4, 11, 24, 25, 26, 27, 28] (by decide +kernel) (by decide +kernel)) (goodIn_sub (fun _ h => List.mem_cons_of_mem _ (List.mem_append_right _ h)) (by decide +kernel))
set_option maxRecDepth 20000 in
theorem gX1_held_X1_find : GoodIn wsX1_held (wsV RX1 55 RX1 yX1_find wsX1_find) := goodIn_app (goodIn_of _ (by decide +kernel)) ggX1_held_X1_find
theorem dX1_held_0 : decode cX1_held 0 = .ok (.aload_n 0, 1) := by decide +kernel
theorem dX1_held_1 : decode cX1_held 1 = .ok (.iload_n 1, 1) := by decide +kernel
theorem dX1_held_2 : decode cX1_held 2 = .ok (.invokevirtual 55, 3) := by decide +kernel
theorem dX1_held_5 : decode cX1_held 5 = .ok (.getfield 90, 3) := by decide +kernel
theorem dX1_held_8 : decode cX1_held 8 = .ok (.ireturn, 1) := by decide +kernel
theorem dX1_leases_0 : decode cX1_leases 0 = .ok (.aload_n 0, 1) := by decide +kernel
theorem dX1_leases_1 : decode cX1_leases 1 = .ok (.getfield 25, 3) := by decide +kernel
theorem dX1_leases_4 : decode cX1_leases 4 = .ok (.ireturn, 1) := by decide +kernel
set_option maxRecDepth 20000 in
theorem ggX1_leaseOn_X1_checkNumber : GoodIn wsX1_leaseOn wsX1_checkNumber := goodIn_ca (goodIn_r _ [6, 7, 8] (by decide +kernel) (by decide +kernel)) (goodIn_sub (fun _ h => List.mem_cons_of_mem _ (List.mem_append_right _ h)) (by decide +kernel))
set_option maxRecDepth 20000 in
theorem gX1_leaseOn_X1_checkNumber : GoodIn wsX1_leaseOn (va_wsS RX1 29 yX1_checkNumber wsX1_checkNumber) := goodIn_app (goodIn_of _ (by decide +kernel)) ggX1_leaseOn_X1_checkNumber
set_option maxRecDepth 20000 in
theorem ggX1_leaseOn_X0_runsOn : GoodIn wsX1_leaseOn wsX0_runsOn := goodIn_r _ [13, 14, 15, 21, 22, 23, 24, 25, 26, 27, 28, 29, 30, 31, 32] (by decide +kernel) (by decide +kernel)
set_option maxRecDepth 20000 in
theorem gX1_leaseOn_X0_runsOn : GoodIn wsX1_leaseOn (wsV RX1 104 RX0 yX0_runsOn wsX0_runsOn) := goodIn_app (goodIn_of _ (by decide +kernel)) ggX1_leaseOn_X0_runsOn
end
section
theorem dX1_leaseOn_0 : decode cX1_leaseOn 0 = .ok (.iload_n 1, 1) := by decide +kernel
theorem dX1_leaseOn_1 : decode cX1_leaseOn 1 = .ok (.aload_n 0, 1) := by decide +kernel
theorem dX1_leaseOn_2 : decode cX1_leaseOn 2 = .ok (.getfield 9, 3) := by decide +kernel
theorem dX1_leaseOn_5 : decode cX1_leaseOn 5 = .ok (.arraylength, 1) := by decide +kernel
theorem dX1_leaseOn_6 : decode cX1_leaseOn 6 = .ok (.invokestatic 29, 3) := by decide +kernel
theorem dX1_leaseOn_9 : decode cX1_leaseOn 9 = .ok (.iload_n 2, 1) := by decide +kernel
theorem dX1_leaseOn_10 : decode cX1_leaseOn 10 = .ok (.sipush 7200, 3) := by decide +kernel
theorem dX1_leaseOn_13 : decode cX1_leaseOn 13 = .ok (.invokestatic 29, 3) := by decide +kernel
theorem dX1_leaseOn_16 : decode cX1_leaseOn 16 = .ok (.iconst 0, 1) := by decide +kernel
theorem dX1_leaseOn_17 : decode cX1_leaseOn 17 = .ok (.istore_n 3, 1) := by decide +kernel
theorem dX1_leaseOn_18 : decode cX1_leaseOn 18 = .ok (.iload_n 3, 1) := by decide +kernel
theorem dX1_leaseOn_19 : decode cX1_leaseOn 19 = .ok (.aload_n 0, 1) := by decide +kernel
theorem dX1_leaseOn_20 : decode cX1_leaseOn 20 = .ok (.getfield 21, 3) := by decide +kernel
theorem dX1_leaseOn_23 : decode cX1_leaseOn 23 = .ok (.arraylength, 1) := by decide +kernel
theorem dX1_leaseOn_24 : decode cX1_leaseOn 24 = .ok (.if_icmp .ge 42, 3) := by decide +kernel
theorem dX1_leaseOn_27 : decode cX1_leaseOn 27 = .ok (.aload_n 0, 1) := by decide +kernel
theorem dX1_leaseOn_28 : decode cX1_leaseOn 28 = .ok (.getfield 21, 3) := by decide +kernel
theorem dX1_leaseOn_31 : decode cX1_leaseOn 31 = .ok (.iload_n 3, 1) := by decide +kernel
theorem dX1_leaseOn_32 : decode cX1_leaseOn 32 = .ok (.aaload, 1) := by decide +kernel
theorem dX1_leaseOn_33 : decode cX1_leaseOn 33 = .ok (.astore 4, 2) := by decide +kernel
theorem dX1_leaseOn_35 : decode cX1_leaseOn 35 = .ok (.aload 4, 2) := by decide +kernel
theorem dX1_leaseOn_37 : decode cX1_leaseOn 37 = .ok (.ifnull 23, 3) := by decide +kernel
theorem dX1_leaseOn_40 : decode cX1_leaseOn 40 = .ok (.aload 4, 2) := by decide +kernel
theorem dX1_leaseOn_42 : decode cX1_leaseOn 42 = .ok (.getfield 101, 3) := by decide +kernel
theorem dX1_leaseOn_45 : decode cX1_leaseOn 45 = .ok (.iload_n 1, 1) := by decide +kernel
theorem dX1_leaseOn_46 : decode cX1_leaseOn 46 = .ok (.if_icmp .ne 14, 3) := by decide +kernel
theorem dX1_leaseOn_49 : decode cX1_leaseOn 49 = .ok (.aload 4, 2) := by decide +kernel
theorem dX1_leaseOn_51 : decode cX1_leaseOn 51 = .ok (.iload_n 2, 1) := by decide +kernel
theorem dX1_leaseOn_52 : decode cX1_leaseOn 52 = .ok (.invokevirtual 104, 3) := by decide +kernel
theorem dX1_leaseOn_55 : decode cX1_leaseOn 55 = .ok (.ifCond .eq 5, 3) := by decide +kernel
theorem dX1_leaseOn_58 : decode cX1_leaseOn 58 = .ok (.iload_n 3, 1) := by decide +kernel
theorem dX1_leaseOn_59 : decode cX1_leaseOn 59 = .ok (.ireturn, 1) := by decide +kernel
theorem dX1_leaseOn_60 : decode cX1_leaseOn 60 = .ok (.iinc 3 1, 3) := by decide +kernel
theorem dX1_leaseOn_63 : decode cX1_leaseOn 63 = .ok (.goto (-45), 3) := by decide +kernel
theorem dX1_leaseOn_66 : decode cX1_leaseOn 66 = .ok (.iconst (-1), 1) := by decide +kernel
theorem dX1_leaseOn_67 : decode cX1_leaseOn 67 = .ok (.ireturn, 1) := by decide +kernel
set_option maxRecDepth 20000 in
theorem ggX1_rentOn_X1_find : GoodIn wsX1_rentOn wsX1_find := goodIn_ca (goodIn_r _ [5, 6, 7, 8, 9, 10, 4, 11, 53, 54, 55, 56, 57] (by decide +kernel) (by decide +kernel)) (goodIn_sub (fun _ h => List.mem_cons_of_mem _ (List.mem_append_right _ h)) (by decide +kernel))
set_option maxRecDepth 20000 in
theorem gX1_rentOn_X1_find : GoodIn wsX1_rentOn (wsV RX1 55 RX1 yX1_find wsX1_find) := goodIn_app (goodIn_of _ (by decide +kernel)) ggX1_rentOn_X1_find
set_option maxRecDepth 20000 in
theorem ggX1_rentOn_X1_checkNumber : GoodIn wsX1_rentOn wsX1_checkNumber := goodIn_ca (goodIn_r _ [11, 6, 7] (by decide +kernel) (by decide +kernel)) (goodIn_sub (fun _ h => List.mem_cons_of_mem _ (List.mem_append_right _ h)) (by decide +kernel))
set_option maxRecDepth 20000 in
theorem gX1_rentOn_X1_checkNumber : GoodIn wsX1_rentOn (va_wsS RX1 29 yX1_checkNumber wsX1_checkNumber) := goodIn_app (goodIn_of _ (by decide +kernel)) ggX1_rentOn_X1_checkNumber
set_option maxRecDepth 20000 in
theorem ggX1_rentOn_X1_rentFor : GoodIn wsX1_rentOn wsX1_rentFor := goodIn_r _ [15, 16, 17, 18, 19, 20, 21, 22, 23, 24, 25, 26, 27, 28, 29, 30, 31, 32, 33, 34, 35, 36, 37, 38, 39, 40, 41, 42, 4, 43, 44, 45, 46, 47, 48, 49, 50, 51, 52, 53, 54, 55, 56, 57, 58, 59, 60, 61, 62, 63, 64, 65, 66, 67, 68, 69] (by decide +kernel) (by decide +kernel)
set_option maxRecDepth 20000 in
theorem gX1_rentOn_X1_rentFor : GoodIn wsX1_rentOn (wsV RX1 86 RX1 yX1_rentFor wsX1_rentFor) := goodIn_app (goodIn_of _ (by decide +kernel)) ggX1_rentOn_X1_rentFor
theorem dX1_rentOn_0 : decode cX1_rentOn 0 = .ok (.aload_n 0, 1) := by decide +kernel
theorem dX1_rentOn_1 : decode cX1_rentOn 1 = .ok (.iload_n 1, 1) := by decide +kernel
theorem dX1_rentOn_2 : decode cX1_rentOn 2 = .ok (.invokevirtual 55, 3) := by decide +kernel
theorem dX1_rentOn_5 : decode cX1_rentOn 5 = .ok (.astore_n 3, 1) := by decide +kernel
theorem dX1_rentOn_6 : decode cX1_rentOn 6 = .ok (.iload_n 2, 1) := by decide +kernel
theorem dX1_rentOn_7 : decode cX1_rentOn 7 = .ok (.sipush 7200, 3) := by decide +kernel
theorem dX1_rentOn_10 : decode cX1_rentOn 10 = .ok (.invokestatic 29, 3) := by decide +kernel
theorem dX1_rentOn_13 : decode cX1_rentOn 13 = .ok (.aload_n 0, 1) := by decide +kernel
theorem dX1_rentOn_14 : decode cX1_rentOn 14 = .ok (.aload_n 3, 1) := by decide +kernel
theorem dX1_rentOn_15 : decode cX1_rentOn 15 = .ok (.iload_n 2, 1) := by decide +kernel
theorem dX1_rentOn_16 : decode cX1_rentOn 16 = .ok (.invokevirtual 86, 3) := by decide +kernel
theorem dX1_rentOn_19 : decode cX1_rentOn 19 = .ok (.ireturn, 1) := by decide +kernel
set_option maxRecDepth 20000 in
theorem ggX1_bill_X1_find : GoodIn wsX1_bill wsX1_find := goodIn_ca (goodIn_r _ [5, 6, 7, 8, 9, 10, 4, 11, 68, 69, 70, 71, 72] (by decide +kernel) (by decide +kernel)) (goodIn_sub (fun _ h => List.mem_cons_of_mem _ (List.mem_append_right _ h)) (by decide +kernel))
set_option maxRecDepth 20000 in
theorem gX1_bill_X1_find : GoodIn wsX1_bill (wsV RX1 55 RX1 yX1_find wsX1_find) := goodIn_app (goodIn_of _ (by decide +kernel)) ggX1_bill_X1_find
set_option maxRecDepth 20000 in
theorem ggX1_bill_X1_checkNumber : GoodIn wsX1_bill wsX1_checkNumber := goodIn_ca (goodIn_r _ [11, 6, 7] (by decide +kernel) (by decide +kernel)) (goodIn_sub (fun _ h => List.mem_cons_of_mem _ (List.mem_append_right _ h)) (by decide +kernel))
set_option maxRecDepth 20000 in
theorem gX1_bill_X1_checkNumber : GoodIn wsX1_bill (va_wsS RX1 29 yX1_checkNumber wsX1_checkNumber) := goodIn_app (goodIn_of _ (by decide +kernel)) ggX1_bill_X1_checkNumber
set_option maxRecDepth 20000 in
theorem ggX1_bill_X1_billFor : GoodIn wsX1_bill wsX1_billFor := goodIn_r _ [15, 16, 17, 18, 19, 20, 21, 22, 23, 24, 25, 26, 27, 28, 29, 30, 31, 32, 33, 34, 35, 36, 37, 38, 39, 40, 4, 41, 42, 43, 44, 45, 46, 47, 48, 49, 50, 51, 52, 53, 54, 55, 56, 57, 58, 59, 60, 61, 62, 63, 64, 65, 66, 67, 73, 74, 75, 76, 77, 78, 79, 80, 81, 82, 83, 84, 68, 69, 70, 71, 72] (by decide +kernel) (by decide +kernel)
set_option maxRecDepth 20000 in
theorem gX1_bill_X1_billFor : GoodIn wsX1_bill (wsV RX1 108 RX1 yX1_billFor wsX1_billFor) := goodIn_app (goodIn_of _ (by decide +kernel)) ggX1_bill_X1_billFor
theorem dX1_bill_0 : decode cX1_bill 0 = .ok (.aload_n 0, 1) := by decide +kernel
theorem dX1_bill_1 : decode cX1_bill 1 = .ok (.iload_n 1, 1) := by decide +kernel
theorem dX1_bill_2 : decode cX1_bill 2 = .ok (.invokevirtual 55, 3) := by decide +kernel
theorem dX1_bill_5 : decode cX1_bill 5 = .ok (.astore_n 3, 1) := by decide +kernel
theorem dX1_bill_6 : decode cX1_bill 6 = .ok (.iload_n 2, 1) := by decide +kernel
theorem dX1_bill_7 : decode cX1_bill 7 = .ok (.sipush 240, 3) := by decide +kernel
theorem dX1_bill_10 : decode cX1_bill 10 = .ok (.invokestatic 29, 3) := by decide +kernel
theorem dX1_bill_13 : decode cX1_bill 13 = .ok (.aload_n 0, 1) := by decide +kernel
theorem dX1_bill_14 : decode cX1_bill 14 = .ok (.aload_n 3, 1) := by decide +kernel
theorem dX1_bill_15 : decode cX1_bill 15 = .ok (.iload_n 2, 1) := by decide +kernel
theorem dX1_bill_16 : decode cX1_bill 16 = .ok (.invokevirtual 108, 3) := by decide +kernel
theorem dX1_bill_19 : decode cX1_bill 19 = .ok (.ireturn, 1) := by decide +kernel
set_option maxRecDepth 20000 in
theorem ggX1_billByDays_X1_find : GoodIn wsX1_billByDays wsX1_find := goodIn_ca (goodIn_r _ [5, 6, 7, 8, 9, 10, 4, 11, 53, 54, 55, 56, 57] (by decide +kernel) (by decide +kernel)) (goodIn_sub (fun _ h => List.mem_cons_of_mem _ (List.mem_append_right _ h)) (by decide +kernel))
set_option maxRecDepth 20000 in
theorem gX1_billByDays_X1_find : GoodIn wsX1_billByDays (wsV RX1 55 RX1 yX1_find wsX1_find) := goodIn_app (goodIn_of _ (by decide +kernel)) ggX1_billByDays_X1_find
set_option maxRecDepth 20000 in
theorem ggX1_billByDays_X1_checkNumber : GoodIn wsX1_billByDays wsX1_checkNumber := goodIn_ca (goodIn_r _ [11, 6, 7] (by decide +kernel) (by decide +kernel)) (goodIn_sub (fun _ h => List.mem_cons_of_mem _ (List.mem_append_right _ h)) (by decide +kernel))
set_option maxRecDepth 20000 in
theorem gX1_billByDays_X1_checkNumber : GoodIn wsX1_billByDays (va_wsS RX1 29 yX1_checkNumber wsX1_checkNumber) := goodIn_app (goodIn_of _ (by decide +kernel)) ggX1_billByDays_X1_checkNumber
set_option maxRecDepth 20000 in
theorem ggX1_billByDays_X1_rentFor : GoodIn wsX1_billByDays wsX1_rentFor := goodIn_r _ [15, 16, 17, 18, 19, 20, 21, 22, 23, 24, 25, 26, 27, 28, 29, 30, 31, 32, 33, 34, 35, 36, 37, 38, 39, 40, 41, 42, 4, 43, 44, 45, 46, 47, 48, 49, 50, 51, 52, 53, 54, 55, 56, 57, 58, 59, 60, 61, 62, 63, 64, 65, 66, 67, 68, 69] (by decide +kernel) (by decide +kernel)
set_option maxRecDepth 20000 in
theorem gX1_billByDays_X1_rentFor : GoodIn wsX1_billByDays (wsV RX1 86 RX1 yX1_rentFor wsX1_rentFor) := goodIn_app (goodIn_of _ (by decide +kernel)) ggX1_billByDays_X1_rentFor
theorem dX1_billByDays_0 : decode cX1_billByDays 0 = .ok (.aload_n 0, 1) := by decide +kernel
theorem dX1_billByDays_1 : decode cX1_billByDays 1 = .ok (.iload_n 1, 1) := by decide +kernel
theorem dX1_billByDays_2 : decode cX1_billByDays 2 = .ok (.invokevirtual 55, 3) := by decide +kernel
theorem dX1_billByDays_5 : decode cX1_billByDays 5 = .ok (.astore_n 3, 1) := by decide +kernel
theorem dX1_billByDays_6 : decode cX1_billByDays 6 = .ok (.iload_n 2, 1) := by decide +kernel
theorem dX1_billByDays_7 : decode cX1_billByDays 7 = .ok (.sipush 240, 3) := by decide +kernel
theorem dX1_billByDays_10 : decode cX1_billByDays 10 = .ok (.invokestatic 29, 3) := by decide +kernel
theorem dX1_billByDays_13 : decode cX1_billByDays 13 = .ok (.iload_n 2, 1) := by decide +kernel
theorem dX1_billByDays_14 : decode cX1_billByDays 14 = .ok (.bipush 30, 2) := by decide +kernel
theorem dX1_billByDays_16 : decode cX1_billByDays 16 = .ok (.imul, 1) := by decide +kernel
theorem dX1_billByDays_17 : decode cX1_billByDays 17 = .ok (.istore 4, 2) := by decide +kernel
theorem dX1_billByDays_19 : decode cX1_billByDays 19 = .ok (.iconst 0, 1) := by decide +kernel
theorem dX1_billByDays_20 : decode cX1_billByDays 20 = .ok (.istore 5, 2) := by decide +kernel
theorem dX1_billByDays_22 : decode cX1_billByDays 22 = .ok (.iload 4, 2) := by decide +kernel
theorem dX1_billByDays_24 : decode cX1_billByDays 24 = .ok (.istore 6, 2) := by decide +kernel
theorem dX1_billByDays_26 : decode cX1_billByDays 26 = .ok (.iload 6, 2) := by decide +kernel
theorem dX1_billByDays_28 : decode cX1_billByDays 28 = .ok (.iload 4, 2) := by decide +kernel
theorem dX1_billByDays_30 : decode cX1_billByDays 30 = .ok (.bipush 30, 2) := by decide +kernel
theorem dX1_billByDays_32 : decode cX1_billByDays 32 = .ok (.iadd, 1) := by decide +kernel
theorem dX1_billByDays_33 : decode cX1_billByDays 33 = .ok (.if_icmp .ge 21, 3) := by decide +kernel
theorem dX1_billByDays_36 : decode cX1_billByDays 36 = .ok (.iload 5, 2) := by decide +kernel
theorem dX1_billByDays_38 : decode cX1_billByDays 38 = .ok (.aload_n 0, 1) := by decide +kernel
theorem dX1_billByDays_39 : decode cX1_billByDays 39 = .ok (.aload_n 3, 1) := by decide +kernel
theorem dX1_billByDays_40 : decode cX1_billByDays 40 = .ok (.iload 6, 2) := by decide +kernel
theorem dX1_billByDays_42 : decode cX1_billByDays 42 = .ok (.invokevirtual 86, 3) := by decide +kernel
theorem dX1_billByDays_45 : decode cX1_billByDays 45 = .ok (.iadd, 1) := by decide +kernel
theorem dX1_billByDays_46 : decode cX1_billByDays 46 = .ok (.istore 5, 2) := by decide +kernel
theorem dX1_billByDays_48 : decode cX1_billByDays 48 = .ok (.iinc 6 1, 3) := by decide +kernel
theorem dX1_billByDays_51 : decode cX1_billByDays 51 = .ok (.goto (-25), 3) := by decide +kernel
theorem dX1_billByDays_54 : decode cX1_billByDays 54 = .ok (.iload 5, 2) := by decide +kernel
theorem dX1_billByDays_56 : decode cX1_billByDays 56 = .ok (.bipush 30, 2) := by decide +kernel
theorem dX1_billByDays_58 : decode cX1_billByDays 58 = .ok (.idiv, 1) := by decide +kernel
theorem dX1_billByDays_59 : decode cX1_billByDays 59 = .ok (.ireturn, 1) := by decide +kernel
set_option maxRecDepth 20000 in
theorem ggX1_bills_X1_find : GoodIn wsX1_bills wsX1_find := goodIn_ca (goodIn_r _ [5, 6, 7, 8, 9, 10, 4, 11, 73, 74, 75, 76, 77] (by decide +kernel) (by decide +kernel)) (goodIn_sub (fun _ h => List.mem_cons_of_mem _ (List.mem_append_left _ (List.mem_append_right _ h))) (by decide +kernel))
set_option maxRecDepth 20000 in
theorem gX1_bills_X1_find : GoodIn wsX1_bills (wsV RX1 55 RX1 yX1_find wsX1_find) := goodIn_app (goodIn_of _ (by decide +kernel)) ggX1_bills_X1_find
set_option maxRecDepth 20000 in
theorem ggX1_bills_X1_checkNumber : GoodIn wsX1_bills wsX1_checkNumber := goodIn_ca (goodIn_r _ [11, 6, 7] (by decide +kernel) (by decide +kernel)) (goodIn_sub (fun _ h => List.mem_cons_of_mem _ (List.mem_append_left _ (List.mem_append_right _ h))) (by decide +kernel))
set_option maxRecDepth 20000 in
theorem gX1_bills_X1_checkNumber : GoodIn wsX1_bills (va_wsS RX1 29 yX1_checkNumber wsX1_checkNumber) := goodIn_app (goodIn_of _ (by decide +kernel)) ggX1_bills_X1_checkNumber
set_option maxRecDepth 20000 in
theorem ggX1_bills_X1_checkRange : GoodIn wsX1_bills wsX1_checkRange := goodIn_ca (goodIn_r _ [14, 15, 16] (by decide +kernel) (by decide +kernel)) (goodIn_sub (fun _ h => List.mem_cons_of_mem _ (List.mem_append_right _ h)) (by decide +kernel))
set_option maxRecDepth 20000 in
theorem gX1_bills_X1_checkRange : GoodIn wsX1_bills (va_wsS RX1 33 yX1_checkRange wsX1_checkRange) := goodIn_app (goodIn_of _ (by decide +kernel)) ggX1_bills_X1_checkRange
set_option maxRecDepth 20000 in
theorem ggX1_bills_X1_billFor : GoodIn wsX1_bills wsX1_billFor := goodIn_r _ [20, 21, 22, 23, 24, 25, 26, 27, 28, 29, 30, 31, 32, 33, 34, 35, 36, 37, 38, 39, 40, 41, 42, 43, 44, 45, 4, 46, 47, 48, 49, 50, 51, 52, 53, 54, 55, 56, 57, 58, 59, 60, 61, 62, 63, 64, 65, 66, 67, 68, 69, 70, 71, 72, 78, 79, 80, 81, 82, 83, 84, 85, 86, 87, 88, 89, 73, 74, 75, 76, 77] (by decide +kernel) (by decide +kernel)
set_option maxRecDepth 20000 in
theorem gX1_bills_X1_billFor : GoodIn wsX1_bills (wsV RX1 108 RX1 yX1_billFor wsX1_billFor) := goodIn_app (goodIn_of _ (by decide +kernel)) ggX1_bills_X1_billFor
theorem dX1_bills_0 : decode cX1_bills 0 = .ok (.aload_n 0, 1) := by decide +kernel
theorem dX1_bills_1 : decode cX1_bills 1 = .ok (.iload_n 1, 1) := by decide +kernel
theorem dX1_bills_2 : decode cX1_bills 2 = .ok (.invokevirtual 55, 3) := by decide +kernel
theorem dX1_bills_5 : decode cX1_bills 5 = .ok (.astore 4, 2) := by decide +kernel
theorem dX1_bills_7 : decode cX1_bills 7 = .ok (.iload_n 2, 1) := by decide +kernel
theorem dX1_bills_8 : decode cX1_bills 8 = .ok (.sipush 240, 3) := by decide +kernel
theorem dX1_bills_11 : decode cX1_bills 11 = .ok (.invokestatic 29, 3) := by decide +kernel
theorem dX1_bills_14 : decode cX1_bills 14 = .ok (.iload_n 3, 1) := by decide +kernel
theorem dX1_bills_15 : decode cX1_bills 15 = .ok (.sipush 240, 3) := by decide +kernel
theorem dX1_bills_18 : decode cX1_bills 18 = .ok (.invokestatic 29, 3) := by decide +kernel
theorem dX1_bills_21 : decode cX1_bills 21 = .ok (.iload_n 3, 1) := by decide +kernel
theorem dX1_bills_22 : decode cX1_bills 22 = .ok (.iload_n 2, 1) := by decide +kernel
theorem dX1_bills_23 : decode cX1_bills 23 = .ok (.sipush 239, 3) := by decide +kernel
theorem dX1_bills_26 : decode cX1_bills 26 = .ok (.invokestatic 33, 3) := by decide +kernel
theorem dX1_bills_29 : decode cX1_bills 29 = .ok (.lconst 0, 1) := by decide +kernel
theorem dX1_bills_30 : decode cX1_bills 30 = .ok (.lstore 5, 2) := by decide +kernel
theorem dX1_bills_32 : decode cX1_bills 32 = .ok (.iload_n 2, 1) := by decide +kernel
theorem dX1_bills_33 : decode cX1_bills 33 = .ok (.istore 7, 2) := by decide +kernel
theorem dX1_bills_35 : decode cX1_bills 35 = .ok (.iload 7, 2) := by decide +kernel
theorem dX1_bills_37 : decode cX1_bills 37 = .ok (.iload_n 3, 1) := by decide +kernel
theorem dX1_bills_38 : decode cX1_bills 38 = .ok (.if_icmp .gt 23, 3) := by decide +kernel
theorem dX1_bills_41 : decode cX1_bills 41 = .ok (.lload 5, 2) := by decide +kernel
theorem dX1_bills_43 : decode cX1_bills 43 = .ok (.aload_n 0, 1) := by decide +kernel
theorem dX1_bills_44 : decode cX1_bills 44 = .ok (.aload 4, 2) := by decide +kernel
theorem dX1_bills_46 : decode cX1_bills 46 = .ok (.iload 7, 2) := by decide +kernel
theorem dX1_bills_48 : decode cX1_bills 48 = .ok (.invokevirtual 108, 3) := by decide +kernel
theorem dX1_bills_51 : decode cX1_bills 51 = .ok (.i2l, 1) := by decide +kernel
theorem dX1_bills_52 : decode cX1_bills 52 = .ok (.ladd, 1) := by decide +kernel
theorem dX1_bills_53 : decode cX1_bills 53 = .ok (.lstore 5, 2) := by decide +kernel
theorem dX1_bills_55 : decode cX1_bills 55 = .ok (.iinc 7 1, 3) := by decide +kernel
theorem dX1_bills_58 : decode cX1_bills 58 = .ok (.goto (-23), 3) := by decide +kernel
theorem dX1_bills_61 : decode cX1_bills 61 = .ok (.lload 5, 2) := by decide +kernel
theorem dX1_bills_63 : decode cX1_bills 63 = .ok (.lreturn, 1) := by decide +kernel
set_option maxRecDepth 20000 in
theorem ggX1_nextChange_X1_find : GoodIn wsX1_nextChange wsX1_find := goodIn_ca (goodIn_r _ [5, 6, 7, 8, 9, 10, 4, 11, 61, 62, 63, 64, 65] (by decide +kernel) (by decide +kernel)) (goodIn_sub (fun _ h => List.mem_cons_of_mem _ (List.mem_append_right _ h)) (by decide +kernel))
set_option maxRecDepth 20000 in
theorem gX1_nextChange_X1_find : GoodIn wsX1_nextChange (wsV RX1 55 RX1 yX1_find wsX1_find) := goodIn_app (goodIn_of _ (by decide +kernel)) ggX1_nextChange_X1_find
set_option maxRecDepth 20000 in
theorem ggX1_nextChange_X1_checkNumber : GoodIn wsX1_nextChange wsX1_checkNumber := goodIn_ca (goodIn_r _ [11, 6, 7] (by decide +kernel) (by decide +kernel)) (goodIn_sub (fun _ h => List.mem_cons_of_mem _ (List.mem_append_right _ h)) (by decide +kernel))
set_option maxRecDepth 20000 in
theorem gX1_nextChange_X1_checkNumber : GoodIn wsX1_nextChange (va_wsS RX1 29 yX1_checkNumber wsX1_checkNumber) := goodIn_app (goodIn_of _ (by decide +kernel)) ggX1_nextChange_X1_checkNumber
set_option maxRecDepth 20000 in
theorem ggX1_nextChange_X0_nextTurn : GoodIn wsX1_nextChange wsX0_nextTurn := goodIn_r _ [16, 17, 18, 19, 20, 21, 22, 23, 24, 15, 25, 26, 27, 28, 29, 66, 67, 68, 69, 70, 71, 72, 73, 74, 75, 76, 77] (by decide +kernel) (by decide +kernel)
set_option maxRecDepth 20000 in
theorem gX1_nextChange_X0_nextTurn : GoodIn wsX1_nextChange (wsV RX1 111 RX0 yX0_nextTurn wsX0_nextTurn) := goodIn_app (goodIn_of _ (by decide +kernel)) ggX1_nextChange_X0_nextTurn
set_option maxRecDepth 20000 in
theorem ggX1_nextChange_X1_rentFor : GoodIn wsX1_nextChange wsX1_rentFor := goodIn_r _ [33, 34, 35, 36, 37, 38, 39, 40, 41, 15, 42, 17, 19, 43, 44, 45, 46, 18, 47, 48, 49, 50, 51, 20, 21, 52, 53, 54, 4, 55, 56, 57, 58, 59, 60, 27, 28, 29, 22, 61, 62, 63, 64, 65, 66, 67, 68, 69, 70, 71, 72, 73, 74, 75, 76, 77] (by decide +kernel) (by decide +kernel)
set_option maxRecDepth 20000 in
theorem gX1_nextChange_X1_rentFor : GoodIn wsX1_nextChange (wsV RX1 86 RX1 yX1_rentFor wsX1_rentFor) := goodIn_app (goodIn_of _ (by decide +kernel)) ggX1_nextChange_X1_rentFor
theorem dX1_nextChange_0 : decode cX1_nextChange 0 = .ok (.aload_n 0, 1) := by decide +kernel
theorem dX1_nextChange_1 : decode cX1_nextChange 1 = .ok (.iload_n 1, 1) := by decide +kernel
theorem dX1_nextChange_2 : decode cX1_nextChange 2 = .ok (.invokevirtual 55, 3) := by decide +kernel
theorem dX1_nextChange_5 : decode cX1_nextChange 5 = .ok (.astore_n 3, 1) := by decide +kernel
theorem dX1_nextChange_6 : decode cX1_nextChange 6 = .ok (.iload_n 2, 1) := by decide +kernel
theorem dX1_nextChange_7 : decode cX1_nextChange 7 = .ok (.sipush 7200, 3) := by decide +kernel
theorem dX1_nextChange_10 : decode cX1_nextChange 10 = .ok (.invokestatic 29, 3) := by decide +kernel
theorem dX1_nextChange_13 : decode cX1_nextChange 13 = .ok (.aload_n 3, 1) := by decide +kernel
theorem dX1_nextChange_14 : decode cX1_nextChange 14 = .ok (.iload_n 2, 1) := by decide +kernel
theorem dX1_nextChange_15 : decode cX1_nextChange 15 = .ok (.invokevirtual 111, 3) := by decide +kernel
theorem dX1_nextChange_18 : decode cX1_nextChange 18 = .ok (.istore 4, 2) := by decide +kernel
theorem dX1_nextChange_20 : decode cX1_nextChange 20 = .ok (.iconst 0, 1) := by decide +kernel
theorem dX1_nextChange_21 : decode cX1_nextChange 21 = .ok (.istore 5, 2) := by decide +kernel
theorem dX1_nextChange_23 : decode cX1_nextChange 23 = .ok (.iload 5, 2) := by decide +kernel
theorem dX1_nextChange_25 : decode cX1_nextChange 25 = .ok (.sipush 7200, 3) := by decide +kernel
theorem dX1_nextChange_28 : decode cX1_nextChange 28 = .ok (.if_icmp .ge 47, 3) := by decide +kernel
theorem dX1_nextChange_31 : decode cX1_nextChange 31 = .ok (.iload 4, 2) := by decide +kernel
theorem dX1_nextChange_33 : decode cX1_nextChange 33 = .ok (.sipush 7200, 3) := by decide +kernel
theorem dX1_nextChange_36 : decode cX1_nextChange 36 = .ok (.if_icmp .ge 39, 3) := by decide +kernel
theorem dX1_nextChange_39 : decode cX1_nextChange 39 = .ok (.aload_n 0, 1) := by decide +kernel
theorem dX1_nextChange_40 : decode cX1_nextChange 40 = .ok (.aload_n 3, 1) := by decide +kernel
theorem dX1_nextChange_41 : decode cX1_nextChange 41 = .ok (.iload 4, 2) := by decide +kernel
theorem dX1_nextChange_43 : decode cX1_nextChange 43 = .ok (.invokevirtual 86, 3) := by decide +kernel
theorem dX1_nextChange_46 : decode cX1_nextChange 46 = .ok (.aload_n 0, 1) := by decide +kernel
theorem dX1_nextChange_47 : decode cX1_nextChange 47 = .ok (.aload_n 3, 1) := by decide +kernel
theorem dX1_nextChange_48 : decode cX1_nextChange 48 = .ok (.iload 4, 2) := by decide +kernel
theorem dX1_nextChange_50 : decode cX1_nextChange 50 = .ok (.iconst 1, 1) := by decide +kernel
theorem dX1_nextChange_51 : decode cX1_nextChange 51 = .ok (.isub, 1) := by decide +kernel
theorem dX1_nextChange_52 : decode cX1_nextChange 52 = .ok (.invokevirtual 86, 3) := by decide +kernel
theorem dX1_nextChange_55 : decode cX1_nextChange 55 = .ok (.if_icmp .eq 6, 3) := by decide +kernel
theorem dX1_nextChange_58 : decode cX1_nextChange 58 = .ok (.iload 4, 2) := by decide +kernel
theorem dX1_nextChange_60 : decode cX1_nextChange 60 = .ok (.ireturn, 1) := by decide +kernel
theorem dX1_nextChange_61 : decode cX1_nextChange 61 = .ok (.aload_n 3, 1) := by decide +kernel
theorem dX1_nextChange_62 : decode cX1_nextChange 62 = .ok (.iload 4, 2) := by decide +kernel
theorem dX1_nextChange_64 : decode cX1_nextChange 64 = .ok (.invokevirtual 111, 3) := by decide +kernel
theorem dX1_nextChange_67 : decode cX1_nextChange 67 = .ok (.istore 4, 2) := by decide +kernel
theorem dX1_nextChange_69 : decode cX1_nextChange 69 = .ok (.iinc 5 1, 3) := by decide +kernel
theorem dX1_nextChange_72 : decode cX1_nextChange 72 = .ok (.goto (-49), 3) := by decide +kernel
theorem dX1_nextChange_75 : decode cX1_nextChange 75 = .ok (.iconst (-1), 1) := by decide +kernel
theorem dX1_nextChange_76 : decode cX1_nextChange 76 = .ok (.ireturn, 1) := by decide +kernel
set_option maxRecDepth 20000 in
theorem ggX1_voids_X1_checkNumber : GoodIn wsX1_voids wsX1_checkNumber := goodIn_ca (goodIn_r _ [5, 6, 7] (by decide +kernel) (by decide +kernel)) (goodIn_sub (fun _ h => List.mem_cons_of_mem _ (List.mem_append_right _ h)) (by decide +kernel))
set_option maxRecDepth 20000 in
theorem gX1_voids_X1_checkNumber : GoodIn wsX1_voids (va_wsS RX1 29 yX1_checkNumber wsX1_checkNumber) := goodIn_app (goodIn_of _ (by decide +kernel)) ggX1_voids_X1_checkNumber
set_option maxRecDepth 20000 in
theorem ggX1_voids_X1_daysLet : GoodIn wsX1_voids wsX1_daysLet := goodIn_r _ [11, 12, 13, 14, 15, 16, 17, 18, 19, 20, 21, 22, 23, 24, 25, 26, 27, 28, 29, 30, 31, 32, 33, 34, 35, 36, 37, 38, 39, 40, 41, 42, 43] (by decide +kernel) (by decide +kernel)
set_option maxRecDepth 20000 in
theorem gX1_voids_X1_daysLet : GoodIn wsX1_voids (wsV RX1 46 RX1 yX1_daysLet wsX1_daysLet) := goodIn_app (goodIn_of _ (by decide +kernel)) ggX1_voids_X1_daysLet
theorem dX1_voids_0 : decode cX1_voids 0 = .ok (.iload_n 1, 1) := by decide +kernel
theorem dX1_voids_1 : decode cX1_voids 1 = .ok (.aload_n 0, 1) := by decide +kernel
theorem dX1_voids_2 : decode cX1_voids 2 = .ok (.getfield 9, 3) := by decide +kernel
theorem dX1_voids_5 : decode cX1_voids 5 = .ok (.arraylength, 1) := by decide +kernel
theorem dX1_voids_6 : decode cX1_voids 6 = .ok (.invokestatic 29, 3) := by decide +kernel
theorem dX1_voids_9 : decode cX1_voids 9 = .ok (.iload_n 2, 1) := by decide +kernel
theorem dX1_voids_10 : decode cX1_voids 10 = .ok (.bipush 20, 2) := by decide +kernel
theorem dX1_voids_12 : decode cX1_voids 12 = .ok (.invokestatic 29, 3) := by decide +kernel
theorem dX1_voids_15 : decode cX1_voids 15 = .ok (.iload_n 2, 1) := by decide +kernel
theorem dX1_voids_16 : decode cX1_voids 16 = .ok (.sipush 360, 3) := by decide +kernel
theorem dX1_voids_19 : decode cX1_voids 19 = .ok (.imul, 1) := by decide +kernel
theorem dX1_voids_20 : decode cX1_voids 20 = .ok (.istore_n 3, 1) := by decide +kernel
theorem dX1_voids_21 : decode cX1_voids 21 = .ok (.sipush 360, 3) := by decide +kernel
theorem dX1_voids_24 : decode cX1_voids 24 = .ok (.aload_n 0, 1) := by decide +kernel
theorem dX1_voids_25 : decode cX1_voids 25 = .ok (.iload_n 1, 1) := by decide +kernel
theorem dX1_voids_26 : decode cX1_voids 26 = .ok (.iload_n 3, 1) := by decide +kernel
theorem dX1_voids_27 : decode cX1_voids 27 = .ok (.iload_n 3, 1) := by decide +kernel
theorem dX1_voids_28 : decode cX1_voids 28 = .ok (.sipush 360, 3) := by decide +kernel
theorem dX1_voids_31 : decode cX1_voids 31 = .ok (.iadd, 1) := by decide +kernel
theorem dX1_voids_32 : decode cX1_voids 32 = .ok (.invokevirtual 46, 3) := by decide +kernel
theorem dX1_voids_35 : decode cX1_voids 35 = .ok (.isub, 1) := by decide +kernel
theorem dX1_voids_36 : decode cX1_voids 36 = .ok (.ireturn, 1) := by decide +kernel
set_option maxRecDepth 20000 in
theorem ggX1_part_X1_find : GoodIn wsX1_part wsX1_find := goodIn_ca (goodIn_r _ [6, 7, 8, 9, 10, 11, 5, 12, 45, 46, 47, 48, 49] (by decide +kernel) (by decide +kernel)) (goodIn_sub (fun _ h => List.mem_cons_of_mem _ (List.mem_append_right _ h)) (by decide +kernel))
set_option maxRecDepth 20000 in
theorem gX1_part_X1_find : GoodIn wsX1_part (wsV RX1 55 RX1 yX1_find wsX1_find) := goodIn_app (goodIn_of _ (by decide +kernel)) ggX1_part_X1_find
set_option maxRecDepth 20000 in
theorem ggX1_part_X1_checkNumber : GoodIn wsX1_part wsX1_checkNumber := goodIn_ca (goodIn_r _ [12, 7, 8] (by decide +kernel) (by decide +kernel)) (goodIn_sub (fun _ h => List.mem_cons_of_mem _ (List.mem_append_right _ h)) (by decide +kernel))
set_option maxRecDepth 20000 in
theorem gX1_part_X1_checkNumber : GoodIn wsX1_part (va_wsS RX1 29 yX1_checkNumber wsX1_checkNumber) := goodIn_app (goodIn_of _ (by decide +kernel)) ggX1_part_X1_checkNumber
set_option maxRecDepth 20000 in
theorem ggX1_part_X1_partOf : GoodIn wsX1_part wsX1_partOf := goodIn_r _ [16, 17, 18, 19, 20, 21, 22, 23, 24, 25, 5, 26, 27, 28, 29, 30, 31, 32, 33, 34, 35, 36, 37, 38, 39, 40, 41, 42, 43, 44, 45, 46, 47, 48, 49, 50, 51, 52, 53, 54, 55, 56, 57, 58, 59, 60, 61] (by decide +kernel) (by decide +kernel)
set_option maxRecDepth 20000 in
theorem gX1_part_X1_partOf : GoodIn wsX1_part (wsV RX1 115 RX1 yX1_partOf wsX1_partOf) := goodIn_app (goodIn_of _ (by decide +kernel)) ggX1_part_X1_partOf
theorem dX1_part_0 : decode cX1_part 0 = .ok (.aload_n 0, 1) := by decide +kernel
theorem dX1_part_1 : decode cX1_part 1 = .ok (.iload_n 1, 1) := by decide +kernel
theorem dX1_part_2 : decode cX1_part 2 = .ok (.invokevirtual 55, 3) := by decide +kernel
theorem dX1_part_5 : decode cX1_part 5 = .ok (.astore_n 3, 1) := by decide +kernel
theorem dX1_part_6 : decode cX1_part 6 = .ok (.iload_n 2, 1) := by decide +kernel
theorem dX1_part_7 : decode cX1_part 7 = .ok (.aload_n 0, 1) := by decide +kernel
theorem dX1_part_8 : decode cX1_part 8 = .ok (.getfield 16, 3) := by decide +kernel
theorem dX1_part_11 : decode cX1_part 11 = .ok (.arraylength, 1) := by decide +kernel
theorem dX1_part_12 : decode cX1_part 12 = .ok (.invokestatic 29, 3) := by decide +kernel
theorem dX1_part_15 : decode cX1_part 15 = .ok (.aload_n 0, 1) := by decide +kernel
theorem dX1_part_16 : decode cX1_part 16 = .ok (.aload_n 3, 1) := by decide +kernel
theorem dX1_part_17 : decode cX1_part 17 = .ok (.iload_n 2, 1) := by decide +kernel
theorem dX1_part_18 : decode cX1_part 18 = .ok (.aload_n 0, 1) := by decide +kernel
theorem dX1_part_19 : decode cX1_part 19 = .ok (.getfield 16, 3) := by decide +kernel
theorem dX1_part_22 : decode cX1_part 22 = .ok (.iload_n 2, 1) := by decide +kernel
theorem dX1_part_23 : decode cX1_part 23 = .ok (.iaload, 1) := by decide +kernel
theorem dX1_part_24 : decode cX1_part 24 = .ok (.invokevirtual 115, 3) := by decide +kernel
theorem dX1_part_27 : decode cX1_part 27 = .ok (.ireturn, 1) := by decide +kernel
set_option maxRecDepth 20000 in
theorem ggX1_owners_X1_checkNumber : GoodIn wsX1_owners wsX1_checkNumber := goodIn_ca (goodIn_r _ [6, 7, 8] (by decide +kernel) (by decide +kernel)) (goodIn_sub (fun _ h => List.mem_cons_of_mem _ (List.mem_append_right _ h)) (by decide +kernel))
set_option maxRecDepth 20000 in
theorem gX1_owners_X1_checkNumber : GoodIn wsX1_owners (va_wsS RX1 29 yX1_checkNumber wsX1_checkNumber) := goodIn_app (goodIn_of _ (by decide +kernel)) ggX1_owners_X1_checkNumber
set_option maxRecDepth 20000 in
theorem ggX1_owners_X1_partOf : GoodIn wsX1_owners wsX1_partOf := goodIn_r _ [12, 13, 14, 15, 16, 17, 18, 19, 20, 21, 5, 22, 23, 24, 25, 26, 27, 28, 29, 30, 31, 32, 33, 34, 35, 36, 37, 38, 39, 40, 41, 42, 43, 44, 45, 46, 47, 48, 49, 50, 51, 52, 53, 54, 55, 56, 57] (by decide +kernel) (by decide +kernel)
set_option maxRecDepth 20000 in
theorem gX1_owners_X1_partOf : GoodIn wsX1_owners (wsV RX1 115 RX1 yX1_partOf wsX1_partOf) := goodIn_app (goodIn_of _ (by decide +kernel)) ggX1_owners_X1_partOf
theorem dX1_owners_0 : decode cX1_owners 0 = .ok (.iload_n 1, 1) := by decide +kernel
theorem dX1_owners_1 : decode cX1_owners 1 = .ok (.aload_n 0, 1) := by decide +kernel
theorem dX1_owners_2 : decode cX1_owners 2 = .ok (.getfield 16, 3) := by decide +kernel
theorem dX1_owners_5 : decode cX1_owners 5 = .ok (.arraylength, 1) := by decide +kernel
theorem dX1_owners_6 : decode cX1_owners 6 = .ok (.invokestatic 29, 3) := by decide +kernel
theorem dX1_owners_9 : decode cX1_owners 9 = .ok (.aload_n 0, 1) := by decide +kernel
theorem dX1_owners_10 : decode cX1_owners 10 = .ok (.getfield 16, 3) := by decide +kernel
theorem dX1_owners_13 : decode cX1_owners 13 = .ok (.iload_n 1, 1) := by decide +kernel
theorem dX1_owners_14 : decode cX1_owners 14 = .ok (.iaload, 1) := by decide +kernel
theorem dX1_owners_15 : decode cX1_owners 15 = .ok (.istore_n 2, 1) := by decide +kernel
theorem dX1_owners_16 : decode cX1_owners 16 = .ok (.aload_n 0, 1) := by decide +kernel
theorem dX1_owners_17 : decode cX1_owners 17 = .ok (.getfield 21, 3) := by decide +kernel
theorem dX1_owners_20 : decode cX1_owners 20 = .ok (.astore_n 3, 1) := by decide +kernel
theorem dX1_owners_21 : decode cX1_owners 21 = .ok (.aload_n 3, 1) := by decide +kernel
theorem dX1_owners_22 : decode cX1_owners 22 = .ok (.arraylength, 1) := by decide +kernel
theorem dX1_owners_23 : decode cX1_owners 23 = .ok (.istore 4, 2) := by decide +kernel
theorem dX1_owners_25 : decode cX1_owners 25 = .ok (.iconst 0, 1) := by decide +kernel
theorem dX1_owners_26 : decode cX1_owners 26 = .ok (.istore 5, 2) := by decide +kernel
theorem dX1_owners_28 : decode cX1_owners 28 = .ok (.iload 5, 2) := by decide +kernel
theorem dX1_owners_30 : decode cX1_owners 30 = .ok (.iload 4, 2) := by decide +kernel
theorem dX1_owners_32 : decode cX1_owners 32 = .ok (.if_icmp .ge 36, 3) := by decide +kernel
theorem dX1_owners_35 : decode cX1_owners 35 = .ok (.aload_n 3, 1) := by decide +kernel
theorem dX1_owners_36 : decode cX1_owners 36 = .ok (.iload 5, 2) := by decide +kernel
theorem dX1_owners_38 : decode cX1_owners 38 = .ok (.aaload, 1) := by decide +kernel
theorem dX1_owners_39 : decode cX1_owners 39 = .ok (.astore 6, 2) := by decide +kernel
theorem dX1_owners_41 : decode cX1_owners 41 = .ok (.aload 6, 2) := by decide +kernel
theorem dX1_owners_43 : decode cX1_owners 43 = .ok (.ifnull 19, 3) := by decide +kernel
theorem dX1_owners_46 : decode cX1_owners 46 = .ok (.iload_n 2, 1) := by decide +kernel
theorem dX1_owners_47 : decode cX1_owners 47 = .ok (.aload_n 0, 1) := by decide +kernel
theorem dX1_owners_48 : decode cX1_owners 48 = .ok (.aload 6, 2) := by decide +kernel
theorem dX1_owners_50 : decode cX1_owners 50 = .ok (.iload_n 1, 1) := by decide +kernel
theorem dX1_owners_51 : decode cX1_owners 51 = .ok (.aload_n 0, 1) := by decide +kernel
theorem dX1_owners_52 : decode cX1_owners 52 = .ok (.getfield 16, 3) := by decide +kernel
theorem dX1_owners_55 : decode cX1_owners 55 = .ok (.iload_n 1, 1) := by decide +kernel
theorem dX1_owners_56 : decode cX1_owners 56 = .ok (.iaload, 1) := by decide +kernel
theorem dX1_owners_57 : decode cX1_owners 57 = .ok (.invokevirtual 115, 3) := by decide +kernel
theorem dX1_owners_60 : decode cX1_owners 60 = .ok (.isub, 1) := by decide +kernel
theorem dX1_owners_61 : decode cX1_owners 61 = .ok (.istore_n 2, 1) := by decide +kernel
theorem dX1_owners_62 : decode cX1_owners 62 = .ok (.iinc 5 1, 3) := by decide +kernel
theorem dX1_owners_65 : decode cX1_owners 65 = .ok (.goto (-37), 3) := by decide +kernel
theorem dX1_owners_68 : decode cX1_owners 68 = .ok (.iload_n 2, 1) := by decide +kernel
theorem dX1_owners_69 : decode cX1_owners 69 = .ok (.ireturn, 1) := by decide +kernel
set_option maxRecDepth 20000 in
theorem ggX1_balance_X1_find : GoodIn wsX1_balance wsX1_find := goodIn_ca (goodIn_r _ [6, 7, 8, 9, 10, 11, 5, 12, 45, 46, 47, 48, 49] (by decide +kernel) (by decide +kernel)) (goodIn_sub (fun _ h => List.mem_cons_of_mem _ (List.mem_append_right _ h)) (by decide +kernel))
set_option maxRecDepth 20000 in
theorem gX1_balance_X1_find : GoodIn wsX1_balance (wsV RX1 55 RX1 yX1_find wsX1_find) := goodIn_app (goodIn_of _ (by decide +kernel)) ggX1_balance_X1_find
set_option maxRecDepth 20000 in
theorem ggX1_balance_X1_checkNumber : GoodIn wsX1_balance wsX1_checkNumber := goodIn_ca (goodIn_r _ [12, 7, 8] (by decide +kernel) (by decide +kernel)) (goodIn_sub (fun _ h => List.mem_cons_of_mem _ (List.mem_append_right _ h)) (by decide +kernel))
set_option maxRecDepth 20000 in
theorem gX1_balance_X1_checkNumber : GoodIn wsX1_balance (va_wsS RX1 29 yX1_checkNumber wsX1_checkNumber) := goodIn_app (goodIn_of _ (by decide +kernel)) ggX1_balance_X1_checkNumber
set_option maxRecDepth 20000 in
theorem ggX1_balance_X0_daysIn : GoodIn wsX1_balance wsX0_daysIn := goodIn_r _ [17, 18, 19, 20, 16, 21, 22, 23, 24, 25, 26, 27, 28, 29, 30, 50, 51, 52, 53, 54, 55, 56, 57, 58, 59, 60, 61] (by decide +kernel) (by decide +kernel)
set_option maxRecDepth 20000 in
theorem gX1_balance_X0_daysIn : GoodIn wsX1_balance (wsV RX1 119 RX0 yX0_daysIn wsX0_daysIn) := goodIn_app (goodIn_of _ (by decide +kernel)) ggX1_balance_X0_daysIn
set_option maxRecDepth 20000 in
theorem ggX1_balance_X1_partOf : GoodIn wsX1_balance wsX1_partOf := goodIn_r _ [34, 35, 36, 37, 24, 25, 26, 38, 39, 40, 5, 41, 13, 14, 15, 16, 17, 18, 19, 20, 21, 22, 23, 27, 28, 29, 30, 42, 43, 44, 45, 46, 47, 48, 49, 50, 51, 52, 53, 54, 55, 56, 57, 58, 59, 60, 61] (by decide +kernel) (by decide +kernel)
set_option maxRecDepth 20000 in
theorem gX1_balance_X1_partOf : GoodIn wsX1_balance (wsV RX1 115 RX1 yX1_partOf wsX1_partOf) := goodIn_app (goodIn_of _ (by decide +kernel)) ggX1_balance_X1_partOf
theorem dX1_balance_0 : decode cX1_balance 0 = .ok (.aload_n 0, 1) := by decide +kernel
theorem dX1_balance_1 : decode cX1_balance 1 = .ok (.iload_n 1, 1) := by decide +kernel
theorem dX1_balance_2 : decode cX1_balance 2 = .ok (.invokevirtual 55, 3) := by decide +kernel
theorem dX1_balance_5 : decode cX1_balance 5 = .ok (.astore_n 3, 1) := by decide +kernel
theorem dX1_balance_6 : decode cX1_balance 6 = .ok (.iload_n 2, 1) := by decide +kernel
theorem dX1_balance_7 : decode cX1_balance 7 = .ok (.aload_n 0, 1) := by decide +kernel
theorem dX1_balance_8 : decode cX1_balance 8 = .ok (.getfield 16, 3) := by decide +kernel
theorem dX1_balance_11 : decode cX1_balance 11 = .ok (.arraylength, 1) := by decide +kernel
theorem dX1_balance_12 : decode cX1_balance 12 = .ok (.invokestatic 29, 3) := by decide +kernel
theorem dX1_balance_15 : decode cX1_balance 15 = .ok (.aload_n 3, 1) := by decide +kernel
theorem dX1_balance_16 : decode cX1_balance 16 = .ok (.getfield 83, 3) := by decide +kernel
theorem dX1_balance_19 : decode cX1_balance 19 = .ok (.aload_n 3, 1) := by decide +kernel
theorem dX1_balance_20 : decode cX1_balance 20 = .ok (.iload_n 2, 1) := by decide +kernel
theorem dX1_balance_21 : decode cX1_balance 21 = .ok (.invokevirtual 119, 3) := by decide +kernel
theorem dX1_balance_24 : decode cX1_balance 24 = .ok (.imul, 1) := by decide +kernel
theorem dX1_balance_25 : decode cX1_balance 25 = .ok (.bipush 30, 2) := by decide +kernel
theorem dX1_balance_27 : decode cX1_balance 27 = .ok (.idiv, 1) := by decide +kernel
theorem dX1_balance_28 : decode cX1_balance 28 = .ok (.istore 4, 2) := by decide +kernel
theorem dX1_balance_30 : decode cX1_balance 30 = .ok (.aload_n 0, 1) := by decide +kernel
theorem dX1_balance_31 : decode cX1_balance 31 = .ok (.aload_n 3, 1) := by decide +kernel
theorem dX1_balance_32 : decode cX1_balance 32 = .ok (.iload_n 2, 1) := by decide +kernel
theorem dX1_balance_33 : decode cX1_balance 33 = .ok (.aload_n 0, 1) := by decide +kernel
theorem dX1_balance_34 : decode cX1_balance 34 = .ok (.getfield 16, 3) := by decide +kernel
theorem dX1_balance_37 : decode cX1_balance 37 = .ok (.iload_n 2, 1) := by decide +kernel
theorem dX1_balance_38 : decode cX1_balance 38 = .ok (.iaload, 1) := by decide +kernel
theorem dX1_balance_39 : decode cX1_balance 39 = .ok (.invokevirtual 115, 3) := by decide +kernel
theorem dX1_balance_42 : decode cX1_balance 42 = .ok (.iload 4, 2) := by decide +kernel
theorem dX1_balance_44 : decode cX1_balance 44 = .ok (.isub, 1) := by decide +kernel
theorem dX1_balance_45 : decode cX1_balance 45 = .ok (.ireturn, 1) := by decide +kernel
set_option maxRecDepth 20000 in
theorem ggX1_share_X1_checkNumber : GoodIn wsX1_share wsX1_checkNumber := goodIn_ca (goodIn_r _ [5, 6, 7] (by decide +kernel) (by decide +kernel)) (goodIn_sub (fun _ h => List.mem_cons_of_mem _ (List.mem_append_right _ h)) (by decide +kernel))
set_option maxRecDepth 20000 in
theorem gX1_share_X1_checkNumber : GoodIn wsX1_share (va_wsS RX1 29 yX1_checkNumber wsX1_checkNumber) := goodIn_app (goodIn_of _ (by decide +kernel)) ggX1_share_X1_checkNumber
set_option maxRecDepth 20000 in
theorem ggX1_share_X1_allAreas : GoodIn wsX1_share wsX1_allAreas := goodIn_r _ [11, 1, 12, 13, 14, 15, 16] (by decide +kernel) (by decide +kernel)
set_option maxRecDepth 20000 in
theorem gX1_share_X1_allAreas : GoodIn wsX1_share (wsV RX1 122 RX1 yX1_allAreas wsX1_allAreas) := goodIn_app (goodIn_of _ (by decide +kernel)) ggX1_share_X1_allAreas
theorem dX1_share_0 : decode cX1_share 0 = .ok (.iload_n 1, 1) := by decide +kernel
theorem dX1_share_1 : decode cX1_share 1 = .ok (.aload_n 0, 1) := by decide +kernel
theorem dX1_share_2 : decode cX1_share 2 = .ok (.getfield 9, 3) := by decide +kernel
theorem dX1_share_5 : decode cX1_share 5 = .ok (.arraylength, 1) := by decide +kernel
theorem dX1_share_6 : decode cX1_share 6 = .ok (.invokestatic 29, 3) := by decide +kernel
theorem dX1_share_9 : decode cX1_share 9 = .ok (.aload_n 0, 1) := by decide +kernel
theorem dX1_share_10 : decode cX1_share 10 = .ok (.invokevirtual 122, 3) := by decide +kernel
theorem dX1_share_13 : decode cX1_share 13 = .ok (.istore_n 2, 1) := by decide +kernel
theorem dX1_share_14 : decode cX1_share 14 = .ok (.iload_n 2, 1) := by decide +kernel
theorem dX1_share_15 : decode cX1_share 15 = .ok (.ifCond .le 16, 3) := by decide +kernel
theorem dX1_share_18 : decode cX1_share 18 = .ok (.aload_n 0, 1) := by decide +kernel
theorem dX1_share_19 : decode cX1_share 19 = .ok (.getfield 9, 3) := by decide +kernel
theorem dX1_share_22 : decode cX1_share 22 = .ok (.iload_n 1, 1) := by decide +kernel
theorem dX1_share_23 : decode cX1_share 23 = .ok (.iaload, 1) := by decide +kernel
theorem dX1_share_24 : decode cX1_share 24 = .ok (.i2d, 1) := by decide +kernel
theorem dX1_share_25 : decode cX1_share 25 = .ok (.iload_n 2, 1) := by decide +kernel
theorem dX1_share_26 : decode cX1_share 26 = .ok (.i2d, 1) := by decide +kernel
theorem dX1_share_27 : decode cX1_share 27 = .ok (.ddiv, 1) := by decide +kernel
theorem dX1_share_28 : decode cX1_share 28 = .ok (.goto 4, 3) := by decide +kernel
theorem dX1_share_31 : decode cX1_share 31 = .ok (.dconst 0, 1) := by decide +kernel
theorem dX1_share_32 : decode cX1_share 32 = .ok (.dreturn, 1) := by decide +kernel
theorem dX1_checkNumber_0 : decode cX1_checkNumber 0 = .ok (.iload_n 0, 1) := by decide +kernel
theorem dX1_checkNumber_1 : decode cX1_checkNumber 1 = .ok (.ifCond .lt 8, 3) := by decide +kernel
theorem dX1_checkNumber_4 : decode cX1_checkNumber 4 = .ok (.iload_n 0, 1) := by decide +kernel
theorem dX1_checkNumber_5 : decode cX1_checkNumber 5 = .ok (.iload_n 1, 1) := by decide +kernel
theorem dX1_checkNumber_6 : decode cX1_checkNumber 6 = .ok (.if_icmp .lt 13, 3) := by decide +kernel
theorem dX1_checkNumber_9 : decode cX1_checkNumber 9 = .ok (.new 126, 3) := by decide +kernel
theorem dX1_checkNumber_12 : decode cX1_checkNumber 12 = .ok (.dup, 1) := by decide +kernel
theorem dX1_checkNumber_13 : decode cX1_checkNumber 13 = .ok (.ldc 128, 2) := by decide +kernel
theorem dX1_checkNumber_15 : decode cX1_checkNumber 15 = .ok (.invokespecial 130, 3) := by decide +kernel
theorem dX1_checkNumber_18 : decode cX1_checkNumber 18 = .ok (.athrow, 1) := by decide +kernel
theorem dX1_checkNumber_19 : decode cX1_checkNumber 19 = .ok (.return_, 1) := by decide +kernel
theorem dX1_checkRange_0 : decode cX1_checkRange 0 = .ok (.iload_n 0, 1) := by decide +kernel
theorem dX1_checkRange_1 : decode cX1_checkRange 1 = .ok (.iload_n 1, 1) := by decide +kernel
theorem dX1_checkRange_2 : decode cX1_checkRange 2 = .ok (.if_icmp .lt 8, 3) := by decide +kernel
theorem dX1_checkRange_5 : decode cX1_checkRange 5 = .ok (.iload_n 0, 1) := by decide +kernel
theorem dX1_checkRange_6 : decode cX1_checkRange 6 = .ok (.iload_n 2, 1) := by decide +kernel
theorem dX1_checkRange_7 : decode cX1_checkRange 7 = .ok (.if_icmp .le 13, 3) := by decide +kernel
theorem dX1_checkRange_10 : decode cX1_checkRange 10 = .ok (.new 131, 3) := by decide +kernel
theorem dX1_checkRange_13 : decode cX1_checkRange 13 = .ok (.dup, 1) := by decide +kernel
theorem dX1_checkRange_14 : decode cX1_checkRange 14 = .ok (.ldc 133, 2) := by decide +kernel
theorem dX1_checkRange_16 : decode cX1_checkRange 16 = .ok (.invokespecial 135, 3) := by decide +kernel
theorem dX1_checkRange_19 : decode cX1_checkRange 19 = .ok (.athrow, 1) := by decide +kernel
theorem dX1_checkRange_20 : decode cX1_checkRange 20 = .ok (.return_, 1) := by decide +kernel
set_option maxRecDepth 20000 in
theorem ggX1_find_X1_checkNumber : GoodIn wsX1_find wsX1_checkNumber := goodIn_ca (goodIn_r _ [7, 1, 2] (by decide +kernel) (by decide +kernel)) (goodIn_sub (fun _ h => List.mem_cons_of_mem _ (List.mem_append_right _ h)) (by decide +kernel))
set_option maxRecDepth 20000 in
theorem gX1_find_X1_checkNumber : GoodIn wsX1_find (va_wsS RX1 29 yX1_checkNumber wsX1_checkNumber) := goodIn_app (goodIn_of _ (by decide +kernel)) ggX1_find_X1_checkNumber
theorem dX1_find_0 : decode cX1_find 0 = .ok (.iload_n 1, 1) := by decide +kernel
theorem dX1_find_1 : decode cX1_find 1 = .ok (.aload_n 0, 1) := by decide +kernel
theorem dX1_find_2 : decode cX1_find 2 = .ok (.getfield 21, 3) := by decide +kernel
theorem dX1_find_5 : decode cX1_find 5 = .ok (.arraylength, 1) := by decide +kernel
theorem dX1_find_6 : decode cX1_find 6 = .ok (.invokestatic 29, 3) := by decide +kernel
theorem dX1_find_9 : decode cX1_find 9 = .ok (.aload_n 0, 1) := by decide +kernel
theorem dX1_find_10 : decode cX1_find 10 = .ok (.getfield 21, 3) := by decide +kernel
theorem dX1_find_13 : decode cX1_find 13 = .ok (.iload_n 1, 1) := by decide +kernel
theorem dX1_find_14 : decode cX1_find 14 = .ok (.aaload, 1) := by decide +kernel
theorem dX1_find_15 : decode cX1_find 15 = .ok (.astore_n 2, 1) := by decide +kernel
theorem dX1_find_16 : decode cX1_find 16 = .ok (.aload_n 2, 1) := by decide +kernel
theorem dX1_find_17 : decode cX1_find 17 = .ok (.ifnonnull 13, 3) := by decide +kernel
theorem dX1_find_20 : decode cX1_find 20 = .ok (.new 126, 3) := by decide +kernel
theorem dX1_find_23 : decode cX1_find 23 = .ok (.dup, 1) := by decide +kernel
theorem dX1_find_24 : decode cX1_find 24 = .ok (.ldc 136, 2) := by decide +kernel
theorem dX1_find_26 : decode cX1_find 26 = .ok (.invokespecial 130, 3) := by decide +kernel
theorem dX1_find_29 : decode cX1_find 29 = .ok (.athrow, 1) := by decide +kernel
theorem dX1_find_30 : decode cX1_find 30 = .ok (.aload_n 2, 1) := by decide +kernel
theorem dX1_find_31 : decode cX1_find 31 = .ok (.areturn, 1) := by decide +kernel
set_option maxRecDepth 20000 in
theorem ggX1_daysLet_X0_daysWithin : GoodIn wsX1_daysLet wsX0_daysWithin := goodIn_r _ [6, 7, 8, 9, 10, 11, 12, 13, 14, 15, 21, 22, 23, 24, 25, 26, 27, 28, 29, 30, 31, 32] (by decide +kernel) (by decide +kernel)
set_option maxRecDepth 20000 in
theorem gX1_daysLet_X0_daysWithin : GoodIn wsX1_daysLet (wsV RX1 138 RX0 yX0_daysWithin wsX0_daysWithin) := goodIn_app (goodIn_of _ (by decide +kernel)) ggX1_daysLet_X0_daysWithin
theorem dX1_daysLet_0 : decode cX1_daysLet 0 = .ok (.iconst 0, 1) := by decide +kernel
theorem dX1_daysLet_1 : decode cX1_daysLet 1 = .ok (.istore 4, 2) := by decide +kernel
theorem dX1_daysLet_3 : decode cX1_daysLet 3 = .ok (.aload_n 0, 1) := by decide +kernel
theorem dX1_daysLet_4 : decode cX1_daysLet 4 = .ok (.getfield 21, 3) := by decide +kernel
theorem dX1_daysLet_7 : decode cX1_daysLet 7 = .ok (.astore 5, 2) := by decide +kernel
theorem dX1_daysLet_9 : decode cX1_daysLet 9 = .ok (.aload 5, 2) := by decide +kernel
theorem dX1_daysLet_11 : decode cX1_daysLet 11 = .ok (.arraylength, 1) := by decide +kernel
theorem dX1_daysLet_12 : decode cX1_daysLet 12 = .ok (.istore 6, 2) := by decide +kernel
theorem dX1_daysLet_14 : decode cX1_daysLet 14 = .ok (.iconst 0, 1) := by decide +kernel
theorem dX1_daysLet_15 : decode cX1_daysLet 15 = .ok (.istore 7, 2) := by decide +kernel
theorem dX1_daysLet_17 : decode cX1_daysLet 17 = .ok (.iload 7, 2) := by decide +kernel
theorem dX1_daysLet_19 : decode cX1_daysLet 19 = .ok (.iload 6, 2) := by decide +kernel
theorem dX1_daysLet_21 : decode cX1_daysLet 21 = .ok (.if_icmp .ge 42, 3) := by decide +kernel
theorem dX1_daysLet_24 : decode cX1_daysLet 24 = .ok (.aload 5, 2) := by decide +kernel
theorem dX1_daysLet_26 : decode cX1_daysLet 26 = .ok (.iload 7, 2) := by decide +kernel
theorem dX1_daysLet_28 : decode cX1_daysLet 28 = .ok (.aaload, 1) := by decide +kernel
theorem dX1_daysLet_29 : decode cX1_daysLet 29 = .ok (.astore 8, 2) := by decide +kernel
theorem dX1_daysLet_31 : decode cX1_daysLet 31 = .ok (.aload 8, 2) := by decide +kernel
theorem dX1_daysLet_33 : decode cX1_daysLet 33 = .ok (.ifnull 24, 3) := by decide +kernel
theorem dX1_daysLet_36 : decode cX1_daysLet 36 = .ok (.aload 8, 2) := by decide +kernel
theorem dX1_daysLet_38 : decode cX1_daysLet 38 = .ok (.getfield 101, 3) := by decide +kernel
theorem dX1_daysLet_41 : decode cX1_daysLet 41 = .ok (.iload_n 1, 1) := by decide +kernel
theorem dX1_daysLet_42 : decode cX1_daysLet 42 = .ok (.if_icmp .ne 15, 3) := by decide +kernel
theorem dX1_daysLet_45 : decode cX1_daysLet 45 = .ok (.iload 4, 2) := by decide +kernel
theorem dX1_daysLet_47 : decode cX1_daysLet 47 = .ok (.aload 8, 2) := by decide +kernel
theorem dX1_daysLet_49 : decode cX1_daysLet 49 = .ok (.iload_n 2, 1) := by decide +kernel
theorem dX1_daysLet_50 : decode cX1_daysLet 50 = .ok (.iload_n 3, 1) := by decide +kernel
theorem dX1_daysLet_51 : decode cX1_daysLet 51 = .ok (.invokevirtual 138, 3) := by decide +kernel
theorem dX1_daysLet_54 : decode cX1_daysLet 54 = .ok (.iadd, 1) := by decide +kernel
theorem dX1_daysLet_55 : decode cX1_daysLet 55 = .ok (.istore 4, 2) := by decide +kernel
theorem dX1_daysLet_57 : decode cX1_daysLet 57 = .ok (.iinc 7 1, 3) := by decide +kernel
theorem dX1_daysLet_60 : decode cX1_daysLet 60 = .ok (.goto (-43), 3) := by decide +kernel
theorem dX1_daysLet_63 : decode cX1_daysLet 63 = .ok (.iload 4, 2) := by decide +kernel
theorem dX1_daysLet_65 : decode cX1_daysLet 65 = .ok (.ireturn, 1) := by decide +kernel
theorem dX1_allAreas_0 : decode cX1_allAreas 0 = .ok (.iconst 0, 1) := by decide +kernel
theorem dX1_allAreas_1 : decode cX1_allAreas 1 = .ok (.istore_n 1, 1) := by decide +kernel
theorem dX1_allAreas_2 : decode cX1_allAreas 2 = .ok (.aload_n 0, 1) := by decide +kernel
theorem dX1_allAreas_3 : decode cX1_allAreas 3 = .ok (.getfield 9, 3) := by decide +kernel
theorem dX1_allAreas_6 : decode cX1_allAreas 6 = .ok (.astore_n 2, 1) := by decide +kernel
theorem dX1_allAreas_7 : decode cX1_allAreas 7 = .ok (.aload_n 2, 1) := by decide +kernel
theorem dX1_allAreas_8 : decode cX1_allAreas 8 = .ok (.arraylength, 1) := by decide +kernel
theorem dX1_allAreas_9 : decode cX1_allAreas 9 = .ok (.istore_n 3, 1) := by decide +kernel
theorem dX1_allAreas_10 : decode cX1_allAreas 10 = .ok (.iconst 0, 1) := by decide +kernel
theorem dX1_allAreas_11 : decode cX1_allAreas 11 = .ok (.istore 4, 2) := by decide +kernel
theorem dX1_allAreas_13 : decode cX1_allAreas 13 = .ok (.iload 4, 2) := by decide +kernel
theorem dX1_allAreas_15 : decode cX1_allAreas 15 = .ok (.iload_n 3, 1) := by decide +kernel
theorem dX1_allAreas_16 : decode cX1_allAreas 16 = .ok (.if_icmp .ge 20, 3) := by decide +kernel
theorem dX1_allAreas_19 : decode cX1_allAreas 19 = .ok (.aload_n 2, 1) := by decide +kernel
theorem dX1_allAreas_20 : decode cX1_allAreas 20 = .ok (.iload 4, 2) := by decide +kernel
theorem dX1_allAreas_22 : decode cX1_allAreas 22 = .ok (.iaload, 1) := by decide +kernel
theorem dX1_allAreas_23 : decode cX1_allAreas 23 = .ok (.istore 5, 2) := by decide +kernel
theorem dX1_allAreas_25 : decode cX1_allAreas 25 = .ok (.iload_n 1, 1) := by decide +kernel
theorem dX1_allAreas_26 : decode cX1_allAreas 26 = .ok (.iload 5, 2) := by decide +kernel
theorem dX1_allAreas_28 : decode cX1_allAreas 28 = .ok (.iadd, 1) := by decide +kernel
theorem dX1_allAreas_29 : decode cX1_allAreas 29 = .ok (.istore_n 1, 1) := by decide +kernel
theorem dX1_allAreas_30 : decode cX1_allAreas 30 = .ok (.iinc 4 1, 3) := by decide +kernel
theorem dX1_allAreas_33 : decode cX1_allAreas 33 = .ok (.goto (-20), 3) := by decide +kernel
theorem dX1_allAreas_36 : decode cX1_allAreas 36 = .ok (.iload_n 1, 1) := by decide +kernel
theorem dX1_allAreas_37 : decode cX1_allAreas 37 = .ok (.ireturn, 1) := by decide +kernel
theorem dX1_valueAt_0 : decode cX1_valueAt 0 = .ok (.iload_n 1, 1) := by decide +kernel
theorem dX1_valueAt_1 : decode cX1_valueAt 1 = .ok (.ifCond .lt 15, 3) := by decide +kernel
theorem dX1_valueAt_4 : decode cX1_valueAt 4 = .ok (.iload_n 1, 1) := by decide +kernel
theorem dX1_valueAt_5 : decode cX1_valueAt 5 = .ok (.aload_n 0, 1) := by decide +kernel
theorem dX1_valueAt_6 : decode cX1_valueAt 6 = .ok (.arraylength, 1) := by decide +kernel
theorem dX1_valueAt_7 : decode cX1_valueAt 7 = .ok (.if_icmp .ge 9, 3) := by decide +kernel
theorem dX1_valueAt_10 : decode cX1_valueAt 10 = .ok (.aload_n 0, 1) := by decide +kernel
theorem dX1_valueAt_11 : decode cX1_valueAt 11 = .ok (.iload_n 1, 1) := by decide +kernel
theorem dX1_valueAt_12 : decode cX1_valueAt 12 = .ok (.iaload, 1) := by decide +kernel
theorem dX1_valueAt_13 : decode cX1_valueAt 13 = .ok (.goto 4, 3) := by decide +kernel
theorem dX1_valueAt_16 : decode cX1_valueAt 16 = .ok (.iconst 0, 1) := by decide +kernel
theorem dX1_valueAt_17 : decode cX1_valueAt 17 = .ok (.ireturn, 1) := by decide +kernel
set_option maxRecDepth 20000 in
theorem ggX1_rentFor_X0_runsOn : GoodIn wsX1_rentFor wsX0_runsOn := goodIn_r _ [10, 11, 12, 44, 45, 46, 47, 48, 49, 50, 51, 52, 53, 54, 55] (by decide +kernel) (by decide +kernel)
set_option maxRecDepth 20000 in
theorem gX1_rentFor_X0_runsOn : GoodIn wsX1_rentFor (wsV RX1 104 RX0 yX0_runsOn wsX0_runsOn) := goodIn_app (goodIn_of _ (by decide +kernel)) ggX1_rentFor_X0_runsOn
set_option maxRecDepth 20000 in
theorem ggX1_rentFor_X0_isFreeOn : GoodIn wsX1_rentFor wsX0_isFreeOn := goodIn_r _ [16, 11, 17, 44, 45, 46, 47, 48, 49, 50, 51, 52, 53, 54, 55] (by decide +kernel) (by decide +kernel)
set_option maxRecDepth 20000 in
theorem gX1_rentFor_X0_isFreeOn : GoodIn wsX1_rentFor (wsV RX1 141 RX0 yX0_isFreeOn wsX0_isFreeOn) := goodIn_app (goodIn_of _ (by decide +kernel)) ggX1_rentFor_X0_isFreeOn
set_option maxRecDepth 20000 in
theorem ggX1_rentFor_X0_agreedOn : GoodIn wsX1_rentFor wsX0_agreedOn := goodIn_r _ [21, 11, 22, 23, 24, 25, 44, 45, 46, 47, 48, 49, 50, 51, 52, 53, 54, 55] (by decide +kernel) (by decide +kernel)
set_option maxRecDepth 20000 in
theorem gX1_rentFor_X0_agreedOn : GoodIn wsX1_rentFor (wsV RX1 144 RX0 yX0_agreedOn wsX0_agreedOn) := goodIn_app (goodIn_of _ (by decide +kernel)) ggX1_rentFor_X0_agreedOn
set_option maxRecDepth 20000 in
theorem ggX1_rentFor_X1_valueAt : GoodIn wsX1_rentFor wsX1_valueAt := goodIn_r _ [29] (by decide +kernel) (by decide +kernel)
set_option maxRecDepth 20000 in
theorem gX1_rentFor_X1_valueAt : GoodIn wsX1_rentFor (va_wsS RX1 147 yX1_valueAt wsX1_valueAt) := goodIn_app (goodIn_of _ (by decide +kernel)) ggX1_rentFor_X1_valueAt
set_option maxRecDepth 20000 in
theorem ggX1_rentFor_X1_highestIndex : GoodIn wsX1_rentFor wsX1_highestIndex := goodIn_r _ [33, 1, 2, 3, 4, 5, 34, 35, 36, 9, 37, 38, 11, 26, 27, 28, 29, 44, 45, 46, 47, 48, 49, 50, 51, 52, 53, 54, 55, 39, 40, 41, 42, 43] (by decide +kernel) (by decide +kernel)
set_option maxRecDepth 20000 in
theorem gX1_rentFor_X1_highestIndex : GoodIn wsX1_rentFor (wsV RX1 151 RX1 yX1_highestIndex wsX1_highestIndex) := goodIn_app (goodIn_of _ (by decide +kernel)) ggX1_rentFor_X1_highestIndex
theorem dX1_rentFor_0 : decode cX1_rentFor 0 = .ok (.aload_n 1, 1) := by decide +kernel
theorem dX1_rentFor_1 : decode cX1_rentFor 1 = .ok (.iload_n 2, 1) := by decide +kernel
theorem dX1_rentFor_2 : decode cX1_rentFor 2 = .ok (.invokevirtual 104, 3) := by decide +kernel
theorem dX1_rentFor_5 : decode cX1_rentFor 5 = .ok (.ifCond .eq 11, 3) := by decide +kernel
theorem dX1_rentFor_8 : decode cX1_rentFor 8 = .ok (.aload_n 1, 1) := by decide +kernel
theorem dX1_rentFor_9 : decode cX1_rentFor 9 = .ok (.iload_n 2, 1) := by decide +kernel
theorem dX1_rentFor_10 : decode cX1_rentFor 10 = .ok (.invokevirtual 141, 3) := by decide +kernel
theorem dX1_rentFor_13 : decode cX1_rentFor 13 = .ok (.ifCond .eq 5, 3) := by decide +kernel
theorem dX1_rentFor_16 : decode cX1_rentFor 16 = .ok (.iconst 0, 1) := by decide +kernel
theorem dX1_rentFor_17 : decode cX1_rentFor 17 = .ok (.ireturn, 1) := by decide +kernel
theorem dX1_rentFor_18 : decode cX1_rentFor 18 = .ok (.aload_n 1, 1) := by decide +kernel
theorem dX1_rentFor_19 : decode cX1_rentFor 19 = .ok (.iload_n 2, 1) := by decide +kernel
theorem dX1_rentFor_20 : decode cX1_rentFor 20 = .ok (.invokevirtual 144, 3) := by decide +kernel
theorem dX1_rentFor_23 : decode cX1_rentFor 23 = .ok (.istore_n 3, 1) := by decide +kernel
theorem dX1_rentFor_24 : decode cX1_rentFor 24 = .ok (.aload_n 0, 1) := by decide +kernel
theorem dX1_rentFor_25 : decode cX1_rentFor 25 = .ok (.getfield 13, 3) := by decide +kernel
theorem dX1_rentFor_28 : decode cX1_rentFor 28 = .ok (.aload_n 1, 1) := by decide +kernel
theorem dX1_rentFor_29 : decode cX1_rentFor 29 = .ok (.getfield 59, 3) := by decide +kernel
theorem dX1_rentFor_32 : decode cX1_rentFor 32 = .ok (.bipush 30, 2) := by decide +kernel
theorem dX1_rentFor_34 : decode cX1_rentFor 34 = .ok (.idiv, 1) := by decide +kernel
theorem dX1_rentFor_35 : decode cX1_rentFor 35 = .ok (.invokestatic 147, 3) := by decide +kernel
theorem dX1_rentFor_38 : decode cX1_rentFor 38 = .ok (.istore 4, 2) := by decide +kernel
theorem dX1_rentFor_40 : decode cX1_rentFor 40 = .ok (.iload 4, 2) := by decide +kernel
theorem dX1_rentFor_42 : decode cX1_rentFor 42 = .ok (.ifCond .gt 5, 3) := by decide +kernel
theorem dX1_rentFor_45 : decode cX1_rentFor 45 = .ok (.iload_n 3, 1) := by decide +kernel
theorem dX1_rentFor_46 : decode cX1_rentFor 46 = .ok (.ireturn, 1) := by decide +kernel
theorem dX1_rentFor_47 : decode cX1_rentFor 47 = .ok (.iload_n 3, 1) := by decide +kernel
theorem dX1_rentFor_48 : decode cX1_rentFor 48 = .ok (.iload_n 3, 1) := by decide +kernel
theorem dX1_rentFor_49 : decode cX1_rentFor 49 = .ok (.aload_n 0, 1) := by decide +kernel
theorem dX1_rentFor_50 : decode cX1_rentFor 50 = .ok (.aload_n 1, 1) := by decide +kernel
theorem dX1_rentFor_51 : decode cX1_rentFor 51 = .ok (.iload_n 2, 1) := by decide +kernel
theorem dX1_rentFor_52 : decode cX1_rentFor 52 = .ok (.invokevirtual 151, 3) := by decide +kernel
theorem dX1_rentFor_55 : decode cX1_rentFor 55 = .ok (.imul, 1) := by decide +kernel
theorem dX1_rentFor_56 : decode cX1_rentFor 56 = .ok (.iload 4, 2) := by decide +kernel
theorem dX1_rentFor_58 : decode cX1_rentFor 58 = .ok (.idiv, 1) := by decide +kernel
theorem dX1_rentFor_59 : decode cX1_rentFor 59 = .ok (.invokestatic 93, 3) := by decide +kernel
theorem dX1_rentFor_62 : decode cX1_rentFor 62 = .ok (.ireturn, 1) := by decide +kernel
set_option maxRecDepth 20000 in
theorem ggX1_highestIndex_X0_reviewsUpTo : GoodIn wsX1_highestIndex wsX0_reviewsUpTo := goodIn_r _ [10, 11, 12, 17, 18, 19, 20, 21, 22, 23, 24, 25, 26, 27, 28] (by decide +kernel) (by decide +kernel)
set_option maxRecDepth 20000 in
theorem gX1_highestIndex_X0_reviewsUpTo : GoodIn wsX1_highestIndex (wsV RX1 154 RX0 yX0_reviewsUpTo wsX0_reviewsUpTo) := goodIn_app (goodIn_of _ (by decide +kernel)) ggX1_highestIndex_X0_reviewsUpTo
set_option maxRecDepth 20000 in
theorem ggX1_highestIndex_X1_valueAt : GoodIn wsX1_highestIndex wsX1_valueAt := goodIn_r _ [16] (by decide +kernel) (by decide +kernel)
set_option maxRecDepth 20000 in
theorem gX1_highestIndex_X1_valueAt : GoodIn wsX1_highestIndex (va_wsS RX1 147 yX1_valueAt wsX1_valueAt) := goodIn_app (goodIn_of _ (by decide +kernel)) ggX1_highestIndex_X1_valueAt
theorem dX1_highestIndex_0 : decode cX1_highestIndex 0 = .ok (.iconst 0, 1) := by decide +kernel
theorem dX1_highestIndex_1 : decode cX1_highestIndex 1 = .ok (.istore_n 3, 1) := by decide +kernel
theorem dX1_highestIndex_2 : decode cX1_highestIndex 2 = .ok (.aload_n 1, 1) := by decide +kernel
theorem dX1_highestIndex_3 : decode cX1_highestIndex 3 = .ok (.iload_n 2, 1) := by decide +kernel
theorem dX1_highestIndex_4 : decode cX1_highestIndex 4 = .ok (.invokevirtual 154, 3) := by decide +kernel
theorem dX1_highestIndex_7 : decode cX1_highestIndex 7 = .ok (.istore 4, 2) := by decide +kernel
theorem dX1_highestIndex_9 : decode cX1_highestIndex 9 = .ok (.iconst 1, 1) := by decide +kernel
theorem dX1_highestIndex_10 : decode cX1_highestIndex 10 = .ok (.istore 5, 2) := by decide +kernel
theorem dX1_highestIndex_12 : decode cX1_highestIndex 12 = .ok (.iload 5, 2) := by decide +kernel
theorem dX1_highestIndex_14 : decode cX1_highestIndex 14 = .ok (.iload 4, 2) := by decide +kernel
theorem dX1_highestIndex_16 : decode cX1_highestIndex 16 = .ok (.if_icmp .gt 40, 3) := by decide +kernel
theorem dX1_highestIndex_19 : decode cX1_highestIndex 19 = .ok (.aload_n 1, 1) := by decide +kernel
theorem dX1_highestIndex_20 : decode cX1_highestIndex 20 = .ok (.getfield 59, 3) := by decide +kernel
theorem dX1_highestIndex_23 : decode cX1_highestIndex 23 = .ok (.iload 5, 2) := by decide +kernel
theorem dX1_highestIndex_25 : decode cX1_highestIndex 25 = .ok (.aload_n 1, 1) := by decide +kernel
theorem dX1_highestIndex_26 : decode cX1_highestIndex 26 = .ok (.getfield 77, 3) := by decide +kernel
theorem dX1_highestIndex_29 : decode cX1_highestIndex 29 = .ok (.imul, 1) := by decide +kernel
theorem dX1_highestIndex_30 : decode cX1_highestIndex 30 = .ok (.iadd, 1) := by decide +kernel
theorem dX1_highestIndex_31 : decode cX1_highestIndex 31 = .ok (.bipush 30, 2) := by decide +kernel
theorem dX1_highestIndex_33 : decode cX1_highestIndex 33 = .ok (.idiv, 1) := by decide +kernel
theorem dX1_highestIndex_34 : decode cX1_highestIndex 34 = .ok (.istore 6, 2) := by decide +kernel
theorem dX1_highestIndex_36 : decode cX1_highestIndex 36 = .ok (.iload_n 3, 1) := by decide +kernel
theorem dX1_highestIndex_37 : decode cX1_highestIndex 37 = .ok (.aload_n 0, 1) := by decide +kernel
theorem dX1_highestIndex_38 : decode cX1_highestIndex 38 = .ok (.getfield 13, 3) := by decide +kernel
theorem dX1_highestIndex_41 : decode cX1_highestIndex 41 = .ok (.iload 6, 2) := by decide +kernel
theorem dX1_highestIndex_43 : decode cX1_highestIndex 43 = .ok (.invokestatic 147, 3) := by decide +kernel
theorem dX1_highestIndex_46 : decode cX1_highestIndex 46 = .ok (.invokestatic 93, 3) := by decide +kernel
theorem dX1_highestIndex_49 : decode cX1_highestIndex 49 = .ok (.istore_n 3, 1) := by decide +kernel
theorem dX1_highestIndex_50 : decode cX1_highestIndex 50 = .ok (.iinc 5 1, 3) := by decide +kernel
theorem dX1_highestIndex_53 : decode cX1_highestIndex 53 = .ok (.goto (-41), 3) := by decide +kernel
theorem dX1_highestIndex_56 : decode cX1_highestIndex 56 = .ok (.iload_n 3, 1) := by decide +kernel
theorem dX1_highestIndex_57 : decode cX1_highestIndex 57 = .ok (.ireturn, 1) := by decide +kernel
set_option maxRecDepth 20000 in
theorem ggX1_billFor_X0_nextTurn : GoodIn wsX1_billFor wsX0_nextTurn := goodIn_r _ [9, 10, 11, 12, 13, 14, 15, 16, 17, 8, 18, 19, 20, 21, 22, 54, 55, 56, 57, 58, 59, 60, 61, 62, 63, 64, 65] (by decide +kernel) (by decide +kernel)
set_option maxRecDepth 20000 in
theorem gX1_billFor_X0_nextTurn : GoodIn wsX1_billFor (wsV RX1 111 RX0 yX0_nextTurn wsX0_nextTurn) := goodIn_app (goodIn_of _ (by decide +kernel)) ggX1_billFor_X0_nextTurn
set_option maxRecDepth 20000 in
theorem ggX1_billFor_X1_rentFor : GoodIn wsX1_billFor wsX1_rentFor := goodIn_r _ [27, 28, 29, 30, 3, 31, 32, 33, 34, 8, 35, 10, 12, 36, 37, 38, 39, 11, 40, 41, 42, 43, 44, 13, 14, 45, 46, 47, 26, 48, 49, 50, 51, 52, 53, 20, 21, 22, 15, 66, 67, 68, 69, 70, 54, 55, 56, 57, 58, 59, 60, 61, 62, 63, 64, 65] (by decide +kernel) (by decide +kernel)
set_option maxRecDepth 20000 in
theorem gX1_billFor_X1_rentFor : GoodIn wsX1_billFor (wsV RX1 86 RX1 yX1_rentFor wsX1_rentFor) := goodIn_app (goodIn_of _ (by decide +kernel)) ggX1_billFor_X1_rentFor
theorem dX1_billFor_0 : decode cX1_billFor 0 = .ok (.iload_n 2, 1) := by decide +kernel
theorem dX1_billFor_1 : decode cX1_billFor 1 = .ok (.bipush 30, 2) := by decide +kernel
theorem dX1_billFor_3 : decode cX1_billFor 3 = .ok (.imul, 1) := by decide +kernel
theorem dX1_billFor_4 : decode cX1_billFor 4 = .ok (.istore_n 3, 1) := by decide +kernel
theorem dX1_billFor_5 : decode cX1_billFor 5 = .ok (.iload_n 3, 1) := by decide +kernel
theorem dX1_billFor_6 : decode cX1_billFor 6 = .ok (.bipush 30, 2) := by decide +kernel
theorem dX1_billFor_8 : decode cX1_billFor 8 = .ok (.iadd, 1) := by decide +kernel
theorem dX1_billFor_9 : decode cX1_billFor 9 = .ok (.istore 4, 2) := by decide +kernel
theorem dX1_billFor_11 : decode cX1_billFor 11 = .ok (.iconst 0, 1) := by decide +kernel
theorem dX1_billFor_12 : decode cX1_billFor 12 = .ok (.istore 5, 2) := by decide +kernel
theorem dX1_billFor_14 : decode cX1_billFor 14 = .ok (.iconst 0, 1) := by decide +kernel
theorem dX1_billFor_15 : decode cX1_billFor 15 = .ok (.istore 6, 2) := by decide +kernel
theorem dX1_billFor_17 : decode cX1_billFor 17 = .ok (.iload 6, 2) := by decide +kernel
theorem dX1_billFor_19 : decode cX1_billFor 19 = .ok (.bipush 30, 2) := by decide +kernel
theorem dX1_billFor_21 : decode cX1_billFor 21 = .ok (.if_icmp .ge 46, 3) := by decide +kernel
theorem dX1_billFor_24 : decode cX1_billFor 24 = .ok (.iload_n 3, 1) := by decide +kernel
theorem dX1_billFor_25 : decode cX1_billFor 25 = .ok (.iload 4, 2) := by decide +kernel
theorem dX1_billFor_27 : decode cX1_billFor 27 = .ok (.if_icmp .ge 40, 3) := by decide +kernel
theorem dX1_billFor_30 : decode cX1_billFor 30 = .ok (.aload_n 1, 1) := by decide +kernel
theorem dX1_billFor_31 : decode cX1_billFor 31 = .ok (.iload_n 3, 1) := by decide +kernel
theorem dX1_billFor_32 : decode cX1_billFor 32 = .ok (.invokevirtual 111, 3) := by decide +kernel
theorem dX1_billFor_35 : decode cX1_billFor 35 = .ok (.iload 4, 2) := by decide +kernel
theorem dX1_billFor_37 : decode cX1_billFor 37 = .ok (.invokestatic 157, 3) := by decide +kernel
theorem dX1_billFor_40 : decode cX1_billFor 40 = .ok (.istore 7, 2) := by decide +kernel
theorem dX1_billFor_42 : decode cX1_billFor 42 = .ok (.iload 5, 2) := by decide +kernel
theorem dX1_billFor_44 : decode cX1_billFor 44 = .ok (.iload 7, 2) := by decide +kernel
theorem dX1_billFor_46 : decode cX1_billFor 46 = .ok (.iload_n 3, 1) := by decide +kernel
theorem dX1_billFor_47 : decode cX1_billFor 47 = .ok (.isub, 1) := by decide +kernel
theorem dX1_billFor_48 : decode cX1_billFor 48 = .ok (.aload_n 0, 1) := by decide +kernel
theorem dX1_billFor_49 : decode cX1_billFor 49 = .ok (.aload_n 1, 1) := by decide +kernel
theorem dX1_billFor_50 : decode cX1_billFor 50 = .ok (.iload_n 3, 1) := by decide +kernel
theorem dX1_billFor_51 : decode cX1_billFor 51 = .ok (.invokevirtual 86, 3) := by decide +kernel
theorem dX1_billFor_54 : decode cX1_billFor 54 = .ok (.imul, 1) := by decide +kernel
theorem dX1_billFor_55 : decode cX1_billFor 55 = .ok (.iadd, 1) := by decide +kernel
theorem dX1_billFor_56 : decode cX1_billFor 56 = .ok (.istore 5, 2) := by decide +kernel
theorem dX1_billFor_58 : decode cX1_billFor 58 = .ok (.iload 7, 2) := by decide +kernel
theorem dX1_billFor_60 : decode cX1_billFor 60 = .ok (.istore_n 3, 1) := by decide +kernel
theorem dX1_billFor_61 : decode cX1_billFor 61 = .ok (.iinc 6 1, 3) := by decide +kernel
theorem dX1_billFor_64 : decode cX1_billFor 64 = .ok (.goto (-47), 3) := by decide +kernel
theorem dX1_billFor_67 : decode cX1_billFor 67 = .ok (.iload 5, 2) := by decide +kernel
theorem dX1_billFor_69 : decode cX1_billFor 69 = .ok (.bipush 30, 2) := by decide +kernel
theorem dX1_billFor_71 : decode cX1_billFor 71 = .ok (.idiv, 1) := by decide +kernel
theorem dX1_billFor_72 : decode cX1_billFor 72 = .ok (.ireturn, 1) := by decide +kernel
set_option maxRecDepth 20000 in
theorem ggX1_partOf_X1_allAreas : GoodIn wsX1_partOf wsX1_allAreas := goodIn_r _ [11, 1, 30, 31, 32, 33, 34] (by decide +kernel) (by decide +kernel)
set_option maxRecDepth 20000 in
theorem gX1_partOf_X1_allAreas : GoodIn wsX1_partOf (wsV RX1 122 RX1 yX1_allAreas wsX1_allAreas) := goodIn_app (goodIn_of _ (by decide +kernel)) ggX1_partOf_X1_allAreas
set_option maxRecDepth 20000 in
theorem ggX1_partOf_X0_daysIn : GoodIn wsX1_partOf wsX0_daysIn := goodIn_r _ [16, 17, 18, 19, 15, 20, 21, 22, 4, 5, 6, 23, 24, 25, 26, 35, 36, 37, 38, 39, 40, 41, 42, 43, 44, 45, 46] (by decide +kernel) (by decide +kernel)
set_option maxRecDepth 20000 in
theorem gX1_partOf_X0_daysIn : GoodIn wsX1_partOf (wsV RX1 119 RX0 yX0_daysIn wsX0_daysIn) := goodIn_app (goodIn_of _ (by decide +kernel)) ggX1_partOf_X0_daysIn
set_option maxRecDepth 20000 in
theorem ggX1_partOf_X1_valueAt : GoodIn wsX1_partOf wsX1_valueAt := goodIn_r _ [29] (by decide +kernel) (by decide +kernel)
set_option maxRecDepth 20000 in
theorem gX1_partOf_X1_valueAt : GoodIn wsX1_partOf (va_wsS RX1 147 yX1_valueAt wsX1_valueAt) := goodIn_app (goodIn_of _ (by decide +kernel)) ggX1_partOf_X1_valueAt
theorem dX1_partOf_0 : decode cX1_partOf 0 = .ok (.aload_n 0, 1) := by decide +kernel
theorem dX1_partOf_1 : decode cX1_partOf 1 = .ok (.invokevirtual 122, 3) := by decide +kernel
theorem dX1_partOf_4 : decode cX1_partOf 4 = .ok (.istore 4, 2) := by decide +kernel
theorem dX1_partOf_6 : decode cX1_partOf 6 = .ok (.iload 4, 2) := by decide +kernel
theorem dX1_partOf_8 : decode cX1_partOf 8 = .ok (.ifCond .gt 5, 3) := by decide +kernel
theorem dX1_partOf_11 : decode cX1_partOf 11 = .ok (.iconst 0, 1) := by decide +kernel
theorem dX1_partOf_12 : decode cX1_partOf 12 = .ok (.ireturn, 1) := by decide +kernel
theorem dX1_partOf_13 : decode cX1_partOf 13 = .ok (.aload_n 1, 1) := by decide +kernel
theorem dX1_partOf_14 : decode cX1_partOf 14 = .ok (.iload_n 2, 1) := by decide +kernel
theorem dX1_partOf_15 : decode cX1_partOf 15 = .ok (.invokevirtual 119, 3) := by decide +kernel
theorem dX1_partOf_18 : decode cX1_partOf 18 = .ok (.istore 5, 2) := by decide +kernel
theorem dX1_partOf_20 : decode cX1_partOf 20 = .ok (.iload_n 3, 1) := by decide +kernel
theorem dX1_partOf_21 : decode cX1_partOf 21 = .ok (.i2l, 1) := by decide +kernel
theorem dX1_partOf_22 : decode cX1_partOf 22 = .ok (.aload_n 0, 1) := by decide +kernel
theorem dX1_partOf_23 : decode cX1_partOf 23 = .ok (.getfield 9, 3) := by decide +kernel
theorem dX1_partOf_26 : decode cX1_partOf 26 = .ok (.aload_n 1, 1) := by decide +kernel
theorem dX1_partOf_27 : decode cX1_partOf 27 = .ok (.getfield 101, 3) := by decide +kernel
theorem dX1_partOf_30 : decode cX1_partOf 30 = .ok (.invokestatic 147, 3) := by decide +kernel
theorem dX1_partOf_33 : decode cX1_partOf 33 = .ok (.i2l, 1) := by decide +kernel
theorem dX1_partOf_34 : decode cX1_partOf 34 = .ok (.lmul, 1) := by decide +kernel
theorem dX1_partOf_35 : decode cX1_partOf 35 = .ok (.iload 5, 2) := by decide +kernel
theorem dX1_partOf_37 : decode cX1_partOf 37 = .ok (.i2l, 1) := by decide +kernel
theorem dX1_partOf_38 : decode cX1_partOf 38 = .ok (.lmul, 1) := by decide +kernel
theorem dX1_partOf_39 : decode cX1_partOf 39 = .ok (.iload 4, 2) := by decide +kernel
theorem dX1_partOf_41 : decode cX1_partOf 41 = .ok (.i2l, 1) := by decide +kernel
theorem dX1_partOf_42 : decode cX1_partOf 42 = .ok (.ldc2_w 160, 3) := by decide +kernel
theorem dX1_partOf_45 : decode cX1_partOf 45 = .ok (.lmul, 1) := by decide +kernel
theorem dX1_partOf_46 : decode cX1_partOf 46 = .ok (.ldiv, 1) := by decide +kernel
theorem dX1_partOf_47 : decode cX1_partOf 47 = .ok (.lstore 6, 2) := by decide +kernel
theorem dX1_partOf_49 : decode cX1_partOf 49 = .ok (.aload_n 1, 1) := by decide +kernel
theorem dX1_partOf_50 : decode cX1_partOf 50 = .ok (.getfield 80, 3) := by decide +kernel
theorem dX1_partOf_53 : decode cX1_partOf 53 = .ok (.iconst (-1), 1) := by decide +kernel
theorem dX1_partOf_54 : decode cX1_partOf 54 = .ok (.if_icmp .ne 7, 3) := by decide +kernel
theorem dX1_partOf_57 : decode cX1_partOf 57 = .ok (.lload 6, 2) := by decide +kernel
theorem dX1_partOf_59 : decode cX1_partOf 59 = .ok (.l2i, 1) := by decide +kernel
theorem dX1_partOf_60 : decode cX1_partOf 60 = .ok (.ireturn, 1) := by decide +kernel
theorem dX1_partOf_61 : decode cX1_partOf 61 = .ok (.lload 6, 2) := by decide +kernel
theorem dX1_partOf_63 : decode cX1_partOf 63 = .ok (.l2i, 1) := by decide +kernel
theorem dX1_partOf_64 : decode cX1_partOf 64 = .ok (.aload_n 1, 1) := by decide +kernel
theorem dX1_partOf_65 : decode cX1_partOf 65 = .ok (.getfield 80, 3) := by decide +kernel
theorem dX1_partOf_68 : decode cX1_partOf 68 = .ok (.iload 5, 2) := by decide +kernel
theorem dX1_partOf_70 : decode cX1_partOf 70 = .ok (.imul, 1) := by decide +kernel
theorem dX1_partOf_71 : decode cX1_partOf 71 = .ok (.sipush 360, 3) := by decide +kernel
theorem dX1_partOf_74 : decode cX1_partOf 74 = .ok (.idiv, 1) := by decide +kernel
theorem dX1_partOf_75 : decode cX1_partOf 75 = .ok (.invokestatic 157, 3) := by decide +kernel
theorem dX1_partOf_78 : decode cX1_partOf 78 = .ok (.ireturn, 1) := by decide +kernel
end
section
theorem dJ9_max_7cf53_0 : decode cJ9_max_7cf53 0 = .ok (.iload_n 0, 1) := by decide +kernel
theorem dJ9_max_7cf53_1 : decode cJ9_max_7cf53 1 = .ok (.iload_n 1, 1) := by decide +kernel
theorem dJ9_max_7cf53_2 : decode cJ9_max_7cf53 2 = .ok (.if_icmp .lt 7, 3) := by decide +kernel
theorem dJ9_max_7cf53_5 : decode cJ9_max_7cf53 5 = .ok (.iload_n 0, 1) := by decide +kernel
theorem dJ9_max_7cf53_6 : decode cJ9_max_7cf53 6 = .ok (.goto 4, 3) := by decide +kernel
theorem dJ9_max_7cf53_9 : decode cJ9_max_7cf53 9 = .ok (.iload_n 1, 1) := by decide +kernel
theorem dJ9_max_7cf53_10 : decode cJ9_max_7cf53 10 = .ok (.ireturn, 1) := by decide +kernel
theorem dJ9_min_7cf53_0 : decode cJ9_min_7cf53 0 = .ok (.iload_n 0, 1) := by decide +kernel
theorem dJ9_min_7cf53_1 : decode cJ9_min_7cf53 1 = .ok (.iload_n 1, 1) := by decide +kernel
theorem dJ9_min_7cf53_2 : decode cJ9_min_7cf53 2 = .ok (.if_icmp .gt 7, 3) := by decide +kernel
theorem dJ9_min_7cf53_5 : decode cJ9_min_7cf53 5 = .ok (.iload_n 0, 1) := by decide +kernel
theorem dJ9_min_7cf53_6 : decode cJ9_min_7cf53 6 = .ok (.goto 4, 3) := by decide +kernel
theorem dJ9_min_7cf53_9 : decode cJ9_min_7cf53 9 = .ok (.iload_n 1, 1) := by decide +kernel
theorem dJ9_min_7cf53_10 : decode cJ9_min_7cf53 10 = .ok (.ireturn, 1) := by decide +kernel
theorem dL_draw_0 : decode cL_draw 0 = .ok (.iload_n 1, 1) := by decide +kernel
theorem dL_draw_1 : decode cL_draw 1 = .ok (.aload_n 0, 1) := by decide +kernel
theorem dL_draw_2 : decode cL_draw 2 = .ok (.arraylength, 1) := by decide +kernel
theorem dL_draw_3 : decode cL_draw 3 = .ok (.if_icmp .ge 12, 3) := by decide +kernel
theorem dL_draw_6 : decode cL_draw 6 = .ok (.aload_n 0, 1) := by decide +kernel
theorem dL_draw_7 : decode cL_draw 7 = .ok (.iload_n 1, 1) := by decide +kernel
theorem dL_draw_8 : decode cL_draw 8 = .ok (.iaload, 1) := by decide +kernel
theorem dL_draw_9 : decode cL_draw 9 = .ok (.ldc 7, 2) := by decide +kernel
theorem dL_draw_11 : decode cL_draw 11 = .ok (.iand, 1) := by decide +kernel
theorem dL_draw_12 : decode cL_draw 12 = .ok (.goto 12, 3) := by decide +kernel
theorem dL_draw_15 : decode cL_draw 15 = .ok (.ldc 8, 2) := by decide +kernel
theorem dL_draw_17 : decode cL_draw 17 = .ok (.iload_n 1, 1) := by decide +kernel
theorem dL_draw_18 : decode cL_draw 18 = .ok (.iconst 2, 1) := by decide +kernel
theorem dL_draw_19 : decode cL_draw 19 = .ok (.iadd, 1) := by decide +kernel
theorem dL_draw_20 : decode cL_draw 20 = .ok (.imul, 1) := by decide +kernel
theorem dL_draw_21 : decode cL_draw 21 = .ok (.ldc 9, 2) := by decide +kernel
theorem dL_draw_23 : decode cL_draw 23 = .ok (.irem, 1) := by decide +kernel
theorem dL_draw_24 : decode cL_draw 24 = .ok (.ireturn, 1) := by decide +kernel
set_option maxRecDepth 20000 in
theorem ggL_step_X1_setArea : GoodIn wsL_step wsX1_setArea := goodIn_ca (goodIn_ca (goodIn_r _ [7, 8, 9, 10, 6, 11, 12, 13, 14, 15, 16, 17, 18, 159, 160, 161, 162, 163] (by decide +kernel) (by decide +kernel)) (goodIn_sub (fun _ h => List.mem_cons_of_mem _ (List.mem_append_left _ (List.mem_append_left _ (List.mem_append_right _ h)))) (by decide +kernel))) (goodIn_sub (fun _ h => List.mem_cons_of_mem _ (List.mem_append_left _ (List.mem_append_right _ h))) (by decide +kernel))
set_option maxRecDepth 20000 in
theorem gL_step_X1_setArea : GoodIn wsL_step (wsV RL 10 RX1 yX1_setArea wsX1_setArea) := goodIn_app (goodIn_of _ (by decide +kernel)) ggL_step_X1_setArea
set_option maxRecDepth 20000 in
theorem ggL_step_X1_setIndex : GoodIn wsL_step wsX1_setIndex := goodIn_ca (goodIn_ca (goodIn_r _ [22, 23, 9, 10, 6, 11, 12, 13, 14, 15, 16, 17, 18, 159, 160, 161, 162, 163] (by decide +kernel) (by decide +kernel)) (goodIn_sub (fun _ h => List.mem_cons_of_mem _ (List.mem_append_left _ (List.mem_append_left _ (List.mem_append_right _ h)))) (by decide +kernel))) (goodIn_sub (fun _ h => List.mem_cons_of_mem _ (List.mem_append_left _ (List.mem_append_right _ h))) (by decide +kernel))
set_option maxRecDepth 20000 in
theorem gL_step_X1_setIndex : GoodIn wsL_step (wsV RL 16 RX1 yX1_setIndex wsX1_setIndex) := goodIn_app (goodIn_of _ (by decide +kernel)) ggL_step_X1_setIndex
set_option maxRecDepth 20000 in
theorem ggL_step_X1_setCost : GoodIn wsL_step wsX1_setCost := goodIn_ca (goodIn_ca (goodIn_r _ [27, 28, 29, 9, 10, 6, 11, 12, 13, 14, 15, 16, 17, 18, 159, 160, 161, 162, 163] (by decide +kernel) (by decide +kernel)) (goodIn_sub (fun _ h => List.mem_cons_of_mem _ (List.mem_append_left _ (List.mem_append_left _ (List.mem_append_right _ h)))) (by decide +kernel))) (goodIn_sub (fun _ h => List.mem_cons_of_mem _ (List.mem_append_left _ (List.mem_append_right _ h))) (by decide +kernel))
set_option maxRecDepth 20000 in
theorem gL_step_X1_setCost : GoodIn wsL_step (wsV RL 20 RX1 yX1_setCost wsX1_setCost) := goodIn_app (goodIn_of _ (by decide +kernel)) ggL_step_X1_setCost
set_option maxRecDepth 20000 in
theorem ggL_step_L_lets : GoodIn wsL_step wsL_lets := goodIn_ca (goodIn_ca (goodIn_ca (goodIn_r _ [33, 34, 35, 36, 6, 37, 38, 39, 40, 41, 42, 43, 44, 8, 45, 46, 47, 48, 49, 9, 10, 11, 12, 13, 14, 15, 16, 17, 18, 50, 51, 52, 53, 54, 55, 56, 57, 58, 59, 60, 61, 62, 63, 64, 65, 66, 67, 68, 69, 70, 71, 72, 73, 74, 75, 76, 77, 78, 79, 80, 81, 82, 83, 84, 85, 86, 87, 88, 89, 90, 91, 92, 93, 94, 95, 96, 97, 98, 99, 100, 101, 102, 103, 23, 104, 105, 106, 107, 108, 109, 110, 111, 112, 113, 114, 115, 116, 117, 118, 119, 120, 121, 122, 123, 124, 125, 126, 127, 159, 160, 161, 162, 163, 164, 165, 166, 167, 168, 169, 170, 171, 172, 173, 174, 175] rfl (by decide +kernel)) (goodIn_sub (fun _ h => List.mem_cons_of_mem _ (List.mem_append_right _ h)) (by decide +kernel))) (goodIn_sub (fun _ h => List.mem_cons_of_mem _ (List.mem_append_left _ (List.mem_append_left _ (List.mem_append_right _ h)))) (by decide +kernel))) (goodIn_sub (fun _ h => List.mem_cons_of_mem _ (List.mem_append_left _ (List.mem_append_right _ h))) (by decide +kernel))
set_option maxRecDepth 20000 in
theorem gL_step_L_lets : GoodIn wsL_step (va_wsS RL 24 yL_lets wsL_lets) := goodIn_app (goodIn_of _ (by decide +kernel)) ggL_step_L_lets
set_option maxRecDepth 20000 in
theorem ggL_step_X1_leases : GoodIn wsL_step wsX1_leases := goodIn_r _ [37, 38, 159, 160, 161, 162, 163] (by decide +kernel) (by decide +kernel)
set_option maxRecDepth 20000 in
theorem gL_step_X1_leases : GoodIn wsL_step (wsV RL 30 RX1 yX1_leases wsX1_leases) := goodIn_app (goodIn_of _ (by decide +kernel)) ggL_step_X1_leases
set_option maxRecDepth 20000 in
theorem ggL_step_X1_end : GoodIn wsL_step wsX1_end := goodIn_ca (goodIn_ca (goodIn_r _ [131, 96, 97, 98, 6, 99, 12, 13, 46, 9, 10, 11, 14, 15, 16, 17, 18, 164, 165, 166, 167, 168, 169, 170, 171, 172, 173, 174, 175, 159, 160, 161, 162, 163] (by decide +kernel) (by decide +kernel)) (goodIn_sub (fun _ h => List.mem_cons_of_mem _ (List.mem_append_left _ (List.mem_append_left _ (List.mem_append_right _ h)))) (by decide +kernel))) (goodIn_sub (fun _ h => List.mem_cons_of_mem _ (List.mem_append_left _ (List.mem_append_right _ h))) (by decide +kernel))
set_option maxRecDepth 20000 in
theorem gL_step_X1_end : GoodIn wsL_step (wsV RL 34 RX1 yX1_end wsX1_end) := goodIn_app (goodIn_of _ (by decide +kernel)) ggL_step_X1_end
set_option maxRecDepth 20000 in
theorem ggL_step_X1_rentOn : GoodIn wsL_step wsX1_rentOn := goodIn_ca (goodIn_r _ [95, 96, 97, 98, 6, 99, 12, 13, 46, 9, 10, 11, 100, 101, 102, 103, 23, 104, 65, 61, 66, 88, 89, 90, 49, 91, 63, 58, 105, 106, 107, 108, 73, 109, 110, 111, 112, 83, 81, 79, 80, 113, 114, 115, 116, 117, 118, 119, 120, 121, 122, 123, 74, 159, 160, 161, 162, 163, 164, 165, 166, 167, 168, 169, 170, 171, 172, 173, 174, 175] (by decide +kernel) (by decide +kernel)) (goodIn_sub (fun _ h => List.mem_cons_of_mem _ (List.mem_append_left _ (List.mem_append_left _ (List.mem_append_right _ h)))) (by decide +kernel))
set_option maxRecDepth 20000 in
theorem gL_step_X1_rentOn : GoodIn wsL_step (wsV RL 37 RX1 yX1_rentOn wsX1_rentOn) := goodIn_app (goodIn_of _ (by decide +kernel)) ggL_step_X1_rentOn
set_option maxRecDepth 20000 in
theorem ggL_step_X1_step : GoodIn wsL_step wsX1_step := goodIn_ca (goodIn_ca (goodIn_ca (goodIn_r _ [135, 43, 44, 45, 96, 97, 98, 6, 99, 12, 13, 46, 9, 10, 11, 14, 15, 16, 17, 18, 136, 137, 138, 49, 139, 81, 79, 80, 64, 65, 61, 66, 164, 165, 166, 167, 168, 169, 170, 171, 172, 173, 174, 175, 159, 160, 161, 162, 163] (by decide +kernel) (by decide +kernel)) (goodIn_sub (fun _ h => List.mem_cons_of_mem _ (List.mem_append_right _ h)) (by decide +kernel))) (goodIn_sub (fun _ h => List.mem_cons_of_mem _ (List.mem_append_left _ (List.mem_append_left _ (List.mem_append_right _ h)))) (by decide +kernel))) (goodIn_sub (fun _ h => List.mem_cons_of_mem _ (List.mem_append_left _ (List.mem_append_right _ h))) (by decide +kernel))
set_option maxRecDepth 20000 in
theorem gL_step_X1_step : GoodIn wsL_step (wsV RL 40 RX1 yX1_step wsX1_step) := goodIn_app (goodIn_of _ (by decide +kernel)) ggL_step_X1_step
set_option maxRecDepth 20000 in
theorem ggL_step_X1_setTerms : GoodIn wsL_step wsX1_setTerms := goodIn_ca (goodIn_ca (goodIn_r _ [143, 96, 97, 98, 6, 99, 12, 13, 46, 9, 10, 11, 14, 15, 16, 17, 18, 164, 165, 166, 167, 168, 169, 170, 171, 172, 173, 174, 175, 159, 160, 161, 162, 163] (by decide +kernel) (by decide +kernel)) (goodIn_sub (fun _ h => List.mem_cons_of_mem _ (List.mem_append_left _ (List.mem_append_left _ (List.mem_append_right _ h)))) (by decide +kernel))) (goodIn_sub (fun _ h => List.mem_cons_of_mem _ (List.mem_append_left _ (List.mem_append_right _ h))) (by decide +kernel))
set_option maxRecDepth 20000 in
theorem gL_step_X1_setTerms : GoodIn wsL_step (wsV RL 44 RX1 yX1_setTerms wsX1_setTerms) := goodIn_app (goodIn_of _ (by decide +kernel)) ggL_step_X1_setTerms
set_option maxRecDepth 20000 in
theorem ggL_step_X1_setService : GoodIn wsL_step wsX1_setService := goodIn_ca (goodIn_ca (goodIn_r _ [147, 29, 96, 97, 98, 6, 99, 12, 13, 46, 9, 10, 11, 14, 15, 16, 17, 18, 164, 165, 166, 167, 168, 169, 170, 171, 172, 173, 174, 175, 159, 160, 161, 162, 163] (by decide +kernel) (by decide +kernel)) (goodIn_sub (fun _ h => List.mem_cons_of_mem _ (List.mem_append_left _ (List.mem_append_left _ (List.mem_append_right _ h)))) (by decide +kernel))) (goodIn_sub (fun _ h => List.mem_cons_of_mem _ (List.mem_append_left _ (List.mem_append_right _ h))) (by decide +kernel))
set_option maxRecDepth 20000 in
theorem gL_step_X1_setService : GoodIn wsL_step (wsV RL 48 RX1 yX1_setService wsX1_setService) := goodIn_app (goodIn_of _ (by decide +kernel)) ggL_step_X1_setService
set_option maxRecDepth 20000 in
theorem ggL_step_L_pays : GoodIn wsL_step wsL_pays := goodIn_ca (goodIn_ca (goodIn_ca (goodIn_r _ [150, 124, 125, 126, 6, 127, 96, 97, 98, 99, 12, 13, 46, 9, 10, 11, 151, 152, 153, 154, 43, 44, 29, 14, 15, 16, 17, 18, 92, 93, 94, 95, 100, 101, 102, 103, 23, 104, 65, 61, 66, 88, 89, 90, 49, 91, 63, 58, 105, 106, 107, 108, 73, 109, 110, 111, 112, 83, 81, 79, 80, 113, 114, 115, 116, 117, 118, 119, 120, 121, 122, 123, 74, 155, 156, 157, 158, 164, 165, 166, 167, 168, 169, 170, 171, 172, 173, 174, 175, 159, 160, 161, 162, 163] rfl (by decide +kernel)) (goodIn_sub (fun _ h => List.mem_cons_of_mem _ (List.mem_append_left _ (List.mem_append_left _ (List.mem_append_right _ h)))) (by decide +kernel))) (goodIn_sub (fun _ h => List.mem_cons_of_mem _ (List.mem_append_right _ h)) (by decide +kernel))) (goodIn_sub (fun _ h => List.mem_cons_of_mem _ (List.mem_append_left _ (List.mem_append_right _ h))) (by decide +kernel))
set_option maxRecDepth 20000 in
theorem gL_step_L_pays : GoodIn wsL_step (va_wsS RL 51 yL_pays wsL_pays) := goodIn_app (goodIn_of _ (by decide +kernel)) ggL_step_L_pays
theorem dL_step_0 : decode cL_step 0 = .ok (.aload_n 2, 1) := by decide +kernel
theorem dL_step_1 : decode cL_step 1 = .ok (.iconst 0, 1) := by decide +kernel
theorem dL_step_2 : decode cL_step 2 = .ok (.iaload, 1) := by decide +kernel
theorem dL_step_3 : decode cL_step 3 = .ok (.istore 8, 2) := by decide +kernel
theorem dL_step_5 : decode cL_step 5 = .ok (.iload 8, 2) := by decide +kernel
theorem dL_step_7 : decode cL_step 7 = .ok (.ifCond .ne 7, 3) := by decide +kernel
theorem dL_step_10 : decode cL_step 10 = .ok (.iconst 0, 1) := by decide +kernel
theorem dL_step_11 : decode cL_step 11 = .ok (.goto 8, 3) := by decide +kernel
theorem dL_step_14 : decode cL_step 14 = .ok (.iload 6, 2) := by decide +kernel
theorem dL_step_16 : decode cL_step 16 = .ok (.iload 8, 2) := by decide +kernel
theorem dL_step_18 : decode cL_step 18 = .ok (.irem, 1) := by decide +kernel
theorem dL_step_19 : decode cL_step 19 = .ok (.istore 9, 2) := by decide +kernel
theorem dL_step_21 : decode cL_step 21 = .ok (.iload 5, 2) := by decide +kernel
theorem dL_step_23 : decode cL_step 23 = .ok (.bipush 12, 2) := by decide +kernel
theorem dL_step_25 : decode cL_step 25 = .ok (.irem, 1) := by decide +kernel
theorem dL_step_26 : decode cL_step 26 = .ok (.tableswitch 792 0 9 #[54, 104, 165, 210, 210, 210, 293, 391, 571, 712], 54) := by decide +kernel
theorem dL_step_80 : decode cL_step 80 = .ok (.iload 6, 2) := by decide +kernel
theorem dL_step_82 : decode cL_step 82 = .ok (.bipush 6, 2) := by decide +kernel
theorem dL_step_84 : decode cL_step 84 = .ok (.irem, 1) := by decide +kernel
theorem dL_step_85 : decode cL_step 85 = .ok (.istore 10, 2) := by decide +kernel
theorem dL_step_87 : decode cL_step 87 = .ok (.aload_n 2, 1) := by decide +kernel
theorem dL_step_88 : decode cL_step 88 = .ok (.iconst 1, 1) := by decide +kernel
theorem dL_step_89 : decode cL_step 89 = .ok (.iload 10, 2) := by decide +kernel
theorem dL_step_91 : decode cL_step 91 = .ok (.iadd, 1) := by decide +kernel
theorem dL_step_92 : decode cL_step 92 = .ok (.iaload, 1) := by decide +kernel
theorem dL_step_93 : decode cL_step 93 = .ok (.istore 11, 2) := by decide +kernel
theorem dL_step_95 : decode cL_step 95 = .ok (.aload_n 2, 1) := by decide +kernel
theorem dL_step_96 : decode cL_step 96 = .ok (.iconst 1, 1) := by decide +kernel
theorem dL_step_97 : decode cL_step 97 = .ok (.iload 10, 2) := by decide +kernel
theorem dL_step_99 : decode cL_step 99 = .ok (.iadd, 1) := by decide +kernel
theorem dL_step_100 : decode cL_step 100 = .ok (.iload 7, 2) := by decide +kernel
theorem dL_step_102 : decode cL_step 102 = .ok (.sipush 1000, 3) := by decide +kernel
theorem dL_step_105 : decode cL_step 105 = .ok (.irem, 1) := by decide +kernel
theorem dL_step_106 : decode cL_step 106 = .ok (.iastore, 1) := by decide +kernel
theorem dL_step_107 : decode cL_step 107 = .ok (.aload_n 0, 1) := by decide +kernel
theorem dL_step_108 : decode cL_step 108 = .ok (.iload 10, 2) := by decide +kernel
theorem dL_step_110 : decode cL_step 110 = .ok (.iload 7, 2) := by decide +kernel
theorem dL_step_112 : decode cL_step 112 = .ok (.sipush 1000, 3) := by decide +kernel
theorem dL_step_115 : decode cL_step 115 = .ok (.irem, 1) := by decide +kernel
theorem dL_step_116 : decode cL_step 116 = .ok (.invokevirtual 10, 3) := by decide +kernel
theorem dL_step_119 : decode cL_step 119 = .ok (.iload 11, 2) := by decide +kernel
theorem dL_step_121 : decode cL_step 121 = .ok (.if_icmp .ne 7, 3) := by decide +kernel
theorem dL_step_124 : decode cL_step 124 = .ok (.iconst 1, 1) := by decide +kernel
theorem dL_step_125 : decode cL_step 125 = .ok (.goto 4, 3) := by decide +kernel
theorem dL_step_128 : decode cL_step 128 = .ok (.iconst 0, 1) := by decide +kernel
theorem dL_step_129 : decode cL_step 129 = .ok (.ireturn, 1) := by decide +kernel
theorem dL_step_130 : decode cL_step 130 = .ok (.aload_n 0, 1) := by decide +kernel
theorem dL_step_131 : decode cL_step 131 = .ok (.iload 6, 2) := by decide +kernel
theorem dL_step_133 : decode cL_step 133 = .ok (.sipush 240, 3) := by decide +kernel
theorem dL_step_136 : decode cL_step 136 = .ok (.irem, 1) := by decide +kernel
theorem dL_step_137 : decode cL_step 137 = .ok (.bipush 10, 2) := by decide +kernel
theorem dL_step_139 : decode cL_step 139 = .ok (.iload 7, 2) := by decide +kernel
theorem dL_step_141 : decode cL_step 141 = .ok (.sipush 990, 3) := by decide +kernel
theorem dL_step_144 : decode cL_step 144 = .ok (.irem, 1) := by decide +kernel
theorem dL_step_145 : decode cL_step 145 = .ok (.iadd, 1) := by decide +kernel
theorem dL_step_146 : decode cL_step 146 = .ok (.invokevirtual 16, 3) := by decide +kernel
theorem dL_step_149 : decode cL_step 149 = .ok (.bipush 10, 2) := by decide +kernel
theorem dL_step_151 : decode cL_step 151 = .ok (.if_icmp .lt 38, 3) := by decide +kernel
theorem dL_step_154 : decode cL_step 154 = .ok (.aload_n 0, 1) := by decide +kernel
theorem dL_step_155 : decode cL_step 155 = .ok (.iload 6, 2) := by decide +kernel
theorem dL_step_157 : decode cL_step 157 = .ok (.sipush 240, 3) := by decide +kernel
theorem dL_step_160 : decode cL_step 160 = .ok (.irem, 1) := by decide +kernel
theorem dL_step_161 : decode cL_step 161 = .ok (.bipush 10, 2) := by decide +kernel
theorem dL_step_163 : decode cL_step 163 = .ok (.iload 7, 2) := by decide +kernel
theorem dL_step_165 : decode cL_step 165 = .ok (.sipush 990, 3) := by decide +kernel
theorem dL_step_168 : decode cL_step 168 = .ok (.irem, 1) := by decide +kernel
theorem dL_step_169 : decode cL_step 169 = .ok (.iadd, 1) := by decide +kernel
theorem dL_step_170 : decode cL_step 170 = .ok (.invokevirtual 16, 3) := by decide +kernel
theorem dL_step_173 : decode cL_step 173 = .ok (.bipush 10, 2) := by decide +kernel
theorem dL_step_175 : decode cL_step 175 = .ok (.iload 7, 2) := by decide +kernel
theorem dL_step_177 : decode cL_step 177 = .ok (.sipush 990, 3) := by decide +kernel
theorem dL_step_180 : decode cL_step 180 = .ok (.irem, 1) := by decide +kernel
theorem dL_step_181 : decode cL_step 181 = .ok (.iadd, 1) := by decide +kernel
theorem dL_step_182 : decode cL_step 182 = .ok (.if_icmp .ne 7, 3) := by decide +kernel
theorem dL_step_185 : decode cL_step 185 = .ok (.iconst 1, 1) := by decide +kernel
theorem dL_step_186 : decode cL_step 186 = .ok (.goto 4, 3) := by decide +kernel
theorem dL_step_189 : decode cL_step 189 = .ok (.iconst 0, 1) := by decide +kernel
theorem dL_step_190 : decode cL_step 190 = .ok (.ireturn, 1) := by decide +kernel
theorem dL_step_191 : decode cL_step 191 = .ok (.aload_n 0, 1) := by decide +kernel
theorem dL_step_192 : decode cL_step 192 = .ok (.iload 6, 2) := by decide +kernel
theorem dL_step_194 : decode cL_step 194 = .ok (.bipush 20, 2) := by decide +kernel
theorem dL_step_196 : decode cL_step 196 = .ok (.irem, 1) := by decide +kernel
theorem dL_step_197 : decode cL_step 197 = .ok (.iload 7, 2) := by decide +kernel
theorem dL_step_199 : decode cL_step 199 = .ok (.ldc 19, 2) := by decide +kernel
theorem dL_step_201 : decode cL_step 201 = .ok (.irem, 1) := by decide +kernel
theorem dL_step_202 : decode cL_step 202 = .ok (.invokevirtual 20, 3) := by decide +kernel
theorem dL_step_205 : decode cL_step 205 = .ok (.ifCond .lt 29, 3) := by decide +kernel
theorem dL_step_208 : decode cL_step 208 = .ok (.aload_n 0, 1) := by decide +kernel
theorem dL_step_209 : decode cL_step 209 = .ok (.iload 6, 2) := by decide +kernel
theorem dL_step_211 : decode cL_step 211 = .ok (.bipush 20, 2) := by decide +kernel
theorem dL_step_213 : decode cL_step 213 = .ok (.irem, 1) := by decide +kernel
theorem dL_step_214 : decode cL_step 214 = .ok (.iload 7, 2) := by decide +kernel
theorem dL_step_216 : decode cL_step 216 = .ok (.ldc 19, 2) := by decide +kernel
theorem dL_step_218 : decode cL_step 218 = .ok (.irem, 1) := by decide +kernel
theorem dL_step_219 : decode cL_step 219 = .ok (.invokevirtual 20, 3) := by decide +kernel
theorem dL_step_222 : decode cL_step 222 = .ok (.iload 7, 2) := by decide +kernel
theorem dL_step_224 : decode cL_step 224 = .ok (.ldc 19, 2) := by decide +kernel
theorem dL_step_226 : decode cL_step 226 = .ok (.irem, 1) := by decide +kernel
theorem dL_step_227 : decode cL_step 227 = .ok (.if_icmp .ne 7, 3) := by decide +kernel
theorem dL_step_230 : decode cL_step 230 = .ok (.iconst 1, 1) := by decide +kernel
theorem dL_step_231 : decode cL_step 231 = .ok (.goto 4, 3) := by decide +kernel
theorem dL_step_234 : decode cL_step 234 = .ok (.iconst 0, 1) := by decide +kernel
theorem dL_step_235 : decode cL_step 235 = .ok (.ireturn, 1) := by decide +kernel
theorem dL_step_236 : decode cL_step 236 = .ok (.iload 8, 2) := by decide +kernel
theorem dL_step_238 : decode cL_step 238 = .ok (.bipush 12, 2) := by decide +kernel
theorem dL_step_240 : decode cL_step 240 = .ok (.if_icmp .eq 73, 3) := by decide +kernel
theorem dL_step_243 : decode cL_step 243 = .ok (.aload_n 0, 1) := by decide +kernel
theorem dL_step_244 : decode cL_step 244 = .ok (.aload_n 1, 1) := by decide +kernel
theorem dL_step_245 : decode cL_step 245 = .ok (.aload_n 2, 1) := by decide +kernel
theorem dL_step_246 : decode cL_step 246 = .ok (.aload 4, 2) := by decide +kernel
theorem dL_step_248 : decode cL_step 248 = .ok (.iload 6, 2) := by decide +kernel
theorem dL_step_250 : decode cL_step 250 = .ok (.bipush 6, 2) := by decide +kernel
theorem dL_step_252 : decode cL_step 252 = .ok (.irem, 1) := by decide +kernel
theorem dL_step_253 : decode cL_step 253 = .ok (.iload 6, 2) := by decide +kernel
theorem dL_step_255 : decode cL_step 255 = .ok (.bipush 6, 2) := by decide +kernel
theorem dL_step_257 : decode cL_step 257 = .ok (.idiv, 1) := by decide +kernel
theorem dL_step_258 : decode cL_step 258 = .ok (.sipush 7200, 3) := by decide +kernel
theorem dL_step_261 : decode cL_step 261 = .ok (.irem, 1) := by decide +kernel
theorem dL_step_262 : decode cL_step 262 = .ok (.iconst 1, 1) := by decide +kernel
theorem dL_step_263 : decode cL_step 263 = .ok (.iload 7, 2) := by decide +kernel
theorem dL_step_265 : decode cL_step 265 = .ok (.iload 7, 2) := by decide +kernel
theorem dL_step_267 : decode cL_step 267 = .ok (.iconst 3, 1) := by decide +kernel
theorem dL_step_268 : decode cL_step 268 = .ok (.irem, 1) := by decide +kernel
theorem dL_step_269 : decode cL_step 269 = .ok (.ifCond .ne 9, 3) := by decide +kernel
theorem dL_step_272 : decode cL_step 272 = .ok (.sipush 3000, 3) := by decide +kernel
theorem dL_step_275 : decode cL_step 275 = .ok (.goto 6, 3) := by decide +kernel
theorem dL_step_278 : decode cL_step 278 = .ok (.sipush 500, 3) := by decide +kernel
theorem dL_step_281 : decode cL_step 281 = .ok (.irem, 1) := by decide +kernel
theorem dL_step_282 : decode cL_step 282 = .ok (.iadd, 1) := by decide +kernel
theorem dL_step_283 : decode cL_step 283 = .ok (.iconst 1, 1) := by decide +kernel
theorem dL_step_284 : decode cL_step 284 = .ok (.iload 7, 2) := by decide +kernel
theorem dL_step_286 : decode cL_step 286 = .ok (.sipush 3000, 3) := by decide +kernel
theorem dL_step_289 : decode cL_step 289 = .ok (.idiv, 1) := by decide +kernel
theorem dL_step_290 : decode cL_step 290 = .ok (.iload 6, 2) := by decide +kernel
theorem dL_step_292 : decode cL_step 292 = .ok (.iconst 2, 1) := by decide +kernel
theorem dL_step_293 : decode cL_step 293 = .ok (.irem, 1) := by decide +kernel
theorem dL_step_294 : decode cL_step 294 = .ok (.ifCond .ne 8, 3) := by decide +kernel
theorem dL_step_297 : decode cL_step 297 = .ok (.ldc 23, 2) := by decide +kernel
theorem dL_step_299 : decode cL_step 299 = .ok (.goto 6, 3) := by decide +kernel
theorem dL_step_302 : decode cL_step 302 = .ok (.sipush 900, 3) := by decide +kernel
theorem dL_step_305 : decode cL_step 305 = .ok (.irem, 1) := by decide +kernel
theorem dL_step_306 : decode cL_step 306 = .ok (.iadd, 1) := by decide +kernel
theorem dL_step_307 : decode cL_step 307 = .ok (.invokestatic 24, 3) := by decide +kernel
theorem dL_step_310 : decode cL_step 310 = .ok (.ifCond .eq 7, 3) := by decide +kernel
theorem dL_step_313 : decode cL_step 313 = .ok (.iconst 1, 1) := by decide +kernel
theorem dL_step_314 : decode cL_step 314 = .ok (.goto 4, 3) := by decide +kernel
theorem dL_step_317 : decode cL_step 317 = .ok (.iconst 0, 1) := by decide +kernel
theorem dL_step_318 : decode cL_step 318 = .ok (.ireturn, 1) := by decide +kernel
theorem dL_step_319 : decode cL_step 319 = .ok (.aload_n 1, 1) := by decide +kernel
theorem dL_step_320 : decode cL_step 320 = .ok (.bipush 12, 2) := by decide +kernel
theorem dL_step_322 : decode cL_step 322 = .ok (.iload 9, 2) := by decide +kernel
theorem dL_step_324 : decode cL_step 324 = .ok (.iadd, 1) := by decide +kernel
theorem dL_step_325 : decode cL_step 325 = .ok (.iaload, 1) := by decide +kernel
theorem dL_step_326 : decode cL_step 326 = .ok (.iconst 1, 1) := by decide +kernel
theorem dL_step_327 : decode cL_step 327 = .ok (.iadd, 1) := by decide +kernel
theorem dL_step_328 : decode cL_step 328 = .ok (.iload 7, 2) := by decide +kernel
theorem dL_step_330 : decode cL_step 330 = .ok (.sipush 900, 3) := by decide +kernel
theorem dL_step_333 : decode cL_step 333 = .ok (.irem, 1) := by decide +kernel
theorem dL_step_334 : decode cL_step 334 = .ok (.iadd, 1) := by decide +kernel
theorem dL_step_335 : decode cL_step 335 = .ok (.istore 12, 2) := by decide +kernel
theorem dL_step_337 : decode cL_step 337 = .ok (.iload 8, 2) := by decide +kernel
theorem dL_step_339 : decode cL_step 339 = .ok (.ifCond .eq 15, 3) := by decide +kernel
theorem dL_step_342 : decode cL_step 342 = .ok (.iload 12, 2) := by decide +kernel
theorem dL_step_344 : decode cL_step 344 = .ok (.aload_n 1, 1) := by decide +kernel
theorem dL_step_345 : decode cL_step 345 = .ok (.bipush 24, 2) := by decide +kernel
theorem dL_step_347 : decode cL_step 347 = .ok (.iload 9, 2) := by decide +kernel
theorem dL_step_349 : decode cL_step 349 = .ok (.iadd, 1) := by decide +kernel
theorem dL_step_350 : decode cL_step 350 = .ok (.iaload, 1) := by decide +kernel
theorem dL_step_351 : decode cL_step 351 = .ok (.if_icmp .lt 18, 3) := by decide +kernel
theorem dL_step_354 : decode cL_step 354 = .ok (.aload_n 0, 1) := by decide +kernel
theorem dL_step_355 : decode cL_step 355 = .ok (.invokevirtual 30, 3) := by decide +kernel
theorem dL_step_358 : decode cL_step 358 = .ok (.iload 8, 2) := by decide +kernel
theorem dL_step_360 : decode cL_step 360 = .ok (.if_icmp .ne 7, 3) := by decide +kernel
theorem dL_step_363 : decode cL_step 363 = .ok (.iconst 1, 1) := by decide +kernel
theorem dL_step_364 : decode cL_step 364 = .ok (.goto 4, 3) := by decide +kernel
theorem dL_step_367 : decode cL_step 367 = .ok (.iconst 0, 1) := by decide +kernel
theorem dL_step_368 : decode cL_step 368 = .ok (.ireturn, 1) := by decide +kernel
theorem dL_step_369 : decode cL_step 369 = .ok (.aload_n 1, 1) := by decide +kernel
theorem dL_step_370 : decode cL_step 370 = .ok (.bipush 24, 2) := by decide +kernel
theorem dL_step_372 : decode cL_step 372 = .ok (.iload 9, 2) := by decide +kernel
theorem dL_step_374 : decode cL_step 374 = .ok (.iadd, 1) := by decide +kernel
theorem dL_step_375 : decode cL_step 375 = .ok (.iaload, 1) := by decide +kernel
theorem dL_step_376 : decode cL_step 376 = .ok (.istore 13, 2) := by decide +kernel
theorem dL_step_378 : decode cL_step 378 = .ok (.aload_n 1, 1) := by decide +kernel
theorem dL_step_379 : decode cL_step 379 = .ok (.bipush 24, 2) := by decide +kernel
theorem dL_step_381 : decode cL_step 381 = .ok (.iload 9, 2) := by decide +kernel
theorem dL_step_383 : decode cL_step 383 = .ok (.iadd, 1) := by decide +kernel
theorem dL_step_384 : decode cL_step 384 = .ok (.iload 12, 2) := by decide +kernel
theorem dL_step_386 : decode cL_step 386 = .ok (.iastore, 1) := by decide +kernel
theorem dL_step_387 : decode cL_step 387 = .ok (.aload_n 0, 1) := by decide +kernel
theorem dL_step_388 : decode cL_step 388 = .ok (.iload 9, 2) := by decide +kernel
theorem dL_step_390 : decode cL_step 390 = .ok (.iload 12, 2) := by decide +kernel
theorem dL_step_392 : decode cL_step 392 = .ok (.invokevirtual 34, 3) := by decide +kernel
theorem dL_step_395 : decode cL_step 395 = .ok (.iload 13, 2) := by decide +kernel
theorem dL_step_397 : decode cL_step 397 = .ok (.if_icmp .ne 18, 3) := by decide +kernel
theorem dL_step_400 : decode cL_step 400 = .ok (.aload_n 0, 1) := by decide +kernel
theorem dL_step_401 : decode cL_step 401 = .ok (.iload 9, 2) := by decide +kernel
theorem dL_step_403 : decode cL_step 403 = .ok (.iload 12, 2) := by decide +kernel
theorem dL_step_405 : decode cL_step 405 = .ok (.invokevirtual 37, 3) := by decide +kernel
theorem dL_step_408 : decode cL_step 408 = .ok (.ifCond .ne 7, 3) := by decide +kernel
theorem dL_step_411 : decode cL_step 411 = .ok (.iconst 1, 1) := by decide +kernel
theorem dL_step_412 : decode cL_step 412 = .ok (.goto 4, 3) := by decide +kernel
theorem dL_step_415 : decode cL_step 415 = .ok (.iconst 0, 1) := by decide +kernel
theorem dL_step_416 : decode cL_step 416 = .ok (.ireturn, 1) := by decide +kernel
theorem dL_step_417 : decode cL_step 417 = .ok (.aload_n 1, 1) := by decide +kernel
theorem dL_step_418 : decode cL_step 418 = .ok (.bipush 12, 2) := by decide +kernel
theorem dL_step_420 : decode cL_step 420 = .ok (.iload 9, 2) := by decide +kernel
theorem dL_step_422 : decode cL_step 422 = .ok (.iadd, 1) := by decide +kernel
theorem dL_step_423 : decode cL_step 423 = .ok (.iaload, 1) := by decide +kernel
theorem dL_step_424 : decode cL_step 424 = .ok (.iconst 1, 1) := by decide +kernel
theorem dL_step_425 : decode cL_step 425 = .ok (.iadd, 1) := by decide +kernel
theorem dL_step_426 : decode cL_step 426 = .ok (.iload 7, 2) := by decide +kernel
theorem dL_step_428 : decode cL_step 428 = .ok (.sipush 700, 3) := by decide +kernel
theorem dL_step_431 : decode cL_step 431 = .ok (.irem, 1) := by decide +kernel
theorem dL_step_432 : decode cL_step 432 = .ok (.iadd, 1) := by decide +kernel
theorem dL_step_433 : decode cL_step 433 = .ok (.istore 14, 2) := by decide +kernel
theorem dL_step_435 : decode cL_step 435 = .ok (.iload 8, 2) := by decide +kernel
theorem dL_step_437 : decode cL_step 437 = .ok (.ifCond .eq 28, 3) := by decide +kernel
theorem dL_step_440 : decode cL_step 440 = .ok (.iload 14, 2) := by decide +kernel
theorem dL_step_442 : decode cL_step 442 = .ok (.aload_n 1, 1) := by decide +kernel
theorem dL_step_443 : decode cL_step 443 = .ok (.bipush 24, 2) := by decide +kernel
theorem dL_step_445 : decode cL_step 445 = .ok (.iload 9, 2) := by decide +kernel
theorem dL_step_447 : decode cL_step 447 = .ok (.iadd, 1) := by decide +kernel
theorem dL_step_448 : decode cL_step 448 = .ok (.iaload, 1) := by decide +kernel
theorem dL_step_449 : decode cL_step 449 = .ok (.if_icmp .ge 16, 3) := by decide +kernel
theorem dL_step_452 : decode cL_step 452 = .ok (.aload 4, 2) := by decide +kernel
theorem dL_step_454 : decode cL_step 454 = .ok (.bipush 12, 2) := by decide +kernel
theorem dL_step_456 : decode cL_step 456 = .ok (.iload 9, 2) := by decide +kernel
theorem dL_step_458 : decode cL_step 458 = .ok (.iadd, 1) := by decide +kernel
theorem dL_step_459 : decode cL_step 459 = .ok (.iaload, 1) := by decide +kernel
theorem dL_step_460 : decode cL_step 460 = .ok (.bipush 6, 2) := by decide +kernel
theorem dL_step_462 : decode cL_step 462 = .ok (.if_icmp .ne 18, 3) := by decide +kernel
theorem dL_step_465 : decode cL_step 465 = .ok (.aload_n 0, 1) := by decide +kernel
theorem dL_step_466 : decode cL_step 466 = .ok (.invokevirtual 30, 3) := by decide +kernel
theorem dL_step_469 : decode cL_step 469 = .ok (.iload 8, 2) := by decide +kernel
theorem dL_step_471 : decode cL_step 471 = .ok (.if_icmp .ne 7, 3) := by decide +kernel
theorem dL_step_474 : decode cL_step 474 = .ok (.iconst 1, 1) := by decide +kernel
theorem dL_step_475 : decode cL_step 475 = .ok (.goto 4, 3) := by decide +kernel
theorem dL_step_478 : decode cL_step 478 = .ok (.iconst 0, 1) := by decide +kernel
theorem dL_step_479 : decode cL_step 479 = .ok (.ireturn, 1) := by decide +kernel
theorem dL_step_480 : decode cL_step 480 = .ok (.aload_n 0, 1) := by decide +kernel
theorem dL_step_481 : decode cL_step 481 = .ok (.iload 9, 2) := by decide +kernel
theorem dL_step_483 : decode cL_step 483 = .ok (.iload 14, 2) := by decide +kernel
theorem dL_step_485 : decode cL_step 485 = .ok (.iconst 1, 1) := by decide +kernel
theorem dL_step_486 : decode cL_step 486 = .ok (.iload 7, 2) := by decide +kernel
theorem dL_step_488 : decode cL_step 488 = .ok (.sipush 700, 3) := by decide +kernel
theorem dL_step_491 : decode cL_step 491 = .ok (.idiv, 1) := by decide +kernel
theorem dL_step_492 : decode cL_step 492 = .ok (.ldc 23, 2) := by decide +kernel
theorem dL_step_494 : decode cL_step 494 = .ok (.irem, 1) := by decide +kernel
theorem dL_step_495 : decode cL_step 495 = .ok (.iadd, 1) := by decide +kernel
theorem dL_step_496 : decode cL_step 496 = .ok (.invokevirtual 40, 3) := by decide +kernel
theorem dL_step_499 : decode cL_step 499 = .ok (.istore 15, 2) := by decide +kernel
theorem dL_step_501 : decode cL_step 501 = .ok (.iload 15, 2) := by decide +kernel
theorem dL_step_503 : decode cL_step 503 = .ok (.aload 4, 2) := by decide +kernel
theorem dL_step_505 : decode cL_step 505 = .ok (.bipush 12, 2) := by decide +kernel
theorem dL_step_507 : decode cL_step 507 = .ok (.iload 9, 2) := by decide +kernel
theorem dL_step_509 : decode cL_step 509 = .ok (.iadd, 1) := by decide +kernel
theorem dL_step_510 : decode cL_step 510 = .ok (.iaload, 1) := by decide +kernel
theorem dL_step_511 : decode cL_step 511 = .ok (.if_icmp .eq 18, 3) := by decide +kernel
theorem dL_step_514 : decode cL_step 514 = .ok (.iload 15, 2) := by decide +kernel
theorem dL_step_516 : decode cL_step 516 = .ok (.aload 4, 2) := by decide +kernel
theorem dL_step_518 : decode cL_step 518 = .ok (.bipush 12, 2) := by decide +kernel
theorem dL_step_520 : decode cL_step 520 = .ok (.iload 9, 2) := by decide +kernel
theorem dL_step_522 : decode cL_step 522 = .ok (.iadd, 1) := by decide +kernel
theorem dL_step_523 : decode cL_step 523 = .ok (.iaload, 1) := by decide +kernel
theorem dL_step_524 : decode cL_step 524 = .ok (.iconst 1, 1) := by decide +kernel
theorem dL_step_525 : decode cL_step 525 = .ok (.iadd, 1) := by decide +kernel
theorem dL_step_526 : decode cL_step 526 = .ok (.if_icmp .ne 7, 3) := by decide +kernel
theorem dL_step_529 : decode cL_step 529 = .ok (.iconst 1, 1) := by decide +kernel
theorem dL_step_530 : decode cL_step 530 = .ok (.goto 4, 3) := by decide +kernel
theorem dL_step_533 : decode cL_step 533 = .ok (.iconst 0, 1) := by decide +kernel
theorem dL_step_534 : decode cL_step 534 = .ok (.istore 16, 2) := by decide +kernel
theorem dL_step_536 : decode cL_step 536 = .ok (.aload 4, 2) := by decide +kernel
theorem dL_step_538 : decode cL_step 538 = .ok (.bipush 12, 2) := by decide +kernel
theorem dL_step_540 : decode cL_step 540 = .ok (.iload 9, 2) := by decide +kernel
theorem dL_step_542 : decode cL_step 542 = .ok (.iadd, 1) := by decide +kernel
theorem dL_step_543 : decode cL_step 543 = .ok (.iload 15, 2) := by decide +kernel
theorem dL_step_545 : decode cL_step 545 = .ok (.iastore, 1) := by decide +kernel
theorem dL_step_546 : decode cL_step 546 = .ok (.iload 16, 2) := by decide +kernel
theorem dL_step_548 : decode cL_step 548 = .ok (.ifCond .eq 47, 3) := by decide +kernel
theorem dL_step_551 : decode cL_step 551 = .ok (.iload 14, 2) := by decide +kernel
theorem dL_step_553 : decode cL_step 553 = .ok (.aload_n 1, 1) := by decide +kernel
theorem dL_step_554 : decode cL_step 554 = .ok (.bipush 12, 2) := by decide +kernel
theorem dL_step_556 : decode cL_step 556 = .ok (.iload 9, 2) := by decide +kernel
theorem dL_step_558 : decode cL_step 558 = .ok (.iadd, 1) := by decide +kernel
theorem dL_step_559 : decode cL_step 559 = .ok (.iaload, 1) := by decide +kernel
theorem dL_step_560 : decode cL_step 560 = .ok (.aload 4, 2) := by decide +kernel
theorem dL_step_562 : decode cL_step 562 = .ok (.iload 9, 2) := by decide +kernel
theorem dL_step_564 : decode cL_step 564 = .ok (.iaload, 1) := by decide +kernel
theorem dL_step_565 : decode cL_step 565 = .ok (.iadd, 1) := by decide +kernel
theorem dL_step_566 : decode cL_step 566 = .ok (.if_icmp .lt 25, 3) := by decide +kernel
theorem dL_step_569 : decode cL_step 569 = .ok (.aload_n 0, 1) := by decide +kernel
theorem dL_step_570 : decode cL_step 570 = .ok (.iload 9, 2) := by decide +kernel
theorem dL_step_572 : decode cL_step 572 = .ok (.iload 14, 2) := by decide +kernel
theorem dL_step_574 : decode cL_step 574 = .ok (.invokevirtual 37, 3) := by decide +kernel
theorem dL_step_577 : decode cL_step 577 = .ok (.iconst 1, 1) := by decide +kernel
theorem dL_step_578 : decode cL_step 578 = .ok (.iload 7, 2) := by decide +kernel
theorem dL_step_580 : decode cL_step 580 = .ok (.sipush 700, 3) := by decide +kernel
theorem dL_step_583 : decode cL_step 583 = .ok (.idiv, 1) := by decide +kernel
theorem dL_step_584 : decode cL_step 584 = .ok (.ldc 23, 2) := by decide +kernel
theorem dL_step_586 : decode cL_step 586 = .ok (.irem, 1) := by decide +kernel
theorem dL_step_587 : decode cL_step 587 = .ok (.iadd, 1) := by decide +kernel
theorem dL_step_588 : decode cL_step 588 = .ok (.if_icmp .lt 7, 3) := by decide +kernel
theorem dL_step_591 : decode cL_step 591 = .ok (.iconst 1, 1) := by decide +kernel
theorem dL_step_592 : decode cL_step 592 = .ok (.goto 4, 3) := by decide +kernel
theorem dL_step_595 : decode cL_step 595 = .ok (.iconst 0, 1) := by decide +kernel
theorem dL_step_596 : decode cL_step 596 = .ok (.ireturn, 1) := by decide +kernel
theorem dL_step_597 : decode cL_step 597 = .ok (.iload 8, 2) := by decide +kernel
theorem dL_step_599 : decode cL_step 599 = .ok (.ifCond .le 93, 3) := by decide +kernel
theorem dL_step_602 : decode cL_step 602 = .ok (.aload 4, 2) := by decide +kernel
theorem dL_step_604 : decode cL_step 604 = .ok (.iload 9, 2) := by decide +kernel
theorem dL_step_606 : decode cL_step 606 = .ok (.iload 7, 2) := by decide +kernel
theorem dL_step_608 : decode cL_step 608 = .ok (.iload 7, 2) := by decide +kernel
theorem dL_step_610 : decode cL_step 610 = .ok (.iconst 2, 1) := by decide +kernel
theorem dL_step_611 : decode cL_step 611 = .ok (.irem, 1) := by decide +kernel
theorem dL_step_612 : decode cL_step 612 = .ok (.ifCond .ne 9, 3) := by decide +kernel
theorem dL_step_615 : decode cL_step 615 = .ok (.sipush 721, 3) := by decide +kernel
theorem dL_step_618 : decode cL_step 618 = .ok (.goto 5, 3) := by decide +kernel
theorem dL_step_621 : decode cL_step 621 = .ok (.bipush 40, 2) := by decide +kernel
theorem dL_step_623 : decode cL_step 623 = .ok (.irem, 1) := by decide +kernel
theorem dL_step_624 : decode cL_step 624 = .ok (.iastore, 1) := by decide +kernel
theorem dL_step_625 : decode cL_step 625 = .ok (.aload 4, 2) := by decide +kernel
theorem dL_step_627 : decode cL_step 627 = .ok (.bipush 24, 2) := by decide +kernel
theorem dL_step_629 : decode cL_step 629 = .ok (.iload 9, 2) := by decide +kernel
theorem dL_step_631 : decode cL_step 631 = .ok (.iadd, 1) := by decide +kernel
theorem dL_step_632 : decode cL_step 632 = .ok (.iload 7, 2) := by decide +kernel
theorem dL_step_634 : decode cL_step 634 = .ok (.sipush 721, 3) := by decide +kernel
theorem dL_step_637 : decode cL_step 637 = .ok (.idiv, 1) := by decide +kernel
theorem dL_step_638 : decode cL_step 638 = .ok (.iconst 4, 1) := by decide +kernel
theorem dL_step_639 : decode cL_step 639 = .ok (.irem, 1) := by decide +kernel
theorem dL_step_640 : decode cL_step 640 = .ok (.ifCond .ne 7, 3) := by decide +kernel
theorem dL_step_643 : decode cL_step 643 = .ok (.iconst 0, 1) := by decide +kernel
theorem dL_step_644 : decode cL_step 644 = .ok (.goto 28, 3) := by decide +kernel
theorem dL_step_647 : decode cL_step 647 = .ok (.bipush 30, 2) := by decide +kernel
theorem dL_step_649 : decode cL_step 649 = .ok (.iload 7, 2) := by decide +kernel
theorem dL_step_651 : decode cL_step 651 = .ok (.sipush 2884, 3) := by decide +kernel
theorem dL_step_654 : decode cL_step 654 = .ok (.idiv, 1) := by decide +kernel
theorem dL_step_655 : decode cL_step 655 = .ok (.iload 6, 2) := by decide +kernel
theorem dL_step_657 : decode cL_step 657 = .ok (.iconst 2, 1) := by decide +kernel
theorem dL_step_658 : decode cL_step 658 = .ok (.irem, 1) := by decide +kernel
theorem dL_step_659 : decode cL_step 659 = .ok (.ifCond .ne 9, 3) := by decide +kernel
theorem dL_step_662 : decode cL_step 662 = .ok (.sipush 1771, 3) := by decide +kernel
theorem dL_step_665 : decode cL_step 665 = .ok (.goto 5, 3) := by decide +kernel
theorem dL_step_668 : decode cL_step 668 = .ok (.bipush 100, 2) := by decide +kernel
theorem dL_step_670 : decode cL_step 670 = .ok (.irem, 1) := by decide +kernel
theorem dL_step_671 : decode cL_step 671 = .ok (.iadd, 1) := by decide +kernel
theorem dL_step_672 : decode cL_step 672 = .ok (.iastore, 1) := by decide +kernel
theorem dL_step_673 : decode cL_step 673 = .ok (.aload_n 0, 1) := by decide +kernel
theorem dL_step_674 : decode cL_step 674 = .ok (.iload 9, 2) := by decide +kernel
theorem dL_step_676 : decode cL_step 676 = .ok (.aload 4, 2) := by decide +kernel
theorem dL_step_678 : decode cL_step 678 = .ok (.iload 9, 2) := by decide +kernel
theorem dL_step_680 : decode cL_step 680 = .ok (.iaload, 1) := by decide +kernel
theorem dL_step_681 : decode cL_step 681 = .ok (.aload 4, 2) := by decide +kernel
theorem dL_step_683 : decode cL_step 683 = .ok (.bipush 24, 2) := by decide +kernel
theorem dL_step_685 : decode cL_step 685 = .ok (.iload 9, 2) := by decide +kernel
theorem dL_step_687 : decode cL_step 687 = .ok (.iadd, 1) := by decide +kernel
theorem dL_step_688 : decode cL_step 688 = .ok (.iaload, 1) := by decide +kernel
theorem dL_step_689 : decode cL_step 689 = .ok (.invokevirtual 44, 3) := by decide +kernel
theorem dL_step_692 : decode cL_step 692 = .ok (.iload 8, 2) := by decide +kernel
theorem dL_step_694 : decode cL_step 694 = .ok (.ifCond .eq 38, 3) := by decide +kernel
theorem dL_step_697 : decode cL_step 697 = .ok (.aload_n 0, 1) := by decide +kernel
theorem dL_step_698 : decode cL_step 698 = .ok (.iload 9, 2) := by decide +kernel
theorem dL_step_700 : decode cL_step 700 = .ok (.aload_n 1, 1) := by decide +kernel
theorem dL_step_701 : decode cL_step 701 = .ok (.bipush 12, 2) := by decide +kernel
theorem dL_step_703 : decode cL_step 703 = .ok (.iload 9, 2) := by decide +kernel
theorem dL_step_705 : decode cL_step 705 = .ok (.iadd, 1) := by decide +kernel
theorem dL_step_706 : decode cL_step 706 = .ok (.iaload, 1) := by decide +kernel
theorem dL_step_707 : decode cL_step 707 = .ok (.invokevirtual 37, 3) := by decide +kernel
theorem dL_step_710 : decode cL_step 710 = .ok (.aload 4, 2) := by decide +kernel
theorem dL_step_712 : decode cL_step 712 = .ok (.iload 9, 2) := by decide +kernel
theorem dL_step_714 : decode cL_step 714 = .ok (.iaload, 1) := by decide +kernel
theorem dL_step_715 : decode cL_step 715 = .ok (.ifCond .le 7, 3) := by decide +kernel
theorem dL_step_718 : decode cL_step 718 = .ok (.iconst 0, 1) := by decide +kernel
theorem dL_step_719 : decode cL_step 719 = .ok (.goto 10, 3) := by decide +kernel
theorem dL_step_722 : decode cL_step 722 = .ok (.aload_n 1, 1) := by decide +kernel
theorem dL_step_723 : decode cL_step 723 = .ok (.bipush 36, 2) := by decide +kernel
theorem dL_step_725 : decode cL_step 725 = .ok (.iload 9, 2) := by decide +kernel
theorem dL_step_727 : decode cL_step 727 = .ok (.iadd, 1) := by decide +kernel
theorem dL_step_728 : decode cL_step 728 = .ok (.iaload, 1) := by decide +kernel
theorem dL_step_729 : decode cL_step 729 = .ok (.if_icmp .ne 7, 3) := by decide +kernel
theorem dL_step_732 : decode cL_step 732 = .ok (.iconst 1, 1) := by decide +kernel
theorem dL_step_733 : decode cL_step 733 = .ok (.goto 4, 3) := by decide +kernel
theorem dL_step_736 : decode cL_step 736 = .ok (.iconst 0, 1) := by decide +kernel
theorem dL_step_737 : decode cL_step 737 = .ok (.ireturn, 1) := by decide +kernel
theorem dL_step_738 : decode cL_step 738 = .ok (.iload 8, 2) := by decide +kernel
theorem dL_step_740 : decode cL_step 740 = .ok (.ifCond .le 63, 3) := by decide +kernel
theorem dL_step_743 : decode cL_step 743 = .ok (.aload_n 1, 1) := by decide +kernel
theorem dL_step_744 : decode cL_step 744 = .ok (.bipush 48, 2) := by decide +kernel
theorem dL_step_746 : decode cL_step 746 = .ok (.iload 9, 2) := by decide +kernel
theorem dL_step_748 : decode cL_step 748 = .ok (.iadd, 1) := by decide +kernel
theorem dL_step_749 : decode cL_step 749 = .ok (.iload 7, 2) := by decide +kernel
theorem dL_step_751 : decode cL_step 751 = .ok (.iconst 4, 1) := by decide +kernel
theorem dL_step_752 : decode cL_step 752 = .ok (.irem, 1) := by decide +kernel
theorem dL_step_753 : decode cL_step 753 = .ok (.ifCond .ne 7, 3) := by decide +kernel
theorem dL_step_756 : decode cL_step 756 = .ok (.iconst (-1), 1) := by decide +kernel
theorem dL_step_757 : decode cL_step 757 = .ok (.goto 23, 3) := by decide +kernel
theorem dL_step_760 : decode cL_step 760 = .ok (.iload 7, 2) := by decide +kernel
theorem dL_step_762 : decode cL_step 762 = .ok (.iconst 4, 1) := by decide +kernel
theorem dL_step_763 : decode cL_step 763 = .ok (.idiv, 1) := by decide +kernel
theorem dL_step_764 : decode cL_step 764 = .ok (.iload 7, 2) := by decide +kernel
theorem dL_step_766 : decode cL_step 766 = .ok (.iconst 3, 1) := by decide +kernel
theorem dL_step_767 : decode cL_step 767 = .ok (.irem, 1) := by decide +kernel
theorem dL_step_768 : decode cL_step 768 = .ok (.ifCond .ne 8, 3) := by decide +kernel
theorem dL_step_771 : decode cL_step 771 = .ok (.ldc 19, 2) := by decide +kernel
theorem dL_step_773 : decode cL_step 773 = .ok (.goto 6, 3) := by decide +kernel
theorem dL_step_776 : decode cL_step 776 = .ok (.sipush 30000, 3) := by decide +kernel
theorem dL_step_779 : decode cL_step 779 = .ok (.irem, 1) := by decide +kernel
theorem dL_step_780 : decode cL_step 780 = .ok (.iastore, 1) := by decide +kernel
theorem dL_step_781 : decode cL_step 781 = .ok (.aload_n 0, 1) := by decide +kernel
theorem dL_step_782 : decode cL_step 782 = .ok (.iload 9, 2) := by decide +kernel
theorem dL_step_784 : decode cL_step 784 = .ok (.aload_n 1, 1) := by decide +kernel
theorem dL_step_785 : decode cL_step 785 = .ok (.bipush 48, 2) := by decide +kernel
theorem dL_step_787 : decode cL_step 787 = .ok (.iload 9, 2) := by decide +kernel
theorem dL_step_789 : decode cL_step 789 = .ok (.iadd, 1) := by decide +kernel
theorem dL_step_790 : decode cL_step 790 = .ok (.iaload, 1) := by decide +kernel
theorem dL_step_791 : decode cL_step 791 = .ok (.iload 6, 2) := by decide +kernel
theorem dL_step_793 : decode cL_step 793 = .ok (.bipush 12, 2) := by decide +kernel
theorem dL_step_795 : decode cL_step 795 = .ok (.idiv, 1) := by decide +kernel
theorem dL_step_796 : decode cL_step 796 = .ok (.sipush 10000, 3) := by decide +kernel
theorem dL_step_799 : decode cL_step 799 = .ok (.irem, 1) := by decide +kernel
theorem dL_step_800 : decode cL_step 800 = .ok (.invokevirtual 48, 3) := by decide +kernel
theorem dL_step_803 : decode cL_step 803 = .ok (.aload_n 0, 1) := by decide +kernel
theorem dL_step_804 : decode cL_step 804 = .ok (.invokevirtual 30, 3) := by decide +kernel
theorem dL_step_807 : decode cL_step 807 = .ok (.iload 8, 2) := by decide +kernel
theorem dL_step_809 : decode cL_step 809 = .ok (.if_icmp .ne 7, 3) := by decide +kernel
theorem dL_step_812 : decode cL_step 812 = .ok (.iconst 1, 1) := by decide +kernel
theorem dL_step_813 : decode cL_step 813 = .ok (.goto 4, 3) := by decide +kernel
theorem dL_step_816 : decode cL_step 816 = .ok (.iconst 0, 1) := by decide +kernel
theorem dL_step_817 : decode cL_step 817 = .ok (.ireturn, 1) := by decide +kernel
theorem dL_step_818 : decode cL_step 818 = .ok (.iload 8, 2) := by decide +kernel
theorem dL_step_820 : decode cL_step 820 = .ok (.ifCond .eq 21, 3) := by decide +kernel
theorem dL_step_823 : decode cL_step 823 = .ok (.aload_n 0, 1) := by decide +kernel
theorem dL_step_824 : decode cL_step 824 = .ok (.aload_n 1, 1) := by decide +kernel
theorem dL_step_825 : decode cL_step 825 = .ok (.aload_n 3, 1) := by decide +kernel
theorem dL_step_826 : decode cL_step 826 = .ok (.iload 9, 2) := by decide +kernel
theorem dL_step_828 : decode cL_step 828 = .ok (.iload 6, 2) := by decide +kernel
theorem dL_step_830 : decode cL_step 830 = .ok (.bipush 12, 2) := by decide +kernel
theorem dL_step_832 : decode cL_step 832 = .ok (.idiv, 1) := by decide +kernel
theorem dL_step_833 : decode cL_step 833 = .ok (.iload 7, 2) := by decide +kernel
theorem dL_step_835 : decode cL_step 835 = .ok (.invokestatic 51, 3) := by decide +kernel
theorem dL_step_838 : decode cL_step 838 = .ok (.ifCond .eq 7, 3) := by decide +kernel
theorem dL_step_841 : decode cL_step 841 = .ok (.iconst 1, 1) := by decide +kernel
theorem dL_step_842 : decode cL_step 842 = .ok (.goto 4, 3) := by decide +kernel
theorem dL_step_845 : decode cL_step 845 = .ok (.iconst 0, 1) := by decide +kernel
theorem dL_step_846 : decode cL_step 846 = .ok (.ireturn, 1) := by decide +kernel
set_option maxRecDepth 20000 in
theorem ggL_lets_X1_leases : GoodIn wsL_lets wsX1_leases := goodIn_r _ [5, 6, 108, 109, 110, 111, 112] (by decide +kernel) (by decide +kernel)
set_option maxRecDepth 20000 in
theorem gL_lets_X1_leases : GoodIn wsL_lets (wsV RL 30 RX1 yX1_leases wsX1_leases) := goodIn_app (goodIn_of _ (by decide +kernel)) ggL_lets_X1_leases
set_option maxRecDepth 20000 in
theorem ggL_lets_X1_let : GoodIn wsL_lets wsX1_let := goodIn_ca (goodIn_ca (goodIn_ca (goodIn_r _ [10, 11, 12, 13, 14, 6, 15, 16, 17, 18, 19, 20, 4, 21, 22, 23, 24, 25, 26, 27, 28, 29, 30, 31, 32, 33, 34, 35, 36, 37, 38, 39, 40, 41, 42, 43, 44, 45, 46, 47, 48, 49, 50, 51, 52, 53, 54, 55, 56, 57, 58, 59, 60, 61, 62, 108, 109, 110, 111, 112, 113, 114, 115, 116, 117, 118, 119, 120, 121, 122, 123, 124] (by decide +kernel) (by decide +kernel)) (goodIn_sub (fun _ h => List.mem_cons_of_mem _ (List.mem_append_left _ (List.mem_append_left _ (List.mem_append_right _ h)))) (by decide +kernel))) (goodIn_sub (fun _ h => List.mem_cons_of_mem _ (List.mem_append_left _ (List.mem_append_right _ h))) (by decide +kernel))) (goodIn_sub (fun _ h => List.mem_cons_of_mem _ (List.mem_append_right _ h)) (by decide +kernel))
set_option maxRecDepth 20000 in
theorem gL_lets_X1_let : GoodIn wsL_lets (wsV RL 55 RX1 yX1_let wsX1_let) := goodIn_app (goodIn_of _ (by decide +kernel)) ggL_lets_X1_let
set_option maxRecDepth 20000 in
theorem ggL_lets_X1_leaseOn : GoodIn wsL_lets wsX1_leaseOn := goodIn_ca (goodIn_r _ [66, 13, 15, 19, 20, 4, 21, 22, 23, 67, 68, 69, 18, 70, 42, 37, 108, 109, 110, 111, 112, 113, 114, 115, 116, 117, 118, 119, 120, 121, 122, 123, 124] (by decide +kernel) (by decide +kernel)) (goodIn_sub (fun _ h => List.mem_cons_of_mem _ (List.mem_append_left _ (List.mem_append_right _ h))) (by decide +kernel))
set_option maxRecDepth 20000 in
theorem gL_lets_X1_leaseOn : GoodIn wsL_lets (wsV RL 59 RX1 yX1_leaseOn wsX1_leaseOn) := goodIn_app (goodIn_of _ (by decide +kernel)) ggL_lets_X1_leaseOn
set_option maxRecDepth 20000 in
theorem ggL_lets_X1_rentOn : GoodIn wsL_lets wsX1_rentOn := goodIn_ca (goodIn_r _ [74, 75, 76, 77, 4, 78, 22, 23, 15, 19, 20, 21, 79, 80, 81, 82, 83, 84, 44, 40, 45, 67, 68, 69, 18, 70, 42, 37, 85, 86, 87, 88, 52, 89, 90, 91, 92, 62, 60, 58, 59, 93, 94, 95, 96, 97, 98, 99, 100, 101, 102, 103, 53, 108, 109, 110, 111, 112, 113, 114, 115, 116, 117, 118, 119, 120, 121, 122, 123, 124] (by decide +kernel) (by decide +kernel)) (goodIn_sub (fun _ h => List.mem_cons_of_mem _ (List.mem_append_left _ (List.mem_append_right _ h))) (by decide +kernel))
set_option maxRecDepth 20000 in
theorem gL_lets_X1_rentOn : GoodIn wsL_lets (wsV RL 37 RX1 yX1_rentOn wsX1_rentOn) := goodIn_app (goodIn_of _ (by decide +kernel)) ggL_lets_X1_rentOn
set_option maxRecDepth 20000 in
theorem ggL_lets_X1_held : GoodIn wsL_lets wsX1_held := goodIn_ca (goodIn_r _ [107, 75, 76, 77, 4, 78, 22, 23, 15, 19, 20, 21, 113, 114, 115, 116, 117, 118, 119, 120, 121, 122, 123, 124, 108, 109, 110, 111, 112] (by decide +kernel) (by decide +kernel)) (goodIn_sub (fun _ h => List.mem_cons_of_mem _ (List.mem_append_left _ (List.mem_append_right _ h))) (by decide +kernel))
set_option maxRecDepth 20000 in
theorem gL_lets_X1_held : GoodIn wsL_lets (wsV RL 62 RX1 yX1_held wsX1_held) := goodIn_app (goodIn_of _ (by decide +kernel)) ggL_lets_X1_held
theorem dL_lets_0 : decode cL_lets 0 = .ok (.iload 5, 2) := by decide +kernel
theorem dL_lets_2 : decode cL_lets 2 = .ok (.iload 6, 2) := by decide +kernel
theorem dL_lets_4 : decode cL_lets 4 = .ok (.iadd, 1) := by decide +kernel
theorem dL_lets_5 : decode cL_lets 5 = .ok (.sipush 7200, 3) := by decide +kernel
theorem dL_lets_8 : decode cL_lets 8 = .ok (.if_icmp .le 9, 3) := by decide +kernel
theorem dL_lets_11 : decode cL_lets 11 = .ok (.sipush 7200, 3) := by decide +kernel
theorem dL_lets_14 : decode cL_lets 14 = .ok (.goto 8, 3) := by decide +kernel
theorem dL_lets_17 : decode cL_lets 17 = .ok (.iload 5, 2) := by decide +kernel
theorem dL_lets_19 : decode cL_lets 19 = .ok (.iload 6, 2) := by decide +kernel
theorem dL_lets_21 : decode cL_lets 21 = .ok (.iadd, 1) := by decide +kernel
theorem dL_lets_22 : decode cL_lets 22 = .ok (.istore 8, 2) := by decide +kernel
theorem dL_lets_24 : decode cL_lets 24 = .ok (.iconst 0, 1) := by decide +kernel
theorem dL_lets_25 : decode cL_lets 25 = .ok (.istore 9, 2) := by decide +kernel
theorem dL_lets_27 : decode cL_lets 27 = .ok (.iload 9, 2) := by decide +kernel
theorem dL_lets_29 : decode cL_lets 29 = .ok (.aload_n 2, 1) := by decide +kernel
theorem dL_lets_30 : decode cL_lets 30 = .ok (.iconst 0, 1) := by decide +kernel
theorem dL_lets_31 : decode cL_lets 31 = .ok (.iaload, 1) := by decide +kernel
theorem dL_lets_32 : decode cL_lets 32 = .ok (.if_icmp .ge 58, 3) := by decide +kernel
theorem dL_lets_35 : decode cL_lets 35 = .ok (.aload_n 1, 1) := by decide +kernel
theorem dL_lets_36 : decode cL_lets 36 = .ok (.iload 9, 2) := by decide +kernel
theorem dL_lets_38 : decode cL_lets 38 = .ok (.iaload, 1) := by decide +kernel
theorem dL_lets_39 : decode cL_lets 39 = .ok (.iload 4, 2) := by decide +kernel
theorem dL_lets_41 : decode cL_lets 41 = .ok (.if_icmp .ne 43, 3) := by decide +kernel
theorem dL_lets_44 : decode cL_lets 44 = .ok (.aload_n 1, 1) := by decide +kernel
theorem dL_lets_45 : decode cL_lets 45 = .ok (.bipush 12, 2) := by decide +kernel
theorem dL_lets_47 : decode cL_lets 47 = .ok (.iload 9, 2) := by decide +kernel
theorem dL_lets_49 : decode cL_lets 49 = .ok (.iadd, 1) := by decide +kernel
theorem dL_lets_50 : decode cL_lets 50 = .ok (.iaload, 1) := by decide +kernel
theorem dL_lets_51 : decode cL_lets 51 = .ok (.iload 8, 2) := by decide +kernel
theorem dL_lets_53 : decode cL_lets 53 = .ok (.if_icmp .ge 31, 3) := by decide +kernel
theorem dL_lets_56 : decode cL_lets 56 = .ok (.iload 5, 2) := by decide +kernel
theorem dL_lets_58 : decode cL_lets 58 = .ok (.aload_n 1, 1) := by decide +kernel
theorem dL_lets_59 : decode cL_lets 59 = .ok (.bipush 24, 2) := by decide +kernel
theorem dL_lets_61 : decode cL_lets 61 = .ok (.iload 9, 2) := by decide +kernel
theorem dL_lets_63 : decode cL_lets 63 = .ok (.iadd, 1) := by decide +kernel
theorem dL_lets_64 : decode cL_lets 64 = .ok (.iaload, 1) := by decide +kernel
theorem dL_lets_65 : decode cL_lets 65 = .ok (.if_icmp .ge 19, 3) := by decide +kernel
theorem dL_lets_68 : decode cL_lets 68 = .ok (.aload_n 0, 1) := by decide +kernel
theorem dL_lets_69 : decode cL_lets 69 = .ok (.invokevirtual 30, 3) := by decide +kernel
theorem dL_lets_72 : decode cL_lets 72 = .ok (.aload_n 2, 1) := by decide +kernel
theorem dL_lets_73 : decode cL_lets 73 = .ok (.iconst 0, 1) := by decide +kernel
theorem dL_lets_74 : decode cL_lets 74 = .ok (.iaload, 1) := by decide +kernel
theorem dL_lets_75 : decode cL_lets 75 = .ok (.if_icmp .ne 7, 3) := by decide +kernel
theorem dL_lets_78 : decode cL_lets 78 = .ok (.iconst 1, 1) := by decide +kernel
theorem dL_lets_79 : decode cL_lets 79 = .ok (.goto 4, 3) := by decide +kernel
theorem dL_lets_82 : decode cL_lets 82 = .ok (.iconst 0, 1) := by decide +kernel
theorem dL_lets_83 : decode cL_lets 83 = .ok (.ireturn, 1) := by decide +kernel
theorem dL_lets_84 : decode cL_lets 84 = .ok (.iinc 9 1, 3) := by decide +kernel
theorem dL_lets_87 : decode cL_lets 87 = .ok (.goto (-60), 3) := by decide +kernel
theorem dL_lets_90 : decode cL_lets 90 = .ok (.aload_n 2, 1) := by decide +kernel
theorem dL_lets_91 : decode cL_lets 91 = .ok (.iconst 0, 1) := by decide +kernel
theorem dL_lets_92 : decode cL_lets 92 = .ok (.iaload, 1) := by decide +kernel
theorem dL_lets_93 : decode cL_lets 93 = .ok (.istore 9, 2) := by decide +kernel
theorem dL_lets_95 : decode cL_lets 95 = .ok (.aload_n 1, 1) := by decide +kernel
theorem dL_lets_96 : decode cL_lets 96 = .ok (.iload 9, 2) := by decide +kernel
theorem dL_lets_98 : decode cL_lets 98 = .ok (.iload 4, 2) := by decide +kernel
theorem dL_lets_100 : decode cL_lets 100 = .ok (.iastore, 1) := by decide +kernel
theorem dL_lets_101 : decode cL_lets 101 = .ok (.aload_n 1, 1) := by decide +kernel
theorem dL_lets_102 : decode cL_lets 102 = .ok (.bipush 12, 2) := by decide +kernel
theorem dL_lets_104 : decode cL_lets 104 = .ok (.iload 9, 2) := by decide +kernel
theorem dL_lets_106 : decode cL_lets 106 = .ok (.iadd, 1) := by decide +kernel
theorem dL_lets_107 : decode cL_lets 107 = .ok (.iload 5, 2) := by decide +kernel
theorem dL_lets_109 : decode cL_lets 109 = .ok (.iastore, 1) := by decide +kernel
theorem dL_lets_110 : decode cL_lets 110 = .ok (.aload_n 1, 1) := by decide +kernel
theorem dL_lets_111 : decode cL_lets 111 = .ok (.bipush 24, 2) := by decide +kernel
theorem dL_lets_113 : decode cL_lets 113 = .ok (.iload 9, 2) := by decide +kernel
theorem dL_lets_115 : decode cL_lets 115 = .ok (.iadd, 1) := by decide +kernel
theorem dL_lets_116 : decode cL_lets 116 = .ok (.iload 8, 2) := by decide +kernel
theorem dL_lets_118 : decode cL_lets 118 = .ok (.iastore, 1) := by decide +kernel
theorem dL_lets_119 : decode cL_lets 119 = .ok (.aload_n 1, 1) := by decide +kernel
theorem dL_lets_120 : decode cL_lets 120 = .ok (.bipush 36, 2) := by decide +kernel
theorem dL_lets_122 : decode cL_lets 122 = .ok (.iload 9, 2) := by decide +kernel
theorem dL_lets_124 : decode cL_lets 124 = .ok (.iadd, 1) := by decide +kernel
theorem dL_lets_125 : decode cL_lets 125 = .ok (.iload 7, 2) := by decide +kernel
theorem dL_lets_127 : decode cL_lets 127 = .ok (.iastore, 1) := by decide +kernel
theorem dL_lets_128 : decode cL_lets 128 = .ok (.aload_n 1, 1) := by decide +kernel
theorem dL_lets_129 : decode cL_lets 129 = .ok (.bipush 48, 2) := by decide +kernel
theorem dL_lets_131 : decode cL_lets 131 = .ok (.iload 9, 2) := by decide +kernel
theorem dL_lets_133 : decode cL_lets 133 = .ok (.iadd, 1) := by decide +kernel
theorem dL_lets_134 : decode cL_lets 134 = .ok (.iconst (-1), 1) := by decide +kernel
theorem dL_lets_135 : decode cL_lets 135 = .ok (.iastore, 1) := by decide +kernel
theorem dL_lets_136 : decode cL_lets 136 = .ok (.aload_n 2, 1) := by decide +kernel
theorem dL_lets_137 : decode cL_lets 137 = .ok (.iconst 0, 1) := by decide +kernel
theorem dL_lets_138 : decode cL_lets 138 = .ok (.dup2, 1) := by decide +kernel
theorem dL_lets_139 : decode cL_lets 139 = .ok (.iaload, 1) := by decide +kernel
theorem dL_lets_140 : decode cL_lets 140 = .ok (.iconst 1, 1) := by decide +kernel
theorem dL_lets_141 : decode cL_lets 141 = .ok (.iadd, 1) := by decide +kernel
theorem dL_lets_142 : decode cL_lets 142 = .ok (.iastore, 1) := by decide +kernel
theorem dL_lets_143 : decode cL_lets 143 = .ok (.aload_n 0, 1) := by decide +kernel
theorem dL_lets_144 : decode cL_lets 144 = .ok (.iload 4, 2) := by decide +kernel
theorem dL_lets_146 : decode cL_lets 146 = .ok (.iload 5, 2) := by decide +kernel
theorem dL_lets_148 : decode cL_lets 148 = .ok (.iload 8, 2) := by decide +kernel
theorem dL_lets_150 : decode cL_lets 150 = .ok (.iload 7, 2) := by decide +kernel
theorem dL_lets_152 : decode cL_lets 152 = .ok (.invokevirtual 55, 3) := by decide +kernel
theorem dL_lets_155 : decode cL_lets 155 = .ok (.iload 9, 2) := by decide +kernel
theorem dL_lets_157 : decode cL_lets 157 = .ok (.if_icmp .ne 78, 3) := by decide +kernel
theorem dL_lets_160 : decode cL_lets 160 = .ok (.aload_n 0, 1) := by decide +kernel
theorem dL_lets_161 : decode cL_lets 161 = .ok (.invokevirtual 30, 3) := by decide +kernel
theorem dL_lets_164 : decode cL_lets 164 = .ok (.iload 9, 2) := by decide +kernel
theorem dL_lets_166 : decode cL_lets 166 = .ok (.iconst 1, 1) := by decide +kernel
theorem dL_lets_167 : decode cL_lets 167 = .ok (.iadd, 1) := by decide +kernel
theorem dL_lets_168 : decode cL_lets 168 = .ok (.if_icmp .ne 67, 3) := by decide +kernel
theorem dL_lets_171 : decode cL_lets 171 = .ok (.aload_n 0, 1) := by decide +kernel
theorem dL_lets_172 : decode cL_lets 172 = .ok (.iload 4, 2) := by decide +kernel
theorem dL_lets_174 : decode cL_lets 174 = .ok (.iload 5, 2) := by decide +kernel
theorem dL_lets_176 : decode cL_lets 176 = .ok (.invokevirtual 59, 3) := by decide +kernel
theorem dL_lets_179 : decode cL_lets 179 = .ok (.iload 9, 2) := by decide +kernel
theorem dL_lets_181 : decode cL_lets 181 = .ok (.if_icmp .ne 54, 3) := by decide +kernel
theorem dL_lets_184 : decode cL_lets 184 = .ok (.aload_n 0, 1) := by decide +kernel
theorem dL_lets_185 : decode cL_lets 185 = .ok (.iload 4, 2) := by decide +kernel
theorem dL_lets_187 : decode cL_lets 187 = .ok (.iload 8, 2) := by decide +kernel
theorem dL_lets_189 : decode cL_lets 189 = .ok (.iconst 1, 1) := by decide +kernel
theorem dL_lets_190 : decode cL_lets 190 = .ok (.isub, 1) := by decide +kernel
theorem dL_lets_191 : decode cL_lets 191 = .ok (.invokevirtual 59, 3) := by decide +kernel
theorem dL_lets_194 : decode cL_lets 194 = .ok (.iload 9, 2) := by decide +kernel
theorem dL_lets_196 : decode cL_lets 196 = .ok (.if_icmp .ne 39, 3) := by decide +kernel
theorem dL_lets_199 : decode cL_lets 199 = .ok (.aload_n 0, 1) := by decide +kernel
theorem dL_lets_200 : decode cL_lets 200 = .ok (.iload 9, 2) := by decide +kernel
theorem dL_lets_202 : decode cL_lets 202 = .ok (.iload 5, 2) := by decide +kernel
theorem dL_lets_204 : decode cL_lets 204 = .ok (.invokevirtual 37, 3) := by decide +kernel
theorem dL_lets_207 : decode cL_lets 207 = .ok (.iload 7, 2) := by decide +kernel
theorem dL_lets_209 : decode cL_lets 209 = .ok (.if_icmp .ne 26, 3) := by decide +kernel
theorem dL_lets_212 : decode cL_lets 212 = .ok (.aload_n 0, 1) := by decide +kernel
theorem dL_lets_213 : decode cL_lets 213 = .ok (.iload 9, 2) := by decide +kernel
theorem dL_lets_215 : decode cL_lets 215 = .ok (.invokevirtual 62, 3) := by decide +kernel
theorem dL_lets_218 : decode cL_lets 218 = .ok (.ifCond .ne 17, 3) := by decide +kernel
theorem dL_lets_221 : decode cL_lets 221 = .ok (.aload_n 3, 1) := by decide +kernel
theorem dL_lets_222 : decode cL_lets 222 = .ok (.bipush 12, 2) := by decide +kernel
theorem dL_lets_224 : decode cL_lets 224 = .ok (.iload 9, 2) := by decide +kernel
theorem dL_lets_226 : decode cL_lets 226 = .ok (.iadd, 1) := by decide +kernel
theorem dL_lets_227 : decode cL_lets 227 = .ok (.iaload, 1) := by decide +kernel
theorem dL_lets_228 : decode cL_lets 228 = .ok (.ifCond .ne 7, 3) := by decide +kernel
theorem dL_lets_231 : decode cL_lets 231 = .ok (.iconst 1, 1) := by decide +kernel
theorem dL_lets_232 : decode cL_lets 232 = .ok (.goto 4, 3) := by decide +kernel
theorem dL_lets_235 : decode cL_lets 235 = .ok (.iconst 0, 1) := by decide +kernel
theorem dL_lets_236 : decode cL_lets 236 = .ok (.ireturn, 1) := by decide +kernel
set_option maxRecDepth 20000 in
theorem ggL_pays_X1_held : GoodIn wsL_pays wsX1_held := goodIn_ca (goodIn_r _ [5, 6, 7, 8, 4, 9, 10, 11, 12, 13, 14, 15, 77, 78, 79, 80, 81, 82, 83, 84, 85, 86, 87, 88, 89, 90, 91, 92, 93] (by decide +kernel) (by decide +kernel)) (goodIn_sub (fun _ h => List.mem_cons_of_mem _ (List.mem_append_left _ (List.mem_append_left _ (List.mem_append_right _ h)))) (by decide +kernel))
set_option maxRecDepth 20000 in
theorem gL_pays_X1_held : GoodIn wsL_pays (wsV RL 62 RX1 yX1_held wsX1_held) := goodIn_app (goodIn_of _ (by decide +kernel)) ggL_pays_X1_held
set_option maxRecDepth 20000 in
theorem ggL_pays_X1_draw : GoodIn wsL_pays wsX1_draw := goodIn_ca (goodIn_ca (goodIn_ca (goodIn_r _ [19, 20, 21, 22, 6, 7, 8, 4, 9, 10, 11, 12, 13, 14, 15, 23, 24, 25, 26, 27, 77, 78, 79, 80, 81, 82, 83, 84, 85, 86, 87, 88, 89, 90, 91, 92, 93] (by decide +kernel) (by decide +kernel)) (goodIn_sub (fun _ h => List.mem_cons_of_mem _ (List.mem_append_left _ (List.mem_append_right _ h))) (by decide +kernel))) (goodIn_sub (fun _ h => List.mem_cons_of_mem _ (List.mem_append_left _ (List.mem_append_left _ (List.mem_append_right _ h)))) (by decide +kernel))) (goodIn_sub (fun _ h => List.mem_cons_of_mem _ (List.mem_append_right _ h)) (by decide +kernel))
set_option maxRecDepth 20000 in
theorem gL_pays_X1_draw : GoodIn wsL_pays (wsV RL 66 RX1 yX1_draw wsX1_draw) := goodIn_app (goodIn_of _ (by decide +kernel)) ggL_pays_X1_draw
set_option maxRecDepth 20000 in
theorem ggL_pays_X1_rentOn : GoodIn wsL_pays wsX1_rentOn := goodIn_ca (goodIn_r _ [31, 6, 7, 8, 4, 9, 10, 11, 12, 13, 14, 15, 32, 33, 34, 35, 36, 37, 38, 39, 40, 41, 42, 43, 44, 45, 46, 47, 48, 49, 50, 51, 52, 53, 54, 55, 56, 57, 58, 59, 60, 61, 62, 63, 64, 65, 66, 67, 68, 69, 70, 71, 72, 89, 90, 91, 92, 93, 77, 78, 79, 80, 81, 82, 83, 84, 85, 86, 87, 88] (by decide +kernel) (by decide +kernel)) (goodIn_sub (fun _ h => List.mem_cons_of_mem _ (List.mem_append_left _ (List.mem_append_left _ (List.mem_append_right _ h)))) (by decide +kernel))
set_option maxRecDepth 20000 in
theorem gL_pays_X1_rentOn : GoodIn wsL_pays (wsV RL 37 RX1 yX1_rentOn wsX1_rentOn) := goodIn_app (goodIn_of _ (by decide +kernel)) ggL_pays_X1_rentOn
set_option maxRecDepth 20000 in
theorem ggL_pays_X1_topUp : GoodIn wsL_pays wsX1_topUp := goodIn_ca (goodIn_ca (goodIn_r _ [76, 37, 38, 39, 40, 6, 7, 8, 4, 9, 10, 11, 12, 13, 14, 15, 23, 24, 25, 26, 27, 32, 33, 34, 35, 36, 41, 42, 43, 44, 45, 46, 47, 48, 49, 50, 51, 52, 53, 54, 55, 56, 57, 58, 59, 60, 61, 62, 63, 64, 65, 66, 67, 68, 69, 70, 71, 72, 77, 78, 79, 80, 81, 82, 83, 84, 85, 86, 87, 88, 89, 90, 91, 92, 93] (by decide +kernel) (by decide +kernel)) (goodIn_sub (fun _ h => List.mem_cons_of_mem _ (List.mem_append_left _ (List.mem_append_left _ (List.mem_append_right _ h)))) (by decide +kernel))) (goodIn_sub (fun _ h => List.mem_cons_of_mem _ (List.mem_append_right _ h)) (by decide +kernel))
set_option maxRecDepth 20000 in
theorem gL_pays_X1_topUp : GoodIn wsL_pays (wsV RL 69 RX1 yX1_topUp wsX1_topUp) := goodIn_app (goodIn_of _ (by decide +kernel)) ggL_pays_X1_topUp
theorem dL_pays_0 : decode cL_pays 0 = .ok (.aload_n 1, 1) := by decide +kernel
theorem dL_pays_1 : decode cL_pays 1 = .ok (.bipush 12, 2) := by decide +kernel
theorem dL_pays_3 : decode cL_pays 3 = .ok (.iload_n 3, 1) := by decide +kernel
theorem dL_pays_4 : decode cL_pays 4 = .ok (.iadd, 1) := by decide +kernel
theorem dL_pays_5 : decode cL_pays 5 = .ok (.iaload, 1) := by decide +kernel
theorem dL_pays_6 : decode cL_pays 6 = .ok (.iload 4, 2) := by decide +kernel
theorem dL_pays_8 : decode cL_pays 8 = .ok (.aload_n 1, 1) := by decide +kernel
theorem dL_pays_9 : decode cL_pays 9 = .ok (.bipush 24, 2) := by decide +kernel
theorem dL_pays_11 : decode cL_pays 11 = .ok (.iload_n 3, 1) := by decide +kernel
theorem dL_pays_12 : decode cL_pays 12 = .ok (.iadd, 1) := by decide +kernel
theorem dL_pays_13 : decode cL_pays 13 = .ok (.iaload, 1) := by decide +kernel
theorem dL_pays_14 : decode cL_pays 14 = .ok (.aload_n 1, 1) := by decide +kernel
theorem dL_pays_15 : decode cL_pays 15 = .ok (.bipush 12, 2) := by decide +kernel
theorem dL_pays_17 : decode cL_pays 17 = .ok (.iload_n 3, 1) := by decide +kernel
theorem dL_pays_18 : decode cL_pays 18 = .ok (.iadd, 1) := by decide +kernel
theorem dL_pays_19 : decode cL_pays 19 = .ok (.iaload, 1) := by decide +kernel
theorem dL_pays_20 : decode cL_pays 20 = .ok (.isub, 1) := by decide +kernel
theorem dL_pays_21 : decode cL_pays 21 = .ok (.irem, 1) := by decide +kernel
theorem dL_pays_22 : decode cL_pays 22 = .ok (.iadd, 1) := by decide +kernel
theorem dL_pays_23 : decode cL_pays 23 = .ok (.istore 6, 2) := by decide +kernel
theorem dL_pays_25 : decode cL_pays 25 = .ok (.aload_n 2, 1) := by decide +kernel
theorem dL_pays_26 : decode cL_pays 26 = .ok (.iload_n 3, 1) := by decide +kernel
theorem dL_pays_27 : decode cL_pays 27 = .ok (.iaload, 1) := by decide +kernel
theorem dL_pays_28 : decode cL_pays 28 = .ok (.istore 7, 2) := by decide +kernel
theorem dL_pays_30 : decode cL_pays 30 = .ok (.iload 5, 2) := by decide +kernel
theorem dL_pays_32 : decode cL_pays 32 = .ok (.iconst 3, 1) := by decide +kernel
theorem dL_pays_33 : decode cL_pays 33 = .ok (.irem, 1) := by decide +kernel
theorem dL_pays_34 : decode cL_pays 34 = .ok (.ifCond .ne 76, 3) := by decide +kernel
theorem dL_pays_37 : decode cL_pays 37 = .ok (.iconst 1, 1) := by decide +kernel
theorem dL_pays_38 : decode cL_pays 38 = .ok (.iload 5, 2) := by decide +kernel
theorem dL_pays_40 : decode cL_pays 40 = .ok (.sipush 5000, 3) := by decide +kernel
theorem dL_pays_43 : decode cL_pays 43 = .ok (.irem, 1) := by decide +kernel
theorem dL_pays_44 : decode cL_pays 44 = .ok (.iadd, 1) := by decide +kernel
theorem dL_pays_45 : decode cL_pays 45 = .ok (.istore 8, 2) := by decide +kernel
theorem dL_pays_47 : decode cL_pays 47 = .ok (.aload_n 2, 1) := by decide +kernel
theorem dL_pays_48 : decode cL_pays 48 = .ok (.iload_n 3, 1) := by decide +kernel
theorem dL_pays_49 : decode cL_pays 49 = .ok (.dup2, 1) := by decide +kernel
theorem dL_pays_50 : decode cL_pays 50 = .ok (.iaload, 1) := by decide +kernel
theorem dL_pays_51 : decode cL_pays 51 = .ok (.iload 8, 2) := by decide +kernel
theorem dL_pays_53 : decode cL_pays 53 = .ok (.iload 7, 2) := by decide +kernel
theorem dL_pays_55 : decode cL_pays 55 = .ok (.if_icmp .le 7, 3) := by decide +kernel
theorem dL_pays_58 : decode cL_pays 58 = .ok (.iconst 0, 1) := by decide +kernel
theorem dL_pays_59 : decode cL_pays 59 = .ok (.goto 5, 3) := by decide +kernel
theorem dL_pays_62 : decode cL_pays 62 = .ok (.iload 8, 2) := by decide +kernel
theorem dL_pays_64 : decode cL_pays 64 = .ok (.isub, 1) := by decide +kernel
theorem dL_pays_65 : decode cL_pays 65 = .ok (.iastore, 1) := by decide +kernel
theorem dL_pays_66 : decode cL_pays 66 = .ok (.iload 8, 2) := by decide +kernel
theorem dL_pays_68 : decode cL_pays 68 = .ok (.iload 7, 2) := by decide +kernel
theorem dL_pays_70 : decode cL_pays 70 = .ok (.if_icmp .le 21, 3) := by decide +kernel
theorem dL_pays_73 : decode cL_pays 73 = .ok (.aload_n 0, 1) := by decide +kernel
theorem dL_pays_74 : decode cL_pays 74 = .ok (.iload_n 3, 1) := by decide +kernel
theorem dL_pays_75 : decode cL_pays 75 = .ok (.invokevirtual 62, 3) := by decide +kernel
theorem dL_pays_78 : decode cL_pays 78 = .ok (.iload 7, 2) := by decide +kernel
theorem dL_pays_80 : decode cL_pays 80 = .ok (.if_icmp .ne 7, 3) := by decide +kernel
theorem dL_pays_83 : decode cL_pays 83 = .ok (.iconst 1, 1) := by decide +kernel
theorem dL_pays_84 : decode cL_pays 84 = .ok (.goto 25, 3) := by decide +kernel
theorem dL_pays_87 : decode cL_pays 87 = .ok (.iconst 0, 1) := by decide +kernel
theorem dL_pays_88 : decode cL_pays 88 = .ok (.goto 21, 3) := by decide +kernel
theorem dL_pays_91 : decode cL_pays 91 = .ok (.aload_n 0, 1) := by decide +kernel
theorem dL_pays_92 : decode cL_pays 92 = .ok (.iload_n 3, 1) := by decide +kernel
theorem dL_pays_93 : decode cL_pays 93 = .ok (.iload 8, 2) := by decide +kernel
theorem dL_pays_95 : decode cL_pays 95 = .ok (.invokevirtual 66, 3) := by decide +kernel
theorem dL_pays_98 : decode cL_pays 98 = .ok (.aload_n 2, 1) := by decide +kernel
theorem dL_pays_99 : decode cL_pays 99 = .ok (.iload_n 3, 1) := by decide +kernel
theorem dL_pays_100 : decode cL_pays 100 = .ok (.iaload, 1) := by decide +kernel
theorem dL_pays_101 : decode cL_pays 101 = .ok (.if_icmp .ne 7, 3) := by decide +kernel
theorem dL_pays_104 : decode cL_pays 104 = .ok (.iconst 1, 1) := by decide +kernel
theorem dL_pays_105 : decode cL_pays 105 = .ok (.goto 4, 3) := by decide +kernel
theorem dL_pays_108 : decode cL_pays 108 = .ok (.iconst 0, 1) := by decide +kernel
theorem dL_pays_109 : decode cL_pays 109 = .ok (.ireturn, 1) := by decide +kernel
theorem dL_pays_110 : decode cL_pays 110 = .ok (.iconst 1, 1) := by decide +kernel
theorem dL_pays_111 : decode cL_pays 111 = .ok (.iload 5, 2) := by decide +kernel
theorem dL_pays_113 : decode cL_pays 113 = .ok (.bipush 6, 2) := by decide +kernel
theorem dL_pays_115 : decode cL_pays 115 = .ok (.irem, 1) := by decide +kernel
theorem dL_pays_116 : decode cL_pays 116 = .ok (.iadd, 1) := by decide +kernel
theorem dL_pays_117 : decode cL_pays 117 = .ok (.aload_n 0, 1) := by decide +kernel
theorem dL_pays_118 : decode cL_pays 118 = .ok (.iload_n 3, 1) := by decide +kernel
theorem dL_pays_119 : decode cL_pays 119 = .ok (.iload 6, 2) := by decide +kernel
theorem dL_pays_121 : decode cL_pays 121 = .ok (.invokevirtual 37, 3) := by decide +kernel
theorem dL_pays_124 : decode cL_pays 124 = .ok (.imul, 1) := by decide +kernel
theorem dL_pays_125 : decode cL_pays 125 = .ok (.istore 8, 2) := by decide +kernel
theorem dL_pays_127 : decode cL_pays 127 = .ok (.aload_n 2, 1) := by decide +kernel
theorem dL_pays_128 : decode cL_pays 128 = .ok (.iload_n 3, 1) := by decide +kernel
theorem dL_pays_129 : decode cL_pays 129 = .ok (.iload 8, 2) := by decide +kernel
theorem dL_pays_131 : decode cL_pays 131 = .ok (.iload 7, 2) := by decide +kernel
theorem dL_pays_133 : decode cL_pays 133 = .ok (.if_icmp .le 8, 3) := by decide +kernel
theorem dL_pays_136 : decode cL_pays 136 = .ok (.iload 8, 2) := by decide +kernel
theorem dL_pays_138 : decode cL_pays 138 = .ok (.goto 5, 3) := by decide +kernel
theorem dL_pays_141 : decode cL_pays 141 = .ok (.iload 7, 2) := by decide +kernel
theorem dL_pays_143 : decode cL_pays 143 = .ok (.iastore, 1) := by decide +kernel
theorem dL_pays_144 : decode cL_pays 144 = .ok (.aload_n 0, 1) := by decide +kernel
theorem dL_pays_145 : decode cL_pays 145 = .ok (.iload_n 3, 1) := by decide +kernel
theorem dL_pays_146 : decode cL_pays 146 = .ok (.iload 6, 2) := by decide +kernel
theorem dL_pays_148 : decode cL_pays 148 = .ok (.iconst 1, 1) := by decide +kernel
theorem dL_pays_149 : decode cL_pays 149 = .ok (.iload 5, 2) := by decide +kernel
theorem dL_pays_151 : decode cL_pays 151 = .ok (.bipush 6, 2) := by decide +kernel
theorem dL_pays_153 : decode cL_pays 153 = .ok (.irem, 1) := by decide +kernel
theorem dL_pays_154 : decode cL_pays 154 = .ok (.iadd, 1) := by decide +kernel
theorem dL_pays_155 : decode cL_pays 155 = .ok (.invokevirtual 69, 3) := by decide +kernel
theorem dL_pays_158 : decode cL_pays 158 = .ok (.aload_n 2, 1) := by decide +kernel
theorem dL_pays_159 : decode cL_pays 159 = .ok (.iload_n 3, 1) := by decide +kernel
theorem dL_pays_160 : decode cL_pays 160 = .ok (.iaload, 1) := by decide +kernel
theorem dL_pays_161 : decode cL_pays 161 = .ok (.iload 7, 2) := by decide +kernel
theorem dL_pays_163 : decode cL_pays 163 = .ok (.isub, 1) := by decide +kernel
theorem dL_pays_164 : decode cL_pays 164 = .ok (.if_icmp .ne 18, 3) := by decide +kernel
theorem dL_pays_167 : decode cL_pays 167 = .ok (.aload_n 0, 1) := by decide +kernel
theorem dL_pays_168 : decode cL_pays 168 = .ok (.iload_n 3, 1) := by decide +kernel
theorem dL_pays_169 : decode cL_pays 169 = .ok (.invokevirtual 62, 3) := by decide +kernel
theorem dL_pays_172 : decode cL_pays 172 = .ok (.aload_n 2, 1) := by decide +kernel
theorem dL_pays_173 : decode cL_pays 173 = .ok (.iload_n 3, 1) := by decide +kernel
theorem dL_pays_174 : decode cL_pays 174 = .ok (.iaload, 1) := by decide +kernel
theorem dL_pays_175 : decode cL_pays 175 = .ok (.if_icmp .ne 7, 3) := by decide +kernel
theorem dL_pays_178 : decode cL_pays 178 = .ok (.iconst 1, 1) := by decide +kernel
theorem dL_pays_179 : decode cL_pays 179 = .ok (.goto 4, 3) := by decide +kernel
theorem dL_pays_182 : decode cL_pays 182 = .ok (.iconst 0, 1) := by decide +kernel
theorem dL_pays_183 : decode cL_pays 183 = .ok (.ireturn, 1) := by decide +kernel
set_option maxRecDepth 20000 in
theorem ggL_isLease_X1_rentOn : GoodIn wsL_isLease wsX1_rentOn := goodIn_ca (goodIn_r _ [5, 6, 7, 8, 4, 9, 10, 11, 12, 13, 14, 15, 16, 17, 18, 19, 20, 21, 22, 23, 24, 25, 26, 27, 28, 29, 30, 31, 32, 33, 34, 35, 36, 37, 38, 39, 40, 41, 42, 43, 44, 45, 46, 47, 48, 49, 50, 51, 52, 53, 54, 55, 56, 98, 99, 100, 101, 102, 103, 104, 105, 106, 107, 108, 109, 110, 111, 112, 113, 114] (by decide +kernel) (by decide +kernel)) (goodIn_sub (fun _ h => List.mem_cons_of_mem _ (List.mem_append_left _ (List.mem_append_right _ h))) (by decide +kernel))
set_option maxRecDepth 20000 in
theorem gL_isLease_X1_rentOn : GoodIn wsL_isLease (wsV RL 37 RX1 yX1_rentOn wsX1_rentOn) := goodIn_app (goodIn_of _ (by decide +kernel)) ggL_isLease_X1_rentOn
set_option maxRecDepth 20000 in
theorem ggL_isLease_X1_leaseOn : GoodIn wsL_isLease wsX1_leaseOn := goodIn_ca (goodIn_r _ [60, 61, 12, 13, 14, 4, 15, 10, 11, 25, 26, 27, 28, 29, 30, 31, 98, 99, 100, 101, 102, 103, 104, 105, 106, 107, 108, 109, 110, 111, 112, 113, 114] (by decide +kernel) (by decide +kernel)) (goodIn_sub (fun _ h => List.mem_cons_of_mem _ (List.mem_append_left _ (List.mem_append_right _ h))) (by decide +kernel))
set_option maxRecDepth 20000 in
theorem gL_isLease_X1_leaseOn : GoodIn wsL_isLease (wsV RL 59 RX1 yX1_leaseOn wsX1_leaseOn) := goodIn_app (goodIn_of _ (by decide +kernel)) ggL_isLease_X1_leaseOn
set_option maxRecDepth 20000 in
theorem ggL_isLease_X1_nextChange : GoodIn wsL_isLease wsX1_nextChange := goodIn_ca (goodIn_r _ [65, 6, 7, 8, 4, 9, 10, 11, 12, 13, 14, 15, 66, 67, 68, 28, 69, 30, 36, 31, 42, 43, 56, 70, 71, 72, 73, 53, 54, 55, 16, 17, 18, 19, 20, 21, 22, 23, 24, 25, 26, 27, 29, 32, 33, 34, 35, 37, 38, 39, 40, 41, 44, 45, 46, 47, 48, 49, 50, 51, 52, 98, 99, 100, 101, 102, 103, 104, 105, 106, 107, 108, 109, 110, 111, 112, 113, 114] (by decide +kernel) (by decide +kernel)) (goodIn_sub (fun _ h => List.mem_cons_of_mem _ (List.mem_append_left _ (List.mem_append_right _ h))) (by decide +kernel))
set_option maxRecDepth 20000 in
theorem gL_isLease_X1_nextChange : GoodIn wsL_isLease (wsV RL 72 RX1 yX1_nextChange wsX1_nextChange) := goodIn_app (goodIn_of _ (by decide +kernel)) ggL_isLease_X1_nextChange
set_option maxRecDepth 20000 in
theorem ggL_isLease_X1_bill : GoodIn wsL_isLease wsX1_bill := goodIn_ca (goodIn_r _ [77, 6, 7, 8, 4, 9, 10, 11, 12, 13, 14, 15, 78, 79, 80, 81, 82, 83, 23, 84, 66, 67, 68, 28, 69, 30, 36, 31, 42, 43, 56, 70, 71, 72, 73, 53, 54, 55, 16, 17, 18, 19, 20, 21, 22, 24, 25, 26, 27, 29, 32, 33, 34, 35, 37, 38, 39, 40, 41, 44, 45, 46, 47, 48, 49, 50, 51, 52, 98, 99, 100, 101, 102, 103, 104, 105, 106, 107, 108, 109, 110, 111, 112, 113, 114] (by decide +kernel) (by decide +kernel)) (goodIn_sub (fun _ h => List.mem_cons_of_mem _ (List.mem_append_left _ (List.mem_append_right _ h))) (by decide +kernel))
set_option maxRecDepth 20000 in
theorem gL_isLease_X1_bill : GoodIn wsL_isLease (wsV RL 75 RX1 yX1_bill wsX1_bill) := goodIn_app (goodIn_of _ (by decide +kernel)) ggL_isLease_X1_bill
set_option maxRecDepth 20000 in
theorem ggL_isLease_X1_billByDays : GoodIn wsL_isLease wsX1_billByDays := goodIn_ca (goodIn_r _ [88, 6, 7, 8, 4, 9, 10, 11, 12, 13, 14, 15, 16, 17, 18, 19, 20, 21, 22, 23, 24, 25, 26, 27, 28, 29, 30, 31, 32, 33, 34, 35, 36, 37, 38, 39, 40, 41, 42, 43, 44, 45, 46, 47, 48, 49, 50, 51, 52, 53, 54, 55, 56, 98, 99, 100, 101, 102, 103, 104, 105, 106, 107, 108, 109, 110, 111, 112, 113, 114] (by decide +kernel) (by decide +kernel)) (goodIn_sub (fun _ h => List.mem_cons_of_mem _ (List.mem_append_left _ (List.mem_append_right _ h))) (by decide +kernel))
set_option maxRecDepth 20000 in
theorem gL_isLease_X1_billByDays : GoodIn wsL_isLease (wsV RL 78 RX1 yX1_billByDays wsX1_billByDays) := goodIn_app (goodIn_of _ (by decide +kernel)) ggL_isLease_X1_billByDays
set_option maxRecDepth 20000 in
theorem ggL_isLease_X1_bills : GoodIn wsL_isLease wsX1_bills := goodIn_ca (goodIn_ca (goodIn_r _ [92, 6, 7, 8, 4, 9, 10, 11, 12, 13, 14, 15, 93, 94, 95, 96, 97, 78, 79, 80, 81, 82, 83, 23, 84, 66, 67, 68, 28, 69, 30, 36, 31, 42, 43, 56, 70, 71, 72, 73, 53, 54, 55, 16, 17, 18, 19, 20, 21, 22, 24, 25, 26, 27, 29, 32, 33, 34, 35, 37, 38, 39, 40, 41, 44, 45, 46, 47, 48, 49, 50, 51, 52, 98, 99, 100, 101, 102, 103, 104, 105, 106, 107, 108, 109, 110, 111, 112, 113, 114] (by decide +kernel) (by decide +kernel)) (goodIn_sub (fun _ h => List.mem_cons_of_mem _ (List.mem_append_left _ (List.mem_append_right _ h))) (by decide +kernel))) (goodIn_sub (fun _ h => List.mem_cons_of_mem _ (List.mem_append_right _ h)) (by decide +kernel))
set_option maxRecDepth 20000 in
theorem gL_isLease_X1_bills : GoodIn wsL_isLease (wsV RL 81 RX1 yX1_bills wsX1_bills) := goodIn_app (goodIn_of _ (by decide +kernel)) ggL_isLease_X1_bills
end
section
theorem dL_isLease_0 : decode cL_isLease 0 = .ok (.iconst 0, 1) := by decide +kernel
theorem dL_isLease_1 : decode cL_isLease 1 = .ok (.istore 5, 2) := by decide +kernel
theorem dL_isLease_3 : decode cL_isLease 3 = .ok (.bipush 30, 2) := by decide +kernel
theorem dL_isLease_5 : decode cL_isLease 5 = .ok (.iload 4, 2) := by decide +kernel
theorem dL_isLease_7 : decode cL_isLease 7 = .ok (.imul, 1) := by decide +kernel
theorem dL_isLease_8 : decode cL_isLease 8 = .ok (.istore 6, 2) := by decide +kernel
theorem dL_isLease_10 : decode cL_isLease 10 = .ok (.iconst 1, 1) := by decide +kernel
theorem dL_isLease_11 : decode cL_isLease 11 = .ok (.istore 7, 2) := by decide +kernel
theorem dL_isLease_13 : decode cL_isLease 13 = .ok (.iload 6, 2) := by decide +kernel
theorem dL_isLease_15 : decode cL_isLease 15 = .ok (.istore 8, 2) := by decide +kernel
theorem dL_isLease_17 : decode cL_isLease 17 = .ok (.iload 8, 2) := by decide +kernel
theorem dL_isLease_19 : decode cL_isLease 19 = .ok (.iload 6, 2) := by decide +kernel
theorem dL_isLease_21 : decode cL_isLease 21 = .ok (.bipush 30, 2) := by decide +kernel
theorem dL_isLease_23 : decode cL_isLease 23 = .ok (.iadd, 1) := by decide +kernel
theorem dL_isLease_24 : decode cL_isLease 24 = .ok (.if_icmp .ge 194, 3) := by decide +kernel
theorem dL_isLease_27 : decode cL_isLease 27 = .ok (.iload 7, 2) := by decide +kernel
theorem dL_isLease_29 : decode cL_isLease 29 = .ok (.ifCond .eq 189, 3) := by decide +kernel
theorem dL_isLease_32 : decode cL_isLease 32 = .ok (.aload_n 0, 1) := by decide +kernel
theorem dL_isLease_33 : decode cL_isLease 33 = .ok (.iload_n 3, 1) := by decide +kernel
theorem dL_isLease_34 : decode cL_isLease 34 = .ok (.iload 8, 2) := by decide +kernel
theorem dL_isLease_36 : decode cL_isLease 36 = .ok (.invokevirtual 37, 3) := by decide +kernel
theorem dL_isLease_39 : decode cL_isLease 39 = .ok (.istore 9, 2) := by decide +kernel
theorem dL_isLease_41 : decode cL_isLease 41 = .ok (.iload 8, 2) := by decide +kernel
theorem dL_isLease_43 : decode cL_isLease 43 = .ok (.aload_n 1, 1) := by decide +kernel
theorem dL_isLease_44 : decode cL_isLease 44 = .ok (.bipush 12, 2) := by decide +kernel
theorem dL_isLease_46 : decode cL_isLease 46 = .ok (.iload_n 3, 1) := by decide +kernel
theorem dL_isLease_47 : decode cL_isLease 47 = .ok (.iadd, 1) := by decide +kernel
theorem dL_isLease_48 : decode cL_isLease 48 = .ok (.iaload, 1) := by decide +kernel
theorem dL_isLease_49 : decode cL_isLease 49 = .ok (.if_icmp .lt 18, 3) := by decide +kernel
theorem dL_isLease_52 : decode cL_isLease 52 = .ok (.iload 8, 2) := by decide +kernel
theorem dL_isLease_54 : decode cL_isLease 54 = .ok (.aload_n 1, 1) := by decide +kernel
theorem dL_isLease_55 : decode cL_isLease 55 = .ok (.bipush 24, 2) := by decide +kernel
theorem dL_isLease_57 : decode cL_isLease 57 = .ok (.iload_n 3, 1) := by decide +kernel
theorem dL_isLease_58 : decode cL_isLease 58 = .ok (.iadd, 1) := by decide +kernel
theorem dL_isLease_59 : decode cL_isLease 59 = .ok (.iaload, 1) := by decide +kernel
theorem dL_isLease_60 : decode cL_isLease 60 = .ok (.if_icmp .ge 7, 3) := by decide +kernel
theorem dL_isLease_63 : decode cL_isLease 63 = .ok (.iconst 1, 1) := by decide +kernel
theorem dL_isLease_64 : decode cL_isLease 64 = .ok (.goto 4, 3) := by decide +kernel
theorem dL_isLease_67 : decode cL_isLease 67 = .ok (.iconst 0, 1) := by decide +kernel
theorem dL_isLease_68 : decode cL_isLease 68 = .ok (.istore 10, 2) := by decide +kernel
theorem dL_isLease_70 : decode cL_isLease 70 = .ok (.iload 10, 2) := by decide +kernel
theorem dL_isLease_72 : decode cL_isLease 72 = .ok (.ifCond .eq 22, 3) := by decide +kernel
theorem dL_isLease_75 : decode cL_isLease 75 = .ok (.iload 8, 2) := by decide +kernel
theorem dL_isLease_77 : decode cL_isLease 77 = .ok (.aload_n 1, 1) := by decide +kernel
theorem dL_isLease_78 : decode cL_isLease 78 = .ok (.bipush 12, 2) := by decide +kernel
theorem dL_isLease_80 : decode cL_isLease 80 = .ok (.iload_n 3, 1) := by decide +kernel
theorem dL_isLease_81 : decode cL_isLease 81 = .ok (.iadd, 1) := by decide +kernel
theorem dL_isLease_82 : decode cL_isLease 82 = .ok (.iaload, 1) := by decide +kernel
theorem dL_isLease_83 : decode cL_isLease 83 = .ok (.aload_n 2, 1) := by decide +kernel
theorem dL_isLease_84 : decode cL_isLease 84 = .ok (.iload_n 3, 1) := by decide +kernel
theorem dL_isLease_85 : decode cL_isLease 85 = .ok (.iaload, 1) := by decide +kernel
theorem dL_isLease_86 : decode cL_isLease 86 = .ok (.iadd, 1) := by decide +kernel
theorem dL_isLease_87 : decode cL_isLease 87 = .ok (.if_icmp .lt 7, 3) := by decide +kernel
theorem dL_isLease_90 : decode cL_isLease 90 = .ok (.iconst 1, 1) := by decide +kernel
theorem dL_isLease_91 : decode cL_isLease 91 = .ok (.goto 4, 3) := by decide +kernel
theorem dL_isLease_94 : decode cL_isLease 94 = .ok (.iconst 0, 1) := by decide +kernel
theorem dL_isLease_95 : decode cL_isLease 95 = .ok (.istore 11, 2) := by decide +kernel
theorem dL_isLease_97 : decode cL_isLease 97 = .ok (.iload 5, 2) := by decide +kernel
theorem dL_isLease_99 : decode cL_isLease 99 = .ok (.iload 9, 2) := by decide +kernel
theorem dL_isLease_101 : decode cL_isLease 101 = .ok (.iadd, 1) := by decide +kernel
theorem dL_isLease_102 : decode cL_isLease 102 = .ok (.istore 5, 2) := by decide +kernel
theorem dL_isLease_104 : decode cL_isLease 104 = .ok (.iload 11, 2) := by decide +kernel
theorem dL_isLease_106 : decode cL_isLease 106 = .ok (.ifCond .eq 12, 3) := by decide +kernel
theorem dL_isLease_109 : decode cL_isLease 109 = .ok (.iload 9, 2) := by decide +kernel
theorem dL_isLease_111 : decode cL_isLease 111 = .ok (.iconst 1, 1) := by decide +kernel
theorem dL_isLease_112 : decode cL_isLease 112 = .ok (.if_icmp .lt 97, 3) := by decide +kernel
theorem dL_isLease_115 : decode cL_isLease 115 = .ok (.goto 8, 3) := by decide +kernel
theorem dL_isLease_118 : decode cL_isLease 118 = .ok (.iload 9, 2) := by decide +kernel
theorem dL_isLease_120 : decode cL_isLease 120 = .ok (.ifCond .ne 89, 3) := by decide +kernel
theorem dL_isLease_123 : decode cL_isLease 123 = .ok (.aload_n 2, 1) := by decide +kernel
theorem dL_isLease_124 : decode cL_isLease 124 = .ok (.bipush 12, 2) := by decide +kernel
theorem dL_isLease_126 : decode cL_isLease 126 = .ok (.iload_n 3, 1) := by decide +kernel
theorem dL_isLease_127 : decode cL_isLease 127 = .ok (.iadd, 1) := by decide +kernel
theorem dL_isLease_128 : decode cL_isLease 128 = .ok (.iaload, 1) := by decide +kernel
theorem dL_isLease_129 : decode cL_isLease 129 = .ok (.ifCond .gt 19, 3) := by decide +kernel
theorem dL_isLease_132 : decode cL_isLease 132 = .ok (.iload 11, 2) := by decide +kernel
theorem dL_isLease_134 : decode cL_isLease 134 = .ok (.ifCond .eq 14, 3) := by decide +kernel
theorem dL_isLease_137 : decode cL_isLease 137 = .ok (.iload 9, 2) := by decide +kernel
theorem dL_isLease_139 : decode cL_isLease 139 = .ok (.aload_n 1, 1) := by decide +kernel
theorem dL_isLease_140 : decode cL_isLease 140 = .ok (.bipush 36, 2) := by decide +kernel
theorem dL_isLease_142 : decode cL_isLease 142 = .ok (.iload_n 3, 1) := by decide +kernel
theorem dL_isLease_143 : decode cL_isLease 143 = .ok (.iadd, 1) := by decide +kernel
theorem dL_isLease_144 : decode cL_isLease 144 = .ok (.iaload, 1) := by decide +kernel
theorem dL_isLease_145 : decode cL_isLease 145 = .ok (.if_icmp .lt 64, 3) := by decide +kernel
theorem dL_isLease_148 : decode cL_isLease 148 = .ok (.aload_n 2, 1) := by decide +kernel
theorem dL_isLease_149 : decode cL_isLease 149 = .ok (.bipush 24, 2) := by decide +kernel
theorem dL_isLease_151 : decode cL_isLease 151 = .ok (.iload_n 3, 1) := by decide +kernel
theorem dL_isLease_152 : decode cL_isLease 152 = .ok (.iadd, 1) := by decide +kernel
theorem dL_isLease_153 : decode cL_isLease 153 = .ok (.iaload, 1) := by decide +kernel
theorem dL_isLease_154 : decode cL_isLease 154 = .ok (.ifCond .gt 28, 3) := by decide +kernel
theorem dL_isLease_157 : decode cL_isLease 157 = .ok (.aload_n 2, 1) := by decide +kernel
theorem dL_isLease_158 : decode cL_isLease 158 = .ok (.bipush 12, 2) := by decide +kernel
theorem dL_isLease_160 : decode cL_isLease 160 = .ok (.iload_n 3, 1) := by decide +kernel
theorem dL_isLease_161 : decode cL_isLease 161 = .ok (.iadd, 1) := by decide +kernel
theorem dL_isLease_162 : decode cL_isLease 162 = .ok (.iaload, 1) := by decide +kernel
theorem dL_isLease_163 : decode cL_isLease 163 = .ok (.ifCond .gt 19, 3) := by decide +kernel
theorem dL_isLease_166 : decode cL_isLease 166 = .ok (.iload 11, 2) := by decide +kernel
theorem dL_isLease_168 : decode cL_isLease 168 = .ok (.ifCond .eq 14, 3) := by decide +kernel
theorem dL_isLease_171 : decode cL_isLease 171 = .ok (.iload 9, 2) := by decide +kernel
theorem dL_isLease_173 : decode cL_isLease 173 = .ok (.aload_n 1, 1) := by decide +kernel
theorem dL_isLease_174 : decode cL_isLease 174 = .ok (.bipush 36, 2) := by decide +kernel
theorem dL_isLease_176 : decode cL_isLease 176 = .ok (.iload_n 3, 1) := by decide +kernel
theorem dL_isLease_177 : decode cL_isLease 177 = .ok (.iadd, 1) := by decide +kernel
theorem dL_isLease_178 : decode cL_isLease 178 = .ok (.iaload, 1) := by decide +kernel
theorem dL_isLease_179 : decode cL_isLease 179 = .ok (.if_icmp .ne 30, 3) := by decide +kernel
theorem dL_isLease_182 : decode cL_isLease 182 = .ok (.aload_n 0, 1) := by decide +kernel
theorem dL_isLease_183 : decode cL_isLease 183 = .ok (.aload_n 1, 1) := by decide +kernel
theorem dL_isLease_184 : decode cL_isLease 184 = .ok (.iload_n 3, 1) := by decide +kernel
theorem dL_isLease_185 : decode cL_isLease 185 = .ok (.iaload, 1) := by decide +kernel
theorem dL_isLease_186 : decode cL_isLease 186 = .ok (.iload 8, 2) := by decide +kernel
theorem dL_isLease_188 : decode cL_isLease 188 = .ok (.invokevirtual 59, 3) := by decide +kernel
theorem dL_isLease_191 : decode cL_isLease 191 = .ok (.iload_n 3, 1) := by decide +kernel
theorem dL_isLease_192 : decode cL_isLease 192 = .ok (.if_icmp .ne 7, 3) := by decide +kernel
theorem dL_isLease_195 : decode cL_isLease 195 = .ok (.iconst 1, 1) := by decide +kernel
theorem dL_isLease_196 : decode cL_isLease 196 = .ok (.goto 4, 3) := by decide +kernel
theorem dL_isLease_199 : decode cL_isLease 199 = .ok (.iconst 0, 1) := by decide +kernel
theorem dL_isLease_200 : decode cL_isLease 200 = .ok (.iload 10, 2) := by decide +kernel
theorem dL_isLease_202 : decode cL_isLease 202 = .ok (.if_icmp .ne 7, 3) := by decide +kernel
theorem dL_isLease_205 : decode cL_isLease 205 = .ok (.iconst 1, 1) := by decide +kernel
theorem dL_isLease_206 : decode cL_isLease 206 = .ok (.goto 4, 3) := by decide +kernel
theorem dL_isLease_209 : decode cL_isLease 209 = .ok (.iconst 0, 1) := by decide +kernel
theorem dL_isLease_210 : decode cL_isLease 210 = .ok (.istore 7, 2) := by decide +kernel
theorem dL_isLease_212 : decode cL_isLease 212 = .ok (.iinc 8 1, 3) := by decide +kernel
theorem dL_isLease_215 : decode cL_isLease 215 = .ok (.goto (-198), 3) := by decide +kernel
theorem dL_isLease_218 : decode cL_isLease 218 = .ok (.aload_n 0, 1) := by decide +kernel
theorem dL_isLease_219 : decode cL_isLease 219 = .ok (.iload_n 3, 1) := by decide +kernel
theorem dL_isLease_220 : decode cL_isLease 220 = .ok (.iload 6, 2) := by decide +kernel
theorem dL_isLease_222 : decode cL_isLease 222 = .ok (.invokevirtual 72, 3) := by decide +kernel
theorem dL_isLease_225 : decode cL_isLease 225 = .ok (.istore 8, 2) := by decide +kernel
theorem dL_isLease_227 : decode cL_isLease 227 = .ok (.iload 8, 2) := by decide +kernel
theorem dL_isLease_229 : decode cL_isLease 229 = .ok (.iconst (-1), 1) := by decide +kernel
theorem dL_isLease_230 : decode cL_isLease 230 = .ok (.if_icmp .eq 14, 3) := by decide +kernel
theorem dL_isLease_233 : decode cL_isLease 233 = .ok (.iload 8, 2) := by decide +kernel
theorem dL_isLease_235 : decode cL_isLease 235 = .ok (.iload 6, 2) := by decide +kernel
theorem dL_isLease_237 : decode cL_isLease 237 = .ok (.sipush 200, 3) := by decide +kernel
theorem dL_isLease_240 : decode cL_isLease 240 = .ok (.iadd, 1) := by decide +kernel
theorem dL_isLease_241 : decode cL_isLease 241 = .ok (.if_icmp .le 12, 3) := by decide +kernel
theorem dL_isLease_244 : decode cL_isLease 244 = .ok (.iload 6, 2) := by decide +kernel
theorem dL_isLease_246 : decode cL_isLease 246 = .ok (.sipush 200, 3) := by decide +kernel
theorem dL_isLease_249 : decode cL_isLease 249 = .ok (.iadd, 1) := by decide +kernel
theorem dL_isLease_250 : decode cL_isLease 250 = .ok (.goto 5, 3) := by decide +kernel
theorem dL_isLease_253 : decode cL_isLease 253 = .ok (.iload 8, 2) := by decide +kernel
theorem dL_isLease_255 : decode cL_isLease 255 = .ok (.istore 9, 2) := by decide +kernel
theorem dL_isLease_257 : decode cL_isLease 257 = .ok (.iload 6, 2) := by decide +kernel
theorem dL_isLease_259 : decode cL_isLease 259 = .ok (.iconst 1, 1) := by decide +kernel
theorem dL_isLease_260 : decode cL_isLease 260 = .ok (.iadd, 1) := by decide +kernel
theorem dL_isLease_261 : decode cL_isLease 261 = .ok (.istore 10, 2) := by decide +kernel
theorem dL_isLease_263 : decode cL_isLease 263 = .ok (.iload 10, 2) := by decide +kernel
theorem dL_isLease_265 : decode cL_isLease 265 = .ok (.iload 9, 2) := by decide +kernel
theorem dL_isLease_267 : decode cL_isLease 267 = .ok (.if_icmp .ge 46, 3) := by decide +kernel
theorem dL_isLease_270 : decode cL_isLease 270 = .ok (.iload 10, 2) := by decide +kernel
theorem dL_isLease_272 : decode cL_isLease 272 = .ok (.sipush 7200, 3) := by decide +kernel
theorem dL_isLease_275 : decode cL_isLease 275 = .ok (.if_icmp .ge 38, 3) := by decide +kernel
theorem dL_isLease_278 : decode cL_isLease 278 = .ok (.iload 7, 2) := by decide +kernel
theorem dL_isLease_280 : decode cL_isLease 280 = .ok (.ifCond .eq 33, 3) := by decide +kernel
theorem dL_isLease_283 : decode cL_isLease 283 = .ok (.aload_n 0, 1) := by decide +kernel
theorem dL_isLease_284 : decode cL_isLease 284 = .ok (.iload_n 3, 1) := by decide +kernel
theorem dL_isLease_285 : decode cL_isLease 285 = .ok (.iload 10, 2) := by decide +kernel
theorem dL_isLease_287 : decode cL_isLease 287 = .ok (.invokevirtual 37, 3) := by decide +kernel
theorem dL_isLease_290 : decode cL_isLease 290 = .ok (.aload_n 0, 1) := by decide +kernel
theorem dL_isLease_291 : decode cL_isLease 291 = .ok (.iload_n 3, 1) := by decide +kernel
theorem dL_isLease_292 : decode cL_isLease 292 = .ok (.iload 6, 2) := by decide +kernel
theorem dL_isLease_294 : decode cL_isLease 294 = .ok (.invokevirtual 37, 3) := by decide +kernel
theorem dL_isLease_297 : decode cL_isLease 297 = .ok (.if_icmp .ne 7, 3) := by decide +kernel
theorem dL_isLease_300 : decode cL_isLease 300 = .ok (.iconst 1, 1) := by decide +kernel
theorem dL_isLease_301 : decode cL_isLease 301 = .ok (.goto 4, 3) := by decide +kernel
theorem dL_isLease_304 : decode cL_isLease 304 = .ok (.iconst 0, 1) := by decide +kernel
theorem dL_isLease_305 : decode cL_isLease 305 = .ok (.istore 7, 2) := by decide +kernel
theorem dL_isLease_307 : decode cL_isLease 307 = .ok (.iinc 10 1, 3) := by decide +kernel
theorem dL_isLease_310 : decode cL_isLease 310 = .ok (.goto (-47), 3) := by decide +kernel
theorem dL_isLease_313 : decode cL_isLease 313 = .ok (.iload 7, 2) := by decide +kernel
theorem dL_isLease_315 : decode cL_isLease 315 = .ok (.ifCond .eq 50, 3) := by decide +kernel
theorem dL_isLease_318 : decode cL_isLease 318 = .ok (.iload 8, 2) := by decide +kernel
theorem dL_isLease_320 : decode cL_isLease 320 = .ok (.iconst (-1), 1) := by decide +kernel
theorem dL_isLease_321 : decode cL_isLease 321 = .ok (.if_icmp .eq 40, 3) := by decide +kernel
theorem dL_isLease_324 : decode cL_isLease 324 = .ok (.iload 8, 2) := by decide +kernel
theorem dL_isLease_326 : decode cL_isLease 326 = .ok (.iload 6, 2) := by decide +kernel
theorem dL_isLease_328 : decode cL_isLease 328 = .ok (.if_icmp .le 37, 3) := by decide +kernel
theorem dL_isLease_331 : decode cL_isLease 331 = .ok (.aload_n 0, 1) := by decide +kernel
theorem dL_isLease_332 : decode cL_isLease 332 = .ok (.iload_n 3, 1) := by decide +kernel
theorem dL_isLease_333 : decode cL_isLease 333 = .ok (.iload 8, 2) := by decide +kernel
theorem dL_isLease_335 : decode cL_isLease 335 = .ok (.invokevirtual 37, 3) := by decide +kernel
theorem dL_isLease_338 : decode cL_isLease 338 = .ok (.aload_n 0, 1) := by decide +kernel
theorem dL_isLease_339 : decode cL_isLease 339 = .ok (.iload_n 3, 1) := by decide +kernel
theorem dL_isLease_340 : decode cL_isLease 340 = .ok (.iload 8, 2) := by decide +kernel
theorem dL_isLease_342 : decode cL_isLease 342 = .ok (.iconst 1, 1) := by decide +kernel
theorem dL_isLease_343 : decode cL_isLease 343 = .ok (.isub, 1) := by decide +kernel
theorem dL_isLease_344 : decode cL_isLease 344 = .ok (.invokevirtual 37, 3) := by decide +kernel
theorem dL_isLease_347 : decode cL_isLease 347 = .ok (.if_icmp .eq 18, 3) := by decide +kernel
theorem dL_isLease_350 : decode cL_isLease 350 = .ok (.iload 8, 2) := by decide +kernel
theorem dL_isLease_352 : decode cL_isLease 352 = .ok (.aload_n 1, 1) := by decide +kernel
theorem dL_isLease_353 : decode cL_isLease 353 = .ok (.bipush 24, 2) := by decide +kernel
theorem dL_isLease_355 : decode cL_isLease 355 = .ok (.iload_n 3, 1) := by decide +kernel
theorem dL_isLease_356 : decode cL_isLease 356 = .ok (.iadd, 1) := by decide +kernel
theorem dL_isLease_357 : decode cL_isLease 357 = .ok (.iaload, 1) := by decide +kernel
theorem dL_isLease_358 : decode cL_isLease 358 = .ok (.if_icmp .gt 7, 3) := by decide +kernel
theorem dL_isLease_361 : decode cL_isLease 361 = .ok (.iconst 1, 1) := by decide +kernel
theorem dL_isLease_362 : decode cL_isLease 362 = .ok (.goto 4, 3) := by decide +kernel
theorem dL_isLease_365 : decode cL_isLease 365 = .ok (.iconst 0, 1) := by decide +kernel
theorem dL_isLease_366 : decode cL_isLease 366 = .ok (.istore 7, 2) := by decide +kernel
theorem dL_isLease_368 : decode cL_isLease 368 = .ok (.iload 7, 2) := by decide +kernel
theorem dL_isLease_370 : decode cL_isLease 370 = .ok (.ifCond .eq 95, 3) := by decide +kernel
theorem dL_isLease_373 : decode cL_isLease 373 = .ok (.aload_n 0, 1) := by decide +kernel
theorem dL_isLease_374 : decode cL_isLease 374 = .ok (.iload_n 3, 1) := by decide +kernel
theorem dL_isLease_375 : decode cL_isLease 375 = .ok (.iload 4, 2) := by decide +kernel
theorem dL_isLease_377 : decode cL_isLease 377 = .ok (.invokevirtual 75, 3) := by decide +kernel
theorem dL_isLease_380 : decode cL_isLease 380 = .ok (.iload 5, 2) := by decide +kernel
theorem dL_isLease_382 : decode cL_isLease 382 = .ok (.bipush 30, 2) := by decide +kernel
theorem dL_isLease_384 : decode cL_isLease 384 = .ok (.idiv, 1) := by decide +kernel
theorem dL_isLease_385 : decode cL_isLease 385 = .ok (.if_icmp .ne 80, 3) := by decide +kernel
theorem dL_isLease_388 : decode cL_isLease 388 = .ok (.aload_n 0, 1) := by decide +kernel
theorem dL_isLease_389 : decode cL_isLease 389 = .ok (.iload_n 3, 1) := by decide +kernel
theorem dL_isLease_390 : decode cL_isLease 390 = .ok (.iload 4, 2) := by decide +kernel
theorem dL_isLease_392 : decode cL_isLease 392 = .ok (.invokevirtual 78, 3) := by decide +kernel
theorem dL_isLease_395 : decode cL_isLease 395 = .ok (.iload 5, 2) := by decide +kernel
theorem dL_isLease_397 : decode cL_isLease 397 = .ok (.bipush 30, 2) := by decide +kernel
theorem dL_isLease_399 : decode cL_isLease 399 = .ok (.idiv, 1) := by decide +kernel
theorem dL_isLease_400 : decode cL_isLease 400 = .ok (.if_icmp .ne 65, 3) := by decide +kernel
theorem dL_isLease_403 : decode cL_isLease 403 = .ok (.aload_n 0, 1) := by decide +kernel
theorem dL_isLease_404 : decode cL_isLease 404 = .ok (.iload_n 3, 1) := by decide +kernel
theorem dL_isLease_405 : decode cL_isLease 405 = .ok (.iload 4, 2) := by decide +kernel
theorem dL_isLease_407 : decode cL_isLease 407 = .ok (.iload 4, 2) := by decide +kernel
theorem dL_isLease_409 : decode cL_isLease 409 = .ok (.invokevirtual 81, 3) := by decide +kernel
theorem dL_isLease_412 : decode cL_isLease 412 = .ok (.iload 5, 2) := by decide +kernel
theorem dL_isLease_414 : decode cL_isLease 414 = .ok (.bipush 30, 2) := by decide +kernel
theorem dL_isLease_416 : decode cL_isLease 416 = .ok (.idiv, 1) := by decide +kernel
theorem dL_isLease_417 : decode cL_isLease 417 = .ok (.i2l, 1) := by decide +kernel
theorem dL_isLease_418 : decode cL_isLease 418 = .ok (.lcmp, 1) := by decide +kernel
theorem dL_isLease_419 : decode cL_isLease 419 = .ok (.ifCond .ne 46, 3) := by decide +kernel
theorem dL_isLease_422 : decode cL_isLease 422 = .ok (.aload_n 0, 1) := by decide +kernel
theorem dL_isLease_423 : decode cL_isLease 423 = .ok (.iload_n 3, 1) := by decide +kernel
theorem dL_isLease_424 : decode cL_isLease 424 = .ok (.iconst 0, 1) := by decide +kernel
theorem dL_isLease_425 : decode cL_isLease 425 = .ok (.sipush 239, 3) := by decide +kernel
theorem dL_isLease_428 : decode cL_isLease 428 = .ok (.invokevirtual 81, 3) := by decide +kernel
theorem dL_isLease_431 : decode cL_isLease 431 = .ok (.aload_n 0, 1) := by decide +kernel
theorem dL_isLease_432 : decode cL_isLease 432 = .ok (.iload_n 3, 1) := by decide +kernel
theorem dL_isLease_433 : decode cL_isLease 433 = .ok (.iconst 0, 1) := by decide +kernel
theorem dL_isLease_434 : decode cL_isLease 434 = .ok (.iload 4, 2) := by decide +kernel
theorem dL_isLease_436 : decode cL_isLease 436 = .ok (.invokevirtual 81, 3) := by decide +kernel
theorem dL_isLease_439 : decode cL_isLease 439 = .ok (.aload_n 0, 1) := by decide +kernel
theorem dL_isLease_440 : decode cL_isLease 440 = .ok (.iload_n 3, 1) := by decide +kernel
theorem dL_isLease_441 : decode cL_isLease 441 = .ok (.iload 4, 2) := by decide +kernel
theorem dL_isLease_443 : decode cL_isLease 443 = .ok (.sipush 239, 3) := by decide +kernel
theorem dL_isLease_446 : decode cL_isLease 446 = .ok (.invokevirtual 81, 3) := by decide +kernel
theorem dL_isLease_449 : decode cL_isLease 449 = .ok (.ladd, 1) := by decide +kernel
theorem dL_isLease_450 : decode cL_isLease 450 = .ok (.iload 5, 2) := by decide +kernel
theorem dL_isLease_452 : decode cL_isLease 452 = .ok (.bipush 30, 2) := by decide +kernel
theorem dL_isLease_454 : decode cL_isLease 454 = .ok (.idiv, 1) := by decide +kernel
theorem dL_isLease_455 : decode cL_isLease 455 = .ok (.i2l, 1) := by decide +kernel
theorem dL_isLease_456 : decode cL_isLease 456 = .ok (.lsub, 1) := by decide +kernel
theorem dL_isLease_457 : decode cL_isLease 457 = .ok (.lcmp, 1) := by decide +kernel
theorem dL_isLease_458 : decode cL_isLease 458 = .ok (.ifCond .ne 7, 3) := by decide +kernel
theorem dL_isLease_461 : decode cL_isLease 461 = .ok (.iconst 1, 1) := by decide +kernel
theorem dL_isLease_462 : decode cL_isLease 462 = .ok (.goto 4, 3) := by decide +kernel
theorem dL_isLease_465 : decode cL_isLease 465 = .ok (.iconst 0, 1) := by decide +kernel
theorem dL_isLease_466 : decode cL_isLease 466 = .ok (.ireturn, 1) := by decide +kernel
set_option maxRecDepth 20000 in
theorem ggL_isYear_X1_share : GoodIn wsL_isYear wsX1_share := goodIn_ca (goodIn_r _ [7, 8, 9, 10, 6, 11, 12, 13, 14, 15, 16, 17, 86, 87, 88, 89, 90] (by decide +kernel) (by decide +kernel)) (goodIn_sub (fun _ h => List.mem_cons_of_mem _ (List.mem_append_left _ (List.mem_append_right _ h))) (by decide +kernel))
set_option maxRecDepth 20000 in
theorem gL_isYear_X1_share : GoodIn wsL_isYear (wsV RL 85 RX1 yX1_share wsX1_share) := goodIn_app (goodIn_of _ (by decide +kernel)) ggL_isYear_X1_share
set_option maxRecDepth 20000 in
theorem ggL_isYear_X1_voids : GoodIn wsL_isYear wsX1_voids := goodIn_ca (goodIn_r _ [21, 8, 9, 10, 6, 11, 12, 13, 22, 23, 24, 25, 26, 27, 28, 29, 30, 31, 32, 33, 34, 35, 36, 37, 38, 39, 40, 86, 87, 88, 89, 90, 91, 92, 93, 94, 95, 96, 97, 98, 99, 100, 101, 102] (by decide +kernel) (by decide +kernel)) (goodIn_sub (fun _ h => List.mem_cons_of_mem _ (List.mem_append_left _ (List.mem_append_right _ h))) (by decide +kernel))
set_option maxRecDepth 20000 in
theorem gL_isYear_X1_voids : GoodIn wsL_isYear (wsV RL 89 RX1 yX1_voids wsX1_voids) := goodIn_app (goodIn_of _ (by decide +kernel)) ggL_isYear_X1_voids
set_option maxRecDepth 20000 in
theorem ggL_isYear_X1_part : GoodIn wsL_isYear wsX1_part := goodIn_ca (goodIn_r _ [44, 45, 46, 47, 48, 6, 49, 12, 13, 26, 9, 10, 11, 50, 51, 52, 53, 8, 54, 55, 34, 35, 36, 14, 15, 16, 17, 56, 57, 58, 30, 59, 60, 28, 29, 31, 32, 33, 37, 38, 39, 40, 61, 62, 63, 86, 87, 88, 89, 90, 91, 92, 93, 94, 95, 96, 97, 98, 99, 100, 101, 102] (by decide +kernel) (by decide +kernel)) (goodIn_sub (fun _ h => List.mem_cons_of_mem _ (List.mem_append_left _ (List.mem_append_right _ h))) (by decide +kernel))
set_option maxRecDepth 20000 in
theorem gL_isYear_X1_part : GoodIn wsL_isYear (wsV RL 92 RX1 yX1_part wsX1_part) := goodIn_app (goodIn_of _ (by decide +kernel)) ggL_isYear_X1_part
set_option maxRecDepth 20000 in
theorem ggL_isYear_X1_balance : GoodIn wsL_isYear wsX1_balance := goodIn_ca (goodIn_r _ [67, 45, 46, 47, 48, 6, 49, 12, 13, 26, 9, 10, 11, 56, 57, 58, 30, 59, 60, 28, 29, 31, 32, 33, 34, 35, 36, 37, 38, 39, 40, 50, 51, 52, 53, 8, 54, 55, 14, 15, 16, 17, 61, 62, 63, 86, 87, 88, 89, 90, 91, 92, 93, 94, 95, 96, 97, 98, 99, 100, 101, 102] (by decide +kernel) (by decide +kernel)) (goodIn_sub (fun _ h => List.mem_cons_of_mem _ (List.mem_append_left _ (List.mem_append_right _ h))) (by decide +kernel))
set_option maxRecDepth 20000 in
theorem gL_isYear_X1_balance : GoodIn wsL_isYear (wsV RL 95 RX1 yX1_balance wsX1_balance) := goodIn_app (goodIn_of _ (by decide +kernel)) ggL_isYear_X1_balance
set_option maxRecDepth 20000 in
theorem ggL_isYear_X1_owners : GoodIn wsL_isYear wsX1_owners := goodIn_ca (goodIn_r _ [71, 45, 26, 9, 10, 6, 11, 12, 13, 50, 51, 52, 53, 8, 54, 55, 34, 35, 36, 14, 15, 16, 17, 56, 57, 58, 30, 59, 60, 28, 29, 31, 32, 33, 37, 38, 39, 40, 61, 62, 63, 86, 87, 88, 89, 90, 91, 92, 93, 94, 95, 96, 97, 98, 99, 100, 101, 102] (by decide +kernel) (by decide +kernel)) (goodIn_sub (fun _ h => List.mem_cons_of_mem _ (List.mem_append_left _ (List.mem_append_right _ h))) (by decide +kernel))
set_option maxRecDepth 20000 in
theorem gL_isYear_X1_owners : GoodIn wsL_isYear (wsV RL 98 RX1 yX1_owners wsX1_owners) := goodIn_app (goodIn_of _ (by decide +kernel)) ggL_isYear_X1_owners
set_option maxRecDepth 20000 in
theorem ggL_isYear_L_isCost : GoodIn wsL_isYear wsL_isCost := goodIn_ca (goodIn_ca (goodIn_r _ [75, 68, 69, 70, 6, 71, 45, 26, 9, 10, 11, 12, 13, 50, 51, 52, 53, 8, 54, 55, 34, 35, 36, 14, 15, 16, 17, 56, 57, 58, 30, 59, 60, 28, 29, 31, 32, 33, 37, 38, 39, 40, 61, 62, 63, 76, 77, 78, 79, 80, 81, 82, 83, 84, 85, 86, 87, 88, 89, 90, 91, 92, 93, 94, 95, 96, 97, 98, 99, 100, 101, 102] rfl (by decide +kernel)) (goodIn_sub (fun _ h => List.mem_cons_of_mem _ (List.mem_append_left _ (List.mem_append_right _ h))) (by decide +kernel))) (goodIn_sub (fun _ h => List.mem_cons_of_mem _ (List.mem_append_right _ h)) (by decide +kernel))
set_option maxRecDepth 20000 in
theorem gL_isYear_L_isCost : GoodIn wsL_isYear (va_wsS RL 101 yL_isCost wsL_isCost) := goodIn_app (goodIn_of _ (by decide +kernel)) ggL_isYear_L_isCost
theorem dL_isYear_0 : decode cL_isYear 0 = .ok (.iconst 0, 1) := by decide +kernel
theorem dL_isYear_1 : decode cL_isYear 1 = .ok (.istore 4, 2) := by decide +kernel
theorem dL_isYear_3 : decode cL_isYear 3 = .ok (.iconst 0, 1) := by decide +kernel
theorem dL_isYear_4 : decode cL_isYear 4 = .ok (.istore 5, 2) := by decide +kernel
theorem dL_isYear_6 : decode cL_isYear 6 = .ok (.iconst 0, 1) := by decide +kernel
theorem dL_isYear_7 : decode cL_isYear 7 = .ok (.istore 6, 2) := by decide +kernel
theorem dL_isYear_9 : decode cL_isYear 9 = .ok (.dconst 0, 1) := by decide +kernel
theorem dL_isYear_10 : decode cL_isYear 10 = .ok (.dstore 7, 2) := by decide +kernel
theorem dL_isYear_12 : decode cL_isYear 12 = .ok (.iconst 1, 1) := by decide +kernel
theorem dL_isYear_13 : decode cL_isYear 13 = .ok (.istore 9, 2) := by decide +kernel
theorem dL_isYear_15 : decode cL_isYear 15 = .ok (.iconst 0, 1) := by decide +kernel
theorem dL_isYear_16 : decode cL_isYear 16 = .ok (.istore 10, 2) := by decide +kernel
theorem dL_isYear_18 : decode cL_isYear 18 = .ok (.iload 10, 2) := by decide +kernel
theorem dL_isYear_20 : decode cL_isYear 20 = .ok (.bipush 6, 2) := by decide +kernel
theorem dL_isYear_22 : decode cL_isYear 22 = .ok (.if_icmp .ge 115, 3) := by decide +kernel
theorem dL_isYear_25 : decode cL_isYear 25 = .ok (.iload 6, 2) := by decide +kernel
theorem dL_isYear_27 : decode cL_isYear 27 = .ok (.aload_n 2, 1) := by decide +kernel
theorem dL_isYear_28 : decode cL_isYear 28 = .ok (.iconst 1, 1) := by decide +kernel
theorem dL_isYear_29 : decode cL_isYear 29 = .ok (.iload 10, 2) := by decide +kernel
theorem dL_isYear_31 : decode cL_isYear 31 = .ok (.iadd, 1) := by decide +kernel
theorem dL_isYear_32 : decode cL_isYear 32 = .ok (.iaload, 1) := by decide +kernel
theorem dL_isYear_33 : decode cL_isYear 33 = .ok (.iadd, 1) := by decide +kernel
theorem dL_isYear_34 : decode cL_isYear 34 = .ok (.istore 6, 2) := by decide +kernel
theorem dL_isYear_36 : decode cL_isYear 36 = .ok (.dload 7, 2) := by decide +kernel
theorem dL_isYear_38 : decode cL_isYear 38 = .ok (.aload_n 0, 1) := by decide +kernel
theorem dL_isYear_39 : decode cL_isYear 39 = .ok (.iload 10, 2) := by decide +kernel
theorem dL_isYear_41 : decode cL_isYear 41 = .ok (.invokevirtual 85, 3) := by decide +kernel
theorem dL_isYear_44 : decode cL_isYear 44 = .ok (.dadd, 1) := by decide +kernel
theorem dL_isYear_45 : decode cL_isYear 45 = .ok (.dstore 7, 2) := by decide +kernel
theorem dL_isYear_47 : decode cL_isYear 47 = .ok (.iload 5, 2) := by decide +kernel
theorem dL_isYear_49 : decode cL_isYear 49 = .ok (.sipush 360, 3) := by decide +kernel
theorem dL_isYear_52 : decode cL_isYear 52 = .ok (.aload_n 0, 1) := by decide +kernel
theorem dL_isYear_53 : decode cL_isYear 53 = .ok (.iload 10, 2) := by decide +kernel
theorem dL_isYear_55 : decode cL_isYear 55 = .ok (.iload_n 3, 1) := by decide +kernel
theorem dL_isYear_56 : decode cL_isYear 56 = .ok (.invokevirtual 89, 3) := by decide +kernel
theorem dL_isYear_59 : decode cL_isYear 59 = .ok (.isub, 1) := by decide +kernel
theorem dL_isYear_60 : decode cL_isYear 60 = .ok (.iadd, 1) := by decide +kernel
theorem dL_isYear_61 : decode cL_isYear 61 = .ok (.istore 5, 2) := by decide +kernel
theorem dL_isYear_63 : decode cL_isYear 63 = .ok (.iload 9, 2) := by decide +kernel
theorem dL_isYear_65 : decode cL_isYear 65 = .ok (.ifCond .eq 63, 3) := by decide +kernel
theorem dL_isYear_68 : decode cL_isYear 68 = .ok (.aload_n 0, 1) := by decide +kernel
theorem dL_isYear_69 : decode cL_isYear 69 = .ok (.iload 10, 2) := by decide +kernel
theorem dL_isYear_71 : decode cL_isYear 71 = .ok (.iload_n 3, 1) := by decide +kernel
theorem dL_isYear_72 : decode cL_isYear 72 = .ok (.invokevirtual 89, 3) := by decide +kernel
theorem dL_isYear_75 : decode cL_isYear 75 = .ok (.ifCond .lt 53, 3) := by decide +kernel
theorem dL_isYear_78 : decode cL_isYear 78 = .ok (.aload_n 0, 1) := by decide +kernel
theorem dL_isYear_79 : decode cL_isYear 79 = .ok (.iload 10, 2) := by decide +kernel
theorem dL_isYear_81 : decode cL_isYear 81 = .ok (.iload_n 3, 1) := by decide +kernel
theorem dL_isYear_82 : decode cL_isYear 82 = .ok (.invokevirtual 89, 3) := by decide +kernel
theorem dL_isYear_85 : decode cL_isYear 85 = .ok (.sipush 360, 3) := by decide +kernel
theorem dL_isYear_88 : decode cL_isYear 88 = .ok (.if_icmp .gt 40, 3) := by decide +kernel
theorem dL_isYear_91 : decode cL_isYear 91 = .ok (.aload_n 2, 1) := by decide +kernel
theorem dL_isYear_92 : decode cL_isYear 92 = .ok (.iconst 1, 1) := by decide +kernel
theorem dL_isYear_93 : decode cL_isYear 93 = .ok (.iload 10, 2) := by decide +kernel
theorem dL_isYear_95 : decode cL_isYear 95 = .ok (.iadd, 1) := by decide +kernel
theorem dL_isYear_96 : decode cL_isYear 96 = .ok (.iaload, 1) := by decide +kernel
theorem dL_isYear_97 : decode cL_isYear 97 = .ok (.ifCond .ne 7, 3) := by decide +kernel
theorem dL_isYear_100 : decode cL_isYear 100 = .ok (.iconst 1, 1) := by decide +kernel
theorem dL_isYear_101 : decode cL_isYear 101 = .ok (.goto 4, 3) := by decide +kernel
theorem dL_isYear_104 : decode cL_isYear 104 = .ok (.iconst 0, 1) := by decide +kernel
theorem dL_isYear_105 : decode cL_isYear 105 = .ok (.aload_n 0, 1) := by decide +kernel
theorem dL_isYear_106 : decode cL_isYear 106 = .ok (.iload 10, 2) := by decide +kernel
theorem dL_isYear_108 : decode cL_isYear 108 = .ok (.invokevirtual 85, 3) := by decide +kernel
theorem dL_isYear_111 : decode cL_isYear 111 = .ok (.dconst 0, 1) := by decide +kernel
theorem dL_isYear_112 : decode cL_isYear 112 = .ok (.dcmp .l, 1) := by decide +kernel
theorem dL_isYear_113 : decode cL_isYear 113 = .ok (.ifCond .ne 7, 3) := by decide +kernel
theorem dL_isYear_116 : decode cL_isYear 116 = .ok (.iconst 1, 1) := by decide +kernel
theorem dL_isYear_117 : decode cL_isYear 117 = .ok (.goto 4, 3) := by decide +kernel
theorem dL_isYear_120 : decode cL_isYear 120 = .ok (.iconst 0, 1) := by decide +kernel
theorem dL_isYear_121 : decode cL_isYear 121 = .ok (.if_icmp .ne 7, 3) := by decide +kernel
theorem dL_isYear_124 : decode cL_isYear 124 = .ok (.iconst 1, 1) := by decide +kernel
theorem dL_isYear_125 : decode cL_isYear 125 = .ok (.goto 4, 3) := by decide +kernel
theorem dL_isYear_128 : decode cL_isYear 128 = .ok (.iconst 0, 1) := by decide +kernel
theorem dL_isYear_129 : decode cL_isYear 129 = .ok (.istore 9, 2) := by decide +kernel
theorem dL_isYear_131 : decode cL_isYear 131 = .ok (.iinc 10 1, 3) := by decide +kernel
theorem dL_isYear_134 : decode cL_isYear 134 = .ok (.goto (-116), 3) := by decide +kernel
theorem dL_isYear_137 : decode cL_isYear 137 = .ok (.iconst 0, 1) := by decide +kernel
theorem dL_isYear_138 : decode cL_isYear 138 = .ok (.istore 10, 2) := by decide +kernel
theorem dL_isYear_140 : decode cL_isYear 140 = .ok (.iload 10, 2) := by decide +kernel
theorem dL_isYear_142 : decode cL_isYear 142 = .ok (.aload_n 2, 1) := by decide +kernel
theorem dL_isYear_143 : decode cL_isYear 143 = .ok (.iconst 0, 1) := by decide +kernel
theorem dL_isYear_144 : decode cL_isYear 144 = .ok (.iaload, 1) := by decide +kernel
theorem dL_isYear_145 : decode cL_isYear 145 = .ok (.if_icmp .ge 232, 3) := by decide +kernel
theorem dL_isYear_148 : decode cL_isYear 148 = .ok (.iload 9, 2) := by decide +kernel
theorem dL_isYear_150 : decode cL_isYear 150 = .ok (.ifCond .eq 227, 3) := by decide +kernel
theorem dL_isYear_153 : decode cL_isYear 153 = .ok (.aload_n 1, 1) := by decide +kernel
theorem dL_isYear_154 : decode cL_isYear 154 = .ok (.bipush 12, 2) := by decide +kernel
theorem dL_isYear_156 : decode cL_isYear 156 = .ok (.iload 10, 2) := by decide +kernel
theorem dL_isYear_158 : decode cL_isYear 158 = .ok (.iadd, 1) := by decide +kernel
theorem dL_isYear_159 : decode cL_isYear 159 = .ok (.iaload, 1) := by decide +kernel
theorem dL_isYear_160 : decode cL_isYear 160 = .ok (.sipush 360, 3) := by decide +kernel
theorem dL_isYear_163 : decode cL_isYear 163 = .ok (.iload_n 3, 1) := by decide +kernel
theorem dL_isYear_164 : decode cL_isYear 164 = .ok (.imul, 1) := by decide +kernel
theorem dL_isYear_165 : decode cL_isYear 165 = .ok (.if_icmp .le 13, 3) := by decide +kernel
theorem dL_isYear_168 : decode cL_isYear 168 = .ok (.aload_n 1, 1) := by decide +kernel
theorem dL_isYear_169 : decode cL_isYear 169 = .ok (.bipush 12, 2) := by decide +kernel
theorem dL_isYear_171 : decode cL_isYear 171 = .ok (.iload 10, 2) := by decide +kernel
theorem dL_isYear_173 : decode cL_isYear 173 = .ok (.iadd, 1) := by decide +kernel
theorem dL_isYear_174 : decode cL_isYear 174 = .ok (.iaload, 1) := by decide +kernel
theorem dL_isYear_175 : decode cL_isYear 175 = .ok (.goto 8, 3) := by decide +kernel
theorem dL_isYear_178 : decode cL_isYear 178 = .ok (.sipush 360, 3) := by decide +kernel
theorem dL_isYear_181 : decode cL_isYear 181 = .ok (.iload_n 3, 1) := by decide +kernel
theorem dL_isYear_182 : decode cL_isYear 182 = .ok (.imul, 1) := by decide +kernel
theorem dL_isYear_183 : decode cL_isYear 183 = .ok (.istore 11, 2) := by decide +kernel
theorem dL_isYear_185 : decode cL_isYear 185 = .ok (.aload_n 1, 1) := by decide +kernel
theorem dL_isYear_186 : decode cL_isYear 186 = .ok (.bipush 24, 2) := by decide +kernel
theorem dL_isYear_188 : decode cL_isYear 188 = .ok (.iload 10, 2) := by decide +kernel
theorem dL_isYear_190 : decode cL_isYear 190 = .ok (.iadd, 1) := by decide +kernel
theorem dL_isYear_191 : decode cL_isYear 191 = .ok (.iaload, 1) := by decide +kernel
theorem dL_isYear_192 : decode cL_isYear 192 = .ok (.sipush 360, 3) := by decide +kernel
theorem dL_isYear_195 : decode cL_isYear 195 = .ok (.iload_n 3, 1) := by decide +kernel
theorem dL_isYear_196 : decode cL_isYear 196 = .ok (.imul, 1) := by decide +kernel
theorem dL_isYear_197 : decode cL_isYear 197 = .ok (.sipush 360, 3) := by decide +kernel
theorem dL_isYear_200 : decode cL_isYear 200 = .ok (.iadd, 1) := by decide +kernel
theorem dL_isYear_201 : decode cL_isYear 201 = .ok (.if_icmp .ge 13, 3) := by decide +kernel
theorem dL_isYear_204 : decode cL_isYear 204 = .ok (.aload_n 1, 1) := by decide +kernel
theorem dL_isYear_205 : decode cL_isYear 205 = .ok (.bipush 24, 2) := by decide +kernel
theorem dL_isYear_207 : decode cL_isYear 207 = .ok (.iload 10, 2) := by decide +kernel
theorem dL_isYear_209 : decode cL_isYear 209 = .ok (.iadd, 1) := by decide +kernel
theorem dL_isYear_210 : decode cL_isYear 210 = .ok (.iaload, 1) := by decide +kernel
theorem dL_isYear_211 : decode cL_isYear 211 = .ok (.goto 12, 3) := by decide +kernel
theorem dL_isYear_214 : decode cL_isYear 214 = .ok (.sipush 360, 3) := by decide +kernel
theorem dL_isYear_217 : decode cL_isYear 217 = .ok (.iload_n 3, 1) := by decide +kernel
theorem dL_isYear_218 : decode cL_isYear 218 = .ok (.imul, 1) := by decide +kernel
theorem dL_isYear_219 : decode cL_isYear 219 = .ok (.sipush 360, 3) := by decide +kernel
theorem dL_isYear_222 : decode cL_isYear 222 = .ok (.iadd, 1) := by decide +kernel
theorem dL_isYear_223 : decode cL_isYear 223 = .ok (.istore 12, 2) := by decide +kernel
theorem dL_isYear_225 : decode cL_isYear 225 = .ok (.iload 12, 2) := by decide +kernel
theorem dL_isYear_227 : decode cL_isYear 227 = .ok (.iload 11, 2) := by decide +kernel
theorem dL_isYear_229 : decode cL_isYear 229 = .ok (.if_icmp .le 11, 3) := by decide +kernel
theorem dL_isYear_232 : decode cL_isYear 232 = .ok (.iload 12, 2) := by decide +kernel
theorem dL_isYear_234 : decode cL_isYear 234 = .ok (.iload 11, 2) := by decide +kernel
theorem dL_isYear_236 : decode cL_isYear 236 = .ok (.isub, 1) := by decide +kernel
theorem dL_isYear_237 : decode cL_isYear 237 = .ok (.goto 4, 3) := by decide +kernel
theorem dL_isYear_240 : decode cL_isYear 240 = .ok (.iconst 0, 1) := by decide +kernel
theorem dL_isYear_241 : decode cL_isYear 241 = .ok (.istore 13, 2) := by decide +kernel
theorem dL_isYear_243 : decode cL_isYear 243 = .ok (.iload 4, 2) := by decide +kernel
theorem dL_isYear_245 : decode cL_isYear 245 = .ok (.aload_n 0, 1) := by decide +kernel
theorem dL_isYear_246 : decode cL_isYear 246 = .ok (.iload 10, 2) := by decide +kernel
theorem dL_isYear_248 : decode cL_isYear 248 = .ok (.iload_n 3, 1) := by decide +kernel
theorem dL_isYear_249 : decode cL_isYear 249 = .ok (.invokevirtual 92, 3) := by decide +kernel
theorem dL_isYear_252 : decode cL_isYear 252 = .ok (.iadd, 1) := by decide +kernel
theorem dL_isYear_253 : decode cL_isYear 253 = .ok (.istore 4, 2) := by decide +kernel
theorem dL_isYear_255 : decode cL_isYear 255 = .ok (.iload 5, 2) := by decide +kernel
theorem dL_isYear_257 : decode cL_isYear 257 = .ok (.iload 13, 2) := by decide +kernel
theorem dL_isYear_259 : decode cL_isYear 259 = .ok (.isub, 1) := by decide +kernel
theorem dL_isYear_260 : decode cL_isYear 260 = .ok (.istore 5, 2) := by decide +kernel
theorem dL_isYear_262 : decode cL_isYear 262 = .ok (.aload_n 0, 1) := by decide +kernel
theorem dL_isYear_263 : decode cL_isYear 263 = .ok (.iload 10, 2) := by decide +kernel
theorem dL_isYear_265 : decode cL_isYear 265 = .ok (.iload_n 3, 1) := by decide +kernel
theorem dL_isYear_266 : decode cL_isYear 266 = .ok (.invokevirtual 92, 3) := by decide +kernel
theorem dL_isYear_269 : decode cL_isYear 269 = .ok (.ifCond .lt 99, 3) := by decide +kernel
theorem dL_isYear_272 : decode cL_isYear 272 = .ok (.iload 13, 2) := by decide +kernel
theorem dL_isYear_274 : decode cL_isYear 274 = .ok (.ifCond .gt 23, 3) := by decide +kernel
theorem dL_isYear_277 : decode cL_isYear 277 = .ok (.aload_n 0, 1) := by decide +kernel
theorem dL_isYear_278 : decode cL_isYear 278 = .ok (.iload 10, 2) := by decide +kernel
theorem dL_isYear_280 : decode cL_isYear 280 = .ok (.iload_n 3, 1) := by decide +kernel
theorem dL_isYear_281 : decode cL_isYear 281 = .ok (.invokevirtual 92, 3) := by decide +kernel
theorem dL_isYear_284 : decode cL_isYear 284 = .ok (.ifCond .ne 84, 3) := by decide +kernel
theorem dL_isYear_287 : decode cL_isYear 287 = .ok (.aload_n 0, 1) := by decide +kernel
theorem dL_isYear_288 : decode cL_isYear 288 = .ok (.iload 10, 2) := by decide +kernel
theorem dL_isYear_290 : decode cL_isYear 290 = .ok (.iload_n 3, 1) := by decide +kernel
theorem dL_isYear_291 : decode cL_isYear 291 = .ok (.invokevirtual 95, 3) := by decide +kernel
theorem dL_isYear_294 : decode cL_isYear 294 = .ok (.ifCond .ne 74, 3) := by decide +kernel
theorem dL_isYear_297 : decode cL_isYear 297 = .ok (.aload_n 1, 1) := by decide +kernel
theorem dL_isYear_298 : decode cL_isYear 298 = .ok (.bipush 48, 2) := by decide +kernel
theorem dL_isYear_300 : decode cL_isYear 300 = .ok (.iload 10, 2) := by decide +kernel
theorem dL_isYear_302 : decode cL_isYear 302 = .ok (.iadd, 1) := by decide +kernel
theorem dL_isYear_303 : decode cL_isYear 303 = .ok (.iaload, 1) := by decide +kernel
theorem dL_isYear_304 : decode cL_isYear 304 = .ok (.iconst (-1), 1) := by decide +kernel
theorem dL_isYear_305 : decode cL_isYear 305 = .ok (.if_icmp .eq 27, 3) := by decide +kernel
theorem dL_isYear_308 : decode cL_isYear 308 = .ok (.aload_n 0, 1) := by decide +kernel
theorem dL_isYear_309 : decode cL_isYear 309 = .ok (.iload 10, 2) := by decide +kernel
theorem dL_isYear_311 : decode cL_isYear 311 = .ok (.iload_n 3, 1) := by decide +kernel
theorem dL_isYear_312 : decode cL_isYear 312 = .ok (.invokevirtual 92, 3) := by decide +kernel
theorem dL_isYear_315 : decode cL_isYear 315 = .ok (.aload_n 1, 1) := by decide +kernel
theorem dL_isYear_316 : decode cL_isYear 316 = .ok (.bipush 48, 2) := by decide +kernel
theorem dL_isYear_318 : decode cL_isYear 318 = .ok (.iload 10, 2) := by decide +kernel
theorem dL_isYear_320 : decode cL_isYear 320 = .ok (.iadd, 1) := by decide +kernel
theorem dL_isYear_321 : decode cL_isYear 321 = .ok (.iaload, 1) := by decide +kernel
theorem dL_isYear_322 : decode cL_isYear 322 = .ok (.iload 13, 2) := by decide +kernel
theorem dL_isYear_324 : decode cL_isYear 324 = .ok (.imul, 1) := by decide +kernel
theorem dL_isYear_325 : decode cL_isYear 325 = .ok (.sipush 360, 3) := by decide +kernel
theorem dL_isYear_328 : decode cL_isYear 328 = .ok (.idiv, 1) := by decide +kernel
theorem dL_isYear_329 : decode cL_isYear 329 = .ok (.if_icmp .gt 39, 3) := by decide +kernel
theorem dL_isYear_332 : decode cL_isYear 332 = .ok (.iload 6, 2) := by decide +kernel
theorem dL_isYear_334 : decode cL_isYear 334 = .ok (.ifCond .gt 13, 3) := by decide +kernel
theorem dL_isYear_337 : decode cL_isYear 337 = .ok (.aload_n 0, 1) := by decide +kernel
theorem dL_isYear_338 : decode cL_isYear 338 = .ok (.iload 10, 2) := by decide +kernel
theorem dL_isYear_340 : decode cL_isYear 340 = .ok (.iload_n 3, 1) := by decide +kernel
theorem dL_isYear_341 : decode cL_isYear 341 = .ok (.invokevirtual 92, 3) := by decide +kernel
theorem dL_isYear_344 : decode cL_isYear 344 = .ok (.ifCond .ne 24, 3) := by decide +kernel
theorem dL_isYear_347 : decode cL_isYear 347 = .ok (.aload_n 0, 1) := by decide +kernel
theorem dL_isYear_348 : decode cL_isYear 348 = .ok (.iload 10, 2) := by decide +kernel
theorem dL_isYear_350 : decode cL_isYear 350 = .ok (.iload_n 3, 1) := by decide +kernel
theorem dL_isYear_351 : decode cL_isYear 351 = .ok (.invokevirtual 95, 3) := by decide +kernel
theorem dL_isYear_354 : decode cL_isYear 354 = .ok (.aload_n 0, 1) := by decide +kernel
theorem dL_isYear_355 : decode cL_isYear 355 = .ok (.iload 10, 2) := by decide +kernel
theorem dL_isYear_357 : decode cL_isYear 357 = .ok (.iload_n 3, 1) := by decide +kernel
theorem dL_isYear_358 : decode cL_isYear 358 = .ok (.invokevirtual 92, 3) := by decide +kernel
theorem dL_isYear_361 : decode cL_isYear 361 = .ok (.if_icmp .gt 7, 3) := by decide +kernel
theorem dL_isYear_364 : decode cL_isYear 364 = .ok (.iconst 1, 1) := by decide +kernel
theorem dL_isYear_365 : decode cL_isYear 365 = .ok (.goto 4, 3) := by decide +kernel
theorem dL_isYear_368 : decode cL_isYear 368 = .ok (.iconst 0, 1) := by decide +kernel
theorem dL_isYear_369 : decode cL_isYear 369 = .ok (.istore 9, 2) := by decide +kernel
theorem dL_isYear_371 : decode cL_isYear 371 = .ok (.iinc 10 1, 3) := by decide +kernel
theorem dL_isYear_374 : decode cL_isYear 374 = .ok (.goto (-234), 3) := by decide +kernel
theorem dL_isYear_377 : decode cL_isYear 377 = .ok (.iload 9, 2) := by decide +kernel
theorem dL_isYear_379 : decode cL_isYear 379 = .ok (.ifCond .eq 63, 3) := by decide +kernel
theorem dL_isYear_382 : decode cL_isYear 382 = .ok (.iload 5, 2) := by decide +kernel
theorem dL_isYear_384 : decode cL_isYear 384 = .ok (.ifCond .ne 58, 3) := by decide +kernel
theorem dL_isYear_387 : decode cL_isYear 387 = .ok (.aload_n 0, 1) := by decide +kernel
theorem dL_isYear_388 : decode cL_isYear 388 = .ok (.iload_n 3, 1) := by decide +kernel
theorem dL_isYear_389 : decode cL_isYear 389 = .ok (.invokevirtual 98, 3) := by decide +kernel
theorem dL_isYear_392 : decode cL_isYear 392 = .ok (.ifCond .lt 50, 3) := by decide +kernel
theorem dL_isYear_395 : decode cL_isYear 395 = .ok (.aload_n 0, 1) := by decide +kernel
theorem dL_isYear_396 : decode cL_isYear 396 = .ok (.iload_n 3, 1) := by decide +kernel
theorem dL_isYear_397 : decode cL_isYear 397 = .ok (.iload 4, 2) := by decide +kernel
theorem dL_isYear_399 : decode cL_isYear 399 = .ok (.invokestatic 101, 3) := by decide +kernel
theorem dL_isYear_402 : decode cL_isYear 402 = .ok (.ifCond .eq 40, 3) := by decide +kernel
theorem dL_isYear_405 : decode cL_isYear 405 = .ok (.iload 6, 2) := by decide +kernel
theorem dL_isYear_407 : decode cL_isYear 407 = .ok (.ifCond .ne 13, 3) := by decide +kernel
theorem dL_isYear_410 : decode cL_isYear 410 = .ok (.dload 7, 2) := by decide +kernel
theorem dL_isYear_412 : decode cL_isYear 412 = .ok (.dconst 0, 1) := by decide +kernel
theorem dL_isYear_413 : decode cL_isYear 413 = .ok (.dcmp .l, 1) := by decide +kernel
theorem dL_isYear_414 : decode cL_isYear 414 = .ok (.ifCond .ne 28, 3) := by decide +kernel
theorem dL_isYear_417 : decode cL_isYear 417 = .ok (.goto 21, 3) := by decide +kernel
theorem dL_isYear_420 : decode cL_isYear 420 = .ok (.dload 7, 2) := by decide +kernel
theorem dL_isYear_422 : decode cL_isYear 422 = .ok (.ldc2_w 105, 3) := by decide +kernel
theorem dL_isYear_425 : decode cL_isYear 425 = .ok (.dcmp .l, 1) := by decide +kernel
theorem dL_isYear_426 : decode cL_isYear 426 = .ok (.ifCond .le 16, 3) := by decide +kernel
theorem dL_isYear_429 : decode cL_isYear 429 = .ok (.dload 7, 2) := by decide +kernel
theorem dL_isYear_431 : decode cL_isYear 431 = .ok (.ldc2_w 107, 3) := by decide +kernel
theorem dL_isYear_434 : decode cL_isYear 434 = .ok (.dcmp .g, 1) := by decide +kernel
theorem dL_isYear_435 : decode cL_isYear 435 = .ok (.ifCond .ge 7, 3) := by decide +kernel
theorem dL_isYear_438 : decode cL_isYear 438 = .ok (.iconst 1, 1) := by decide +kernel
theorem dL_isYear_439 : decode cL_isYear 439 = .ok (.goto 4, 3) := by decide +kernel
theorem dL_isYear_442 : decode cL_isYear 442 = .ok (.iconst 0, 1) := by decide +kernel
theorem dL_isYear_443 : decode cL_isYear 443 = .ok (.ireturn, 1) := by decide +kernel
set_option maxRecDepth 20000 in
theorem ggL_isCost_X1_owners : GoodIn wsL_isCost wsX1_owners := goodIn_ca (goodIn_r _ [5, 6, 7, 8, 9, 4, 10, 11, 12, 13, 14, 15, 16, 17, 18, 19, 20, 21, 22, 23, 24, 25, 26, 27, 28, 29, 30, 31, 32, 33, 34, 35, 36, 37, 38, 39, 40, 41, 42, 43, 44, 55, 56, 57, 58, 59, 60, 61, 62, 63, 64, 65, 66, 67, 68, 69, 70, 71] (by decide +kernel) (by decide +kernel)) (goodIn_sub (fun _ h => List.mem_cons_of_mem _ (List.mem_append_left _ (List.mem_append_right _ h))) (by decide +kernel))
set_option maxRecDepth 20000 in
theorem gL_isCost_X1_owners : GoodIn wsL_isCost (wsV RL 98 RX1 yX1_owners wsX1_owners) := goodIn_app (goodIn_of _ (by decide +kernel)) ggL_isCost_X1_owners
set_option maxRecDepth 20000 in
theorem ggL_isCost_X1_setCost : GoodIn wsL_isCost wsX1_setCost := goodIn_ca (goodIn_ca (goodIn_r _ [48, 6, 49, 8, 9, 4, 10, 11, 12, 50, 51, 52, 53, 54, 55, 56, 57, 58, 59] (by decide +kernel) (by decide +kernel)) (goodIn_sub (fun _ h => List.mem_cons_of_mem _ (List.mem_append_left _ (List.mem_append_right _ h))) (by decide +kernel))) (goodIn_sub (fun _ h => List.mem_cons_of_mem _ (List.mem_append_right _ h)) (by decide +kernel))
set_option maxRecDepth 20000 in
theorem gL_isCost_X1_setCost : GoodIn wsL_isCost (wsV RL 20 RX1 yX1_setCost wsX1_setCost) := goodIn_app (goodIn_of _ (by decide +kernel)) ggL_isCost_X1_setCost
theorem dL_isCost_0 : decode cL_isCost 0 = .ok (.aload_n 0, 1) := by decide +kernel
theorem dL_isCost_1 : decode cL_isCost 1 = .ok (.iload_n 1, 1) := by decide +kernel
theorem dL_isCost_2 : decode cL_isCost 2 = .ok (.invokevirtual 98, 3) := by decide +kernel
theorem dL_isCost_5 : decode cL_isCost 5 = .ok (.istore_n 3, 1) := by decide +kernel
theorem dL_isCost_6 : decode cL_isCost 6 = .ok (.aload_n 0, 1) := by decide +kernel
theorem dL_isCost_7 : decode cL_isCost 7 = .ok (.iload_n 1, 1) := by decide +kernel
theorem dL_isCost_8 : decode cL_isCost 8 = .ok (.iconst 0, 1) := by decide +kernel
theorem dL_isCost_9 : decode cL_isCost 9 = .ok (.invokevirtual 20, 3) := by decide +kernel
theorem dL_isCost_12 : decode cL_isCost 12 = .ok (.istore 4, 2) := by decide +kernel
theorem dL_isCost_14 : decode cL_isCost 14 = .ok (.iload_n 2, 1) := by decide +kernel
theorem dL_isCost_15 : decode cL_isCost 15 = .ok (.iload_n 3, 1) := by decide +kernel
theorem dL_isCost_16 : decode cL_isCost 16 = .ok (.iadd, 1) := by decide +kernel
theorem dL_isCost_17 : decode cL_isCost 17 = .ok (.iload 4, 2) := by decide +kernel
theorem dL_isCost_19 : decode cL_isCost 19 = .ok (.if_icmp .ne 15, 3) := by decide +kernel
theorem dL_isCost_22 : decode cL_isCost 22 = .ok (.aload_n 0, 1) := by decide +kernel
theorem dL_isCost_23 : decode cL_isCost 23 = .ok (.iload_n 1, 1) := by decide +kernel
theorem dL_isCost_24 : decode cL_isCost 24 = .ok (.invokevirtual 98, 3) := by decide +kernel
theorem dL_isCost_27 : decode cL_isCost 27 = .ok (.ifCond .ne 7, 3) := by decide +kernel
theorem dL_isCost_30 : decode cL_isCost 30 = .ok (.iconst 1, 1) := by decide +kernel
theorem dL_isCost_31 : decode cL_isCost 31 = .ok (.goto 4, 3) := by decide +kernel
theorem dL_isCost_34 : decode cL_isCost 34 = .ok (.iconst 0, 1) := by decide +kernel
theorem dL_isCost_35 : decode cL_isCost 35 = .ok (.istore 5, 2) := by decide +kernel
theorem dL_isCost_37 : decode cL_isCost 37 = .ok (.aload_n 0, 1) := by decide +kernel
theorem dL_isCost_38 : decode cL_isCost 38 = .ok (.iload_n 1, 1) := by decide +kernel
theorem dL_isCost_39 : decode cL_isCost 39 = .ok (.iload 4, 2) := by decide +kernel
theorem dL_isCost_41 : decode cL_isCost 41 = .ok (.invokevirtual 20, 3) := by decide +kernel
theorem dL_isCost_44 : decode cL_isCost 44 = .ok (.ifCond .ne 21, 3) := by decide +kernel
theorem dL_isCost_47 : decode cL_isCost 47 = .ok (.iload 5, 2) := by decide +kernel
theorem dL_isCost_49 : decode cL_isCost 49 = .ok (.ifCond .eq 16, 3) := by decide +kernel
theorem dL_isCost_52 : decode cL_isCost 52 = .ok (.aload_n 0, 1) := by decide +kernel
theorem dL_isCost_53 : decode cL_isCost 53 = .ok (.iload_n 1, 1) := by decide +kernel
theorem dL_isCost_54 : decode cL_isCost 54 = .ok (.invokevirtual 98, 3) := by decide +kernel
theorem dL_isCost_57 : decode cL_isCost 57 = .ok (.iload_n 3, 1) := by decide +kernel
theorem dL_isCost_58 : decode cL_isCost 58 = .ok (.if_icmp .ne 7, 3) := by decide +kernel
theorem dL_isCost_61 : decode cL_isCost 61 = .ok (.iconst 1, 1) := by decide +kernel
theorem dL_isCost_62 : decode cL_isCost 62 = .ok (.goto 4, 3) := by decide +kernel
theorem dL_isCost_65 : decode cL_isCost 65 = .ok (.iconst 0, 1) := by decide +kernel
theorem dL_isCost_66 : decode cL_isCost 66 = .ok (.ireturn, 1) := by decide +kernel
set_option maxRecDepth 20000 in
theorem ggL_law_X1_init : GoodIn wsL_law wsX1_init := goodIn_r _ [6, 7, 8, 9, 3, 10, 11, 12, 13, 14, 15, 247, 248, 249, 250, 251] (by decide +kernel) (by decide +kernel)
set_option maxRecDepth 20000 in
theorem gL_law_X1_init : GoodIn wsL_law (wsX1_init) := ggL_law_X1_init
set_option maxRecDepth 20000 in
theorem ggL_law_X1_leases : GoodIn wsL_law wsX1_leases := goodIn_r _ [19, 15, 247, 248, 249, 250, 251] (by decide +kernel) (by decide +kernel)
set_option maxRecDepth 20000 in
theorem gL_law_X1_leases : GoodIn wsL_law (wsV RL 30 RX1 yX1_leases wsX1_leases) := goodIn_app (goodIn_of _ (by decide +kernel)) ggL_law_X1_leases
set_option maxRecDepth 20000 in
theorem ggL_law_X1_owners : GoodIn wsL_law wsX1_owners := goodIn_ca (goodIn_r _ [23, 12, 14, 24, 25, 2, 26, 27, 28, 29, 30, 31, 32, 10, 33, 34, 35, 36, 37, 38, 39, 40, 41, 42, 43, 44, 45, 46, 47, 48, 49, 50, 51, 52, 53, 54, 55, 56, 57, 58, 59, 247, 248, 249, 250, 251, 252, 253, 254, 255, 256, 257, 258, 259, 260, 261, 262, 263] (by decide +kernel) (by decide +kernel)) (goodIn_sub (fun _ h => List.mem_append_left _ (List.mem_append_left _ (List.mem_append_right _ h))) (by decide +kernel))
set_option maxRecDepth 20000 in
theorem gL_law_X1_owners : GoodIn wsL_law (wsV RL 98 RX1 yX1_owners wsX1_owners) := goodIn_app (goodIn_of _ (by decide +kernel)) ggL_law_X1_owners
set_option maxRecDepth 20000 in
theorem ggL_law_X1_share : GoodIn wsL_law wsX1_share := goodIn_ca (goodIn_r _ [63, 10, 24, 25, 2, 26, 27, 28, 38, 39, 40, 41, 247, 248, 249, 250, 251] (by decide +kernel) (by decide +kernel)) (goodIn_sub (fun _ h => List.mem_append_left _ (List.mem_append_left _ (List.mem_append_right _ h))) (by decide +kernel))
set_option maxRecDepth 20000 in
theorem gL_law_X1_share : GoodIn wsL_law (wsV RL 85 RX1 yX1_share wsX1_share) := goodIn_app (goodIn_of _ (by decide +kernel)) ggL_law_X1_share
set_option maxRecDepth 20000 in
theorem ggL_law_X1_voids : GoodIn wsL_law wsX1_voids := goodIn_ca (goodIn_r _ [67, 10, 24, 25, 2, 26, 27, 28, 68, 69, 70, 71, 14, 72, 48, 49, 45, 50, 51, 52, 35, 36, 37, 53, 54, 55, 56, 247, 248, 249, 250, 251, 252, 253, 254, 255, 256, 257, 258, 259, 260, 261, 262, 263] (by decide +kernel) (by decide +kernel)) (goodIn_sub (fun _ h => List.mem_append_left _ (List.mem_append_left _ (List.mem_append_right _ h))) (by decide +kernel))
set_option maxRecDepth 20000 in
theorem gL_law_X1_voids : GoodIn wsL_law (wsV RL 89 RX1 yX1_voids wsX1_voids) := goodIn_app (goodIn_of _ (by decide +kernel)) ggL_law_X1_voids
set_option maxRecDepth 20000 in
theorem ggL_law_L_draw : GoodIn wsL_law wsL_draw := goodIn_r _ [76, 77, 78, 79] (by decide +kernel) (by decide +kernel)
set_option maxRecDepth 20000 in
theorem gL_law_L_draw : GoodIn wsL_law (va_wsS RL 110 yL_draw wsL_draw) := goodIn_app (goodIn_of _ (by decide +kernel)) ggL_law_L_draw
set_option maxRecDepth 20000 in
theorem ggL_law_L_step : GoodIn wsL_law wsL_step := goodIn_ca (goodIn_ca (goodIn_ca (goodIn_r _ [82, 83, 84, 85, 86, 87, 2, 88, 10, 24, 25, 26, 27, 28, 89, 90, 91, 92, 93, 94, 95, 96, 97, 11, 98, 99, 100, 101, 12, 102, 103, 104, 75, 105, 16, 17, 18, 19, 15, 106, 107, 108, 109, 110, 111, 112, 14, 13, 113, 45, 68, 69, 70, 71, 72, 48, 49, 50, 51, 52, 35, 36, 37, 53, 54, 55, 56, 114, 115, 116, 117, 8, 9, 118, 119, 120, 121, 122, 3, 123, 124, 125, 126, 127, 128, 129, 130, 131, 132, 133, 134, 135, 136, 137, 138, 139, 140, 141, 142, 143, 144, 145, 146, 147, 148, 149, 150, 151, 152, 153, 154, 155, 156, 57, 58, 59, 157, 158, 159, 160, 161, 162, 163, 164, 165, 166, 167, 168, 169, 170, 171, 172, 173, 174, 175, 176, 177, 178, 179, 180, 181, 182, 183, 184, 185, 186, 187, 188, 189, 190, 191, 192, 193, 194, 195, 196, 197, 198, 199, 247, 248, 249, 250, 251, 252, 253, 254, 255, 256, 257, 258, 259, 260, 261, 262, 263] rfl (by decide +kernel)) (goodIn_sub (fun _ h => List.mem_append_left _ (List.mem_append_left _ (List.mem_append_right _ h))) (by decide +kernel))) (goodIn_sub (fun _ h => List.mem_append_left _ (List.mem_append_right _ h)) (by decide +kernel))) (goodIn_sub (fun _ h => List.mem_append_right _ h) (by decide +kernel))
set_option maxRecDepth 20000 in
theorem gL_law_L_step : GoodIn wsL_law (va_wsS RL 113 yL_step wsL_step) := goodIn_app (goodIn_of _ (by decide +kernel)) ggL_law_L_step
set_option maxRecDepth 20000 in
theorem ggL_law_L_isLease : GoodIn wsL_law wsL_isLease := goodIn_ca (goodIn_ca (goodIn_r _ [202, 136, 137, 138, 2, 139, 140, 141, 142, 143, 27, 28, 14, 24, 25, 26, 144, 145, 146, 147, 11, 148, 55, 36, 56, 132, 133, 134, 45, 135, 53, 51, 149, 150, 151, 152, 118, 153, 154, 155, 156, 127, 125, 123, 124, 57, 58, 59, 157, 158, 159, 160, 161, 162, 163, 164, 119, 128, 129, 130, 131, 10, 203, 204, 205, 206, 207, 208, 209, 210, 211, 212, 213, 214, 215, 216, 217, 218, 219, 220, 221, 222, 34, 35, 37, 223, 224, 225, 226, 227, 228, 229, 230, 89, 90, 91, 92, 93, 247, 248, 249, 250, 251, 252, 253, 254, 255, 256, 257, 258, 259, 260, 261, 262, 263] rfl (by decide +kernel)) (goodIn_sub (fun _ h => List.mem_append_left _ (List.mem_append_left _ (List.mem_append_right _ h))) (by decide +kernel))) (goodIn_sub (fun _ h => List.mem_append_left _ (List.mem_append_right _ h)) (by decide +kernel))
set_option maxRecDepth 20000 in
theorem gL_law_L_isLease : GoodIn wsL_law (va_wsS RL 116 yL_isLease wsL_isLease) := goodIn_app (goodIn_of _ (by decide +kernel)) ggL_law_L_isLease
set_option maxRecDepth 20000 in
theorem ggL_law_L_isYear : GoodIn wsL_law wsL_isYear := goodIn_ca (goodIn_ca (goodIn_r _ [233, 234, 235, 60, 61, 62, 2, 63, 10, 24, 25, 26, 27, 28, 38, 39, 40, 41, 64, 65, 66, 67, 68, 69, 70, 71, 14, 72, 48, 49, 45, 50, 51, 52, 35, 36, 37, 53, 54, 55, 56, 236, 237, 238, 239, 12, 140, 141, 142, 143, 29, 30, 31, 32, 33, 34, 42, 43, 44, 46, 47, 57, 58, 59, 240, 241, 242, 243, 20, 21, 22, 23, 244, 245, 75, 246, 98, 99, 100, 101, 102, 89, 90, 91, 92, 93, 247, 248, 249, 250, 251, 252, 253, 254, 255, 256, 257, 258, 259, 260, 261, 262, 263] rfl (by decide +kernel)) (goodIn_sub (fun _ h => List.mem_append_left _ (List.mem_append_left _ (List.mem_append_right _ h))) (by decide +kernel))) (goodIn_sub (fun _ h => List.mem_append_left _ (List.mem_append_right _ h)) (by decide +kernel))
set_option maxRecDepth 20000 in
theorem gL_law_L_isYear : GoodIn wsL_law (va_wsS RL 120 yL_isYear wsL_isYear) := goodIn_app (goodIn_of _ (by decide +kernel)) ggL_law_L_isYear
theorem dL_law_0 : decode cL_law 0 = .ok (.new 11, 3) := by decide +kernel
theorem dL_law_3 : decode cL_law 3 = .ok (.dup, 1) := by decide +kernel
theorem dL_law_4 : decode cL_law 4 = .ok (.invokespecial 109, 3) := by decide +kernel
theorem dL_law_7 : decode cL_law 7 = .ok (.astore_n 1, 1) := by decide +kernel
theorem dL_law_8 : decode cL_law 8 = .ok (.bipush 60, 2) := by decide +kernel
theorem dL_law_10 : decode cL_law 10 = .ok (.newarray .int, 2) := by decide +kernel
theorem dL_law_12 : decode cL_law 12 = .ok (.astore_n 2, 1) := by decide +kernel
theorem dL_law_13 : decode cL_law 13 = .ok (.bipush 7, 2) := by decide +kernel
theorem dL_law_15 : decode cL_law 15 = .ok (.newarray .int, 2) := by decide +kernel
theorem dL_law_17 : decode cL_law 17 = .ok (.astore_n 3, 1) := by decide +kernel
theorem dL_law_18 : decode cL_law 18 = .ok (.bipush 12, 2) := by decide +kernel
theorem dL_law_20 : decode cL_law 20 = .ok (.newarray .int, 2) := by decide +kernel
theorem dL_law_22 : decode cL_law 22 = .ok (.astore 4, 2) := by decide +kernel
theorem dL_law_24 : decode cL_law 24 = .ok (.bipush 36, 2) := by decide +kernel
theorem dL_law_26 : decode cL_law 26 = .ok (.newarray .int, 2) := by decide +kernel
theorem dL_law_28 : decode cL_law 28 = .ok (.astore 5, 2) := by decide +kernel
theorem dL_law_30 : decode cL_law 30 = .ok (.aload_n 1, 1) := by decide +kernel
theorem dL_law_31 : decode cL_law 31 = .ok (.invokevirtual 30, 3) := by decide +kernel
theorem dL_law_34 : decode cL_law 34 = .ok (.ifCond .ne 38, 3) := by decide +kernel
theorem dL_law_37 : decode cL_law 37 = .ok (.aload_n 1, 1) := by decide +kernel
theorem dL_law_38 : decode cL_law 38 = .ok (.bipush 19, 2) := by decide +kernel
theorem dL_law_40 : decode cL_law 40 = .ok (.invokevirtual 98, 3) := by decide +kernel
theorem dL_law_43 : decode cL_law 43 = .ok (.ifCond .ne 29, 3) := by decide +kernel
theorem dL_law_46 : decode cL_law 46 = .ok (.aload_n 1, 1) := by decide +kernel
theorem dL_law_47 : decode cL_law 47 = .ok (.iconst 0, 1) := by decide +kernel
theorem dL_law_48 : decode cL_law 48 = .ok (.invokevirtual 85, 3) := by decide +kernel
theorem dL_law_51 : decode cL_law 51 = .ok (.dconst 0, 1) := by decide +kernel
theorem dL_law_52 : decode cL_law 52 = .ok (.dcmp .l, 1) := by decide +kernel
theorem dL_law_53 : decode cL_law 53 = .ok (.ifCond .ne 19, 3) := by decide +kernel
theorem dL_law_56 : decode cL_law 56 = .ok (.aload_n 1, 1) := by decide +kernel
theorem dL_law_57 : decode cL_law 57 = .ok (.iconst 5, 1) := by decide +kernel
theorem dL_law_58 : decode cL_law 58 = .ok (.iconst 0, 1) := by decide +kernel
theorem dL_law_59 : decode cL_law 59 = .ok (.invokevirtual 89, 3) := by decide +kernel
theorem dL_law_62 : decode cL_law 62 = .ok (.sipush 360, 3) := by decide +kernel
theorem dL_law_65 : decode cL_law 65 = .ok (.if_icmp .ne 7, 3) := by decide +kernel
theorem dL_law_68 : decode cL_law 68 = .ok (.iconst 1, 1) := by decide +kernel
theorem dL_law_69 : decode cL_law 69 = .ok (.goto 4, 3) := by decide +kernel
theorem dL_law_72 : decode cL_law 72 = .ok (.iconst 0, 1) := by decide +kernel
theorem dL_law_73 : decode cL_law 73 = .ok (.istore 6, 2) := by decide +kernel
theorem dL_law_75 : decode cL_law 75 = .ok (.aload_n 0, 1) := by decide +kernel
theorem dL_law_76 : decode cL_law 76 = .ok (.arraylength, 1) := by decide +kernel
theorem dL_law_77 : decode cL_law 77 = .ok (.iconst 3, 1) := by decide +kernel
theorem dL_law_78 : decode cL_law 78 = .ok (.idiv, 1) := by decide +kernel
theorem dL_law_79 : decode cL_law 79 = .ok (.bipush 60, 2) := by decide +kernel
theorem dL_law_81 : decode cL_law 81 = .ok (.if_icmp .le 8, 3) := by decide +kernel
theorem dL_law_84 : decode cL_law 84 = .ok (.bipush 60, 2) := by decide +kernel
theorem dL_law_86 : decode cL_law 86 = .ok (.goto 7, 3) := by decide +kernel
theorem dL_law_89 : decode cL_law 89 = .ok (.aload_n 0, 1) := by decide +kernel
theorem dL_law_90 : decode cL_law 90 = .ok (.arraylength, 1) := by decide +kernel
theorem dL_law_91 : decode cL_law 91 = .ok (.iconst 3, 1) := by decide +kernel
theorem dL_law_92 : decode cL_law 92 = .ok (.idiv, 1) := by decide +kernel
theorem dL_law_93 : decode cL_law 93 = .ok (.istore 7, 2) := by decide +kernel
theorem dL_law_95 : decode cL_law 95 = .ok (.iconst 0, 1) := by decide +kernel
theorem dL_law_96 : decode cL_law 96 = .ok (.istore 8, 2) := by decide +kernel
theorem dL_law_98 : decode cL_law 98 = .ok (.iload 8, 2) := by decide +kernel
theorem dL_law_100 : decode cL_law 100 = .ok (.iload 7, 2) := by decide +kernel
theorem dL_law_102 : decode cL_law 102 = .ok (.if_icmp .ge 193, 3) := by decide +kernel
theorem dL_law_105 : decode cL_law 105 = .ok (.iload 6, 2) := by decide +kernel
theorem dL_law_107 : decode cL_law 107 = .ok (.ifCond .eq 188, 3) := by decide +kernel
theorem dL_law_110 : decode cL_law 110 = .ok (.aload_n 0, 1) := by decide +kernel
theorem dL_law_111 : decode cL_law 111 = .ok (.iconst 3, 1) := by decide +kernel
theorem dL_law_112 : decode cL_law 112 = .ok (.iload 8, 2) := by decide +kernel
theorem dL_law_114 : decode cL_law 114 = .ok (.imul, 1) := by decide +kernel
theorem dL_law_115 : decode cL_law 115 = .ok (.iconst 1, 1) := by decide +kernel
theorem dL_law_116 : decode cL_law 116 = .ok (.iadd, 1) := by decide +kernel
theorem dL_law_117 : decode cL_law 117 = .ok (.invokestatic 110, 3) := by decide +kernel
theorem dL_law_120 : decode cL_law 120 = .ok (.istore 9, 2) := by decide +kernel
theorem dL_law_122 : decode cL_law 122 = .ok (.aload_n 0, 1) := by decide +kernel
theorem dL_law_123 : decode cL_law 123 = .ok (.iconst 3, 1) := by decide +kernel
theorem dL_law_124 : decode cL_law 124 = .ok (.iload 8, 2) := by decide +kernel
theorem dL_law_126 : decode cL_law 126 = .ok (.imul, 1) := by decide +kernel
theorem dL_law_127 : decode cL_law 127 = .ok (.iconst 2, 1) := by decide +kernel
theorem dL_law_128 : decode cL_law 128 = .ok (.iadd, 1) := by decide +kernel
theorem dL_law_129 : decode cL_law 129 = .ok (.invokestatic 110, 3) := by decide +kernel
theorem dL_law_132 : decode cL_law 132 = .ok (.istore 10, 2) := by decide +kernel
theorem dL_law_134 : decode cL_law 134 = .ok (.aload_n 1, 1) := by decide +kernel
theorem dL_law_135 : decode cL_law 135 = .ok (.aload_n 2, 1) := by decide +kernel
theorem dL_law_136 : decode cL_law 136 = .ok (.aload_n 3, 1) := by decide +kernel
theorem dL_law_137 : decode cL_law 137 = .ok (.aload 4, 2) := by decide +kernel
theorem dL_law_139 : decode cL_law 139 = .ok (.aload 5, 2) := by decide +kernel
theorem dL_law_141 : decode cL_law 141 = .ok (.aload_n 0, 1) := by decide +kernel
theorem dL_law_142 : decode cL_law 142 = .ok (.iconst 3, 1) := by decide +kernel
theorem dL_law_143 : decode cL_law 143 = .ok (.iload 8, 2) := by decide +kernel
theorem dL_law_145 : decode cL_law 145 = .ok (.imul, 1) := by decide +kernel
theorem dL_law_146 : decode cL_law 146 = .ok (.invokestatic 110, 3) := by decide +kernel
theorem dL_law_149 : decode cL_law 149 = .ok (.iload 9, 2) := by decide +kernel
theorem dL_law_151 : decode cL_law 151 = .ok (.iload 10, 2) := by decide +kernel
theorem dL_law_153 : decode cL_law 153 = .ok (.invokestatic 113, 3) := by decide +kernel
theorem dL_law_156 : decode cL_law 156 = .ok (.istore 6, 2) := by decide +kernel
theorem dL_law_158 : decode cL_law 158 = .ok (.iload 6, 2) := by decide +kernel
theorem dL_law_160 : decode cL_law 160 = .ok (.ifCond .eq 129, 3) := by decide +kernel
theorem dL_law_163 : decode cL_law 163 = .ok (.iload 8, 2) := by decide +kernel
theorem dL_law_165 : decode cL_law 165 = .ok (.iconst 4, 1) := by decide +kernel
theorem dL_law_166 : decode cL_law 166 = .ok (.irem, 1) := by decide +kernel
theorem dL_law_167 : decode cL_law 167 = .ok (.iconst 3, 1) := by decide +kernel
theorem dL_law_168 : decode cL_law 168 = .ok (.if_icmp .ne 121, 3) := by decide +kernel
theorem dL_law_171 : decode cL_law 171 = .ok (.aload_n 3, 1) := by decide +kernel
theorem dL_law_172 : decode cL_law 172 = .ok (.iconst 0, 1) := by decide +kernel
theorem dL_law_173 : decode cL_law 173 = .ok (.iaload, 1) := by decide +kernel
theorem dL_law_174 : decode cL_law 174 = .ok (.ifCond .le 115, 3) := by decide +kernel
theorem dL_law_177 : decode cL_law 177 = .ok (.iload 10, 2) := by decide +kernel
theorem dL_law_179 : decode cL_law 179 = .ok (.aload_n 3, 1) := by decide +kernel
theorem dL_law_180 : decode cL_law 180 = .ok (.iconst 0, 1) := by decide +kernel
theorem dL_law_181 : decode cL_law 181 = .ok (.iaload, 1) := by decide +kernel
theorem dL_law_182 : decode cL_law 182 = .ok (.irem, 1) := by decide +kernel
theorem dL_law_183 : decode cL_law 183 = .ok (.istore 11, 2) := by decide +kernel
theorem dL_law_185 : decode cL_law 185 = .ok (.iload 9, 2) := by decide +kernel
theorem dL_law_187 : decode cL_law 187 = .ok (.iconst 3, 1) := by decide +kernel
theorem dL_law_188 : decode cL_law 188 = .ok (.irem, 1) := by decide +kernel
theorem dL_law_189 : decode cL_law 189 = .ok (.ifCond .ne 12, 3) := by decide +kernel
theorem dL_law_192 : decode cL_law 192 = .ok (.iload 9, 2) := by decide +kernel
theorem dL_law_194 : decode cL_law 194 = .ok (.sipush 240, 3) := by decide +kernel
theorem dL_law_197 : decode cL_law 197 = .ok (.irem, 1) := by decide +kernel
theorem dL_law_198 : decode cL_law 198 = .ok (.goto 19, 3) := by decide +kernel
theorem dL_law_201 : decode cL_law 201 = .ok (.aload_n 2, 1) := by decide +kernel
theorem dL_law_202 : decode cL_law 202 = .ok (.bipush 12, 2) := by decide +kernel
theorem dL_law_204 : decode cL_law 204 = .ok (.iload 11, 2) := by decide +kernel
theorem dL_law_206 : decode cL_law 206 = .ok (.iadd, 1) := by decide +kernel
theorem dL_law_207 : decode cL_law 207 = .ok (.iaload, 1) := by decide +kernel
theorem dL_law_208 : decode cL_law 208 = .ok (.bipush 30, 2) := by decide +kernel
theorem dL_law_210 : decode cL_law 210 = .ok (.idiv, 1) := by decide +kernel
theorem dL_law_211 : decode cL_law 211 = .ok (.iload 9, 2) := by decide +kernel
theorem dL_law_213 : decode cL_law 213 = .ok (.bipush 9, 2) := by decide +kernel
theorem dL_law_215 : decode cL_law 215 = .ok (.irem, 1) := by decide +kernel
theorem dL_law_216 : decode cL_law 216 = .ok (.iadd, 1) := by decide +kernel
theorem dL_law_217 : decode cL_law 217 = .ok (.istore 12, 2) := by decide +kernel
theorem dL_law_219 : decode cL_law 219 = .ok (.aload_n 1, 1) := by decide +kernel
theorem dL_law_220 : decode cL_law 220 = .ok (.aload_n 2, 1) := by decide +kernel
theorem dL_law_221 : decode cL_law 221 = .ok (.aload 5, 2) := by decide +kernel
theorem dL_law_223 : decode cL_law 223 = .ok (.iload 11, 2) := by decide +kernel
theorem dL_law_225 : decode cL_law 225 = .ok (.iload 12, 2) := by decide +kernel
theorem dL_law_227 : decode cL_law 227 = .ok (.sipush 239, 3) := by decide +kernel
theorem dL_law_230 : decode cL_law 230 = .ok (.if_icmp .le 9, 3) := by decide +kernel
theorem dL_law_233 : decode cL_law 233 = .ok (.sipush 239, 3) := by decide +kernel
theorem dL_law_236 : decode cL_law 236 = .ok (.goto 5, 3) := by decide +kernel
theorem dL_law_239 : decode cL_law 239 = .ok (.iload 12, 2) := by decide +kernel
theorem dL_law_241 : decode cL_law 241 = .ok (.invokestatic 116, 3) := by decide +kernel
theorem dL_law_244 : decode cL_law 244 = .ok (.ifCond .eq 42, 3) := by decide +kernel
theorem dL_law_247 : decode cL_law 247 = .ok (.aload_n 1, 1) := by decide +kernel
theorem dL_law_248 : decode cL_law 248 = .ok (.aload_n 2, 1) := by decide +kernel
theorem dL_law_249 : decode cL_law 249 = .ok (.aload_n 3, 1) := by decide +kernel
theorem dL_law_250 : decode cL_law 250 = .ok (.iload 9, 2) := by decide +kernel
theorem dL_law_252 : decode cL_law 252 = .ok (.iconst 3, 1) := by decide +kernel
theorem dL_law_253 : decode cL_law 253 = .ok (.irem, 1) := by decide +kernel
theorem dL_law_254 : decode cL_law 254 = .ok (.ifCond .ne 11, 3) := by decide +kernel
theorem dL_law_257 : decode cL_law 257 = .ok (.iload 9, 2) := by decide +kernel
theorem dL_law_259 : decode cL_law 259 = .ok (.bipush 20, 2) := by decide +kernel
theorem dL_law_261 : decode cL_law 261 = .ok (.irem, 1) := by decide +kernel
theorem dL_law_262 : decode cL_law 262 = .ok (.goto 14, 3) := by decide +kernel
theorem dL_law_265 : decode cL_law 265 = .ok (.aload_n 2, 1) := by decide +kernel
theorem dL_law_266 : decode cL_law 266 = .ok (.bipush 12, 2) := by decide +kernel
theorem dL_law_268 : decode cL_law 268 = .ok (.iload 11, 2) := by decide +kernel
theorem dL_law_270 : decode cL_law 270 = .ok (.iadd, 1) := by decide +kernel
theorem dL_law_271 : decode cL_law 271 = .ok (.iaload, 1) := by decide +kernel
theorem dL_law_272 : decode cL_law 272 = .ok (.sipush 360, 3) := by decide +kernel
theorem dL_law_275 : decode cL_law 275 = .ok (.idiv, 1) := by decide +kernel
theorem dL_law_276 : decode cL_law 276 = .ok (.invokestatic 120, 3) := by decide +kernel
theorem dL_law_279 : decode cL_law 279 = .ok (.ifCond .eq 7, 3) := by decide +kernel
theorem dL_law_282 : decode cL_law 282 = .ok (.iconst 1, 1) := by decide +kernel
theorem dL_law_283 : decode cL_law 283 = .ok (.goto 4, 3) := by decide +kernel
theorem dL_law_286 : decode cL_law 286 = .ok (.iconst 0, 1) := by decide +kernel
theorem dL_law_287 : decode cL_law 287 = .ok (.istore 6, 2) := by decide +kernel
theorem dL_law_289 : decode cL_law 289 = .ok (.iinc 8 1, 3) := by decide +kernel
theorem dL_law_292 : decode cL_law 292 = .ok (.goto (-194), 3) := by decide +kernel
theorem dL_law_295 : decode cL_law 295 = .ok (.iload 6, 2) := by decide +kernel
theorem dL_law_297 : decode cL_law 297 = .ok (.ireturn, 1) := by decide +kernel
abbrev vwCl : List vw_C := [(RX0, TX0, 12), (RX1, TX1, 5)]
/-! ===== END printed: names ===== -/
end
section
/-! my own layer over the kit: one world for the whole system, cells by their roles -/
abbrev St : Type := Nat → Nat → Int32
abbrev GG : Type := Nat × va_G × (Nat → ClassId)
abbrev xI : String := "java/lang/IndexOutOfBoundsException"
abbrev xA : String := "java/lang/IllegalArgumentException"
abbrev xS : String := "java/lang/IllegalStateException"
abbrev xnm : List String := ["java/lang/RuntimeException", "java/lang/Exception"]
abbrev xstr : List (Nat × String) := [(41, "no more leases"), (50, "the unit is let on one of these days"), (69, "no more steps"), (99, "less is held"), (128, "no such number"), (133, "out of range"), (136, "no such lease")]
abbrev nstL : List (Nat × String) := [(101, "unit"), (59, "from"), (62, "to"), (71, "steps"), (74, "free"), (77, "every"), (80, "cap"), (83, "prepaid"), (90, "deposit")]
def us (σ : St) (a i : Nat) (x : Int32) : St := fun b => if b = a then upd (σ b) i x else σ b
def wl (N : Nat) (ad : Nat → Nat) (ct : Nat → va_E) : va_W := (List.range N).map fun r => (ad r, ct r)
theorem wl_get {N r : Nat} {ad : Nat → Nat} {ct : Nat → va_E} (h : r < N) : (wl N ad ct)[r]? = some (ad r, ct r) := by simp [wl, h]
theorem wl_inv {N k : Nat} {ad : Nat → Nat} {ct : Nat → va_E} {q : Nat × va_E} (h : (wl N ad ct)[k]? = some q) : k < N ∧ q = (ad k, ct k) := by
  simp only [wl, List.getElem?_map] at h
  by_cases hk : k < N
  · rw [List.getElem?_range hk] at h
    exact ⟨hk, (Option.some.inj h).symm⟩
  · rw [List.getElem?_eq_none (by simpa using Nat.not_lt.mp hk)] at h
    cases h
theorem wl_ext {N : Nat} {ad ad' : Nat → Nat} {ct ct' : Nat → va_E} (h1 : ∀ r, r < N → ad r = ad' r) (h2 : ∀ r, r < N → ct r = ct' r) : wl N ad ct = wl N ad' ct' := by
  unfold wl
  refine List.map_congr_left (fun r hr => ?_)
  have := List.mem_range.mp hr
  rw [h1 r this, h2 r this]
theorem wl_set {N r : Nat} {ad : Nat → Nat} {ct : Nat → va_E} {e : va_E} (h : r < N) : (wl N ad ct).set r (ad r, e) = wl N ad (va_up ct r e) := by
  apply List.ext_getElem?
  intro i
  by_cases hi : i < N
  · rw [wl_get hi]
    by_cases hr : r = i
    · subst hr
      rw [List.getElem?_set_self (by simpa [wl] using hi), va_up_self]
    · rw [List.getElem?_set_ne hr, wl_get hi, va_up_ne _ _ (fun h => hr h.symm)]
  · rw [List.getElem?_eq_none (by simpa [wl] using Nat.not_lt.mp hi), List.getElem?_eq_none (by simpa [wl] using Nat.not_lt.mp hi)]
theorem wl_push {N q : Nat} {ad : Nat → Nat} {ct : Nat → va_E} {e : va_E} : wl N ad ct ++ [(q, e)] = wl (N + 1) (va_up ad N q) (va_up ct N e) := by
  unfold wl
  rw [List.range_succ, List.map_append]
  congr 1
  · refine List.map_congr_left (fun r hr => ?_)
    have h := Nat.ne_of_lt (List.mem_range.mp hr)
    rw [va_up_ne _ _ h, va_up_ne _ _ h]
  · simp [va_up_self]
/-- what a method that may throw asks of the start -/
def Xs (lo : Nat) (U : State) : Prop := (va_Nw (.castable xI xI) U ∧ va_Nw (.castable xA xA) U ∧ va_Nw (.castable xS xS) U) ∧ (va_Nc xA xI U ∧ va_Nc xS xI U ∧ va_Nc xS xA U) ∧ vx_Zq Bundle.tN "UNASSIGNED_STACK" Bundle.steD (fun q => lo ≤ q) U U.heap ∧ vx_Zq Bundle.tN "SUPPRESSED_SENTINEL" Bundle.listD (fun q => lo ≤ q) U U.heap ∧ (∀ q ∈ xstr, ∃ sa : Nat, vk_R "Voidrent" q.1 q.2 sa U) ∧ va_Nw (.declares (Bundle.initS "java/lang/RuntimeException")) U ∧ va_Nw (.declares (Bundle.initS "java/lang/Exception")) U ∧ va_Nw (.declares (Bundle.initS Bundle.tN)) U ∧ ∀ q ∈ nstL, va_Nw (.fieldLinkNest "Voidrent" q.1 "Voidrent$Lease" q.2 "I" "Voidrent") U
theorem Xs.go {lo : Nat} {s U : State} {H : Heap} {locs : List Loc} (h : Xs lo s) (hS : va_S (fun q => lo ≤ q) s.heap H locs) (hU : U.heap = H) (hW : s.WarmedH U.vm) : Xs lo U := by
  obtain ⟨⟨a1, a2, a3⟩, ⟨b1, b2, b3⟩, c1, c2, d, f1, f2, f3, f4⟩ := h
  refine ⟨⟨va_Nw.warmC hW a1, va_Nw.warmC hW a2, va_Nw.warmC hW a3⟩, ⟨b1.moved hW.alike, b2.moved hW.alike, b3.moved hW.alike⟩, ?_, ?_, fun q hq => ?_, va_Nw.warmD hW f1, va_Nw.warmD hW f2, va_Nw.warmD hW f3, fun q hq => va_Nw.warmF hW (f4 q hq)⟩
  · rw [hU]; exact vx_Zq.moved hW.alike (c1.kept hS.2.1)
  · rw [hU]; exact vx_Zq.moved hW.alike (c2.kept hS.2.1)
  · obtain ⟨sa, h⟩ := d q hq
    exact ⟨sa, vk_R.warm hW h⟩
abbrev tyL (G : GG) : List (ClassId × FieldType) := [(G.2.2 0, .int), (G.2.2 1, .object RX0)]
abbrev gF (G : GG) : Nat → Prop := fun q => G.1 ≤ q
/-- the walk's state: tables, world, frame, start -/
def Sy (G : GG) (N : Nat) (ad : Nat → Nat) (ct : Nat → va_E) (s : State) (H : Heap) (locs : List Loc) : Prop := va_K G.2.1 vwCl (tyL G) s ∧ va_P G.2.1 vwCl (wl N ad ct) H ∧ va_D (gF G) (wl N ad ct) ∧ va_S (gF G) s.heap H locs ∧ G.1 ≤ s.heap.size ∧ Xs G.1 s
def Sz (G : GG) (N : Nat) (ad : Nat → Nat) (ct : Nat → va_E) (t : State) : Prop := va_K G.2.1 vwCl (tyL G) t ∧ va_P G.2.1 vwCl (wl N ad ct) t.heap ∧ va_D (gF G) (wl N ad ct)
theorem Sy.pre {G : GG} {N : Nat} {ad : Nat → Nat} {ct : Nat → va_E} {s U : State} {H : Heap} {locs : List Loc} (h : Sy G N ad ct s H locs) (hU : U.heap = H) (hW : s.WarmedH U.vm) : Sy G N ad ct U U.heap [] := by
  obtain ⟨hK, hP, hD, hS, hlo, hX⟩ := h
  exact ⟨va_K.moved hW.alike hK, by rw [hU]; exact hP, hD, va_S.rf, by rw [hU]; exact Nat.le_trans hlo hS.1, hX.go hS hU hW⟩
theorem Sy.blind {G : GG} {N : Nat} {ad : Nat → Nat} {ct : Nat → va_E} {av : List Value} : FrameBlind (va_Pc av (fun U => Sy G N ad ct U U.heap [])) := by
  intro a U g mk h
  exact ⟨h.1, h.2.pre rfl (State.WarmedH.refl U)⟩
theorem Sy.post {G : GG} {N : Nat} {ad : Nat → Nat} {ct : Nat → va_E} {s t : State} {H : Heap} {locs : List Loc} (h : Sy G N ad ct s H locs) (ht : t.heap = H) (hW : s.vm.Alike t.vm) : Sz G N ad ct t := by
  obtain ⟨hK, hP, hD, hS, hlo, hX⟩ := h
  exact ⟨va_K.moved hW hK, by rw [ht]; exact hP, hD⟩
theorem Sy.back {G : GG} {N N' : Nat} {ad ad' : Nat → Nat} {ct ct' : Nat → va_E} {s t : State} {H H1 : Heap} {locs locs1 : List Loc} (h : Sy G N ad ct s H locs) (hz : Sz G N' ad' ct' t) (ht : t.heap = H1) (hW : s.vm.Alike t.vm) (hS : va_S (gF G) s.heap H1 locs1) : Sy G N' ad' ct' s H1 locs1 := by
  obtain ⟨hK, hP, hD, -, hlo, hX⟩ := h
  obtain ⟨-, hP1, hD1⟩ := hz
  exact ⟨hK, by rw [← ht]; exact hP1, hD1, hS, hlo, hX⟩
theorem Sy.ctE {G : GG} {N : Nat} {ad : Nat → Nat} {ct ct' : Nat → va_E} {s : State} {H : Heap} {locs : List Loc} (h : Sy G N ad ct s H locs) (he : ∀ r, r < N → ct r = ct' r) : Sy G N ad ct' s H locs := by
  unfold Sy at h ⊢
  rw [← wl_ext (fun r _ => rfl) he]
  exact h
theorem Sy.adE {G : GG} {N : Nat} {ad ad' : Nat → Nat} {ct ct' : Nat → va_E} {s : State} {H : Heap} {locs : List Loc} (h : Sy G N ad ct s H locs) (h1 : ∀ r, r < N → ad r = ad' r) (he : ∀ r, r < N → ct r = ct' r) : Sy G N ad' ct' s H locs := by
  unfold Sy at h ⊢
  rw [← wl_ext h1 he]
  exact h
theorem Sy.inj {G : GG} {N : Nat} {ad : Nat → Nat} {ct : Nat → va_E} {s : State} {H : Heap} {locs : List Loc} (h : Sy G N ad ct s H locs) {i j : Nat} (hi : i < N) (hj : j < N) (e : ad i = ad j) : i = j := h.2.2.1.1 i j _ _ (wl_get hi) (wl_get hj) e
section GB
variable {p : Program} {l : Launch} {e : Env} {R : Room} {s : State} {m : MethodId} {args : Array Value} {below : List Frame} {meth : Method} {c : Code} {H : Heap} {locs : List Loc} {cells slots : Nat} {Q : State → Prop}
variable {cc : ByteArray} {nL : Nat} {Ts : List Cond} {own : String} {pc : Nat} {ls : Array Slot} {rest st0 : List Value} {G : GG} {N N' : Nat} {ad ad' : Nat → Nat} {ct ct' : Nat → va_E} {mc ms : Nat}
theorem g_get (hC : CallFix p m c cc nL s args Ts own) (hY : Sy G N ad ct s H locs) (r : Nat) (hr : r < N) {ci : Nat} {fs : List Value} (hct : ct r = .inr (ci, fs)) {q : vw_C} (hc : vwCl[ci]? = some q) (hin : ∀ w ∈ u_ws q.1 q.2.1 q.2.2, w ∈ Ts) (k : Nat) (hk : k < q.2.2) {index : Nat} (hlink : (Cond.fieldLink own index (q.2.1 k).1 (q.2.1 k).2.1 (q.2.1 k).2.2.1) ∈ Ts) {v : Value} (hv : fs[k]? = some v) (hdg : decode cc pc = .ok (.getfield index, 3))
    (kk : W p l e R s m args below meth c H locs cells slots Q (F0 m (pc + 3) ls (v :: rest))) : W p l e R s m args below meth c H locs cells slots Q (F0 m pc ls (.ref (ad r) :: rest)) := by
  obtain ⟨hx, hb, hml, hown, hts⟩ := hC
  obtain ⟨hK, hP, hD, hS, hlo, hX⟩ := hY
  have he := wl_get (ad := ad) (ct := ct) hr
  rw [hct] at he
  exact va_get (C := q.1) (T := q.2.1) (N := q.2.2) hx hb hts hin hown hK hP r he (by rw [hc]) k hk (hts _ hlink) (fun _ h => h) hv hdg kk
theorem g_put (hC : CallFix p m c cc nL s args Ts own) (hY : Sy G N ad ct s H locs) (r : Nat) (hr : r < N) {ci : Nat} {fs : List Value} (hct : ct r = .inr (ci, fs)) {q : vw_C} (hc : vwCl[ci]? = some q) (hin : ∀ w ∈ u_ws q.1 q.2.1 q.2.2, w ∈ Ts) (ty0 : Nat → FieldType) (hty : ∀ k, k < q.2.2 → parseFieldDescriptor (q.2.1 k).2.2.1 = some (ty0 k)) (hnm : ∀ a, a < q.2.2 → ∀ b, b < q.2.2 → a ≠ b → (q.2.1 a).2.1 ≠ (q.2.1 b).2.1) (k : Nat) (hk : k < q.2.2) {index : Nat} (hlink : (Cond.fieldLink own index (q.2.1 k).1 (q.2.1 k).2.1 (q.2.1 k).2.2.1) ∈ Ts) (hfin : (q.2.1 k).2.2.2 = false ∨ ((q.2.1 k).2.2.2 = true ∧ meth.name = "<init>" ∧ (q.2.1 k).1 = own)) {v : Value} (hn : narrow (ty0 k) v = v) (hfit : fits (ty0 k) v = true) (hl : k < fs.length) (hdg : decode cc pc = .ok (.putfield index, 3))
    (kk : ∀ (H1 : Heap) (locs1 : List Loc), Sy G N ad (va_up ct r (.inr (ci, fs.set k v))) s H1 locs1 → W p l e R s m args below meth c H1 locs1 cells slots Q (F0 m (pc + 3) ls rest)) : W p l e R s m args below meth c H locs cells slots Q (F0 m pc ls (v :: .ref (ad r) :: rest)) := by
  obtain ⟨hx, hb, hml, hown, hts⟩ := hC
  obtain ⟨hK, hP, hD, hS, hlo, hX⟩ := hY
  have he := wl_get (ad := ad) (ct := ct) hr
  rw [hct] at he
  rcases hfin with hfin | ⟨hfin, hi, hd⟩
  · refine va_put (C := q.1) (T := q.2.1) (N := q.2.2) hx hb hts hin ty0 hty hnm hown hK hP hD hS r he (by rw [hc]) k hk (hts _ hlink) (fun _ h => h) hfin (hty k hk) hn hfit hl hdg (fun H1 locs1 h1 h2 h3 => ?_)
    rw [wl_set hr] at h1 h2
    exact kk H1 locs1 ⟨hK, h1, h2, h3, hlo, hX⟩
  · refine va_putF (C := q.1) (T := q.2.1) (N := q.2.2) hx hb hts hin ty0 hty hnm hown hK hP hD hS r he (by rw [hc]) k hk (hts _ hlink) (fun _ h => h) hfin hi hd (hty k hk) hn hfit hl hdg (fun H1 locs1 h1 h2 h3 => ?_)
    rw [wl_set hr] at h1 h2
    exact kk H1 locs1 ⟨hK, h1, h2, h3, hlo, hX⟩
theorem g_iald (hC : CallFix p m c cc nL s args Ts own) (hY : Sy G N ad ct s H locs) (r : Nat) (hr : r < N) {n : Nat} {f : Nat → Int32} (hct : ct r = .inl (G.2.2 0, n, .inl f)) {i : Int32} (hin : 0 ≤ i.toInt ∧ i.toInt < n) (hdg : decode cc pc = .ok (.iaload, 1))
    (kk : W p l e R s m args below meth c H locs cells slots Q (F0 m (pc + 1) ls (.int (f i.toNatClampNeg) :: rest))) : W p l e R s m args below meth c H locs cells slots Q (F0 m pc ls (.int i :: .ref (ad r) :: rest)) := by
  obtain ⟨hx, hb, hml, hown, hts⟩ := hC
  obtain ⟨hK, hP, hD, hS, hlo, hX⟩ := hY
  have he := wl_get (ad := ad) (ct := ct) hr
  rw [hct] at he
  exact va_iald hx hb hK hP r 0 he rfl (vp_in_iff.mpr hin) hdg kk
theorem g_iast (hC : CallFix p m c cc nL s args Ts own) (hY : Sy G N ad ct s H locs) (r : Nat) (hr : r < N) {n : Nat} {f : Nat → Int32} (hct : ct r = .inl (G.2.2 0, n, .inl f)) {i x : Int32} (hin : 0 ≤ i.toInt ∧ i.toInt < n) (hdg : decode cc pc = .ok (.iastore, 1))
    (kk : ∀ (H1 : Heap) (locs1 : List Loc), Sy G N ad (va_up ct r (.inl (G.2.2 0, n, .inl (upd f i.toNatClampNeg x)))) s H1 locs1 → W p l e R s m args below meth c H1 locs1 cells slots Q (F0 m (pc + 1) ls rest)) : W p l e R s m args below meth c H locs cells slots Q (F0 m pc ls (.int x :: .int i :: .ref (ad r) :: rest)) := by
  obtain ⟨hx, hb, hml, hown, hts⟩ := hC
  obtain ⟨hK, hP, hD, hS, hlo, hX⟩ := hY
  have he := wl_get (ad := ad) (ct := ct) hr
  rw [hct] at he
  refine va_iast hx hb hK hP hD hS r 0 he rfl (vp_in_iff.mpr hin) hdg (fun H1 locs1 h1 h2 h3 => ?_)
  rw [wl_set hr] at h1 h2
  exact kk H1 locs1 ⟨hK, h1, h2, h3, hlo, hX⟩
theorem g_aald (hC : CallFix p m c cc nL s args Ts own) (hY : Sy G N ad ct s H locs) (r : Nat) (hr : r < N) {n : Nat} {f : Nat → Option Nat} (hct : ct r = .inl (G.2.2 1, n, .inr (.inr (.inr (.inr f))))) {i : Int32} (hin : 0 ≤ i.toInt ∧ i.toInt < n) (hdg : decode cc pc = .ok (.aaload, 1))
    (kk : W p l e R s m args below meth c H locs cells slots Q (F0 m (pc + 1) ls (va_rf (f i.toNatClampNeg) :: rest))) : W p l e R s m args below meth c H locs cells slots Q (F0 m pc ls (.int i :: .ref (ad r) :: rest)) := by
  obtain ⟨hx, hb, hml, hown, hts⟩ := hC
  obtain ⟨hK, hP, hD, hS, hlo, hX⟩ := hY
  have he := wl_get (ad := ad) (ct := ct) hr
  rw [hct] at he
  exact va_aldq hx hb hK hP r 1 he rfl (vp_in_iff.mpr hin) hdg kk
theorem g_aast (hC : CallFix p m c cc nL s args Ts own) (hY : Sy G N ad ct s H locs) (r : Nat) (hr : r < N) {n : Nat} {f : Nat → Option Nat} (hct : ct r = .inl (G.2.2 1, n, .inr (.inr (.inr (.inr f))))) (rv : Nat) (hrv : rv < N) {fs : List Value} (hcv : ct rv = .inr (0, fs)) {i : Int32} (hin : 0 ≤ i.toInt ∧ i.toInt < n) (hdg : decode cc pc = .ok (.aastore, 1))
    (kk : ∀ (H1 : Heap) (locs1 : List Loc), Sy G N ad (va_up ct r (.inl (G.2.2 1, n, .inr (.inr (.inr (.inr (va_up f i.toNatClampNeg (some (ad rv))))))))) s H1 locs1 → W p l e R s m args below meth c H1 locs1 cells slots Q (F0 m (pc + 1) ls rest)) : W p l e R s m args below meth c H locs cells slots Q (F0 m pc ls (.ref (ad rv) :: .int i :: .ref (ad r) :: rest)) := by
  obtain ⟨hx, hb, hml, hown, hts⟩ := hC
  obtain ⟨hK, hP, hD, hS, hlo, hX⟩ := hY
  have he := wl_get (ad := ad) (ct := ct) hr
  rw [hct] at he
  have hv := wl_get (ad := ad) (ct := ct) hrv
  rw [hcv] at hv
  refine va_astq hx hb hK hP hD hS r 1 rv 0 (r := (RX0, TX0, 12)) he rfl hv rfl (vp_in_iff.mpr hin) hdg (fun H1 locs1 h1 h2 h3 => ?_)
  rw [wl_set hr] at h1 h2
  exact kk H1 locs1 ⟨hK, h1, h2, h3, hlo, hX⟩
theorem g_alen (hC : CallFix p m c cc nL s args Ts own) (hY : Sy G N ad ct s H locs) (r : Nat) (hr : r < N) (tq : Nat) {cA : ClassId} {x : vp_A} (hct : ct r = .inl (cA, x)) {ty : FieldType} (ht : (tyL G)[tq]? = some (cA, ty)) {v : Int32} (hv : Int32.ofNat x.1 = v) (hdg : decode cc pc = .ok (.arraylength, 1))
    (kk : W p l e R s m args below meth c H locs cells slots Q (F0 m (pc + 1) ls (.int v :: rest))) : W p l e R s m args below meth c H locs cells slots Q (F0 m pc ls (.ref (ad r) :: rest)) := by
  obtain ⟨hx, hb, hml, hown, hts⟩ := hC
  obtain ⟨hK, hP, hD, hS, hlo, hX⟩ := hY
  have he := wl_get (ad := ad) (ct := ct) hr
  rw [hct] at he
  exact va_alen hx hb hK hP r tq he ht hv hdg kk
end GB
end
section
/-! calls, ends and throws over the one world -/
section GC
variable {p : Program} {l : Launch} {e : Env} {R : Room} {s : State} {m : MethodId} {args : Array Value} {below : List Frame} {meth : Method} {c : Code} {H : Heap} {locs : List Loc} {cells slots : Nat} {Q : State → Prop}
variable {cc : ByteArray} {nL : Nat} {Ts : List Cond} {own : String} {pc : Nat} {ls : Array Slot} {rest st0 : List Value} {G : GG} {N N' : Nat} {ad ad' : Nat → Nat} {ct ct' : Nat → va_E} {mc ms : Nat}
variable {y : MethodName} {ws ws' : List Cond} {rm : Room} {Qc : Array Value → State → Outcome → State → Prop} {XC : String → State → State → Prop} {bytes : ByteArray} {maxL index n : Nat} {ret : Option FieldType} {As : List Value} {C : String}
theorem g_preV (hY : Sy G N ad ct s H locs) (r : Nat) (hr : r < N) {ci : Nat} {fs : List Value} (hct : ct r = .inr (ci, fs)) {q : vw_C} (hc : vwCl[ci]? = some q) : PreV s H q.1 (ad r) (va_Pc (.ref (ad r) :: As) (fun U => Sy G N ad ct U U.heap [])) As := by
  have he := wl_get (ad := ad) (ct := ct) hr
  rw [hct] at he
  exact ⟨Sy.blind, va_recv hY.1 hY.2.1 hc he, fun U hU hW => ⟨rfl, hY.pre hU hW⟩⟩
theorem g_preS (hY : Sy G N ad ct s H locs) : PreS s H (va_Pc As (fun U => Sy G N ad ct U U.heap [])) As := ⟨Sy.blind, fun U hU hW => ⟨rfl, hY.pre hU hW⟩⟩
theorem g_runV (hC : CallFix p m c cc nL s args Ts own) {q : vw_C} {r : Nat} (hM : Met l y ws rm (va_Pc (.ref (ad r) :: As) (fun U => Sy G N ad ct U U.heap [])) Qc mc ms (gF G)) (hT : GoodIn Ts (wsV own index q.1 y ws)) (hw : ws = Cond.code y bytes maxL ret :: ws') (hrc : rm.cells = mc ∧ rm.slots = ms) (hd : y.cls = q.1 ∧ y.cls ≠ "java/lang/invoke/MethodHandle" ∧ y.cls ≠ "java/lang/invoke/VarHandle" ∧ (parseMethodDescriptor y.desc).map (fun d => d.parameters.length) = some n) (hR : rm.frames + 1 ≤ R.frames ∧ 8 + (maxL + 11) + rm.locals ≤ R.locals)
    (hY : Sy G N ad ct s H locs) (hr : r < N) {ci : Nat} {fs : List Value} (hct : ct r = .inr (ci, fs)) (hc : vwCl[ci]? = some q) (hn : As.length = n) (hsize : ls.size = nL) (hst : st0 = As.reverse ++ .ref (ad r) :: rest) (hW : (rest.map fun v => v.category).sum ≤ 8) (hdg : decode cc pc = .ok (.invokevirtual index, 3)) (hf : cells + mc ≤ R.cells ∧ slots + ms ≤ R.slots) :
    va_Run p l e R s m args below meth c H locs cells slots mc ms (F0 m pc ls st0) rest (Qc (Value.ref (ad r) :: As).toArray) (gF G) :=
  va_runV (As := As) (rest := rest) hC hM (cwV n hC.2.2.2.2 hT hw hrc.1 hrc.2 hd hR) (g_preV hY r hr hct hc) rfl hn hsize hst (lv_room hW) hdg hf
theorem g_runS (hC : CallFix p m c cc nL s args Ts own) (hM : Met l y ws rm (va_Pc As (fun U => Sy G N ad ct U U.heap [])) Qc mc ms (gF G)) (hT : GoodIn Ts (va_wsS own index y ws)) (hw : ws = Cond.code y bytes maxL ret :: ws') (hrc : rm.cells = mc ∧ rm.slots = ms) (hd : y.cls ≠ "java/lang/invoke/MethodHandle" ∧ y.cls ≠ "java/lang/invoke/VarHandle" ∧ (parseMethodDescriptor y.desc).map (fun d => d.parameters.length) = some n) (hR : rm.frames + 1 ≤ R.frames ∧ 8 + (maxL + 11) + rm.locals ≤ R.locals)
    (hY : Sy G N ad ct s H locs) (hn : As.length = n) (hsize : ls.size = nL) (hst : st0 = As.reverse ++ rest) (hW : (rest.map fun v => v.category).sum ≤ 8) (hdg : decode cc pc = .ok (.invokestatic index, 3)) (hf : cells + mc ≤ R.cells ∧ slots + ms ≤ R.slots) :
    va_Run p l e R s m args below meth c H locs cells slots mc ms (F0 m pc ls st0) rest (Qc As.toArray) (gF G) :=
  va_runS (As := As) (rest := rest) hC hM (va_cwS n hC.2.2.2.2 hT hw hrc.1 hrc.2 hd hR) (g_preS hY) rfl hn hsize hst (lv_room hW) hdg hf
theorem gx_runV (hC : CallFix p m c cc nL s args Ts own) {q : vw_C} {r : Nat} (hM : vx_Met l y ws rm (va_Pc (.ref (ad r) :: As) (fun U => Sy G N ad ct U U.heap [])) Qc XC mc ms (gF G)) (hT : GoodIn Ts (wsV own index q.1 y ws)) (hw : ws = Cond.code y bytes maxL ret :: ws') (hrc : rm.cells = mc ∧ rm.slots = ms) (hd : y.cls = q.1 ∧ y.cls ≠ "java/lang/invoke/MethodHandle" ∧ y.cls ≠ "java/lang/invoke/VarHandle" ∧ (parseMethodDescriptor y.desc).map (fun d => d.parameters.length) = some n) (hR : rm.frames + 1 ≤ R.frames ∧ 8 + (maxL + 11) + rm.locals ≤ R.locals)
    (hY : Sy G N ad ct s H locs) (hr : r < N) {ci : Nat} {fs : List Value} (hct : ct r = .inr (ci, fs)) (hc : vwCl[ci]? = some q) (hn : As.length = n) (hsize : ls.size = nL) (hst : st0 = As.reverse ++ .ref (ad r) :: rest) (hW : (rest.map fun v => v.category).sum ≤ 8) (hdg : decode cc pc = .ok (.invokevirtual index, 3)) (hf : cells + mc ≤ R.cells ∧ slots + ms ≤ R.slots) :
    vx_Run p l e R s m args below meth c H locs cells slots mc ms (F0 m pc ls st0) rest (Qc (Value.ref (ad r) :: As).toArray) XC (gF G) :=
  vx_runV (As := As) (rest := rest) hC hM (cwV n hC.2.2.2.2 hT hw hrc.1 hrc.2 hd hR) (g_preV hY r hr hct hc) rfl hn hsize hst (lv_room hW) hdg hf
theorem gx_runS (hC : CallFix p m c cc nL s args Ts own) (hM : vx_Met l y ws rm (va_Pc As (fun U => Sy G N ad ct U U.heap [])) Qc XC mc ms (gF G)) (hT : GoodIn Ts (va_wsS own index y ws)) (hw : ws = Cond.code y bytes maxL ret :: ws') (hrc : rm.cells = mc ∧ rm.slots = ms) (hd : y.cls ≠ "java/lang/invoke/MethodHandle" ∧ y.cls ≠ "java/lang/invoke/VarHandle" ∧ (parseMethodDescriptor y.desc).map (fun d => d.parameters.length) = some n) (hR : rm.frames + 1 ≤ R.frames ∧ 8 + (maxL + 11) + rm.locals ≤ R.locals)
    (hY : Sy G N ad ct s H locs) (hn : As.length = n) (hsize : ls.size = nL) (hst : st0 = As.reverse ++ rest) (hW : (rest.map fun v => v.category).sum ≤ 8) (hdg : decode cc pc = .ok (.invokestatic index, 3)) (hf : cells + mc ≤ R.cells ∧ slots + ms ≤ R.slots) :
    vx_Run p l e R s m args below meth c H locs cells slots mc ms (F0 m pc ls st0) rest (Qc As.toArray) XC (gF G) :=
  vx_runS (As := As) (rest := rest) hC hM (va_cwS n hC.2.2.2.2 hT hw hrc.1 hrc.2 hd hR) (g_preS hY) rfl hn hsize hst (lv_room hW) hdg hf
abbrev BZ (G : GG) (N : Nat) (ad : Nat → Nat) (ct : Nat → va_E) : Unit → State → Prop := fun _ t => Sz G N ad ct t
abbrev Qi (G : GG) (N : Nat) (ad : Nat → Nat) (ct : Nat → va_E) (post : Int32 → Prop) : Array Value → State → Outcome → State → Prop := va_Qi (fun r (_ : Unit) => post r) (BZ G N ad ct) (gF G)
abbrev Ql (G : GG) (N : Nat) (ad : Nat → Nat) (ct : Nat → va_E) (post : Int64 → Prop) : Array Value → State → Outcome → State → Prop := va_Ql (fun r (_ : Unit) => post r) (BZ G N ad ct) (gF G)
abbrev Qd (G : GG) (N : Nat) (ad : Nat → Nat) (ct : Nat → va_E) (post : UInt64 → Prop) : Array Value → State → Outcome → State → Prop := va_Qd (fun r (_ : Unit) => post r) (BZ G N ad ct) (gF G)
abbrev Qv (G : GG) (N : Nat) (ad : Nat → Nat) (ct : Nat → va_E) (post : Prop) : Array Value → State → Outcome → State → Prop := va_Qv (fun (_ : Unit) => post) (BZ G N ad ct) (gF G)
abbrev Qq (G : GG) (N : Nat) (ad : Nat → Nat) (ct : Nat → va_E) (post : Option Nat → Prop) : Array Value → State → Outcome → State → Prop := va_Qq (fun r (_ : Unit) => post r) (BZ G N ad ct) (gF G)
abbrev XG (G : GG) (N : Nat) (ad : Nat → Nat) (ct : Nat → va_E) (ex : String → Prop) : String → State → State → Prop := vx_X (fun _ : Unit => True) (fun E _ t => ex E ∧ Sz G N ad ct t) (gF G)
theorem g_calli {a : Array Value} {post : Int32 → Prop} (hY : Sy G N ad ct s H locs) (hr : va_Run p l e R s m args below meth c H locs cells slots mc ms (F0 m pc ls st0) rest (Qi G N' ad' ct' post a) (gF G))
    (kk : ∀ (r : Int32) (H1 : Heap) (locs1 : List Loc), post r → Sy G N' ad' ct' s H1 locs1 → W p l e R s m args below meth c H1 locs1 (cells + mc) (slots + ms) Q (F0 m (pc + 3) ls (.int r :: rest))) : W p l e R s m args below meth c H locs cells slots Q (F0 m pc ls st0) :=
  va_calli hr hY.2.2.2.1 (fun _ _ h => h) (fun _ h => h) (fun r _ t H1 locs1 ht hvm hp hz _ _ hS => kk r H1 locs1 hp (hY.back hz ht hvm hS))
theorem g_calll {a : Array Value} {post : Int64 → Prop} (hY : Sy G N ad ct s H locs) (hr : va_Run p l e R s m args below meth c H locs cells slots mc ms (F0 m pc ls st0) rest (Ql G N' ad' ct' post a) (gF G))
    (kk : ∀ (r : Int64) (H1 : Heap) (locs1 : List Loc), post r → Sy G N' ad' ct' s H1 locs1 → W p l e R s m args below meth c H1 locs1 (cells + mc) (slots + ms) Q (F0 m (pc + 3) ls (.long r :: rest))) : W p l e R s m args below meth c H locs cells slots Q (F0 m pc ls st0) :=
  va_calll hr hY.2.2.2.1 (fun _ _ h => h) (fun _ h => h) (fun r _ t H1 locs1 ht hvm hp hz _ _ hS => kk r H1 locs1 hp (hY.back hz ht hvm hS))
theorem g_calld {a : Array Value} {post : UInt64 → Prop} (hY : Sy G N ad ct s H locs) (hr : va_Run p l e R s m args below meth c H locs cells slots mc ms (F0 m pc ls st0) rest (Qd G N' ad' ct' post a) (gF G))
    (kk : ∀ (r : UInt64) (H1 : Heap) (locs1 : List Loc), post r → Sy G N' ad' ct' s H1 locs1 → W p l e R s m args below meth c H1 locs1 (cells + mc) (slots + ms) Q (F0 m (pc + 3) ls (.double r :: rest))) : W p l e R s m args below meth c H locs cells slots Q (F0 m pc ls st0) :=
  va_calld hr hY.2.2.2.1 (fun _ _ h => h) (fun _ h => h) (fun r _ t H1 locs1 ht hvm hp hz _ _ hS => kk r H1 locs1 hp (hY.back hz ht hvm hS))
theorem g_callv {a : Array Value} {post : Prop} (hY : Sy G N ad ct s H locs) (hr : va_Run p l e R s m args below meth c H locs cells slots mc ms (F0 m pc ls st0) rest (Qv G N' ad' ct' post a) (gF G))
    (kk : ∀ (H1 : Heap) (locs1 : List Loc), post → Sy G N' ad' ct' s H1 locs1 → W p l e R s m args below meth c H1 locs1 (cells + mc) (slots + ms) Q (F0 m (pc + 3) ls rest)) : W p l e R s m args below meth c H locs cells slots Q (F0 m pc ls st0) :=
  va_callv hr hY.2.2.2.1 (fun _ _ h => h) (fun _ h => h) (fun _ t H1 locs1 ht hvm hp hz _ _ hS => kk H1 locs1 hp (hY.back hz ht hvm hS))
/-- a throw in a callee goes through a method without handlers -/
theorem gx_pass {E : String} {ce : Cell} {q9 : Addr} {t : State} {H1 : Heap} {locs1 : List Loc} {ex ex0 : String → Prop} {mc0 ms0 : Nat} (hY : Sy G N ad ct s H locs) (hxt : ∀ x ∈ c.exceptionTable.toList, False) (hlocks : meth.locks = false) (hex : ∀ E, ex E → ex0 E) (hcm : cells ≤ mc0) (hsm : slots ≤ ms0)
    (ht : t.heap = H1) (hvm : s.vm.Alike t.vm) (hb : ex E ∧ Sz G N ad ct t) (hS : va_S (gF G) s.heap H1 locs1) (hce : H1[q9]? = some ce) (hcv : ce.vm = .none) (hcl : s.vm.findClass E = some ce.cls) :
    vx_W p l e R s m args below meth c H1 locs1 cells slots (vx_MQ below Qc (XG G N ad ct ex0) args s mc0 ms0 (gF G)) (F0 m pc ls rest) q9 := by
  have hY1 := hY.back hb.2 ht hvm hS
  exact vx_out (fun x hx => (hxt x hx).elim) hlocks hce hcv hcl (fun t' ht' hvm' => ⟨(), trivial, ⟨hex _ hb.1, hY1.post ht' hvm'⟩, hS.F ht'⟩) hS.2.2 hcm hsm
theorem gx_calli {a : Array Value} {post : Int32 → Prop} {ex ex0 : String → Prop} {mc0 ms0 : Nat} (hY : Sy G N ad ct s H locs) (hr : vx_Run p l e R s m args below meth c H locs cells slots mc ms (F0 m pc ls st0) rest (Qi G N' ad' ct' post a) (XG G N ad ct ex) (gF G)) (hxt : ∀ x ∈ c.exceptionTable.toList, False) (hlocks : meth.locks = false) (hcm : cells + mc ≤ mc0 ∧ slots + ms ≤ ms0) (hex : ∀ E, ex E → ex0 E)
    (kk : ∀ (r : Int32) (H1 : Heap) (locs1 : List Loc), post r → Sy G N' ad' ct' s H1 locs1 → W p l e R s m args below meth c H1 locs1 (cells + mc) (slots + ms) (vx_MQ below Qc (XG G N ad ct ex0) args s mc0 ms0 (gF G)) (F0 m (pc + 3) ls (.int r :: rest))) : W p l e R s m args below meth c H locs cells slots (vx_MQ below Qc (XG G N ad ct ex0) args s mc0 ms0 (gF G)) (F0 m pc ls st0) :=
  vx_calli hr hY.2.2.2.1 (fun _ _ h => h) (fun _ h => h) (fun _ _ h => h) (fun E ce q9 _ t H1 locs1 ht hvm _ hb _ _ hS hce hcv hcl => gx_pass hY hxt hlocks hex hcm.1 hcm.2 ht hvm hb hS hce hcv hcl) (fun r _ t H1 locs1 ht hvm hp hz _ _ hS => kk r H1 locs1 hp (hY.back hz ht hvm hS))
theorem gx_callv {a : Array Value} {post : Prop} {ex ex0 : String → Prop} {mc0 ms0 : Nat} (hY : Sy G N ad ct s H locs) (hr : vx_Run p l e R s m args below meth c H locs cells slots mc ms (F0 m pc ls st0) rest (Qv G N' ad' ct' post a) (XG G N ad ct ex) (gF G)) (hxt : ∀ x ∈ c.exceptionTable.toList, False) (hlocks : meth.locks = false) (hcm : cells + mc ≤ mc0 ∧ slots + ms ≤ ms0) (hex : ∀ E, ex E → ex0 E)
    (kk : ∀ (H1 : Heap) (locs1 : List Loc), post → Sy G N' ad' ct' s H1 locs1 → W p l e R s m args below meth c H1 locs1 (cells + mc) (slots + ms) (vx_MQ below Qc (XG G N ad ct ex0) args s mc0 ms0 (gF G)) (F0 m (pc + 3) ls rest)) : W p l e R s m args below meth c H locs cells slots (vx_MQ below Qc (XG G N ad ct ex0) args s mc0 ms0 (gF G)) (F0 m pc ls st0) :=
  vx_callv hr hY.2.2.2.1 (fun _ _ h => h) (fun _ h => h) (fun _ _ h => h) (fun E ce q9 _ t H1 locs1 ht hvm _ hb _ _ hS hce hcv hcl => gx_pass hY hxt hlocks hex hcm.1 hcm.2 ht hvm hb hS hce hcv hcl) (fun _ t H1 locs1 ht hvm hp hz _ _ hS => kk H1 locs1 hp (hY.back hz ht hvm hS))
/-- (as vx_calli, for references) -/
theorem gx_callq0 {SS SX : Type} {post : Option Nat → SS → Prop} {px : SX → Prop} {B : SS → State → Prop} {BX : String → SX → State → Prop} {AX A0 A1 : Nat → Prop} {H0 : Heap} {a : Array Value} {free : Addr → Prop} (hr : vx_Run p l e R s m args below meth c H locs cells slots mc ms (F0 m pc ls st0) rest (va_Qq post B A1 a) (vx_X px BX AX) free) (hS : va_S A0 H0 H locs) (hA : ∀ q, q < H.size → A1 q → A0 q) (hf : ∀ q, free q → A0 q) (hAX : ∀ q, q < H.size → AX q → A0 q)
    (kx : ∀ (E : String) (ce : Cell) (q9 : Addr) (u : SX) (t : State) (H1 : Heap) (locs1 : List Loc), t.heap = H1 → s.vm.Alike t.vm → px u → BX E u t → H.size ≤ H1.size → (∀ q : Nat, q < H.size → ¬ AX q → H1[q]? = H[q]?) → va_S A0 H0 H1 locs1 → H1[q9]? = some ce → ce.vm = .none → s.vm.findClass E = some ce.cls → vx_W p l e R s m args below meth c H1 locs1 (cells + mc) (slots + ms) Q (F0 m pc ls rest) q9)
    (kk : ∀ (r : Option Nat) (u : SS) (t : State) (H1 : Heap) (locs1 : List Loc), t.heap = H1 → s.vm.Alike t.vm → post r u → B u t → H.size ≤ H1.size → (∀ q : Nat, q < H.size → ¬ A1 q → H1[q]? = H[q]?) → va_S A0 H0 H1 locs1 → W p l e R s m args below meth c H1 locs1 (cells + mc) (slots + ms) Q (F0 m (pc + 3) ls (va_rf r :: rest))) : W p l e R s m args below meth c H locs cells slots Q (F0 m pc ls st0) := by
  intro T hT X
  rcases hr T hT X with ⟨v, st₀, t, T', L, h0, X', hL, e1, e2, ⟨⟨r, u, hv, hp, hb⟩, hF⟩, st⟩ | ⟨q, st₀, t, T', L, E, ce, h0, X', hL, e1, e2, ⟨u, hp, hb, hF⟩, hce, hcv, hcl, st⟩
  · cases hv
    obtain ⟨k1, k2, k3⟩ := vx_keep h0 e1 hS hA hf hL hF
    obtain ⟨t2, a1, b1⟩ := kk r u t T'.heap (locs ++ L) e1.symm (by rw [← e2]; exact X'.warmed.alike) hp hb k1 k2 k3 T' rfl X'
    exact ⟨t2, st t2 a1, b1⟩
  · obtain ⟨k1, k2, k3⟩ := vx_keep h0 e1 hS hAX hf hL hF
    obtain ⟨t2, a1, b1⟩ := kx E ce q u t T'.heap (locs ++ L) e1.symm (by rw [← e2]; exact X'.warmed.alike) hp hb k1 k2 k3 (by rw [e1]; exact hce) hcv hcl T' rfl X'
    exact ⟨t2, st.trans a1, b1⟩
theorem gx_callq {a : Array Value} {post : Option Nat → Prop} {ex ex0 : String → Prop} {mc0 ms0 : Nat} (hY : Sy G N ad ct s H locs) (hr : vx_Run p l e R s m args below meth c H locs cells slots mc ms (F0 m pc ls st0) rest (Qq G N' ad' ct' post a) (XG G N ad ct ex) (gF G)) (hxt : ∀ x ∈ c.exceptionTable.toList, False) (hlocks : meth.locks = false) (hcm : cells + mc ≤ mc0 ∧ slots + ms ≤ ms0) (hex : ∀ E, ex E → ex0 E)
    (kk : ∀ (r : Option Nat) (H1 : Heap) (locs1 : List Loc), post r → Sy G N' ad' ct' s H1 locs1 → W p l e R s m args below meth c H1 locs1 (cells + mc) (slots + ms) (vx_MQ below Qc (XG G N ad ct ex0) args s mc0 ms0 (gF G)) (F0 m (pc + 3) ls (va_rf r :: rest))) : W p l e R s m args below meth c H locs cells slots (vx_MQ below Qc (XG G N ad ct ex0) args s mc0 ms0 (gF G)) (F0 m pc ls st0) :=
  gx_callq0 hr hY.2.2.2.1 (fun _ _ h => h) (fun _ h => h) (fun _ _ h => h) (fun E ce q9 _ t H1 locs1 ht hvm _ hb _ _ hS hce hcv hcl => gx_pass hY hxt hlocks hex hcm.1 hcm.2 ht hvm hb hS hce hcv hcl) (fun r _ t H1 locs1 ht hvm hp hz _ _ hS => kk r H1 locs1 hp (hY.back hz ht hvm hS))
/-! ends -/
theorem g_iret (hC : CallFix p m c cc nL s args Ts own) (hr : meth.sig.returnType = some .int) (hlocks : meth.locks = false) {post : Int32 → Prop} {v : Int32} (hY : Sy G N ad ct s H locs) (hcm : cells ≤ mc ∧ slots ≤ ms) (hdg : decode cc pc = .ok (.ireturn, 1)) (hp : post v) : W p l e R s m args below meth c H locs cells slots (MQ below (Qi G N ad ct post) args s mc ms (gF G)) (F0 m pc ls [.int v]) :=
  W.widen hcm.1 hcm.2 (W.iret hC.1 hC.2.1 hr (fun t ht hW => ⟨⟨v, (), rfl, hp, hY.post ht hW.alike⟩, hY.2.2.2.1.F ht⟩) hY.2.2.2.1.2.2 hdg hlocks)
theorem g_zret (hC : CallFix p m c cc nL s args Ts own) (hr : meth.sig.returnType = some .boolean) (hlocks : meth.locks = false) {post : Int32 → Prop} {v : Int32} (hn : narrow .boolean (.int v) = .int v) (hY : Sy G N ad ct s H locs) (hcm : cells ≤ mc ∧ slots ≤ ms) (hdg : decode cc pc = .ok (.ireturn, 1)) (hp : post v) : W p l e R s m args below meth c H locs cells slots (MQ below (Qi G N ad ct post) args s mc ms (gF G)) (F0 m pc ls [.int v]) :=
  W.widen hcm.1 hcm.2 (W.zret hC.1 hC.2.1 hr hn (fun t ht hW => ⟨⟨v, (), rfl, hp, hY.post ht hW.alike⟩, hY.2.2.2.1.F ht⟩) hY.2.2.2.1.2.2 hdg hlocks)
theorem g_lret (hC : CallFix p m c cc nL s args Ts own) (hr : meth.sig.returnType = some .long) (hlocks : meth.locks = false) {post : Int64 → Prop} {v : Int64} (hY : Sy G N ad ct s H locs) (hcm : cells ≤ mc ∧ slots ≤ ms) (hdg : decode cc pc = .ok (.lreturn, 1)) (hp : post v) : W p l e R s m args below meth c H locs cells slots (MQ below (Ql G N ad ct post) args s mc ms (gF G)) (F0 m pc ls [.long v]) :=
  W.widen hcm.1 hcm.2 (W.lret hC.1 hC.2.1 hr (fun t ht hW => ⟨⟨v, (), rfl, hp, hY.post ht hW.alike⟩, hY.2.2.2.1.F ht⟩) hY.2.2.2.1.2.2 hdg hlocks)
theorem g_dret (hC : CallFix p m c cc nL s args Ts own) (hr : meth.sig.returnType = some .double) (hlocks : meth.locks = false) {post : UInt64 → Prop} {v : UInt64} (hY : Sy G N ad ct s H locs) (hcm : cells ≤ mc ∧ slots ≤ ms) (hdg : decode cc pc = .ok (.dreturn, 1)) (hp : post v) : W p l e R s m args below meth c H locs cells slots (MQ below (Qd G N ad ct post) args s mc ms (gF G)) (F0 m pc ls [.double v]) :=
  W.widen hcm.1 hcm.2 (W.dret hC.1 hC.2.1 hr (fun t ht hW => ⟨⟨v, (), rfl, hp, hY.post ht hW.alike⟩, hY.2.2.2.1.F ht⟩) hY.2.2.2.1.2.2 hdg hlocks)
theorem g_vret (hC : CallFix p m c cc nL s args Ts own) (hr : meth.sig.returnType = none) (hlocks : meth.locks = false) {post : Prop} (hY : Sy G N ad ct s H locs) (hcm : cells ≤ mc ∧ slots ≤ ms) (hdg : decode cc pc = .ok (.return_, 1)) (hp : post) : W p l e R s m args below meth c H locs cells slots (MQ below (Qv G N ad ct post) args s mc ms (gF G)) (F0 m pc ls []) :=
  W.widen hcm.1 hcm.2 (W.vret hC.1 hC.2.1 hr (fun t ht hW => ⟨⟨(), rfl, hp, hY.post ht hW.alike⟩, hY.2.2.2.1.F ht⟩) hY.2.2.2.1.2.2 hdg hlocks)
theorem g_aret (hC : CallFix p m c cc nL s args Ts own) {rt : FieldType} (hr : meth.sig.returnType = some rt) (hrt : ∃ n, rt = .object n) (hlocks : meth.locks = false) {post : Option Nat → Prop} {v : Option Nat} (hY : Sy G N ad ct s H locs) (hcm : cells ≤ mc ∧ slots ≤ ms) (hdg : decode cc pc = .ok (.areturn, 1)) (hp : post v) : W p l e R s m args below meth c H locs cells slots (MQ below (Qq G N ad ct post) args s mc ms (gF G)) (F0 m pc ls [va_rf v]) :=
  W.widen hcm.1 hcm.2 (W.aret hC.1 hC.2.1 hr (Or.inl hrt) (va_rf_or v) (fun t ht hW => ⟨⟨v, (), rfl, hp, hY.post ht hW.alike⟩, hY.2.2.2.1.F ht⟩) hY.2.2.2.1.2.2 hdg hlocks)
end GC
/-! throws -/
theorem at_S1 : ∀ w ∈ (vx_atS RX1 43 xS xnm).filter (fun w => !goodWord w), w ∈ ([.castable xS xS, .declares (Bundle.initS "java/lang/RuntimeException"), .declares (Bundle.initS "java/lang/Exception"), .declares (Bundle.initS Bundle.tN)] : List Cond) := by decide +kernel
theorem at_S2 : ∀ w ∈ (vx_atS RX1 130 xI xnm).filter (fun w => !goodWord w), w ∈ ([.castable xI xI, .declares (Bundle.initS "java/lang/RuntimeException"), .declares (Bundle.initS "java/lang/Exception"), .declares (Bundle.initS Bundle.tN)] : List Cond) := by decide +kernel
theorem at_S3 : ∀ w ∈ (vx_atS RX1 135 xA xnm).filter (fun w => !goodWord w), w ∈ ([.castable xA xA, .declares (Bundle.initS "java/lang/RuntimeException"), .declares (Bundle.initS "java/lang/Exception"), .declares (Bundle.initS Bundle.tN)] : List Cond) := by decide +kernel
theorem at_G1 : ∀ w ∈ Cond.classLink RX1 39 xS :: Cond.initialized xS :: vx_atS RX1 43 xS xnm, vx_ot w = true := by decide +kernel
theorem at_G2 : ∀ w ∈ Cond.classLink RX1 126 xI :: Cond.initialized xI :: vx_atS RX1 130 xI xnm, vx_ot w = true := by decide +kernel
theorem at_G3 : ∀ w ∈ Cond.classLink RX1 131 xA :: Cond.initialized xA :: vx_atS RX1 135 xA xnm, vx_ot w = true := by decide +kernel
section GT
variable {p : Program} {l : Launch} {e : Env} {R : Room} {s : State} {m : MethodId} {args : Array Value} {below : List Frame} {meth : Method} {c : Code} {H : Heap} {locs : List Loc} {cells slots : Nat} {Q : State → Prop}
variable {cc : ByteArray} {nL : Nat} {Ts : List Cond} {pc : Nat} {ls : Array Slot} {rest st0 : List Value} {G : GG} {N N' : Nat} {ad ad' : Nat → Nat} {ct ct' : Nat → va_E} {mc ms : Nat}
variable {Qc : Array Value → State → Outcome → State → Prop}
theorem g_throw (hC : CallFix p m c cc nL s args Ts RX1) (hl : l.stackTraces = false) (hY : Sy G N ad ct s H locs) (hxt : ∀ x ∈ c.exceptionTable.toList, False) (hlocks : meth.locks = false) {E : String} {ik is ic : Nat} {text : String} (hE : Bundle.fit E = true)
    (hk : Cond.classLink RX1 ik E ∈ Ts) (hini : Cond.initialized E ∈ Ts) (hstr : (is, text) ∈ xstr) (hin : ∀ w ∈ (vx_atS RX1 ic E xnm).filter goodWord, w ∈ Ts) (hbad : ∀ w ∈ (vx_atS RX1 ic E xnm).filter (fun w => !goodWord w), w ∈ ([.castable E E, .declares (Bundle.initS "java/lang/RuntimeException"), .declares (Bundle.initS "java/lang/Exception"), .declares (Bundle.initS Bundle.tN)] : List Cond)) (hgood : ∀ w ∈ Cond.classLink RX1 ik E :: Cond.initialized E :: vx_atS RX1 ic E xnm, vx_ot w = true)
    (hcast : va_Nw (.castable E E) s) (hsize : ls.size = nL)
    (d0 : decode cc pc = .ok (.new ik, 3)) (d3 : decode cc (pc + 3) = .ok (.dup, 1)) (d4 : decode cc (pc + 4) = .ok (.ldc is, 2)) (d6 : decode cc (pc + 6) = .ok (.invokespecial ic, 3)) (d9 : decode cc (pc + 9) = .ok (.athrow, 1))
    (hR : 5 < R.frames ∧ (rest.map fun v => v.category).sum + 82 ≤ R.locals ∧ cells + 1 ≤ R.cells ∧ slots + 6 ≤ R.slots) (hcm : cells + 1 ≤ mc ∧ slots + 6 ≤ ms) {ex : String → Prop} (hex : ex E) :
    W p l e R s m args below meth c H locs cells slots (vx_MQ below Qc (XG G N ad ct ex) args s mc ms (gF G)) (F0 m pc ls rest) := by
  obtain ⟨hx, hb, hml, hown, hts⟩ := hC
  obtain ⟨hK, hP, hD, hS, hlo, hX⟩ := id hY
  obtain ⟨sa, hsa⟩ := hX.2.2.2.2.1 _ hstr
  refine vx_throwS (A := gF G) (names := xnm) (text := text) (sa := sa) hx hb hl hown hE (by decide +kernel) (hts _ hk) (hts _ hini) hsa (vx_hat (fun w hw => hts w (hin w hw)) hbad (vx_c (va_Nw.use rfl hcast) (vx_c (va_Nw.use rfl hX.2.2.2.2.2.1) (vx_c (va_Nw.use rfl hX.2.2.2.2.2.2.1) (vx_c (va_Nw.use rfl hX.2.2.2.2.2.2.2.1) vx_n))))) hgood hX.2.2.1 hX.2.2.2.1 hS (hsize.trans hml.symm) d0 d3 d4 d6 d9 (fun x hx => (hxt x hx).elim) hR.1 hR.2.1 hR.2.2.1 hR.2.2.2 hlocks (fun t hvm h1 h2 => ?_) hS.2.2 hcm.1 hcm.2
  refine ⟨(), trivial, ⟨hex, va_K.moved hvm hK, hP.kept (fun k q hq => h2 q.1 (hP k q hq).lt), hD⟩, Nat.le_trans hS.1 h1, fun q h3 h4 => ?_⟩
  rw [h2 q (Nat.lt_of_lt_of_le h3 hS.1)]
  exact hS.2.1 q h3 h4
end GT
end
section
/-! the world: roles 0 the roll, 1-3 areas indices costs, 4 roll's leases, 5-8 the law's t c d f, 3k+9 lease k, 3k+10 its step days, 3k+11 its step rents -/
abbrev ix (x : Int32) : Nat := x.toNatClampNeg
def lsF (ad : Nat → Nat) (σ : St) (k : Nat) : List Value := [.int (σ 3 k), .int (σ 4 k), .int (σ 6 k), .int (σ 5 k), .int (σ 7 k), .int (σ 8 k), .int (σ 9 k), .int (σ 10 k), .int (σ 11 k), .ref (ad (3 * k + 10)), .ref (ad (3 * k + 11)), .int (σ 12 k)]
def rowF (σ : St) (a k : Nat) : Nat → Int32 := fun j => if j < 6 then σ a (6 * k + j) else 0
def ctL (G : GG) (ad : Nat → Nat) (σ : St) (k i : Nat) : va_E := match i with
  | 0 => .inr (0, lsF ad σ k)
  | 1 => .inl (G.2.2 0, 6, .inl (rowF σ 13 k))
  | _ => .inl (G.2.2 0, 6, .inl (rowF σ 14 k))
def roF (ad : Nat → Nat) (n : Nat) : Nat → Option Nat := fun k => if k < n then some (ad (3 * k + 9)) else none
def ctS (G : GG) (ad : Nat → Nat) (σ : St) (n : Nat) (τ : St) (r : Nat) : va_E := match r with
  | 0 => .inr (1, [.ref (ad 1), .ref (ad 2), .ref (ad 3), .ref (ad 4), .int (nI n)])
  | 1 => .inl (G.2.2 0, 6, .inl (σ 0))
  | 2 => .inl (G.2.2 0, 240, .inl (σ 1))
  | 3 => .inl (G.2.2 0, 20, .inl (σ 2))
  | 4 => .inl (G.2.2 1, 24, .inr (.inr (.inr (.inr (roF ad n)))))
  | 5 => .inl (G.2.2 0, 60, .inl (τ 0))
  | 6 => .inl (G.2.2 0, 7, .inl (τ 1))
  | 7 => .inl (G.2.2 0, 12, .inl (τ 2))
  | 8 => .inl (G.2.2 0, 36, .inl (τ 3))
  | r + 9 => ctL G ad σ (r / 3) (r % 3)
theorem ct_L {G : GG} {ad : Nat → Nat} {σ : St} {n : Nat} {τ : St}  (k : Nat) : ctS G ad σ n τ (3 * k + 9) = .inr (0, lsF ad σ k) := by
  show ctL G ad σ (3 * k / 3) (3 * k % 3) = _
  rw [show 3 * k / 3 = k by omega, show 3 * k % 3 = 0 by omega]
  rfl
theorem ct_L1 {G : GG} {ad : Nat → Nat} {σ : St} {n : Nat} {τ : St}  (k : Nat) : ctS G ad σ n τ (3 * k + 10) = .inl (G.2.2 0, 6, .inl (rowF σ 13 k)) := by
  show ctL G ad σ ((3 * k + 1) / 3) ((3 * k + 1) % 3) = _
  rw [show (3 * k + 1) / 3 = k by omega, show (3 * k + 1) % 3 = 1 by omega]
  rfl
theorem ct_L2 {G : GG} {ad : Nat → Nat} {σ : St} {n : Nat} {τ : St}  (k : Nat) : ctS G ad σ n τ (3 * k + 11) = .inl (G.2.2 0, 6, .inl (rowF σ 14 k)) := by
  show ctL G ad σ ((3 * k + 2) / 3) ((3 * k + 2) % 3) = _
  rw [show (3 * k + 2) / 3 = k by omega, show (3 * k + 2) % 3 = 2 by omega]
  rfl
theorem r_lt {k n : Nat} (h : k < n) : 3 * k + 9 < 3 * n + 9 := by omega
abbrev SyS (G : GG) (ad : Nat → Nat) (σ : St) (n : Nat) (τ : St) (s : State) (H : Heap) (locs : List Loc) : Prop := Sy G (3 * n + 9) ad (ctS G ad σ n τ) s H locs
abbrev PcS (G : GG) (ad : Nat → Nat) (σ : St) (n : Nat) (τ : St) (av : List Value) : Array Value → State → Prop := va_Pc av (fun U => SyS G ad σ n τ U U.heap [])
theorem lsF_ne {ad : Nat → Nat} {σ : St} {a i k : Nat} {x : Int32} (h : a < 3 ∨ 12 < a ∨ i ≠ k) : lsF ad (us σ a i x) k = lsF ad σ k := by
  have key : ∀ b, 3 ≤ b → b ≤ 12 → us σ a i x b k = σ b k := by
    intro b h1 h2
    unfold us
    by_cases hb : b = a
    · rw [if_pos hb]; unfold upd; rw [if_neg (by omega)]
    · rw [if_neg hb]
  unfold lsF
  rw [key 3 (by omega) (by omega), key 4 (by omega) (by omega), key 5 (by omega) (by omega), key 6 (by omega) (by omega), key 7 (by omega) (by omega), key 8 (by omega) (by omega), key 9 (by omega) (by omega), key 10 (by omega) (by omega), key 11 (by omega) (by omega), key 12 (by omega) (by omega)]
theorem rowF_ne {σ : St} {a b i k : Nat} {x : Int32} (h : a ≠ b ∨ i < 6 * k ∨ 6 * k + 6 ≤ i) : rowF (us σ a i x) b k = rowF σ b k := by
  unfold rowF us
  funext j
  by_cases hj : j < 6
  · rw [if_pos hj, if_pos hj]
    by_cases hb : b = a
    · rw [if_pos hb]; unfold upd; rw [if_neg (by omega)]
    · rw [if_neg hb]
  · rw [if_neg hj, if_neg hj]
theorem rowF_eq {σ : St} {a i k : Nat} {x : Int32} (h : i < 6) : rowF (us σ a (6 * k + i) x) a k = upd (rowF σ a k) i x := by
  unfold rowF us upd
  funext j
  simp only [if_true]
  by_cases hj : j < 6
  · rw [if_pos hj, if_pos hj]
    by_cases hb : j = i
    · rw [if_pos hb, if_pos (by omega)]
    · rw [if_neg hb, if_neg (by omega)]
  · rw [if_neg hj, if_neg hj, if_neg (by omega)]
theorem ctL_ne {G : GG} {ad : Nat → Nat} {σ : St} {a i k q : Nat} {x : Int32} (h : a < 3 ∨ (a ≤ 12 ∧ (i ≠ k ∨ q ≠ 0)) ∨ (13 ≤ a ∧ (q = 0 ∨ q + 12 ≠ a ∨ i < 6 * k ∨ 6 * k + 6 ≤ i))) (hq : q < 3) : ctL G ad (us σ a i x) k q = ctL G ad σ k q := by
  unfold ctL
  rcases (show q = 0 ∨ q = 1 ∨ q = 2 by omega) with rfl | rfl | rfl
  · show (.inr (0, lsF ad (us σ a i x) k) : va_E) = .inr (0, lsF ad σ k)
    rw [lsF_ne (by omega)]
  · show (.inl (G.2.2 0, 6, .inl (rowF (us σ a i x) 13 k)) : va_E) = .inl (G.2.2 0, 6, .inl (rowF σ 13 k))
    rw [rowF_ne (by omega)]
  · show (.inl (G.2.2 0, 6, .inl (rowF (us σ a i x) 14 k)) : va_E) = .inl (G.2.2 0, 6, .inl (rowF σ 14 k))
    rw [rowF_ne (by omega)]
theorem upA0 {G : GG} {ad : Nat → Nat} {σ : St} {n : Nat} {τ : St}  {i : Nat} {x : Int32} : va_up (ctS G ad σ n τ) 1 (.inl (G.2.2 0, 6, .inl (upd (σ 0) i x))) = ctS G ad (us σ 0 i x) n τ := by
  funext r
  match r with
  | 0 => rfl
  | 1 => rfl
  | 2 => rfl
  | 3 => rfl
  | 4 => rfl
  | 5 => rfl
  | 6 => rfl
  | 7 => rfl
  | 8 => rfl
  | r + 9 =>
    rw [va_up_ne _ _ (by omega)]
    exact (ctL_ne (G := G) (ad := ad) (σ := σ) (a := 0) (i := i) (x := x) (Or.inl (by decide)) (Nat.mod_lt r (by decide))).symm
theorem upA1 {G : GG} {ad : Nat → Nat} {σ : St} {n : Nat} {τ : St}  {i : Nat} {x : Int32} : va_up (ctS G ad σ n τ) 2 (.inl (G.2.2 0, 240, .inl (upd (σ 1) i x))) = ctS G ad (us σ 1 i x) n τ := by
  funext r
  match r with
  | 0 => rfl
  | 1 => rfl
  | 2 => rfl
  | 3 => rfl
  | 4 => rfl
  | 5 => rfl
  | 6 => rfl
  | 7 => rfl
  | 8 => rfl
  | r + 9 =>
    rw [va_up_ne _ _ (by omega)]
    exact (ctL_ne (G := G) (ad := ad) (σ := σ) (a := 1) (i := i) (x := x) (Or.inl (by decide)) (Nat.mod_lt r (by decide))).symm
theorem upA2 {G : GG} {ad : Nat → Nat} {σ : St} {n : Nat} {τ : St}  {i : Nat} {x : Int32} : va_up (ctS G ad σ n τ) 3 (.inl (G.2.2 0, 20, .inl (upd (σ 2) i x))) = ctS G ad (us σ 2 i x) n τ := by
  funext r
  match r with
  | 0 => rfl
  | 1 => rfl
  | 2 => rfl
  | 3 => rfl
  | 4 => rfl
  | 5 => rfl
  | 6 => rfl
  | 7 => rfl
  | 8 => rfl
  | r + 9 =>
    rw [va_up_ne _ _ (by omega)]
    exact (ctL_ne (G := G) (ad := ad) (σ := σ) (a := 2) (i := i) (x := x) (Or.inl (by decide)) (Nat.mod_lt r (by decide))).symm
theorem upL3 {G : GG} {ad : Nat → Nat} {σ : St} {n : Nat} {τ : St}  {k : Nat} {x : Int32} : va_up (ctS G ad σ n τ) (3 * k + 9) (.inr (0, (lsF ad σ k).set 0 (.int x))) = ctS G ad (us σ 3 k x) n τ := by
  funext r
  match r with
  | 0 => rw [va_up_ne _ _ (by omega)]; rfl
  | 1 => rw [va_up_ne _ _ (by omega)]; rfl
  | 2 => rw [va_up_ne _ _ (by omega)]; rfl
  | 3 => rw [va_up_ne _ _ (by omega)]; rfl
  | 4 => rw [va_up_ne _ _ (by omega)]; rfl
  | 5 => rw [va_up_ne _ _ (by omega)]; rfl
  | 6 => rw [va_up_ne _ _ (by omega)]; rfl
  | 7 => rw [va_up_ne _ _ (by omega)]; rfl
  | 8 => rw [va_up_ne _ _ (by omega)]; rfl
  | r + 9 =>
    by_cases h : r + 9 = 3 * k + 9
    · have h0 : r = 3 * k := by omega
      subst h0
      rw [va_up_self, ct_L]
      unfold lsF us upd
      simp
    · rw [va_up_ne _ _ h]
      refine (ctL_ne (G := G) (ad := ad) (σ := σ) (a := 3) (i := k) (x := x) (Or.inr (Or.inl ⟨by decide, ?_⟩)) (Nat.mod_lt r (by decide))).symm
      omega
theorem upL4 {G : GG} {ad : Nat → Nat} {σ : St} {n : Nat} {τ : St}  {k : Nat} {x : Int32} : va_up (ctS G ad σ n τ) (3 * k + 9) (.inr (0, (lsF ad σ k).set 1 (.int x))) = ctS G ad (us σ 4 k x) n τ := by
  funext r
  match r with
  | 0 => rw [va_up_ne _ _ (by omega)]; rfl
  | 1 => rw [va_up_ne _ _ (by omega)]; rfl
  | 2 => rw [va_up_ne _ _ (by omega)]; rfl
  | 3 => rw [va_up_ne _ _ (by omega)]; rfl
  | 4 => rw [va_up_ne _ _ (by omega)]; rfl
  | 5 => rw [va_up_ne _ _ (by omega)]; rfl
  | 6 => rw [va_up_ne _ _ (by omega)]; rfl
  | 7 => rw [va_up_ne _ _ (by omega)]; rfl
  | 8 => rw [va_up_ne _ _ (by omega)]; rfl
  | r + 9 =>
    by_cases h : r + 9 = 3 * k + 9
    · have h0 : r = 3 * k := by omega
      subst h0
      rw [va_up_self, ct_L]
      unfold lsF us upd
      simp
    · rw [va_up_ne _ _ h]
      refine (ctL_ne (G := G) (ad := ad) (σ := σ) (a := 4) (i := k) (x := x) (Or.inr (Or.inl ⟨by decide, ?_⟩)) (Nat.mod_lt r (by decide))).symm
      omega
theorem upL6 {G : GG} {ad : Nat → Nat} {σ : St} {n : Nat} {τ : St}  {k : Nat} {x : Int32} : va_up (ctS G ad σ n τ) (3 * k + 9) (.inr (0, (lsF ad σ k).set 2 (.int x))) = ctS G ad (us σ 6 k x) n τ := by
  funext r
  match r with
  | 0 => rw [va_up_ne _ _ (by omega)]; rfl
  | 1 => rw [va_up_ne _ _ (by omega)]; rfl
  | 2 => rw [va_up_ne _ _ (by omega)]; rfl
  | 3 => rw [va_up_ne _ _ (by omega)]; rfl
  | 4 => rw [va_up_ne _ _ (by omega)]; rfl
  | 5 => rw [va_up_ne _ _ (by omega)]; rfl
  | 6 => rw [va_up_ne _ _ (by omega)]; rfl
  | 7 => rw [va_up_ne _ _ (by omega)]; rfl
  | 8 => rw [va_up_ne _ _ (by omega)]; rfl
  | r + 9 =>
    by_cases h : r + 9 = 3 * k + 9
    · have h0 : r = 3 * k := by omega
      subst h0
      rw [va_up_self, ct_L]
      unfold lsF us upd
      simp
    · rw [va_up_ne _ _ h]
      refine (ctL_ne (G := G) (ad := ad) (σ := σ) (a := 6) (i := k) (x := x) (Or.inr (Or.inl ⟨by decide, ?_⟩)) (Nat.mod_lt r (by decide))).symm
      omega
theorem upL5 {G : GG} {ad : Nat → Nat} {σ : St} {n : Nat} {τ : St}  {k : Nat} {x : Int32} : va_up (ctS G ad σ n τ) (3 * k + 9) (.inr (0, (lsF ad σ k).set 3 (.int x))) = ctS G ad (us σ 5 k x) n τ := by
  funext r
  match r with
  | 0 => rw [va_up_ne _ _ (by omega)]; rfl
  | 1 => rw [va_up_ne _ _ (by omega)]; rfl
  | 2 => rw [va_up_ne _ _ (by omega)]; rfl
  | 3 => rw [va_up_ne _ _ (by omega)]; rfl
  | 4 => rw [va_up_ne _ _ (by omega)]; rfl
  | 5 => rw [va_up_ne _ _ (by omega)]; rfl
  | 6 => rw [va_up_ne _ _ (by omega)]; rfl
  | 7 => rw [va_up_ne _ _ (by omega)]; rfl
  | 8 => rw [va_up_ne _ _ (by omega)]; rfl
  | r + 9 =>
    by_cases h : r + 9 = 3 * k + 9
    · have h0 : r = 3 * k := by omega
      subst h0
      rw [va_up_self, ct_L]
      unfold lsF us upd
      simp
    · rw [va_up_ne _ _ h]
      refine (ctL_ne (G := G) (ad := ad) (σ := σ) (a := 5) (i := k) (x := x) (Or.inr (Or.inl ⟨by decide, ?_⟩)) (Nat.mod_lt r (by decide))).symm
      omega
theorem upL7 {G : GG} {ad : Nat → Nat} {σ : St} {n : Nat} {τ : St}  {k : Nat} {x : Int32} : va_up (ctS G ad σ n τ) (3 * k + 9) (.inr (0, (lsF ad σ k).set 4 (.int x))) = ctS G ad (us σ 7 k x) n τ := by
  funext r
  match r with
  | 0 => rw [va_up_ne _ _ (by omega)]; rfl
  | 1 => rw [va_up_ne _ _ (by omega)]; rfl
  | 2 => rw [va_up_ne _ _ (by omega)]; rfl
  | 3 => rw [va_up_ne _ _ (by omega)]; rfl
  | 4 => rw [va_up_ne _ _ (by omega)]; rfl
  | 5 => rw [va_up_ne _ _ (by omega)]; rfl
  | 6 => rw [va_up_ne _ _ (by omega)]; rfl
  | 7 => rw [va_up_ne _ _ (by omega)]; rfl
  | 8 => rw [va_up_ne _ _ (by omega)]; rfl
  | r + 9 =>
    by_cases h : r + 9 = 3 * k + 9
    · have h0 : r = 3 * k := by omega
      subst h0
      rw [va_up_self, ct_L]
      unfold lsF us upd
      simp
    · rw [va_up_ne _ _ h]
      refine (ctL_ne (G := G) (ad := ad) (σ := σ) (a := 7) (i := k) (x := x) (Or.inr (Or.inl ⟨by decide, ?_⟩)) (Nat.mod_lt r (by decide))).symm
      omega
theorem upL8 {G : GG} {ad : Nat → Nat} {σ : St} {n : Nat} {τ : St}  {k : Nat} {x : Int32} : va_up (ctS G ad σ n τ) (3 * k + 9) (.inr (0, (lsF ad σ k).set 5 (.int x))) = ctS G ad (us σ 8 k x) n τ := by
  funext r
  match r with
  | 0 => rw [va_up_ne _ _ (by omega)]; rfl
  | 1 => rw [va_up_ne _ _ (by omega)]; rfl
  | 2 => rw [va_up_ne _ _ (by omega)]; rfl
  | 3 => rw [va_up_ne _ _ (by omega)]; rfl
  | 4 => rw [va_up_ne _ _ (by omega)]; rfl
  | 5 => rw [va_up_ne _ _ (by omega)]; rfl
  | 6 => rw [va_up_ne _ _ (by omega)]; rfl
  | 7 => rw [va_up_ne _ _ (by omega)]; rfl
  | 8 => rw [va_up_ne _ _ (by omega)]; rfl
  | r + 9 =>
    by_cases h : r + 9 = 3 * k + 9
    · have h0 : r = 3 * k := by omega
      subst h0
      rw [va_up_self, ct_L]
      unfold lsF us upd
      simp
    · rw [va_up_ne _ _ h]
      refine (ctL_ne (G := G) (ad := ad) (σ := σ) (a := 8) (i := k) (x := x) (Or.inr (Or.inl ⟨by decide, ?_⟩)) (Nat.mod_lt r (by decide))).symm
      omega
theorem upL9 {G : GG} {ad : Nat → Nat} {σ : St} {n : Nat} {τ : St}  {k : Nat} {x : Int32} : va_up (ctS G ad σ n τ) (3 * k + 9) (.inr (0, (lsF ad σ k).set 6 (.int x))) = ctS G ad (us σ 9 k x) n τ := by
  funext r
  match r with
  | 0 => rw [va_up_ne _ _ (by omega)]; rfl
  | 1 => rw [va_up_ne _ _ (by omega)]; rfl
  | 2 => rw [va_up_ne _ _ (by omega)]; rfl
  | 3 => rw [va_up_ne _ _ (by omega)]; rfl
  | 4 => rw [va_up_ne _ _ (by omega)]; rfl
  | 5 => rw [va_up_ne _ _ (by omega)]; rfl
  | 6 => rw [va_up_ne _ _ (by omega)]; rfl
  | 7 => rw [va_up_ne _ _ (by omega)]; rfl
  | 8 => rw [va_up_ne _ _ (by omega)]; rfl
  | r + 9 =>
    by_cases h : r + 9 = 3 * k + 9
    · have h0 : r = 3 * k := by omega
      subst h0
      rw [va_up_self, ct_L]
      unfold lsF us upd
      simp
    · rw [va_up_ne _ _ h]
      refine (ctL_ne (G := G) (ad := ad) (σ := σ) (a := 9) (i := k) (x := x) (Or.inr (Or.inl ⟨by decide, ?_⟩)) (Nat.mod_lt r (by decide))).symm
      omega
theorem upL10 {G : GG} {ad : Nat → Nat} {σ : St} {n : Nat} {τ : St}  {k : Nat} {x : Int32} : va_up (ctS G ad σ n τ) (3 * k + 9) (.inr (0, (lsF ad σ k).set 7 (.int x))) = ctS G ad (us σ 10 k x) n τ := by
  funext r
  match r with
  | 0 => rw [va_up_ne _ _ (by omega)]; rfl
  | 1 => rw [va_up_ne _ _ (by omega)]; rfl
  | 2 => rw [va_up_ne _ _ (by omega)]; rfl
  | 3 => rw [va_up_ne _ _ (by omega)]; rfl
  | 4 => rw [va_up_ne _ _ (by omega)]; rfl
  | 5 => rw [va_up_ne _ _ (by omega)]; rfl
  | 6 => rw [va_up_ne _ _ (by omega)]; rfl
  | 7 => rw [va_up_ne _ _ (by omega)]; rfl
  | 8 => rw [va_up_ne _ _ (by omega)]; rfl
  | r + 9 =>
    by_cases h : r + 9 = 3 * k + 9
    · have h0 : r = 3 * k := by omega
      subst h0
      rw [va_up_self, ct_L]
      unfold lsF us upd
      simp
    · rw [va_up_ne _ _ h]
      refine (ctL_ne (G := G) (ad := ad) (σ := σ) (a := 10) (i := k) (x := x) (Or.inr (Or.inl ⟨by decide, ?_⟩)) (Nat.mod_lt r (by decide))).symm
      omega
theorem upL11 {G : GG} {ad : Nat → Nat} {σ : St} {n : Nat} {τ : St}  {k : Nat} {x : Int32} : va_up (ctS G ad σ n τ) (3 * k + 9) (.inr (0, (lsF ad σ k).set 8 (.int x))) = ctS G ad (us σ 11 k x) n τ := by
  funext r
  match r with
  | 0 => rw [va_up_ne _ _ (by omega)]; rfl
  | 1 => rw [va_up_ne _ _ (by omega)]; rfl
  | 2 => rw [va_up_ne _ _ (by omega)]; rfl
  | 3 => rw [va_up_ne _ _ (by omega)]; rfl
  | 4 => rw [va_up_ne _ _ (by omega)]; rfl
  | 5 => rw [va_up_ne _ _ (by omega)]; rfl
  | 6 => rw [va_up_ne _ _ (by omega)]; rfl
  | 7 => rw [va_up_ne _ _ (by omega)]; rfl
  | 8 => rw [va_up_ne _ _ (by omega)]; rfl
  | r + 9 =>
    by_cases h : r + 9 = 3 * k + 9
    · have h0 : r = 3 * k := by omega
      subst h0
      rw [va_up_self, ct_L]
      unfold lsF us upd
      simp
    · rw [va_up_ne _ _ h]
      refine (ctL_ne (G := G) (ad := ad) (σ := σ) (a := 11) (i := k) (x := x) (Or.inr (Or.inl ⟨by decide, ?_⟩)) (Nat.mod_lt r (by decide))).symm
      omega
theorem upL12 {G : GG} {ad : Nat → Nat} {σ : St} {n : Nat} {τ : St}  {k : Nat} {x : Int32} : va_up (ctS G ad σ n τ) (3 * k + 9) (.inr (0, (lsF ad σ k).set 11 (.int x))) = ctS G ad (us σ 12 k x) n τ := by
  funext r
  match r with
  | 0 => rw [va_up_ne _ _ (by omega)]; rfl
  | 1 => rw [va_up_ne _ _ (by omega)]; rfl
  | 2 => rw [va_up_ne _ _ (by omega)]; rfl
  | 3 => rw [va_up_ne _ _ (by omega)]; rfl
  | 4 => rw [va_up_ne _ _ (by omega)]; rfl
  | 5 => rw [va_up_ne _ _ (by omega)]; rfl
  | 6 => rw [va_up_ne _ _ (by omega)]; rfl
  | 7 => rw [va_up_ne _ _ (by omega)]; rfl
  | 8 => rw [va_up_ne _ _ (by omega)]; rfl
  | r + 9 =>
    by_cases h : r + 9 = 3 * k + 9
    · have h0 : r = 3 * k := by omega
      subst h0
      rw [va_up_self, ct_L]
      unfold lsF us upd
      simp
    · rw [va_up_ne _ _ h]
      refine (ctL_ne (G := G) (ad := ad) (σ := σ) (a := 12) (i := k) (x := x) (Or.inr (Or.inl ⟨by decide, ?_⟩)) (Nat.mod_lt r (by decide))).symm
      omega
theorem upR13 {G : GG} {ad : Nat → Nat} {σ : St} {n : Nat} {τ : St}  {k i : Nat} {x : Int32} (hi : i < 6) : va_up (ctS G ad σ n τ) (3 * k + 10) (.inl (G.2.2 0, 6, .inl (upd (rowF σ 13 k) i x))) = ctS G ad (us σ 13 (6 * k + i) x) n τ := by
  funext r
  match r with
  | 0 => rw [va_up_ne _ _ (by omega)]; rfl
  | 1 => rw [va_up_ne _ _ (by omega)]; rfl
  | 2 => rw [va_up_ne _ _ (by omega)]; rfl
  | 3 => rw [va_up_ne _ _ (by omega)]; rfl
  | 4 => rw [va_up_ne _ _ (by omega)]; rfl
  | 5 => rw [va_up_ne _ _ (by omega)]; rfl
  | 6 => rw [va_up_ne _ _ (by omega)]; rfl
  | 7 => rw [va_up_ne _ _ (by omega)]; rfl
  | 8 => rw [va_up_ne _ _ (by omega)]; rfl
  | r + 9 =>
    by_cases h : r + 9 = 3 * k + 10
    · have h0 : r = 3 * k + 1 := by omega
      subst h0
      rw [va_up_self]
      show _ = ctS G ad (us σ 13 (6 * k + i) x) n τ (3 * k + 10)
      rw [ct_L1, rowF_eq hi]
    · rw [va_up_ne _ _ h]
      refine (ctL_ne (G := G) (ad := ad) (σ := σ) (a := 13) (i := 6 * k + i) (x := x) (Or.inr (Or.inr ⟨by decide, ?_⟩)) (Nat.mod_lt r (by decide))).symm
      omega
theorem upR14 {G : GG} {ad : Nat → Nat} {σ : St} {n : Nat} {τ : St}  {k i : Nat} {x : Int32} (hi : i < 6) : va_up (ctS G ad σ n τ) (3 * k + 11) (.inl (G.2.2 0, 6, .inl (upd (rowF σ 14 k) i x))) = ctS G ad (us σ 14 (6 * k + i) x) n τ := by
  funext r
  match r with
  | 0 => rw [va_up_ne _ _ (by omega)]; rfl
  | 1 => rw [va_up_ne _ _ (by omega)]; rfl
  | 2 => rw [va_up_ne _ _ (by omega)]; rfl
  | 3 => rw [va_up_ne _ _ (by omega)]; rfl
  | 4 => rw [va_up_ne _ _ (by omega)]; rfl
  | 5 => rw [va_up_ne _ _ (by omega)]; rfl
  | 6 => rw [va_up_ne _ _ (by omega)]; rfl
  | 7 => rw [va_up_ne _ _ (by omega)]; rfl
  | 8 => rw [va_up_ne _ _ (by omega)]; rfl
  | r + 9 =>
    by_cases h : r + 9 = 3 * k + 11
    · have h0 : r = 3 * k + 2 := by omega
      subst h0
      rw [va_up_self]
      show _ = ctS G ad (us σ 14 (6 * k + i) x) n τ (3 * k + 11)
      rw [ct_L2, rowF_eq hi]
    · rw [va_up_ne _ _ h]
      refine (ctL_ne (G := G) (ad := ad) (σ := σ) (a := 14) (i := 6 * k + i) (x := x) (Or.inr (Or.inr ⟨by decide, ?_⟩)) (Nat.mod_lt r (by decide))).symm
      omega
theorem upM0 {G : GG} {ad : Nat → Nat} {σ : St} {n : Nat} {τ : St}  {i : Nat} {x : Int32} : va_up (ctS G ad σ n τ) 5 (.inl (G.2.2 0, 60, .inl (upd (τ 0) i x))) = ctS G ad σ n (us τ 0 i x) := by
  funext r
  match r with
  | 0 => rfl
  | 1 => rfl
  | 2 => rfl
  | 3 => rfl
  | 4 => rfl
  | 5 => rfl
  | 6 => rfl
  | 7 => rfl
  | 8 => rfl
  | r + 9 => rw [va_up_ne _ _ (by omega)]; rfl
theorem upM1 {G : GG} {ad : Nat → Nat} {σ : St} {n : Nat} {τ : St}  {i : Nat} {x : Int32} : va_up (ctS G ad σ n τ) 6 (.inl (G.2.2 0, 7, .inl (upd (τ 1) i x))) = ctS G ad σ n (us τ 1 i x) := by
  funext r
  match r with
  | 0 => rfl
  | 1 => rfl
  | 2 => rfl
  | 3 => rfl
  | 4 => rfl
  | 5 => rfl
  | 6 => rfl
  | 7 => rfl
  | 8 => rfl
  | r + 9 => rw [va_up_ne _ _ (by omega)]; rfl
theorem upM2 {G : GG} {ad : Nat → Nat} {σ : St} {n : Nat} {τ : St}  {i : Nat} {x : Int32} : va_up (ctS G ad σ n τ) 7 (.inl (G.2.2 0, 12, .inl (upd (τ 2) i x))) = ctS G ad σ n (us τ 2 i x) := by
  funext r
  match r with
  | 0 => rfl
  | 1 => rfl
  | 2 => rfl
  | 3 => rfl
  | 4 => rfl
  | 5 => rfl
  | 6 => rfl
  | 7 => rfl
  | 8 => rfl
  | r + 9 => rw [va_up_ne _ _ (by omega)]; rfl
theorem upM3 {G : GG} {ad : Nat → Nat} {σ : St} {n : Nat} {τ : St}  {i : Nat} {x : Int32} : va_up (ctS G ad σ n τ) 8 (.inl (G.2.2 0, 36, .inl (upd (τ 3) i x))) = ctS G ad σ n (us τ 3 i x) := by
  funext r
  match r with
  | 0 => rfl
  | 1 => rfl
  | 2 => rfl
  | 3 => rfl
  | 4 => rfl
  | 5 => rfl
  | 6 => rfl
  | 7 => rfl
  | 8 => rfl
  | r + 9 => rw [va_up_ne _ _ (by omega)]; rfl
section GS
variable {p : Program} {l : Launch} {e : Env} {R : Room} {s : State} {m : MethodId} {args : Array Value} {below : List Frame} {meth : Method} {c : Code} {H : Heap} {locs : List Loc} {cells slots : Nat} {Q : State → Prop}
variable {cc : ByteArray} {nL : Nat} {Ts : List Cond} {own : String} {pc : Nat} {ls : Array Slot} {rest : List Value} {G : GG} {ad : Nat → Nat} {σ : St} {n : Nat} {τ : St} 
theorem rdA0 (hC : CallFix p m c cc nL s args Ts own) (hY : SyS G ad σ n τ s H locs)  {i : Int32} (hin : 0 ≤ i.toInt ∧ i.toInt < 6) (hdg : decode cc pc = .ok (.iaload, 1)) (kk : W p l e R s m args below meth c H locs cells slots Q (F0 m (pc + 1) ls (.int (σ 0 (ix i)) :: rest))) : W p l e R s m args below meth c H locs cells slots Q (F0 m pc ls (.int i :: .ref (ad (1)) :: rest)) :=
  g_iald hC hY (1) (by omega) (n := 6) (f := σ 0) rfl hin hdg kk
theorem wrA0 (hC : CallFix p m c cc nL s args Ts own) (hY : SyS G ad σ n τ s H locs)  {i x : Int32} (hin : 0 ≤ i.toInt ∧ i.toInt < 6) (hdg : decode cc pc = .ok (.iastore, 1)) (kk : ∀ (H1 : Heap) (locs1 : List Loc), SyS G ad (us σ 0 (ix i) x) n τ s H1 locs1 → W p l e R s m args below meth c H1 locs1 cells slots Q (F0 m (pc + 1) ls (rest))) : W p l e R s m args below meth c H locs cells slots Q (F0 m pc ls (.int x :: .int i :: .ref (ad (1)) :: rest)) :=
  g_iast hC hY (1) (by omega) (n := 6) (f := σ 0) rfl hin hdg (fun H1 locs1 h => kk H1 locs1 (by rw [upA0] at h; exact h))
theorem rdA1 (hC : CallFix p m c cc nL s args Ts own) (hY : SyS G ad σ n τ s H locs)  {i : Int32} (hin : 0 ≤ i.toInt ∧ i.toInt < 240) (hdg : decode cc pc = .ok (.iaload, 1)) (kk : W p l e R s m args below meth c H locs cells slots Q (F0 m (pc + 1) ls (.int (σ 1 (ix i)) :: rest))) : W p l e R s m args below meth c H locs cells slots Q (F0 m pc ls (.int i :: .ref (ad (2)) :: rest)) :=
  g_iald hC hY (2) (by omega) (n := 240) (f := σ 1) rfl hin hdg kk
theorem wrA1 (hC : CallFix p m c cc nL s args Ts own) (hY : SyS G ad σ n τ s H locs)  {i x : Int32} (hin : 0 ≤ i.toInt ∧ i.toInt < 240) (hdg : decode cc pc = .ok (.iastore, 1)) (kk : ∀ (H1 : Heap) (locs1 : List Loc), SyS G ad (us σ 1 (ix i) x) n τ s H1 locs1 → W p l e R s m args below meth c H1 locs1 cells slots Q (F0 m (pc + 1) ls (rest))) : W p l e R s m args below meth c H locs cells slots Q (F0 m pc ls (.int x :: .int i :: .ref (ad (2)) :: rest)) :=
  g_iast hC hY (2) (by omega) (n := 240) (f := σ 1) rfl hin hdg (fun H1 locs1 h => kk H1 locs1 (by rw [upA1] at h; exact h))
theorem rdA2 (hC : CallFix p m c cc nL s args Ts own) (hY : SyS G ad σ n τ s H locs)  {i : Int32} (hin : 0 ≤ i.toInt ∧ i.toInt < 20) (hdg : decode cc pc = .ok (.iaload, 1)) (kk : W p l e R s m args below meth c H locs cells slots Q (F0 m (pc + 1) ls (.int (σ 2 (ix i)) :: rest))) : W p l e R s m args below meth c H locs cells slots Q (F0 m pc ls (.int i :: .ref (ad (3)) :: rest)) :=
  g_iald hC hY (3) (by omega) (n := 20) (f := σ 2) rfl hin hdg kk
theorem wrA2 (hC : CallFix p m c cc nL s args Ts own) (hY : SyS G ad σ n τ s H locs)  {i x : Int32} (hin : 0 ≤ i.toInt ∧ i.toInt < 20) (hdg : decode cc pc = .ok (.iastore, 1)) (kk : ∀ (H1 : Heap) (locs1 : List Loc), SyS G ad (us σ 2 (ix i) x) n τ s H1 locs1 → W p l e R s m args below meth c H1 locs1 cells slots Q (F0 m (pc + 1) ls (rest))) : W p l e R s m args below meth c H locs cells slots Q (F0 m pc ls (.int x :: .int i :: .ref (ad (3)) :: rest)) :=
  g_iast hC hY (3) (by omega) (n := 20) (f := σ 2) rfl hin hdg (fun H1 locs1 h => kk H1 locs1 (by rw [upA2] at h; exact h))
theorem rdM0 (hC : CallFix p m c cc nL s args Ts own) (hY : SyS G ad σ n τ s H locs)  {i : Int32} (hin : 0 ≤ i.toInt ∧ i.toInt < 60) (hdg : decode cc pc = .ok (.iaload, 1)) (kk : W p l e R s m args below meth c H locs cells slots Q (F0 m (pc + 1) ls (.int (τ 0 (ix i)) :: rest))) : W p l e R s m args below meth c H locs cells slots Q (F0 m pc ls (.int i :: .ref (ad (5)) :: rest)) :=
  g_iald hC hY (5) (by omega) (n := 60) (f := τ 0) rfl hin hdg kk
theorem wrM0 (hC : CallFix p m c cc nL s args Ts own) (hY : SyS G ad σ n τ s H locs)  {i x : Int32} (hin : 0 ≤ i.toInt ∧ i.toInt < 60) (hdg : decode cc pc = .ok (.iastore, 1)) (kk : ∀ (H1 : Heap) (locs1 : List Loc), SyS G ad σ n (us τ 0 (ix i) x) s H1 locs1 → W p l e R s m args below meth c H1 locs1 cells slots Q (F0 m (pc + 1) ls (rest))) : W p l e R s m args below meth c H locs cells slots Q (F0 m pc ls (.int x :: .int i :: .ref (ad (5)) :: rest)) :=
  g_iast hC hY (5) (by omega) (n := 60) (f := τ 0) rfl hin hdg (fun H1 locs1 h => kk H1 locs1 (by rw [upM0] at h; exact h))
theorem rdM1 (hC : CallFix p m c cc nL s args Ts own) (hY : SyS G ad σ n τ s H locs)  {i : Int32} (hin : 0 ≤ i.toInt ∧ i.toInt < 7) (hdg : decode cc pc = .ok (.iaload, 1)) (kk : W p l e R s m args below meth c H locs cells slots Q (F0 m (pc + 1) ls (.int (τ 1 (ix i)) :: rest))) : W p l e R s m args below meth c H locs cells slots Q (F0 m pc ls (.int i :: .ref (ad (6)) :: rest)) :=
  g_iald hC hY (6) (by omega) (n := 7) (f := τ 1) rfl hin hdg kk
theorem wrM1 (hC : CallFix p m c cc nL s args Ts own) (hY : SyS G ad σ n τ s H locs)  {i x : Int32} (hin : 0 ≤ i.toInt ∧ i.toInt < 7) (hdg : decode cc pc = .ok (.iastore, 1)) (kk : ∀ (H1 : Heap) (locs1 : List Loc), SyS G ad σ n (us τ 1 (ix i) x) s H1 locs1 → W p l e R s m args below meth c H1 locs1 cells slots Q (F0 m (pc + 1) ls (rest))) : W p l e R s m args below meth c H locs cells slots Q (F0 m pc ls (.int x :: .int i :: .ref (ad (6)) :: rest)) :=
  g_iast hC hY (6) (by omega) (n := 7) (f := τ 1) rfl hin hdg (fun H1 locs1 h => kk H1 locs1 (by rw [upM1] at h; exact h))
theorem rdM2 (hC : CallFix p m c cc nL s args Ts own) (hY : SyS G ad σ n τ s H locs)  {i : Int32} (hin : 0 ≤ i.toInt ∧ i.toInt < 12) (hdg : decode cc pc = .ok (.iaload, 1)) (kk : W p l e R s m args below meth c H locs cells slots Q (F0 m (pc + 1) ls (.int (τ 2 (ix i)) :: rest))) : W p l e R s m args below meth c H locs cells slots Q (F0 m pc ls (.int i :: .ref (ad (7)) :: rest)) :=
  g_iald hC hY (7) (by omega) (n := 12) (f := τ 2) rfl hin hdg kk
theorem wrM2 (hC : CallFix p m c cc nL s args Ts own) (hY : SyS G ad σ n τ s H locs)  {i x : Int32} (hin : 0 ≤ i.toInt ∧ i.toInt < 12) (hdg : decode cc pc = .ok (.iastore, 1)) (kk : ∀ (H1 : Heap) (locs1 : List Loc), SyS G ad σ n (us τ 2 (ix i) x) s H1 locs1 → W p l e R s m args below meth c H1 locs1 cells slots Q (F0 m (pc + 1) ls (rest))) : W p l e R s m args below meth c H locs cells slots Q (F0 m pc ls (.int x :: .int i :: .ref (ad (7)) :: rest)) :=
  g_iast hC hY (7) (by omega) (n := 12) (f := τ 2) rfl hin hdg (fun H1 locs1 h => kk H1 locs1 (by rw [upM2] at h; exact h))
theorem rdM3 (hC : CallFix p m c cc nL s args Ts own) (hY : SyS G ad σ n τ s H locs)  {i : Int32} (hin : 0 ≤ i.toInt ∧ i.toInt < 36) (hdg : decode cc pc = .ok (.iaload, 1)) (kk : W p l e R s m args below meth c H locs cells slots Q (F0 m (pc + 1) ls (.int (τ 3 (ix i)) :: rest))) : W p l e R s m args below meth c H locs cells slots Q (F0 m pc ls (.int i :: .ref (ad (8)) :: rest)) :=
  g_iald hC hY (8) (by omega) (n := 36) (f := τ 3) rfl hin hdg kk
theorem wrM3 (hC : CallFix p m c cc nL s args Ts own) (hY : SyS G ad σ n τ s H locs)  {i x : Int32} (hin : 0 ≤ i.toInt ∧ i.toInt < 36) (hdg : decode cc pc = .ok (.iastore, 1)) (kk : ∀ (H1 : Heap) (locs1 : List Loc), SyS G ad σ n (us τ 3 (ix i) x) s H1 locs1 → W p l e R s m args below meth c H1 locs1 cells slots Q (F0 m (pc + 1) ls (rest))) : W p l e R s m args below meth c H locs cells slots Q (F0 m pc ls (.int x :: .int i :: .ref (ad (8)) :: rest)) :=
  g_iast hC hY (8) (by omega) (n := 36) (f := τ 3) rfl hin hdg (fun H1 locs1 h => kk H1 locs1 (by rw [upM3] at h; exact h))
theorem ix_lt {i : Int32} {N : Nat} (h : 0 ≤ i.toInt ∧ i.toInt < N) : ix i < N := by
  have h1 : ¬ i < 0 := by rw [Int32.lt_iff_toInt_lt]; have := h.1; simp; omega
  obtain ⟨k, hk, rfl⟩ := nI_of h1
  have h2 := h.2
  rw [nI_toInt hk] at h2
  show (nI k).toNatClampNeg < N
  rw [nI_clamp hk]
  omega
theorem ix_toInt {i : Int32} (h : 0 ≤ i.toInt) : (ix i : Int) = i.toInt := by
  have h1 : ¬ i < 0 := by rw [Int32.lt_iff_toInt_lt]; simp; omega
  obtain ⟨k, hk, rfl⟩ := nI_of h1
  rw [nI_toInt hk]
  show ((nI k).toNatClampNeg : Int) = k
  rw [nI_clamp hk]
theorem rdL13 (hC : CallFix p m c cc nL s args Ts own) (hY : SyS G ad σ n τ s H locs) {k : Nat} (hk : k < n) {i : Int32} (hin : 0 ≤ i.toInt ∧ i.toInt < 6) (hdg : decode cc pc = .ok (.iaload, 1)) (kk : W p l e R s m args below meth c H locs cells slots Q (F0 m (pc + 1) ls (.int (rowF σ 13 k (ix i)) :: rest))) : W p l e R s m args below meth c H locs cells slots Q (F0 m pc ls (.int i :: .ref (ad (3 * k + 10)) :: rest)) :=
  g_iald hC hY (3 * k + 10) (by omega) (n := 6) (f := rowF σ 13 k) (ct_L1 k) hin hdg kk
theorem wrL13 (hC : CallFix p m c cc nL s args Ts own) (hY : SyS G ad σ n τ s H locs) {k : Nat} (hk : k < n) {i x : Int32} (hin : 0 ≤ i.toInt ∧ i.toInt < 6) (hdg : decode cc pc = .ok (.iastore, 1)) (kk : ∀ (H1 : Heap) (locs1 : List Loc), SyS G ad (us σ 13 (6 * k + ix i) x) n τ s H1 locs1 → W p l e R s m args below meth c H1 locs1 cells slots Q (F0 m (pc + 1) ls (rest))) : W p l e R s m args below meth c H locs cells slots Q (F0 m pc ls (.int x :: .int i :: .ref (ad (3 * k + 10)) :: rest)) :=
  g_iast hC hY (3 * k + 10) (by omega) (n := 6) (f := rowF σ 13 k) (ct_L1 k) hin hdg (fun H1 locs1 h => kk H1 locs1 (by rw [upR13 (ix_lt (N := 6) hin)] at h; exact h))
theorem rdL14 (hC : CallFix p m c cc nL s args Ts own) (hY : SyS G ad σ n τ s H locs) {k : Nat} (hk : k < n) {i : Int32} (hin : 0 ≤ i.toInt ∧ i.toInt < 6) (hdg : decode cc pc = .ok (.iaload, 1)) (kk : W p l e R s m args below meth c H locs cells slots Q (F0 m (pc + 1) ls (.int (rowF σ 14 k (ix i)) :: rest))) : W p l e R s m args below meth c H locs cells slots Q (F0 m pc ls (.int i :: .ref (ad (3 * k + 11)) :: rest)) :=
  g_iald hC hY (3 * k + 11) (by omega) (n := 6) (f := rowF σ 14 k) (ct_L2 k) hin hdg kk
theorem wrL14 (hC : CallFix p m c cc nL s args Ts own) (hY : SyS G ad σ n τ s H locs) {k : Nat} (hk : k < n) {i x : Int32} (hin : 0 ≤ i.toInt ∧ i.toInt < 6) (hdg : decode cc pc = .ok (.iastore, 1)) (kk : ∀ (H1 : Heap) (locs1 : List Loc), SyS G ad (us σ 14 (6 * k + ix i) x) n τ s H1 locs1 → W p l e R s m args below meth c H1 locs1 cells slots Q (F0 m (pc + 1) ls (rest))) : W p l e R s m args below meth c H locs cells slots Q (F0 m pc ls (.int x :: .int i :: .ref (ad (3 * k + 11)) :: rest)) :=
  g_iast hC hY (3 * k + 11) (by omega) (n := 6) (f := rowF σ 14 k) (ct_L2 k) hin hdg (fun H1 locs1 h => kk H1 locs1 (by rw [upR14 (ix_lt (N := 6) hin)] at h; exact h))
theorem rdRoll (hC : CallFix p m c cc nL s args Ts own) (hY : SyS G ad σ n τ s H locs) {i : Int32} (hin : 0 ≤ i.toInt ∧ i.toInt < 24) (hdg : decode cc pc = .ok (.aaload, 1)) (kk : W p l e R s m args below meth c H locs cells slots Q (F0 m (pc + 1) ls (va_rf (roF ad n (ix i)) :: rest))) : W p l e R s m args below meth c H locs cells slots Q (F0 m pc ls (.int i :: .ref (ad 4) :: rest)) :=
  g_aald hC hY 4 (by omega) (n := 24) (f := roF ad n) rfl hin hdg kk
theorem gtL_unit (hC : CallFix p m c cc nL s args Ts own) (hin : ∀ w ∈ wsX00, w ∈ Ts) (hY : SyS G ad σ n τ s H locs) {k : Nat} (hk : k < n) {index : Nat} (hlink : Cond.fieldLink own index (TX0 0).1 (TX0 0).2.1 (TX0 0).2.2.1 ∈ Ts) (hdg : decode cc pc = .ok (.getfield index, 3)) (kk : W p l e R s m args below meth c H locs cells slots Q (F0 m (pc + 3) ls (.int (σ 3 k) :: rest))) : W p l e R s m args below meth c H locs cells slots Q (F0 m pc ls (.ref (ad (3 * k + 9)) :: rest)) :=
  g_get hC hY (3 * k + 9) (by omega) (ct_L k) (q := (RX0, TX0, 12)) rfl hin 0 (by decide) hlink rfl hdg kk
theorem gtL_from (hC : CallFix p m c cc nL s args Ts own) (hin : ∀ w ∈ wsX00, w ∈ Ts) (hY : SyS G ad σ n τ s H locs) {k : Nat} (hk : k < n) {index : Nat} (hlink : Cond.fieldLink own index (TX0 1).1 (TX0 1).2.1 (TX0 1).2.2.1 ∈ Ts) (hdg : decode cc pc = .ok (.getfield index, 3)) (kk : W p l e R s m args below meth c H locs cells slots Q (F0 m (pc + 3) ls (.int (σ 4 k) :: rest))) : W p l e R s m args below meth c H locs cells slots Q (F0 m pc ls (.ref (ad (3 * k + 9)) :: rest)) :=
  g_get hC hY (3 * k + 9) (by omega) (ct_L k) (q := (RX0, TX0, 12)) rfl hin 1 (by decide) hlink rfl hdg kk
theorem gtL_firstRent (hC : CallFix p m c cc nL s args Ts own) (hin : ∀ w ∈ wsX00, w ∈ Ts) (hY : SyS G ad σ n τ s H locs) {k : Nat} (hk : k < n) {index : Nat} (hlink : Cond.fieldLink own index (TX0 2).1 (TX0 2).2.1 (TX0 2).2.2.1 ∈ Ts) (hdg : decode cc pc = .ok (.getfield index, 3)) (kk : W p l e R s m args below meth c H locs cells slots Q (F0 m (pc + 3) ls (.int (σ 6 k) :: rest))) : W p l e R s m args below meth c H locs cells slots Q (F0 m pc ls (.ref (ad (3 * k + 9)) :: rest)) :=
  g_get hC hY (3 * k + 9) (by omega) (ct_L k) (q := (RX0, TX0, 12)) rfl hin 2 (by decide) hlink rfl hdg kk
theorem gtL_to (hC : CallFix p m c cc nL s args Ts own) (hin : ∀ w ∈ wsX00, w ∈ Ts) (hY : SyS G ad σ n τ s H locs) {k : Nat} (hk : k < n) {index : Nat} (hlink : Cond.fieldLink own index (TX0 3).1 (TX0 3).2.1 (TX0 3).2.2.1 ∈ Ts) (hdg : decode cc pc = .ok (.getfield index, 3)) (kk : W p l e R s m args below meth c H locs cells slots Q (F0 m (pc + 3) ls (.int (σ 5 k) :: rest))) : W p l e R s m args below meth c H locs cells slots Q (F0 m pc ls (.ref (ad (3 * k + 9)) :: rest)) :=
  g_get hC hY (3 * k + 9) (by omega) (ct_L k) (q := (RX0, TX0, 12)) rfl hin 3 (by decide) hlink rfl hdg kk
theorem ptL_to (hC : CallFix p m c cc nL s args Ts own) (hin : ∀ w ∈ wsX00, w ∈ Ts) (hY : SyS G ad σ n τ s H locs) {k : Nat} (hk : k < n) {index : Nat} (hlink : Cond.fieldLink own index (TX0 3).1 (TX0 3).2.1 (TX0 3).2.2.1 ∈ Ts) {x : Int32} (hdg : decode cc pc = .ok (.putfield index, 3)) (kk : ∀ (H1 : Heap) (locs1 : List Loc), SyS G ad (us σ 5 k x) n τ s H1 locs1 → W p l e R s m args below meth c H1 locs1 cells slots Q (F0 m (pc + 3) ls (rest))) : W p l e R s m args below meth c H locs cells slots Q (F0 m pc ls (.int x :: .ref (ad (3 * k + 9)) :: rest)) :=
  g_put hC hY (3 * k + 9) (by omega) (ct_L k) (q := (RX0, TX0, 12)) rfl hin tyX0 tyX0_ok nmX0 3 (by decide) hlink (Or.inl rfl) rfl rfl (Nat.le_of_ble_eq_true rfl) hdg (fun H1 locs1 h => kk H1 locs1 (by rw [upL5] at h; exact h))
theorem gtL_free (hC : CallFix p m c cc nL s args Ts own) (hin : ∀ w ∈ wsX00, w ∈ Ts) (hY : SyS G ad σ n τ s H locs) {k : Nat} (hk : k < n) {index : Nat} (hlink : Cond.fieldLink own index (TX0 4).1 (TX0 4).2.1 (TX0 4).2.2.1 ∈ Ts) (hdg : decode cc pc = .ok (.getfield index, 3)) (kk : W p l e R s m args below meth c H locs cells slots Q (F0 m (pc + 3) ls (.int (σ 7 k) :: rest))) : W p l e R s m args below meth c H locs cells slots Q (F0 m pc ls (.ref (ad (3 * k + 9)) :: rest)) :=
  g_get hC hY (3 * k + 9) (by omega) (ct_L k) (q := (RX0, TX0, 12)) rfl hin 4 (by decide) hlink rfl hdg kk
theorem ptL_free (hC : CallFix p m c cc nL s args Ts own) (hin : ∀ w ∈ wsX00, w ∈ Ts) (hY : SyS G ad σ n τ s H locs) {k : Nat} (hk : k < n) {index : Nat} (hlink : Cond.fieldLink own index (TX0 4).1 (TX0 4).2.1 (TX0 4).2.2.1 ∈ Ts) {x : Int32} (hdg : decode cc pc = .ok (.putfield index, 3)) (kk : ∀ (H1 : Heap) (locs1 : List Loc), SyS G ad (us σ 7 k x) n τ s H1 locs1 → W p l e R s m args below meth c H1 locs1 cells slots Q (F0 m (pc + 3) ls (rest))) : W p l e R s m args below meth c H locs cells slots Q (F0 m pc ls (.int x :: .ref (ad (3 * k + 9)) :: rest)) :=
  g_put hC hY (3 * k + 9) (by omega) (ct_L k) (q := (RX0, TX0, 12)) rfl hin tyX0 tyX0_ok nmX0 4 (by decide) hlink (Or.inl rfl) rfl rfl (Nat.le_of_ble_eq_true rfl) hdg (fun H1 locs1 h => kk H1 locs1 (by rw [upL7] at h; exact h))
theorem gtL_every (hC : CallFix p m c cc nL s args Ts own) (hin : ∀ w ∈ wsX00, w ∈ Ts) (hY : SyS G ad σ n τ s H locs) {k : Nat} (hk : k < n) {index : Nat} (hlink : Cond.fieldLink own index (TX0 5).1 (TX0 5).2.1 (TX0 5).2.2.1 ∈ Ts) (hdg : decode cc pc = .ok (.getfield index, 3)) (kk : W p l e R s m args below meth c H locs cells slots Q (F0 m (pc + 3) ls (.int (σ 8 k) :: rest))) : W p l e R s m args below meth c H locs cells slots Q (F0 m pc ls (.ref (ad (3 * k + 9)) :: rest)) :=
  g_get hC hY (3 * k + 9) (by omega) (ct_L k) (q := (RX0, TX0, 12)) rfl hin 5 (by decide) hlink rfl hdg kk
theorem ptL_every (hC : CallFix p m c cc nL s args Ts own) (hin : ∀ w ∈ wsX00, w ∈ Ts) (hY : SyS G ad σ n τ s H locs) {k : Nat} (hk : k < n) {index : Nat} (hlink : Cond.fieldLink own index (TX0 5).1 (TX0 5).2.1 (TX0 5).2.2.1 ∈ Ts) {x : Int32} (hdg : decode cc pc = .ok (.putfield index, 3)) (kk : ∀ (H1 : Heap) (locs1 : List Loc), SyS G ad (us σ 8 k x) n τ s H1 locs1 → W p l e R s m args below meth c H1 locs1 cells slots Q (F0 m (pc + 3) ls (rest))) : W p l e R s m args below meth c H locs cells slots Q (F0 m pc ls (.int x :: .ref (ad (3 * k + 9)) :: rest)) :=
  g_put hC hY (3 * k + 9) (by omega) (ct_L k) (q := (RX0, TX0, 12)) rfl hin tyX0 tyX0_ok nmX0 5 (by decide) hlink (Or.inl rfl) rfl rfl (Nat.le_of_ble_eq_true rfl) hdg (fun H1 locs1 h => kk H1 locs1 (by rw [upL8] at h; exact h))
theorem gtL_cap (hC : CallFix p m c cc nL s args Ts own) (hin : ∀ w ∈ wsX00, w ∈ Ts) (hY : SyS G ad σ n τ s H locs) {k : Nat} (hk : k < n) {index : Nat} (hlink : Cond.fieldLink own index (TX0 6).1 (TX0 6).2.1 (TX0 6).2.2.1 ∈ Ts) (hdg : decode cc pc = .ok (.getfield index, 3)) (kk : W p l e R s m args below meth c H locs cells slots Q (F0 m (pc + 3) ls (.int (σ 9 k) :: rest))) : W p l e R s m args below meth c H locs cells slots Q (F0 m pc ls (.ref (ad (3 * k + 9)) :: rest)) :=
  g_get hC hY (3 * k + 9) (by omega) (ct_L k) (q := (RX0, TX0, 12)) rfl hin 6 (by decide) hlink rfl hdg kk
theorem ptL_cap (hC : CallFix p m c cc nL s args Ts own) (hin : ∀ w ∈ wsX00, w ∈ Ts) (hY : SyS G ad σ n τ s H locs) {k : Nat} (hk : k < n) {index : Nat} (hlink : Cond.fieldLink own index (TX0 6).1 (TX0 6).2.1 (TX0 6).2.2.1 ∈ Ts) {x : Int32} (hdg : decode cc pc = .ok (.putfield index, 3)) (kk : ∀ (H1 : Heap) (locs1 : List Loc), SyS G ad (us σ 9 k x) n τ s H1 locs1 → W p l e R s m args below meth c H1 locs1 cells slots Q (F0 m (pc + 3) ls (rest))) : W p l e R s m args below meth c H locs cells slots Q (F0 m pc ls (.int x :: .ref (ad (3 * k + 9)) :: rest)) :=
  g_put hC hY (3 * k + 9) (by omega) (ct_L k) (q := (RX0, TX0, 12)) rfl hin tyX0 tyX0_ok nmX0 6 (by decide) hlink (Or.inl rfl) rfl rfl (Nat.le_of_ble_eq_true rfl) hdg (fun H1 locs1 h => kk H1 locs1 (by rw [upL9] at h; exact h))
theorem gtL_prepaid (hC : CallFix p m c cc nL s args Ts own) (hin : ∀ w ∈ wsX00, w ∈ Ts) (hY : SyS G ad σ n τ s H locs) {k : Nat} (hk : k < n) {index : Nat} (hlink : Cond.fieldLink own index (TX0 7).1 (TX0 7).2.1 (TX0 7).2.2.1 ∈ Ts) (hdg : decode cc pc = .ok (.getfield index, 3)) (kk : W p l e R s m args below meth c H locs cells slots Q (F0 m (pc + 3) ls (.int (σ 10 k) :: rest))) : W p l e R s m args below meth c H locs cells slots Q (F0 m pc ls (.ref (ad (3 * k + 9)) :: rest)) :=
  g_get hC hY (3 * k + 9) (by omega) (ct_L k) (q := (RX0, TX0, 12)) rfl hin 7 (by decide) hlink rfl hdg kk
theorem ptL_prepaid (hC : CallFix p m c cc nL s args Ts own) (hin : ∀ w ∈ wsX00, w ∈ Ts) (hY : SyS G ad σ n τ s H locs) {k : Nat} (hk : k < n) {index : Nat} (hlink : Cond.fieldLink own index (TX0 7).1 (TX0 7).2.1 (TX0 7).2.2.1 ∈ Ts) {x : Int32} (hdg : decode cc pc = .ok (.putfield index, 3)) (kk : ∀ (H1 : Heap) (locs1 : List Loc), SyS G ad (us σ 10 k x) n τ s H1 locs1 → W p l e R s m args below meth c H1 locs1 cells slots Q (F0 m (pc + 3) ls (rest))) : W p l e R s m args below meth c H locs cells slots Q (F0 m pc ls (.int x :: .ref (ad (3 * k + 9)) :: rest)) :=
  g_put hC hY (3 * k + 9) (by omega) (ct_L k) (q := (RX0, TX0, 12)) rfl hin tyX0 tyX0_ok nmX0 7 (by decide) hlink (Or.inl rfl) rfl rfl (Nat.le_of_ble_eq_true rfl) hdg (fun H1 locs1 h => kk H1 locs1 (by rw [upL10] at h; exact h))
theorem gtL_deposit (hC : CallFix p m c cc nL s args Ts own) (hin : ∀ w ∈ wsX00, w ∈ Ts) (hY : SyS G ad σ n τ s H locs) {k : Nat} (hk : k < n) {index : Nat} (hlink : Cond.fieldLink own index (TX0 8).1 (TX0 8).2.1 (TX0 8).2.2.1 ∈ Ts) (hdg : decode cc pc = .ok (.getfield index, 3)) (kk : W p l e R s m args below meth c H locs cells slots Q (F0 m (pc + 3) ls (.int (σ 11 k) :: rest))) : W p l e R s m args below meth c H locs cells slots Q (F0 m pc ls (.ref (ad (3 * k + 9)) :: rest)) :=
  g_get hC hY (3 * k + 9) (by omega) (ct_L k) (q := (RX0, TX0, 12)) rfl hin 8 (by decide) hlink rfl hdg kk
theorem ptL_deposit (hC : CallFix p m c cc nL s args Ts own) (hin : ∀ w ∈ wsX00, w ∈ Ts) (hY : SyS G ad σ n τ s H locs) {k : Nat} (hk : k < n) {index : Nat} (hlink : Cond.fieldLink own index (TX0 8).1 (TX0 8).2.1 (TX0 8).2.2.1 ∈ Ts) {x : Int32} (hdg : decode cc pc = .ok (.putfield index, 3)) (kk : ∀ (H1 : Heap) (locs1 : List Loc), SyS G ad (us σ 11 k x) n τ s H1 locs1 → W p l e R s m args below meth c H1 locs1 cells slots Q (F0 m (pc + 3) ls (rest))) : W p l e R s m args below meth c H locs cells slots Q (F0 m pc ls (.int x :: .ref (ad (3 * k + 9)) :: rest)) :=
  g_put hC hY (3 * k + 9) (by omega) (ct_L k) (q := (RX0, TX0, 12)) rfl hin tyX0 tyX0_ok nmX0 8 (by decide) hlink (Or.inl rfl) rfl rfl (Nat.le_of_ble_eq_true rfl) hdg (fun H1 locs1 h => kk H1 locs1 (by rw [upL11] at h; exact h))
theorem gtL_stepDays (hC : CallFix p m c cc nL s args Ts own) (hin : ∀ w ∈ wsX00, w ∈ Ts) (hY : SyS G ad σ n τ s H locs) {k : Nat} (hk : k < n) {index : Nat} (hlink : Cond.fieldLink own index (TX0 9).1 (TX0 9).2.1 (TX0 9).2.2.1 ∈ Ts) (hdg : decode cc pc = .ok (.getfield index, 3)) (kk : W p l e R s m args below meth c H locs cells slots Q (F0 m (pc + 3) ls (.ref (ad (3 * k + 10)) :: rest))) : W p l e R s m args below meth c H locs cells slots Q (F0 m pc ls (.ref (ad (3 * k + 9)) :: rest)) :=
  g_get hC hY (3 * k + 9) (by omega) (ct_L k) (q := (RX0, TX0, 12)) rfl hin 9 (by decide) hlink rfl hdg kk
theorem gtL_stepRents (hC : CallFix p m c cc nL s args Ts own) (hin : ∀ w ∈ wsX00, w ∈ Ts) (hY : SyS G ad σ n τ s H locs) {k : Nat} (hk : k < n) {index : Nat} (hlink : Cond.fieldLink own index (TX0 10).1 (TX0 10).2.1 (TX0 10).2.2.1 ∈ Ts) (hdg : decode cc pc = .ok (.getfield index, 3)) (kk : W p l e R s m args below meth c H locs cells slots Q (F0 m (pc + 3) ls (.ref (ad (3 * k + 11)) :: rest))) : W p l e R s m args below meth c H locs cells slots Q (F0 m pc ls (.ref (ad (3 * k + 9)) :: rest)) :=
  g_get hC hY (3 * k + 9) (by omega) (ct_L k) (q := (RX0, TX0, 12)) rfl hin 10 (by decide) hlink rfl hdg kk
theorem gtL_steps (hC : CallFix p m c cc nL s args Ts own) (hin : ∀ w ∈ wsX00, w ∈ Ts) (hY : SyS G ad σ n τ s H locs) {k : Nat} (hk : k < n) {index : Nat} (hlink : Cond.fieldLink own index (TX0 11).1 (TX0 11).2.1 (TX0 11).2.2.1 ∈ Ts) (hdg : decode cc pc = .ok (.getfield index, 3)) (kk : W p l e R s m args below meth c H locs cells slots Q (F0 m (pc + 3) ls (.int (σ 12 k) :: rest))) : W p l e R s m args below meth c H locs cells slots Q (F0 m pc ls (.ref (ad (3 * k + 9)) :: rest)) :=
  g_get hC hY (3 * k + 9) (by omega) (ct_L k) (q := (RX0, TX0, 12)) rfl hin 11 (by decide) hlink rfl hdg kk
theorem ptL_steps (hC : CallFix p m c cc nL s args Ts own) (hin : ∀ w ∈ wsX00, w ∈ Ts) (hY : SyS G ad σ n τ s H locs) {k : Nat} (hk : k < n) {index : Nat} (hlink : Cond.fieldLink own index (TX0 11).1 (TX0 11).2.1 (TX0 11).2.2.1 ∈ Ts) {x : Int32} (hdg : decode cc pc = .ok (.putfield index, 3)) (kk : ∀ (H1 : Heap) (locs1 : List Loc), SyS G ad (us σ 12 k x) n τ s H1 locs1 → W p l e R s m args below meth c H1 locs1 cells slots Q (F0 m (pc + 3) ls (rest))) : W p l e R s m args below meth c H locs cells slots Q (F0 m pc ls (.int x :: .ref (ad (3 * k + 9)) :: rest)) :=
  g_put hC hY (3 * k + 9) (by omega) (ct_L k) (q := (RX0, TX0, 12)) rfl hin tyX0 tyX0_ok nmX0 11 (by decide) hlink (Or.inl rfl) rfl rfl (Nat.le_of_ble_eq_true rfl) hdg (fun H1 locs1 h => kk H1 locs1 (by rw [upL12] at h; exact h))
theorem gtV_areas (hC : CallFix p m c cc nL s args Ts own) (hin : ∀ w ∈ wsX10, w ∈ Ts) (hY : SyS G ad σ n τ s H locs) {index : Nat} (hlink : Cond.fieldLink own index (TX1 0).1 (TX1 0).2.1 (TX1 0).2.2.1 ∈ Ts) (hdg : decode cc pc = .ok (.getfield index, 3)) (kk : W p l e R s m args below meth c H locs cells slots Q (F0 m (pc + 3) ls (.ref (ad 1) :: rest))) : W p l e R s m args below meth c H locs cells slots Q (F0 m pc ls (.ref (ad 0) :: rest)) :=
  g_get hC hY 0 (by omega) (ci := 1) (fs := [.ref (ad 1), .ref (ad 2), .ref (ad 3), .ref (ad 4), .int (nI n)]) rfl (q := (RX1, TX1, 5)) rfl hin 0 (by decide) hlink rfl hdg kk
theorem gtV_indices (hC : CallFix p m c cc nL s args Ts own) (hin : ∀ w ∈ wsX10, w ∈ Ts) (hY : SyS G ad σ n τ s H locs) {index : Nat} (hlink : Cond.fieldLink own index (TX1 1).1 (TX1 1).2.1 (TX1 1).2.2.1 ∈ Ts) (hdg : decode cc pc = .ok (.getfield index, 3)) (kk : W p l e R s m args below meth c H locs cells slots Q (F0 m (pc + 3) ls (.ref (ad 2) :: rest))) : W p l e R s m args below meth c H locs cells slots Q (F0 m pc ls (.ref (ad 0) :: rest)) :=
  g_get hC hY 0 (by omega) (ci := 1) (fs := [.ref (ad 1), .ref (ad 2), .ref (ad 3), .ref (ad 4), .int (nI n)]) rfl (q := (RX1, TX1, 5)) rfl hin 1 (by decide) hlink rfl hdg kk
theorem gtV_costs (hC : CallFix p m c cc nL s args Ts own) (hin : ∀ w ∈ wsX10, w ∈ Ts) (hY : SyS G ad σ n τ s H locs) {index : Nat} (hlink : Cond.fieldLink own index (TX1 2).1 (TX1 2).2.1 (TX1 2).2.2.1 ∈ Ts) (hdg : decode cc pc = .ok (.getfield index, 3)) (kk : W p l e R s m args below meth c H locs cells slots Q (F0 m (pc + 3) ls (.ref (ad 3) :: rest))) : W p l e R s m args below meth c H locs cells slots Q (F0 m pc ls (.ref (ad 0) :: rest)) :=
  g_get hC hY 0 (by omega) (ci := 1) (fs := [.ref (ad 1), .ref (ad 2), .ref (ad 3), .ref (ad 4), .int (nI n)]) rfl (q := (RX1, TX1, 5)) rfl hin 2 (by decide) hlink rfl hdg kk
theorem gtV_roll (hC : CallFix p m c cc nL s args Ts own) (hin : ∀ w ∈ wsX10, w ∈ Ts) (hY : SyS G ad σ n τ s H locs) {index : Nat} (hlink : Cond.fieldLink own index (TX1 3).1 (TX1 3).2.1 (TX1 3).2.2.1 ∈ Ts) (hdg : decode cc pc = .ok (.getfield index, 3)) (kk : W p l e R s m args below meth c H locs cells slots Q (F0 m (pc + 3) ls (.ref (ad 4) :: rest))) : W p l e R s m args below meth c H locs cells slots Q (F0 m pc ls (.ref (ad 0) :: rest)) :=
  g_get hC hY 0 (by omega) (ci := 1) (fs := [.ref (ad 1), .ref (ad 2), .ref (ad 3), .ref (ad 4), .int (nI n)]) rfl (q := (RX1, TX1, 5)) rfl hin 3 (by decide) hlink rfl hdg kk
theorem gtV_count (hC : CallFix p m c cc nL s args Ts own) (hin : ∀ w ∈ wsX10, w ∈ Ts) (hY : SyS G ad σ n τ s H locs) {index : Nat} (hlink : Cond.fieldLink own index (TX1 4).1 (TX1 4).2.1 (TX1 4).2.2.1 ∈ Ts) (hdg : decode cc pc = .ok (.getfield index, 3)) (kk : W p l e R s m args below meth c H locs cells slots Q (F0 m (pc + 3) ls (.int (nI n) :: rest))) : W p l e R s m args below meth c H locs cells slots Q (F0 m pc ls (.ref (ad 0) :: rest)) :=
  g_get hC hY 0 (by omega) (ci := 1) (fs := [.ref (ad 1), .ref (ad 2), .ref (ad 3), .ref (ad 4), .int (nI n)]) rfl (q := (RX1, TX1, 5)) rfl hin 4 (by decide) hlink rfl hdg kk
theorem gtN_unit (hC : CallFix p m c cc nL s args Ts RX1) (hin : ∀ w ∈ wsX00, w ∈ Ts) (hY : SyS G ad σ n τ s H locs) {k : Nat} (hk : k < n) {index : Nat} (hm : (index, "unit") ∈ nstL) (hdg : decode cc pc = .ok (.getfield index, 3)) (kk : W p l e R s m args below meth c H locs cells slots Q (F0 m (pc + 3) ls (.int (σ 3 k) :: rest))) : W p l e R s m args below meth c H locs cells slots Q (F0 m pc ls (.ref (ad (3 * k + 9)) :: rest)) := by
  have he := wl_get (ad := ad) (ct := ctS G ad σ n τ) (show 3 * k + 9 < 3 * n + 9 by omega)
  rw [ct_L] at he
  exact va_getN (own := RX1) (ref := RX0) (C := RX0) (host := RX1) (T := TX0) (N := 12) (index := index) hC.1 hC.2.1 hC.2.2.2.2 hin hC.2.2.2.1 hY.1 hY.2.1 (3 * k + 9) he rfl 0 (by decide) (va_Nw.use rfl (hY.2.2.2.2.2.2.2.2.2.2.2.2.2 _ hm)) (fun _ h => h) rfl hdg kk
theorem gtN_from (hC : CallFix p m c cc nL s args Ts RX1) (hin : ∀ w ∈ wsX00, w ∈ Ts) (hY : SyS G ad σ n τ s H locs) {k : Nat} (hk : k < n) {index : Nat} (hm : (index, "from") ∈ nstL) (hdg : decode cc pc = .ok (.getfield index, 3)) (kk : W p l e R s m args below meth c H locs cells slots Q (F0 m (pc + 3) ls (.int (σ 4 k) :: rest))) : W p l e R s m args below meth c H locs cells slots Q (F0 m pc ls (.ref (ad (3 * k + 9)) :: rest)) := by
  have he := wl_get (ad := ad) (ct := ctS G ad σ n τ) (show 3 * k + 9 < 3 * n + 9 by omega)
  rw [ct_L] at he
  exact va_getN (own := RX1) (ref := RX0) (C := RX0) (host := RX1) (T := TX0) (N := 12) (index := index) hC.1 hC.2.1 hC.2.2.2.2 hin hC.2.2.2.1 hY.1 hY.2.1 (3 * k + 9) he rfl 1 (by decide) (va_Nw.use rfl (hY.2.2.2.2.2.2.2.2.2.2.2.2.2 _ hm)) (fun _ h => h) rfl hdg kk
theorem gtN_to (hC : CallFix p m c cc nL s args Ts RX1) (hin : ∀ w ∈ wsX00, w ∈ Ts) (hY : SyS G ad σ n τ s H locs) {k : Nat} (hk : k < n) {index : Nat} (hm : (index, "to") ∈ nstL) (hdg : decode cc pc = .ok (.getfield index, 3)) (kk : W p l e R s m args below meth c H locs cells slots Q (F0 m (pc + 3) ls (.int (σ 5 k) :: rest))) : W p l e R s m args below meth c H locs cells slots Q (F0 m pc ls (.ref (ad (3 * k + 9)) :: rest)) := by
  have he := wl_get (ad := ad) (ct := ctS G ad σ n τ) (show 3 * k + 9 < 3 * n + 9 by omega)
  rw [ct_L] at he
  exact va_getN (own := RX1) (ref := RX0) (C := RX0) (host := RX1) (T := TX0) (N := 12) (index := index) hC.1 hC.2.1 hC.2.2.2.2 hin hC.2.2.2.1 hY.1 hY.2.1 (3 * k + 9) he rfl 3 (by decide) (va_Nw.use rfl (hY.2.2.2.2.2.2.2.2.2.2.2.2.2 _ hm)) (fun _ h => h) rfl hdg kk
theorem ptN_to (hC : CallFix p m c cc nL s args Ts RX1) (hin : ∀ w ∈ wsX00, w ∈ Ts) (hY : SyS G ad σ n τ s H locs) {k : Nat} (hk : k < n) {index : Nat} (hm : (index, "to") ∈ nstL) {x : Int32} (hdg : decode cc pc = .ok (.putfield index, 3)) (kk : ∀ (H1 : Heap) (locs1 : List Loc), SyS G ad (us σ 5 k x) n τ s H1 locs1 → W p l e R s m args below meth c H1 locs1 cells slots Q (F0 m (pc + 3) ls (rest))) : W p l e R s m args below meth c H locs cells slots Q (F0 m pc ls (.int x :: .ref (ad (3 * k + 9)) :: rest)) := by
  have hr : 3 * k + 9 < 3 * n + 9 := by omega
  have he := wl_get (ad := ad) (ct := ctS G ad σ n τ) hr
  rw [ct_L] at he
  refine va_putN (own := RX1) (ref := RX0) (C := RX0) (host := RX1) (T := TX0) (N := 12) (index := index) (ty := .int) hC.1 hC.2.1 hC.2.2.2.2 hin tyX0 tyX0_ok nmX0 hC.2.2.2.1 hY.1 hY.2.1 hY.2.2.1 hY.2.2.2.1 (3 * k + 9) he rfl 3 (by decide) (va_Nw.use rfl (hY.2.2.2.2.2.2.2.2.2.2.2.2.2 _ hm)) (fun _ h => h) rfl (by decide +kernel) rfl rfl (Nat.le_of_ble_eq_true rfl) hdg (fun H1 locs1 h1 h2 h3 => ?_)
  rw [wl_set hr] at h1 h2
  rw [upL5] at h1 h2
  exact kk H1 locs1 ⟨hY.1, h1, h2, h3, hY.2.2.2.2.1, hY.2.2.2.2.2⟩
theorem gtN_free (hC : CallFix p m c cc nL s args Ts RX1) (hin : ∀ w ∈ wsX00, w ∈ Ts) (hY : SyS G ad σ n τ s H locs) {k : Nat} (hk : k < n) {index : Nat} (hm : (index, "free") ∈ nstL) (hdg : decode cc pc = .ok (.getfield index, 3)) (kk : W p l e R s m args below meth c H locs cells slots Q (F0 m (pc + 3) ls (.int (σ 7 k) :: rest))) : W p l e R s m args below meth c H locs cells slots Q (F0 m pc ls (.ref (ad (3 * k + 9)) :: rest)) := by
  have he := wl_get (ad := ad) (ct := ctS G ad σ n τ) (show 3 * k + 9 < 3 * n + 9 by omega)
  rw [ct_L] at he
  exact va_getN (own := RX1) (ref := RX0) (C := RX0) (host := RX1) (T := TX0) (N := 12) (index := index) hC.1 hC.2.1 hC.2.2.2.2 hin hC.2.2.2.1 hY.1 hY.2.1 (3 * k + 9) he rfl 4 (by decide) (va_Nw.use rfl (hY.2.2.2.2.2.2.2.2.2.2.2.2.2 _ hm)) (fun _ h => h) rfl hdg kk
theorem ptN_free (hC : CallFix p m c cc nL s args Ts RX1) (hin : ∀ w ∈ wsX00, w ∈ Ts) (hY : SyS G ad σ n τ s H locs) {k : Nat} (hk : k < n) {index : Nat} (hm : (index, "free") ∈ nstL) {x : Int32} (hdg : decode cc pc = .ok (.putfield index, 3)) (kk : ∀ (H1 : Heap) (locs1 : List Loc), SyS G ad (us σ 7 k x) n τ s H1 locs1 → W p l e R s m args below meth c H1 locs1 cells slots Q (F0 m (pc + 3) ls (rest))) : W p l e R s m args below meth c H locs cells slots Q (F0 m pc ls (.int x :: .ref (ad (3 * k + 9)) :: rest)) := by
  have hr : 3 * k + 9 < 3 * n + 9 := by omega
  have he := wl_get (ad := ad) (ct := ctS G ad σ n τ) hr
  rw [ct_L] at he
  refine va_putN (own := RX1) (ref := RX0) (C := RX0) (host := RX1) (T := TX0) (N := 12) (index := index) (ty := .int) hC.1 hC.2.1 hC.2.2.2.2 hin tyX0 tyX0_ok nmX0 hC.2.2.2.1 hY.1 hY.2.1 hY.2.2.1 hY.2.2.2.1 (3 * k + 9) he rfl 4 (by decide) (va_Nw.use rfl (hY.2.2.2.2.2.2.2.2.2.2.2.2.2 _ hm)) (fun _ h => h) rfl (by decide +kernel) rfl rfl (Nat.le_of_ble_eq_true rfl) hdg (fun H1 locs1 h1 h2 h3 => ?_)
  rw [wl_set hr] at h1 h2
  rw [upL7] at h1 h2
  exact kk H1 locs1 ⟨hY.1, h1, h2, h3, hY.2.2.2.2.1, hY.2.2.2.2.2⟩
theorem gtN_every (hC : CallFix p m c cc nL s args Ts RX1) (hin : ∀ w ∈ wsX00, w ∈ Ts) (hY : SyS G ad σ n τ s H locs) {k : Nat} (hk : k < n) {index : Nat} (hm : (index, "every") ∈ nstL) (hdg : decode cc pc = .ok (.getfield index, 3)) (kk : W p l e R s m args below meth c H locs cells slots Q (F0 m (pc + 3) ls (.int (σ 8 k) :: rest))) : W p l e R s m args below meth c H locs cells slots Q (F0 m pc ls (.ref (ad (3 * k + 9)) :: rest)) := by
  have he := wl_get (ad := ad) (ct := ctS G ad σ n τ) (show 3 * k + 9 < 3 * n + 9 by omega)
  rw [ct_L] at he
  exact va_getN (own := RX1) (ref := RX0) (C := RX0) (host := RX1) (T := TX0) (N := 12) (index := index) hC.1 hC.2.1 hC.2.2.2.2 hin hC.2.2.2.1 hY.1 hY.2.1 (3 * k + 9) he rfl 5 (by decide) (va_Nw.use rfl (hY.2.2.2.2.2.2.2.2.2.2.2.2.2 _ hm)) (fun _ h => h) rfl hdg kk
theorem ptN_every (hC : CallFix p m c cc nL s args Ts RX1) (hin : ∀ w ∈ wsX00, w ∈ Ts) (hY : SyS G ad σ n τ s H locs) {k : Nat} (hk : k < n) {index : Nat} (hm : (index, "every") ∈ nstL) {x : Int32} (hdg : decode cc pc = .ok (.putfield index, 3)) (kk : ∀ (H1 : Heap) (locs1 : List Loc), SyS G ad (us σ 8 k x) n τ s H1 locs1 → W p l e R s m args below meth c H1 locs1 cells slots Q (F0 m (pc + 3) ls (rest))) : W p l e R s m args below meth c H locs cells slots Q (F0 m pc ls (.int x :: .ref (ad (3 * k + 9)) :: rest)) := by
  have hr : 3 * k + 9 < 3 * n + 9 := by omega
  have he := wl_get (ad := ad) (ct := ctS G ad σ n τ) hr
  rw [ct_L] at he
  refine va_putN (own := RX1) (ref := RX0) (C := RX0) (host := RX1) (T := TX0) (N := 12) (index := index) (ty := .int) hC.1 hC.2.1 hC.2.2.2.2 hin tyX0 tyX0_ok nmX0 hC.2.2.2.1 hY.1 hY.2.1 hY.2.2.1 hY.2.2.2.1 (3 * k + 9) he rfl 5 (by decide) (va_Nw.use rfl (hY.2.2.2.2.2.2.2.2.2.2.2.2.2 _ hm)) (fun _ h => h) rfl (by decide +kernel) rfl rfl (Nat.le_of_ble_eq_true rfl) hdg (fun H1 locs1 h1 h2 h3 => ?_)
  rw [wl_set hr] at h1 h2
  rw [upL8] at h1 h2
  exact kk H1 locs1 ⟨hY.1, h1, h2, h3, hY.2.2.2.2.1, hY.2.2.2.2.2⟩
theorem gtN_cap (hC : CallFix p m c cc nL s args Ts RX1) (hin : ∀ w ∈ wsX00, w ∈ Ts) (hY : SyS G ad σ n τ s H locs) {k : Nat} (hk : k < n) {index : Nat} (hm : (index, "cap") ∈ nstL) (hdg : decode cc pc = .ok (.getfield index, 3)) (kk : W p l e R s m args below meth c H locs cells slots Q (F0 m (pc + 3) ls (.int (σ 9 k) :: rest))) : W p l e R s m args below meth c H locs cells slots Q (F0 m pc ls (.ref (ad (3 * k + 9)) :: rest)) := by
  have he := wl_get (ad := ad) (ct := ctS G ad σ n τ) (show 3 * k + 9 < 3 * n + 9 by omega)
  rw [ct_L] at he
  exact va_getN (own := RX1) (ref := RX0) (C := RX0) (host := RX1) (T := TX0) (N := 12) (index := index) hC.1 hC.2.1 hC.2.2.2.2 hin hC.2.2.2.1 hY.1 hY.2.1 (3 * k + 9) he rfl 6 (by decide) (va_Nw.use rfl (hY.2.2.2.2.2.2.2.2.2.2.2.2.2 _ hm)) (fun _ h => h) rfl hdg kk
theorem ptN_cap (hC : CallFix p m c cc nL s args Ts RX1) (hin : ∀ w ∈ wsX00, w ∈ Ts) (hY : SyS G ad σ n τ s H locs) {k : Nat} (hk : k < n) {index : Nat} (hm : (index, "cap") ∈ nstL) {x : Int32} (hdg : decode cc pc = .ok (.putfield index, 3)) (kk : ∀ (H1 : Heap) (locs1 : List Loc), SyS G ad (us σ 9 k x) n τ s H1 locs1 → W p l e R s m args below meth c H1 locs1 cells slots Q (F0 m (pc + 3) ls (rest))) : W p l e R s m args below meth c H locs cells slots Q (F0 m pc ls (.int x :: .ref (ad (3 * k + 9)) :: rest)) := by
  have hr : 3 * k + 9 < 3 * n + 9 := by omega
  have he := wl_get (ad := ad) (ct := ctS G ad σ n τ) hr
  rw [ct_L] at he
  refine va_putN (own := RX1) (ref := RX0) (C := RX0) (host := RX1) (T := TX0) (N := 12) (index := index) (ty := .int) hC.1 hC.2.1 hC.2.2.2.2 hin tyX0 tyX0_ok nmX0 hC.2.2.2.1 hY.1 hY.2.1 hY.2.2.1 hY.2.2.2.1 (3 * k + 9) he rfl 6 (by decide) (va_Nw.use rfl (hY.2.2.2.2.2.2.2.2.2.2.2.2.2 _ hm)) (fun _ h => h) rfl (by decide +kernel) rfl rfl (Nat.le_of_ble_eq_true rfl) hdg (fun H1 locs1 h1 h2 h3 => ?_)
  rw [wl_set hr] at h1 h2
  rw [upL9] at h1 h2
  exact kk H1 locs1 ⟨hY.1, h1, h2, h3, hY.2.2.2.2.1, hY.2.2.2.2.2⟩
theorem gtN_prepaid (hC : CallFix p m c cc nL s args Ts RX1) (hin : ∀ w ∈ wsX00, w ∈ Ts) (hY : SyS G ad σ n τ s H locs) {k : Nat} (hk : k < n) {index : Nat} (hm : (index, "prepaid") ∈ nstL) (hdg : decode cc pc = .ok (.getfield index, 3)) (kk : W p l e R s m args below meth c H locs cells slots Q (F0 m (pc + 3) ls (.int (σ 10 k) :: rest))) : W p l e R s m args below meth c H locs cells slots Q (F0 m pc ls (.ref (ad (3 * k + 9)) :: rest)) := by
  have he := wl_get (ad := ad) (ct := ctS G ad σ n τ) (show 3 * k + 9 < 3 * n + 9 by omega)
  rw [ct_L] at he
  exact va_getN (own := RX1) (ref := RX0) (C := RX0) (host := RX1) (T := TX0) (N := 12) (index := index) hC.1 hC.2.1 hC.2.2.2.2 hin hC.2.2.2.1 hY.1 hY.2.1 (3 * k + 9) he rfl 7 (by decide) (va_Nw.use rfl (hY.2.2.2.2.2.2.2.2.2.2.2.2.2 _ hm)) (fun _ h => h) rfl hdg kk
theorem ptN_prepaid (hC : CallFix p m c cc nL s args Ts RX1) (hin : ∀ w ∈ wsX00, w ∈ Ts) (hY : SyS G ad σ n τ s H locs) {k : Nat} (hk : k < n) {index : Nat} (hm : (index, "prepaid") ∈ nstL) {x : Int32} (hdg : decode cc pc = .ok (.putfield index, 3)) (kk : ∀ (H1 : Heap) (locs1 : List Loc), SyS G ad (us σ 10 k x) n τ s H1 locs1 → W p l e R s m args below meth c H1 locs1 cells slots Q (F0 m (pc + 3) ls (rest))) : W p l e R s m args below meth c H locs cells slots Q (F0 m pc ls (.int x :: .ref (ad (3 * k + 9)) :: rest)) := by
  have hr : 3 * k + 9 < 3 * n + 9 := by omega
  have he := wl_get (ad := ad) (ct := ctS G ad σ n τ) hr
  rw [ct_L] at he
  refine va_putN (own := RX1) (ref := RX0) (C := RX0) (host := RX1) (T := TX0) (N := 12) (index := index) (ty := .int) hC.1 hC.2.1 hC.2.2.2.2 hin tyX0 tyX0_ok nmX0 hC.2.2.2.1 hY.1 hY.2.1 hY.2.2.1 hY.2.2.2.1 (3 * k + 9) he rfl 7 (by decide) (va_Nw.use rfl (hY.2.2.2.2.2.2.2.2.2.2.2.2.2 _ hm)) (fun _ h => h) rfl (by decide +kernel) rfl rfl (Nat.le_of_ble_eq_true rfl) hdg (fun H1 locs1 h1 h2 h3 => ?_)
  rw [wl_set hr] at h1 h2
  rw [upL10] at h1 h2
  exact kk H1 locs1 ⟨hY.1, h1, h2, h3, hY.2.2.2.2.1, hY.2.2.2.2.2⟩
theorem gtN_deposit (hC : CallFix p m c cc nL s args Ts RX1) (hin : ∀ w ∈ wsX00, w ∈ Ts) (hY : SyS G ad σ n τ s H locs) {k : Nat} (hk : k < n) {index : Nat} (hm : (index, "deposit") ∈ nstL) (hdg : decode cc pc = .ok (.getfield index, 3)) (kk : W p l e R s m args below meth c H locs cells slots Q (F0 m (pc + 3) ls (.int (σ 11 k) :: rest))) : W p l e R s m args below meth c H locs cells slots Q (F0 m pc ls (.ref (ad (3 * k + 9)) :: rest)) := by
  have he := wl_get (ad := ad) (ct := ctS G ad σ n τ) (show 3 * k + 9 < 3 * n + 9 by omega)
  rw [ct_L] at he
  exact va_getN (own := RX1) (ref := RX0) (C := RX0) (host := RX1) (T := TX0) (N := 12) (index := index) hC.1 hC.2.1 hC.2.2.2.2 hin hC.2.2.2.1 hY.1 hY.2.1 (3 * k + 9) he rfl 8 (by decide) (va_Nw.use rfl (hY.2.2.2.2.2.2.2.2.2.2.2.2.2 _ hm)) (fun _ h => h) rfl hdg kk
theorem ptN_deposit (hC : CallFix p m c cc nL s args Ts RX1) (hin : ∀ w ∈ wsX00, w ∈ Ts) (hY : SyS G ad σ n τ s H locs) {k : Nat} (hk : k < n) {index : Nat} (hm : (index, "deposit") ∈ nstL) {x : Int32} (hdg : decode cc pc = .ok (.putfield index, 3)) (kk : ∀ (H1 : Heap) (locs1 : List Loc), SyS G ad (us σ 11 k x) n τ s H1 locs1 → W p l e R s m args below meth c H1 locs1 cells slots Q (F0 m (pc + 3) ls (rest))) : W p l e R s m args below meth c H locs cells slots Q (F0 m pc ls (.int x :: .ref (ad (3 * k + 9)) :: rest)) := by
  have hr : 3 * k + 9 < 3 * n + 9 := by omega
  have he := wl_get (ad := ad) (ct := ctS G ad σ n τ) hr
  rw [ct_L] at he
  refine va_putN (own := RX1) (ref := RX0) (C := RX0) (host := RX1) (T := TX0) (N := 12) (index := index) (ty := .int) hC.1 hC.2.1 hC.2.2.2.2 hin tyX0 tyX0_ok nmX0 hC.2.2.2.1 hY.1 hY.2.1 hY.2.2.1 hY.2.2.2.1 (3 * k + 9) he rfl 8 (by decide) (va_Nw.use rfl (hY.2.2.2.2.2.2.2.2.2.2.2.2.2 _ hm)) (fun _ h => h) rfl (by decide +kernel) rfl rfl (Nat.le_of_ble_eq_true rfl) hdg (fun H1 locs1 h1 h2 h3 => ?_)
  rw [wl_set hr] at h1 h2
  rw [upL11] at h1 h2
  exact kk H1 locs1 ⟨hY.1, h1, h2, h3, hY.2.2.2.2.1, hY.2.2.2.2.2⟩
theorem gtN_steps (hC : CallFix p m c cc nL s args Ts RX1) (hin : ∀ w ∈ wsX00, w ∈ Ts) (hY : SyS G ad σ n τ s H locs) {k : Nat} (hk : k < n) {index : Nat} (hm : (index, "steps") ∈ nstL) (hdg : decode cc pc = .ok (.getfield index, 3)) (kk : W p l e R s m args below meth c H locs cells slots Q (F0 m (pc + 3) ls (.int (σ 12 k) :: rest))) : W p l e R s m args below meth c H locs cells slots Q (F0 m pc ls (.ref (ad (3 * k + 9)) :: rest)) := by
  have he := wl_get (ad := ad) (ct := ctS G ad σ n τ) (show 3 * k + 9 < 3 * n + 9 by omega)
  rw [ct_L] at he
  exact va_getN (own := RX1) (ref := RX0) (C := RX0) (host := RX1) (T := TX0) (N := 12) (index := index) hC.1 hC.2.1 hC.2.2.2.2 hin hC.2.2.2.1 hY.1 hY.2.1 (3 * k + 9) he rfl 11 (by decide) (va_Nw.use rfl (hY.2.2.2.2.2.2.2.2.2.2.2.2.2 _ hm)) (fun _ h => h) rfl hdg kk
theorem ptN_steps (hC : CallFix p m c cc nL s args Ts RX1) (hin : ∀ w ∈ wsX00, w ∈ Ts) (hY : SyS G ad σ n τ s H locs) {k : Nat} (hk : k < n) {index : Nat} (hm : (index, "steps") ∈ nstL) {x : Int32} (hdg : decode cc pc = .ok (.putfield index, 3)) (kk : ∀ (H1 : Heap) (locs1 : List Loc), SyS G ad (us σ 12 k x) n τ s H1 locs1 → W p l e R s m args below meth c H1 locs1 cells slots Q (F0 m (pc + 3) ls (rest))) : W p l e R s m args below meth c H locs cells slots Q (F0 m pc ls (.int x :: .ref (ad (3 * k + 9)) :: rest)) := by
  have hr : 3 * k + 9 < 3 * n + 9 := by omega
  have he := wl_get (ad := ad) (ct := ctS G ad σ n τ) hr
  rw [ct_L] at he
  refine va_putN (own := RX1) (ref := RX0) (C := RX0) (host := RX1) (T := TX0) (N := 12) (index := index) (ty := .int) hC.1 hC.2.1 hC.2.2.2.2 hin tyX0 tyX0_ok nmX0 hC.2.2.2.1 hY.1 hY.2.1 hY.2.2.1 hY.2.2.2.1 (3 * k + 9) he rfl 11 (by decide) (va_Nw.use rfl (hY.2.2.2.2.2.2.2.2.2.2.2.2.2 _ hm)) (fun _ h => h) rfl (by decide +kernel) rfl rfl (Nat.le_of_ble_eq_true rfl) hdg (fun H1 locs1 h1 h2 h3 => ?_)
  rw [wl_set hr] at h1 h2
  rw [upL12] at h1 h2
  exact kk H1 locs1 ⟨hY.1, h1, h2, h3, hY.2.2.2.2.1, hY.2.2.2.2.2⟩
end GS
end
section
/-! branches by the ints behind; small facts of Int32 -/
section GBR
variable {p : Program} {l : Launch} {e : Env} {R : Room} {s : State} {m : MethodId} {args : Array Value} {below : List Frame} {meth : Method} {c : Code} {H : Heap} {locs : List Loc} {cells slots : Nat} {Q : State → Prop} {cc : ByteArray} {pc : Nat} {ls : Array Slot} {rest : List Value}
theorem b_icmp_eq (hexec : p.tables.exec = Jvm.exec) (hb : c.code = cc) {x y : Int32} {off : Int} {tgt : Nat} (hdg : decode cc pc = .ok (.if_icmp .eq off, 3)) (ht : (pc : Int) + off = (tgt : Int)) (kt : x.toInt = y.toInt → W p l e R s m args below meth c H locs cells slots Q (F0 m tgt ls (rest))) (kf : ¬ x.toInt = y.toInt → W p l e R s m args below meth c H locs cells slots Q (F0 m (pc + 3) ls (rest))) : W p l e R s m args below meth c H locs cells slots Q (F0 m pc ls (.int y :: .int x :: rest)) :=
  lv_icmp_eq hexec hb hdg ht (fun h => kt (congrArg Int32.toInt h)) (fun h => kf (fun q => h (Int32.toInt_inj.mp q)))
theorem b_if_eq (hexec : p.tables.exec = Jvm.exec) (hb : c.code = cc) {x : Int32} {off : Int} {tgt : Nat} (hdg : decode cc pc = .ok (.ifCond .eq off, 3)) (ht : (pc : Int) + off = (tgt : Int)) (kt : x.toInt = 0 → W p l e R s m args below meth c H locs cells slots Q (F0 m tgt ls (rest))) (kf : ¬ x.toInt = 0 → W p l e R s m args below meth c H locs cells slots Q (F0 m (pc + 3) ls (rest))) : W p l e R s m args below meth c H locs cells slots Q (F0 m pc ls (.int x :: rest)) :=
  lv_if_eq hexec hb hdg ht (fun h => kt (congrArg Int32.toInt h)) (fun h => kf (fun q => h (Int32.toInt_inj.mp q)))
theorem b_icmp_ne (hexec : p.tables.exec = Jvm.exec) (hb : c.code = cc) {x y : Int32} {off : Int} {tgt : Nat} (hdg : decode cc pc = .ok (.if_icmp .ne off, 3)) (ht : (pc : Int) + off = (tgt : Int)) (kt : ¬ x.toInt = y.toInt → W p l e R s m args below meth c H locs cells slots Q (F0 m tgt ls (rest))) (kf : x.toInt = y.toInt → W p l e R s m args below meth c H locs cells slots Q (F0 m (pc + 3) ls (rest))) : W p l e R s m args below meth c H locs cells slots Q (F0 m pc ls (.int y :: .int x :: rest)) :=
  lv_icmp_ne hexec hb hdg ht (fun h => kt (fun q => h (Int32.toInt_inj.mp q))) (fun h => kf (congrArg Int32.toInt h))
theorem b_if_ne (hexec : p.tables.exec = Jvm.exec) (hb : c.code = cc) {x : Int32} {off : Int} {tgt : Nat} (hdg : decode cc pc = .ok (.ifCond .ne off, 3)) (ht : (pc : Int) + off = (tgt : Int)) (kt : ¬ x.toInt = 0 → W p l e R s m args below meth c H locs cells slots Q (F0 m tgt ls (rest))) (kf : x.toInt = 0 → W p l e R s m args below meth c H locs cells slots Q (F0 m (pc + 3) ls (rest))) : W p l e R s m args below meth c H locs cells slots Q (F0 m pc ls (.int x :: rest)) :=
  lv_if_ne hexec hb hdg ht (fun h => kt (fun q => h (Int32.toInt_inj.mp q))) (fun h => kf (congrArg Int32.toInt h))
theorem b_icmp_lt (hexec : p.tables.exec = Jvm.exec) (hb : c.code = cc) {x y : Int32} {off : Int} {tgt : Nat} (hdg : decode cc pc = .ok (.if_icmp .lt off, 3)) (ht : (pc : Int) + off = (tgt : Int)) (kt : x.toInt < y.toInt → W p l e R s m args below meth c H locs cells slots Q (F0 m tgt ls (rest))) (kf : y.toInt ≤ x.toInt → W p l e R s m args below meth c H locs cells slots Q (F0 m (pc + 3) ls (rest))) : W p l e R s m args below meth c H locs cells slots Q (F0 m pc ls (.int y :: .int x :: rest)) :=
  lv_icmp_lt hexec hb hdg ht (fun h => kt (Int32.lt_iff_toInt_lt.mp h)) (fun h => kf (Int.not_lt.mp (fun q => h (Int32.lt_iff_toInt_lt.mpr q))))
theorem b_if_lt (hexec : p.tables.exec = Jvm.exec) (hb : c.code = cc) {x : Int32} {off : Int} {tgt : Nat} (hdg : decode cc pc = .ok (.ifCond .lt off, 3)) (ht : (pc : Int) + off = (tgt : Int)) (kt : x.toInt < 0 → W p l e R s m args below meth c H locs cells slots Q (F0 m tgt ls (rest))) (kf : 0 ≤ x.toInt → W p l e R s m args below meth c H locs cells slots Q (F0 m (pc + 3) ls (rest))) : W p l e R s m args below meth c H locs cells slots Q (F0 m pc ls (.int x :: rest)) :=
  lv_if_lt hexec hb hdg ht (fun h => kt (Int32.lt_iff_toInt_lt.mp h)) (fun h => kf (Int.not_lt.mp (fun q => h (Int32.lt_iff_toInt_lt.mpr q))))
theorem b_icmp_ge (hexec : p.tables.exec = Jvm.exec) (hb : c.code = cc) {x y : Int32} {off : Int} {tgt : Nat} (hdg : decode cc pc = .ok (.if_icmp .ge off, 3)) (ht : (pc : Int) + off = (tgt : Int)) (kt : y.toInt ≤ x.toInt → W p l e R s m args below meth c H locs cells slots Q (F0 m tgt ls (rest))) (kf : x.toInt < y.toInt → W p l e R s m args below meth c H locs cells slots Q (F0 m (pc + 3) ls (rest))) : W p l e R s m args below meth c H locs cells slots Q (F0 m pc ls (.int y :: .int x :: rest)) :=
  lv_icmp_ge hexec hb hdg ht (fun h => kt (Int32.le_iff_toInt_le.mp h)) (fun h => kf (Int.not_le.mp (fun q => h (Int32.le_iff_toInt_le.mpr q))))
theorem b_if_ge (hexec : p.tables.exec = Jvm.exec) (hb : c.code = cc) {x : Int32} {off : Int} {tgt : Nat} (hdg : decode cc pc = .ok (.ifCond .ge off, 3)) (ht : (pc : Int) + off = (tgt : Int)) (kt : 0 ≤ x.toInt → W p l e R s m args below meth c H locs cells slots Q (F0 m tgt ls (rest))) (kf : x.toInt < 0 → W p l e R s m args below meth c H locs cells slots Q (F0 m (pc + 3) ls (rest))) : W p l e R s m args below meth c H locs cells slots Q (F0 m pc ls (.int x :: rest)) :=
  lv_if_ge hexec hb hdg ht (fun h => kt (Int32.le_iff_toInt_le.mp h)) (fun h => kf (Int.not_le.mp (fun q => h (Int32.le_iff_toInt_le.mpr q))))
theorem b_icmp_gt (hexec : p.tables.exec = Jvm.exec) (hb : c.code = cc) {x y : Int32} {off : Int} {tgt : Nat} (hdg : decode cc pc = .ok (.if_icmp .gt off, 3)) (ht : (pc : Int) + off = (tgt : Int)) (kt : y.toInt < x.toInt → W p l e R s m args below meth c H locs cells slots Q (F0 m tgt ls (rest))) (kf : x.toInt ≤ y.toInt → W p l e R s m args below meth c H locs cells slots Q (F0 m (pc + 3) ls (rest))) : W p l e R s m args below meth c H locs cells slots Q (F0 m pc ls (.int y :: .int x :: rest)) :=
  lv_icmp_gt hexec hb hdg ht (fun h => kt (Int32.lt_iff_toInt_lt.mp h)) (fun h => kf (Int.not_lt.mp (fun q => h (Int32.lt_iff_toInt_lt.mpr q))))
theorem b_if_gt (hexec : p.tables.exec = Jvm.exec) (hb : c.code = cc) {x : Int32} {off : Int} {tgt : Nat} (hdg : decode cc pc = .ok (.ifCond .gt off, 3)) (ht : (pc : Int) + off = (tgt : Int)) (kt : 0 < x.toInt → W p l e R s m args below meth c H locs cells slots Q (F0 m tgt ls (rest))) (kf : x.toInt ≤ 0 → W p l e R s m args below meth c H locs cells slots Q (F0 m (pc + 3) ls (rest))) : W p l e R s m args below meth c H locs cells slots Q (F0 m pc ls (.int x :: rest)) :=
  lv_if_gt hexec hb hdg ht (fun h => kt (Int32.lt_iff_toInt_lt.mp h)) (fun h => kf (Int.not_lt.mp (fun q => h (Int32.lt_iff_toInt_lt.mpr q))))
theorem b_icmp_le (hexec : p.tables.exec = Jvm.exec) (hb : c.code = cc) {x y : Int32} {off : Int} {tgt : Nat} (hdg : decode cc pc = .ok (.if_icmp .le off, 3)) (ht : (pc : Int) + off = (tgt : Int)) (kt : x.toInt ≤ y.toInt → W p l e R s m args below meth c H locs cells slots Q (F0 m tgt ls (rest))) (kf : y.toInt < x.toInt → W p l e R s m args below meth c H locs cells slots Q (F0 m (pc + 3) ls (rest))) : W p l e R s m args below meth c H locs cells slots Q (F0 m pc ls (.int y :: .int x :: rest)) :=
  lv_icmp_le hexec hb hdg ht (fun h => kt (Int32.le_iff_toInt_le.mp h)) (fun h => kf (Int.not_le.mp (fun q => h (Int32.le_iff_toInt_le.mpr q))))
theorem b_if_le (hexec : p.tables.exec = Jvm.exec) (hb : c.code = cc) {x : Int32} {off : Int} {tgt : Nat} (hdg : decode cc pc = .ok (.ifCond .le off, 3)) (ht : (pc : Int) + off = (tgt : Int)) (kt : x.toInt ≤ 0 → W p l e R s m args below meth c H locs cells slots Q (F0 m tgt ls (rest))) (kf : 0 < x.toInt → W p l e R s m args below meth c H locs cells slots Q (F0 m (pc + 3) ls (rest))) : W p l e R s m args below meth c H locs cells slots Q (F0 m pc ls (.int x :: rest)) :=
  lv_if_le hexec hb hdg ht (fun h => kt (Int32.le_iff_toInt_le.mp h)) (fun h => kf (Int.not_le.mp (fun q => h (Int32.le_iff_toInt_le.mpr q))))
end GBR
theorem i_bnd (x : Int32) : -2147483648 ≤ x.toInt ∧ x.toInt < 2147483648 := by
  have h1 := Int32.le_toInt x
  have h2 := Int32.toInt_lt x
  exact ⟨by simpa using h1, by simpa using h2⟩
theorem i_bmod {z : Int} (h : -2147483648 ≤ z ∧ z < 2147483648) : z.bmod (2 ^ 32) = z := by
  rw [Int.bmod_def]
  split <;> omega
theorem i_add {x y : Int32} (h : -2147483648 ≤ x.toInt + y.toInt ∧ x.toInt + y.toInt < 2147483648) : (x + y).toInt = x.toInt + y.toInt := by
  rw [Int32.toInt_add]; exact i_bmod h
theorem i_sub {x y : Int32} (h : -2147483648 ≤ x.toInt - y.toInt ∧ x.toInt - y.toInt < 2147483648) : (x - y).toInt = x.toInt - y.toInt := by
  rw [Int32.toInt_sub]; exact i_bmod h
theorem i_mul {x y : Int32} (h : -2147483648 ≤ x.toInt * y.toInt ∧ x.toInt * y.toInt < 2147483648) : (x * y).toInt = x.toInt * y.toInt := by
  rw [Int32.toInt_mul]; exact i_bmod h
theorem i_div {x y : Int32} (hy : y.toInt ≠ -1) : (x / y).toInt = x.toInt.tdiv y.toInt := Int32.toInt_div_of_ne_right x y (fun h => hy (by rw [h]; rfl))
theorem i_nI {k : Nat} (h : k < 2147483648) : (nI k).toInt = (k : Int) := nI_toInt (by simpa using h)
theorem i_ixnI {k : Nat} (h : k < 2147483648) : ix (nI k) = k := nI_clamp (by simpa using h)
theorem i_ext {x y : Int32} (h : x.toInt = y.toInt) : x = y := Int32.toInt_inj.mp h
theorem i_ix {x : Int32} {k : Nat} (h : x.toInt = (k : Int)) : ix x = k := by
  have h1 := ix_toInt (i := x) (by omega)
  omega
theorem i_eqnI {x : Int32} {k : Nat} (h : x.toInt = (k : Int)) : x = nI k := by
  have hb := i_bnd x
  exact i_ext (by rw [h, i_nI (by omega)])
section GLP
variable {p : Program} {l : Launch} {e : Env} {R : Room} {s : State} {m : MethodId} {args : Array Value} {below : List Frame} {meth : Method} {c : Code} {cells slots : Nat} {Q : State → Prop} {pc : Nat}
/-- a loop: I holds at its head at turn i; it has at most B turns -/
theorem w_loop {X : Type} (I : Nat → X → Heap → List Loc → Array Slot → Prop) (B : Nat)
    (hs : ∀ (i : Nat) (x : X) (H : Heap) (locs : List Loc) (ls : Array Slot), I i x H locs ls → (∀ (x' : X) (H' : Heap) (locs' : List Loc) (ls' : Array Slot), I (i + 1) x' H' locs' ls' → W p l e R s m args below meth c H' locs' cells slots Q (F0 m pc ls' [])) → W p l e R s m args below meth c H locs cells slots Q (F0 m pc ls []))
    (hb : ∀ (i : Nat) (x : X) (H : Heap) (locs : List Loc) (ls : Array Slot), I i x H locs ls → i ≤ B) (x : X) {H : Heap} {locs : List Loc} {ls : Array Slot} (h0 : I 0 x H locs ls) : W p l e R s m args below meth c H locs cells slots Q (F0 m pc ls []) := by
  have key : ∀ (f i : Nat) (x : X) (H : Heap) (locs : List Loc) (ls : Array Slot), B < i + f → I i x H locs ls → W p l e R s m args below meth c H locs cells slots Q (F0 m pc ls []) := by
    intro f
    induction f with
    | zero => intro i x H locs ls hf hI; have := hb i x H locs ls hI; omega
    | succ f ih => intro i x H locs ls hf hI; exact hs i x H locs ls hI (fun x' H' locs' ls' hI' => ih (i + 1) x' H' locs' ls' (by omega) hI')
  exact key (B + 1) 0 x H locs ls (by omega) h0
end GLP
end
section
/-! the lease's own methods -/
abbrev rOn (σ : St) (k : Nat) (d : Int32) : Prop := (σ 4 k).toInt ≤ d.toInt ∧ d.toInt < (σ 5 k).toInt
set_option maxHeartbeats 4000000 in
set_option maxRecDepth 100000 in
theorem c_X0_runsOn (l : Launch) (G : GG) (ad : Nat → Nat) (σ : St) (n : Nat) (τ : St) (k : Nat) (hk : k < n) (p0 : Int32) : Met l yX0_runsOn wsX0_runsOn ({ frames := 0, cells := 0, slots := 0, locals := 0 }) (PcS G ad σ n τ [.ref (ad (3 * k + 9)), .int p0]) (Qi G (3 * n + 9) ad (ctS G ad σ n τ) (fun r => (r = 1 ∧ rOn σ k p0) ∨ (r = 0 ∧ ¬ rOn σ k p0))) 0 0 (gF G) := by
  refine Met.ofW (cc := cX0_runsOn) (maxL := 2) (ret := (some .boolean)) (by decide) rfl ?_
  intro p e s m args below meth c s₁ B hml hv
  obtain ⟨rfl, hY⟩ := hv
  have hts := atoms_spec (ws := wsX0_runsOn) B.pre
  have hC : CallFix p m c cX0_runsOn 2 s _ wsX0_runsOn RX0 := ⟨B.exec, B.bytes, hml, findClass_of_methodNamed B.named, hts⟩
  have hx := hC.1
  have hb := hC.2.1
  have hr := B.returns
  have hlocks := B.notSynchronized
  have hin0 : ∀ w ∈ wsX00, w ∈ wsX0_runsOn := by decide +kernel
  have hl := lv_entry ([.ref (ad (3 * k + 9)), .int p0]) (n := 2) (Nat.le_of_ble_eq_true rfl)
  rw [lg_entry_eq]
  generalize (lg_sl ([.ref (ad (3 * k + 9)), .int p0]) ++ List.replicate (2 - (lg_sl ([.ref (ad (3 * k + 9)), .int p0])).length) Slot.unset).toArray = ls at hl ⊢
  have hl : lv_has ls 2 [(0, .ref (ad (3 * k + 9))), (1, .int p0)] := hl
  refine lv_iload_n hx hb dX0_runsOn_0 rfl (lv_at hl 1 rfl) ?_
  refine lv_aload_n hx hb dX0_runsOn_1 rfl (lv_at hl 0 rfl) ?_
  refine gtL_from hC hin0 hY (k := k) hk (by decide +kernel) dX0_runsOn_2 ?_
  refine b_icmp_lt (tgt := 20) hx hb dX0_runsOn_5 (by decide) (fun (h1 : p0.toInt < (σ 4 k).toInt) => ?_) (fun (h1 : (σ 4 k).toInt ≤ p0.toInt) => ?_)
  · refine lv_iconst (v := 0) hx hb dX0_runsOn_20 (by decide) ?_
    exact g_zret hC hr hlocks rfl hY ⟨Nat.le_of_ble_eq_true rfl, Nat.le_of_ble_eq_true rfl⟩ dX0_runsOn_21 (Or.inr ⟨rfl, by intro q; have := q.1; have := q.2; omega⟩)
  · refine lv_iload_n hx hb dX0_runsOn_8 rfl (lv_at hl 1 rfl) ?_
    refine lv_aload_n hx hb dX0_runsOn_9 rfl (lv_at hl 0 rfl) ?_
    refine gtL_to hC hin0 hY (k := k) hk (by decide +kernel) dX0_runsOn_10 ?_
    refine b_icmp_ge (tgt := 20) hx hb dX0_runsOn_13 (by decide) (fun (h2 : (σ 5 k).toInt ≤ p0.toInt) => ?_) (fun (h2 : p0.toInt < (σ 5 k).toInt) => ?_)
    · refine lv_iconst (v := 0) hx hb dX0_runsOn_20 (by decide) ?_
      exact g_zret hC hr hlocks rfl hY ⟨Nat.le_of_ble_eq_true rfl, Nat.le_of_ble_eq_true rfl⟩ dX0_runsOn_21 (Or.inr ⟨rfl, by intro q; have := q.1; have := q.2; omega⟩)
    · refine lv_iconst (v := 1) hx hb dX0_runsOn_16 (by decide) ?_
      refine lv_goto (tgt := 21) hx hb dX0_runsOn_17 (by decide) ?_
      exact g_zret hC hr hlocks rfl hY ⟨Nat.le_of_ble_eq_true rfl, Nat.le_of_ble_eq_true rfl⟩ dX0_runsOn_21 (Or.inl ⟨rfl, by omega, by omega⟩)

abbrev fOn (σ : St) (k : Nat) (d : Int32) : Prop := d.toInt < (σ 4 k + σ 7 k).toInt
set_option maxHeartbeats 4000000 in
set_option maxRecDepth 100000 in
theorem c_X0_isFreeOn (l : Launch) (G : GG) (ad : Nat → Nat) (σ : St) (n : Nat) (τ : St) (k : Nat) (hk : k < n) (p0 : Int32) : Met l yX0_isFreeOn wsX0_isFreeOn ({ frames := 0, cells := 0, slots := 0, locals := 0 }) (PcS G ad σ n τ [.ref (ad (3 * k + 9)), .int p0]) (Qi G (3 * n + 9) ad (ctS G ad σ n τ) (fun r => (r = 1 ∧ fOn σ k p0) ∨ (r = 0 ∧ ¬ fOn σ k p0))) 0 0 (gF G) := by
  refine Met.ofW (cc := cX0_isFreeOn) (maxL := 2) (ret := (some .boolean)) (by decide) rfl ?_
  intro p e s m args below meth c s₁ B hml hv
  obtain ⟨rfl, hY⟩ := hv
  have hts := atoms_spec (ws := wsX0_isFreeOn) B.pre
  have hC : CallFix p m c cX0_isFreeOn 2 s _ wsX0_isFreeOn RX0 := ⟨B.exec, B.bytes, hml, findClass_of_methodNamed B.named, hts⟩
  have hx := hC.1
  have hb := hC.2.1
  have hr := B.returns
  have hlocks := B.notSynchronized
  have hin0 : ∀ w ∈ wsX00, w ∈ wsX0_isFreeOn := by decide +kernel
  have hl := lv_entry ([.ref (ad (3 * k + 9)), .int p0]) (n := 2) (Nat.le_of_ble_eq_true rfl)
  rw [lg_entry_eq]
  generalize (lg_sl ([.ref (ad (3 * k + 9)), .int p0]) ++ List.replicate (2 - (lg_sl ([.ref (ad (3 * k + 9)), .int p0])).length) Slot.unset).toArray = ls at hl ⊢
  have hl : lv_has ls 2 [(0, .ref (ad (3 * k + 9))), (1, .int p0)] := hl
  refine lv_iload_n hx hb dX0_isFreeOn_0 rfl (lv_at hl 1 rfl) ?_
  refine lv_aload_n hx hb dX0_isFreeOn_1 rfl (lv_at hl 0 rfl) ?_
  refine gtL_from hC hin0 hY (k := k) hk (by decide +kernel) dX0_isFreeOn_2 ?_
  refine lv_aload_n hx hb dX0_isFreeOn_5 rfl (lv_at hl 0 rfl) ?_
  refine gtL_free hC hin0 hY (k := k) hk (by decide +kernel) dX0_isFreeOn_6 ?_
  refine lv_iadd hx hb dX0_isFreeOn_9 ?_
  refine b_icmp_ge (tgt := 17) hx hb dX0_isFreeOn_10 (by decide) (fun (h1 : ((σ 4 k) + (σ 7 k)).toInt ≤ p0.toInt) => ?_) (fun (h1 : p0.toInt < ((σ 4 k) + (σ 7 k)).toInt) => ?_)
  · refine lv_iconst (v := 0) hx hb dX0_isFreeOn_17 (by decide) ?_
    exact g_zret hC hr hlocks rfl hY ⟨Nat.le_of_ble_eq_true rfl, Nat.le_of_ble_eq_true rfl⟩ dX0_isFreeOn_18 (Or.inr ⟨rfl, by intro q; have q : p0.toInt < (σ 4 k + σ 7 k).toInt := q; omega⟩)
  · refine lv_iconst (v := 1) hx hb dX0_isFreeOn_13 (by decide) ?_
    refine lv_goto (tgt := 18) hx hb dX0_isFreeOn_14 (by decide) ?_
    exact g_zret hC hr hlocks rfl hY ⟨Nat.le_of_ble_eq_true rfl, Nat.le_of_ble_eq_true rfl⟩ dX0_isFreeOn_18 (Or.inl ⟨rfl, by omega⟩)

def soF (d x t : Int32) : Int32 := if d.toInt < x.toInt ∧ x.toInt < t.toInt then x else t
set_option maxHeartbeats 4000000 in
set_option maxRecDepth 100000 in
theorem c_X0_sooner (l : Launch) (G : GG) (ad : Nat → Nat) (σ : St) (n : Nat) (τ : St) (p0 p1 p2 : Int32) : Met l yX0_sooner wsX0_sooner ({ frames := 0, cells := 0, slots := 0, locals := 0 }) (PcS G ad σ n τ [.int p0, .int p1, .int p2]) (Qi G (3 * n + 9) ad (ctS G ad σ n τ) (fun r => r = soF p0 p1 p2)) 0 0 (gF G) := by
  refine Met.ofW (cc := cX0_sooner) (maxL := 3) (ret := (some .int)) (by decide) rfl ?_
  intro p e s m args below meth c s₁ B hml hv
  obtain ⟨rfl, hY⟩ := hv
  have hts := atoms_spec (ws := wsX0_sooner) B.pre
  have hC : CallFix p m c cX0_sooner 3 s _ wsX0_sooner RX0 := ⟨B.exec, B.bytes, hml, findClass_of_methodNamed B.named, hts⟩
  have hx := hC.1
  have hb := hC.2.1
  have hr := B.returns
  have hlocks := B.notSynchronized
  have hl := lv_entry ([.int p0, .int p1, .int p2]) (n := 3) (Nat.le_of_ble_eq_true rfl)
  rw [lg_entry_eq]
  generalize (lg_sl ([.int p0, .int p1, .int p2]) ++ List.replicate (3 - (lg_sl ([.int p0, .int p1, .int p2])).length) Slot.unset).toArray = ls at hl ⊢
  have hl : lv_has ls 3 [(0, .int p0), (1, .int p1), (2, .int p2)] := hl
  refine lv_iload_n hx hb dX0_sooner_0 rfl (lv_at hl 1 rfl) ?_
  refine lv_iload_n hx hb dX0_sooner_1 rfl (lv_at hl 0 rfl) ?_
  refine b_icmp_le (tgt := 14) hx hb dX0_sooner_2 (by decide) (fun (h1 : p1.toInt ≤ p0.toInt) => ?_) (fun (h1 : p0.toInt < p1.toInt) => ?_)
  · refine lv_iload_n hx hb dX0_sooner_14 rfl (lv_at hl 2 rfl) ?_
    exact g_iret hC hr hlocks hY ⟨Nat.le_of_ble_eq_true rfl, Nat.le_of_ble_eq_true rfl⟩ dX0_sooner_15 ((if_neg (by intro q; have := q.1; have := q.2; omega)).symm)
  · refine lv_iload_n hx hb dX0_sooner_5 rfl (lv_at hl 1 rfl) ?_
    refine lv_iload_n hx hb dX0_sooner_6 rfl (lv_at hl 2 rfl) ?_
    refine b_icmp_ge (tgt := 14) hx hb dX0_sooner_7 (by decide) (fun (h2 : p2.toInt ≤ p1.toInt) => ?_) (fun (h2 : p1.toInt < p2.toInt) => ?_)
    · refine lv_iload_n hx hb dX0_sooner_14 rfl (lv_at hl 2 rfl) ?_
      exact g_iret hC hr hlocks hY ⟨Nat.le_of_ble_eq_true rfl, Nat.le_of_ble_eq_true rfl⟩ dX0_sooner_15 ((if_neg (by intro q; have := q.1; have := q.2; omega)).symm)
    · refine lv_iload_n hx hb dX0_sooner_10 rfl (lv_at hl 1 rfl) ?_
      refine lv_goto (tgt := 15) hx hb dX0_sooner_11 (by decide) ?_
      exact g_iret hC hr hlocks hY ⟨Nat.le_of_ble_eq_true rfl, Nat.le_of_ble_eq_true rfl⟩ dX0_sooner_15 ((if_pos ⟨by omega, by omega⟩).symm)

def rvF (σ : St) (k : Nat) (d : Int32) : Int32 := if 0 < (σ 8 k).toInt ∧ (σ 4 k).toInt < d.toInt then (d - σ 4 k) / σ 8 k else 0
set_option maxHeartbeats 4000000 in
set_option maxRecDepth 100000 in
theorem c_X0_reviewsUpTo (l : Launch) (G : GG) (ad : Nat → Nat) (σ : St) (n : Nat) (τ : St) (k : Nat) (hk : k < n) (p0 : Int32) : Met l yX0_reviewsUpTo wsX0_reviewsUpTo ({ frames := 0, cells := 0, slots := 0, locals := 0 }) (PcS G ad σ n τ [.ref (ad (3 * k + 9)), .int p0]) (Qi G (3 * n + 9) ad (ctS G ad σ n τ) (fun r => r = rvF σ k p0)) 0 0 (gF G) := by
  refine Met.ofW (cc := cX0_reviewsUpTo) (maxL := 2) (ret := (some .int)) (by decide) rfl ?_
  intro p e s m args below meth c s₁ B hml hv
  obtain ⟨rfl, hY⟩ := hv
  have hts := atoms_spec (ws := wsX0_reviewsUpTo) B.pre
  have hC : CallFix p m c cX0_reviewsUpTo 2 s _ wsX0_reviewsUpTo RX0 := ⟨B.exec, B.bytes, hml, findClass_of_methodNamed B.named, hts⟩
  have hx := hC.1
  have hb := hC.2.1
  have hr := B.returns
  have hlocks := B.notSynchronized
  have hin0 : ∀ w ∈ wsX00, w ∈ wsX0_reviewsUpTo := by decide +kernel
  have hl := lv_entry ([.ref (ad (3 * k + 9)), .int p0]) (n := 2) (Nat.le_of_ble_eq_true rfl)
  rw [lg_entry_eq]
  generalize (lg_sl ([.ref (ad (3 * k + 9)), .int p0]) ++ List.replicate (2 - (lg_sl ([.ref (ad (3 * k + 9)), .int p0])).length) Slot.unset).toArray = ls at hl ⊢
  have hl : lv_has ls 2 [(0, .ref (ad (3 * k + 9))), (1, .int p0)] := hl
  refine lv_aload_n hx hb dX0_reviewsUpTo_0 rfl (lv_at hl 0 rfl) ?_
  refine gtL_every hC hin0 hY (k := k) hk (by decide +kernel) dX0_reviewsUpTo_1 ?_
  refine b_if_le (tgt := 29) hx hb dX0_reviewsUpTo_4 (by decide) (fun (h1 : (σ 8 k).toInt ≤ 0) => ?_) (fun (h1 : 0 < (σ 8 k).toInt) => ?_)
  · refine lv_iconst (v := 0) hx hb dX0_reviewsUpTo_29 (by decide) ?_
    exact g_iret hC hr hlocks hY ⟨Nat.le_of_ble_eq_true rfl, Nat.le_of_ble_eq_true rfl⟩ dX0_reviewsUpTo_30 ((if_neg (by intro q; have := q.1; have := q.2; omega)).symm)
  · refine lv_iload_n hx hb dX0_reviewsUpTo_7 rfl (lv_at hl 1 rfl) ?_
    refine lv_aload_n hx hb dX0_reviewsUpTo_8 rfl (lv_at hl 0 rfl) ?_
    refine gtL_from hC hin0 hY (k := k) hk (by decide +kernel) dX0_reviewsUpTo_9 ?_
    refine b_icmp_le (tgt := 29) hx hb dX0_reviewsUpTo_12 (by decide) (fun (h2 : p0.toInt ≤ (σ 4 k).toInt) => ?_) (fun (h2 : (σ 4 k).toInt < p0.toInt) => ?_)
    · refine lv_iconst (v := 0) hx hb dX0_reviewsUpTo_29 (by decide) ?_
      exact g_iret hC hr hlocks hY ⟨Nat.le_of_ble_eq_true rfl, Nat.le_of_ble_eq_true rfl⟩ dX0_reviewsUpTo_30 ((if_neg (by intro q; have := q.1; have := q.2; omega)).symm)
    · refine lv_iload_n hx hb dX0_reviewsUpTo_15 rfl (lv_at hl 1 rfl) ?_
      refine lv_aload_n hx hb dX0_reviewsUpTo_16 rfl (lv_at hl 0 rfl) ?_
      refine gtL_from hC hin0 hY (k := k) hk (by decide +kernel) dX0_reviewsUpTo_17 ?_
      refine lv_isub hx hb dX0_reviewsUpTo_20 ?_
      refine lv_aload_n hx hb dX0_reviewsUpTo_21 rfl (lv_at hl 0 rfl) ?_
      refine gtL_every hC hin0 hY (k := k) hk (by decide +kernel) dX0_reviewsUpTo_22 ?_
      refine lv_idiv hx hb dX0_reviewsUpTo_25 (by intro q; rw [q] at h1; revert h1; decide) ?_
      refine lv_goto (tgt := 30) hx hb dX0_reviewsUpTo_26 (by decide) ?_
      exact g_iret hC hr hlocks hY ⟨Nat.le_of_ble_eq_true rfl, Nat.le_of_ble_eq_true rfl⟩ dX0_reviewsUpTo_30 ((if_pos ⟨by omega, by omega⟩).symm)

def mxF (x y : Int32) : Int32 := if x < y then y else x
def mnF (x y : Int32) : Int32 := if y < x then y else x
def dwF (σ : St) (k : Nat) (a b : Int32) : Int32 := mxF 0 (mnF (σ 5 k) b - mxF (σ 4 k) a)
set_option maxHeartbeats 4000000 in
set_option maxRecDepth 100000 in
theorem c_X0_daysWithin (l : Launch) (G : GG) (ad : Nat → Nat) (σ : St) (n : Nat) (τ : St) (k : Nat) (hk : k < n) (p0 p1 : Int32) : Met l yX0_daysWithin wsX0_daysWithin ({ frames := 1, cells := 0, slots := 0, locals := 16 }) (PcS G ad σ n τ [.ref (ad (3 * k + 9)), .int p0, .int p1]) (Qi G (3 * n + 9) ad (ctS G ad σ n τ) (fun r => r = dwF σ k p0 p1)) 0 0 (gF G) := by
  refine Met.ofW (cc := cX0_daysWithin) (maxL := 3) (ret := (some .int)) (by decide) rfl ?_
  intro p e s m args below meth c s₁ B hml hv
  obtain ⟨rfl, hY⟩ := hv
  have hts := atoms_spec (ws := wsX0_daysWithin) B.pre
  have hC : CallFix p m c cX0_daysWithin 3 s _ wsX0_daysWithin RX0 := ⟨B.exec, B.bytes, hml, findClass_of_methodNamed B.named, hts⟩
  have hx := hC.1
  have hb := hC.2.1
  have hr := B.returns
  have hlocks := B.notSynchronized
  have hin0 : ∀ w ∈ wsX00, w ∈ wsX0_daysWithin := by decide +kernel
  have hl := lv_entry ([.ref (ad (3 * k + 9)), .int p0, .int p1]) (n := 3) (Nat.le_of_ble_eq_true rfl)
  rw [lg_entry_eq]
  generalize (lg_sl ([.ref (ad (3 * k + 9)), .int p0, .int p1]) ++ List.replicate (3 - (lg_sl ([.ref (ad (3 * k + 9)), .int p0, .int p1])).length) Slot.unset).toArray = ls at hl ⊢
  have hl : lv_has ls 3 [(0, .ref (ad (3 * k + 9))), (1, .int p0), (2, .int p1)] := hl
  refine lv_iconst (v := 0) hx hb dX0_daysWithin_0 (by decide) ?_
  refine lv_aload_n hx hb dX0_daysWithin_1 rfl (lv_at hl 0 rfl) ?_
  refine gtL_to hC hin0 hY (k := k) hk (by decide +kernel) dX0_daysWithin_2 ?_
  refine lv_iload_n hx hb dX0_daysWithin_5 rfl (lv_at hl 2 rfl) ?_
  refine va_mmin hx hb (hC.2.2.1.trans hl.1.symm) hC.2.2.2.1 (hC.2.2.2.2 _ (by decide +kernel)) (hC.2.2.2.2 _ (by decide +kernel)) (hC.2.2.2.2 _ (by decide +kernel)) (hC.2.2.2.2 _ (by decide +kernel)) (Nat.le_of_ble_eq_true rfl) (Nat.le_of_ble_eq_true rfl) (Nat.le_of_ble_eq_true rfl) (Nat.le_of_ble_eq_true rfl) dX0_daysWithin_6 ?_
  refine lv_aload_n hx hb dX0_daysWithin_9 rfl (lv_at hl 0 rfl) ?_
  refine gtL_from hC hin0 hY (k := k) hk (by decide +kernel) dX0_daysWithin_10 ?_
  refine lv_iload_n hx hb dX0_daysWithin_13 rfl (lv_at hl 1 rfl) ?_
  refine va_mmax hx hb (hC.2.2.1.trans hl.1.symm) hC.2.2.2.1 (hC.2.2.2.2 _ (by decide +kernel)) (hC.2.2.2.2 _ (by decide +kernel)) (hC.2.2.2.2 _ (by decide +kernel)) (hC.2.2.2.2 _ (by decide +kernel)) (Nat.le_of_ble_eq_true rfl) (Nat.le_of_ble_eq_true rfl) (Nat.le_of_ble_eq_true rfl) (Nat.le_of_ble_eq_true rfl) dX0_daysWithin_14 ?_
  refine lv_isub hx hb dX0_daysWithin_17 ?_
  refine va_mmax hx hb (hC.2.2.1.trans hl.1.symm) hC.2.2.2.1 (hC.2.2.2.2 _ (by decide +kernel)) (hC.2.2.2.2 _ (by decide +kernel)) (hC.2.2.2.2 _ (by decide +kernel)) (hC.2.2.2.2 _ (by decide +kernel)) (Nat.le_of_ble_eq_true rfl) (Nat.le_of_ble_eq_true rfl) (Nat.le_of_ble_eq_true rfl) (Nat.le_of_ble_eq_true rfl) dX0_daysWithin_18 ?_
  exact g_iret hC hr hlocks hY ⟨Nat.le_of_ble_eq_true rfl, Nat.le_of_ble_eq_true rfl⟩ dX0_daysWithin_21 (rfl)

abbrev diF (σ : St) (k : Nat) (y : Int32) : Int32 := dwF σ k (y * 360) (y * 360 + 360)
set_option maxHeartbeats 4000000 in
set_option maxRecDepth 100000 in
theorem c_X0_daysIn (l : Launch) (G : GG) (ad : Nat → Nat) (σ : St) (n : Nat) (τ : St) (k : Nat) (hk : k < n) (p0 : Int32) : Met l yX0_daysIn wsX0_daysIn ({ frames := 2, cells := 0, slots := 0, locals := 40 }) (PcS G ad σ n τ [.ref (ad (3 * k + 9)), .int p0]) (Qi G (3 * n + 9) ad (ctS G ad σ n τ) (fun r => r = diF σ k p0)) 0 0 (gF G) := by
  refine Met.ofW (cc := cX0_daysIn) (maxL := 3) (ret := (some .int)) (by decide) rfl ?_
  intro p e s m args below meth c s₁ B hml hv
  obtain ⟨rfl, hY⟩ := hv
  have hts := atoms_spec (ws := wsX0_daysIn) B.pre
  have hC : CallFix p m c cX0_daysIn 3 s _ wsX0_daysIn RX0 := ⟨B.exec, B.bytes, hml, findClass_of_methodNamed B.named, hts⟩
  have hx := hC.1
  have hb := hC.2.1
  have hr := B.returns
  have hlocks := B.notSynchronized
  have hin0 : ∀ w ∈ wsX00, w ∈ wsX0_daysIn := by decide +kernel
  have hl := lv_entry ([.ref (ad (3 * k + 9)), .int p0]) (n := 3) (Nat.le_of_ble_eq_true rfl)
  rw [lg_entry_eq]
  generalize (lg_sl ([.ref (ad (3 * k + 9)), .int p0]) ++ List.replicate (3 - (lg_sl ([.ref (ad (3 * k + 9)), .int p0])).length) Slot.unset).toArray = ls at hl ⊢
  have hl : lv_has ls 3 [(0, .ref (ad (3 * k + 9))), (1, .int p0)] := hl
  refine lv_iload_n hx hb dX0_daysIn_0 rfl (lv_at hl 1 rfl) ?_
  refine lv_sipush (v := 360) hx hb dX0_daysIn_1 (by decide) ?_
  refine lv_imul hx hb dX0_daysIn_4 ?_
  refine lv_istore_n (lv' := [(2, .int (p0 * 360)), (0, .ref (ad (3 * k + 9))), (1, .int p0)]) hx hb dX0_daysIn_5 rfl hl (by decide) rfl (fun ls hl => ?_)
  refine lv_aload_n hx hb dX0_daysIn_6 rfl (lv_at hl 1 rfl) ?_
  refine lv_iload_n hx hb dX0_daysIn_7 rfl (lv_at hl 0 rfl) ?_
  refine lv_iload_n hx hb dX0_daysIn_8 rfl (lv_at hl 0 rfl) ?_
  refine lv_sipush (v := 360) hx hb dX0_daysIn_9 (by decide) ?_
  refine lv_iadd hx hb dX0_daysIn_12 ?_
  refine g_calli hY (g_runV (n := 2) (q := (RX0, TX0, 12)) (r := 3 * k + 9) hC (c_X0_daysWithin l G ad σ n τ k hk (p0 * 360) ((p0 * 360) + 360)) gX0_daysIn_X0_daysWithin rfl ⟨rfl, rfl⟩ (by decide +kernel) ⟨Nat.le_of_ble_eq_true rfl, Nat.le_of_ble_eq_true rfl⟩ hY (r_lt hk) (ct_L k) (ci := 0) rfl rfl hl.1 rfl (Nat.le_of_ble_eq_true rfl) dX0_daysIn_13 ⟨Nat.le_of_ble_eq_true rfl, Nat.le_of_ble_eq_true rfl⟩) (fun r1 H locs h2 hY => ?_)
  subst h2
  exact g_iret hC hr hlocks hY ⟨Nat.le_of_ble_eq_true rfl, Nat.le_of_ble_eq_true rfl⟩ dX0_daysIn_16 (rfl)
end
section
/-! the lease's loops -/
def agC (σ : St) (k : Nat) (d : Int32) : Nat → Int32 × Int32
  | 0 => (σ 6 k, σ 4 k)
  | i + 1 => if (rowF σ 13 k i).toInt ≤ d.toInt ∧ (agC σ k d i).2.toInt < (rowF σ 13 k i).toInt then (rowF σ 14 k i, rowF σ 13 k i) else agC σ k d i
abbrev stN (σ : St) (k : Nat) : Nat := (σ 12 k).toInt.toNat
abbrev okS (σ : St) (k : Nat) : Prop := 0 ≤ (σ 12 k).toInt ∧ (σ 12 k).toInt ≤ 6
def acF (σ : St) (k : Nat) (d : Int32) : Int32 := (agC σ k d (stN σ k)).1
set_option maxHeartbeats 4000000 in
set_option maxRecDepth 100000 in
theorem c_X0_agreedOn (l : Launch) (G : GG) (ad : Nat → Nat) (σ : St) (n : Nat) (τ : St) (k : Nat) (hk : k < n) (p0 : Int32) (hs : okS σ k)  : Met l yX0_agreedOn wsX0_agreedOn ({ frames := 0, cells := 0, slots := 0, locals := 0 }) (PcS G ad σ n τ [.ref (ad (3 * k + 9)), .int p0]) (Qi G (3 * n + 9) ad (ctS G ad σ n τ) (fun r => r = acF σ k p0)) 0 0 (gF G) := by
  refine Met.ofW (cc := cX0_agreedOn) (maxL := 5) (ret := (some .int)) (by decide) rfl ?_
  intro p e s m args below meth c s₁ B hml hv
  obtain ⟨rfl, hY⟩ := hv
  have hts := atoms_spec (ws := wsX0_agreedOn) B.pre
  have hC : CallFix p m c cX0_agreedOn 5 s _ wsX0_agreedOn RX0 := ⟨B.exec, B.bytes, hml, findClass_of_methodNamed B.named, hts⟩
  have hx := hC.1
  have hb := hC.2.1
  have hr := B.returns
  have hlocks := B.notSynchronized
  have hin0 : ∀ w ∈ wsX00, w ∈ wsX0_agreedOn := by decide +kernel
  have hl := lv_entry ([.ref (ad (3 * k + 9)), .int p0]) (n := 5) (Nat.le_of_ble_eq_true rfl)
  rw [lg_entry_eq]
  generalize (lg_sl ([.ref (ad (3 * k + 9)), .int p0]) ++ List.replicate (5 - (lg_sl ([.ref (ad (3 * k + 9)), .int p0])).length) Slot.unset).toArray = ls at hl ⊢
  have hl : lv_has ls 5 [(0, .ref (ad (3 * k + 9))), (1, .int p0)] := hl
  refine lv_aload_n hx hb dX0_agreedOn_0 rfl (lv_at hl 0 rfl) ?_
  refine gtL_from hC hin0 hY (k := k) hk (by decide +kernel) dX0_agreedOn_1 ?_
  refine lv_istore_n (lv' := [(2, .int (σ 4 k)), (0, .ref (ad (3 * k + 9))), (1, .int p0)]) hx hb dX0_agreedOn_4 rfl hl (by decide) rfl (fun ls hl => ?_)
  refine lv_aload_n hx hb dX0_agreedOn_5 rfl (lv_at hl 1 rfl) ?_
  refine gtL_firstRent hC hin0 hY (k := k) hk (by decide +kernel) dX0_agreedOn_6 ?_
  refine lv_istore_n (lv' := [(3, .int (σ 6 k)), (2, .int (σ 4 k)), (0, .ref (ad (3 * k + 9))), (1, .int p0)]) hx hb dX0_agreedOn_9 rfl hl (by decide) rfl (fun ls hl => ?_)
  refine lv_iconst (v := 0) hx hb dX0_agreedOn_10 (by decide) ?_
  refine lv_istore (lv' := [(4, .int 0), (3, .int (σ 6 k)), (2, .int (σ 4 k)), (0, .ref (ad (3 * k + 9))), (1, .int p0)]) hx hb dX0_agreedOn_11 hl (by decide) rfl (fun ls hl => ?_)
  refine w_loop (X := Int32 × Int32 × Int32) (fun i x H locs ls => match x with | (x4, x3, x2) => (x4.toInt = i ∧ (i : Int) ≤ (σ 12 k).toInt ∧ agC σ k p0 i = (x3, x2)) ∧ SyS G ad σ n τ s H locs ∧ lv_has ls 5 [(4, .int x4), (3, .int x3), (2, .int x2), (0, .ref (ad (3 * k + 9))), (1, .int p0)]) (6) ?_ ?_ ((0, σ 6 k, σ 4 k)) ⟨⟨rfl, hs.1, rfl⟩, hY, lv_sub hl [0, 1, 2, 3, 4] rfl⟩
  · intro i x H locs ls hI ih
    obtain ⟨x4, x3, x2⟩ := x
    obtain ⟨hI, hY, hl⟩ := hI
    obtain ⟨h0, h9, e⟩ := hI
    refine lv_iload hx hb dX0_agreedOn_13 (lv_at hl 0 rfl) ?_
    refine lv_aload_n hx hb dX0_agreedOn_15 rfl (lv_at hl 3 rfl) ?_
    refine gtL_steps hC hin0 hY (k := k) hk (by decide +kernel) dX0_agreedOn_16 ?_
    refine b_icmp_ge (tgt := 73) hx hb dX0_agreedOn_19 (by decide) (fun (h1 : (σ 12 k).toInt ≤ x4.toInt) => ?_) (fun (h1 : x4.toInt < (σ 12 k).toInt) => ?_)
    · refine lv_iload_n hx hb dX0_agreedOn_73 rfl (lv_at hl 1 rfl) ?_
      exact g_iret hC hr hlocks hY ⟨Nat.le_of_ble_eq_true rfl, Nat.le_of_ble_eq_true rfl⟩ dX0_agreedOn_74 (by unfold acF stN; rw [show (σ 12 k).toInt.toNat = i by omega, e])
    · refine lv_iload hx hb dX0_agreedOn_22 (lv_at hl 0 rfl) ?_
      refine lv_bipush (v := 6) hx hb dX0_agreedOn_24 (by decide) ?_
      refine b_icmp_ge (tgt := 73) hx hb dX0_agreedOn_26 (by decide) (fun (h2 : 6 ≤ x4.toInt) => ?_) (fun (h2 : x4.toInt < 6) => ?_)
      · refine lv_iload_n hx hb dX0_agreedOn_73 rfl (lv_at hl 1 rfl) ?_
        exact g_iret hC hr hlocks hY ⟨Nat.le_of_ble_eq_true rfl, Nat.le_of_ble_eq_true rfl⟩ dX0_agreedOn_74 (by unfold acF stN; rw [show (σ 12 k).toInt.toNat = i by omega, e])
      · refine lv_aload_n hx hb dX0_agreedOn_29 rfl (lv_at hl 3 rfl) ?_
        refine gtL_stepDays hC hin0 hY (k := k) hk (by decide +kernel) dX0_agreedOn_30 ?_
        refine lv_iload hx hb dX0_agreedOn_33 (lv_at hl 0 rfl) ?_
        refine rdL13 hC hY (k := k) hk ⟨by omega, by omega⟩ dX0_agreedOn_35 ?_
        refine lv_iload_n hx hb dX0_agreedOn_36 rfl (lv_at hl 4 rfl) ?_
        refine b_icmp_gt (tgt := 67) hx hb dX0_agreedOn_37 (by decide) (fun (h3 : p0.toInt < (rowF σ 13 k (ix x4)).toInt) => ?_) (fun (h3 : (rowF σ 13 k (ix x4)).toInt ≤ p0.toInt) => ?_)
        · refine lv_iinc (v := x4 + 1) (lv' := [(4, .int (x4 + 1)), (3, .int x3), (2, .int x2), (0, .ref (ad (3 * k + 9))), (1, .int p0)]) hx hb dX0_agreedOn_67 hl (k := 0) rfl rfl (by decide) rfl (fun ls hl => ?_)
          refine lv_goto (tgt := 13) hx hb dX0_agreedOn_70 (by decide) ?_
          have hix : ix x4 = i := i_ix h0
          exact ih (x4 + 1, x3, x2) _ _ _ ⟨⟨by rw [i_add (by rw [h0]; show _ ∧ _ < _; have : (1 : Int32).toInt = 1 := rfl; omega)]; have : (1 : Int32).toInt = 1 := rfl; omega, by omega, by rw [agC, e, ← hix]; exact if_neg (by intro q; have q1 := q.1; have q2 := q.2; have q2 : x2.toInt < _ := q2; omega)⟩, hY, lv_sub hl [0, 1, 2, 3, 4] rfl⟩
        · refine lv_aload_n hx hb dX0_agreedOn_40 rfl (lv_at hl 3 rfl) ?_
          refine gtL_stepDays hC hin0 hY (k := k) hk (by decide +kernel) dX0_agreedOn_41 ?_
          refine lv_iload hx hb dX0_agreedOn_44 (lv_at hl 0 rfl) ?_
          refine rdL13 hC hY (k := k) hk ⟨by omega, by omega⟩ dX0_agreedOn_46 ?_
          refine lv_iload_n hx hb dX0_agreedOn_47 rfl (lv_at hl 2 rfl) ?_
          refine b_icmp_le (tgt := 67) hx hb dX0_agreedOn_48 (by decide) (fun (h4 : (rowF σ 13 k (ix x4)).toInt ≤ x2.toInt) => ?_) (fun (h4 : x2.toInt < (rowF σ 13 k (ix x4)).toInt) => ?_)
          · refine lv_iinc (v := x4 + 1) (lv' := [(4, .int (x4 + 1)), (3, .int x3), (2, .int x2), (0, .ref (ad (3 * k + 9))), (1, .int p0)]) hx hb dX0_agreedOn_67 hl (k := 0) rfl rfl (by decide) rfl (fun ls hl => ?_)
            refine lv_goto (tgt := 13) hx hb dX0_agreedOn_70 (by decide) ?_
            have hix : ix x4 = i := i_ix h0
            exact ih (x4 + 1, x3, x2) _ _ _ ⟨⟨by rw [i_add (by rw [h0]; show _ ∧ _ < _; have : (1 : Int32).toInt = 1 := rfl; omega)]; have : (1 : Int32).toInt = 1 := rfl; omega, by omega, by rw [agC, e, ← hix]; exact if_neg (by intro q; have q1 := q.1; have q2 := q.2; have q2 : x2.toInt < _ := q2; omega)⟩, hY, lv_sub hl [0, 1, 2, 3, 4] rfl⟩
          · refine lv_aload_n hx hb dX0_agreedOn_51 rfl (lv_at hl 3 rfl) ?_
            refine gtL_stepDays hC hin0 hY (k := k) hk (by decide +kernel) dX0_agreedOn_52 ?_
            refine lv_iload hx hb dX0_agreedOn_55 (lv_at hl 0 rfl) ?_
            refine rdL13 hC hY (k := k) hk ⟨by omega, by omega⟩ dX0_agreedOn_57 ?_
            refine lv_istore_n (lv' := [(2, .int (rowF σ 13 k (ix x4))), (4, .int x4), (3, .int x3), (0, .ref (ad (3 * k + 9))), (1, .int p0)]) hx hb dX0_agreedOn_58 rfl hl (by decide) rfl (fun ls hl => ?_)
            refine lv_aload_n hx hb dX0_agreedOn_59 rfl (lv_at hl 3 rfl) ?_
            refine gtL_stepRents hC hin0 hY (k := k) hk (by decide +kernel) dX0_agreedOn_60 ?_
            refine lv_iload hx hb dX0_agreedOn_63 (lv_at hl 1 rfl) ?_
            refine rdL14 hC hY (k := k) hk ⟨by omega, by omega⟩ dX0_agreedOn_65 ?_
            refine lv_istore_n (lv' := [(3, .int (rowF σ 14 k (ix x4))), (2, .int (rowF σ 13 k (ix x4))), (4, .int x4), (0, .ref (ad (3 * k + 9))), (1, .int p0)]) hx hb dX0_agreedOn_66 rfl hl (by decide) rfl (fun ls hl => ?_)
            refine lv_iinc (v := x4 + 1) (lv' := [(4, .int (x4 + 1)), (3, .int (rowF σ 14 k (ix x4))), (2, .int (rowF σ 13 k (ix x4))), (0, .ref (ad (3 * k + 9))), (1, .int p0)]) hx hb dX0_agreedOn_67 hl (k := 2) rfl rfl (by decide) rfl (fun ls hl => ?_)
            refine lv_goto (tgt := 13) hx hb dX0_agreedOn_70 (by decide) ?_
            have hix : ix x4 = i := i_ix h0
            exact ih (x4 + 1, rowF σ 14 k (ix x4), rowF σ 13 k (ix x4)) _ _ _ ⟨⟨by rw [i_add (by rw [h0]; show _ ∧ _ < _; have : (1 : Int32).toInt = 1 := rfl; omega)]; have : (1 : Int32).toInt = 1 := rfl; omega, by omega, by rw [agC, e, ← hix]; exact if_pos ⟨h3, h4⟩⟩, hY, lv_sub hl [0, 1, 2, 3, 4] rfl⟩
  · intro i x H locs ls hI
    obtain ⟨x4, x3, x2⟩ := x
    obtain ⟨hI, -, -⟩ := hI
    obtain ⟨h0, h9, e⟩ := hI
    omega

def ntP (σ : St) (k : Nat) (d : Int32) : Nat → Int32
  | 0 => soF d (σ 5 k) (soF d (σ 4 k + σ 7 k) (soF d (σ 4 k) 7200))
  | i + 1 => soF d (rowF σ 13 k i) (ntP σ k d i)
def ntF (σ : St) (k : Nat) (d : Int32) : Int32 := if 0 < (σ 8 k).toInt then soF d (σ 4 k + (rvF σ k d + 1) * σ 8 k) (ntP σ k d (stN σ k)) else ntP σ k d (stN σ k)
set_option maxHeartbeats 4000000 in
set_option maxRecDepth 100000 in
theorem c_X0_nextTurn (l : Launch) (G : GG) (ad : Nat → Nat) (σ : St) (n : Nat) (τ : St) (k : Nat) (hk : k < n) (p0 : Int32) (hs : okS σ k)  : Met l yX0_nextTurn wsX0_nextTurn ({ frames := 1, cells := 0, slots := 0, locals := 40 }) (PcS G ad σ n τ [.ref (ad (3 * k + 9)), .int p0]) (Qi G (3 * n + 9) ad (ctS G ad σ n τ) (fun r => r = ntF σ k p0)) 0 0 (gF G) := by
  refine Met.ofW (cc := cX0_nextTurn) (maxL := 4) (ret := (some .int)) (by decide) rfl ?_
  intro p e s m args below meth c s₁ B hml hv
  obtain ⟨rfl, hY⟩ := hv
  have hts := atoms_spec (ws := wsX0_nextTurn) B.pre
  have hC : CallFix p m c cX0_nextTurn 4 s _ wsX0_nextTurn RX0 := ⟨B.exec, B.bytes, hml, findClass_of_methodNamed B.named, hts⟩
  have hx := hC.1
  have hb := hC.2.1
  have hr := B.returns
  have hlocks := B.notSynchronized
  have hin0 : ∀ w ∈ wsX00, w ∈ wsX0_nextTurn := by decide +kernel
  have hl := lv_entry ([.ref (ad (3 * k + 9)), .int p0]) (n := 4) (Nat.le_of_ble_eq_true rfl)
  rw [lg_entry_eq]
  generalize (lg_sl ([.ref (ad (3 * k + 9)), .int p0]) ++ List.replicate (4 - (lg_sl ([.ref (ad (3 * k + 9)), .int p0])).length) Slot.unset).toArray = ls at hl ⊢
  have hl : lv_has ls 4 [(0, .ref (ad (3 * k + 9))), (1, .int p0)] := hl
  refine lv_iload_n hx hb dX0_nextTurn_0 rfl (lv_at hl 1 rfl) ?_
  refine lv_aload_n hx hb dX0_nextTurn_1 rfl (lv_at hl 0 rfl) ?_
  refine gtL_from hC hin0 hY (k := k) hk (by decide +kernel) dX0_nextTurn_2 ?_
  refine lv_sipush (v := 7200) hx hb dX0_nextTurn_5 (by decide) ?_
  refine g_calli hY (g_runS (n := 3) hC (c_X0_sooner l G ad σ n τ p0 (σ 4 k) 7200) gX0_nextTurn_X0_sooner rfl ⟨rfl, rfl⟩ (by decide +kernel) ⟨Nat.le_of_ble_eq_true rfl, Nat.le_of_ble_eq_true rfl⟩ hY rfl hl.1 rfl (Nat.le_of_ble_eq_true rfl) dX0_nextTurn_8 ⟨Nat.le_of_ble_eq_true rfl, Nat.le_of_ble_eq_true rfl⟩) (fun r1 H locs h2 hY => ?_)
  subst h2
  refine lv_istore_n (lv' := [(2, .int (soF p0 (σ 4 k) 7200)), (0, .ref (ad (3 * k + 9))), (1, .int p0)]) hx hb dX0_nextTurn_11 rfl hl (by decide) rfl (fun ls hl => ?_)
  refine lv_iload_n hx hb dX0_nextTurn_12 rfl (lv_at hl 2 rfl) ?_
  refine lv_aload_n hx hb dX0_nextTurn_13 rfl (lv_at hl 1 rfl) ?_
  refine gtL_from hC hin0 hY (k := k) hk (by decide +kernel) dX0_nextTurn_14 ?_
  refine lv_aload_n hx hb dX0_nextTurn_17 rfl (lv_at hl 1 rfl) ?_
  refine gtL_free hC hin0 hY (k := k) hk (by decide +kernel) dX0_nextTurn_18 ?_
  refine lv_iadd hx hb dX0_nextTurn_21 ?_
  refine lv_iload_n hx hb dX0_nextTurn_22 rfl (lv_at hl 0 rfl) ?_
  refine g_calli hY (g_runS (n := 3) hC (c_X0_sooner l G ad σ n τ p0 ((σ 4 k) + (σ 7 k)) (soF p0 (σ 4 k) 7200)) gX0_nextTurn_X0_sooner rfl ⟨rfl, rfl⟩ (by decide +kernel) ⟨Nat.le_of_ble_eq_true rfl, Nat.le_of_ble_eq_true rfl⟩ hY rfl hl.1 rfl (Nat.le_of_ble_eq_true rfl) dX0_nextTurn_23 ⟨Nat.le_of_ble_eq_true rfl, Nat.le_of_ble_eq_true rfl⟩) (fun r3 H locs h4 hY => ?_)
  subst h4
  refine lv_istore_n (lv' := [(2, .int (soF p0 ((σ 4 k) + (σ 7 k)) (soF p0 (σ 4 k) 7200))), (0, .ref (ad (3 * k + 9))), (1, .int p0)]) hx hb dX0_nextTurn_26 rfl hl (by decide) rfl (fun ls hl => ?_)
  refine lv_iload_n hx hb dX0_nextTurn_27 rfl (lv_at hl 2 rfl) ?_
  refine lv_aload_n hx hb dX0_nextTurn_28 rfl (lv_at hl 1 rfl) ?_
  refine gtL_to hC hin0 hY (k := k) hk (by decide +kernel) dX0_nextTurn_29 ?_
  refine lv_iload_n hx hb dX0_nextTurn_32 rfl (lv_at hl 0 rfl) ?_
  refine g_calli hY (g_runS (n := 3) hC (c_X0_sooner l G ad σ n τ p0 (σ 5 k) (soF p0 ((σ 4 k) + (σ 7 k)) (soF p0 (σ 4 k) 7200))) gX0_nextTurn_X0_sooner rfl ⟨rfl, rfl⟩ (by decide +kernel) ⟨Nat.le_of_ble_eq_true rfl, Nat.le_of_ble_eq_true rfl⟩ hY rfl hl.1 rfl (Nat.le_of_ble_eq_true rfl) dX0_nextTurn_33 ⟨Nat.le_of_ble_eq_true rfl, Nat.le_of_ble_eq_true rfl⟩) (fun r5 H locs h6 hY => ?_)
  subst h6
  refine lv_istore_n (lv' := [(2, .int (soF p0 (σ 5 k) (soF p0 ((σ 4 k) + (σ 7 k)) (soF p0 (σ 4 k) 7200)))), (0, .ref (ad (3 * k + 9))), (1, .int p0)]) hx hb dX0_nextTurn_36 rfl hl (by decide) rfl (fun ls hl => ?_)
  refine lv_iconst (v := 0) hx hb dX0_nextTurn_37 (by decide) ?_
  refine lv_istore_n (lv' := [(3, .int 0), (2, .int (soF p0 (σ 5 k) (soF p0 ((σ 4 k) + (σ 7 k)) (soF p0 (σ 4 k) 7200)))), (0, .ref (ad (3 * k + 9))), (1, .int p0)]) hx hb dX0_nextTurn_38 rfl hl (by decide) rfl (fun ls hl => ?_)
  refine w_loop (X := Int32 × Int32) (fun i x H locs ls => match x with | (x3, x2) => (x3.toInt = i ∧ (i : Int) ≤ (σ 12 k).toInt ∧ x2 = ntP σ k p0 i) ∧ SyS G ad σ n τ s H locs ∧ lv_has ls 4 [(3, .int x3), (2, .int x2), (0, .ref (ad (3 * k + 9))), (1, .int p0)]) (6) ?_ ?_ ((0, soF p0 (σ 5 k) (soF p0 ((σ 4 k) + (σ 7 k)) (soF p0 (σ 4 k) 7200)))) ⟨⟨rfl, hs.1, rfl⟩, hY, lv_sub hl [0, 1, 2, 3] rfl⟩
  · intro i x H locs ls hI ih
    obtain ⟨x3, x2⟩ := x
    obtain ⟨hI, hY, hl⟩ := hI
    obtain ⟨h0, h9, e⟩ := hI
    refine lv_iload_n hx hb dX0_nextTurn_39 rfl (lv_at hl 0 rfl) ?_
    refine lv_aload_n hx hb dX0_nextTurn_40 rfl (lv_at hl 2 rfl) ?_
    refine gtL_steps hC hin0 hY (k := k) hk (by decide +kernel) dX0_nextTurn_41 ?_
    refine b_icmp_ge (tgt := 71) hx hb dX0_nextTurn_44 (by decide) (fun (h7 : (σ 12 k).toInt ≤ x3.toInt) => ?_) (fun (h7 : x3.toInt < (σ 12 k).toInt) => ?_)
    · refine lv_aload_n hx hb dX0_nextTurn_71 rfl (lv_at hl 2 rfl) ?_
      refine gtL_every hC hin0 hY (k := k) hk (by decide +kernel) dX0_nextTurn_72 ?_
      refine b_if_le (tgt := 101) hx hb dX0_nextTurn_75 (by decide) (fun (h8 : (σ 8 k).toInt ≤ 0) => ?_) (fun (h8 : 0 < (σ 8 k).toInt) => ?_)
      · refine lv_iload_n hx hb dX0_nextTurn_101 rfl (lv_at hl 1 rfl) ?_
        exact g_iret hC hr hlocks hY ⟨Nat.le_of_ble_eq_true rfl, Nat.le_of_ble_eq_true rfl⟩ dX0_nextTurn_102 (by unfold ntF stN; rw [if_neg (by omega), show (σ 12 k).toInt.toNat = i by omega, ← e])
      · refine lv_iload_n hx hb dX0_nextTurn_78 rfl (lv_at hl 3 rfl) ?_
        refine lv_aload_n hx hb dX0_nextTurn_79 rfl (lv_at hl 2 rfl) ?_
        refine gtL_from hC hin0 hY (k := k) hk (by decide +kernel) dX0_nextTurn_80 ?_
        refine lv_aload_n hx hb dX0_nextTurn_83 rfl (lv_at hl 2 rfl) ?_
        refine lv_iload_n hx hb dX0_nextTurn_84 rfl (lv_at hl 3 rfl) ?_
        refine g_calli hY (g_runV (n := 1) (q := (RX0, TX0, 12)) (r := 3 * k + 9) hC (c_X0_reviewsUpTo l G ad σ n τ k hk p0) gX0_nextTurn_X0_reviewsUpTo rfl ⟨rfl, rfl⟩ (by decide +kernel) ⟨Nat.le_of_ble_eq_true rfl, Nat.le_of_ble_eq_true rfl⟩ hY (r_lt hk) (ct_L k) (ci := 0) rfl rfl hl.1 rfl (Nat.le_of_ble_eq_true rfl) dX0_nextTurn_85 ⟨Nat.le_of_ble_eq_true rfl, Nat.le_of_ble_eq_true rfl⟩) (fun r9 H locs h10 hY => ?_)
        subst h10
        refine lv_iconst (v := 1) hx hb dX0_nextTurn_88 (by decide) ?_
        refine lv_iadd hx hb dX0_nextTurn_89 ?_
        refine lv_aload_n hx hb dX0_nextTurn_90 rfl (lv_at hl 2 rfl) ?_
        refine gtL_every hC hin0 hY (k := k) hk (by decide +kernel) dX0_nextTurn_91 ?_
        refine lv_imul hx hb dX0_nextTurn_94 ?_
        refine lv_iadd hx hb dX0_nextTurn_95 ?_
        refine lv_iload_n hx hb dX0_nextTurn_96 rfl (lv_at hl 1 rfl) ?_
        refine g_calli hY (g_runS (n := 3) hC (c_X0_sooner l G ad σ n τ p0 ((σ 4 k) + (((rvF σ k p0) + 1) * (σ 8 k))) x2) gX0_nextTurn_X0_sooner rfl ⟨rfl, rfl⟩ (by decide +kernel) ⟨Nat.le_of_ble_eq_true rfl, Nat.le_of_ble_eq_true rfl⟩ hY rfl hl.1 rfl (Nat.le_of_ble_eq_true rfl) dX0_nextTurn_97 ⟨Nat.le_of_ble_eq_true rfl, Nat.le_of_ble_eq_true rfl⟩) (fun r11 H locs h12 hY => ?_)
        subst h12
        refine lv_istore_n (lv' := [(2, .int (soF p0 ((σ 4 k) + (((rvF σ k p0) + 1) * (σ 8 k))) x2)), (3, .int x3), (0, .ref (ad (3 * k + 9))), (1, .int p0)]) hx hb dX0_nextTurn_100 rfl hl (by decide) rfl (fun ls hl => ?_)
        refine lv_iload_n hx hb dX0_nextTurn_101 rfl (lv_at hl 0 rfl) ?_
        exact g_iret hC hr hlocks hY ⟨Nat.le_of_ble_eq_true rfl, Nat.le_of_ble_eq_true rfl⟩ dX0_nextTurn_102 (by unfold ntF stN; rw [if_pos h8, show (σ 12 k).toInt.toNat = i by omega, ← e])
    · refine lv_iload_n hx hb dX0_nextTurn_47 rfl (lv_at hl 0 rfl) ?_
      refine lv_bipush (v := 6) hx hb dX0_nextTurn_48 (by decide) ?_
      refine b_icmp_ge (tgt := 71) hx hb dX0_nextTurn_50 (by decide) (fun (h13 : 6 ≤ x3.toInt) => ?_) (fun (h13 : x3.toInt < 6) => ?_)
      · refine lv_aload_n hx hb dX0_nextTurn_71 rfl (lv_at hl 2 rfl) ?_
        refine gtL_every hC hin0 hY (k := k) hk (by decide +kernel) dX0_nextTurn_72 ?_
        refine b_if_le (tgt := 101) hx hb dX0_nextTurn_75 (by decide) (fun (h14 : (σ 8 k).toInt ≤ 0) => ?_) (fun (h14 : 0 < (σ 8 k).toInt) => ?_)
        · refine lv_iload_n hx hb dX0_nextTurn_101 rfl (lv_at hl 1 rfl) ?_
          exact g_iret hC hr hlocks hY ⟨Nat.le_of_ble_eq_true rfl, Nat.le_of_ble_eq_true rfl⟩ dX0_nextTurn_102 (by unfold ntF stN; rw [if_neg (by omega), show (σ 12 k).toInt.toNat = i by omega, ← e])
        · refine lv_iload_n hx hb dX0_nextTurn_78 rfl (lv_at hl 3 rfl) ?_
          refine lv_aload_n hx hb dX0_nextTurn_79 rfl (lv_at hl 2 rfl) ?_
          refine gtL_from hC hin0 hY (k := k) hk (by decide +kernel) dX0_nextTurn_80 ?_
          refine lv_aload_n hx hb dX0_nextTurn_83 rfl (lv_at hl 2 rfl) ?_
          refine lv_iload_n hx hb dX0_nextTurn_84 rfl (lv_at hl 3 rfl) ?_
          refine g_calli hY (g_runV (n := 1) (q := (RX0, TX0, 12)) (r := 3 * k + 9) hC (c_X0_reviewsUpTo l G ad σ n τ k hk p0) gX0_nextTurn_X0_reviewsUpTo rfl ⟨rfl, rfl⟩ (by decide +kernel) ⟨Nat.le_of_ble_eq_true rfl, Nat.le_of_ble_eq_true rfl⟩ hY (r_lt hk) (ct_L k) (ci := 0) rfl rfl hl.1 rfl (Nat.le_of_ble_eq_true rfl) dX0_nextTurn_85 ⟨Nat.le_of_ble_eq_true rfl, Nat.le_of_ble_eq_true rfl⟩) (fun r15 H locs h16 hY => ?_)
          subst h16
          refine lv_iconst (v := 1) hx hb dX0_nextTurn_88 (by decide) ?_
          refine lv_iadd hx hb dX0_nextTurn_89 ?_
          refine lv_aload_n hx hb dX0_nextTurn_90 rfl (lv_at hl 2 rfl) ?_
          refine gtL_every hC hin0 hY (k := k) hk (by decide +kernel) dX0_nextTurn_91 ?_
          refine lv_imul hx hb dX0_nextTurn_94 ?_
          refine lv_iadd hx hb dX0_nextTurn_95 ?_
          refine lv_iload_n hx hb dX0_nextTurn_96 rfl (lv_at hl 1 rfl) ?_
          refine g_calli hY (g_runS (n := 3) hC (c_X0_sooner l G ad σ n τ p0 ((σ 4 k) + (((rvF σ k p0) + 1) * (σ 8 k))) x2) gX0_nextTurn_X0_sooner rfl ⟨rfl, rfl⟩ (by decide +kernel) ⟨Nat.le_of_ble_eq_true rfl, Nat.le_of_ble_eq_true rfl⟩ hY rfl hl.1 rfl (Nat.le_of_ble_eq_true rfl) dX0_nextTurn_97 ⟨Nat.le_of_ble_eq_true rfl, Nat.le_of_ble_eq_true rfl⟩) (fun r17 H locs h18 hY => ?_)
          subst h18
          refine lv_istore_n (lv' := [(2, .int (soF p0 ((σ 4 k) + (((rvF σ k p0) + 1) * (σ 8 k))) x2)), (3, .int x3), (0, .ref (ad (3 * k + 9))), (1, .int p0)]) hx hb dX0_nextTurn_100 rfl hl (by decide) rfl (fun ls hl => ?_)
          refine lv_iload_n hx hb dX0_nextTurn_101 rfl (lv_at hl 0 rfl) ?_
          exact g_iret hC hr hlocks hY ⟨Nat.le_of_ble_eq_true rfl, Nat.le_of_ble_eq_true rfl⟩ dX0_nextTurn_102 (by unfold ntF stN; rw [if_pos h14, show (σ 12 k).toInt.toNat = i by omega, ← e])
      · refine lv_iload_n hx hb dX0_nextTurn_53 rfl (lv_at hl 3 rfl) ?_
        refine lv_aload_n hx hb dX0_nextTurn_54 rfl (lv_at hl 2 rfl) ?_
        refine gtL_stepDays hC hin0 hY (k := k) hk (by decide +kernel) dX0_nextTurn_55 ?_
        refine lv_iload_n hx hb dX0_nextTurn_58 rfl (lv_at hl 0 rfl) ?_
        refine rdL13 hC hY (k := k) hk ⟨by omega, by omega⟩ dX0_nextTurn_59 ?_
        refine lv_iload_n hx hb dX0_nextTurn_60 rfl (lv_at hl 1 rfl) ?_
        refine g_calli hY (g_runS (n := 3) hC (c_X0_sooner l G ad σ n τ p0 (rowF σ 13 k (ix x3)) x2) gX0_nextTurn_X0_sooner rfl ⟨rfl, rfl⟩ (by decide +kernel) ⟨Nat.le_of_ble_eq_true rfl, Nat.le_of_ble_eq_true rfl⟩ hY rfl hl.1 rfl (Nat.le_of_ble_eq_true rfl) dX0_nextTurn_61 ⟨Nat.le_of_ble_eq_true rfl, Nat.le_of_ble_eq_true rfl⟩) (fun r19 H locs h20 hY => ?_)
        subst h20
        refine lv_istore_n (lv' := [(2, .int (soF p0 (rowF σ 13 k (ix x3)) x2)), (3, .int x3), (0, .ref (ad (3 * k + 9))), (1, .int p0)]) hx hb dX0_nextTurn_64 rfl hl (by decide) rfl (fun ls hl => ?_)
        refine lv_iinc (v := x3 + 1) (lv' := [(3, .int (x3 + 1)), (2, .int (soF p0 (rowF σ 13 k (ix x3)) x2)), (0, .ref (ad (3 * k + 9))), (1, .int p0)]) hx hb dX0_nextTurn_65 hl (k := 1) rfl rfl (by decide) rfl (fun ls hl => ?_)
        refine lv_goto (tgt := 39) hx hb dX0_nextTurn_68 (by decide) ?_
        have hix : ix x3 = i := i_ix h0
        exact ih (x3 + 1, soF p0 (rowF σ 13 k (ix x3)) x2) _ _ _ ⟨⟨by rw [i_add (by have : (1 : Int32).toInt = 1 := rfl; omega)]; have : (1 : Int32).toInt = 1 := rfl; omega, by omega, by rw [ntP, ← e, ← hix]⟩, hY, lv_sub hl [0, 1, 2, 3] rfl⟩
  · intro i x H locs ls hI
    obtain ⟨x3, x2⟩ := x
    obtain ⟨hI, -, -⟩ := hI
    obtain ⟨h0, h9, e⟩ := hI
    omega

def plG (σ : St) (k : Nat) (d : Int32) : Nat → Nat → Nat
  | 0, i => i
  | f + 1, i => if (rowF σ 13 k i).toInt = d.toInt then i else plG σ k d f (i + 1)
theorem plG_s {σ : St} {k : Nat} {d : Int32} {f i : Nat} : plG σ k d (f + 1) i = if (rowF σ 13 k i).toInt = d.toInt then i else plG σ k d f (i + 1) := rfl
abbrev plF (σ : St) (k : Nat) (d : Int32) : Nat := plG σ k d (stN σ k) 0
def psS (σ : St) (k : Nat) (d r : Int32) : St := if plF σ k d < 6 then us (us (us σ 13 (6 * k + plF σ k d) d) 14 (6 * k + plF σ k d) r) 12 k (if plF σ k d = stN σ k then σ 12 k + 1 else σ 12 k) else σ
theorem plG_le {σ : St} {k : Nat} {d : Int32} : ∀ (f i : Nat), plG σ k d f i ≤ i + f := by
  intro f
  induction f with
  | zero => intro i; exact Nat.le_refl _
  | succ f ih =>
    intro i
    unfold plG
    split
    · omega
    · have := ih (i + 1); omega
set_option maxHeartbeats 4000000 in
set_option maxRecDepth 100000 in
theorem c_X0_putStep (l : Launch) (G : GG) (ad : Nat → Nat) (σ : St) (n : Nat) (τ : St) (k : Nat) (hk : k < n) (p1 p2 : Int32) (hs : okS σ k)  : Met l yX0_putStep wsX0_putStep ({ frames := 1, cells := 0, slots := 0, locals := 40 }) (PcS G ad σ n τ [.ref (ad (3 * k + 9)), .int p1, .int p2]) (Qi G (3 * n + 9) ad (ctS G ad (psS σ k p1 p2) n τ) (fun r => (r = 1 ∧ plF σ k p1 < 6) ∨ (r = 0 ∧ ¬ plF σ k p1 < 6))) 0 0 (gF G) := by
  refine Met.ofW (cc := cX0_putStep) (maxL := 4) (ret := (some .boolean)) (by decide) rfl ?_
  intro p e s m args below meth c s₁ B hml hv
  obtain ⟨rfl, hY⟩ := hv
  have hts := atoms_spec (ws := wsX0_putStep) B.pre
  have hC : CallFix p m c cX0_putStep 4 s _ wsX0_putStep RX0 := ⟨B.exec, B.bytes, hml, findClass_of_methodNamed B.named, hts⟩
  have hx := hC.1
  have hb := hC.2.1
  have hr := B.returns
  have hlocks := B.notSynchronized
  have hin0 : ∀ w ∈ wsX00, w ∈ wsX0_putStep := by decide +kernel
  have hl := lv_entry ([.ref (ad (3 * k + 9)), .int p1, .int p2]) (n := 4) (Nat.le_of_ble_eq_true rfl)
  rw [lg_entry_eq]
  generalize (lg_sl ([.ref (ad (3 * k + 9)), .int p1, .int p2]) ++ List.replicate (4 - (lg_sl ([.ref (ad (3 * k + 9)), .int p1, .int p2])).length) Slot.unset).toArray = ls at hl ⊢
  have hl : lv_has ls 4 [(0, .ref (ad (3 * k + 9))), (1, .int p1), (2, .int p2)] := hl
  refine lv_iconst (v := 0) hx hb dX0_putStep_0 (by decide) ?_
  refine lv_istore_n (lv' := [(3, .int 0), (0, .ref (ad (3 * k + 9))), (1, .int p1), (2, .int p2)]) hx hb dX0_putStep_1 rfl hl (by decide) rfl (fun ls hl => ?_)
  refine w_loop (X := Int32) (fun i x H locs ls => match x with | x3 => (x3.toInt = i ∧ (i : Int) ≤ (σ 12 k).toInt ∧ plG σ k p1 (stN σ k - i) i = plF σ k p1) ∧ SyS G ad σ n τ s H locs ∧ lv_has ls 4 [(3, .int x3), (0, .ref (ad (3 * k + 9))), (1, .int p1), (2, .int p2)]) (6) ?_ ?_ (0) ⟨⟨rfl, hs.1, rfl⟩, hY, lv_sub hl [0, 1, 2, 3] rfl⟩
  · intro i x H locs ls hI ih
    obtain ⟨x3, rfl⟩ : ∃ z, z = x := ⟨_, rfl⟩
    obtain ⟨hI, hY, hl⟩ := hI
    obtain ⟨h0, h9, e⟩ := hI
    refine lv_iload_n hx hb dX0_putStep_2 rfl (lv_at hl 0 rfl) ?_
    refine lv_aload_n hx hb dX0_putStep_3 rfl (lv_at hl 1 rfl) ?_
    refine gtL_steps hC hin0 hY (k := k) hk (by decide +kernel) dX0_putStep_4 ?_
    refine b_icmp_ge (tgt := 32) hx hb dX0_putStep_7 (by decide) (fun (h1 : (σ 12 k).toInt ≤ x3.toInt) => ?_) (fun (h1 : x3.toInt < (σ 12 k).toInt) => ?_)
    · refine lv_iload_n hx hb dX0_putStep_32 rfl (lv_at hl 0 rfl) ?_
      refine lv_bipush (v := 6) hx hb dX0_putStep_33 (by decide) ?_
      refine b_icmp_lt (tgt := 40) hx hb dX0_putStep_35 (by decide) (fun (h2 : x3.toInt < 6) => ?_) (fun (h2 : 6 ≤ x3.toInt) => ?_)
      · refine lv_aload_n hx hb dX0_putStep_40 rfl (lv_at hl 1 rfl) ?_
        refine gtL_stepDays hC hin0 hY (k := k) hk (by decide +kernel) dX0_putStep_41 ?_
        refine lv_iload_n hx hb dX0_putStep_44 rfl (lv_at hl 0 rfl) ?_
        refine lv_iload_n hx hb dX0_putStep_45 rfl (lv_at hl 2 rfl) ?_
        refine wrL13 hC hY (k := k) hk ⟨by omega, by omega⟩ dX0_putStep_46 (fun H locs hY => ?_)
        refine lv_aload_n hx hb dX0_putStep_47 rfl (lv_at hl 1 rfl) ?_
        refine gtL_stepRents hC hin0 hY (k := k) hk (by decide +kernel) dX0_putStep_48 ?_
        refine lv_iload_n hx hb dX0_putStep_51 rfl (lv_at hl 0 rfl) ?_
        refine lv_iload_n hx hb dX0_putStep_52 rfl (lv_at hl 3 rfl) ?_
        refine wrL14 hC hY (k := k) hk ⟨by omega, by omega⟩ dX0_putStep_53 (fun H locs hY => ?_)
        refine lv_aload_n hx hb dX0_putStep_54 rfl (lv_at hl 1 rfl) ?_
        refine lv_aload_n hx hb dX0_putStep_55 rfl (lv_at hl 1 rfl) ?_
        refine gtL_steps hC hin0 hY (k := k) hk (by decide +kernel) dX0_putStep_56 ?_
        refine lv_iload_n hx hb dX0_putStep_59 rfl (lv_at hl 0 rfl) ?_
        refine lv_iconst (v := 1) hx hb dX0_putStep_60 (by decide) ?_
        refine lv_iadd hx hb dX0_putStep_61 ?_
        refine va_mmax hx hb (hC.2.2.1.trans hl.1.symm) hC.2.2.2.1 (hC.2.2.2.2 _ (by decide +kernel)) (hC.2.2.2.2 _ (by decide +kernel)) (hC.2.2.2.2 _ (by decide +kernel)) (hC.2.2.2.2 _ (by decide +kernel)) (Nat.le_of_ble_eq_true rfl) (Nat.le_of_ble_eq_true rfl) (Nat.le_of_ble_eq_true rfl) (Nat.le_of_ble_eq_true rfl) dX0_putStep_62 ?_
        refine ptL_steps hC hin0 hY (k := k) hk (by decide +kernel) dX0_putStep_65 (fun H locs hY => ?_)
        refine lv_iconst (v := 1) hx hb dX0_putStep_68 (by decide) ?_
        have hix : ix x3 = i := i_ix h0
        have hpl : plF σ k p1 = i := by rw [← e, show stN σ k - i = 0 by (unfold stN; omega)]; rfl
        have hm : (if plF σ k p1 = stN σ k then σ 12 k + 1 else σ 12 k) = (if σ 12 k < x3 + 1 then x3 + 1 else σ 12 k) := by
          have h1 : (x3 + 1).toInt = x3.toInt + 1 := i_add (by have : (1 : Int32).toInt = 1 := rfl; omega)
          by_cases hz : i = stN σ k
          · rw [if_pos (by rw [hpl]; exact hz), if_pos (by rw [Int32.lt_iff_toInt_lt, h1, h0, hz]; unfold stN; omega), show x3 = σ 12 k from i_ext (by rw [h0, hz]; unfold stN; omega)]
          · rw [if_neg (by rw [hpl]; exact hz), if_neg (by rw [Int32.lt_iff_toInt_lt, h1, h0]; unfold stN at hz; omega)]
        rw [show psS σ k p1 p2 = (us (us (us σ 13 (6 * k + ix x3) p1) 14 (6 * k + ix x3) p2) 12 k (if ((us (us σ 13 (6 * k + ix x3) p1) 14 (6 * k + ix x3) p2) 12 k) < (x3 + 1) then (x3 + 1) else ((us (us σ 13 (6 * k + ix x3) p1) 14 (6 * k + ix x3) p2) 12 k))) from by unfold psS; rw [if_pos (by rw [hpl]; omega), hm, hpl, hix]; rfl]
        exact g_zret hC hr hlocks rfl hY ⟨Nat.le_of_ble_eq_true rfl, Nat.le_of_ble_eq_true rfl⟩ dX0_putStep_69 (Or.inl ⟨rfl, by rw [hpl]; omega⟩)
      · refine lv_iconst (v := 0) hx hb dX0_putStep_38 (by decide) ?_
        have hix : ix x3 = i := i_ix h0
        have hpl : plF σ k p1 = i := by rw [← e, show stN σ k - i = 0 by (unfold stN; omega)]; rfl
        rw [show psS σ k p1 p2 = σ from if_neg (by rw [hpl]; omega)]
        exact g_zret hC hr hlocks rfl hY ⟨Nat.le_of_ble_eq_true rfl, Nat.le_of_ble_eq_true rfl⟩ dX0_putStep_39 (Or.inr ⟨rfl, by rw [hpl]; omega⟩)
    · refine lv_iload_n hx hb dX0_putStep_10 rfl (lv_at hl 0 rfl) ?_
      refine lv_bipush (v := 6) hx hb dX0_putStep_11 (by decide) ?_
      refine b_icmp_ge (tgt := 32) hx hb dX0_putStep_13 (by decide) (fun (h3 : 6 ≤ x3.toInt) => ?_) (fun (h3 : x3.toInt < 6) => ?_)
      · refine lv_iload_n hx hb dX0_putStep_32 rfl (lv_at hl 0 rfl) ?_
        refine lv_bipush (v := 6) hx hb dX0_putStep_33 (by decide) ?_
        refine b_icmp_lt (tgt := 40) hx hb dX0_putStep_35 (by decide) (fun (h4 : x3.toInt < 6) => ?_) (fun (h4 : 6 ≤ x3.toInt) => ?_)
        · refine lv_aload_n hx hb dX0_putStep_40 rfl (lv_at hl 1 rfl) ?_
          refine gtL_stepDays hC hin0 hY (k := k) hk (by decide +kernel) dX0_putStep_41 ?_
          refine lv_iload_n hx hb dX0_putStep_44 rfl (lv_at hl 0 rfl) ?_
          refine lv_iload_n hx hb dX0_putStep_45 rfl (lv_at hl 2 rfl) ?_
          refine wrL13 hC hY (k := k) hk ⟨by omega, by omega⟩ dX0_putStep_46 (fun H locs hY => ?_)
          refine lv_aload_n hx hb dX0_putStep_47 rfl (lv_at hl 1 rfl) ?_
          refine gtL_stepRents hC hin0 hY (k := k) hk (by decide +kernel) dX0_putStep_48 ?_
          refine lv_iload_n hx hb dX0_putStep_51 rfl (lv_at hl 0 rfl) ?_
          refine lv_iload_n hx hb dX0_putStep_52 rfl (lv_at hl 3 rfl) ?_
          refine wrL14 hC hY (k := k) hk ⟨by omega, by omega⟩ dX0_putStep_53 (fun H locs hY => ?_)
          refine lv_aload_n hx hb dX0_putStep_54 rfl (lv_at hl 1 rfl) ?_
          refine lv_aload_n hx hb dX0_putStep_55 rfl (lv_at hl 1 rfl) ?_
          refine gtL_steps hC hin0 hY (k := k) hk (by decide +kernel) dX0_putStep_56 ?_
          refine lv_iload_n hx hb dX0_putStep_59 rfl (lv_at hl 0 rfl) ?_
          refine lv_iconst (v := 1) hx hb dX0_putStep_60 (by decide) ?_
          refine lv_iadd hx hb dX0_putStep_61 ?_
          refine va_mmax hx hb (hC.2.2.1.trans hl.1.symm) hC.2.2.2.1 (hC.2.2.2.2 _ (by decide +kernel)) (hC.2.2.2.2 _ (by decide +kernel)) (hC.2.2.2.2 _ (by decide +kernel)) (hC.2.2.2.2 _ (by decide +kernel)) (Nat.le_of_ble_eq_true rfl) (Nat.le_of_ble_eq_true rfl) (Nat.le_of_ble_eq_true rfl) (Nat.le_of_ble_eq_true rfl) dX0_putStep_62 ?_
          refine ptL_steps hC hin0 hY (k := k) hk (by decide +kernel) dX0_putStep_65 (fun H locs hY => ?_)
          refine lv_iconst (v := 1) hx hb dX0_putStep_68 (by decide) ?_
          have hix : ix x3 = i := i_ix h0
          have hpl : plF σ k p1 = i := by rw [← e, show stN σ k - i = 0 by (unfold stN; omega)]; rfl
          have hm : (if plF σ k p1 = stN σ k then σ 12 k + 1 else σ 12 k) = (if σ 12 k < x3 + 1 then x3 + 1 else σ 12 k) := by
            have h1 : (x3 + 1).toInt = x3.toInt + 1 := i_add (by have : (1 : Int32).toInt = 1 := rfl; omega)
            by_cases hz : i = stN σ k
            · rw [if_pos (by rw [hpl]; exact hz), if_pos (by rw [Int32.lt_iff_toInt_lt, h1, h0, hz]; unfold stN; omega), show x3 = σ 12 k from i_ext (by rw [h0, hz]; unfold stN; omega)]
            · rw [if_neg (by rw [hpl]; exact hz), if_neg (by rw [Int32.lt_iff_toInt_lt, h1, h0]; unfold stN at hz; omega)]
          rw [show psS σ k p1 p2 = (us (us (us σ 13 (6 * k + ix x3) p1) 14 (6 * k + ix x3) p2) 12 k (if ((us (us σ 13 (6 * k + ix x3) p1) 14 (6 * k + ix x3) p2) 12 k) < (x3 + 1) then (x3 + 1) else ((us (us σ 13 (6 * k + ix x3) p1) 14 (6 * k + ix x3) p2) 12 k))) from by unfold psS; rw [if_pos (by rw [hpl]; omega), hm, hpl, hix]; rfl]
          exact g_zret hC hr hlocks rfl hY ⟨Nat.le_of_ble_eq_true rfl, Nat.le_of_ble_eq_true rfl⟩ dX0_putStep_69 (Or.inl ⟨rfl, by rw [hpl]; omega⟩)
        · refine lv_iconst (v := 0) hx hb dX0_putStep_38 (by decide) ?_
          have hix : ix x3 = i := i_ix h0
          have hpl : plF σ k p1 = i := by rw [← e, show stN σ k - i = 0 by (unfold stN; omega)]; rfl
          rw [show psS σ k p1 p2 = σ from if_neg (by rw [hpl]; omega)]
          exact g_zret hC hr hlocks rfl hY ⟨Nat.le_of_ble_eq_true rfl, Nat.le_of_ble_eq_true rfl⟩ dX0_putStep_39 (Or.inr ⟨rfl, by rw [hpl]; omega⟩)
      · refine lv_aload_n hx hb dX0_putStep_16 rfl (lv_at hl 1 rfl) ?_
        refine gtL_stepDays hC hin0 hY (k := k) hk (by decide +kernel) dX0_putStep_17 ?_
        refine lv_iload_n hx hb dX0_putStep_20 rfl (lv_at hl 0 rfl) ?_
        refine rdL13 hC hY (k := k) hk ⟨by omega, by omega⟩ dX0_putStep_21 ?_
        refine lv_iload_n hx hb dX0_putStep_22 rfl (lv_at hl 2 rfl) ?_
        refine b_icmp_eq (tgt := 32) hx hb dX0_putStep_23 (by decide) (fun (h5 : (rowF σ 13 k (ix x3)).toInt = p1.toInt) => ?_) (fun (h5 : ¬ (rowF σ 13 k (ix x3)).toInt = p1.toInt) => ?_)
        · refine lv_iload_n hx hb dX0_putStep_32 rfl (lv_at hl 0 rfl) ?_
          refine lv_bipush (v := 6) hx hb dX0_putStep_33 (by decide) ?_
          refine b_icmp_lt (tgt := 40) hx hb dX0_putStep_35 (by decide) (fun (h6 : x3.toInt < 6) => ?_) (fun (h6 : 6 ≤ x3.toInt) => ?_)
          · refine lv_aload_n hx hb dX0_putStep_40 rfl (lv_at hl 1 rfl) ?_
            refine gtL_stepDays hC hin0 hY (k := k) hk (by decide +kernel) dX0_putStep_41 ?_
            refine lv_iload_n hx hb dX0_putStep_44 rfl (lv_at hl 0 rfl) ?_
            refine lv_iload_n hx hb dX0_putStep_45 rfl (lv_at hl 2 rfl) ?_
            refine wrL13 hC hY (k := k) hk ⟨by omega, by omega⟩ dX0_putStep_46 (fun H locs hY => ?_)
            refine lv_aload_n hx hb dX0_putStep_47 rfl (lv_at hl 1 rfl) ?_
            refine gtL_stepRents hC hin0 hY (k := k) hk (by decide +kernel) dX0_putStep_48 ?_
            refine lv_iload_n hx hb dX0_putStep_51 rfl (lv_at hl 0 rfl) ?_
            refine lv_iload_n hx hb dX0_putStep_52 rfl (lv_at hl 3 rfl) ?_
            refine wrL14 hC hY (k := k) hk ⟨by omega, by omega⟩ dX0_putStep_53 (fun H locs hY => ?_)
            refine lv_aload_n hx hb dX0_putStep_54 rfl (lv_at hl 1 rfl) ?_
            refine lv_aload_n hx hb dX0_putStep_55 rfl (lv_at hl 1 rfl) ?_
            refine gtL_steps hC hin0 hY (k := k) hk (by decide +kernel) dX0_putStep_56 ?_
            refine lv_iload_n hx hb dX0_putStep_59 rfl (lv_at hl 0 rfl) ?_
            refine lv_iconst (v := 1) hx hb dX0_putStep_60 (by decide) ?_
            refine lv_iadd hx hb dX0_putStep_61 ?_
            refine va_mmax hx hb (hC.2.2.1.trans hl.1.symm) hC.2.2.2.1 (hC.2.2.2.2 _ (by decide +kernel)) (hC.2.2.2.2 _ (by decide +kernel)) (hC.2.2.2.2 _ (by decide +kernel)) (hC.2.2.2.2 _ (by decide +kernel)) (Nat.le_of_ble_eq_true rfl) (Nat.le_of_ble_eq_true rfl) (Nat.le_of_ble_eq_true rfl) (Nat.le_of_ble_eq_true rfl) dX0_putStep_62 ?_
            refine ptL_steps hC hin0 hY (k := k) hk (by decide +kernel) dX0_putStep_65 (fun H locs hY => ?_)
            refine lv_iconst (v := 1) hx hb dX0_putStep_68 (by decide) ?_
            have hix : ix x3 = i := i_ix h0
            have hf : stN σ k - i = (stN σ k - (i + 1)) + 1 := by unfold stN; omega
            have hpl : plF σ k p1 = i := by rw [← e, hf, plG_s]; exact if_pos (by rw [← hix]; exact h5)
            have hm : (if plF σ k p1 = stN σ k then σ 12 k + 1 else σ 12 k) = (if σ 12 k < x3 + 1 then x3 + 1 else σ 12 k) := by
              have h1 : (x3 + 1).toInt = x3.toInt + 1 := i_add (by have : (1 : Int32).toInt = 1 := rfl; omega)
              by_cases hz : i = stN σ k
              · rw [if_pos (by rw [hpl]; exact hz), if_pos (by rw [Int32.lt_iff_toInt_lt, h1, h0, hz]; unfold stN; omega), show x3 = σ 12 k from i_ext (by rw [h0, hz]; unfold stN; omega)]
              · rw [if_neg (by rw [hpl]; exact hz), if_neg (by rw [Int32.lt_iff_toInt_lt, h1, h0]; unfold stN at hz; omega)]
            rw [show psS σ k p1 p2 = (us (us (us σ 13 (6 * k + ix x3) p1) 14 (6 * k + ix x3) p2) 12 k (if ((us (us σ 13 (6 * k + ix x3) p1) 14 (6 * k + ix x3) p2) 12 k) < (x3 + 1) then (x3 + 1) else ((us (us σ 13 (6 * k + ix x3) p1) 14 (6 * k + ix x3) p2) 12 k))) from by unfold psS; rw [if_pos (by rw [hpl]; omega), hm, hpl, hix]; rfl]
            exact g_zret hC hr hlocks rfl hY ⟨Nat.le_of_ble_eq_true rfl, Nat.le_of_ble_eq_true rfl⟩ dX0_putStep_69 (Or.inl ⟨rfl, by rw [hpl]; omega⟩)
          · refine lv_iconst (v := 0) hx hb dX0_putStep_38 (by decide) ?_
            have hix : ix x3 = i := i_ix h0
            have hf : stN σ k - i = (stN σ k - (i + 1)) + 1 := by unfold stN; omega
            have hpl : plF σ k p1 = i := by rw [← e, hf, plG_s]; exact if_pos (by rw [← hix]; exact h5)
            rw [show psS σ k p1 p2 = σ from if_neg (by rw [hpl]; omega)]
            exact g_zret hC hr hlocks rfl hY ⟨Nat.le_of_ble_eq_true rfl, Nat.le_of_ble_eq_true rfl⟩ dX0_putStep_39 (Or.inr ⟨rfl, by rw [hpl]; omega⟩)
        · refine lv_iinc (v := x3 + 1) (lv' := [(3, .int (x3 + 1)), (0, .ref (ad (3 * k + 9))), (1, .int p1), (2, .int p2)]) hx hb dX0_putStep_26 hl (k := 0) rfl rfl (by decide) rfl (fun ls hl => ?_)
          refine lv_goto (tgt := 2) hx hb dX0_putStep_29 (by decide) ?_
          have hix : ix x3 = i := i_ix h0
          have hne : ¬ (rowF σ 13 k i).toInt = p1.toInt := by rw [← hix]; exact h5
          have hf : stN σ k - i = (stN σ k - (i + 1)) + 1 := by unfold stN; omega
          exact ih (x3 + 1) _ _ _ ⟨⟨by rw [i_add (by have : (1 : Int32).toInt = 1 := rfl; omega)]; have : (1 : Int32).toInt = 1 := rfl; omega, by omega, by rw [← e, hf, plG_s, if_neg hne]⟩, hY, lv_sub hl [0, 1, 2, 3] rfl⟩
  · intro i x H locs ls hI
    obtain ⟨x3, rfl⟩ : ∃ z, z = x := ⟨_, rfl⟩
    obtain ⟨hI, -, -⟩ := hI
    obtain ⟨h0, h9, e⟩ := hI
    omega
end
section
/-! the roll's helpers -/
def exC (E : String) (c : Int32) : Prop := (E = xI ∧ c = 1) ∨ (E = xA ∧ c = 2) ∨ (E = xS ∧ c = 3)
set_option maxHeartbeats 4000000 in
set_option maxRecDepth 100000 in
theorem c_X1_checkNumber (l : Launch) (G : GG) (ad : Nat → Nat) (σ : St) (n : Nat) (τ : St) (hst : l.stackTraces = false) (p0 p1 : Int32) (N : Int) (hN : p1.toInt = N)  : vx_Met l yX1_checkNumber wsX1_checkNumber ({ frames := 6, cells := 1, slots := 6, locals := 90 }) (PcS G ad σ n τ [.int p0, .int p1]) (Qv G (3 * n + 9) ad (ctS G ad σ n τ) (0 ≤ p0.toInt ∧ p0.toInt < N)) (XG G (3 * n + 9) ad (ctS G ad σ n τ) (fun E => E = xI ∧ ¬ (0 ≤ p0.toInt ∧ p0.toInt < N))) 1 6 (gF G) := by
  refine vx_ofW (cc := cX1_checkNumber) (maxL := 2) (ret := none) (by decide) rfl ?_
  intro p e s m args below meth c s₁ B hml hxt hv
  obtain ⟨rfl, hY⟩ := hv
  have hts := atoms_spec (ws := wsX1_checkNumber) B.pre
  have hC : CallFix p m c cX1_checkNumber 2 s _ wsX1_checkNumber RX1 := ⟨B.exec, B.bytes, hml, findClass_of_methodNamed B.named, hts⟩
  have hx := hC.1
  have hb := hC.2.1
  have hr := B.returns
  have hlocks := B.notSynchronized
  have hl := lv_entry ([.int p0, .int p1]) (n := 2) (Nat.le_of_ble_eq_true rfl)
  rw [lg_entry_eq]
  generalize (lg_sl ([.int p0, .int p1]) ++ List.replicate (2 - (lg_sl ([.int p0, .int p1])).length) Slot.unset).toArray = ls at hl ⊢
  have hl : lv_has ls 2 [(0, .int p0), (1, .int p1)] := hl
  refine lv_iload_n hx hb dX1_checkNumber_0 rfl (lv_at hl 0 rfl) ?_
  refine b_if_lt (tgt := 9) hx hb dX1_checkNumber_1 (by decide) (fun (h1 : p0.toInt < 0) => ?_) (fun (h1 : 0 ≤ p0.toInt) => ?_)
  · exact g_throw hC hst hY hxt hlocks (E := xI) (text := "no such number") (by decide +kernel) (by decide +kernel) (by decide +kernel) (by decide) (fun w h => List.mem_cons_of_mem _ (List.mem_append_right _ h)) at_S2 at_G2 hY.2.2.2.2.2.1.1 hl.1 dX1_checkNumber_9 dX1_checkNumber_12 dX1_checkNumber_13 dX1_checkNumber_15 dX1_checkNumber_18 ⟨Nat.le_of_ble_eq_true rfl, Nat.le_of_ble_eq_true rfl, Nat.le_of_ble_eq_true rfl, Nat.le_of_ble_eq_true rfl⟩ ⟨Nat.le_of_ble_eq_true rfl, Nat.le_of_ble_eq_true rfl⟩ ⟨rfl, by intro q; have := q.1; have := q.2; omega⟩
  · refine lv_iload_n hx hb dX1_checkNumber_4 rfl (lv_at hl 0 rfl) ?_
    refine lv_iload_n hx hb dX1_checkNumber_5 rfl (lv_at hl 1 rfl) ?_
    refine b_icmp_lt (tgt := 19) hx hb dX1_checkNumber_6 (by decide) (fun (h2 : p0.toInt < p1.toInt) => ?_) (fun (h2 : p1.toInt ≤ p0.toInt) => ?_)
    · exact vx_ret (g_vret hC hr hlocks hY ⟨Nat.le_of_ble_eq_true rfl, Nat.le_of_ble_eq_true rfl⟩ dX1_checkNumber_19 (⟨by omega, by omega⟩))
    · exact g_throw hC hst hY hxt hlocks (E := xI) (text := "no such number") (by decide +kernel) (by decide +kernel) (by decide +kernel) (by decide) (fun w h => List.mem_cons_of_mem _ (List.mem_append_right _ h)) at_S2 at_G2 hY.2.2.2.2.2.1.1 hl.1 dX1_checkNumber_9 dX1_checkNumber_12 dX1_checkNumber_13 dX1_checkNumber_15 dX1_checkNumber_18 ⟨Nat.le_of_ble_eq_true rfl, Nat.le_of_ble_eq_true rfl, Nat.le_of_ble_eq_true rfl, Nat.le_of_ble_eq_true rfl⟩ ⟨Nat.le_of_ble_eq_true rfl, Nat.le_of_ble_eq_true rfl⟩ ⟨rfl, by intro q; have := q.1; have := q.2; omega⟩

set_option maxHeartbeats 4000000 in
set_option maxRecDepth 100000 in
theorem c_X1_checkRange (l : Launch) (G : GG) (ad : Nat → Nat) (σ : St) (n : Nat) (τ : St) (hst : l.stackTraces = false) (p0 p1 p2 : Int32) (a b : Int) (ha : p1.toInt = a) (hb9 : p2.toInt = b)  : vx_Met l yX1_checkRange wsX1_checkRange ({ frames := 6, cells := 1, slots := 6, locals := 90 }) (PcS G ad σ n τ [.int p0, .int p1, .int p2]) (Qv G (3 * n + 9) ad (ctS G ad σ n τ) (a ≤ p0.toInt ∧ p0.toInt ≤ b)) (XG G (3 * n + 9) ad (ctS G ad σ n τ) (fun E => E = xA ∧ ¬ (a ≤ p0.toInt ∧ p0.toInt ≤ b))) 1 6 (gF G) := by
  refine vx_ofW (cc := cX1_checkRange) (maxL := 3) (ret := none) (by decide) rfl ?_
  intro p e s m args below meth c s₁ B hml hxt hv
  obtain ⟨rfl, hY⟩ := hv
  have hts := atoms_spec (ws := wsX1_checkRange) B.pre
  have hC : CallFix p m c cX1_checkRange 3 s _ wsX1_checkRange RX1 := ⟨B.exec, B.bytes, hml, findClass_of_methodNamed B.named, hts⟩
  have hx := hC.1
  have hb := hC.2.1
  have hr := B.returns
  have hlocks := B.notSynchronized
  have hl := lv_entry ([.int p0, .int p1, .int p2]) (n := 3) (Nat.le_of_ble_eq_true rfl)
  rw [lg_entry_eq]
  generalize (lg_sl ([.int p0, .int p1, .int p2]) ++ List.replicate (3 - (lg_sl ([.int p0, .int p1, .int p2])).length) Slot.unset).toArray = ls at hl ⊢
  have hl : lv_has ls 3 [(0, .int p0), (1, .int p1), (2, .int p2)] := hl
  refine lv_iload_n hx hb dX1_checkRange_0 rfl (lv_at hl 0 rfl) ?_
  refine lv_iload_n hx hb dX1_checkRange_1 rfl (lv_at hl 1 rfl) ?_
  refine b_icmp_lt (tgt := 10) hx hb dX1_checkRange_2 (by decide) (fun (h1 : p0.toInt < p1.toInt) => ?_) (fun (h1 : p1.toInt ≤ p0.toInt) => ?_)
  · exact g_throw hC hst hY hxt hlocks (E := xA) (text := "out of range") (by decide +kernel) (by decide +kernel) (by decide +kernel) (by decide) (fun w h => List.mem_cons_of_mem _ (List.mem_append_right _ h)) at_S3 at_G3 hY.2.2.2.2.2.1.2.1 hl.1 dX1_checkRange_10 dX1_checkRange_13 dX1_checkRange_14 dX1_checkRange_16 dX1_checkRange_19 ⟨Nat.le_of_ble_eq_true rfl, Nat.le_of_ble_eq_true rfl, Nat.le_of_ble_eq_true rfl, Nat.le_of_ble_eq_true rfl⟩ ⟨Nat.le_of_ble_eq_true rfl, Nat.le_of_ble_eq_true rfl⟩ ⟨rfl, by intro q; have := q.1; have := q.2; omega⟩
  · refine lv_iload_n hx hb dX1_checkRange_5 rfl (lv_at hl 0 rfl) ?_
    refine lv_iload_n hx hb dX1_checkRange_6 rfl (lv_at hl 2 rfl) ?_
    refine b_icmp_le (tgt := 20) hx hb dX1_checkRange_7 (by decide) (fun (h2 : p0.toInt ≤ p2.toInt) => ?_) (fun (h2 : p2.toInt < p0.toInt) => ?_)
    · exact vx_ret (g_vret hC hr hlocks hY ⟨Nat.le_of_ble_eq_true rfl, Nat.le_of_ble_eq_true rfl⟩ dX1_checkRange_20 (⟨by omega, by omega⟩))
    · exact g_throw hC hst hY hxt hlocks (E := xA) (text := "out of range") (by decide +kernel) (by decide +kernel) (by decide +kernel) (by decide) (fun w h => List.mem_cons_of_mem _ (List.mem_append_right _ h)) at_S3 at_G3 hY.2.2.2.2.2.1.2.1 hl.1 dX1_checkRange_10 dX1_checkRange_13 dX1_checkRange_14 dX1_checkRange_16 dX1_checkRange_19 ⟨Nat.le_of_ble_eq_true rfl, Nat.le_of_ble_eq_true rfl, Nat.le_of_ble_eq_true rfl, Nat.le_of_ble_eq_true rfl⟩ ⟨Nat.le_of_ble_eq_true rfl, Nat.le_of_ble_eq_true rfl⟩ ⟨rfl, by intro q; have := q.1; have := q.2; omega⟩

set_option maxHeartbeats 4000000 in
set_option maxRecDepth 100000 in
theorem c_X1_find (l : Launch) (G : GG) (ad : Nat → Nat) (σ : St) (n : Nat) (τ : St) (hst : l.stackTraces = false) (hn : n ≤ 24) (p0 : Int32)  : vx_Met l yX1_find wsX1_find ({ frames := 7, cells := 2, slots := 12, locals := 120 }) (PcS G ad σ n τ [.ref (ad 0), .int p0]) (Qq G (3 * n + 9) ad (ctS G ad σ n τ) (fun r => r = some (ad (3 * ix p0 + 9)) ∧ (0 ≤ p0.toInt ∧ p0.toInt < (n : Int)))) (XG G (3 * n + 9) ad (ctS G ad σ n τ) (fun E => E = xI ∧ ¬ (0 ≤ p0.toInt ∧ p0.toInt < (n : Int)))) 2 12 (gF G) := by
  refine vx_ofW (cc := cX1_find) (maxL := 3) (ret := (some (.object "Voidrent$Lease"))) (by decide) rfl ?_
  intro p e s m args below meth c s₁ B hml hxt hv
  obtain ⟨rfl, hY⟩ := hv
  have hts := atoms_spec (ws := wsX1_find) B.pre
  have hC : CallFix p m c cX1_find 3 s _ wsX1_find RX1 := ⟨B.exec, B.bytes, hml, findClass_of_methodNamed B.named, hts⟩
  have hx := hC.1
  have hb := hC.2.1
  have hr := B.returns
  have hlocks := B.notSynchronized
  have hin1 : ∀ w ∈ wsX10, w ∈ wsX1_find := by decide +kernel
  have hl := lv_entry ([.ref (ad 0), .int p0]) (n := 3) (Nat.le_of_ble_eq_true rfl)
  rw [lg_entry_eq]
  generalize (lg_sl ([.ref (ad 0), .int p0]) ++ List.replicate (3 - (lg_sl ([.ref (ad 0), .int p0])).length) Slot.unset).toArray = ls at hl ⊢
  have hl : lv_has ls 3 [(0, .ref (ad 0)), (1, .int p0)] := hl
  refine lv_iload_n hx hb dX1_find_0 rfl (lv_at hl 1 rfl) ?_
  refine lv_aload_n hx hb dX1_find_1 rfl (lv_at hl 0 rfl) ?_
  refine gtV_roll hC hin1 hY (by decide +kernel) dX1_find_2 ?_
  refine g_alen hC hY 4 (by omega) 1 rfl rfl (v := 24) rfl dX1_find_5 ?_
  refine gx_callv hY (gx_runS (n := 2) hC (c_X1_checkNumber l G ad σ n τ hst p0 24 24 rfl) gX1_find_X1_checkNumber rfl ⟨rfl, rfl⟩ (by decide +kernel) ⟨Nat.le_of_ble_eq_true rfl, Nat.le_of_ble_eq_true rfl⟩ hY rfl hl.1 rfl (Nat.le_of_ble_eq_true rfl) dX1_find_6 ⟨Nat.le_of_ble_eq_true rfl, Nat.le_of_ble_eq_true rfl⟩) hxt hlocks ⟨Nat.le_of_ble_eq_true rfl, Nat.le_of_ble_eq_true rfl⟩ (fun E h => ⟨h.1, by intro q; have := q.1; have := q.2; exact h.2 ⟨by omega, by omega⟩⟩) (fun H locs h2 hY => ?_)
  refine lv_aload_n hx hb dX1_find_9 rfl (lv_at hl 0 rfl) ?_
  refine gtV_roll hC hin1 hY (by decide +kernel) dX1_find_10 ?_
  refine lv_iload_n hx hb dX1_find_13 rfl (lv_at hl 1 rfl) ?_
  refine rdRoll hC hY h2 dX1_find_14 ?_
  by_cases h3 : ix p0 < n
  · rw [show roF ad n (ix p0) = some (ad (3 * ix p0 + 9)) from if_pos h3]
    refine lv_astore_n (lv' := [(2, .ref (ad (3 * ix p0 + 9))), (0, .ref (ad 0)), (1, .int p0)]) hx hb dX1_find_15 rfl hl (by decide) rfl (fun ls hl => ?_)
    refine lv_aload_n hx hb dX1_find_16 rfl (lv_at hl 0 rfl) ?_
    refine lv_ifnonnull (tgt := 30) hx hb dX1_find_17 (by decide) ?_
    refine lv_aload_n hx hb dX1_find_30 rfl (lv_at hl 0 rfl) ?_
    have hfin : 0 ≤ p0.toInt ∧ p0.toInt < (n : Int) := ⟨h2.1, by have := ix_toInt h2.1; omega⟩
    exact vx_ret (g_aret (v := some (ad (3 * ix p0 + 9))) hC hr ⟨_, rfl⟩ hlocks hY ⟨Nat.le_of_ble_eq_true rfl, Nat.le_of_ble_eq_true rfl⟩ dX1_find_31 (⟨rfl, hfin⟩))
  · rw [show roF ad n (ix p0) = none from if_neg h3]
    refine W.eq (g2 := F0 m 15 ls [.null]) rfl ?_
    refine lv_astore_nN (lv' := [(2, .null), (0, .ref (ad 0)), (1, .int p0)]) hx hb dX1_find_15 rfl hl (by decide) rfl (fun ls hl => ?_)
    refine lv_aload_nN hx hb dX1_find_16 rfl (lv_at hl 0 rfl) ?_
    refine lv_ifnonnullN hx hb dX1_find_17 ?_
    exact g_throw hC hst hY hxt hlocks (E := xI) (text := "no such lease") (by decide +kernel) (by decide +kernel) (by decide +kernel) (by decide) (fun w h => List.mem_cons_of_mem _ (List.mem_append_right _ h)) at_S2 at_G2 hY.2.2.2.2.2.1.1 hl.1 dX1_find_20 dX1_find_23 dX1_find_24 dX1_find_26 dX1_find_29 ⟨Nat.le_of_ble_eq_true rfl, Nat.le_of_ble_eq_true rfl, Nat.le_of_ble_eq_true rfl, Nat.le_of_ble_eq_true rfl⟩ ⟨Nat.le_of_ble_eq_true rfl, Nat.le_of_ble_eq_true rfl⟩ ⟨rfl, by intro q; have q1 := ix_lt q; omega⟩

def vaF (f : Nat → Int32) (N : Int) (x : Int32) : Int32 := if 0 ≤ x.toInt ∧ x.toInt < N then f (ix x) else 0
set_option maxHeartbeats 4000000 in
set_option maxRecDepth 100000 in
theorem c_X1_valueAtI (l : Launch) (G : GG) (ad : Nat → Nat) (σ : St) (n : Nat) (τ : St) (p0 : Int32)  : Met l yX1_valueAt wsX1_valueAt ({ frames := 0, cells := 0, slots := 0, locals := 0 }) (PcS G ad σ n τ [.ref (ad 2), .int p0]) (Qi G (3 * n + 9) ad (ctS G ad σ n τ) (fun r => r = vaF (σ 1) 240 p0)) 0 0 (gF G) := by
  refine Met.ofW (cc := cX1_valueAt) (maxL := 2) (ret := (some .int)) (by decide) rfl ?_
  intro p e s m args below meth c s₁ B hml hv
  obtain ⟨rfl, hY⟩ := hv
  have hts := atoms_spec (ws := wsX1_valueAt) B.pre
  have hC : CallFix p m c cX1_valueAt 2 s _ wsX1_valueAt RX1 := ⟨B.exec, B.bytes, hml, findClass_of_methodNamed B.named, hts⟩
  have hx := hC.1
  have hb := hC.2.1
  have hr := B.returns
  have hlocks := B.notSynchronized
  have hl := lv_entry ([.ref (ad 2), .int p0]) (n := 2) (Nat.le_of_ble_eq_true rfl)
  rw [lg_entry_eq]
  generalize (lg_sl ([.ref (ad 2), .int p0]) ++ List.replicate (2 - (lg_sl ([.ref (ad 2), .int p0])).length) Slot.unset).toArray = ls at hl ⊢
  have hl : lv_has ls 2 [(0, .ref (ad 2)), (1, .int p0)] := hl
  refine lv_iload_n hx hb dX1_valueAt_0 rfl (lv_at hl 1 rfl) ?_
  refine b_if_lt (tgt := 16) hx hb dX1_valueAt_1 (by decide) (fun (h1 : p0.toInt < 0) => ?_) (fun (h1 : 0 ≤ p0.toInt) => ?_)
  · refine lv_iconst (v := 0) hx hb dX1_valueAt_16 (by decide) ?_
    exact g_iret hC hr hlocks hY ⟨Nat.le_of_ble_eq_true rfl, Nat.le_of_ble_eq_true rfl⟩ dX1_valueAt_17 ((if_neg (by intro q; have := q.1; have := q.2; omega)).symm)
  · refine lv_iload_n hx hb dX1_valueAt_4 rfl (lv_at hl 1 rfl) ?_
    refine lv_aload_n hx hb dX1_valueAt_5 rfl (lv_at hl 0 rfl) ?_
    refine g_alen hC hY 2 (by omega) 0 rfl rfl (v := 240) rfl dX1_valueAt_6 ?_
    refine b_icmp_ge (tgt := 16) hx hb dX1_valueAt_7 (by decide) (fun (h2 : 240 ≤ p0.toInt) => ?_) (fun (h2 : p0.toInt < 240) => ?_)
    · refine lv_iconst (v := 0) hx hb dX1_valueAt_16 (by decide) ?_
      exact g_iret hC hr hlocks hY ⟨Nat.le_of_ble_eq_true rfl, Nat.le_of_ble_eq_true rfl⟩ dX1_valueAt_17 ((if_neg (by intro q; have := q.1; have := q.2; omega)).symm)
    · refine lv_aload_n hx hb dX1_valueAt_10 rfl (lv_at hl 0 rfl) ?_
      refine lv_iload_n hx hb dX1_valueAt_11 rfl (lv_at hl 1 rfl) ?_
      refine rdA1 hC hY ⟨by omega, by omega⟩ dX1_valueAt_12 ?_
      refine lv_goto (tgt := 17) hx hb dX1_valueAt_13 (by decide) ?_
      exact g_iret hC hr hlocks hY ⟨Nat.le_of_ble_eq_true rfl, Nat.le_of_ble_eq_true rfl⟩ dX1_valueAt_17 ((if_pos ⟨by omega, by omega⟩).symm)

set_option maxHeartbeats 4000000 in
set_option maxRecDepth 100000 in
theorem c_X1_valueAtA (l : Launch) (G : GG) (ad : Nat → Nat) (σ : St) (n : Nat) (τ : St) (p0 : Int32)  : Met l yX1_valueAt wsX1_valueAt ({ frames := 0, cells := 0, slots := 0, locals := 0 }) (PcS G ad σ n τ [.ref (ad 1), .int p0]) (Qi G (3 * n + 9) ad (ctS G ad σ n τ) (fun r => r = vaF (σ 0) 6 p0)) 0 0 (gF G) := by
  refine Met.ofW (cc := cX1_valueAt) (maxL := 2) (ret := (some .int)) (by decide) rfl ?_
  intro p e s m args below meth c s₁ B hml hv
  obtain ⟨rfl, hY⟩ := hv
  have hts := atoms_spec (ws := wsX1_valueAt) B.pre
  have hC : CallFix p m c cX1_valueAt 2 s _ wsX1_valueAt RX1 := ⟨B.exec, B.bytes, hml, findClass_of_methodNamed B.named, hts⟩
  have hx := hC.1
  have hb := hC.2.1
  have hr := B.returns
  have hlocks := B.notSynchronized
  have hl := lv_entry ([.ref (ad 1), .int p0]) (n := 2) (Nat.le_of_ble_eq_true rfl)
  rw [lg_entry_eq]
  generalize (lg_sl ([.ref (ad 1), .int p0]) ++ List.replicate (2 - (lg_sl ([.ref (ad 1), .int p0])).length) Slot.unset).toArray = ls at hl ⊢
  have hl : lv_has ls 2 [(0, .ref (ad 1)), (1, .int p0)] := hl
  refine lv_iload_n hx hb dX1_valueAt_0 rfl (lv_at hl 1 rfl) ?_
  refine b_if_lt (tgt := 16) hx hb dX1_valueAt_1 (by decide) (fun (h1 : p0.toInt < 0) => ?_) (fun (h1 : 0 ≤ p0.toInt) => ?_)
  · refine lv_iconst (v := 0) hx hb dX1_valueAt_16 (by decide) ?_
    exact g_iret hC hr hlocks hY ⟨Nat.le_of_ble_eq_true rfl, Nat.le_of_ble_eq_true rfl⟩ dX1_valueAt_17 ((if_neg (by intro q; have := q.1; have := q.2; omega)).symm)
  · refine lv_iload_n hx hb dX1_valueAt_4 rfl (lv_at hl 1 rfl) ?_
    refine lv_aload_n hx hb dX1_valueAt_5 rfl (lv_at hl 0 rfl) ?_
    refine g_alen hC hY 1 (by omega) 0 rfl rfl (v := 6) rfl dX1_valueAt_6 ?_
    refine b_icmp_ge (tgt := 16) hx hb dX1_valueAt_7 (by decide) (fun (h2 : 6 ≤ p0.toInt) => ?_) (fun (h2 : p0.toInt < 6) => ?_)
    · refine lv_iconst (v := 0) hx hb dX1_valueAt_16 (by decide) ?_
      exact g_iret hC hr hlocks hY ⟨Nat.le_of_ble_eq_true rfl, Nat.le_of_ble_eq_true rfl⟩ dX1_valueAt_17 ((if_neg (by intro q; have := q.1; have := q.2; omega)).symm)
    · refine lv_aload_n hx hb dX1_valueAt_10 rfl (lv_at hl 0 rfl) ?_
      refine lv_iload_n hx hb dX1_valueAt_11 rfl (lv_at hl 1 rfl) ?_
      refine rdA0 hC hY ⟨by omega, by omega⟩ dX1_valueAt_12 ?_
      refine lv_goto (tgt := 17) hx hb dX1_valueAt_13 (by decide) ?_
      exact g_iret hC hr hlocks hY ⟨Nat.le_of_ble_eq_true rfl, Nat.le_of_ble_eq_true rfl⟩ dX1_valueAt_17 ((if_pos ⟨by omega, by omega⟩).symm)

def aaP (σ : St) : Nat → Int32
  | 0 => 0
  | i + 1 => aaP σ i + σ 0 i
set_option maxHeartbeats 4000000 in
set_option maxRecDepth 100000 in
theorem c_X1_allAreas (l : Launch) (G : GG) (ad : Nat → Nat) (σ : St) (n : Nat) (τ : St)  : Met l yX1_allAreas wsX1_allAreas ({ frames := 0, cells := 0, slots := 0, locals := 0 }) (PcS G ad σ n τ [.ref (ad 0)]) (Qi G (3 * n + 9) ad (ctS G ad σ n τ) (fun r => r = aaP σ 6)) 0 0 (gF G) := by
  refine Met.ofW (cc := cX1_allAreas) (maxL := 6) (ret := (some .int)) (by decide) rfl ?_
  intro p e s m args below meth c s₁ B hml hv
  obtain ⟨rfl, hY⟩ := hv
  have hts := atoms_spec (ws := wsX1_allAreas) B.pre
  have hC : CallFix p m c cX1_allAreas 6 s _ wsX1_allAreas RX1 := ⟨B.exec, B.bytes, hml, findClass_of_methodNamed B.named, hts⟩
  have hx := hC.1
  have hb := hC.2.1
  have hr := B.returns
  have hlocks := B.notSynchronized
  have hin1 : ∀ w ∈ wsX10, w ∈ wsX1_allAreas := by decide +kernel
  have hl := lv_entry ([.ref (ad 0)]) (n := 6) (Nat.le_of_ble_eq_true rfl)
  rw [lg_entry_eq]
  generalize (lg_sl ([.ref (ad 0)]) ++ List.replicate (6 - (lg_sl ([.ref (ad 0)])).length) Slot.unset).toArray = ls at hl ⊢
  have hl : lv_has ls 6 [(0, .ref (ad 0))] := hl
  refine lv_iconst (v := 0) hx hb dX1_allAreas_0 (by decide) ?_
  refine lv_istore_n (lv' := [(1, .int 0), (0, .ref (ad 0))]) hx hb dX1_allAreas_1 rfl hl (by decide) rfl (fun ls hl => ?_)
  refine lv_aload_n hx hb dX1_allAreas_2 rfl (lv_at hl 1 rfl) ?_
  refine gtV_areas hC hin1 hY (by decide +kernel) dX1_allAreas_3 ?_
  refine lv_astore_n (lv' := [(2, .ref (ad 1)), (1, .int 0), (0, .ref (ad 0))]) hx hb dX1_allAreas_6 rfl hl (by decide) rfl (fun ls hl => ?_)
  refine lv_aload_n hx hb dX1_allAreas_7 rfl (lv_at hl 0 rfl) ?_
  refine g_alen hC hY 1 (by omega) 0 rfl rfl (v := 6) rfl dX1_allAreas_8 ?_
  refine lv_istore_n (lv' := [(3, .int 6), (2, .ref (ad 1)), (1, .int 0), (0, .ref (ad 0))]) hx hb dX1_allAreas_9 rfl hl (by decide) rfl (fun ls hl => ?_)
  refine lv_iconst (v := 0) hx hb dX1_allAreas_10 (by decide) ?_
  refine lv_istore (lv' := [(4, .int 0), (3, .int 6), (2, .ref (ad 1)), (1, .int 0), (0, .ref (ad 0))]) hx hb dX1_allAreas_11 hl (by decide) rfl (fun ls hl => ?_)
  refine w_loop (X := Int32 × Int32) (fun i x H locs ls => match x with | (x4, x1) => (x4.toInt = i ∧ (i : Int) ≤ 6 ∧ x1 = aaP σ i) ∧ SyS G ad σ n τ s H locs ∧ lv_has ls 6 [(4, .int x4), (1, .int x1), (3, .int 6), (2, .ref (ad 1)), (0, .ref (ad 0))]) (6) ?_ ?_ ((0, 0)) ⟨⟨rfl, by decide, rfl⟩, hY, lv_sub hl [0, 3, 1, 2, 4] rfl⟩
  · intro i x H locs ls hI ih
    obtain ⟨x4, x1⟩ := x
    obtain ⟨hI, hY, hl⟩ := hI
    obtain ⟨h0, h9, e⟩ := hI
    refine lv_iload hx hb dX1_allAreas_13 (lv_at hl 0 rfl) ?_
    refine lv_iload_n hx hb dX1_allAreas_15 rfl (lv_at hl 2 rfl) ?_
    refine b_icmp_ge (tgt := 36) hx hb dX1_allAreas_16 (by decide) (fun (h1 : 6 ≤ x4.toInt) => ?_) (fun (h1 : x4.toInt < 6) => ?_)
    · refine lv_iload_n hx hb dX1_allAreas_36 rfl (lv_at hl 1 rfl) ?_
      exact g_iret hC hr hlocks hY ⟨Nat.le_of_ble_eq_true rfl, Nat.le_of_ble_eq_true rfl⟩ dX1_allAreas_37 (by rw [e, show i = 6 by omega])
    · refine lv_aload_n hx hb dX1_allAreas_19 rfl (lv_at hl 3 rfl) ?_
      refine lv_iload hx hb dX1_allAreas_20 (lv_at hl 0 rfl) ?_
      refine rdA0 hC hY ⟨by omega, by omega⟩ dX1_allAreas_22 ?_
      refine lv_istore (lv' := [(5, .int (σ 0 (ix x4))), (4, .int x4), (1, .int x1), (3, .int 6), (2, .ref (ad 1)), (0, .ref (ad 0))]) hx hb dX1_allAreas_23 hl (by decide) rfl (fun ls hl => ?_)
      refine lv_iload_n hx hb dX1_allAreas_25 rfl (lv_at hl 2 rfl) ?_
      refine lv_iload hx hb dX1_allAreas_26 (lv_at hl 0 rfl) ?_
      refine lv_iadd hx hb dX1_allAreas_28 ?_
      refine lv_istore_n (lv' := [(1, .int (x1 + (σ 0 (ix x4)))), (5, .int (σ 0 (ix x4))), (4, .int x4), (3, .int 6), (2, .ref (ad 1)), (0, .ref (ad 0))]) hx hb dX1_allAreas_29 rfl hl (by decide) rfl (fun ls hl => ?_)
      refine lv_iinc (v := x4 + 1) (lv' := [(4, .int (x4 + 1)), (1, .int (x1 + (σ 0 (ix x4)))), (5, .int (σ 0 (ix x4))), (3, .int 6), (2, .ref (ad 1)), (0, .ref (ad 0))]) hx hb dX1_allAreas_30 hl (k := 2) rfl rfl (by decide) rfl (fun ls hl => ?_)
      refine lv_goto (tgt := 13) hx hb dX1_allAreas_33 (by decide) ?_
      have hix : ix x4 = i := i_ix h0
      exact ih (x4 + 1, x1 + (σ 0 (ix x4))) _ _ _ ⟨⟨by rw [i_add (by have : (1 : Int32).toInt = 1 := rfl; omega)]; have : (1 : Int32).toInt = 1 := rfl; omega, by omega, by rw [aaP, ← e, ← hix]⟩, hY, lv_sub hl [0, 1, 3, 4, 5] rfl⟩
  · intro i x H locs ls hI
    obtain ⟨x4, x1⟩ := x
    obtain ⟨hI, -, -⟩ := hI
    obtain ⟨h0, h9, e⟩ := hI
    omega

def dlP (σ : St) (n : Nat) (u a b : Int32) : Nat → Int32
  | 0 => 0
  | i + 1 => if i < n ∧ (σ 3 i).toInt = u.toInt then dlP σ n u a b i + dwF σ i a b else dlP σ n u a b i
set_option maxHeartbeats 4000000 in
set_option maxRecDepth 100000 in
theorem c_X1_daysLet (l : Launch) (G : GG) (ad : Nat → Nat) (σ : St) (n : Nat) (τ : St) (p0 p1 p2 : Int32)  : Met l yX1_daysLet wsX1_daysLet ({ frames := 2, cells := 0, slots := 0, locals := 40 }) (PcS G ad σ n τ [.ref (ad 0), .int p0, .int p1, .int p2]) (Qi G (3 * n + 9) ad (ctS G ad σ n τ) (fun r => r = dlP σ n p0 p1 p2 24)) 0 0 (gF G) := by
  refine Met.ofW (cc := cX1_daysLet) (maxL := 9) (ret := (some .int)) (by decide) rfl ?_
  intro p e s m args below meth c s₁ B hml hv
  obtain ⟨rfl, hY⟩ := hv
  have hts := atoms_spec (ws := wsX1_daysLet) B.pre
  have hC : CallFix p m c cX1_daysLet 9 s _ wsX1_daysLet RX1 := ⟨B.exec, B.bytes, hml, findClass_of_methodNamed B.named, hts⟩
  have hx := hC.1
  have hb := hC.2.1
  have hr := B.returns
  have hlocks := B.notSynchronized
  have hin0 : ∀ w ∈ wsX00, w ∈ wsX1_daysLet := by decide +kernel
  have hin1 : ∀ w ∈ wsX10, w ∈ wsX1_daysLet := by decide +kernel
  have hl := lv_entry ([.ref (ad 0), .int p0, .int p1, .int p2]) (n := 9) (Nat.le_of_ble_eq_true rfl)
  rw [lg_entry_eq]
  generalize (lg_sl ([.ref (ad 0), .int p0, .int p1, .int p2]) ++ List.replicate (9 - (lg_sl ([.ref (ad 0), .int p0, .int p1, .int p2])).length) Slot.unset).toArray = ls at hl ⊢
  have hl : lv_has ls 9 [(0, .ref (ad 0)), (1, .int p0), (2, .int p1), (3, .int p2)] := hl
  refine lv_iconst (v := 0) hx hb dX1_daysLet_0 (by decide) ?_
  refine lv_istore (lv' := [(4, .int 0), (0, .ref (ad 0)), (1, .int p0), (2, .int p1), (3, .int p2)]) hx hb dX1_daysLet_1 hl (by decide) rfl (fun ls hl => ?_)
  refine lv_aload_n hx hb dX1_daysLet_3 rfl (lv_at hl 1 rfl) ?_
  refine gtV_roll hC hin1 hY (by decide +kernel) dX1_daysLet_4 ?_
  refine lv_astore (lv' := [(5, .ref (ad 4)), (4, .int 0), (0, .ref (ad 0)), (1, .int p0), (2, .int p1), (3, .int p2)]) hx hb dX1_daysLet_7 hl (by decide) rfl (fun ls hl => ?_)
  refine lv_aload hx hb dX1_daysLet_9 (lv_at hl 0 rfl) ?_
  refine g_alen hC hY 4 (by omega) 1 rfl rfl (v := 24) rfl dX1_daysLet_11 ?_
  refine lv_istore (lv' := [(6, .int 24), (5, .ref (ad 4)), (4, .int 0), (0, .ref (ad 0)), (1, .int p0), (2, .int p1), (3, .int p2)]) hx hb dX1_daysLet_12 hl (by decide) rfl (fun ls hl => ?_)
  refine lv_iconst (v := 0) hx hb dX1_daysLet_14 (by decide) ?_
  refine lv_istore (lv' := [(7, .int 0), (6, .int 24), (5, .ref (ad 4)), (4, .int 0), (0, .ref (ad 0)), (1, .int p0), (2, .int p1), (3, .int p2)]) hx hb dX1_daysLet_15 hl (by decide) rfl (fun ls hl => ?_)
  refine w_loop (X := Int32 × Int32) (fun i x H locs ls => match x with | (x7, x4) => (x7.toInt = i ∧ (i : Int) ≤ 24 ∧ x4 = dlP σ n p0 p1 p2 i) ∧ SyS G ad σ n τ s H locs ∧ lv_has ls 9 [(7, .int x7), (4, .int x4), (6, .int 24), (5, .ref (ad 4)), (0, .ref (ad 0)), (1, .int p0), (2, .int p1), (3, .int p2)]) (24) ?_ ?_ ((0, 0)) ⟨⟨rfl, by decide, rfl⟩, hY, lv_sub hl [0, 3, 1, 2, 4, 5, 6, 7] rfl⟩
  · intro i x H locs ls hI ih
    obtain ⟨x7, x4⟩ := x
    obtain ⟨hI, hY, hl⟩ := hI
    obtain ⟨h0, h9, e⟩ := hI
    refine lv_iload hx hb dX1_daysLet_17 (lv_at hl 0 rfl) ?_
    refine lv_iload hx hb dX1_daysLet_19 (lv_at hl 2 rfl) ?_
    refine b_icmp_ge (tgt := 63) hx hb dX1_daysLet_21 (by decide) (fun (h1 : 24 ≤ x7.toInt) => ?_) (fun (h1 : x7.toInt < 24) => ?_)
    · refine lv_iload hx hb dX1_daysLet_63 (lv_at hl 1 rfl) ?_
      exact g_iret hC hr hlocks hY ⟨Nat.le_of_ble_eq_true rfl, Nat.le_of_ble_eq_true rfl⟩ dX1_daysLet_65 (by rw [e, show i = 24 by omega])
    · refine lv_aload hx hb dX1_daysLet_24 (lv_at hl 3 rfl) ?_
      refine lv_iload hx hb dX1_daysLet_26 (lv_at hl 0 rfl) ?_
      refine rdRoll hC hY ⟨by omega, by omega⟩ dX1_daysLet_28 ?_
      by_cases h2 : ix x7 < n
      · rw [show roF ad n (ix x7) = some (ad (3 * ix x7 + 9)) from if_pos h2]
        refine lv_astore (lv' := [(8, .ref (ad (3 * ix x7 + 9))), (7, .int x7), (4, .int x4), (6, .int 24), (5, .ref (ad 4)), (0, .ref (ad 0)), (1, .int p0), (2, .int p1), (3, .int p2)]) hx hb dX1_daysLet_29 hl (by decide) rfl (fun ls hl => ?_)
        refine lv_aload hx hb dX1_daysLet_31 (lv_at hl 0 rfl) ?_
        refine lv_ifnull hx hb dX1_daysLet_33 ?_
        refine lv_aload hx hb dX1_daysLet_36 (lv_at hl 0 rfl) ?_
        refine gtN_unit hC hin0 hY (k := ix x7) h2 (by decide) dX1_daysLet_38 ?_
        refine lv_iload_n hx hb dX1_daysLet_41 rfl (lv_at hl 6 rfl) ?_
        refine b_icmp_ne (tgt := 57) hx hb dX1_daysLet_42 (by decide) (fun (h3 : ¬ (σ 3 (ix x7)).toInt = p0.toInt) => ?_) (fun (h3 : (σ 3 (ix x7)).toInt = p0.toInt) => ?_)
        · refine lv_iinc (v := x7 + 1) (lv' := [(7, .int (x7 + 1)), (8, .ref (ad (3 * ix x7 + 9))), (4, .int x4), (6, .int 24), (5, .ref (ad 4)), (0, .ref (ad 0)), (1, .int p0), (2, .int p1), (3, .int p2)]) hx hb dX1_daysLet_57 hl (k := 1) rfl rfl (by decide) rfl (fun ls hl => ?_)
          refine lv_goto (tgt := 17) hx hb dX1_daysLet_60 (by decide) ?_
          have hix : ix x7 = i := i_ix h0
          exact ih (x7 + 1, x4) _ _ _ ⟨⟨by rw [i_add (by have : (1 : Int32).toInt = 1 := rfl; omega)]; have : (1 : Int32).toInt = 1 := rfl; omega, by omega, by rw [dlP, if_neg (by intro q; rw [hix] at h3; exact h3 q.2)]; exact e⟩, hY, lv_sub hl [0, 2, 3, 4, 5, 6, 7, 8] rfl⟩
        · refine lv_iload hx hb dX1_daysLet_45 (lv_at hl 2 rfl) ?_
          refine lv_aload hx hb dX1_daysLet_47 (lv_at hl 0 rfl) ?_
          refine lv_iload_n hx hb dX1_daysLet_49 rfl (lv_at hl 7 rfl) ?_
          refine lv_iload_n hx hb dX1_daysLet_50 rfl (lv_at hl 8 rfl) ?_
          refine g_calli hY (g_runV (n := 2) (q := (RX0, TX0, 12)) (r := 3 * ix x7 + 9) hC (c_X0_daysWithin l G ad σ n τ (ix x7) h2 p1 p2) gX1_daysLet_X0_daysWithin rfl ⟨rfl, rfl⟩ (by decide +kernel) ⟨Nat.le_of_ble_eq_true rfl, Nat.le_of_ble_eq_true rfl⟩ hY (r_lt h2) (ct_L (ix x7)) (ci := 0) rfl rfl hl.1 rfl (Nat.le_of_ble_eq_true rfl) dX1_daysLet_51 ⟨Nat.le_of_ble_eq_true rfl, Nat.le_of_ble_eq_true rfl⟩) (fun r4 H locs h5 hY => ?_)
          subst h5
          refine lv_iadd hx hb dX1_daysLet_54 ?_
          refine lv_istore (lv' := [(4, .int (x4 + (dwF σ (ix x7) p1 p2))), (8, .ref (ad (3 * ix x7 + 9))), (7, .int x7), (6, .int 24), (5, .ref (ad 4)), (0, .ref (ad 0)), (1, .int p0), (2, .int p1), (3, .int p2)]) hx hb dX1_daysLet_55 hl (by decide) rfl (fun ls hl => ?_)
          refine lv_iinc (v := x7 + 1) (lv' := [(7, .int (x7 + 1)), (4, .int (x4 + (dwF σ (ix x7) p1 p2))), (8, .ref (ad (3 * ix x7 + 9))), (6, .int 24), (5, .ref (ad 4)), (0, .ref (ad 0)), (1, .int p0), (2, .int p1), (3, .int p2)]) hx hb dX1_daysLet_57 hl (k := 2) rfl rfl (by decide) rfl (fun ls hl => ?_)
          refine lv_goto (tgt := 17) hx hb dX1_daysLet_60 (by decide) ?_
          have hix : ix x7 = i := i_ix h0
          exact ih (x7 + 1, x4 + (dwF σ (ix x7) p1 p2)) _ _ _ ⟨⟨by rw [i_add (by have : (1 : Int32).toInt = 1 := rfl; omega)]; have : (1 : Int32).toInt = 1 := rfl; omega, by omega, by rw [dlP, if_pos ⟨by rw [← hix]; exact h2, by rw [← hix]; exact h3⟩, ← e, ← hix]⟩, hY, lv_sub hl [0, 1, 3, 4, 5, 6, 7, 8] rfl⟩
      · rw [show roF ad n (ix x7) = none from if_neg h2]
        refine W.eq (g2 := F0 m 29 ls [.null]) rfl ?_
        refine lv_astoreN (lv' := [(8, .null), (7, .int x7), (4, .int x4), (6, .int 24), (5, .ref (ad 4)), (0, .ref (ad 0)), (1, .int p0), (2, .int p1), (3, .int p2)]) hx hb dX1_daysLet_29 hl (by decide) rfl (fun ls hl => ?_)
        refine lv_aloadN hx hb dX1_daysLet_31 (lv_at hl 0 rfl) ?_
        refine lv_ifnullN (tgt := 57) hx hb dX1_daysLet_33 (by decide) ?_
        refine lv_iinc (v := x7 + 1) (lv' := [(7, .int (x7 + 1)), (8, .null), (4, .int x4), (6, .int 24), (5, .ref (ad 4)), (0, .ref (ad 0)), (1, .int p0), (2, .int p1), (3, .int p2)]) hx hb dX1_daysLet_57 hl (k := 1) rfl rfl (by decide) rfl (fun ls hl => ?_)
        refine lv_goto (tgt := 17) hx hb dX1_daysLet_60 (by decide) ?_
        have hix : ix x7 = i := i_ix h0
        exact ih (x7 + 1, x4) _ _ _ ⟨⟨by rw [i_add (by have : (1 : Int32).toInt = 1 := rfl; omega)]; have : (1 : Int32).toInt = 1 := rfl; omega, by omega, by rw [dlP, if_neg (by intro q; rw [hix] at h2; exact h2 q.1)]; exact e⟩, hY, lv_sub hl [0, 2, 3, 4, 5, 6, 7, 8] rfl⟩
  · intro i x H locs ls hI
    obtain ⟨x7, x4⟩ := x
    obtain ⟨hI, -, -⟩ := hI
    obtain ⟨h0, h9, e⟩ := hI
    omega

def hiP (σ : St) (k : Nat) : Nat → Int32
  | 0 => 0
  | i + 1 => mxF (hiP σ k i) (vaF (σ 1) 240 ((σ 4 k + nI (i + 1) * σ 8 k) / 30))
def hxF (σ : St) (k : Nat) (d : Int32) : Int32 := hiP σ k (rvF σ k d).toInt.toNat
set_option maxHeartbeats 4000000 in
set_option maxRecDepth 100000 in
theorem c_X1_highestIndex (l : Launch) (G : GG) (ad : Nat → Nat) (σ : St) (n : Nat) (τ : St) (k : Nat) (hk : k < n) (p0 : Int32) (hrv : (rvF σ k p0).toInt < 7300)  : Met l yX1_highestIndex wsX1_highestIndex ({ frames := 1, cells := 0, slots := 0, locals := 30 }) (PcS G ad σ n τ [.ref (ad 0), .ref (ad (3 * k + 9)), .int p0]) (Qi G (3 * n + 9) ad (ctS G ad σ n τ) (fun r => r = hxF σ k p0)) 0 0 (gF G) := by
  refine Met.ofW (cc := cX1_highestIndex) (maxL := 7) (ret := (some .int)) (by decide) rfl ?_
  intro p e s m args below meth c s₁ B hml hv
  obtain ⟨rfl, hY⟩ := hv
  have hts := atoms_spec (ws := wsX1_highestIndex) B.pre
  have hC : CallFix p m c cX1_highestIndex 7 s _ wsX1_highestIndex RX1 := ⟨B.exec, B.bytes, hml, findClass_of_methodNamed B.named, hts⟩
  have hx := hC.1
  have hb := hC.2.1
  have hr := B.returns
  have hlocks := B.notSynchronized
  have hin0 : ∀ w ∈ wsX00, w ∈ wsX1_highestIndex := by decide +kernel
  have hin1 : ∀ w ∈ wsX10, w ∈ wsX1_highestIndex := by decide +kernel
  have hl := lv_entry ([.ref (ad 0), .ref (ad (3 * k + 9)), .int p0]) (n := 7) (Nat.le_of_ble_eq_true rfl)
  rw [lg_entry_eq]
  generalize (lg_sl ([.ref (ad 0), .ref (ad (3 * k + 9)), .int p0]) ++ List.replicate (7 - (lg_sl ([.ref (ad 0), .ref (ad (3 * k + 9)), .int p0])).length) Slot.unset).toArray = ls at hl ⊢
  have hl : lv_has ls 7 [(0, .ref (ad 0)), (1, .ref (ad (3 * k + 9))), (2, .int p0)] := hl
  refine lv_iconst (v := 0) hx hb dX1_highestIndex_0 (by decide) ?_
  refine lv_istore_n (lv' := [(3, .int 0), (0, .ref (ad 0)), (1, .ref (ad (3 * k + 9))), (2, .int p0)]) hx hb dX1_highestIndex_1 rfl hl (by decide) rfl (fun ls hl => ?_)
  refine lv_aload_n hx hb dX1_highestIndex_2 rfl (lv_at hl 2 rfl) ?_
  refine lv_iload_n hx hb dX1_highestIndex_3 rfl (lv_at hl 3 rfl) ?_
  refine g_calli hY (g_runV (n := 1) (q := (RX0, TX0, 12)) (r := 3 * k + 9) hC (c_X0_reviewsUpTo l G ad σ n τ k hk p0) gX1_highestIndex_X0_reviewsUpTo rfl ⟨rfl, rfl⟩ (by decide +kernel) ⟨Nat.le_of_ble_eq_true rfl, Nat.le_of_ble_eq_true rfl⟩ hY (r_lt hk) (ct_L k) (ci := 0) rfl rfl hl.1 rfl (Nat.le_of_ble_eq_true rfl) dX1_highestIndex_4 ⟨Nat.le_of_ble_eq_true rfl, Nat.le_of_ble_eq_true rfl⟩) (fun r1 H locs h2 hY => ?_)
  subst h2
  refine lv_istore (lv' := [(4, .int (rvF σ k p0)), (3, .int 0), (0, .ref (ad 0)), (1, .ref (ad (3 * k + 9))), (2, .int p0)]) hx hb dX1_highestIndex_7 hl (by decide) rfl (fun ls hl => ?_)
  refine lv_iconst (v := 1) hx hb dX1_highestIndex_9 (by decide) ?_
  refine lv_istore (lv' := [(5, .int 1), (4, .int (rvF σ k p0)), (3, .int 0), (0, .ref (ad 0)), (1, .ref (ad (3 * k + 9))), (2, .int p0)]) hx hb dX1_highestIndex_10 hl (by decide) rfl (fun ls hl => ?_)
  refine w_loop (X := Int32 × Int32) (fun i x H locs ls => match x with | (x5, x3) => (x5.toInt = i + 1 ∧ i ≤ (rvF σ k p0).toInt.toNat ∧ x3 = hiP σ k i) ∧ SyS G ad σ n τ s H locs ∧ lv_has ls 7 [(5, .int x5), (3, .int x3), (4, .int (rvF σ k p0)), (0, .ref (ad 0)), (1, .ref (ad (3 * k + 9))), (2, .int p0)]) (7300) ?_ ?_ ((1, 0)) ⟨⟨rfl, Nat.zero_le _, rfl⟩, hY, lv_sub hl [0, 2, 1, 3, 4, 5] rfl⟩
  · intro i x H locs ls hI ih
    obtain ⟨x5, x3⟩ := x
    obtain ⟨hI, hY, hl⟩ := hI
    obtain ⟨h0, h9, e⟩ := hI
    refine lv_iload hx hb dX1_highestIndex_12 (lv_at hl 0 rfl) ?_
    refine lv_iload hx hb dX1_highestIndex_14 (lv_at hl 2 rfl) ?_
    refine b_icmp_gt (tgt := 56) hx hb dX1_highestIndex_16 (by decide) (fun (h3 : (rvF σ k p0).toInt < x5.toInt) => ?_) (fun (h3 : x5.toInt ≤ (rvF σ k p0).toInt) => ?_)
    · refine lv_iload_n hx hb dX1_highestIndex_56 rfl (lv_at hl 1 rfl) ?_
      exact g_iret hC hr hlocks hY ⟨Nat.le_of_ble_eq_true rfl, Nat.le_of_ble_eq_true rfl⟩ dX1_highestIndex_57 (by unfold hxF; rw [e, show i = (rvF σ k p0).toInt.toNat by omega])
    · refine lv_aload_n hx hb dX1_highestIndex_19 rfl (lv_at hl 4 rfl) ?_
      refine gtN_from hC hin0 hY (k := k) hk (by decide) dX1_highestIndex_20 ?_
      refine lv_iload hx hb dX1_highestIndex_23 (lv_at hl 0 rfl) ?_
      refine lv_aload_n hx hb dX1_highestIndex_25 rfl (lv_at hl 4 rfl) ?_
      refine gtN_every hC hin0 hY (k := k) hk (by decide) dX1_highestIndex_26 ?_
      refine lv_imul hx hb dX1_highestIndex_29 ?_
      refine lv_iadd hx hb dX1_highestIndex_30 ?_
      refine lv_bipush (v := 30) hx hb dX1_highestIndex_31 (by decide) ?_
      refine lv_idiv hx hb dX1_highestIndex_33 (by decide) ?_
      refine lv_istore (lv' := [(6, .int (((σ 4 k) + (x5 * (σ 8 k))) / 30)), (5, .int x5), (3, .int x3), (4, .int (rvF σ k p0)), (0, .ref (ad 0)), (1, .ref (ad (3 * k + 9))), (2, .int p0)]) hx hb dX1_highestIndex_34 hl (by decide) rfl (fun ls hl => ?_)
      refine lv_iload_n hx hb dX1_highestIndex_36 rfl (lv_at hl 2 rfl) ?_
      refine lv_aload_n hx hb dX1_highestIndex_37 rfl (lv_at hl 4 rfl) ?_
      refine gtV_indices hC hin1 hY (by decide +kernel) dX1_highestIndex_38 ?_
      refine lv_iload hx hb dX1_highestIndex_41 (lv_at hl 0 rfl) ?_
      refine g_calli hY (g_runS (n := 2) hC (c_X1_valueAtI l G ad σ n τ (((σ 4 k) + (x5 * (σ 8 k))) / 30)) gX1_highestIndex_X1_valueAt rfl ⟨rfl, rfl⟩ (by decide +kernel) ⟨Nat.le_of_ble_eq_true rfl, Nat.le_of_ble_eq_true rfl⟩ hY rfl hl.1 rfl (Nat.le_of_ble_eq_true rfl) dX1_highestIndex_43 ⟨Nat.le_of_ble_eq_true rfl, Nat.le_of_ble_eq_true rfl⟩) (fun r4 H locs h5 hY => ?_)
      subst h5
      refine va_mmax hx hb (hC.2.2.1.trans hl.1.symm) hC.2.2.2.1 (hC.2.2.2.2 _ (by decide +kernel)) (hC.2.2.2.2 _ (by decide +kernel)) (hC.2.2.2.2 _ (by decide +kernel)) (hC.2.2.2.2 _ (by decide +kernel)) (Nat.le_of_ble_eq_true rfl) (Nat.le_of_ble_eq_true rfl) (Nat.le_of_ble_eq_true rfl) (Nat.le_of_ble_eq_true rfl) dX1_highestIndex_46 ?_
      refine lv_istore_n (lv' := [(3, .int (if x3 < (vaF (σ 1) 240 (((σ 4 k) + (x5 * (σ 8 k))) / 30)) then (vaF (σ 1) 240 (((σ 4 k) + (x5 * (σ 8 k))) / 30)) else x3)), (6, .int (((σ 4 k) + (x5 * (σ 8 k))) / 30)), (5, .int x5), (4, .int (rvF σ k p0)), (0, .ref (ad 0)), (1, .ref (ad (3 * k + 9))), (2, .int p0)]) hx hb dX1_highestIndex_49 rfl hl (by decide) rfl (fun ls hl => ?_)
      refine lv_iinc (v := x5 + 1) (lv' := [(5, .int (x5 + 1)), (3, .int (if x3 < (vaF (σ 1) 240 (((σ 4 k) + (x5 * (σ 8 k))) / 30)) then (vaF (σ 1) 240 (((σ 4 k) + (x5 * (σ 8 k))) / 30)) else x3)), (6, .int (((σ 4 k) + (x5 * (σ 8 k))) / 30)), (4, .int (rvF σ k p0)), (0, .ref (ad 0)), (1, .ref (ad (3 * k + 9))), (2, .int p0)]) hx hb dX1_highestIndex_50 hl (k := 2) rfl rfl (by decide) rfl (fun ls hl => ?_)
      refine lv_goto (tgt := 12) hx hb dX1_highestIndex_53 (by decide) ?_
      have hx5 : x5 = nI (i + 1) := i_eqnI (by rw [h0]; omega)
      exact ih (x5 + 1, (if x3 < (vaF (σ 1) 240 (((σ 4 k) + (x5 * (σ 8 k))) / 30)) then (vaF (σ 1) 240 (((σ 4 k) + (x5 * (σ 8 k))) / 30)) else x3)) _ _ _ ⟨⟨by rw [i_add (by have : (1 : Int32).toInt = 1 := rfl; omega)]; have : (1 : Int32).toInt = 1 := rfl; omega, by omega, by rw [hiP, ← e, ← hx5]; rfl⟩, hY, lv_sub hl [0, 1, 3, 4, 5, 6] rfl⟩
  · intro i x H locs ls hI
    obtain ⟨x5, x3⟩ := x
    obtain ⟨hI, -, -⟩ := hI
    obtain ⟨h0, h9, e⟩ := hI
    omega

/-- what holds of each lease -/
def okL (σ : St) (k : Nat) : Prop := (0 ≤ (σ 3 k).toInt ∧ (σ 3 k).toInt < 6) ∧ (0 ≤ (σ 4 k).toInt ∧ (σ 4 k).toInt < (σ 5 k).toInt ∧ (σ 5 k).toInt ≤ 7200) ∧ (1 ≤ (σ 6 k).toInt ∧ (σ 6 k).toInt ≤ 99999) ∧ (0 ≤ (σ 7 k).toInt ∧ (σ 7 k).toInt ≤ 720) ∧ ((σ 8 k).toInt = 0 ∨ (30 ≤ (σ 8 k).toInt ∧ (σ 8 k).toInt ≤ 1800)) ∧ (-1 ≤ (σ 9 k).toInt ∧ (σ 9 k).toInt ≤ 999999) ∧ (0 ≤ (σ 10 k).toInt ∧ (σ 10 k).toInt ≤ 9999) ∧ okS σ k ∧ ∀ i, i < stN σ k → (σ 4 k).toInt < (rowF σ 13 k i).toInt ∧ (rowF σ 13 k i).toInt < 7200
theorem okL_s {σ : St} {k : Nat} (h : okL σ k) : okS σ k := h.2.2.2.2.2.2.2.1
theorem rv_b {σ : St} {k : Nat} {d : Int32} (h : okL σ k) (hd : d.toInt < 7300) : 0 ≤ (rvF σ k d).toInt ∧ (rvF σ k d).toInt < 7300 := by
  obtain ⟨-, ⟨h1, h2, h3⟩, -, -, -⟩ := h
  unfold rvF
  split
  · rename_i q
    have h4 : (d - σ 4 k).toInt = d.toInt - (σ 4 k).toInt := i_sub (by omega)
    rw [i_div (by omega), h4]
    have h5 : (d.toInt - (σ 4 k).toInt).tdiv (σ 8 k).toInt = (d.toInt - (σ 4 k).toInt) / (σ 8 k).toInt := Int.tdiv_eq_ediv_of_nonneg (by omega)
    rw [h5]
    refine ⟨Int.ediv_nonneg (by omega) (by omega), ?_⟩
    have h6 := Int.ediv_le_self (σ 8 k).toInt (show 0 ≤ d.toInt - (σ 4 k).toInt by omega)
    omega
  · exact ⟨by decide, by decide⟩
def rfF (σ : St) (k : Nat) (d : Int32) : Int32 := if rOn σ k d ∧ ¬ fOn σ k d then (if 0 < (vaF (σ 1) 240 (σ 4 k / 30)).toInt then mxF (acF σ k d) (acF σ k d * hxF σ k d / vaF (σ 1) 240 (σ 4 k / 30)) else acF σ k d) else 0
set_option maxHeartbeats 4000000 in
set_option maxRecDepth 100000 in
theorem c_X1_rentFor (l : Launch) (G : GG) (ad : Nat → Nat) (σ : St) (n : Nat) (τ : St) (k : Nat) (hk : k < n) (p0 : Int32) (hL : okL σ k) (hd : p0.toInt < 7300)  : Met l yX1_rentFor wsX1_rentFor ({ frames := 2, cells := 0, slots := 0, locals := 60 }) (PcS G ad σ n τ [.ref (ad 0), .ref (ad (3 * k + 9)), .int p0]) (Qi G (3 * n + 9) ad (ctS G ad σ n τ) (fun r => r = rfF σ k p0)) 0 0 (gF G) := by
  refine Met.ofW (cc := cX1_rentFor) (maxL := 5) (ret := (some .int)) (by decide) rfl ?_
  intro p e s m args below meth c s₁ B hml hv
  obtain ⟨rfl, hY⟩ := hv
  have hts := atoms_spec (ws := wsX1_rentFor) B.pre
  have hC : CallFix p m c cX1_rentFor 5 s _ wsX1_rentFor RX1 := ⟨B.exec, B.bytes, hml, findClass_of_methodNamed B.named, hts⟩
  have hx := hC.1
  have hb := hC.2.1
  have hr := B.returns
  have hlocks := B.notSynchronized
  have hin0 : ∀ w ∈ wsX00, w ∈ wsX1_rentFor := by decide +kernel
  have hin1 : ∀ w ∈ wsX10, w ∈ wsX1_rentFor := by decide +kernel
  have hl := lv_entry ([.ref (ad 0), .ref (ad (3 * k + 9)), .int p0]) (n := 5) (Nat.le_of_ble_eq_true rfl)
  rw [lg_entry_eq]
  generalize (lg_sl ([.ref (ad 0), .ref (ad (3 * k + 9)), .int p0]) ++ List.replicate (5 - (lg_sl ([.ref (ad 0), .ref (ad (3 * k + 9)), .int p0])).length) Slot.unset).toArray = ls at hl ⊢
  have hl : lv_has ls 5 [(0, .ref (ad 0)), (1, .ref (ad (3 * k + 9))), (2, .int p0)] := hl
  refine lv_aload_n hx hb dX1_rentFor_0 rfl (lv_at hl 1 rfl) ?_
  refine lv_iload_n hx hb dX1_rentFor_1 rfl (lv_at hl 2 rfl) ?_
  refine g_calli hY (g_runV (n := 1) (q := (RX0, TX0, 12)) (r := 3 * k + 9) hC (c_X0_runsOn l G ad σ n τ k hk p0) gX1_rentFor_X0_runsOn rfl ⟨rfl, rfl⟩ (by decide +kernel) ⟨Nat.le_of_ble_eq_true rfl, Nat.le_of_ble_eq_true rfl⟩ hY (r_lt hk) (ct_L k) (ci := 0) rfl rfl hl.1 rfl (Nat.le_of_ble_eq_true rfl) dX1_rentFor_2 ⟨Nat.le_of_ble_eq_true rfl, Nat.le_of_ble_eq_true rfl⟩) (fun r1 H locs h2 hY => ?_)
  rcases h2 with ⟨rfl, h3⟩ | ⟨rfl, h3⟩
  · refine b_if_eq (tgt := 16) hx hb dX1_rentFor_5 (by decide) (fun h => absurd h (by decide)) (fun _ => ?_)
    refine lv_aload_n hx hb dX1_rentFor_8 rfl (lv_at hl 1 rfl) ?_
    refine lv_iload_n hx hb dX1_rentFor_9 rfl (lv_at hl 2 rfl) ?_
    refine g_calli hY (g_runV (n := 1) (q := (RX0, TX0, 12)) (r := 3 * k + 9) hC (c_X0_isFreeOn l G ad σ n τ k hk p0) gX1_rentFor_X0_isFreeOn rfl ⟨rfl, rfl⟩ (by decide +kernel) ⟨Nat.le_of_ble_eq_true rfl, Nat.le_of_ble_eq_true rfl⟩ hY (r_lt hk) (ct_L k) (ci := 0) rfl rfl hl.1 rfl (Nat.le_of_ble_eq_true rfl) dX1_rentFor_10 ⟨Nat.le_of_ble_eq_true rfl, Nat.le_of_ble_eq_true rfl⟩) (fun r5 H locs h6 hY => ?_)
    rcases h6 with ⟨rfl, h7⟩ | ⟨rfl, h7⟩
    · refine b_if_eq (tgt := 18) hx hb dX1_rentFor_13 (by decide) (fun h => absurd h (by decide)) (fun _ => ?_)
      refine lv_iconst (v := 0) hx hb dX1_rentFor_16 (by decide) ?_
      exact g_iret hC hr hlocks hY ⟨Nat.le_of_ble_eq_true rfl, Nat.le_of_ble_eq_true rfl⟩ dX1_rentFor_17 ((if_neg (fun q => q.2 h7)).symm)
    · refine b_if_eq (tgt := 18) hx hb dX1_rentFor_13 (by decide) (fun _ => ?_) (fun h => absurd h (by decide))
      refine lv_aload_n hx hb dX1_rentFor_18 rfl (lv_at hl 1 rfl) ?_
      refine lv_iload_n hx hb dX1_rentFor_19 rfl (lv_at hl 2 rfl) ?_
      refine g_calli hY (g_runV (n := 1) (q := (RX0, TX0, 12)) (r := 3 * k + 9) hC (c_X0_agreedOn l G ad σ n τ k hk p0 (okL_s hL)) gX1_rentFor_X0_agreedOn rfl ⟨rfl, rfl⟩ (by decide +kernel) ⟨Nat.le_of_ble_eq_true rfl, Nat.le_of_ble_eq_true rfl⟩ hY (r_lt hk) (ct_L k) (ci := 0) rfl rfl hl.1 rfl (Nat.le_of_ble_eq_true rfl) dX1_rentFor_20 ⟨Nat.le_of_ble_eq_true rfl, Nat.le_of_ble_eq_true rfl⟩) (fun r10 H locs h11 hY => ?_)
      subst h11
      refine lv_istore_n (lv' := [(3, .int (acF σ k p0)), (0, .ref (ad 0)), (1, .ref (ad (3 * k + 9))), (2, .int p0)]) hx hb dX1_rentFor_23 rfl hl (by decide) rfl (fun ls hl => ?_)
      refine lv_aload_n hx hb dX1_rentFor_24 rfl (lv_at hl 1 rfl) ?_
      refine gtV_indices hC hin1 hY (by decide +kernel) dX1_rentFor_25 ?_
      refine lv_aload_n hx hb dX1_rentFor_28 rfl (lv_at hl 2 rfl) ?_
      refine gtN_from hC hin0 hY (k := k) hk (by decide) dX1_rentFor_29 ?_
      refine lv_bipush (v := 30) hx hb dX1_rentFor_32 (by decide) ?_
      refine lv_idiv hx hb dX1_rentFor_34 (by decide) ?_
      refine g_calli hY (g_runS (n := 2) hC (c_X1_valueAtI l G ad σ n τ ((σ 4 k) / 30)) gX1_rentFor_X1_valueAt rfl ⟨rfl, rfl⟩ (by decide +kernel) ⟨Nat.le_of_ble_eq_true rfl, Nat.le_of_ble_eq_true rfl⟩ hY rfl hl.1 rfl (Nat.le_of_ble_eq_true rfl) dX1_rentFor_35 ⟨Nat.le_of_ble_eq_true rfl, Nat.le_of_ble_eq_true rfl⟩) (fun r12 H locs h13 hY => ?_)
      subst h13
      refine lv_istore (lv' := [(4, .int (vaF (σ 1) 240 ((σ 4 k) / 30))), (3, .int (acF σ k p0)), (0, .ref (ad 0)), (1, .ref (ad (3 * k + 9))), (2, .int p0)]) hx hb dX1_rentFor_38 hl (by decide) rfl (fun ls hl => ?_)
      refine lv_iload hx hb dX1_rentFor_40 (lv_at hl 0 rfl) ?_
      refine b_if_gt (tgt := 47) hx hb dX1_rentFor_42 (by decide) (fun (h14 : 0 < (vaF (σ 1) 240 ((σ 4 k) / 30)).toInt) => ?_) (fun (h14 : (vaF (σ 1) 240 ((σ 4 k) / 30)).toInt ≤ 0) => ?_)
      · refine lv_iload_n hx hb dX1_rentFor_47 rfl (lv_at hl 1 rfl) ?_
        refine lv_iload_n hx hb dX1_rentFor_48 rfl (lv_at hl 1 rfl) ?_
        refine lv_aload_n hx hb dX1_rentFor_49 rfl (lv_at hl 2 rfl) ?_
        refine lv_aload_n hx hb dX1_rentFor_50 rfl (lv_at hl 3 rfl) ?_
        refine lv_iload_n hx hb dX1_rentFor_51 rfl (lv_at hl 4 rfl) ?_
        refine g_calli hY (g_runV (n := 2) (q := (RX1, TX1, 5)) (r := 0) hC (c_X1_highestIndex l G ad σ n τ k hk p0 (rv_b hL hd).2) gX1_rentFor_X1_highestIndex rfl ⟨rfl, rfl⟩ (by decide +kernel) ⟨Nat.le_of_ble_eq_true rfl, Nat.le_of_ble_eq_true rfl⟩ hY (by omega) rfl (ci := 1) rfl rfl hl.1 rfl (Nat.le_of_ble_eq_true rfl) dX1_rentFor_52 ⟨Nat.le_of_ble_eq_true rfl, Nat.le_of_ble_eq_true rfl⟩) (fun r15 H locs h16 hY => ?_)
        subst h16
        refine lv_imul hx hb dX1_rentFor_55 ?_
        refine lv_iload hx hb dX1_rentFor_56 (lv_at hl 0 rfl) ?_
        refine lv_idiv hx hb dX1_rentFor_58 (by intro q; rw [q] at h14; revert h14; decide) ?_
        refine va_mmax hx hb (hC.2.2.1.trans hl.1.symm) hC.2.2.2.1 (hC.2.2.2.2 _ (by decide +kernel)) (hC.2.2.2.2 _ (by decide +kernel)) (hC.2.2.2.2 _ (by decide +kernel)) (hC.2.2.2.2 _ (by decide +kernel)) (Nat.le_of_ble_eq_true rfl) (Nat.le_of_ble_eq_true rfl) (Nat.le_of_ble_eq_true rfl) (Nat.le_of_ble_eq_true rfl) dX1_rentFor_59 ?_
        exact g_iret hC hr hlocks hY ⟨Nat.le_of_ble_eq_true rfl, Nat.le_of_ble_eq_true rfl⟩ dX1_rentFor_62 (by unfold rfF; rw [if_pos (c := rOn σ k p0 ∧ ¬ fOn σ k p0) ⟨h3, h7⟩, if_pos h14]; rfl)
      · refine lv_iload_n hx hb dX1_rentFor_45 rfl (lv_at hl 1 rfl) ?_
        exact g_iret hC hr hlocks hY ⟨Nat.le_of_ble_eq_true rfl, Nat.le_of_ble_eq_true rfl⟩ dX1_rentFor_46 (by unfold rfF; rw [if_pos (c := rOn σ k p0 ∧ ¬ fOn σ k p0) ⟨h3, h7⟩, if_neg (c := 0 < _) (by omega)])
  · refine b_if_eq (tgt := 16) hx hb dX1_rentFor_5 (by decide) (fun _ => ?_) (fun h => absurd h (by decide))
    refine lv_iconst (v := 0) hx hb dX1_rentFor_16 (by decide) ?_
    exact g_iret hC hr hlocks hY ⟨Nat.le_of_ble_eq_true rfl, Nat.le_of_ble_eq_true rfl⟩ dX1_rentFor_17 ((if_neg (fun q => h3 q.1)).symm)
end
section
/-! the roll's methods that answer -/
theorem i_add1 {x : Int32} (h : x.toInt < 2147483647) : (x + 1).toInt = x.toInt + 1 := by
  have h1 : (1 : Int32).toInt = 1 := rfl
  have := i_bnd x
  rw [i_add (by omega), h1]
theorem i_sub1 {x : Int32} (h : -2147483648 < x.toInt) : (x - 1).toInt = x.toInt - 1 := by
  have h1 : (1 : Int32).toInt = 1 := rfl
  have := i_bnd x
  rw [i_sub (by omega), h1]
theorem i_mulc {x : Int32} {c : Nat} (hx : 0 ≤ x.toInt ∧ x.toInt < 10000) (hc : c < 10000) : (x * nI c).toInt = x.toInt * c := by
  have h1 : (nI c).toInt = c := i_nI (by omega)
  have h2 : x.toInt * (c : Int) ≤ 10000 * 10000 := Int.mul_le_mul (by omega) (by omega) (by omega) (by omega)
  have h3 : 0 ≤ x.toInt * (c : Int) := Int.mul_nonneg hx.1 (by omega)
  rw [i_mul (by rw [h1]; omega), h1]
theorem ok_f1 {σ : St} {k : Nat} (h : okL σ k) : (σ 4 k + 1).toInt = (σ 4 k).toInt + 1 := i_add1 (by obtain ⟨-, ⟨h1, h2, h3⟩, -⟩ := h; omega)
theorem ok_t1 {σ : St} {k : Nat} (h : okL σ k) : (σ 5 k - 1).toInt = (σ 5 k).toInt - 1 := i_sub1 (by obtain ⟨-, ⟨h1, h2, h3⟩, -⟩ := h; omega)
def bfP (σ : St) (k : Nat) (m : Int32) : Nat → Int32 × Int32
  | 0 => (m * 30, 0)
  | i + 1 => if (bfP σ k m i).1.toInt < (m * 30 + 30).toInt then (mnF (ntF σ k (bfP σ k m i).1) (m * 30 + 30), (bfP σ k m i).2 + (mnF (ntF σ k (bfP σ k m i).1) (m * 30 + 30) - (bfP σ k m i).1) * rfF σ k (bfP σ k m i).1) else bfP σ k m i
def bfF (σ : St) (k : Nat) (m : Int32) : Int32 := (bfP σ k m 30).2 / 30
theorem bfP_st {σ : St} {k : Nat} {m : Int32} {i : Nat} (h : ¬ (bfP σ k m i).1.toInt < (m * 30 + 30).toInt) : ∀ q, bfP σ k m (i + q) = bfP σ k m i := by
  intro q
  induction q with
  | zero => rfl
  | succ q ih => show bfP σ k m ((i + q) + 1) = _; rw [bfP, ih, if_neg h]
theorem i_mnF {x y : Int32} : (mnF x y).toInt ≤ y.toInt := by
  unfold mnF
  split
  · exact Int.le_refl _
  · rename_i h; rw [Int32.lt_iff_toInt_lt] at h; omega
set_option maxHeartbeats 4000000 in
set_option maxRecDepth 100000 in
theorem c_X1_billFor (l : Launch) (G : GG) (ad : Nat → Nat) (σ : St) (n : Nat) (τ : St) (k : Nat) (hk : k < n) (p0 : Int32) (hL : okL σ k) (hm : 0 ≤ p0.toInt ∧ p0.toInt < 240)  : Met l yX1_billFor wsX1_billFor ({ frames := 3, cells := 0, slots := 0, locals := 90 }) (PcS G ad σ n τ [.ref (ad 0), .ref (ad (3 * k + 9)), .int p0]) (Qi G (3 * n + 9) ad (ctS G ad σ n τ) (fun r => r = bfF σ k p0)) 0 0 (gF G) := by
  refine Met.ofW (cc := cX1_billFor) (maxL := 8) (ret := (some .int)) (by decide) rfl ?_
  intro p e s m args below meth c s₁ B hml hv
  obtain ⟨rfl, hY⟩ := hv
  have hts := atoms_spec (ws := wsX1_billFor) B.pre
  have hC : CallFix p m c cX1_billFor 8 s _ wsX1_billFor RX1 := ⟨B.exec, B.bytes, hml, findClass_of_methodNamed B.named, hts⟩
  have hx := hC.1
  have hb := hC.2.1
  have hr := B.returns
  have hlocks := B.notSynchronized
  have hin0 : ∀ w ∈ wsX00, w ∈ wsX1_billFor := by decide +kernel
  have hin1 : ∀ w ∈ wsX10, w ∈ wsX1_billFor := by decide +kernel
  have hl := lv_entry ([.ref (ad 0), .ref (ad (3 * k + 9)), .int p0]) (n := 8) (Nat.le_of_ble_eq_true rfl)
  rw [lg_entry_eq]
  generalize (lg_sl ([.ref (ad 0), .ref (ad (3 * k + 9)), .int p0]) ++ List.replicate (8 - (lg_sl ([.ref (ad 0), .ref (ad (3 * k + 9)), .int p0])).length) Slot.unset).toArray = ls at hl ⊢
  have hl : lv_has ls 8 [(0, .ref (ad 0)), (1, .ref (ad (3 * k + 9))), (2, .int p0)] := hl
  have hb3 : (p0 * 30).toInt = p0.toInt * 30 := i_mulc (c := 30) (by omega) (by decide)
  have hb4 : (p0 * 30 + 30).toInt = p0.toInt * 30 + 30 := by rw [i_add (by have : (30 : Int32).toInt = 30 := rfl; omega), hb3]; rfl
  refine lv_iload_n hx hb dX1_billFor_0 rfl (lv_at hl 2 rfl) ?_
  refine lv_bipush (v := 30) hx hb dX1_billFor_1 (by decide) ?_
  refine lv_imul hx hb dX1_billFor_3 ?_
  refine lv_istore_n (lv' := [(3, .int (p0 * 30)), (0, .ref (ad 0)), (1, .ref (ad (3 * k + 9))), (2, .int p0)]) hx hb dX1_billFor_4 rfl hl (by decide) rfl (fun ls hl => ?_)
  refine lv_iload_n hx hb dX1_billFor_5 rfl (lv_at hl 0 rfl) ?_
  refine lv_bipush (v := 30) hx hb dX1_billFor_6 (by decide) ?_
  refine lv_iadd hx hb dX1_billFor_8 ?_
  refine lv_istore (lv' := [(4, .int ((p0 * 30) + 30)), (3, .int (p0 * 30)), (0, .ref (ad 0)), (1, .ref (ad (3 * k + 9))), (2, .int p0)]) hx hb dX1_billFor_9 hl (by decide) rfl (fun ls hl => ?_)
  refine lv_iconst (v := 0) hx hb dX1_billFor_11 (by decide) ?_
  refine lv_istore (lv' := [(5, .int 0), (4, .int ((p0 * 30) + 30)), (3, .int (p0 * 30)), (0, .ref (ad 0)), (1, .ref (ad (3 * k + 9))), (2, .int p0)]) hx hb dX1_billFor_12 hl (by decide) rfl (fun ls hl => ?_)
  refine lv_iconst (v := 0) hx hb dX1_billFor_14 (by decide) ?_
  refine lv_istore (lv' := [(6, .int 0), (5, .int 0), (4, .int ((p0 * 30) + 30)), (3, .int (p0 * 30)), (0, .ref (ad 0)), (1, .ref (ad (3 * k + 9))), (2, .int p0)]) hx hb dX1_billFor_15 hl (by decide) rfl (fun ls hl => ?_)
  refine w_loop (X := Int32 × Int32 × Int32) (fun i x H locs ls => match x with | (x6, x3, x5) => (x6.toInt = i ∧ (i : Int) ≤ 30 ∧ bfP σ k p0 i = (x3, x5) ∧ x3.toInt ≤ (p0 * 30 + 30).toInt) ∧ SyS G ad σ n τ s H locs ∧ lv_has ls 8 [(6, .int x6), (3, .int x3), (5, .int x5), (4, .int ((p0 * 30) + 30)), (0, .ref (ad 0)), (1, .ref (ad (3 * k + 9)))]) (30) ?_ ?_ ((0, p0 * 30, 0)) ⟨⟨rfl, by decide, rfl, by omega⟩, hY, lv_sub hl [0, 3, 1, 2, 4, 5] rfl⟩
  · intro i x H locs ls hI ih
    obtain ⟨x6, x3, x5⟩ := x
    obtain ⟨hI, hY, hl⟩ := hI
    obtain ⟨h0, h9, e, h8⟩ := hI
    refine lv_iload hx hb dX1_billFor_17 (lv_at hl 0 rfl) ?_
    refine lv_bipush (v := 30) hx hb dX1_billFor_19 (by decide) ?_
    refine b_icmp_ge (tgt := 67) hx hb dX1_billFor_21 (by decide) (fun (h1 : 30 ≤ x6.toInt) => ?_) (fun (h1 : x6.toInt < 30) => ?_)
    · refine lv_iload hx hb dX1_billFor_67 (lv_at hl 2 rfl) ?_
      refine lv_bipush (v := 30) hx hb dX1_billFor_69 (by decide) ?_
      refine lv_idiv hx hb dX1_billFor_71 (by decide) ?_
      exact g_iret hC hr hlocks hY ⟨Nat.le_of_ble_eq_true rfl, Nat.le_of_ble_eq_true rfl⟩ dX1_billFor_72 (by unfold bfF; rw [show (30 : Nat) = i by omega, e])
    · refine lv_iload_n hx hb dX1_billFor_24 rfl (lv_at hl 1 rfl) ?_
      refine lv_iload hx hb dX1_billFor_25 (lv_at hl 3 rfl) ?_
      refine b_icmp_ge (tgt := 67) hx hb dX1_billFor_27 (by decide) (fun (h2 : ((p0 * 30) + 30).toInt ≤ x3.toInt) => ?_) (fun (h2 : x3.toInt < ((p0 * 30) + 30).toInt) => ?_)
      · refine lv_iload hx hb dX1_billFor_67 (lv_at hl 2 rfl) ?_
        refine lv_bipush (v := 30) hx hb dX1_billFor_69 (by decide) ?_
        refine lv_idiv hx hb dX1_billFor_71 (by decide) ?_
        exact g_iret hC hr hlocks hY ⟨Nat.le_of_ble_eq_true rfl, Nat.le_of_ble_eq_true rfl⟩ dX1_billFor_72 (by unfold bfF; rw [show (30 : Nat) = i + (30 - i) by omega, bfP_st (by rw [e]; show ¬ x3.toInt < _; omega), e])
      · refine lv_aload_n hx hb dX1_billFor_30 rfl (lv_at hl 5 rfl) ?_
        refine lv_iload_n hx hb dX1_billFor_31 rfl (lv_at hl 1 rfl) ?_
        refine g_calli hY (g_runV (n := 1) (q := (RX0, TX0, 12)) (r := 3 * k + 9) hC (c_X0_nextTurn l G ad σ n τ k hk x3 (okL_s hL)) gX1_billFor_X0_nextTurn rfl ⟨rfl, rfl⟩ (by decide +kernel) ⟨Nat.le_of_ble_eq_true rfl, Nat.le_of_ble_eq_true rfl⟩ hY (r_lt hk) (ct_L k) (ci := 0) rfl rfl hl.1 rfl (Nat.le_of_ble_eq_true rfl) dX1_billFor_32 ⟨Nat.le_of_ble_eq_true rfl, Nat.le_of_ble_eq_true rfl⟩) (fun r3 H locs h4 hY => ?_)
        subst h4
        refine lv_iload hx hb dX1_billFor_35 (lv_at hl 3 rfl) ?_
        refine va_mmin hx hb (hC.2.2.1.trans hl.1.symm) hC.2.2.2.1 (hC.2.2.2.2 _ (by decide +kernel)) (hC.2.2.2.2 _ (by decide +kernel)) (hC.2.2.2.2 _ (by decide +kernel)) (hC.2.2.2.2 _ (by decide +kernel)) (Nat.le_of_ble_eq_true rfl) (Nat.le_of_ble_eq_true rfl) (Nat.le_of_ble_eq_true rfl) (Nat.le_of_ble_eq_true rfl) dX1_billFor_37 ?_
        refine lv_istore (lv' := [(7, .int (if ((p0 * 30) + 30) < (ntF σ k x3) then ((p0 * 30) + 30) else (ntF σ k x3))), (6, .int x6), (3, .int x3), (5, .int x5), (4, .int ((p0 * 30) + 30)), (0, .ref (ad 0)), (1, .ref (ad (3 * k + 9)))]) hx hb dX1_billFor_40 hl (by decide) rfl (fun ls hl => ?_)
        refine lv_iload hx hb dX1_billFor_42 (lv_at hl 3 rfl) ?_
        refine lv_iload hx hb dX1_billFor_44 (lv_at hl 0 rfl) ?_
        refine lv_iload_n hx hb dX1_billFor_46 rfl (lv_at hl 2 rfl) ?_
        refine lv_isub hx hb dX1_billFor_47 ?_
        refine lv_aload_n hx hb dX1_billFor_48 rfl (lv_at hl 5 rfl) ?_
        refine lv_aload_n hx hb dX1_billFor_49 rfl (lv_at hl 6 rfl) ?_
        refine lv_iload_n hx hb dX1_billFor_50 rfl (lv_at hl 2 rfl) ?_
        refine g_calli hY (g_runV (n := 2) (q := (RX1, TX1, 5)) (r := 0) hC (c_X1_rentFor l G ad σ n τ k hk x3 hL (by omega)) gX1_billFor_X1_rentFor rfl ⟨rfl, rfl⟩ (by decide +kernel) ⟨Nat.le_of_ble_eq_true rfl, Nat.le_of_ble_eq_true rfl⟩ hY (by omega) rfl (ci := 1) rfl rfl hl.1 rfl (Nat.le_of_ble_eq_true rfl) dX1_billFor_51 ⟨Nat.le_of_ble_eq_true rfl, Nat.le_of_ble_eq_true rfl⟩) (fun r5 H locs h6 hY => ?_)
        subst h6
        refine lv_imul hx hb dX1_billFor_54 ?_
        refine lv_iadd hx hb dX1_billFor_55 ?_
        refine lv_istore (lv' := [(5, .int (x5 + (((if ((p0 * 30) + 30) < (ntF σ k x3) then ((p0 * 30) + 30) else (ntF σ k x3)) - x3) * (rfF σ k x3)))), (7, .int (if ((p0 * 30) + 30) < (ntF σ k x3) then ((p0 * 30) + 30) else (ntF σ k x3))), (6, .int x6), (3, .int x3), (4, .int ((p0 * 30) + 30)), (0, .ref (ad 0)), (1, .ref (ad (3 * k + 9)))]) hx hb dX1_billFor_56 hl (by decide) rfl (fun ls hl => ?_)
        refine lv_iload hx hb dX1_billFor_58 (lv_at hl 1 rfl) ?_
        refine lv_istore_n (lv' := [(3, .int (if ((p0 * 30) + 30) < (ntF σ k x3) then ((p0 * 30) + 30) else (ntF σ k x3))), (5, .int (x5 + (((if ((p0 * 30) + 30) < (ntF σ k x3) then ((p0 * 30) + 30) else (ntF σ k x3)) - x3) * (rfF σ k x3)))), (7, .int (if ((p0 * 30) + 30) < (ntF σ k x3) then ((p0 * 30) + 30) else (ntF σ k x3))), (6, .int x6), (4, .int ((p0 * 30) + 30)), (0, .ref (ad 0)), (1, .ref (ad (3 * k + 9)))]) hx hb dX1_billFor_60 rfl hl (by decide) rfl (fun ls hl => ?_)
        refine lv_iinc (v := x6 + 1) (lv' := [(6, .int (x6 + 1)), (3, .int (if ((p0 * 30) + 30) < (ntF σ k x3) then ((p0 * 30) + 30) else (ntF σ k x3))), (5, .int (x5 + (((if ((p0 * 30) + 30) < (ntF σ k x3) then ((p0 * 30) + 30) else (ntF σ k x3)) - x3) * (rfF σ k x3)))), (7, .int (if ((p0 * 30) + 30) < (ntF σ k x3) then ((p0 * 30) + 30) else (ntF σ k x3))), (4, .int ((p0 * 30) + 30)), (0, .ref (ad 0)), (1, .ref (ad (3 * k + 9)))]) hx hb dX1_billFor_61 hl (k := 3) rfl rfl (by decide) rfl (fun ls hl => ?_)
        refine lv_goto (tgt := 17) hx hb dX1_billFor_64 (by decide) ?_
        have he3 : (bfP σ k p0 i).1 = x3 := by rw [e]
        exact ih (x6 + 1, (if ((p0 * 30) + 30) < (ntF σ k x3) then ((p0 * 30) + 30) else (ntF σ k x3)), x5 + (((if ((p0 * 30) + 30) < (ntF σ k x3) then ((p0 * 30) + 30) else (ntF σ k x3)) - x3) * (rfF σ k x3))) _ _ _ ⟨⟨by rw [i_add (by have : (1 : Int32).toInt = 1 := rfl; omega)]; have : (1 : Int32).toInt = 1 := rfl; omega, by omega, by rw [bfP, e]; exact if_pos h2, by have h7 : _ ≤ (p0 * 30 + 30).toInt := i_mnF (x := ntF σ k x3) (y := p0 * 30 + 30); exact h7⟩, hY, lv_sub hl [0, 1, 2, 4, 5, 6] rfl⟩
  · intro i x H locs ls hI
    obtain ⟨x6, x3, x5⟩ := x
    obtain ⟨hI, -, -⟩ := hI
    obtain ⟨h0, h9, e, h8⟩ := hI
    omega

theorem l_bmod {z : Int} (h : -9223372036854775808 ≤ z ∧ z < 9223372036854775808) : z.bmod (2 ^ 64) = z := Int.bmod_eq_of_le (by omega) (by omega)
theorem l_ne0 {x : Int32} (h : ¬ x.toInt = 0) : ¬ x.toInt64 * 360 = 0 := by
  intro q
  have h1 := congrArg Int64.toInt q
  have h2 := i_bnd x
  rw [Int64.toInt_mul, Int32.toInt_toInt64, show (360 : Int64).toInt = 360 from rfl, show (0 : Int64).toInt = 0 from rfl, l_bmod (by omega)] at h1
  omega
theorem l_ne {x : Int32} (h : 0 < x.toInt) : ¬ x.toInt64 * 360 = 0 := l_ne0 (by omega)
def ptF (σ : St) (k : Nat) (y c : Int32) : Int32 := if 0 < (aaP σ 6).toInt then (if (σ 9 k).toInt = -1 then (c.toInt64 * (vaF (σ 0) 6 (σ 3 k)).toInt64 * (diF σ k y).toInt64 / ((aaP σ 6).toInt64 * 360)).toInt32 else mnF (c.toInt64 * (vaF (σ 0) 6 (σ 3 k)).toInt64 * (diF σ k y).toInt64 / ((aaP σ 6).toInt64 * 360)).toInt32 (σ 9 k * diF σ k y / 360)) else 0
set_option maxHeartbeats 4000000 in
set_option maxRecDepth 100000 in
theorem c_X1_partOf (l : Launch) (G : GG) (ad : Nat → Nat) (σ : St) (n : Nat) (τ : St) (k : Nat) (hk : k < n) (p0 p1 : Int32)  : Met l yX1_partOf wsX1_partOf ({ frames := 3, cells := 0, slots := 0, locals := 90 }) (PcS G ad σ n τ [.ref (ad 0), .ref (ad (3 * k + 9)), .int p0, .int p1]) (Qi G (3 * n + 9) ad (ctS G ad σ n τ) (fun r => r = ptF σ k p0 p1)) 0 0 (gF G) := by
  refine Met.ofW (cc := cX1_partOf) (maxL := 8) (ret := (some .int)) (by decide) rfl ?_
  intro p e s m args below meth c s₁ B hml hv
  obtain ⟨rfl, hY⟩ := hv
  have hts := atoms_spec (ws := wsX1_partOf) B.pre
  have hC : CallFix p m c cX1_partOf 8 s _ wsX1_partOf RX1 := ⟨B.exec, B.bytes, hml, findClass_of_methodNamed B.named, hts⟩
  have hx := hC.1
  have hb := hC.2.1
  have hr := B.returns
  have hlocks := B.notSynchronized
  have hin0 : ∀ w ∈ wsX00, w ∈ wsX1_partOf := by decide +kernel
  have hin1 : ∀ w ∈ wsX10, w ∈ wsX1_partOf := by decide +kernel
  have hl := lv_entry ([.ref (ad 0), .ref (ad (3 * k + 9)), .int p0, .int p1]) (n := 8) (Nat.le_of_ble_eq_true rfl)
  rw [lg_entry_eq]
  generalize (lg_sl ([.ref (ad 0), .ref (ad (3 * k + 9)), .int p0, .int p1]) ++ List.replicate (8 - (lg_sl ([.ref (ad 0), .ref (ad (3 * k + 9)), .int p0, .int p1])).length) Slot.unset).toArray = ls at hl ⊢
  have hl : lv_has ls 8 [(0, .ref (ad 0)), (1, .ref (ad (3 * k + 9))), (2, .int p0), (3, .int p1)] := hl
  refine lv_aload_n hx hb dX1_partOf_0 rfl (lv_at hl 0 rfl) ?_
  refine g_calli hY (g_runV (n := 0) (q := (RX1, TX1, 5)) (r := 0) hC (c_X1_allAreas l G ad σ n τ) gX1_partOf_X1_allAreas rfl ⟨rfl, rfl⟩ (by decide +kernel) ⟨Nat.le_of_ble_eq_true rfl, Nat.le_of_ble_eq_true rfl⟩ hY (by omega) rfl (ci := 1) rfl rfl hl.1 rfl (Nat.le_of_ble_eq_true rfl) dX1_partOf_1 ⟨Nat.le_of_ble_eq_true rfl, Nat.le_of_ble_eq_true rfl⟩) (fun r1 H locs h2 hY => ?_)
  subst h2
  refine lv_istore (lv' := [(4, .int (aaP σ 6)), (0, .ref (ad 0)), (1, .ref (ad (3 * k + 9))), (2, .int p0), (3, .int p1)]) hx hb dX1_partOf_4 hl (by decide) rfl (fun ls hl => ?_)
  refine lv_iload hx hb dX1_partOf_6 (lv_at hl 0 rfl) ?_
  refine b_if_gt (tgt := 13) hx hb dX1_partOf_8 (by decide) (fun (h3 : 0 < (aaP σ 6).toInt) => ?_) (fun (h3 : (aaP σ 6).toInt ≤ 0) => ?_)
  · refine lv_aload_n hx hb dX1_partOf_13 rfl (lv_at hl 2 rfl) ?_
    refine lv_iload_n hx hb dX1_partOf_14 rfl (lv_at hl 3 rfl) ?_
    refine g_calli hY (g_runV (n := 1) (q := (RX0, TX0, 12)) (r := 3 * k + 9) hC (c_X0_daysIn l G ad σ n τ k hk p0) gX1_partOf_X0_daysIn rfl ⟨rfl, rfl⟩ (by decide +kernel) ⟨Nat.le_of_ble_eq_true rfl, Nat.le_of_ble_eq_true rfl⟩ hY (r_lt hk) (ct_L k) (ci := 0) rfl rfl hl.1 rfl (Nat.le_of_ble_eq_true rfl) dX1_partOf_15 ⟨Nat.le_of_ble_eq_true rfl, Nat.le_of_ble_eq_true rfl⟩) (fun r4 H locs h5 hY => ?_)
    subst h5
    refine lv_istore (lv' := [(5, .int (diF σ k p0)), (4, .int (aaP σ 6)), (0, .ref (ad 0)), (1, .ref (ad (3 * k + 9))), (2, .int p0), (3, .int p1)]) hx hb dX1_partOf_18 hl (by decide) rfl (fun ls hl => ?_)
    refine lv_iload_n hx hb dX1_partOf_20 rfl (lv_at hl 5 rfl) ?_
    refine lv_i2l hx hb dX1_partOf_21 rfl ?_
    refine lv_aload_n hx hb dX1_partOf_22 rfl (lv_at hl 2 rfl) ?_
    refine gtV_areas hC hin1 hY (by decide +kernel) dX1_partOf_23 ?_
    refine lv_aload_n hx hb dX1_partOf_26 rfl (lv_at hl 3 rfl) ?_
    refine gtN_unit hC hin0 hY (k := k) hk (by decide) dX1_partOf_27 ?_
    refine g_calli hY (g_runS (n := 2) hC (c_X1_valueAtA l G ad σ n τ (σ 3 k)) gX1_partOf_X1_valueAt rfl ⟨rfl, rfl⟩ (by decide +kernel) ⟨Nat.le_of_ble_eq_true rfl, Nat.le_of_ble_eq_true rfl⟩ hY rfl hl.1 rfl (Nat.le_of_ble_eq_true rfl) dX1_partOf_30 ⟨Nat.le_of_ble_eq_true rfl, Nat.le_of_ble_eq_true rfl⟩) (fun r6 H locs h7 hY => ?_)
    subst h7
    refine lv_i2l hx hb dX1_partOf_33 rfl ?_
    refine lv_lmul hx hb dX1_partOf_34 ?_
    refine lv_iload hx hb dX1_partOf_35 (lv_at hl 0 rfl) ?_
    refine lv_i2l hx hb dX1_partOf_37 rfl ?_
    refine lv_lmul hx hb dX1_partOf_38 ?_
    refine lv_iload hx hb dX1_partOf_39 (lv_at hl 1 rfl) ?_
    refine lv_i2l hx hb dX1_partOf_41 rfl ?_
    refine lv_ldc2 (v := 360) hx hb hC.2.2.2.1 (hC.2.2.2.2 _ (by decide +kernel)) dX1_partOf_42 ?_
    refine lv_lmul hx hb dX1_partOf_45 ?_
    refine lv_ldiv hx hb dX1_partOf_46 (l_ne h3) ?_
    refine lv_lstore (lv' := [(6, .long (((p1.toInt64 * ((vaF (σ 0) 6 (σ 3 k)).toInt64)) * ((diF σ k p0).toInt64)) / (((aaP σ 6).toInt64) * 360))), (5, .int (diF σ k p0)), (4, .int (aaP σ 6)), (0, .ref (ad 0)), (1, .ref (ad (3 * k + 9))), (2, .int p0), (3, .int p1)]) hx hb dX1_partOf_47 hl (by decide) rfl (fun ls hl => ?_)
    refine lv_aload_n hx hb dX1_partOf_49 rfl (lv_at hl 4 rfl) ?_
    refine gtN_cap hC hin0 hY (k := k) hk (by decide) dX1_partOf_50 ?_
    refine lv_iconst (v := (-1)) hx hb dX1_partOf_53 (by decide) ?_
    refine b_icmp_ne (tgt := 61) hx hb dX1_partOf_54 (by decide) (fun (h8 : ¬ (σ 9 k).toInt = (-1)) => ?_) (fun (h8 : (σ 9 k).toInt = (-1)) => ?_)
    · refine lv_lload hx hb dX1_partOf_61 (lv_at hl 0 rfl) ?_
      refine lv_l2i hx hb dX1_partOf_63 rfl ?_
      refine lv_aload_n hx hb dX1_partOf_64 rfl (lv_at hl 4 rfl) ?_
      refine gtN_cap hC hin0 hY (k := k) hk (by decide) dX1_partOf_65 ?_
      refine lv_iload hx hb dX1_partOf_68 (lv_at hl 1 rfl) ?_
      refine lv_imul hx hb dX1_partOf_70 ?_
      refine lv_sipush (v := 360) hx hb dX1_partOf_71 (by decide) ?_
      refine lv_idiv hx hb dX1_partOf_74 (by decide) ?_
      refine va_mmin hx hb (hC.2.2.1.trans hl.1.symm) hC.2.2.2.1 (hC.2.2.2.2 _ (by decide +kernel)) (hC.2.2.2.2 _ (by decide +kernel)) (hC.2.2.2.2 _ (by decide +kernel)) (hC.2.2.2.2 _ (by decide +kernel)) (Nat.le_of_ble_eq_true rfl) (Nat.le_of_ble_eq_true rfl) (Nat.le_of_ble_eq_true rfl) (Nat.le_of_ble_eq_true rfl) dX1_partOf_75 ?_
      exact g_iret hC hr hlocks hY ⟨Nat.le_of_ble_eq_true rfl, Nat.le_of_ble_eq_true rfl⟩ dX1_partOf_78 (by unfold ptF; rw [if_pos (c := 0 < _) h3, if_neg h8]; rfl)
    · refine lv_lload hx hb dX1_partOf_57 (lv_at hl 0 rfl) ?_
      refine lv_l2i hx hb dX1_partOf_59 rfl ?_
      exact g_iret hC hr hlocks hY ⟨Nat.le_of_ble_eq_true rfl, Nat.le_of_ble_eq_true rfl⟩ dX1_partOf_60 (by unfold ptF; rw [if_pos (c := 0 < _) h3, if_pos h8])
  · refine lv_iconst (v := 0) hx hb dX1_partOf_11 (by decide) ?_
    exact g_iret hC hr hlocks hY ⟨Nat.le_of_ble_eq_true rfl, Nat.le_of_ble_eq_true rfl⟩ dX1_partOf_12 ((if_neg (by omega)).symm)

set_option maxHeartbeats 4000000 in
set_option maxRecDepth 100000 in
theorem c_X1_leases (l : Launch) (G : GG) (ad : Nat → Nat) (σ : St) (n : Nat) (τ : St)  : Met l yX1_leases wsX1_leases ({ frames := 0, cells := 0, slots := 0, locals := 0 }) (PcS G ad σ n τ [.ref (ad 0)]) (Qi G (3 * n + 9) ad (ctS G ad σ n τ) (fun r => r = nI n)) 0 0 (gF G) := by
  refine Met.ofW (cc := cX1_leases) (maxL := 1) (ret := (some .int)) (by decide) rfl ?_
  intro p e s m args below meth c s₁ B hml hv
  obtain ⟨rfl, hY⟩ := hv
  have hts := atoms_spec (ws := wsX1_leases) B.pre
  have hC : CallFix p m c cX1_leases 1 s _ wsX1_leases RX1 := ⟨B.exec, B.bytes, hml, findClass_of_methodNamed B.named, hts⟩
  have hx := hC.1
  have hb := hC.2.1
  have hr := B.returns
  have hlocks := B.notSynchronized
  have hin1 : ∀ w ∈ wsX10, w ∈ wsX1_leases := by decide +kernel
  have hl := lv_entry ([.ref (ad 0)]) (n := 1) (Nat.le_of_ble_eq_true rfl)
  rw [lg_entry_eq]
  generalize (lg_sl ([.ref (ad 0)]) ++ List.replicate (1 - (lg_sl ([.ref (ad 0)])).length) Slot.unset).toArray = ls at hl ⊢
  have hl : lv_has ls 1 [(0, .ref (ad 0))] := hl
  refine lv_aload_n hx hb dX1_leases_0 rfl (lv_at hl 0 rfl) ?_
  refine gtV_count hC hin1 hY (by decide +kernel) dX1_leases_1 ?_
  exact g_iret hC hr hlocks hY ⟨Nat.le_of_ble_eq_true rfl, Nat.le_of_ble_eq_true rfl⟩ dX1_leases_4 (rfl)
end
section
def cdArea (p0 p1 : Int32) : Int32 := if 0 ≤ p0.toInt ∧ p0.toInt < 6 then (if 0 ≤ p1.toInt ∧ p1.toInt ≤ 999 then 0 else 2) else 1
set_option maxHeartbeats 4000000 in
set_option maxRecDepth 100000 in
theorem c_X1_setArea (l : Launch) (G : GG) (ad : Nat → Nat) (σ : St) (n : Nat) (τ : St) (hst : l.stackTraces = false) (p0 p1 : Int32)  : vx_Met l yX1_setArea wsX1_setArea ({ frames := 8, cells := 6, slots := 36, locals := 160 }) (PcS G ad σ n τ [.ref (ad 0), .int p0, .int p1]) (Qi G (3 * n + 9) ad (ctS G ad (us σ 0 (ix p0) p1) n τ) (fun r => cdArea p0 p1 = 0 ∧ r = σ 0 (ix p0))) (XG G (3 * n + 9) ad (ctS G ad σ n τ) (fun E => exC E (cdArea p0 p1))) 6 36 (gF G) := by
  refine vx_ofW (cc := cX1_setArea) (maxL := 4) (ret := (some .int)) (by decide) rfl ?_
  intro p e s m args below meth c s₁ B hml hxt hv
  obtain ⟨rfl, hY⟩ := hv
  have hts := atoms_spec (ws := wsX1_setArea) B.pre
  have hC : CallFix p m c cX1_setArea 4 s _ wsX1_setArea RX1 := ⟨B.exec, B.bytes, hml, findClass_of_methodNamed B.named, hts⟩
  have hx := hC.1
  have hb := hC.2.1
  have hr := B.returns
  have hlocks := B.notSynchronized
  have hin1 : ∀ w ∈ wsX10, w ∈ wsX1_setArea := by decide +kernel
  have hl := lv_entry ([.ref (ad 0), .int p0, .int p1]) (n := 4) (Nat.le_of_ble_eq_true rfl)
  rw [lg_entry_eq]
  generalize (lg_sl ([.ref (ad 0), .int p0, .int p1]) ++ List.replicate (4 - (lg_sl ([.ref (ad 0), .int p0, .int p1])).length) Slot.unset).toArray = ls at hl ⊢
  have hl : lv_has ls 4 [(0, .ref (ad 0)), (1, .int p0), (2, .int p1)] := hl
  refine lv_iload_n hx hb dX1_setArea_0 rfl (lv_at hl 1 rfl) ?_
  refine lv_aload_n hx hb dX1_setArea_1 rfl (lv_at hl 0 rfl) ?_
  refine gtV_areas hC hin1 hY (by decide +kernel) dX1_setArea_2 ?_
  refine g_alen hC hY 1 (by omega) 0 rfl rfl (v := 6) rfl dX1_setArea_5 ?_
  refine gx_callv hY (gx_runS (n := 2) hC (c_X1_checkNumber l G ad σ n τ hst p0 6 6 rfl) gX1_setArea_X1_checkNumber rfl ⟨rfl, rfl⟩ (by decide +kernel) ⟨Nat.le_of_ble_eq_true rfl, Nat.le_of_ble_eq_true rfl⟩ hY rfl hl.1 rfl (Nat.le_of_ble_eq_true rfl) dX1_setArea_6 ⟨Nat.le_of_ble_eq_true rfl, Nat.le_of_ble_eq_true rfl⟩) hxt hlocks ⟨Nat.le_of_ble_eq_true rfl, Nat.le_of_ble_eq_true rfl⟩ (fun E h => Or.inl ⟨h.1, by have q := h.2; unfold cdArea; (repeat' split) <;> first | rfl | omega⟩) (fun H locs h2 hY => ?_)
  refine lv_iload_n hx hb dX1_setArea_9 rfl (lv_at hl 2 rfl) ?_
  refine lv_iconst (v := 0) hx hb dX1_setArea_10 (by decide) ?_
  refine lv_sipush (v := 999) hx hb dX1_setArea_11 (by decide) ?_
  refine gx_callv hY (gx_runS (n := 3) hC (c_X1_checkRange l G ad σ n τ hst p1 0 999 0 999 rfl rfl) gX1_setArea_X1_checkRange rfl ⟨rfl, rfl⟩ (by decide +kernel) ⟨Nat.le_of_ble_eq_true rfl, Nat.le_of_ble_eq_true rfl⟩ hY rfl hl.1 rfl (Nat.le_of_ble_eq_true rfl) dX1_setArea_14 ⟨Nat.le_of_ble_eq_true rfl, Nat.le_of_ble_eq_true rfl⟩) hxt hlocks ⟨Nat.le_of_ble_eq_true rfl, Nat.le_of_ble_eq_true rfl⟩ (fun E h => Or.inr <| Or.inl ⟨h.1, by have q := h.2; unfold cdArea; (repeat' split) <;> first | rfl | omega⟩) (fun H locs h4 hY => ?_)
  refine lv_aload_n hx hb dX1_setArea_17 rfl (lv_at hl 0 rfl) ?_
  refine gtV_areas hC hin1 hY (by decide +kernel) dX1_setArea_18 ?_
  refine lv_iload_n hx hb dX1_setArea_21 rfl (lv_at hl 1 rfl) ?_
  refine rdA0 hC hY h2 dX1_setArea_22 ?_
  refine lv_istore_n (lv' := [(3, .int (σ 0 (ix p0))), (0, .ref (ad 0)), (1, .int p0), (2, .int p1)]) hx hb dX1_setArea_23 rfl hl (by decide) rfl (fun ls hl => ?_)
  refine lv_aload_n hx hb dX1_setArea_24 rfl (lv_at hl 1 rfl) ?_
  refine gtV_areas hC hin1 hY (by decide +kernel) dX1_setArea_25 ?_
  refine lv_iload_n hx hb dX1_setArea_28 rfl (lv_at hl 2 rfl) ?_
  refine lv_iload_n hx hb dX1_setArea_29 rfl (lv_at hl 3 rfl) ?_
  refine wrA0 hC hY h2 dX1_setArea_30 (fun H locs hY => ?_)
  refine lv_iload_n hx hb dX1_setArea_31 rfl (lv_at hl 0 rfl) ?_
  exact vx_ret (g_iret hC hr hlocks hY ⟨Nat.le_of_ble_eq_true rfl, Nat.le_of_ble_eq_true rfl⟩ dX1_setArea_32 (⟨by unfold cdArea; (repeat' split) <;> first | rfl | omega, rfl⟩))

def cdIndex (p0 p1 : Int32) : Int32 := if 0 ≤ p0.toInt ∧ p0.toInt < 240 then (if 10 ≤ p1.toInt ∧ p1.toInt ≤ 999 then 0 else 2) else 1
set_option maxHeartbeats 4000000 in
set_option maxRecDepth 100000 in
theorem c_X1_setIndex (l : Launch) (G : GG) (ad : Nat → Nat) (σ : St) (n : Nat) (τ : St) (hst : l.stackTraces = false) (p0 p1 : Int32)  : vx_Met l yX1_setIndex wsX1_setIndex ({ frames := 8, cells := 6, slots := 36, locals := 160 }) (PcS G ad σ n τ [.ref (ad 0), .int p0, .int p1]) (Qi G (3 * n + 9) ad (ctS G ad (us σ 1 (ix p0) p1) n τ) (fun r => cdIndex p0 p1 = 0 ∧ r = σ 1 (ix p0))) (XG G (3 * n + 9) ad (ctS G ad σ n τ) (fun E => exC E (cdIndex p0 p1))) 6 36 (gF G) := by
  refine vx_ofW (cc := cX1_setIndex) (maxL := 4) (ret := (some .int)) (by decide) rfl ?_
  intro p e s m args below meth c s₁ B hml hxt hv
  obtain ⟨rfl, hY⟩ := hv
  have hts := atoms_spec (ws := wsX1_setIndex) B.pre
  have hC : CallFix p m c cX1_setIndex 4 s _ wsX1_setIndex RX1 := ⟨B.exec, B.bytes, hml, findClass_of_methodNamed B.named, hts⟩
  have hx := hC.1
  have hb := hC.2.1
  have hr := B.returns
  have hlocks := B.notSynchronized
  have hin1 : ∀ w ∈ wsX10, w ∈ wsX1_setIndex := by decide +kernel
  have hl := lv_entry ([.ref (ad 0), .int p0, .int p1]) (n := 4) (Nat.le_of_ble_eq_true rfl)
  rw [lg_entry_eq]
  generalize (lg_sl ([.ref (ad 0), .int p0, .int p1]) ++ List.replicate (4 - (lg_sl ([.ref (ad 0), .int p0, .int p1])).length) Slot.unset).toArray = ls at hl ⊢
  have hl : lv_has ls 4 [(0, .ref (ad 0)), (1, .int p0), (2, .int p1)] := hl
  refine lv_iload_n hx hb dX1_setIndex_0 rfl (lv_at hl 1 rfl) ?_
  refine lv_aload_n hx hb dX1_setIndex_1 rfl (lv_at hl 0 rfl) ?_
  refine gtV_indices hC hin1 hY (by decide +kernel) dX1_setIndex_2 ?_
  refine g_alen hC hY 2 (by omega) 0 rfl rfl (v := 240) rfl dX1_setIndex_5 ?_
  refine gx_callv hY (gx_runS (n := 2) hC (c_X1_checkNumber l G ad σ n τ hst p0 240 240 rfl) gX1_setIndex_X1_checkNumber rfl ⟨rfl, rfl⟩ (by decide +kernel) ⟨Nat.le_of_ble_eq_true rfl, Nat.le_of_ble_eq_true rfl⟩ hY rfl hl.1 rfl (Nat.le_of_ble_eq_true rfl) dX1_setIndex_6 ⟨Nat.le_of_ble_eq_true rfl, Nat.le_of_ble_eq_true rfl⟩) hxt hlocks ⟨Nat.le_of_ble_eq_true rfl, Nat.le_of_ble_eq_true rfl⟩ (fun E h => Or.inl ⟨h.1, by have q := h.2; unfold cdIndex; (repeat' split) <;> first | rfl | omega⟩) (fun H locs h2 hY => ?_)
  refine lv_iload_n hx hb dX1_setIndex_9 rfl (lv_at hl 2 rfl) ?_
  refine lv_bipush (v := 10) hx hb dX1_setIndex_10 (by decide) ?_
  refine lv_sipush (v := 999) hx hb dX1_setIndex_12 (by decide) ?_
  refine gx_callv hY (gx_runS (n := 3) hC (c_X1_checkRange l G ad σ n τ hst p1 10 999 10 999 rfl rfl) gX1_setIndex_X1_checkRange rfl ⟨rfl, rfl⟩ (by decide +kernel) ⟨Nat.le_of_ble_eq_true rfl, Nat.le_of_ble_eq_true rfl⟩ hY rfl hl.1 rfl (Nat.le_of_ble_eq_true rfl) dX1_setIndex_15 ⟨Nat.le_of_ble_eq_true rfl, Nat.le_of_ble_eq_true rfl⟩) hxt hlocks ⟨Nat.le_of_ble_eq_true rfl, Nat.le_of_ble_eq_true rfl⟩ (fun E h => Or.inr <| Or.inl ⟨h.1, by have q := h.2; unfold cdIndex; (repeat' split) <;> first | rfl | omega⟩) (fun H locs h4 hY => ?_)
  refine lv_aload_n hx hb dX1_setIndex_18 rfl (lv_at hl 0 rfl) ?_
  refine gtV_indices hC hin1 hY (by decide +kernel) dX1_setIndex_19 ?_
  refine lv_iload_n hx hb dX1_setIndex_22 rfl (lv_at hl 1 rfl) ?_
  refine rdA1 hC hY h2 dX1_setIndex_23 ?_
  refine lv_istore_n (lv' := [(3, .int (σ 1 (ix p0))), (0, .ref (ad 0)), (1, .int p0), (2, .int p1)]) hx hb dX1_setIndex_24 rfl hl (by decide) rfl (fun ls hl => ?_)
  refine lv_aload_n hx hb dX1_setIndex_25 rfl (lv_at hl 1 rfl) ?_
  refine gtV_indices hC hin1 hY (by decide +kernel) dX1_setIndex_26 ?_
  refine lv_iload_n hx hb dX1_setIndex_29 rfl (lv_at hl 2 rfl) ?_
  refine lv_iload_n hx hb dX1_setIndex_30 rfl (lv_at hl 3 rfl) ?_
  refine wrA1 hC hY h2 dX1_setIndex_31 (fun H locs hY => ?_)
  refine lv_iload_n hx hb dX1_setIndex_32 rfl (lv_at hl 0 rfl) ?_
  exact vx_ret (g_iret hC hr hlocks hY ⟨Nat.le_of_ble_eq_true rfl, Nat.le_of_ble_eq_true rfl⟩ dX1_setIndex_33 (⟨by unfold cdIndex; (repeat' split) <;> first | rfl | omega, rfl⟩))

def cdCost (p0 p1 : Int32) : Int32 := if 0 ≤ p0.toInt ∧ p0.toInt < 20 then (if 0 ≤ p1.toInt ∧ p1.toInt ≤ 999999 then 0 else 2) else 1
set_option maxHeartbeats 4000000 in
set_option maxRecDepth 100000 in
theorem c_X1_setCost (l : Launch) (G : GG) (ad : Nat → Nat) (σ : St) (n : Nat) (τ : St) (hst : l.stackTraces = false) (p0 p1 : Int32)  : vx_Met l yX1_setCost wsX1_setCost ({ frames := 8, cells := 6, slots := 36, locals := 160 }) (PcS G ad σ n τ [.ref (ad 0), .int p0, .int p1]) (Qi G (3 * n + 9) ad (ctS G ad (us σ 2 (ix p0) p1) n τ) (fun r => cdCost p0 p1 = 0 ∧ r = σ 2 (ix p0))) (XG G (3 * n + 9) ad (ctS G ad σ n τ) (fun E => exC E (cdCost p0 p1))) 6 36 (gF G) := by
  refine vx_ofW (cc := cX1_setCost) (maxL := 4) (ret := (some .int)) (by decide) rfl ?_
  intro p e s m args below meth c s₁ B hml hxt hv
  obtain ⟨rfl, hY⟩ := hv
  have hts := atoms_spec (ws := wsX1_setCost) B.pre
  have hC : CallFix p m c cX1_setCost 4 s _ wsX1_setCost RX1 := ⟨B.exec, B.bytes, hml, findClass_of_methodNamed B.named, hts⟩
  have hx := hC.1
  have hb := hC.2.1
  have hr := B.returns
  have hlocks := B.notSynchronized
  have hin1 : ∀ w ∈ wsX10, w ∈ wsX1_setCost := by decide +kernel
  have hl := lv_entry ([.ref (ad 0), .int p0, .int p1]) (n := 4) (Nat.le_of_ble_eq_true rfl)
  rw [lg_entry_eq]
  generalize (lg_sl ([.ref (ad 0), .int p0, .int p1]) ++ List.replicate (4 - (lg_sl ([.ref (ad 0), .int p0, .int p1])).length) Slot.unset).toArray = ls at hl ⊢
  have hl : lv_has ls 4 [(0, .ref (ad 0)), (1, .int p0), (2, .int p1)] := hl
  refine lv_iload_n hx hb dX1_setCost_0 rfl (lv_at hl 1 rfl) ?_
  refine lv_aload_n hx hb dX1_setCost_1 rfl (lv_at hl 0 rfl) ?_
  refine gtV_costs hC hin1 hY (by decide +kernel) dX1_setCost_2 ?_
  refine g_alen hC hY 3 (by omega) 0 rfl rfl (v := 20) rfl dX1_setCost_5 ?_
  refine gx_callv hY (gx_runS (n := 2) hC (c_X1_checkNumber l G ad σ n τ hst p0 20 20 rfl) gX1_setCost_X1_checkNumber rfl ⟨rfl, rfl⟩ (by decide +kernel) ⟨Nat.le_of_ble_eq_true rfl, Nat.le_of_ble_eq_true rfl⟩ hY rfl hl.1 rfl (Nat.le_of_ble_eq_true rfl) dX1_setCost_6 ⟨Nat.le_of_ble_eq_true rfl, Nat.le_of_ble_eq_true rfl⟩) hxt hlocks ⟨Nat.le_of_ble_eq_true rfl, Nat.le_of_ble_eq_true rfl⟩ (fun E h => Or.inl ⟨h.1, by have q := h.2; unfold cdCost; (repeat' split) <;> first | rfl | omega⟩) (fun H locs h2 hY => ?_)
  refine lv_iload_n hx hb dX1_setCost_9 rfl (lv_at hl 2 rfl) ?_
  refine lv_iconst (v := 0) hx hb dX1_setCost_10 (by decide) ?_
  refine lv_ldc (v := 999999) hx hb hC.2.2.2.1 (hC.2.2.2.2 _ (by decide +kernel)) dX1_setCost_11 ?_
  refine gx_callv hY (gx_runS (n := 3) hC (c_X1_checkRange l G ad σ n τ hst p1 0 999999 0 999999 rfl rfl) gX1_setCost_X1_checkRange rfl ⟨rfl, rfl⟩ (by decide +kernel) ⟨Nat.le_of_ble_eq_true rfl, Nat.le_of_ble_eq_true rfl⟩ hY rfl hl.1 rfl (Nat.le_of_ble_eq_true rfl) dX1_setCost_13 ⟨Nat.le_of_ble_eq_true rfl, Nat.le_of_ble_eq_true rfl⟩) hxt hlocks ⟨Nat.le_of_ble_eq_true rfl, Nat.le_of_ble_eq_true rfl⟩ (fun E h => Or.inr <| Or.inl ⟨h.1, by have q := h.2; unfold cdCost; (repeat' split) <;> first | rfl | omega⟩) (fun H locs h4 hY => ?_)
  refine lv_aload_n hx hb dX1_setCost_16 rfl (lv_at hl 0 rfl) ?_
  refine gtV_costs hC hin1 hY (by decide +kernel) dX1_setCost_17 ?_
  refine lv_iload_n hx hb dX1_setCost_20 rfl (lv_at hl 1 rfl) ?_
  refine rdA2 hC hY h2 dX1_setCost_21 ?_
  refine lv_istore_n (lv' := [(3, .int (σ 2 (ix p0))), (0, .ref (ad 0)), (1, .int p0), (2, .int p1)]) hx hb dX1_setCost_22 rfl hl (by decide) rfl (fun ls hl => ?_)
  refine lv_aload_n hx hb dX1_setCost_23 rfl (lv_at hl 1 rfl) ?_
  refine gtV_costs hC hin1 hY (by decide +kernel) dX1_setCost_24 ?_
  refine lv_iload_n hx hb dX1_setCost_27 rfl (lv_at hl 2 rfl) ?_
  refine lv_iload_n hx hb dX1_setCost_28 rfl (lv_at hl 3 rfl) ?_
  refine wrA2 hC hY h2 dX1_setCost_29 (fun H locs hY => ?_)
  refine lv_iload_n hx hb dX1_setCost_30 rfl (lv_at hl 0 rfl) ?_
  exact vx_ret (g_iret hC hr hlocks hY ⟨Nat.le_of_ble_eq_true rfl, Nat.le_of_ble_eq_true rfl⟩ dX1_setCost_31 (⟨by unfold cdCost; (repeat' split) <;> first | rfl | omega, rfl⟩))

def cdEnd (σ : St) (n : Nat) (p0 p1 : Int32) : Int32 := if 0 ≤ p0.toInt ∧ p0.toInt < (n : Int) then (if (σ 4 (ix p0)).toInt < p1.toInt ∧ p1.toInt < (σ 5 (ix p0)).toInt then 0 else 2) else 1
set_option maxHeartbeats 4000000 in
set_option maxRecDepth 100000 in
theorem c_X1_end (l : Launch) (G : GG) (ad : Nat → Nat) (σ : St) (n : Nat) (τ : St) (hst : l.stackTraces = false) (hn : n ≤ 24) (hI : ∀ k, k < n → okL σ k) (p0 p1 : Int32)  : vx_Met l yX1_end wsX1_end ({ frames := 8, cells := 6, slots := 36, locals := 160 }) (PcS G ad σ n τ [.ref (ad 0), .int p0, .int p1]) (Qi G (3 * n + 9) ad (ctS G ad (us σ 5 (ix p0) p1) n τ) (fun r => cdEnd σ n p0 p1 = 0 ∧ r = σ 5 (ix p0))) (XG G (3 * n + 9) ad (ctS G ad σ n τ) (fun E => exC E (cdEnd σ n p0 p1))) 6 36 (gF G) := by
  refine vx_ofW (cc := cX1_end) (maxL := 5) (ret := (some .int)) (by decide) rfl ?_
  intro p e s m args below meth c s₁ B hml hxt hv
  obtain ⟨rfl, hY⟩ := hv
  have hts := atoms_spec (ws := wsX1_end) B.pre
  have hC : CallFix p m c cX1_end 5 s _ wsX1_end RX1 := ⟨B.exec, B.bytes, hml, findClass_of_methodNamed B.named, hts⟩
  have hx := hC.1
  have hb := hC.2.1
  have hr := B.returns
  have hlocks := B.notSynchronized
  have hin0 : ∀ w ∈ wsX00, w ∈ wsX1_end := by decide +kernel
  have hin1 : ∀ w ∈ wsX10, w ∈ wsX1_end := by decide +kernel
  have hl := lv_entry ([.ref (ad 0), .int p0, .int p1]) (n := 5) (Nat.le_of_ble_eq_true rfl)
  rw [lg_entry_eq]
  generalize (lg_sl ([.ref (ad 0), .int p0, .int p1]) ++ List.replicate (5 - (lg_sl ([.ref (ad 0), .int p0, .int p1])).length) Slot.unset).toArray = ls at hl ⊢
  have hl : lv_has ls 5 [(0, .ref (ad 0)), (1, .int p0), (2, .int p1)] := hl
  refine lv_aload_n hx hb dX1_end_0 rfl (lv_at hl 0 rfl) ?_
  refine lv_iload_n hx hb dX1_end_1 rfl (lv_at hl 1 rfl) ?_
  refine gx_callq hY (gx_runV (n := 1) (q := (RX1, TX1, 5)) (r := 0) hC (c_X1_find l G ad σ n τ hst hn p0) gX1_end_X1_find rfl ⟨rfl, rfl⟩ (by decide +kernel) ⟨Nat.le_of_ble_eq_true rfl, Nat.le_of_ble_eq_true rfl⟩ hY (by omega) rfl (ci := 1) rfl rfl hl.1 rfl (Nat.le_of_ble_eq_true rfl) dX1_end_2 ⟨Nat.le_of_ble_eq_true rfl, Nat.le_of_ble_eq_true rfl⟩) hxt hlocks ⟨Nat.le_of_ble_eq_true rfl, Nat.le_of_ble_eq_true rfl⟩ (fun E h => Or.inl ⟨h.1, by have q := h.2; unfold cdEnd; (repeat' split) <;> first | rfl | omega⟩) (fun r1 H locs h2 hY => ?_)
  obtain ⟨rfl, h3⟩ := h2
  refine lv_astore_n (lv' := [(3, .ref (ad (3 * ix p0 + 9))), (0, .ref (ad 0)), (1, .int p0), (2, .int p1)]) hx hb dX1_end_5 rfl hl (by decide) rfl (fun ls hl => ?_)
  refine lv_iload_n hx hb dX1_end_6 rfl (lv_at hl 3 rfl) ?_
  refine lv_aload_n hx hb dX1_end_7 rfl (lv_at hl 0 rfl) ?_
  refine gtN_from hC hin0 hY (k := ix p0) (ix_lt h3) (by decide) dX1_end_8 ?_
  refine lv_iconst (v := 1) hx hb dX1_end_11 (by decide) ?_
  refine lv_iadd hx hb dX1_end_12 ?_
  refine lv_aload_n hx hb dX1_end_13 rfl (lv_at hl 0 rfl) ?_
  refine gtN_to hC hin0 hY (k := ix p0) (ix_lt h3) (by decide) dX1_end_14 ?_
  refine lv_iconst (v := 1) hx hb dX1_end_17 (by decide) ?_
  refine lv_isub hx hb dX1_end_18 ?_
  refine gx_callv hY (gx_runS (n := 3) hC (c_X1_checkRange l G ad σ n τ hst p1 ((σ 4 (ix p0)) + 1) ((σ 5 (ix p0)) - 1) ((σ 4 (ix p0)).toInt + 1) ((σ 5 (ix p0)).toInt - 1) (ok_f1 (hI _ (ix_lt h3))) (ok_t1 (hI _ (ix_lt h3)))) gX1_end_X1_checkRange rfl ⟨rfl, rfl⟩ (by decide +kernel) ⟨Nat.le_of_ble_eq_true rfl, Nat.le_of_ble_eq_true rfl⟩ hY rfl hl.1 rfl (Nat.le_of_ble_eq_true rfl) dX1_end_19 ⟨Nat.le_of_ble_eq_true rfl, Nat.le_of_ble_eq_true rfl⟩) hxt hlocks ⟨Nat.le_of_ble_eq_true rfl, Nat.le_of_ble_eq_true rfl⟩ (fun E h => Or.inr <| Or.inl ⟨h.1, by have q := h.2; unfold cdEnd; (repeat' split) <;> first | rfl | omega⟩) (fun H locs h5 hY => ?_)
  refine lv_aload_n hx hb dX1_end_22 rfl (lv_at hl 0 rfl) ?_
  refine gtN_to hC hin0 hY (k := ix p0) (ix_lt h3) (by decide) dX1_end_23 ?_
  refine lv_istore (lv' := [(4, .int (σ 5 (ix p0))), (3, .ref (ad (3 * ix p0 + 9))), (0, .ref (ad 0)), (1, .int p0), (2, .int p1)]) hx hb dX1_end_26 hl (by decide) rfl (fun ls hl => ?_)
  refine lv_aload_n hx hb dX1_end_28 rfl (lv_at hl 1 rfl) ?_
  refine lv_iload_n hx hb dX1_end_29 rfl (lv_at hl 4 rfl) ?_
  refine ptN_to hC hin0 hY (k := ix p0) (ix_lt h3) (by decide) dX1_end_30 (fun H locs hY => ?_)
  refine lv_iload hx hb dX1_end_33 (lv_at hl 0 rfl) ?_
  exact vx_ret (g_iret hC hr hlocks hY ⟨Nat.le_of_ble_eq_true rfl, Nat.le_of_ble_eq_true rfl⟩ dX1_end_35 (⟨by unfold cdEnd; (repeat' split) <;> first | rfl | omega, rfl⟩))

def cdStep (σ : St) (n : Nat) (p0 p1 p2 : Int32) : Int32 := if 0 ≤ p0.toInt ∧ p0.toInt < (n : Int) then (if ((σ 4 (ix p0)).toInt < p1.toInt ∧ p1.toInt < (σ 5 (ix p0)).toInt) ∧ 1 ≤ p2.toInt ∧ p2.toInt ≤ 99999 then (if plF σ (ix p0) p1 < 6 then 0 else 3) else 2) else 1
set_option maxHeartbeats 4000000 in
set_option maxRecDepth 100000 in
theorem c_X1_step (l : Launch) (G : GG) (ad : Nat → Nat) (σ : St) (n : Nat) (τ : St) (hst : l.stackTraces = false) (hn : n ≤ 24) (hI : ∀ k, k < n → okL σ k) (p0 p1 p2 : Int32)  : vx_Met l yX1_step wsX1_step ({ frames := 8, cells := 6, slots := 36, locals := 160 }) (PcS G ad σ n τ [.ref (ad 0), .int p0, .int p1, .int p2]) (Qi G (3 * n + 9) ad (ctS G ad (psS σ (ix p0) p1 p2) n τ) (fun r => cdStep σ n p0 p1 p2 = 0 ∧ r = psS σ (ix p0) p1 p2 12 (ix p0))) (XG G (3 * n + 9) ad (ctS G ad σ n τ) (fun E => exC E (cdStep σ n p0 p1 p2))) 6 36 (gF G) := by
  refine vx_ofW (cc := cX1_step) (maxL := 5) (ret := (some .int)) (by decide) rfl ?_
  intro p e s m args below meth c s₁ B hml hxt hv
  obtain ⟨rfl, hY⟩ := hv
  have hts := atoms_spec (ws := wsX1_step) B.pre
  have hC : CallFix p m c cX1_step 5 s _ wsX1_step RX1 := ⟨B.exec, B.bytes, hml, findClass_of_methodNamed B.named, hts⟩
  have hx := hC.1
  have hb := hC.2.1
  have hr := B.returns
  have hlocks := B.notSynchronized
  have hin0 : ∀ w ∈ wsX00, w ∈ wsX1_step := by decide +kernel
  have hin1 : ∀ w ∈ wsX10, w ∈ wsX1_step := by decide +kernel
  have hl := lv_entry ([.ref (ad 0), .int p0, .int p1, .int p2]) (n := 5) (Nat.le_of_ble_eq_true rfl)
  rw [lg_entry_eq]
  generalize (lg_sl ([.ref (ad 0), .int p0, .int p1, .int p2]) ++ List.replicate (5 - (lg_sl ([.ref (ad 0), .int p0, .int p1, .int p2])).length) Slot.unset).toArray = ls at hl ⊢
  have hl : lv_has ls 5 [(0, .ref (ad 0)), (1, .int p0), (2, .int p1), (3, .int p2)] := hl
  refine lv_aload_n hx hb dX1_step_0 rfl (lv_at hl 0 rfl) ?_
  refine lv_iload_n hx hb dX1_step_1 rfl (lv_at hl 1 rfl) ?_
  refine gx_callq hY (gx_runV (n := 1) (q := (RX1, TX1, 5)) (r := 0) hC (c_X1_find l G ad σ n τ hst hn p0) gX1_step_X1_find rfl ⟨rfl, rfl⟩ (by decide +kernel) ⟨Nat.le_of_ble_eq_true rfl, Nat.le_of_ble_eq_true rfl⟩ hY (by omega) rfl (ci := 1) rfl rfl hl.1 rfl (Nat.le_of_ble_eq_true rfl) dX1_step_2 ⟨Nat.le_of_ble_eq_true rfl, Nat.le_of_ble_eq_true rfl⟩) hxt hlocks ⟨Nat.le_of_ble_eq_true rfl, Nat.le_of_ble_eq_true rfl⟩ (fun E h => Or.inl ⟨h.1, by have q := h.2; unfold cdStep; (repeat' split) <;> first | rfl | omega⟩) (fun r1 H locs h2 hY => ?_)
  obtain ⟨rfl, h3⟩ := h2
  refine lv_astore (lv' := [(4, .ref (ad (3 * ix p0 + 9))), (0, .ref (ad 0)), (1, .int p0), (2, .int p1), (3, .int p2)]) hx hb dX1_step_5 hl (by decide) rfl (fun ls hl => ?_)
  refine lv_iload_n hx hb dX1_step_7 rfl (lv_at hl 3 rfl) ?_
  refine lv_aload hx hb dX1_step_8 (lv_at hl 0 rfl) ?_
  refine gtN_from hC hin0 hY (k := ix p0) (ix_lt h3) (by decide) dX1_step_10 ?_
  refine lv_iconst (v := 1) hx hb dX1_step_13 (by decide) ?_
  refine lv_iadd hx hb dX1_step_14 ?_
  refine lv_aload hx hb dX1_step_15 (lv_at hl 0 rfl) ?_
  refine gtN_to hC hin0 hY (k := ix p0) (ix_lt h3) (by decide) dX1_step_17 ?_
  refine lv_iconst (v := 1) hx hb dX1_step_20 (by decide) ?_
  refine lv_isub hx hb dX1_step_21 ?_
  refine gx_callv hY (gx_runS (n := 3) hC (c_X1_checkRange l G ad σ n τ hst p1 ((σ 4 (ix p0)) + 1) ((σ 5 (ix p0)) - 1) ((σ 4 (ix p0)).toInt + 1) ((σ 5 (ix p0)).toInt - 1) (ok_f1 (hI _ (ix_lt h3))) (ok_t1 (hI _ (ix_lt h3)))) gX1_step_X1_checkRange rfl ⟨rfl, rfl⟩ (by decide +kernel) ⟨Nat.le_of_ble_eq_true rfl, Nat.le_of_ble_eq_true rfl⟩ hY rfl hl.1 rfl (Nat.le_of_ble_eq_true rfl) dX1_step_22 ⟨Nat.le_of_ble_eq_true rfl, Nat.le_of_ble_eq_true rfl⟩) hxt hlocks ⟨Nat.le_of_ble_eq_true rfl, Nat.le_of_ble_eq_true rfl⟩ (fun E h => Or.inr <| Or.inl ⟨h.1, by have q := h.2; unfold cdStep; (repeat' split) <;> first | rfl | omega⟩) (fun H locs h5 hY => ?_)
  refine lv_iload_n hx hb dX1_step_25 rfl (lv_at hl 4 rfl) ?_
  refine lv_iconst (v := 1) hx hb dX1_step_26 (by decide) ?_
  refine lv_ldc (v := 99999) hx hb hC.2.2.2.1 (hC.2.2.2.2 _ (by decide +kernel)) dX1_step_27 ?_
  refine gx_callv hY (gx_runS (n := 3) hC (c_X1_checkRange l G ad σ n τ hst p2 1 99999 1 99999 rfl rfl) gX1_step_X1_checkRange rfl ⟨rfl, rfl⟩ (by decide +kernel) ⟨Nat.le_of_ble_eq_true rfl, Nat.le_of_ble_eq_true rfl⟩ hY rfl hl.1 rfl (Nat.le_of_ble_eq_true rfl) dX1_step_29 ⟨Nat.le_of_ble_eq_true rfl, Nat.le_of_ble_eq_true rfl⟩) hxt hlocks ⟨Nat.le_of_ble_eq_true rfl, Nat.le_of_ble_eq_true rfl⟩ (fun E h => Or.inr <| Or.inl ⟨h.1, by have q := h.2; unfold cdStep; (repeat' split) <;> first | rfl | omega⟩) (fun H locs h7 hY => ?_)
  refine lv_aload hx hb dX1_step_32 (lv_at hl 0 rfl) ?_
  refine lv_iload_n hx hb dX1_step_34 rfl (lv_at hl 3 rfl) ?_
  refine lv_iload_n hx hb dX1_step_35 rfl (lv_at hl 4 rfl) ?_
  refine g_calli hY (g_runV (n := 2) (q := (RX0, TX0, 12)) (r := 3 * ix p0 + 9) hC (c_X0_putStep l G ad σ n τ (ix p0) (ix_lt h3) p1 p2 (okL_s (hI _ (ix_lt h3)))) gX1_step_X0_putStep rfl ⟨rfl, rfl⟩ (by decide +kernel) ⟨Nat.le_of_ble_eq_true rfl, Nat.le_of_ble_eq_true rfl⟩ hY (r_lt (ix_lt h3)) (ct_L (ix p0)) (ci := 0) rfl rfl hl.1 rfl (Nat.le_of_ble_eq_true rfl) dX1_step_36 ⟨Nat.le_of_ble_eq_true rfl, Nat.le_of_ble_eq_true rfl⟩) (fun r8 H locs h9 hY => ?_)
  rcases h9 with ⟨rfl, h10⟩ | ⟨rfl, h10⟩
  · refine b_if_ne (tgt := 52) hx hb dX1_step_39 (by decide) (fun _ => ?_) (fun h => absurd h (by decide))
    refine lv_aload hx hb dX1_step_52 (lv_at hl 0 rfl) ?_
    refine gtN_steps hC hin0 hY (k := ix p0) (ix_lt h3) (by decide) dX1_step_54 ?_
    exact vx_ret (g_iret hC hr hlocks hY ⟨Nat.le_of_ble_eq_true rfl, Nat.le_of_ble_eq_true rfl⟩ dX1_step_57 (⟨by unfold cdStep; (repeat' split) <;> first | rfl | omega, rfl⟩))
  · refine b_if_ne (tgt := 52) hx hb dX1_step_39 (by decide) (fun h => absurd h (by decide)) (fun _ => ?_)
    rw [show psS σ (ix p0) p1 p2 = σ from if_neg h10] at hY
    exact g_throw hC hst hY hxt hlocks (E := xS) (text := "no more steps") (by decide +kernel) (by decide +kernel) (by decide +kernel) (by decide) (fun w h => List.mem_cons_of_mem _ (List.mem_append_left _ (List.mem_append_left _ (List.mem_append_right _ h)))) at_S1 at_G1 hY.2.2.2.2.2.1.2.2 hl.1 dX1_step_42 dX1_step_45 dX1_step_46 dX1_step_48 dX1_step_51 ⟨Nat.le_of_ble_eq_true rfl, Nat.le_of_ble_eq_true rfl, Nat.le_of_ble_eq_true rfl, Nat.le_of_ble_eq_true rfl⟩ ⟨Nat.le_of_ble_eq_true rfl, Nat.le_of_ble_eq_true rfl⟩ (Or.inr (Or.inr ⟨rfl, by unfold cdStep; (repeat' split) <;> first | rfl | omega⟩))

def cdTerms (n : Nat) (p0 p1 p2 : Int32) : Int32 := if 0 ≤ p0.toInt ∧ p0.toInt < (n : Int) then (if (0 ≤ p1.toInt ∧ p1.toInt ≤ 720) ∧ (p2.toInt = 0 ∨ (30 ≤ p2.toInt ∧ p2.toInt ≤ 1800)) then 0 else 2) else 1
set_option maxHeartbeats 4000000 in
set_option maxRecDepth 100000 in
theorem c_X1_setTerms (l : Launch) (G : GG) (ad : Nat → Nat) (σ : St) (n : Nat) (τ : St) (hst : l.stackTraces = false) (hn : n ≤ 24) (p0 p1 p2 : Int32)  : vx_Met l yX1_setTerms wsX1_setTerms ({ frames := 8, cells := 6, slots := 36, locals := 160 }) (PcS G ad σ n τ [.ref (ad 0), .int p0, .int p1, .int p2]) (Qv G (3 * n + 9) ad (ctS G ad (us (us σ 7 (ix p0) p1) 8 (ix p0) p2) n τ) (cdTerms n p0 p1 p2 = 0)) (XG G (3 * n + 9) ad (ctS G ad σ n τ) (fun E => exC E (cdTerms n p0 p1 p2))) 6 36 (gF G) := by
  refine vx_ofW (cc := cX1_setTerms) (maxL := 5) (ret := none) (by decide) rfl ?_
  intro p e s m args below meth c s₁ B hml hxt hv
  obtain ⟨rfl, hY⟩ := hv
  have hts := atoms_spec (ws := wsX1_setTerms) B.pre
  have hC : CallFix p m c cX1_setTerms 5 s _ wsX1_setTerms RX1 := ⟨B.exec, B.bytes, hml, findClass_of_methodNamed B.named, hts⟩
  have hx := hC.1
  have hb := hC.2.1
  have hr := B.returns
  have hlocks := B.notSynchronized
  have hin0 : ∀ w ∈ wsX00, w ∈ wsX1_setTerms := by decide +kernel
  have hin1 : ∀ w ∈ wsX10, w ∈ wsX1_setTerms := by decide +kernel
  have hl := lv_entry ([.ref (ad 0), .int p0, .int p1, .int p2]) (n := 5) (Nat.le_of_ble_eq_true rfl)
  rw [lg_entry_eq]
  generalize (lg_sl ([.ref (ad 0), .int p0, .int p1, .int p2]) ++ List.replicate (5 - (lg_sl ([.ref (ad 0), .int p0, .int p1, .int p2])).length) Slot.unset).toArray = ls at hl ⊢
  have hl : lv_has ls 5 [(0, .ref (ad 0)), (1, .int p0), (2, .int p1), (3, .int p2)] := hl
  refine lv_aload_n hx hb dX1_setTerms_0 rfl (lv_at hl 0 rfl) ?_
  refine lv_iload_n hx hb dX1_setTerms_1 rfl (lv_at hl 1 rfl) ?_
  refine gx_callq hY (gx_runV (n := 1) (q := (RX1, TX1, 5)) (r := 0) hC (c_X1_find l G ad σ n τ hst hn p0) gX1_setTerms_X1_find rfl ⟨rfl, rfl⟩ (by decide +kernel) ⟨Nat.le_of_ble_eq_true rfl, Nat.le_of_ble_eq_true rfl⟩ hY (by omega) rfl (ci := 1) rfl rfl hl.1 rfl (Nat.le_of_ble_eq_true rfl) dX1_setTerms_2 ⟨Nat.le_of_ble_eq_true rfl, Nat.le_of_ble_eq_true rfl⟩) hxt hlocks ⟨Nat.le_of_ble_eq_true rfl, Nat.le_of_ble_eq_true rfl⟩ (fun E h => Or.inl ⟨h.1, by have q := h.2; unfold cdTerms; (repeat' split) <;> first | rfl | omega⟩) (fun r1 H locs h2 hY => ?_)
  obtain ⟨rfl, h3⟩ := h2
  refine lv_astore (lv' := [(4, .ref (ad (3 * ix p0 + 9))), (0, .ref (ad 0)), (1, .int p0), (2, .int p1), (3, .int p2)]) hx hb dX1_setTerms_5 hl (by decide) rfl (fun ls hl => ?_)
  refine lv_iload_n hx hb dX1_setTerms_7 rfl (lv_at hl 3 rfl) ?_
  refine lv_iconst (v := 0) hx hb dX1_setTerms_8 (by decide) ?_
  refine lv_sipush (v := 720) hx hb dX1_setTerms_9 (by decide) ?_
  refine gx_callv hY (gx_runS (n := 3) hC (c_X1_checkRange l G ad σ n τ hst p1 0 720 0 720 rfl rfl) gX1_setTerms_X1_checkRange rfl ⟨rfl, rfl⟩ (by decide +kernel) ⟨Nat.le_of_ble_eq_true rfl, Nat.le_of_ble_eq_true rfl⟩ hY rfl hl.1 rfl (Nat.le_of_ble_eq_true rfl) dX1_setTerms_12 ⟨Nat.le_of_ble_eq_true rfl, Nat.le_of_ble_eq_true rfl⟩) hxt hlocks ⟨Nat.le_of_ble_eq_true rfl, Nat.le_of_ble_eq_true rfl⟩ (fun E h => Or.inr <| Or.inl ⟨h.1, by have q := h.2; unfold cdTerms; (repeat' split) <;> first | rfl | omega⟩) (fun H locs h5 hY => ?_)
  refine lv_iload_n hx hb dX1_setTerms_15 rfl (lv_at hl 4 rfl) ?_
  refine b_if_eq (tgt := 28) hx hb dX1_setTerms_16 (by decide) (fun (h6 : p2.toInt = 0) => ?_) (fun (h6 : ¬ p2.toInt = 0) => ?_)
  · refine lv_aload hx hb dX1_setTerms_28 (lv_at hl 0 rfl) ?_
    refine lv_iload_n hx hb dX1_setTerms_30 rfl (lv_at hl 3 rfl) ?_
    refine ptN_free hC hin0 hY (k := ix p0) (ix_lt h3) (by decide) dX1_setTerms_31 (fun H locs hY => ?_)
    refine lv_aload hx hb dX1_setTerms_34 (lv_at hl 0 rfl) ?_
    refine lv_iload_n hx hb dX1_setTerms_36 rfl (lv_at hl 4 rfl) ?_
    refine ptN_every hC hin0 hY (k := ix p0) (ix_lt h3) (by decide) dX1_setTerms_37 (fun H locs hY => ?_)
    exact vx_ret (g_vret hC hr hlocks hY ⟨Nat.le_of_ble_eq_true rfl, Nat.le_of_ble_eq_true rfl⟩ dX1_setTerms_40 (by unfold cdTerms; (repeat' split) <;> first | rfl | omega))
  · refine lv_iload_n hx hb dX1_setTerms_19 rfl (lv_at hl 4 rfl) ?_
    refine lv_bipush (v := 30) hx hb dX1_setTerms_20 (by decide) ?_
    refine lv_sipush (v := 1800) hx hb dX1_setTerms_22 (by decide) ?_
    refine gx_callv hY (gx_runS (n := 3) hC (c_X1_checkRange l G ad σ n τ hst p2 30 1800 30 1800 rfl rfl) gX1_setTerms_X1_checkRange rfl ⟨rfl, rfl⟩ (by decide +kernel) ⟨Nat.le_of_ble_eq_true rfl, Nat.le_of_ble_eq_true rfl⟩ hY rfl hl.1 rfl (Nat.le_of_ble_eq_true rfl) dX1_setTerms_25 ⟨Nat.le_of_ble_eq_true rfl, Nat.le_of_ble_eq_true rfl⟩) hxt hlocks ⟨Nat.le_of_ble_eq_true rfl, Nat.le_of_ble_eq_true rfl⟩ (fun E h => Or.inr <| Or.inl ⟨h.1, by have q := h.2; unfold cdTerms; (repeat' split) <;> first | rfl | omega⟩) (fun H locs h8 hY => ?_)
    refine lv_aload hx hb dX1_setTerms_28 (lv_at hl 0 rfl) ?_
    refine lv_iload_n hx hb dX1_setTerms_30 rfl (lv_at hl 3 rfl) ?_
    refine ptN_free hC hin0 hY (k := ix p0) (ix_lt h3) (by decide) dX1_setTerms_31 (fun H locs hY => ?_)
    refine lv_aload hx hb dX1_setTerms_34 (lv_at hl 0 rfl) ?_
    refine lv_iload_n hx hb dX1_setTerms_36 rfl (lv_at hl 4 rfl) ?_
    refine ptN_every hC hin0 hY (k := ix p0) (ix_lt h3) (by decide) dX1_setTerms_37 (fun H locs hY => ?_)
    exact vx_ret (g_vret hC hr hlocks hY ⟨Nat.le_of_ble_eq_true rfl, Nat.le_of_ble_eq_true rfl⟩ dX1_setTerms_40 (by unfold cdTerms; (repeat' split) <;> first | rfl | omega))

def cdServ (n : Nat) (p0 p1 p2 : Int32) : Int32 := if 0 ≤ p0.toInt ∧ p0.toInt < (n : Int) then (if (-1 ≤ p1.toInt ∧ p1.toInt ≤ 999999) ∧ (0 ≤ p2.toInt ∧ p2.toInt ≤ 9999) then 0 else 2) else 1
set_option maxHeartbeats 4000000 in
set_option maxRecDepth 100000 in
theorem c_X1_setService (l : Launch) (G : GG) (ad : Nat → Nat) (σ : St) (n : Nat) (τ : St) (hst : l.stackTraces = false) (hn : n ≤ 24) (p0 p1 p2 : Int32)  : vx_Met l yX1_setService wsX1_setService ({ frames := 8, cells := 6, slots := 36, locals := 160 }) (PcS G ad σ n τ [.ref (ad 0), .int p0, .int p1, .int p2]) (Qv G (3 * n + 9) ad (ctS G ad (us (us σ 9 (ix p0) p1) 10 (ix p0) p2) n τ) (cdServ n p0 p1 p2 = 0)) (XG G (3 * n + 9) ad (ctS G ad σ n τ) (fun E => exC E (cdServ n p0 p1 p2))) 6 36 (gF G) := by
  refine vx_ofW (cc := cX1_setService) (maxL := 5) (ret := none) (by decide) rfl ?_
  intro p e s m args below meth c s₁ B hml hxt hv
  obtain ⟨rfl, hY⟩ := hv
  have hts := atoms_spec (ws := wsX1_setService) B.pre
  have hC : CallFix p m c cX1_setService 5 s _ wsX1_setService RX1 := ⟨B.exec, B.bytes, hml, findClass_of_methodNamed B.named, hts⟩
  have hx := hC.1
  have hb := hC.2.1
  have hr := B.returns
  have hlocks := B.notSynchronized
  have hin0 : ∀ w ∈ wsX00, w ∈ wsX1_setService := by decide +kernel
  have hin1 : ∀ w ∈ wsX10, w ∈ wsX1_setService := by decide +kernel
  have hl := lv_entry ([.ref (ad 0), .int p0, .int p1, .int p2]) (n := 5) (Nat.le_of_ble_eq_true rfl)
  rw [lg_entry_eq]
  generalize (lg_sl ([.ref (ad 0), .int p0, .int p1, .int p2]) ++ List.replicate (5 - (lg_sl ([.ref (ad 0), .int p0, .int p1, .int p2])).length) Slot.unset).toArray = ls at hl ⊢
  have hl : lv_has ls 5 [(0, .ref (ad 0)), (1, .int p0), (2, .int p1), (3, .int p2)] := hl
  refine lv_aload_n hx hb dX1_setService_0 rfl (lv_at hl 0 rfl) ?_
  refine lv_iload_n hx hb dX1_setService_1 rfl (lv_at hl 1 rfl) ?_
  refine gx_callq hY (gx_runV (n := 1) (q := (RX1, TX1, 5)) (r := 0) hC (c_X1_find l G ad σ n τ hst hn p0) gX1_setService_X1_find rfl ⟨rfl, rfl⟩ (by decide +kernel) ⟨Nat.le_of_ble_eq_true rfl, Nat.le_of_ble_eq_true rfl⟩ hY (by omega) rfl (ci := 1) rfl rfl hl.1 rfl (Nat.le_of_ble_eq_true rfl) dX1_setService_2 ⟨Nat.le_of_ble_eq_true rfl, Nat.le_of_ble_eq_true rfl⟩) hxt hlocks ⟨Nat.le_of_ble_eq_true rfl, Nat.le_of_ble_eq_true rfl⟩ (fun E h => Or.inl ⟨h.1, by have q := h.2; unfold cdServ; (repeat' split) <;> first | rfl | omega⟩) (fun r1 H locs h2 hY => ?_)
  obtain ⟨rfl, h3⟩ := h2
  refine lv_astore (lv' := [(4, .ref (ad (3 * ix p0 + 9))), (0, .ref (ad 0)), (1, .int p0), (2, .int p1), (3, .int p2)]) hx hb dX1_setService_5 hl (by decide) rfl (fun ls hl => ?_)
  refine lv_iload_n hx hb dX1_setService_7 rfl (lv_at hl 3 rfl) ?_
  refine lv_iconst (v := (-1)) hx hb dX1_setService_8 (by decide) ?_
  refine b_icmp_eq (tgt := 19) hx hb dX1_setService_9 (by decide) (fun (h4 : p1.toInt = (-1)) => ?_) (fun (h4 : ¬ p1.toInt = (-1)) => ?_)
  · refine lv_iload_n hx hb dX1_setService_19 rfl (lv_at hl 4 rfl) ?_
    refine lv_iconst (v := 0) hx hb dX1_setService_20 (by decide) ?_
    refine lv_sipush (v := 9999) hx hb dX1_setService_21 (by decide) ?_
    refine gx_callv hY (gx_runS (n := 3) hC (c_X1_checkRange l G ad σ n τ hst p2 0 9999 0 9999 rfl rfl) gX1_setService_X1_checkRange rfl ⟨rfl, rfl⟩ (by decide +kernel) ⟨Nat.le_of_ble_eq_true rfl, Nat.le_of_ble_eq_true rfl⟩ hY rfl hl.1 rfl (Nat.le_of_ble_eq_true rfl) dX1_setService_24 ⟨Nat.le_of_ble_eq_true rfl, Nat.le_of_ble_eq_true rfl⟩) hxt hlocks ⟨Nat.le_of_ble_eq_true rfl, Nat.le_of_ble_eq_true rfl⟩ (fun E h => Or.inr <| Or.inl ⟨h.1, by have q := h.2; unfold cdServ; (repeat' split) <;> first | rfl | omega⟩) (fun H locs h6 hY => ?_)
    refine lv_aload hx hb dX1_setService_27 (lv_at hl 0 rfl) ?_
    refine lv_iload_n hx hb dX1_setService_29 rfl (lv_at hl 3 rfl) ?_
    refine ptN_cap hC hin0 hY (k := ix p0) (ix_lt h3) (by decide) dX1_setService_30 (fun H locs hY => ?_)
    refine lv_aload hx hb dX1_setService_33 (lv_at hl 0 rfl) ?_
    refine lv_iload_n hx hb dX1_setService_35 rfl (lv_at hl 4 rfl) ?_
    refine ptN_prepaid hC hin0 hY (k := ix p0) (ix_lt h3) (by decide) dX1_setService_36 (fun H locs hY => ?_)
    exact vx_ret (g_vret hC hr hlocks hY ⟨Nat.le_of_ble_eq_true rfl, Nat.le_of_ble_eq_true rfl⟩ dX1_setService_39 (by unfold cdServ; (repeat' split) <;> first | rfl | omega))
  · refine lv_iload_n hx hb dX1_setService_12 rfl (lv_at hl 3 rfl) ?_
    refine lv_iconst (v := 0) hx hb dX1_setService_13 (by decide) ?_
    refine lv_ldc (v := 999999) hx hb hC.2.2.2.1 (hC.2.2.2.2 _ (by decide +kernel)) dX1_setService_14 ?_
    refine gx_callv hY (gx_runS (n := 3) hC (c_X1_checkRange l G ad σ n τ hst p1 0 999999 0 999999 rfl rfl) gX1_setService_X1_checkRange rfl ⟨rfl, rfl⟩ (by decide +kernel) ⟨Nat.le_of_ble_eq_true rfl, Nat.le_of_ble_eq_true rfl⟩ hY rfl hl.1 rfl (Nat.le_of_ble_eq_true rfl) dX1_setService_16 ⟨Nat.le_of_ble_eq_true rfl, Nat.le_of_ble_eq_true rfl⟩) hxt hlocks ⟨Nat.le_of_ble_eq_true rfl, Nat.le_of_ble_eq_true rfl⟩ (fun E h => Or.inr <| Or.inl ⟨h.1, by have q := h.2; unfold cdServ; (repeat' split) <;> first | rfl | omega⟩) (fun H locs h8 hY => ?_)
    refine lv_iload_n hx hb dX1_setService_19 rfl (lv_at hl 4 rfl) ?_
    refine lv_iconst (v := 0) hx hb dX1_setService_20 (by decide) ?_
    refine lv_sipush (v := 9999) hx hb dX1_setService_21 (by decide) ?_
    refine gx_callv hY (gx_runS (n := 3) hC (c_X1_checkRange l G ad σ n τ hst p2 0 9999 0 9999 rfl rfl) gX1_setService_X1_checkRange rfl ⟨rfl, rfl⟩ (by decide +kernel) ⟨Nat.le_of_ble_eq_true rfl, Nat.le_of_ble_eq_true rfl⟩ hY rfl hl.1 rfl (Nat.le_of_ble_eq_true rfl) dX1_setService_24 ⟨Nat.le_of_ble_eq_true rfl, Nat.le_of_ble_eq_true rfl⟩) hxt hlocks ⟨Nat.le_of_ble_eq_true rfl, Nat.le_of_ble_eq_true rfl⟩ (fun E h => Or.inr <| Or.inl ⟨h.1, by have q := h.2; unfold cdServ; (repeat' split) <;> first | rfl | omega⟩) (fun H locs h10 hY => ?_)
    refine lv_aload hx hb dX1_setService_27 (lv_at hl 0 rfl) ?_
    refine lv_iload_n hx hb dX1_setService_29 rfl (lv_at hl 3 rfl) ?_
    refine ptN_cap hC hin0 hY (k := ix p0) (ix_lt h3) (by decide) dX1_setService_30 (fun H locs hY => ?_)
    refine lv_aload hx hb dX1_setService_33 (lv_at hl 0 rfl) ?_
    refine lv_iload_n hx hb dX1_setService_35 rfl (lv_at hl 4 rfl) ?_
    refine ptN_prepaid hC hin0 hY (k := ix p0) (ix_lt h3) (by decide) dX1_setService_36 (fun H locs hY => ?_)
    exact vx_ret (g_vret hC hr hlocks hY ⟨Nat.le_of_ble_eq_true rfl, Nat.le_of_ble_eq_true rfl⟩ dX1_setService_39 (by unfold cdServ; (repeat' split) <;> first | rfl | omega))

def cdTop (σ : St) (n : Nat) (p0 p1 p2 : Int32) : Int32 := if 0 ≤ p0.toInt ∧ p0.toInt < (n : Int) then (if ((σ 4 (ix p0)).toInt ≤ p1.toInt ∧ p1.toInt < (σ 5 (ix p0)).toInt) ∧ 1 ≤ p2.toInt ∧ p2.toInt ≤ 6 then 0 else 2) else 1
abbrev tpV (σ : St) (k : Nat) (d t : Int32) : Int32 := mxF 0 (t * rfF σ k d - σ 11 k)
set_option maxHeartbeats 4000000 in
set_option maxRecDepth 100000 in
theorem c_X1_topUp (l : Launch) (G : GG) (ad : Nat → Nat) (σ : St) (n : Nat) (τ : St) (hst : l.stackTraces = false) (hn : n ≤ 24) (hI : ∀ k, k < n → okL σ k) (p0 p1 p2 : Int32)  : vx_Met l yX1_topUp wsX1_topUp ({ frames := 8, cells := 6, slots := 36, locals := 160 }) (PcS G ad σ n τ [.ref (ad 0), .int p0, .int p1, .int p2]) (Qi G (3 * n + 9) ad (ctS G ad (us σ 11 (ix p0) (σ 11 (ix p0) + tpV σ (ix p0) p1 p2)) n τ) (fun r => cdTop σ n p0 p1 p2 = 0 ∧ r = tpV σ (ix p0) p1 p2)) (XG G (3 * n + 9) ad (ctS G ad σ n τ) (fun E => exC E (cdTop σ n p0 p1 p2))) 6 36 (gF G) := by
  refine vx_ofW (cc := cX1_topUp) (maxL := 6) (ret := (some .int)) (by decide) rfl ?_
  intro p e s m args below meth c s₁ B hml hxt hv
  obtain ⟨rfl, hY⟩ := hv
  have hts := atoms_spec (ws := wsX1_topUp) B.pre
  have hC : CallFix p m c cX1_topUp 6 s _ wsX1_topUp RX1 := ⟨B.exec, B.bytes, hml, findClass_of_methodNamed B.named, hts⟩
  have hx := hC.1
  have hb := hC.2.1
  have hr := B.returns
  have hlocks := B.notSynchronized
  have hin0 : ∀ w ∈ wsX00, w ∈ wsX1_topUp := by decide +kernel
  have hin1 : ∀ w ∈ wsX10, w ∈ wsX1_topUp := by decide +kernel
  have hl := lv_entry ([.ref (ad 0), .int p0, .int p1, .int p2]) (n := 6) (Nat.le_of_ble_eq_true rfl)
  rw [lg_entry_eq]
  generalize (lg_sl ([.ref (ad 0), .int p0, .int p1, .int p2]) ++ List.replicate (6 - (lg_sl ([.ref (ad 0), .int p0, .int p1, .int p2])).length) Slot.unset).toArray = ls at hl ⊢
  have hl : lv_has ls 6 [(0, .ref (ad 0)), (1, .int p0), (2, .int p1), (3, .int p2)] := hl
  refine lv_aload_n hx hb dX1_topUp_0 rfl (lv_at hl 0 rfl) ?_
  refine lv_iload_n hx hb dX1_topUp_1 rfl (lv_at hl 1 rfl) ?_
  refine gx_callq hY (gx_runV (n := 1) (q := (RX1, TX1, 5)) (r := 0) hC (c_X1_find l G ad σ n τ hst hn p0) gX1_topUp_X1_find rfl ⟨rfl, rfl⟩ (by decide +kernel) ⟨Nat.le_of_ble_eq_true rfl, Nat.le_of_ble_eq_true rfl⟩ hY (by omega) rfl (ci := 1) rfl rfl hl.1 rfl (Nat.le_of_ble_eq_true rfl) dX1_topUp_2 ⟨Nat.le_of_ble_eq_true rfl, Nat.le_of_ble_eq_true rfl⟩) hxt hlocks ⟨Nat.le_of_ble_eq_true rfl, Nat.le_of_ble_eq_true rfl⟩ (fun E h => Or.inl ⟨h.1, by have q := h.2; unfold cdTop; (repeat' split) <;> first | rfl | omega⟩) (fun r1 H locs h2 hY => ?_)
  obtain ⟨rfl, h3⟩ := h2
  refine lv_astore (lv' := [(4, .ref (ad (3 * ix p0 + 9))), (0, .ref (ad 0)), (1, .int p0), (2, .int p1), (3, .int p2)]) hx hb dX1_topUp_5 hl (by decide) rfl (fun ls hl => ?_)
  refine lv_iload_n hx hb dX1_topUp_7 rfl (lv_at hl 3 rfl) ?_
  refine lv_aload hx hb dX1_topUp_8 (lv_at hl 0 rfl) ?_
  refine gtN_from hC hin0 hY (k := ix p0) (ix_lt h3) (by decide) dX1_topUp_10 ?_
  refine lv_aload hx hb dX1_topUp_13 (lv_at hl 0 rfl) ?_
  refine gtN_to hC hin0 hY (k := ix p0) (ix_lt h3) (by decide) dX1_topUp_15 ?_
  refine lv_iconst (v := 1) hx hb dX1_topUp_18 (by decide) ?_
  refine lv_isub hx hb dX1_topUp_19 ?_
  refine gx_callv hY (gx_runS (n := 3) hC (c_X1_checkRange l G ad σ n τ hst p1 (σ 4 (ix p0)) ((σ 5 (ix p0)) - 1) ((σ 4 (ix p0)).toInt) ((σ 5 (ix p0)).toInt - 1) rfl (ok_t1 (hI _ (ix_lt h3)))) gX1_topUp_X1_checkRange rfl ⟨rfl, rfl⟩ (by decide +kernel) ⟨Nat.le_of_ble_eq_true rfl, Nat.le_of_ble_eq_true rfl⟩ hY rfl hl.1 rfl (Nat.le_of_ble_eq_true rfl) dX1_topUp_20 ⟨Nat.le_of_ble_eq_true rfl, Nat.le_of_ble_eq_true rfl⟩) hxt hlocks ⟨Nat.le_of_ble_eq_true rfl, Nat.le_of_ble_eq_true rfl⟩ (fun E h => Or.inr <| Or.inl ⟨h.1, by have q := h.2; unfold cdTop; (repeat' split) <;> first | rfl | omega⟩) (fun H locs h5 hY => ?_)
  refine lv_iload_n hx hb dX1_topUp_23 rfl (lv_at hl 4 rfl) ?_
  refine lv_iconst (v := 1) hx hb dX1_topUp_24 (by decide) ?_
  refine lv_bipush (v := 6) hx hb dX1_topUp_25 (by decide) ?_
  refine gx_callv hY (gx_runS (n := 3) hC (c_X1_checkRange l G ad σ n τ hst p2 1 6 1 6 rfl rfl) gX1_topUp_X1_checkRange rfl ⟨rfl, rfl⟩ (by decide +kernel) ⟨Nat.le_of_ble_eq_true rfl, Nat.le_of_ble_eq_true rfl⟩ hY rfl hl.1 rfl (Nat.le_of_ble_eq_true rfl) dX1_topUp_27 ⟨Nat.le_of_ble_eq_true rfl, Nat.le_of_ble_eq_true rfl⟩) hxt hlocks ⟨Nat.le_of_ble_eq_true rfl, Nat.le_of_ble_eq_true rfl⟩ (fun E h => Or.inr <| Or.inl ⟨h.1, by have q := h.2; unfold cdTop; (repeat' split) <;> first | rfl | omega⟩) (fun H locs h7 hY => ?_)
  refine lv_iconst (v := 0) hx hb dX1_topUp_30 (by decide) ?_
  refine lv_iload_n hx hb dX1_topUp_31 rfl (lv_at hl 4 rfl) ?_
  refine lv_aload_n hx hb dX1_topUp_32 rfl (lv_at hl 1 rfl) ?_
  refine lv_aload hx hb dX1_topUp_33 (lv_at hl 0 rfl) ?_
  refine lv_iload_n hx hb dX1_topUp_35 rfl (lv_at hl 3 rfl) ?_
  refine g_calli hY (g_runV (n := 2) (q := (RX1, TX1, 5)) (r := 0) hC (c_X1_rentFor l G ad σ n τ (ix p0) (ix_lt h3) p1 (hI _ (ix_lt h3)) (by have hq := (hI _ (ix_lt h3)); obtain ⟨-, ⟨q1, q2, q3⟩, -⟩ := hq; omega)) gX1_topUp_X1_rentFor rfl ⟨rfl, rfl⟩ (by decide +kernel) ⟨Nat.le_of_ble_eq_true rfl, Nat.le_of_ble_eq_true rfl⟩ hY (by omega) rfl (ci := 1) rfl rfl hl.1 rfl (Nat.le_of_ble_eq_true rfl) dX1_topUp_36 ⟨Nat.le_of_ble_eq_true rfl, Nat.le_of_ble_eq_true rfl⟩) (fun r8 H locs h9 hY => ?_)
  subst h9
  refine lv_imul hx hb dX1_topUp_39 ?_
  refine lv_aload hx hb dX1_topUp_40 (lv_at hl 0 rfl) ?_
  refine gtN_deposit hC hin0 hY (k := ix p0) (ix_lt h3) (by decide) dX1_topUp_42 ?_
  refine lv_isub hx hb dX1_topUp_45 ?_
  refine va_mmax hx hb (hC.2.2.1.trans hl.1.symm) hC.2.2.2.1 (hC.2.2.2.2 _ (by decide +kernel)) (hC.2.2.2.2 _ (by decide +kernel)) (hC.2.2.2.2 _ (by decide +kernel)) (hC.2.2.2.2 _ (by decide +kernel)) (Nat.le_of_ble_eq_true rfl) (Nat.le_of_ble_eq_true rfl) (Nat.le_of_ble_eq_true rfl) (Nat.le_of_ble_eq_true rfl) dX1_topUp_46 ?_
  refine lv_istore (lv' := [(5, .int (if 0 < ((p2 * (rfF σ (ix p0) p1)) - (σ 11 (ix p0))) then ((p2 * (rfF σ (ix p0) p1)) - (σ 11 (ix p0))) else 0)), (4, .ref (ad (3 * ix p0 + 9))), (0, .ref (ad 0)), (1, .int p0), (2, .int p1), (3, .int p2)]) hx hb dX1_topUp_49 hl (by decide) rfl (fun ls hl => ?_)
  refine lv_aload hx hb dX1_topUp_51 (lv_at hl 1 rfl) ?_
  refine lv_dup hx hb dX1_topUp_53 rfl ?_
  refine gtN_deposit hC hin0 hY (k := ix p0) (ix_lt h3) (by decide) dX1_topUp_54 ?_
  refine lv_iload hx hb dX1_topUp_57 (lv_at hl 0 rfl) ?_
  refine lv_iadd hx hb dX1_topUp_59 ?_
  refine ptN_deposit hC hin0 hY (k := ix p0) (ix_lt h3) (by decide) dX1_topUp_60 (fun H locs hY => ?_)
  refine lv_iload hx hb dX1_topUp_63 (lv_at hl 0 rfl) ?_
  exact vx_ret (g_iret hC hr hlocks hY ⟨Nat.le_of_ble_eq_true rfl, Nat.le_of_ble_eq_true rfl⟩ dX1_topUp_65 (⟨by unfold cdTop; (repeat' split) <;> first | rfl | omega, rfl⟩))

def cdDraw (σ : St) (n : Nat) (p0 p1 : Int32) : Int32 := if 0 ≤ p0.toInt ∧ p0.toInt < (n : Int) then (if 1 ≤ p1.toInt ∧ p1.toInt ≤ 999999 then (if (σ 11 (ix p0)).toInt < p1.toInt then 3 else 0) else 2) else 1
set_option maxHeartbeats 4000000 in
set_option maxRecDepth 100000 in
theorem c_X1_draw (l : Launch) (G : GG) (ad : Nat → Nat) (σ : St) (n : Nat) (τ : St) (hst : l.stackTraces = false) (hn : n ≤ 24) (p0 p1 : Int32)  : vx_Met l yX1_draw wsX1_draw ({ frames := 8, cells := 6, slots := 36, locals := 160 }) (PcS G ad σ n τ [.ref (ad 0), .int p0, .int p1]) (Qi G (3 * n + 9) ad (ctS G ad (us σ 11 (ix p0) (σ 11 (ix p0) - p1)) n τ) (fun r => cdDraw σ n p0 p1 = 0 ∧ r = us σ 11 (ix p0) (σ 11 (ix p0) - p1) 11 (ix p0))) (XG G (3 * n + 9) ad (ctS G ad σ n τ) (fun E => exC E (cdDraw σ n p0 p1))) 6 36 (gF G) := by
  refine vx_ofW (cc := cX1_draw) (maxL := 4) (ret := (some .int)) (by decide) rfl ?_
  intro p e s m args below meth c s₁ B hml hxt hv
  obtain ⟨rfl, hY⟩ := hv
  have hts := atoms_spec (ws := wsX1_draw) B.pre
  have hC : CallFix p m c cX1_draw 4 s _ wsX1_draw RX1 := ⟨B.exec, B.bytes, hml, findClass_of_methodNamed B.named, hts⟩
  have hx := hC.1
  have hb := hC.2.1
  have hr := B.returns
  have hlocks := B.notSynchronized
  have hin0 : ∀ w ∈ wsX00, w ∈ wsX1_draw := by decide +kernel
  have hin1 : ∀ w ∈ wsX10, w ∈ wsX1_draw := by decide +kernel
  have hl := lv_entry ([.ref (ad 0), .int p0, .int p1]) (n := 4) (Nat.le_of_ble_eq_true rfl)
  rw [lg_entry_eq]
  generalize (lg_sl ([.ref (ad 0), .int p0, .int p1]) ++ List.replicate (4 - (lg_sl ([.ref (ad 0), .int p0, .int p1])).length) Slot.unset).toArray = ls at hl ⊢
  have hl : lv_has ls 4 [(0, .ref (ad 0)), (1, .int p0), (2, .int p1)] := hl
  refine lv_aload_n hx hb dX1_draw_0 rfl (lv_at hl 0 rfl) ?_
  refine lv_iload_n hx hb dX1_draw_1 rfl (lv_at hl 1 rfl) ?_
  refine gx_callq hY (gx_runV (n := 1) (q := (RX1, TX1, 5)) (r := 0) hC (c_X1_find l G ad σ n τ hst hn p0) gX1_draw_X1_find rfl ⟨rfl, rfl⟩ (by decide +kernel) ⟨Nat.le_of_ble_eq_true rfl, Nat.le_of_ble_eq_true rfl⟩ hY (by omega) rfl (ci := 1) rfl rfl hl.1 rfl (Nat.le_of_ble_eq_true rfl) dX1_draw_2 ⟨Nat.le_of_ble_eq_true rfl, Nat.le_of_ble_eq_true rfl⟩) hxt hlocks ⟨Nat.le_of_ble_eq_true rfl, Nat.le_of_ble_eq_true rfl⟩ (fun E h => Or.inl ⟨h.1, by have q := h.2; unfold cdDraw; (repeat' split) <;> first | rfl | omega⟩) (fun r1 H locs h2 hY => ?_)
  obtain ⟨rfl, h3⟩ := h2
  refine lv_astore_n (lv' := [(3, .ref (ad (3 * ix p0 + 9))), (0, .ref (ad 0)), (1, .int p0), (2, .int p1)]) hx hb dX1_draw_5 rfl hl (by decide) rfl (fun ls hl => ?_)
  refine lv_iload_n hx hb dX1_draw_6 rfl (lv_at hl 3 rfl) ?_
  refine lv_iconst (v := 1) hx hb dX1_draw_7 (by decide) ?_
  refine lv_ldc (v := 999999) hx hb hC.2.2.2.1 (hC.2.2.2.2 _ (by decide +kernel)) dX1_draw_8 ?_
  refine gx_callv hY (gx_runS (n := 3) hC (c_X1_checkRange l G ad σ n τ hst p1 1 999999 1 999999 rfl rfl) gX1_draw_X1_checkRange rfl ⟨rfl, rfl⟩ (by decide +kernel) ⟨Nat.le_of_ble_eq_true rfl, Nat.le_of_ble_eq_true rfl⟩ hY rfl hl.1 rfl (Nat.le_of_ble_eq_true rfl) dX1_draw_10 ⟨Nat.le_of_ble_eq_true rfl, Nat.le_of_ble_eq_true rfl⟩) hxt hlocks ⟨Nat.le_of_ble_eq_true rfl, Nat.le_of_ble_eq_true rfl⟩ (fun E h => Or.inr <| Or.inl ⟨h.1, by have q := h.2; unfold cdDraw; (repeat' split) <;> first | rfl | omega⟩) (fun H locs h5 hY => ?_)
  refine lv_aload_n hx hb dX1_draw_13 rfl (lv_at hl 0 rfl) ?_
  refine gtN_deposit hC hin0 hY (k := ix p0) (ix_lt h3) (by decide) dX1_draw_14 ?_
  refine lv_iload_n hx hb dX1_draw_17 rfl (lv_at hl 3 rfl) ?_
  refine b_icmp_ge (tgt := 31) hx hb dX1_draw_18 (by decide) (fun (h6 : p1.toInt ≤ (σ 11 (ix p0)).toInt) => ?_) (fun (h6 : (σ 11 (ix p0)).toInt < p1.toInt) => ?_)
  · refine lv_aload_n hx hb dX1_draw_31 rfl (lv_at hl 0 rfl) ?_
    refine lv_dup hx hb dX1_draw_32 rfl ?_
    refine gtN_deposit hC hin0 hY (k := ix p0) (ix_lt h3) (by decide) dX1_draw_33 ?_
    refine lv_iload_n hx hb dX1_draw_36 rfl (lv_at hl 3 rfl) ?_
    refine lv_isub hx hb dX1_draw_37 ?_
    refine ptN_deposit hC hin0 hY (k := ix p0) (ix_lt h3) (by decide) dX1_draw_38 (fun H locs hY => ?_)
    refine lv_aload_n hx hb dX1_draw_41 rfl (lv_at hl 0 rfl) ?_
    refine gtN_deposit hC hin0 hY (k := ix p0) (ix_lt h3) (by decide) dX1_draw_42 ?_
    exact vx_ret (g_iret hC hr hlocks hY ⟨Nat.le_of_ble_eq_true rfl, Nat.le_of_ble_eq_true rfl⟩ dX1_draw_45 (⟨by unfold cdDraw; (repeat' split) <;> first | rfl | omega, rfl⟩))
  · exact g_throw hC hst hY hxt hlocks (E := xS) (text := "less is held") (by decide +kernel) (by decide +kernel) (by decide +kernel) (by decide) (fun w h => List.mem_cons_of_mem _ (List.mem_append_left _ (List.mem_append_left _ (List.mem_append_right _ h)))) at_S1 at_G1 hY.2.2.2.2.2.1.2.2 hl.1 dX1_draw_21 dX1_draw_24 dX1_draw_25 dX1_draw_27 dX1_draw_30 ⟨Nat.le_of_ble_eq_true rfl, Nat.le_of_ble_eq_true rfl, Nat.le_of_ble_eq_true rfl, Nat.le_of_ble_eq_true rfl⟩ ⟨Nat.le_of_ble_eq_true rfl, Nat.le_of_ble_eq_true rfl⟩ (Or.inr (Or.inr ⟨rfl, by unfold cdDraw; (repeat' split) <;> first | rfl | omega⟩))

def cdHeld (n : Nat) (p0 : Int32) : Int32 := if 0 ≤ p0.toInt ∧ p0.toInt < (n : Int) then 0 else 1
set_option maxHeartbeats 4000000 in
set_option maxRecDepth 100000 in
theorem c_X1_held (l : Launch) (G : GG) (ad : Nat → Nat) (σ : St) (n : Nat) (τ : St) (hst : l.stackTraces = false) (hn : n ≤ 24) (p0 : Int32)  : vx_Met l yX1_held wsX1_held ({ frames := 8, cells := 6, slots := 36, locals := 160 }) (PcS G ad σ n τ [.ref (ad 0), .int p0]) (Qi G (3 * n + 9) ad (ctS G ad σ n τ) (fun r => cdHeld n p0 = 0 ∧ r = σ 11 (ix p0))) (XG G (3 * n + 9) ad (ctS G ad σ n τ) (fun E => exC E (cdHeld n p0))) 6 36 (gF G) := by
  refine vx_ofW (cc := cX1_held) (maxL := 2) (ret := (some .int)) (by decide) rfl ?_
  intro p e s m args below meth c s₁ B hml hxt hv
  obtain ⟨rfl, hY⟩ := hv
  have hts := atoms_spec (ws := wsX1_held) B.pre
  have hC : CallFix p m c cX1_held 2 s _ wsX1_held RX1 := ⟨B.exec, B.bytes, hml, findClass_of_methodNamed B.named, hts⟩
  have hx := hC.1
  have hb := hC.2.1
  have hr := B.returns
  have hlocks := B.notSynchronized
  have hin0 : ∀ w ∈ wsX00, w ∈ wsX1_held := by decide +kernel
  have hin1 : ∀ w ∈ wsX10, w ∈ wsX1_held := by decide +kernel
  have hl := lv_entry ([.ref (ad 0), .int p0]) (n := 2) (Nat.le_of_ble_eq_true rfl)
  rw [lg_entry_eq]
  generalize (lg_sl ([.ref (ad 0), .int p0]) ++ List.replicate (2 - (lg_sl ([.ref (ad 0), .int p0])).length) Slot.unset).toArray = ls at hl ⊢
  have hl : lv_has ls 2 [(0, .ref (ad 0)), (1, .int p0)] := hl
  refine lv_aload_n hx hb dX1_held_0 rfl (lv_at hl 0 rfl) ?_
  refine lv_iload_n hx hb dX1_held_1 rfl (lv_at hl 1 rfl) ?_
  refine gx_callq hY (gx_runV (n := 1) (q := (RX1, TX1, 5)) (r := 0) hC (c_X1_find l G ad σ n τ hst hn p0) gX1_held_X1_find rfl ⟨rfl, rfl⟩ (by decide +kernel) ⟨Nat.le_of_ble_eq_true rfl, Nat.le_of_ble_eq_true rfl⟩ hY (by omega) rfl (ci := 1) rfl rfl hl.1 rfl (Nat.le_of_ble_eq_true rfl) dX1_held_2 ⟨Nat.le_of_ble_eq_true rfl, Nat.le_of_ble_eq_true rfl⟩) hxt hlocks ⟨Nat.le_of_ble_eq_true rfl, Nat.le_of_ble_eq_true rfl⟩ (fun E h => Or.inl ⟨h.1, by have q := h.2; unfold cdHeld; (repeat' split) <;> first | rfl | omega⟩) (fun r1 H locs h2 hY => ?_)
  obtain ⟨rfl, h3⟩ := h2
  refine gtN_deposit hC hin0 hY (k := ix p0) (ix_lt h3) (by decide) dX1_held_5 ?_
  exact vx_ret (g_iret hC hr hlocks hY ⟨Nat.le_of_ble_eq_true rfl, Nat.le_of_ble_eq_true rfl⟩ dX1_held_8 (⟨by unfold cdHeld; (repeat' split) <;> first | rfl | omega, rfl⟩))
end
section
def cdLOn (p0 p1 : Int32) : Int32 := if 0 ≤ p0.toInt ∧ p0.toInt < 6 then (if 0 ≤ p1.toInt ∧ p1.toInt < 7200 then 0 else 1) else 1
def lnG (σ : St) (n : Nat) (u d : Int32) : Nat → Nat → Int32
  | 0, _ => -1
  | f + 1, i => if (i < n ∧ (σ 3 i).toInt = u.toInt) ∧ rOn σ i d then nI i else lnG σ n u d f (i + 1)
theorem lnG_s {σ : St} {n : Nat} {u d : Int32} {f i : Nat} : lnG σ n u d (f + 1) i = if (i < n ∧ (σ 3 i).toInt = u.toInt) ∧ rOn σ i d then nI i else lnG σ n u d f (i + 1) := rfl
set_option maxHeartbeats 4000000 in
set_option maxRecDepth 100000 in
theorem c_X1_leaseOn (l : Launch) (G : GG) (ad : Nat → Nat) (σ : St) (n : Nat) (τ : St) (hst : l.stackTraces = false) (p0 p1 : Int32)  : vx_Met l yX1_leaseOn wsX1_leaseOn ({ frames := 8, cells := 6, slots := 36, locals := 160 }) (PcS G ad σ n τ [.ref (ad 0), .int p0, .int p1]) (Qi G (3 * n + 9) ad (ctS G ad σ n τ) (fun r => cdLOn p0 p1 = 0 ∧ r = lnG σ n p0 p1 24 0)) (XG G (3 * n + 9) ad (ctS G ad σ n τ) (fun E => exC E (cdLOn p0 p1))) 6 36 (gF G) := by
  refine vx_ofW (cc := cX1_leaseOn) (maxL := 5) (ret := (some .int)) (by decide) rfl ?_
  intro p e s m args below meth c s₁ B hml hxt hv
  obtain ⟨rfl, hY⟩ := hv
  have hts := atoms_spec (ws := wsX1_leaseOn) B.pre
  have hC : CallFix p m c cX1_leaseOn 5 s _ wsX1_leaseOn RX1 := ⟨B.exec, B.bytes, hml, findClass_of_methodNamed B.named, hts⟩
  have hx := hC.1
  have hb := hC.2.1
  have hr := B.returns
  have hlocks := B.notSynchronized
  have hin0 : ∀ w ∈ wsX00, w ∈ wsX1_leaseOn := by decide +kernel
  have hin1 : ∀ w ∈ wsX10, w ∈ wsX1_leaseOn := by decide +kernel
  have hl := lv_entry ([.ref (ad 0), .int p0, .int p1]) (n := 5) (Nat.le_of_ble_eq_true rfl)
  rw [lg_entry_eq]
  generalize (lg_sl ([.ref (ad 0), .int p0, .int p1]) ++ List.replicate (5 - (lg_sl ([.ref (ad 0), .int p0, .int p1])).length) Slot.unset).toArray = ls at hl ⊢
  have hl : lv_has ls 5 [(0, .ref (ad 0)), (1, .int p0), (2, .int p1)] := hl
  refine lv_iload_n hx hb dX1_leaseOn_0 rfl (lv_at hl 1 rfl) ?_
  refine lv_aload_n hx hb dX1_leaseOn_1 rfl (lv_at hl 0 rfl) ?_
  refine gtV_areas hC hin1 hY (by decide +kernel) dX1_leaseOn_2 ?_
  refine g_alen hC hY 1 (by omega) 0 rfl rfl (v := 6) rfl dX1_leaseOn_5 ?_
  refine gx_callv hY (gx_runS (n := 2) hC (c_X1_checkNumber l G ad σ n τ hst p0 6 6 rfl) gX1_leaseOn_X1_checkNumber rfl ⟨rfl, rfl⟩ (by decide +kernel) ⟨Nat.le_of_ble_eq_true rfl, Nat.le_of_ble_eq_true rfl⟩ hY rfl hl.1 rfl (Nat.le_of_ble_eq_true rfl) dX1_leaseOn_6 ⟨Nat.le_of_ble_eq_true rfl, Nat.le_of_ble_eq_true rfl⟩) hxt hlocks ⟨Nat.le_of_ble_eq_true rfl, Nat.le_of_ble_eq_true rfl⟩ (fun E h => Or.inl ⟨h.1, by have q := h.2; unfold cdLOn; (repeat' split) <;> first | rfl | omega⟩) (fun H locs h2 hY => ?_)
  refine lv_iload_n hx hb dX1_leaseOn_9 rfl (lv_at hl 2 rfl) ?_
  refine lv_sipush (v := 7200) hx hb dX1_leaseOn_10 (by decide) ?_
  refine gx_callv hY (gx_runS (n := 2) hC (c_X1_checkNumber l G ad σ n τ hst p1 7200 7200 rfl) gX1_leaseOn_X1_checkNumber rfl ⟨rfl, rfl⟩ (by decide +kernel) ⟨Nat.le_of_ble_eq_true rfl, Nat.le_of_ble_eq_true rfl⟩ hY rfl hl.1 rfl (Nat.le_of_ble_eq_true rfl) dX1_leaseOn_13 ⟨Nat.le_of_ble_eq_true rfl, Nat.le_of_ble_eq_true rfl⟩) hxt hlocks ⟨Nat.le_of_ble_eq_true rfl, Nat.le_of_ble_eq_true rfl⟩ (fun E h => Or.inl ⟨h.1, by have q := h.2; unfold cdLOn; (repeat' split) <;> first | rfl | omega⟩) (fun H locs h4 hY => ?_)
  refine lv_iconst (v := 0) hx hb dX1_leaseOn_16 (by decide) ?_
  refine lv_istore_n (lv' := [(3, .int 0), (0, .ref (ad 0)), (1, .int p0), (2, .int p1)]) hx hb dX1_leaseOn_17 rfl hl (by decide) rfl (fun ls hl => ?_)
  refine w_loop (X := Int32) (fun i x H locs ls => match x with | x3 => (x3.toInt = i ∧ (i : Int) ≤ 24 ∧ lnG σ n p0 p1 (24 - i) i = lnG σ n p0 p1 24 0) ∧ SyS G ad σ n τ s H locs ∧ lv_has ls 5 [(3, .int x3), (0, .ref (ad 0)), (1, .int p0), (2, .int p1)]) (24) ?_ ?_ (0) ⟨⟨rfl, by decide, rfl⟩, hY, lv_sub hl [0, 1, 2, 3] rfl⟩
  · intro i x H locs ls hI ih
    obtain ⟨x3, rfl⟩ : ∃ z, z = x := ⟨_, rfl⟩
    obtain ⟨hI, hY, hl⟩ := hI
    obtain ⟨h0, h9, e⟩ := hI
    refine lv_iload_n hx hb dX1_leaseOn_18 rfl (lv_at hl 0 rfl) ?_
    refine lv_aload_n hx hb dX1_leaseOn_19 rfl (lv_at hl 1 rfl) ?_
    refine gtV_roll hC hin1 hY (by decide +kernel) dX1_leaseOn_20 ?_
    refine g_alen hC hY 4 (by omega) 1 rfl rfl (v := 24) rfl dX1_leaseOn_23 ?_
    refine b_icmp_ge (tgt := 66) hx hb dX1_leaseOn_24 (by decide) (fun (h5 : 24 ≤ x3.toInt) => ?_) (fun (h5 : x3.toInt < 24) => ?_)
    · refine lv_iconst (v := (-1)) hx hb dX1_leaseOn_66 (by decide) ?_
      exact vx_ret (g_iret hC hr hlocks hY ⟨Nat.le_of_ble_eq_true rfl, Nat.le_of_ble_eq_true rfl⟩ dX1_leaseOn_67 (⟨by unfold cdLOn; (repeat' split) <;> first | rfl | omega, by rw [← e, show 24 - i = 0 by omega]; rfl⟩))
    · refine lv_aload_n hx hb dX1_leaseOn_27 rfl (lv_at hl 1 rfl) ?_
      refine gtV_roll hC hin1 hY (by decide +kernel) dX1_leaseOn_28 ?_
      refine lv_iload_n hx hb dX1_leaseOn_31 rfl (lv_at hl 0 rfl) ?_
      refine rdRoll hC hY ⟨by omega, by omega⟩ dX1_leaseOn_32 ?_
      by_cases h6 : ix x3 < n
      · rw [show roF ad n (ix x3) = some (ad (3 * ix x3 + 9)) from if_pos h6]
        refine lv_astore (lv' := [(4, .ref (ad (3 * ix x3 + 9))), (3, .int x3), (0, .ref (ad 0)), (1, .int p0), (2, .int p1)]) hx hb dX1_leaseOn_33 hl (by decide) rfl (fun ls hl => ?_)
        refine lv_aload hx hb dX1_leaseOn_35 (lv_at hl 0 rfl) ?_
        refine lv_ifnull hx hb dX1_leaseOn_37 ?_
        refine lv_aload hx hb dX1_leaseOn_40 (lv_at hl 0 rfl) ?_
        refine gtN_unit hC hin0 hY (k := ix x3) h6 (by decide) dX1_leaseOn_42 ?_
        refine lv_iload_n hx hb dX1_leaseOn_45 rfl (lv_at hl 3 rfl) ?_
        refine b_icmp_ne (tgt := 60) hx hb dX1_leaseOn_46 (by decide) (fun (h7 : ¬ (σ 3 (ix x3)).toInt = p0.toInt) => ?_) (fun (h7 : (σ 3 (ix x3)).toInt = p0.toInt) => ?_)
        · refine lv_iinc (v := x3 + 1) (lv' := [(3, .int (x3 + 1)), (4, .ref (ad (3 * ix x3 + 9))), (0, .ref (ad 0)), (1, .int p0), (2, .int p1)]) hx hb dX1_leaseOn_60 hl (k := 1) rfl rfl (by decide) rfl (fun ls hl => ?_)
          refine lv_goto (tgt := 18) hx hb dX1_leaseOn_63 (by decide) ?_
          have hix : ix x3 = i := i_ix h0
          have hf : 24 - i = (24 - (i + 1)) + 1 := by omega
          exact ih (x3 + 1) _ _ _ ⟨⟨by rw [i_add (by have : (1 : Int32).toInt = 1 := rfl; omega)]; have : (1 : Int32).toInt = 1 := rfl; omega, by omega, by rw [← e, hf, lnG_s, if_neg (by intro q; rw [← hix] at q; exact h7 q.1.2)]⟩, hY, lv_sub hl [0, 2, 3, 4] rfl⟩
        · refine lv_aload hx hb dX1_leaseOn_49 (lv_at hl 0 rfl) ?_
          refine lv_iload_n hx hb dX1_leaseOn_51 rfl (lv_at hl 4 rfl) ?_
          refine g_calli hY (g_runV (n := 1) (q := (RX0, TX0, 12)) (r := 3 * ix x3 + 9) hC (c_X0_runsOn l G ad σ n τ (ix x3) h6 p1) gX1_leaseOn_X0_runsOn rfl ⟨rfl, rfl⟩ (by decide +kernel) ⟨Nat.le_of_ble_eq_true rfl, Nat.le_of_ble_eq_true rfl⟩ hY (r_lt h6) (ct_L (ix x3)) (ci := 0) rfl rfl hl.1 rfl (Nat.le_of_ble_eq_true rfl) dX1_leaseOn_52 ⟨Nat.le_of_ble_eq_true rfl, Nat.le_of_ble_eq_true rfl⟩) (fun r8 H locs h9 hY => ?_)
          rcases h9 with ⟨rfl, h10⟩ | ⟨rfl, h10⟩
          · refine b_if_eq (tgt := 60) hx hb dX1_leaseOn_55 (by decide) (fun h => absurd h (by decide)) (fun _ => ?_)
            refine lv_iload_n hx hb dX1_leaseOn_58 rfl (lv_at hl 1 rfl) ?_
            have hix : ix x3 = i := i_ix h0
            have hf : 24 - i = (24 - (i + 1)) + 1 := by omega
            exact vx_ret (g_iret hC hr hlocks hY ⟨Nat.le_of_ble_eq_true rfl, Nat.le_of_ble_eq_true rfl⟩ dX1_leaseOn_59 (⟨by unfold cdLOn; (repeat' split) <;> first | rfl | omega, by rw [← e, hf, lnG_s, if_pos (by rw [← hix]; exact ⟨⟨h6, h7⟩, h10⟩)]; exact i_eqnI h0⟩))
          · refine b_if_eq (tgt := 60) hx hb dX1_leaseOn_55 (by decide) (fun _ => ?_) (fun h => absurd h (by decide))
            refine lv_iinc (v := x3 + 1) (lv' := [(3, .int (x3 + 1)), (4, .ref (ad (3 * ix x3 + 9))), (0, .ref (ad 0)), (1, .int p0), (2, .int p1)]) hx hb dX1_leaseOn_60 hl (k := 1) rfl rfl (by decide) rfl (fun ls hl => ?_)
            refine lv_goto (tgt := 18) hx hb dX1_leaseOn_63 (by decide) ?_
            have hix : ix x3 = i := i_ix h0
            have hf : 24 - i = (24 - (i + 1)) + 1 := by omega
            exact ih (x3 + 1) _ _ _ ⟨⟨by rw [i_add (by have : (1 : Int32).toInt = 1 := rfl; omega)]; have : (1 : Int32).toInt = 1 := rfl; omega, by omega, by rw [← e, hf, lnG_s, if_neg (by intro q; rw [← hix] at q; exact h10 q.2)]⟩, hY, lv_sub hl [0, 2, 3, 4] rfl⟩
      · rw [show roF ad n (ix x3) = none from if_neg h6]
        refine W.eq (g2 := F0 m 33 ls [.null]) rfl ?_
        refine lv_astoreN (lv' := [(4, .null), (3, .int x3), (0, .ref (ad 0)), (1, .int p0), (2, .int p1)]) hx hb dX1_leaseOn_33 hl (by decide) rfl (fun ls hl => ?_)
        refine lv_aloadN hx hb dX1_leaseOn_35 (lv_at hl 0 rfl) ?_
        refine lv_ifnullN (tgt := 60) hx hb dX1_leaseOn_37 (by decide) ?_
        refine lv_iinc (v := x3 + 1) (lv' := [(3, .int (x3 + 1)), (4, .null), (0, .ref (ad 0)), (1, .int p0), (2, .int p1)]) hx hb dX1_leaseOn_60 hl (k := 1) rfl rfl (by decide) rfl (fun ls hl => ?_)
        refine lv_goto (tgt := 18) hx hb dX1_leaseOn_63 (by decide) ?_
        have hix : ix x3 = i := i_ix h0
        have hf : 24 - i = (24 - (i + 1)) + 1 := by omega
        exact ih (x3 + 1) _ _ _ ⟨⟨by rw [i_add (by have : (1 : Int32).toInt = 1 := rfl; omega)]; have : (1 : Int32).toInt = 1 := rfl; omega, by omega, by rw [← e, hf, lnG_s, if_neg (by intro q; rw [← hix] at q; exact h6 q.1.1)]⟩, hY, lv_sub hl [0, 2, 3, 4] rfl⟩
  · intro i x H locs ls hI
    obtain ⟨x3, rfl⟩ : ∃ z, z = x := ⟨_, rfl⟩
    obtain ⟨hI, -, -⟩ := hI
    obtain ⟨h0, h9, e⟩ := hI
    omega

def cdLX (n : Nat) (N : Int) (p0 p1 : Int32) : Int32 := if 0 ≤ p0.toInt ∧ p0.toInt < (n : Int) then (if 0 ≤ p1.toInt ∧ p1.toInt < N then 0 else 1) else 1
set_option maxHeartbeats 4000000 in
set_option maxRecDepth 100000 in
theorem c_X1_rentOn (l : Launch) (G : GG) (ad : Nat → Nat) (σ : St) (n : Nat) (τ : St) (hst : l.stackTraces = false) (hn : n ≤ 24) (hI : ∀ k, k < n → okL σ k) (p0 p1 : Int32)  : vx_Met l yX1_rentOn wsX1_rentOn ({ frames := 8, cells := 6, slots := 36, locals := 160 }) (PcS G ad σ n τ [.ref (ad 0), .int p0, .int p1]) (Qi G (3 * n + 9) ad (ctS G ad σ n τ) (fun r => cdLX n 7200 p0 p1 = 0 ∧ r = rfF σ (ix p0) p1)) (XG G (3 * n + 9) ad (ctS G ad σ n τ) (fun E => exC E (cdLX n 7200 p0 p1))) 6 36 (gF G) := by
  refine vx_ofW (cc := cX1_rentOn) (maxL := 4) (ret := (some .int)) (by decide) rfl ?_
  intro p e s m args below meth c s₁ B hml hxt hv
  obtain ⟨rfl, hY⟩ := hv
  have hts := atoms_spec (ws := wsX1_rentOn) B.pre
  have hC : CallFix p m c cX1_rentOn 4 s _ wsX1_rentOn RX1 := ⟨B.exec, B.bytes, hml, findClass_of_methodNamed B.named, hts⟩
  have hx := hC.1
  have hb := hC.2.1
  have hr := B.returns
  have hlocks := B.notSynchronized
  have hin0 : ∀ w ∈ wsX00, w ∈ wsX1_rentOn := by decide +kernel
  have hin1 : ∀ w ∈ wsX10, w ∈ wsX1_rentOn := by decide +kernel
  have hl := lv_entry ([.ref (ad 0), .int p0, .int p1]) (n := 4) (Nat.le_of_ble_eq_true rfl)
  rw [lg_entry_eq]
  generalize (lg_sl ([.ref (ad 0), .int p0, .int p1]) ++ List.replicate (4 - (lg_sl ([.ref (ad 0), .int p0, .int p1])).length) Slot.unset).toArray = ls at hl ⊢
  have hl : lv_has ls 4 [(0, .ref (ad 0)), (1, .int p0), (2, .int p1)] := hl
  refine lv_aload_n hx hb dX1_rentOn_0 rfl (lv_at hl 0 rfl) ?_
  refine lv_iload_n hx hb dX1_rentOn_1 rfl (lv_at hl 1 rfl) ?_
  refine gx_callq hY (gx_runV (n := 1) (q := (RX1, TX1, 5)) (r := 0) hC (c_X1_find l G ad σ n τ hst hn p0) gX1_rentOn_X1_find rfl ⟨rfl, rfl⟩ (by decide +kernel) ⟨Nat.le_of_ble_eq_true rfl, Nat.le_of_ble_eq_true rfl⟩ hY (by omega) rfl (ci := 1) rfl rfl hl.1 rfl (Nat.le_of_ble_eq_true rfl) dX1_rentOn_2 ⟨Nat.le_of_ble_eq_true rfl, Nat.le_of_ble_eq_true rfl⟩) hxt hlocks ⟨Nat.le_of_ble_eq_true rfl, Nat.le_of_ble_eq_true rfl⟩ (fun E h => Or.inl ⟨h.1, by have q := h.2; unfold cdLX; (repeat' split) <;> first | rfl | omega⟩) (fun r1 H locs h2 hY => ?_)
  obtain ⟨rfl, h3⟩ := h2
  refine lv_astore_n (lv' := [(3, .ref (ad (3 * ix p0 + 9))), (0, .ref (ad 0)), (1, .int p0), (2, .int p1)]) hx hb dX1_rentOn_5 rfl hl (by decide) rfl (fun ls hl => ?_)
  refine lv_iload_n hx hb dX1_rentOn_6 rfl (lv_at hl 3 rfl) ?_
  refine lv_sipush (v := 7200) hx hb dX1_rentOn_7 (by decide) ?_
  refine gx_callv hY (gx_runS (n := 2) hC (c_X1_checkNumber l G ad σ n τ hst p1 7200 7200 rfl) gX1_rentOn_X1_checkNumber rfl ⟨rfl, rfl⟩ (by decide +kernel) ⟨Nat.le_of_ble_eq_true rfl, Nat.le_of_ble_eq_true rfl⟩ hY rfl hl.1 rfl (Nat.le_of_ble_eq_true rfl) dX1_rentOn_10 ⟨Nat.le_of_ble_eq_true rfl, Nat.le_of_ble_eq_true rfl⟩) hxt hlocks ⟨Nat.le_of_ble_eq_true rfl, Nat.le_of_ble_eq_true rfl⟩ (fun E h => Or.inl ⟨h.1, by have q := h.2; unfold cdLX; (repeat' split) <;> first | rfl | omega⟩) (fun H locs h5 hY => ?_)
  refine lv_aload_n hx hb dX1_rentOn_13 rfl (lv_at hl 1 rfl) ?_
  refine lv_aload_n hx hb dX1_rentOn_14 rfl (lv_at hl 0 rfl) ?_
  refine lv_iload_n hx hb dX1_rentOn_15 rfl (lv_at hl 3 rfl) ?_
  refine g_calli hY (g_runV (n := 2) (q := (RX1, TX1, 5)) (r := 0) hC (c_X1_rentFor l G ad σ n τ (ix p0) (ix_lt h3) p1 (hI _ (ix_lt h3)) (by omega)) gX1_rentOn_X1_rentFor rfl ⟨rfl, rfl⟩ (by decide +kernel) ⟨Nat.le_of_ble_eq_true rfl, Nat.le_of_ble_eq_true rfl⟩ hY (by omega) rfl (ci := 1) rfl rfl hl.1 rfl (Nat.le_of_ble_eq_true rfl) dX1_rentOn_16 ⟨Nat.le_of_ble_eq_true rfl, Nat.le_of_ble_eq_true rfl⟩) (fun r6 H locs h7 hY => ?_)
  subst h7
  exact vx_ret (g_iret hC hr hlocks hY ⟨Nat.le_of_ble_eq_true rfl, Nat.le_of_ble_eq_true rfl⟩ dX1_rentOn_19 (⟨by unfold cdLX; (repeat' split) <;> first | rfl | omega, rfl⟩))

set_option maxHeartbeats 4000000 in
set_option maxRecDepth 100000 in
theorem c_X1_bill (l : Launch) (G : GG) (ad : Nat → Nat) (σ : St) (n : Nat) (τ : St) (hst : l.stackTraces = false) (hn : n ≤ 24) (hI : ∀ k, k < n → okL σ k) (p0 p1 : Int32)  : vx_Met l yX1_bill wsX1_bill ({ frames := 8, cells := 6, slots := 36, locals := 160 }) (PcS G ad σ n τ [.ref (ad 0), .int p0, .int p1]) (Qi G (3 * n + 9) ad (ctS G ad σ n τ) (fun r => cdLX n 240 p0 p1 = 0 ∧ r = bfF σ (ix p0) p1)) (XG G (3 * n + 9) ad (ctS G ad σ n τ) (fun E => exC E (cdLX n 240 p0 p1))) 6 36 (gF G) := by
  refine vx_ofW (cc := cX1_bill) (maxL := 4) (ret := (some .int)) (by decide) rfl ?_
  intro p e s m args below meth c s₁ B hml hxt hv
  obtain ⟨rfl, hY⟩ := hv
  have hts := atoms_spec (ws := wsX1_bill) B.pre
  have hC : CallFix p m c cX1_bill 4 s _ wsX1_bill RX1 := ⟨B.exec, B.bytes, hml, findClass_of_methodNamed B.named, hts⟩
  have hx := hC.1
  have hb := hC.2.1
  have hr := B.returns
  have hlocks := B.notSynchronized
  have hin0 : ∀ w ∈ wsX00, w ∈ wsX1_bill := by decide +kernel
  have hin1 : ∀ w ∈ wsX10, w ∈ wsX1_bill := by decide +kernel
  have hl := lv_entry ([.ref (ad 0), .int p0, .int p1]) (n := 4) (Nat.le_of_ble_eq_true rfl)
  rw [lg_entry_eq]
  generalize (lg_sl ([.ref (ad 0), .int p0, .int p1]) ++ List.replicate (4 - (lg_sl ([.ref (ad 0), .int p0, .int p1])).length) Slot.unset).toArray = ls at hl ⊢
  have hl : lv_has ls 4 [(0, .ref (ad 0)), (1, .int p0), (2, .int p1)] := hl
  refine lv_aload_n hx hb dX1_bill_0 rfl (lv_at hl 0 rfl) ?_
  refine lv_iload_n hx hb dX1_bill_1 rfl (lv_at hl 1 rfl) ?_
  refine gx_callq hY (gx_runV (n := 1) (q := (RX1, TX1, 5)) (r := 0) hC (c_X1_find l G ad σ n τ hst hn p0) gX1_bill_X1_find rfl ⟨rfl, rfl⟩ (by decide +kernel) ⟨Nat.le_of_ble_eq_true rfl, Nat.le_of_ble_eq_true rfl⟩ hY (by omega) rfl (ci := 1) rfl rfl hl.1 rfl (Nat.le_of_ble_eq_true rfl) dX1_bill_2 ⟨Nat.le_of_ble_eq_true rfl, Nat.le_of_ble_eq_true rfl⟩) hxt hlocks ⟨Nat.le_of_ble_eq_true rfl, Nat.le_of_ble_eq_true rfl⟩ (fun E h => Or.inl ⟨h.1, by have q := h.2; unfold cdLX; (repeat' split) <;> first | rfl | omega⟩) (fun r1 H locs h2 hY => ?_)
  obtain ⟨rfl, h3⟩ := h2
  refine lv_astore_n (lv' := [(3, .ref (ad (3 * ix p0 + 9))), (0, .ref (ad 0)), (1, .int p0), (2, .int p1)]) hx hb dX1_bill_5 rfl hl (by decide) rfl (fun ls hl => ?_)
  refine lv_iload_n hx hb dX1_bill_6 rfl (lv_at hl 3 rfl) ?_
  refine lv_sipush (v := 240) hx hb dX1_bill_7 (by decide) ?_
  refine gx_callv hY (gx_runS (n := 2) hC (c_X1_checkNumber l G ad σ n τ hst p1 240 240 rfl) gX1_bill_X1_checkNumber rfl ⟨rfl, rfl⟩ (by decide +kernel) ⟨Nat.le_of_ble_eq_true rfl, Nat.le_of_ble_eq_true rfl⟩ hY rfl hl.1 rfl (Nat.le_of_ble_eq_true rfl) dX1_bill_10 ⟨Nat.le_of_ble_eq_true rfl, Nat.le_of_ble_eq_true rfl⟩) hxt hlocks ⟨Nat.le_of_ble_eq_true rfl, Nat.le_of_ble_eq_true rfl⟩ (fun E h => Or.inl ⟨h.1, by have q := h.2; unfold cdLX; (repeat' split) <;> first | rfl | omega⟩) (fun H locs h5 hY => ?_)
  refine lv_aload_n hx hb dX1_bill_13 rfl (lv_at hl 1 rfl) ?_
  refine lv_aload_n hx hb dX1_bill_14 rfl (lv_at hl 0 rfl) ?_
  refine lv_iload_n hx hb dX1_bill_15 rfl (lv_at hl 3 rfl) ?_
  refine g_calli hY (g_runV (n := 2) (q := (RX1, TX1, 5)) (r := 0) hC (c_X1_billFor l G ad σ n τ (ix p0) (ix_lt h3) p1 (hI _ (ix_lt h3)) (by omega)) gX1_bill_X1_billFor rfl ⟨rfl, rfl⟩ (by decide +kernel) ⟨Nat.le_of_ble_eq_true rfl, Nat.le_of_ble_eq_true rfl⟩ hY (by omega) rfl (ci := 1) rfl rfl hl.1 rfl (Nat.le_of_ble_eq_true rfl) dX1_bill_16 ⟨Nat.le_of_ble_eq_true rfl, Nat.le_of_ble_eq_true rfl⟩) (fun r6 H locs h7 hY => ?_)
  subst h7
  exact vx_ret (g_iret hC hr hlocks hY ⟨Nat.le_of_ble_eq_true rfl, Nat.le_of_ble_eq_true rfl⟩ dX1_bill_19 (⟨by unfold cdLX; (repeat' split) <;> first | rfl | omega, rfl⟩))

def bdP (σ : St) (k : Nat) (m : Int32) : Nat → Int32
  | 0 => 0
  | i + 1 => bdP σ k m i + rfF σ k (m * 30 + nI i)
theorem nI_add1 {x : Int32} {i : Nat} : x + nI i + 1 = x + nI (i + 1) := by rw [Int32.add_assoc, nI_1]
theorem i_addnI {x y : Int32} {i : Nat} (h : y.toInt = x.toInt + i) (hx : -2147483648 ≤ x.toInt) (hi : x.toInt + (i : Int) < 2147483648) (h0 : i < 100000) : y = x + nI i := i_ext (by rw [i_add (by rw [i_nI (by omega)]; omega), i_nI (by omega)]; exact h)
set_option maxHeartbeats 4000000 in
set_option maxRecDepth 100000 in
theorem c_X1_billByDays (l : Launch) (G : GG) (ad : Nat → Nat) (σ : St) (n : Nat) (τ : St) (hst : l.stackTraces = false) (hn : n ≤ 24) (hI : ∀ k, k < n → okL σ k) (p0 p1 : Int32)  : vx_Met l yX1_billByDays wsX1_billByDays ({ frames := 8, cells := 6, slots := 36, locals := 160 }) (PcS G ad σ n τ [.ref (ad 0), .int p0, .int p1]) (Qi G (3 * n + 9) ad (ctS G ad σ n τ) (fun r => cdLX n 240 p0 p1 = 0 ∧ r = bdP σ (ix p0) p1 30 / 30)) (XG G (3 * n + 9) ad (ctS G ad σ n τ) (fun E => exC E (cdLX n 240 p0 p1))) 6 36 (gF G) := by
  refine vx_ofW (cc := cX1_billByDays) (maxL := 7) (ret := (some .int)) (by decide) rfl ?_
  intro p e s m args below meth c s₁ B hml hxt hv
  obtain ⟨rfl, hY⟩ := hv
  have hts := atoms_spec (ws := wsX1_billByDays) B.pre
  have hC : CallFix p m c cX1_billByDays 7 s _ wsX1_billByDays RX1 := ⟨B.exec, B.bytes, hml, findClass_of_methodNamed B.named, hts⟩
  have hx := hC.1
  have hb := hC.2.1
  have hr := B.returns
  have hlocks := B.notSynchronized
  have hin0 : ∀ w ∈ wsX00, w ∈ wsX1_billByDays := by decide +kernel
  have hin1 : ∀ w ∈ wsX10, w ∈ wsX1_billByDays := by decide +kernel
  have hl := lv_entry ([.ref (ad 0), .int p0, .int p1]) (n := 7) (Nat.le_of_ble_eq_true rfl)
  rw [lg_entry_eq]
  generalize (lg_sl ([.ref (ad 0), .int p0, .int p1]) ++ List.replicate (7 - (lg_sl ([.ref (ad 0), .int p0, .int p1])).length) Slot.unset).toArray = ls at hl ⊢
  have hl : lv_has ls 7 [(0, .ref (ad 0)), (1, .int p0), (2, .int p1)] := hl
  refine lv_aload_n hx hb dX1_billByDays_0 rfl (lv_at hl 0 rfl) ?_
  refine lv_iload_n hx hb dX1_billByDays_1 rfl (lv_at hl 1 rfl) ?_
  refine gx_callq hY (gx_runV (n := 1) (q := (RX1, TX1, 5)) (r := 0) hC (c_X1_find l G ad σ n τ hst hn p0) gX1_billByDays_X1_find rfl ⟨rfl, rfl⟩ (by decide +kernel) ⟨Nat.le_of_ble_eq_true rfl, Nat.le_of_ble_eq_true rfl⟩ hY (by omega) rfl (ci := 1) rfl rfl hl.1 rfl (Nat.le_of_ble_eq_true rfl) dX1_billByDays_2 ⟨Nat.le_of_ble_eq_true rfl, Nat.le_of_ble_eq_true rfl⟩) hxt hlocks ⟨Nat.le_of_ble_eq_true rfl, Nat.le_of_ble_eq_true rfl⟩ (fun E h => Or.inl ⟨h.1, by have q := h.2; unfold cdLX; (repeat' split) <;> first | rfl | omega⟩) (fun r1 H locs h2 hY => ?_)
  obtain ⟨rfl, h3⟩ := h2
  refine lv_astore_n (lv' := [(3, .ref (ad (3 * ix p0 + 9))), (0, .ref (ad 0)), (1, .int p0), (2, .int p1)]) hx hb dX1_billByDays_5 rfl hl (by decide) rfl (fun ls hl => ?_)
  refine lv_iload_n hx hb dX1_billByDays_6 rfl (lv_at hl 3 rfl) ?_
  refine lv_sipush (v := 240) hx hb dX1_billByDays_7 (by decide) ?_
  refine gx_callv hY (gx_runS (n := 2) hC (c_X1_checkNumber l G ad σ n τ hst p1 240 240 rfl) gX1_billByDays_X1_checkNumber rfl ⟨rfl, rfl⟩ (by decide +kernel) ⟨Nat.le_of_ble_eq_true rfl, Nat.le_of_ble_eq_true rfl⟩ hY rfl hl.1 rfl (Nat.le_of_ble_eq_true rfl) dX1_billByDays_10 ⟨Nat.le_of_ble_eq_true rfl, Nat.le_of_ble_eq_true rfl⟩) hxt hlocks ⟨Nat.le_of_ble_eq_true rfl, Nat.le_of_ble_eq_true rfl⟩ (fun E h => Or.inl ⟨h.1, by have q := h.2; unfold cdLX; (repeat' split) <;> first | rfl | omega⟩) (fun H locs h5 hY => ?_)
  refine lv_iload_n hx hb dX1_billByDays_13 rfl (lv_at hl 3 rfl) ?_
  refine lv_bipush (v := 30) hx hb dX1_billByDays_14 (by decide) ?_
  refine lv_imul hx hb dX1_billByDays_16 ?_
  refine lv_istore (lv' := [(4, .int (p1 * 30)), (3, .ref (ad (3 * ix p0 + 9))), (0, .ref (ad 0)), (1, .int p0), (2, .int p1)]) hx hb dX1_billByDays_17 hl (by decide) rfl (fun ls hl => ?_)
  have hb3 : (p1 * 30).toInt = p1.toInt * 30 := i_mulc (c := 30) (by omega) (by decide)
  have hb4 : (p1 * 30 + 30).toInt = p1.toInt * 30 + 30 := by rw [i_add (by have : (30 : Int32).toInt = 30 := rfl; omega), hb3]; rfl
  refine lv_iconst (v := 0) hx hb dX1_billByDays_19 (by decide) ?_
  refine lv_istore (lv' := [(5, .int 0), (4, .int (p1 * 30)), (3, .ref (ad (3 * ix p0 + 9))), (0, .ref (ad 0)), (1, .int p0), (2, .int p1)]) hx hb dX1_billByDays_20 hl (by decide) rfl (fun ls hl => ?_)
  refine lv_iload hx hb dX1_billByDays_22 (lv_at hl 1 rfl) ?_
  refine lv_istore (lv' := [(6, .int (p1 * 30)), (5, .int 0), (4, .int (p1 * 30)), (3, .ref (ad (3 * ix p0 + 9))), (0, .ref (ad 0)), (1, .int p0), (2, .int p1)]) hx hb dX1_billByDays_24 hl (by decide) rfl (fun ls hl => ?_)
  refine w_loop (X := Int32 × Int32) (fun i x H locs ls => match x with | (x6, x5) => (x6.toInt = (p1 * 30).toInt + i ∧ (i : Int) ≤ 30 ∧ x5 = bdP σ (ix p0) p1 i) ∧ SyS G ad σ n τ s H locs ∧ lv_has ls 7 [(6, .int x6), (5, .int x5), (4, .int (p1 * 30)), (3, .ref (ad (3 * ix p0 + 9))), (0, .ref (ad 0))]) (30) ?_ ?_ ((p1 * 30, 0)) ⟨⟨by show _ = _ + (0 : Int); omega, by decide, rfl⟩, hY, lv_sub hl [0, 1, 2, 3, 4] rfl⟩
  · intro i x H locs ls hI ih
    obtain ⟨x6, x5⟩ := x
    obtain ⟨hI, hY, hl⟩ := hI
    obtain ⟨h0, h9, e⟩ := hI
    refine lv_iload hx hb dX1_billByDays_26 (lv_at hl 0 rfl) ?_
    refine lv_iload hx hb dX1_billByDays_28 (lv_at hl 2 rfl) ?_
    refine lv_bipush (v := 30) hx hb dX1_billByDays_30 (by decide) ?_
    refine lv_iadd hx hb dX1_billByDays_32 ?_
    refine b_icmp_ge (tgt := 54) hx hb dX1_billByDays_33 (by decide) (fun (h6 : ((p1 * 30) + 30).toInt ≤ x6.toInt) => ?_) (fun (h6 : x6.toInt < ((p1 * 30) + 30).toInt) => ?_)
    · refine lv_iload hx hb dX1_billByDays_54 (lv_at hl 1 rfl) ?_
      refine lv_bipush (v := 30) hx hb dX1_billByDays_56 (by decide) ?_
      refine lv_idiv hx hb dX1_billByDays_58 (by decide) ?_
      exact vx_ret (g_iret hC hr hlocks hY ⟨Nat.le_of_ble_eq_true rfl, Nat.le_of_ble_eq_true rfl⟩ dX1_billByDays_59 (⟨by unfold cdLX; (repeat' split) <;> first | rfl | omega, by rw [e, show i = 30 by omega]⟩))
    · refine lv_iload hx hb dX1_billByDays_36 (lv_at hl 1 rfl) ?_
      refine lv_aload_n hx hb dX1_billByDays_38 rfl (lv_at hl 4 rfl) ?_
      refine lv_aload_n hx hb dX1_billByDays_39 rfl (lv_at hl 3 rfl) ?_
      refine lv_iload hx hb dX1_billByDays_40 (lv_at hl 0 rfl) ?_
      refine g_calli hY (g_runV (n := 2) (q := (RX1, TX1, 5)) (r := 0) hC (c_X1_rentFor l G ad σ n τ (ix p0) (ix_lt h3) x6 (hI _ (ix_lt h3)) (by omega)) gX1_billByDays_X1_rentFor rfl ⟨rfl, rfl⟩ (by decide +kernel) ⟨Nat.le_of_ble_eq_true rfl, Nat.le_of_ble_eq_true rfl⟩ hY (by omega) rfl (ci := 1) rfl rfl hl.1 rfl (Nat.le_of_ble_eq_true rfl) dX1_billByDays_42 ⟨Nat.le_of_ble_eq_true rfl, Nat.le_of_ble_eq_true rfl⟩) (fun r7 H locs h8 hY => ?_)
      subst h8
      refine lv_iadd hx hb dX1_billByDays_45 ?_
      refine lv_istore (lv' := [(5, .int (x5 + (rfF σ (ix p0) x6))), (6, .int x6), (4, .int (p1 * 30)), (3, .ref (ad (3 * ix p0 + 9))), (0, .ref (ad 0))]) hx hb dX1_billByDays_46 hl (by decide) rfl (fun ls hl => ?_)
      refine lv_iinc (v := x6 + 1) (lv' := [(6, .int (x6 + 1)), (5, .int (x5 + (rfF σ (ix p0) x6))), (4, .int (p1 * 30)), (3, .ref (ad (3 * ix p0 + 9))), (0, .ref (ad 0))]) hx hb dX1_billByDays_48 hl (k := 1) rfl rfl (by decide) rfl (fun ls hl => ?_)
      refine lv_goto (tgt := 26) hx hb dX1_billByDays_51 (by decide) ?_
      have hx6 : x6 = p1 * 30 + nI i := i_addnI h0 (by omega) (by omega) (by omega)
      exact ih (x6 + 1, x5 + (rfF σ (ix p0) x6)) _ _ _ ⟨⟨by rw [i_add1 (by omega)]; omega, by omega, by rw [bdP, ← e, ← hx6]⟩, hY, lv_sub hl [0, 1, 2, 3, 4] rfl⟩
  · intro i x H locs ls hI
    obtain ⟨x6, x5⟩ := x
    obtain ⟨hI, -, -⟩ := hI
    obtain ⟨h0, h9, e⟩ := hI
    omega

def cdBills (n : Nat) (p0 p1 p2 : Int32) : Int32 := if 0 ≤ p0.toInt ∧ p0.toInt < (n : Int) then (if (0 ≤ p1.toInt ∧ p1.toInt < 240) ∧ 0 ≤ p2.toInt ∧ p2.toInt < 240 then (if p1.toInt ≤ p2.toInt then 0 else 2) else 1) else 1
def bsP (σ : St) (k : Nat) (f : Int32) : Nat → Int64
  | 0 => 0
  | i + 1 => bsP σ k f i + (bfF σ k (f + nI i)).toInt64
set_option maxHeartbeats 4000000 in
set_option maxRecDepth 100000 in
theorem c_X1_bills (l : Launch) (G : GG) (ad : Nat → Nat) (σ : St) (n : Nat) (τ : St) (hst : l.stackTraces = false) (hn : n ≤ 24) (hI : ∀ k, k < n → okL σ k) (p0 p1 p2 : Int32)  : vx_Met l yX1_bills wsX1_bills ({ frames := 8, cells := 6, slots := 36, locals := 160 }) (PcS G ad σ n τ [.ref (ad 0), .int p0, .int p1, .int p2]) (Ql G (3 * n + 9) ad (ctS G ad σ n τ) (fun r => cdBills n p0 p1 p2 = 0 ∧ r = bsP σ (ix p0) p1 (p2.toInt - p1.toInt + 1).toNat)) (XG G (3 * n + 9) ad (ctS G ad σ n τ) (fun E => exC E (cdBills n p0 p1 p2))) 6 36 (gF G) := by
  refine vx_ofW (cc := cX1_bills) (maxL := 8) (ret := (some .long)) (by decide) rfl ?_
  intro p e s m args below meth c s₁ B hml hxt hv
  obtain ⟨rfl, hY⟩ := hv
  have hts := atoms_spec (ws := wsX1_bills) B.pre
  have hC : CallFix p m c cX1_bills 8 s _ wsX1_bills RX1 := ⟨B.exec, B.bytes, hml, findClass_of_methodNamed B.named, hts⟩
  have hx := hC.1
  have hb := hC.2.1
  have hr := B.returns
  have hlocks := B.notSynchronized
  have hin0 : ∀ w ∈ wsX00, w ∈ wsX1_bills := by decide +kernel
  have hin1 : ∀ w ∈ wsX10, w ∈ wsX1_bills := by decide +kernel
  have hl := lv_entry ([.ref (ad 0), .int p0, .int p1, .int p2]) (n := 8) (Nat.le_of_ble_eq_true rfl)
  rw [lg_entry_eq]
  generalize (lg_sl ([.ref (ad 0), .int p0, .int p1, .int p2]) ++ List.replicate (8 - (lg_sl ([.ref (ad 0), .int p0, .int p1, .int p2])).length) Slot.unset).toArray = ls at hl ⊢
  have hl : lv_has ls 8 [(0, .ref (ad 0)), (1, .int p0), (2, .int p1), (3, .int p2)] := hl
  refine lv_aload_n hx hb dX1_bills_0 rfl (lv_at hl 0 rfl) ?_
  refine lv_iload_n hx hb dX1_bills_1 rfl (lv_at hl 1 rfl) ?_
  refine gx_callq hY (gx_runV (n := 1) (q := (RX1, TX1, 5)) (r := 0) hC (c_X1_find l G ad σ n τ hst hn p0) gX1_bills_X1_find rfl ⟨rfl, rfl⟩ (by decide +kernel) ⟨Nat.le_of_ble_eq_true rfl, Nat.le_of_ble_eq_true rfl⟩ hY (by omega) rfl (ci := 1) rfl rfl hl.1 rfl (Nat.le_of_ble_eq_true rfl) dX1_bills_2 ⟨Nat.le_of_ble_eq_true rfl, Nat.le_of_ble_eq_true rfl⟩) hxt hlocks ⟨Nat.le_of_ble_eq_true rfl, Nat.le_of_ble_eq_true rfl⟩ (fun E h => Or.inl ⟨h.1, by have q := h.2; unfold cdBills; (repeat' split) <;> first | rfl | omega⟩) (fun r1 H locs h2 hY => ?_)
  obtain ⟨rfl, h3⟩ := h2
  refine lv_astore (lv' := [(4, .ref (ad (3 * ix p0 + 9))), (0, .ref (ad 0)), (1, .int p0), (2, .int p1), (3, .int p2)]) hx hb dX1_bills_5 hl (by decide) rfl (fun ls hl => ?_)
  refine lv_iload_n hx hb dX1_bills_7 rfl (lv_at hl 3 rfl) ?_
  refine lv_sipush (v := 240) hx hb dX1_bills_8 (by decide) ?_
  refine gx_callv hY (gx_runS (n := 2) hC (c_X1_checkNumber l G ad σ n τ hst p1 240 240 rfl) gX1_bills_X1_checkNumber rfl ⟨rfl, rfl⟩ (by decide +kernel) ⟨Nat.le_of_ble_eq_true rfl, Nat.le_of_ble_eq_true rfl⟩ hY rfl hl.1 rfl (Nat.le_of_ble_eq_true rfl) dX1_bills_11 ⟨Nat.le_of_ble_eq_true rfl, Nat.le_of_ble_eq_true rfl⟩) hxt hlocks ⟨Nat.le_of_ble_eq_true rfl, Nat.le_of_ble_eq_true rfl⟩ (fun E h => Or.inl ⟨h.1, by have q := h.2; unfold cdBills; (repeat' split) <;> first | rfl | omega⟩) (fun H locs h5 hY => ?_)
  refine lv_iload_n hx hb dX1_bills_14 rfl (lv_at hl 4 rfl) ?_
  refine lv_sipush (v := 240) hx hb dX1_bills_15 (by decide) ?_
  refine gx_callv hY (gx_runS (n := 2) hC (c_X1_checkNumber l G ad σ n τ hst p2 240 240 rfl) gX1_bills_X1_checkNumber rfl ⟨rfl, rfl⟩ (by decide +kernel) ⟨Nat.le_of_ble_eq_true rfl, Nat.le_of_ble_eq_true rfl⟩ hY rfl hl.1 rfl (Nat.le_of_ble_eq_true rfl) dX1_bills_18 ⟨Nat.le_of_ble_eq_true rfl, Nat.le_of_ble_eq_true rfl⟩) hxt hlocks ⟨Nat.le_of_ble_eq_true rfl, Nat.le_of_ble_eq_true rfl⟩ (fun E h => Or.inl ⟨h.1, by have q := h.2; unfold cdBills; (repeat' split) <;> first | rfl | omega⟩) (fun H locs h7 hY => ?_)
  refine lv_iload_n hx hb dX1_bills_21 rfl (lv_at hl 4 rfl) ?_
  refine lv_iload_n hx hb dX1_bills_22 rfl (lv_at hl 3 rfl) ?_
  refine lv_sipush (v := 239) hx hb dX1_bills_23 (by decide) ?_
  refine gx_callv hY (gx_runS (n := 3) hC (c_X1_checkRange l G ad σ n τ hst p2 p1 239 p1.toInt 239 rfl rfl) gX1_bills_X1_checkRange rfl ⟨rfl, rfl⟩ (by decide +kernel) ⟨Nat.le_of_ble_eq_true rfl, Nat.le_of_ble_eq_true rfl⟩ hY rfl hl.1 rfl (Nat.le_of_ble_eq_true rfl) dX1_bills_26 ⟨Nat.le_of_ble_eq_true rfl, Nat.le_of_ble_eq_true rfl⟩) hxt hlocks ⟨Nat.le_of_ble_eq_true rfl, Nat.le_of_ble_eq_true rfl⟩ (fun E h => Or.inr <| Or.inl ⟨h.1, by have q := h.2; unfold cdBills; (repeat' split) <;> first | rfl | omega⟩) (fun H locs h9 hY => ?_)
  refine lv_lconst (v := 0) hx hb dX1_bills_29 (by decide) ?_
  refine lv_lstore (lv' := [(5, .long 0), (4, .ref (ad (3 * ix p0 + 9))), (0, .ref (ad 0)), (1, .int p0), (2, .int p1), (3, .int p2)]) hx hb dX1_bills_30 hl (by decide) rfl (fun ls hl => ?_)
  refine lv_iload_n hx hb dX1_bills_32 rfl (lv_at hl 4 rfl) ?_
  refine lv_istore (lv' := [(7, .int p1), (5, .long 0), (4, .ref (ad (3 * ix p0 + 9))), (0, .ref (ad 0)), (1, .int p0), (2, .int p1), (3, .int p2)]) hx hb dX1_bills_33 hl (by decide) rfl (fun ls hl => ?_)
  refine w_loop (X := Int32 × Int64) (fun i x H locs ls => match x with | (x7, x5) => (x7.toInt = p1.toInt + i ∧ i ≤ (p2.toInt - p1.toInt + 1).toNat ∧ x5 = bsP σ (ix p0) p1 i) ∧ SyS G ad σ n τ s H locs ∧ lv_has ls 8 [(7, .int x7), (5, .long x5), (4, .ref (ad (3 * ix p0 + 9))), (0, .ref (ad 0)), (3, .int p2)]) (240) ?_ ?_ ((p1, 0)) ⟨⟨by show _ = _ + (0 : Int); omega, Nat.zero_le _, rfl⟩, hY, lv_sub hl [0, 1, 2, 3, 6] rfl⟩
  · intro i x H locs ls hI ih
    obtain ⟨x7, x5⟩ := x
    obtain ⟨hI, hY, hl⟩ := hI
    obtain ⟨h0, h9, e⟩ := hI
    refine lv_iload hx hb dX1_bills_35 (lv_at hl 0 rfl) ?_
    refine lv_iload_n hx hb dX1_bills_37 rfl (lv_at hl 4 rfl) ?_
    refine b_icmp_gt (tgt := 61) hx hb dX1_bills_38 (by decide) (fun (h10 : p2.toInt < x7.toInt) => ?_) (fun (h10 : x7.toInt ≤ p2.toInt) => ?_)
    · refine lv_lload hx hb dX1_bills_61 (lv_at hl 1 rfl) ?_
      exact vx_ret (g_lret hC hr hlocks hY ⟨Nat.le_of_ble_eq_true rfl, Nat.le_of_ble_eq_true rfl⟩ dX1_bills_63 (⟨by unfold cdBills; (repeat' split) <;> first | rfl | omega, by rw [e, show i = (p2.toInt - p1.toInt + 1).toNat by omega]⟩))
    · refine lv_lload hx hb dX1_bills_41 (lv_at hl 1 rfl) ?_
      refine lv_aload_n hx hb dX1_bills_43 rfl (lv_at hl 3 rfl) ?_
      refine lv_aload hx hb dX1_bills_44 (lv_at hl 2 rfl) ?_
      refine lv_iload hx hb dX1_bills_46 (lv_at hl 0 rfl) ?_
      refine g_calli hY (g_runV (n := 2) (q := (RX1, TX1, 5)) (r := 0) hC (c_X1_billFor l G ad σ n τ (ix p0) (ix_lt h3) x7 (hI _ (ix_lt h3)) (by omega)) gX1_bills_X1_billFor rfl ⟨rfl, rfl⟩ (by decide +kernel) ⟨Nat.le_of_ble_eq_true rfl, Nat.le_of_ble_eq_true rfl⟩ hY (by omega) rfl (ci := 1) rfl rfl hl.1 rfl (Nat.le_of_ble_eq_true rfl) dX1_bills_48 ⟨Nat.le_of_ble_eq_true rfl, Nat.le_of_ble_eq_true rfl⟩) (fun r11 H locs h12 hY => ?_)
      subst h12
      refine lv_i2l hx hb dX1_bills_51 rfl ?_
      refine lv_ladd hx hb dX1_bills_52 ?_
      refine lv_lstore (lv' := [(5, .long (x5 + ((bfF σ (ix p0) x7).toInt64))), (7, .int x7), (4, .ref (ad (3 * ix p0 + 9))), (0, .ref (ad 0)), (3, .int p2)]) hx hb dX1_bills_53 hl (by decide) rfl (fun ls hl => ?_)
      refine lv_iinc (v := x7 + 1) (lv' := [(7, .int (x7 + 1)), (5, .long (x5 + ((bfF σ (ix p0) x7).toInt64))), (4, .ref (ad (3 * ix p0 + 9))), (0, .ref (ad 0)), (3, .int p2)]) hx hb dX1_bills_55 hl (k := 1) rfl rfl (by decide) rfl (fun ls hl => ?_)
      refine lv_goto (tgt := 35) hx hb dX1_bills_58 (by decide) ?_
      have hx7 : x7 = p1 + nI i := i_addnI h0 (by omega) (by omega) (by omega)
      exact ih (x7 + 1, x5 + ((bfF σ (ix p0) x7).toInt64)) _ _ _ ⟨⟨by rw [i_add1 (by omega)]; omega, by omega, by rw [bsP, ← e, ← hx7]⟩, hY, lv_sub hl [0, 1, 2, 3, 4] rfl⟩
  · intro i x H locs ls hI
    obtain ⟨x7, x5⟩ := x
    obtain ⟨hI, -, -⟩ := hI
    obtain ⟨h0, h9, e⟩ := hI
    omega

def ncG (σ : St) (k : Nat) : Nat → Int32 → Int32
  | 0, _ => -1
  | f + 1, t => if t.toInt < 7200 then (if (rfF σ k t).toInt = (rfF σ k (t - 1)).toInt then ncG σ k f (ntF σ k t) else t) else -1
theorem ncG_s {σ : St} {k f : Nat} {t : Int32} : ncG σ k (f + 1) t = if t.toInt < 7200 then (if (rfF σ k t).toInt = (rfF σ k (t - 1)).toInt then ncG σ k f (ntF σ k t) else t) else -1 := rfl
theorem so_gt {d x t : Int32} (h : d.toInt < t.toInt) : d.toInt < (soF d x t).toInt := by
  unfold soF
  split
  · rename_i q; exact q.1
  · exact h
theorem nt_gt {σ : St} {k : Nat} {d : Int32} (h : d.toInt < 7200) : d.toInt < (ntF σ k d).toInt := by
  have h0 : ∀ i, d.toInt < (ntP σ k d i).toInt := by
    intro i
    induction i with
    | zero => exact so_gt (so_gt (so_gt h))
    | succ i ih => exact so_gt ih
  unfold ntF
  split
  · exact so_gt (h0 _)
  · exact h0 _
set_option maxHeartbeats 4000000 in
set_option maxRecDepth 100000 in
theorem c_X1_nextChange (l : Launch) (G : GG) (ad : Nat → Nat) (σ : St) (n : Nat) (τ : St) (hst : l.stackTraces = false) (hn : n ≤ 24) (hI : ∀ k, k < n → okL σ k) (p0 p1 : Int32)  : vx_Met l yX1_nextChange wsX1_nextChange ({ frames := 8, cells := 6, slots := 36, locals := 160 }) (PcS G ad σ n τ [.ref (ad 0), .int p0, .int p1]) (Qi G (3 * n + 9) ad (ctS G ad σ n τ) (fun r => cdLX n 7200 p0 p1 = 0 ∧ r = ncG σ (ix p0) 7200 (ntF σ (ix p0) p1))) (XG G (3 * n + 9) ad (ctS G ad σ n τ) (fun E => exC E (cdLX n 7200 p0 p1))) 6 36 (gF G) := by
  refine vx_ofW (cc := cX1_nextChange) (maxL := 6) (ret := (some .int)) (by decide) rfl ?_
  intro p e s m args below meth c s₁ B hml hxt hv
  obtain ⟨rfl, hY⟩ := hv
  have hts := atoms_spec (ws := wsX1_nextChange) B.pre
  have hC : CallFix p m c cX1_nextChange 6 s _ wsX1_nextChange RX1 := ⟨B.exec, B.bytes, hml, findClass_of_methodNamed B.named, hts⟩
  have hx := hC.1
  have hb := hC.2.1
  have hr := B.returns
  have hlocks := B.notSynchronized
  have hin0 : ∀ w ∈ wsX00, w ∈ wsX1_nextChange := by decide +kernel
  have hin1 : ∀ w ∈ wsX10, w ∈ wsX1_nextChange := by decide +kernel
  have hl := lv_entry ([.ref (ad 0), .int p0, .int p1]) (n := 6) (Nat.le_of_ble_eq_true rfl)
  rw [lg_entry_eq]
  generalize (lg_sl ([.ref (ad 0), .int p0, .int p1]) ++ List.replicate (6 - (lg_sl ([.ref (ad 0), .int p0, .int p1])).length) Slot.unset).toArray = ls at hl ⊢
  have hl : lv_has ls 6 [(0, .ref (ad 0)), (1, .int p0), (2, .int p1)] := hl
  refine lv_aload_n hx hb dX1_nextChange_0 rfl (lv_at hl 0 rfl) ?_
  refine lv_iload_n hx hb dX1_nextChange_1 rfl (lv_at hl 1 rfl) ?_
  refine gx_callq hY (gx_runV (n := 1) (q := (RX1, TX1, 5)) (r := 0) hC (c_X1_find l G ad σ n τ hst hn p0) gX1_nextChange_X1_find rfl ⟨rfl, rfl⟩ (by decide +kernel) ⟨Nat.le_of_ble_eq_true rfl, Nat.le_of_ble_eq_true rfl⟩ hY (by omega) rfl (ci := 1) rfl rfl hl.1 rfl (Nat.le_of_ble_eq_true rfl) dX1_nextChange_2 ⟨Nat.le_of_ble_eq_true rfl, Nat.le_of_ble_eq_true rfl⟩) hxt hlocks ⟨Nat.le_of_ble_eq_true rfl, Nat.le_of_ble_eq_true rfl⟩ (fun E h => Or.inl ⟨h.1, by have q := h.2; unfold cdLX; (repeat' split) <;> first | rfl | omega⟩) (fun r1 H locs h2 hY => ?_)
  obtain ⟨rfl, h3⟩ := h2
  refine lv_astore_n (lv' := [(3, .ref (ad (3 * ix p0 + 9))), (0, .ref (ad 0)), (1, .int p0), (2, .int p1)]) hx hb dX1_nextChange_5 rfl hl (by decide) rfl (fun ls hl => ?_)
  refine lv_iload_n hx hb dX1_nextChange_6 rfl (lv_at hl 3 rfl) ?_
  refine lv_sipush (v := 7200) hx hb dX1_nextChange_7 (by decide) ?_
  refine gx_callv hY (gx_runS (n := 2) hC (c_X1_checkNumber l G ad σ n τ hst p1 7200 7200 rfl) gX1_nextChange_X1_checkNumber rfl ⟨rfl, rfl⟩ (by decide +kernel) ⟨Nat.le_of_ble_eq_true rfl, Nat.le_of_ble_eq_true rfl⟩ hY rfl hl.1 rfl (Nat.le_of_ble_eq_true rfl) dX1_nextChange_10 ⟨Nat.le_of_ble_eq_true rfl, Nat.le_of_ble_eq_true rfl⟩) hxt hlocks ⟨Nat.le_of_ble_eq_true rfl, Nat.le_of_ble_eq_true rfl⟩ (fun E h => Or.inl ⟨h.1, by have q := h.2; unfold cdLX; (repeat' split) <;> first | rfl | omega⟩) (fun H locs h5 hY => ?_)
  refine lv_aload_n hx hb dX1_nextChange_13 rfl (lv_at hl 0 rfl) ?_
  refine lv_iload_n hx hb dX1_nextChange_14 rfl (lv_at hl 3 rfl) ?_
  refine g_calli hY (g_runV (n := 1) (q := (RX0, TX0, 12)) (r := 3 * ix p0 + 9) hC (c_X0_nextTurn l G ad σ n τ (ix p0) (ix_lt h3) p1 (okL_s (hI _ (ix_lt h3)))) gX1_nextChange_X0_nextTurn rfl ⟨rfl, rfl⟩ (by decide +kernel) ⟨Nat.le_of_ble_eq_true rfl, Nat.le_of_ble_eq_true rfl⟩ hY (r_lt (ix_lt h3)) (ct_L (ix p0)) (ci := 0) rfl rfl hl.1 rfl (Nat.le_of_ble_eq_true rfl) dX1_nextChange_15 ⟨Nat.le_of_ble_eq_true rfl, Nat.le_of_ble_eq_true rfl⟩) (fun r6 H locs h7 hY => ?_)
  subst h7
  have hg0 : p1.toInt < (ntF σ (ix p0) p1).toInt := nt_gt (by omega)
  refine lv_istore (lv' := [(4, .int (ntF σ (ix p0) p1)), (3, .ref (ad (3 * ix p0 + 9))), (0, .ref (ad 0)), (1, .int p0), (2, .int p1)]) hx hb dX1_nextChange_18 hl (by decide) rfl (fun ls hl => ?_)
  refine lv_iconst (v := 0) hx hb dX1_nextChange_20 (by decide) ?_
  refine lv_istore (lv' := [(5, .int 0), (4, .int (ntF σ (ix p0) p1)), (3, .ref (ad (3 * ix p0 + 9))), (0, .ref (ad 0)), (1, .int p0), (2, .int p1)]) hx hb dX1_nextChange_21 hl (by decide) rfl (fun ls hl => ?_)
  refine w_loop (X := Int32 × Int32) (fun i x H locs ls => match x with | (x5, x4) => (x5.toInt = i ∧ (i : Int) ≤ 7200 ∧ ncG σ (ix p0) (7200 - i) x4 = ncG σ (ix p0) 7200 (ntF σ (ix p0) p1) ∧ 0 < x4.toInt) ∧ SyS G ad σ n τ s H locs ∧ lv_has ls 6 [(5, .int x5), (4, .int x4), (3, .ref (ad (3 * ix p0 + 9))), (0, .ref (ad 0)), (1, .int p0), (2, .int p1)]) (7200) ?_ ?_ ((0, ntF σ (ix p0) p1)) ⟨⟨rfl, by decide, rfl, by omega⟩, hY, lv_sub hl [0, 1, 2, 3, 4, 5] rfl⟩
  · intro i x H locs ls hI ih
    obtain ⟨x5, x4⟩ := x
    obtain ⟨hI, hY, hl⟩ := hI
    obtain ⟨h0, h9, e, h8⟩ := hI
    refine lv_iload hx hb dX1_nextChange_23 (lv_at hl 0 rfl) ?_
    refine lv_sipush (v := 7200) hx hb dX1_nextChange_25 (by decide) ?_
    refine b_icmp_ge (tgt := 75) hx hb dX1_nextChange_28 (by decide) (fun (h8 : 7200 ≤ x5.toInt) => ?_) (fun (h8 : x5.toInt < 7200) => ?_)
    · refine lv_iconst (v := (-1)) hx hb dX1_nextChange_75 (by decide) ?_
      exact vx_ret (g_iret hC hr hlocks hY ⟨Nat.le_of_ble_eq_true rfl, Nat.le_of_ble_eq_true rfl⟩ dX1_nextChange_76 (⟨by unfold cdLX; (repeat' split) <;> first | rfl | omega, by rw [← e, show 7200 - i = 0 by omega]; rfl⟩))
    · refine lv_iload hx hb dX1_nextChange_31 (lv_at hl 1 rfl) ?_
      refine lv_sipush (v := 7200) hx hb dX1_nextChange_33 (by decide) ?_
      refine b_icmp_ge (tgt := 75) hx hb dX1_nextChange_36 (by decide) (fun (h9 : 7200 ≤ x4.toInt) => ?_) (fun (h9 : x4.toInt < 7200) => ?_)
      · refine lv_iconst (v := (-1)) hx hb dX1_nextChange_75 (by decide) ?_
        have hf : 7200 - i = (7200 - (i + 1)) + 1 := by omega
        exact vx_ret (g_iret hC hr hlocks hY ⟨Nat.le_of_ble_eq_true rfl, Nat.le_of_ble_eq_true rfl⟩ dX1_nextChange_76 (⟨by unfold cdLX; (repeat' split) <;> first | rfl | omega, by rw [← e, hf, ncG_s, if_neg (c := x4.toInt < 7200) (by omega)]⟩))
      · refine lv_aload_n hx hb dX1_nextChange_39 rfl (lv_at hl 3 rfl) ?_
        refine lv_aload_n hx hb dX1_nextChange_40 rfl (lv_at hl 2 rfl) ?_
        refine lv_iload hx hb dX1_nextChange_41 (lv_at hl 1 rfl) ?_
        refine g_calli hY (g_runV (n := 2) (q := (RX1, TX1, 5)) (r := 0) hC (c_X1_rentFor l G ad σ n τ (ix p0) (ix_lt h3) x4 (hI _ (ix_lt h3)) (by omega)) gX1_nextChange_X1_rentFor rfl ⟨rfl, rfl⟩ (by decide +kernel) ⟨Nat.le_of_ble_eq_true rfl, Nat.le_of_ble_eq_true rfl⟩ hY (by omega) rfl (ci := 1) rfl rfl hl.1 rfl (Nat.le_of_ble_eq_true rfl) dX1_nextChange_43 ⟨Nat.le_of_ble_eq_true rfl, Nat.le_of_ble_eq_true rfl⟩) (fun r10 H locs h11 hY => ?_)
        subst h11
        refine lv_aload_n hx hb dX1_nextChange_46 rfl (lv_at hl 3 rfl) ?_
        refine lv_aload_n hx hb dX1_nextChange_47 rfl (lv_at hl 2 rfl) ?_
        refine lv_iload hx hb dX1_nextChange_48 (lv_at hl 1 rfl) ?_
        refine lv_iconst (v := 1) hx hb dX1_nextChange_50 (by decide) ?_
        refine lv_isub hx hb dX1_nextChange_51 ?_
        refine g_calli hY (g_runV (n := 2) (q := (RX1, TX1, 5)) (r := 0) hC (c_X1_rentFor l G ad σ n τ (ix p0) (ix_lt h3) (x4 - 1) (hI _ (ix_lt h3)) (by rw [i_sub1 (by omega)]; omega)) gX1_nextChange_X1_rentFor rfl ⟨rfl, rfl⟩ (by decide +kernel) ⟨Nat.le_of_ble_eq_true rfl, Nat.le_of_ble_eq_true rfl⟩ hY (by omega) rfl (ci := 1) rfl rfl hl.1 rfl (Nat.le_of_ble_eq_true rfl) dX1_nextChange_52 ⟨Nat.le_of_ble_eq_true rfl, Nat.le_of_ble_eq_true rfl⟩) (fun r12 H locs h13 hY => ?_)
        subst h13
        refine b_icmp_eq (tgt := 61) hx hb dX1_nextChange_55 (by decide) (fun (h14 : (rfF σ (ix p0) x4).toInt = (rfF σ (ix p0) (x4 - 1)).toInt) => ?_) (fun (h14 : ¬ (rfF σ (ix p0) x4).toInt = (rfF σ (ix p0) (x4 - 1)).toInt) => ?_)
        · refine lv_aload_n hx hb dX1_nextChange_61 rfl (lv_at hl 2 rfl) ?_
          refine lv_iload hx hb dX1_nextChange_62 (lv_at hl 1 rfl) ?_
          refine g_calli hY (g_runV (n := 1) (q := (RX0, TX0, 12)) (r := 3 * ix p0 + 9) hC (c_X0_nextTurn l G ad σ n τ (ix p0) (ix_lt h3) x4 (okL_s (hI _ (ix_lt h3)))) gX1_nextChange_X0_nextTurn rfl ⟨rfl, rfl⟩ (by decide +kernel) ⟨Nat.le_of_ble_eq_true rfl, Nat.le_of_ble_eq_true rfl⟩ hY (r_lt (ix_lt h3)) (ct_L (ix p0)) (ci := 0) rfl rfl hl.1 rfl (Nat.le_of_ble_eq_true rfl) dX1_nextChange_64 ⟨Nat.le_of_ble_eq_true rfl, Nat.le_of_ble_eq_true rfl⟩) (fun r15 H locs h16 hY => ?_)
          subst h16
          refine lv_istore (lv' := [(4, .int (ntF σ (ix p0) x4)), (5, .int x5), (3, .ref (ad (3 * ix p0 + 9))), (0, .ref (ad 0)), (1, .int p0), (2, .int p1)]) hx hb dX1_nextChange_67 hl (by decide) rfl (fun ls hl => ?_)
          refine lv_iinc (v := x5 + 1) (lv' := [(5, .int (x5 + 1)), (4, .int (ntF σ (ix p0) x4)), (3, .ref (ad (3 * ix p0 + 9))), (0, .ref (ad 0)), (1, .int p0), (2, .int p1)]) hx hb dX1_nextChange_69 hl (k := 1) rfl rfl (by decide) rfl (fun ls hl => ?_)
          refine lv_goto (tgt := 23) hx hb dX1_nextChange_72 (by decide) ?_
          have hf : 7200 - i = (7200 - (i + 1)) + 1 := by omega
          have hg1 : x4.toInt < (ntF σ (ix p0) x4).toInt := nt_gt (by omega)
          exact ih (x5 + 1, ntF σ (ix p0) x4) _ _ _ ⟨⟨by rw [i_add (by have : (1 : Int32).toInt = 1 := rfl; omega)]; have : (1 : Int32).toInt = 1 := rfl; omega, by omega, by rw [← e, hf, ncG_s, if_pos (c := x4.toInt < 7200) (by omega), if_pos h14], by omega⟩, hY, lv_sub hl [0, 1, 2, 3, 4, 5] rfl⟩
        · refine lv_iload hx hb dX1_nextChange_58 (lv_at hl 1 rfl) ?_
          have hf : 7200 - i = (7200 - (i + 1)) + 1 := by omega
          exact vx_ret (g_iret hC hr hlocks hY ⟨Nat.le_of_ble_eq_true rfl, Nat.le_of_ble_eq_true rfl⟩ dX1_nextChange_60 (⟨by unfold cdLX; (repeat' split) <;> first | rfl | omega, by rw [← e, hf, ncG_s, if_pos (c := x4.toInt < 7200) (by omega), if_neg h14]⟩))
  · intro i x H locs ls hI
    obtain ⟨x5, x4⟩ := x
    obtain ⟨hI, -, -⟩ := hI
    obtain ⟨h0, h9, e, h8⟩ := hI
    omega

def cdUX (M N : Int) (p0 p1 : Int32) : Int32 := if 0 ≤ p0.toInt ∧ p0.toInt < M then (if 0 ≤ p1.toInt ∧ p1.toInt < N then 0 else 1) else 1
set_option maxHeartbeats 4000000 in
set_option maxRecDepth 100000 in
theorem c_X1_voids (l : Launch) (G : GG) (ad : Nat → Nat) (σ : St) (n : Nat) (τ : St) (hst : l.stackTraces = false) (p0 p1 : Int32)  : vx_Met l yX1_voids wsX1_voids ({ frames := 8, cells := 6, slots := 36, locals := 160 }) (PcS G ad σ n τ [.ref (ad 0), .int p0, .int p1]) (Qi G (3 * n + 9) ad (ctS G ad σ n τ) (fun r => cdUX 6 20 p0 p1 = 0 ∧ r = 360 - dlP σ n p0 (p1 * 360) (p1 * 360 + 360) 24)) (XG G (3 * n + 9) ad (ctS G ad σ n τ) (fun E => exC E (cdUX 6 20 p0 p1))) 6 36 (gF G) := by
  refine vx_ofW (cc := cX1_voids) (maxL := 4) (ret := (some .int)) (by decide) rfl ?_
  intro p e s m args below meth c s₁ B hml hxt hv
  obtain ⟨rfl, hY⟩ := hv
  have hts := atoms_spec (ws := wsX1_voids) B.pre
  have hC : CallFix p m c cX1_voids 4 s _ wsX1_voids RX1 := ⟨B.exec, B.bytes, hml, findClass_of_methodNamed B.named, hts⟩
  have hx := hC.1
  have hb := hC.2.1
  have hr := B.returns
  have hlocks := B.notSynchronized
  have hin0 : ∀ w ∈ wsX00, w ∈ wsX1_voids := by decide +kernel
  have hin1 : ∀ w ∈ wsX10, w ∈ wsX1_voids := by decide +kernel
  have hl := lv_entry ([.ref (ad 0), .int p0, .int p1]) (n := 4) (Nat.le_of_ble_eq_true rfl)
  rw [lg_entry_eq]
  generalize (lg_sl ([.ref (ad 0), .int p0, .int p1]) ++ List.replicate (4 - (lg_sl ([.ref (ad 0), .int p0, .int p1])).length) Slot.unset).toArray = ls at hl ⊢
  have hl : lv_has ls 4 [(0, .ref (ad 0)), (1, .int p0), (2, .int p1)] := hl
  refine lv_iload_n hx hb dX1_voids_0 rfl (lv_at hl 1 rfl) ?_
  refine lv_aload_n hx hb dX1_voids_1 rfl (lv_at hl 0 rfl) ?_
  refine gtV_areas hC hin1 hY (by decide +kernel) dX1_voids_2 ?_
  refine g_alen hC hY 1 (by omega) 0 rfl rfl (v := 6) rfl dX1_voids_5 ?_
  refine gx_callv hY (gx_runS (n := 2) hC (c_X1_checkNumber l G ad σ n τ hst p0 6 6 rfl) gX1_voids_X1_checkNumber rfl ⟨rfl, rfl⟩ (by decide +kernel) ⟨Nat.le_of_ble_eq_true rfl, Nat.le_of_ble_eq_true rfl⟩ hY rfl hl.1 rfl (Nat.le_of_ble_eq_true rfl) dX1_voids_6 ⟨Nat.le_of_ble_eq_true rfl, Nat.le_of_ble_eq_true rfl⟩) hxt hlocks ⟨Nat.le_of_ble_eq_true rfl, Nat.le_of_ble_eq_true rfl⟩ (fun E h => Or.inl ⟨h.1, by have q := h.2; unfold cdUX; (repeat' split) <;> first | rfl | omega⟩) (fun H locs h2 hY => ?_)
  refine lv_iload_n hx hb dX1_voids_9 rfl (lv_at hl 2 rfl) ?_
  refine lv_bipush (v := 20) hx hb dX1_voids_10 (by decide) ?_
  refine gx_callv hY (gx_runS (n := 2) hC (c_X1_checkNumber l G ad σ n τ hst p1 20 20 rfl) gX1_voids_X1_checkNumber rfl ⟨rfl, rfl⟩ (by decide +kernel) ⟨Nat.le_of_ble_eq_true rfl, Nat.le_of_ble_eq_true rfl⟩ hY rfl hl.1 rfl (Nat.le_of_ble_eq_true rfl) dX1_voids_12 ⟨Nat.le_of_ble_eq_true rfl, Nat.le_of_ble_eq_true rfl⟩) hxt hlocks ⟨Nat.le_of_ble_eq_true rfl, Nat.le_of_ble_eq_true rfl⟩ (fun E h => Or.inl ⟨h.1, by have q := h.2; unfold cdUX; (repeat' split) <;> first | rfl | omega⟩) (fun H locs h4 hY => ?_)
  refine lv_iload_n hx hb dX1_voids_15 rfl (lv_at hl 2 rfl) ?_
  refine lv_sipush (v := 360) hx hb dX1_voids_16 (by decide) ?_
  refine lv_imul hx hb dX1_voids_19 ?_
  refine lv_istore_n (lv' := [(3, .int (p1 * 360)), (0, .ref (ad 0)), (1, .int p0), (2, .int p1)]) hx hb dX1_voids_20 rfl hl (by decide) rfl (fun ls hl => ?_)
  refine lv_sipush (v := 360) hx hb dX1_voids_21 (by decide) ?_
  refine lv_aload_n hx hb dX1_voids_24 rfl (lv_at hl 1 rfl) ?_
  refine lv_iload_n hx hb dX1_voids_25 rfl (lv_at hl 2 rfl) ?_
  refine lv_iload_n hx hb dX1_voids_26 rfl (lv_at hl 0 rfl) ?_
  refine lv_iload_n hx hb dX1_voids_27 rfl (lv_at hl 0 rfl) ?_
  refine lv_sipush (v := 360) hx hb dX1_voids_28 (by decide) ?_
  refine lv_iadd hx hb dX1_voids_31 ?_
  refine g_calli hY (g_runV (n := 3) (q := (RX1, TX1, 5)) (r := 0) hC (c_X1_daysLet l G ad σ n τ p0 (p1 * 360) ((p1 * 360) + 360)) gX1_voids_X1_daysLet rfl ⟨rfl, rfl⟩ (by decide +kernel) ⟨Nat.le_of_ble_eq_true rfl, Nat.le_of_ble_eq_true rfl⟩ hY (by omega) rfl (ci := 1) rfl rfl hl.1 rfl (Nat.le_of_ble_eq_true rfl) dX1_voids_32 ⟨Nat.le_of_ble_eq_true rfl, Nat.le_of_ble_eq_true rfl⟩) (fun r5 H locs h6 hY => ?_)
  subst h6
  refine lv_isub hx hb dX1_voids_35 ?_
  exact vx_ret (g_iret hC hr hlocks hY ⟨Nat.le_of_ble_eq_true rfl, Nat.le_of_ble_eq_true rfl⟩ dX1_voids_36 (⟨by unfold cdUX; (repeat' split) <;> first | rfl | omega, rfl⟩))

set_option maxHeartbeats 4000000 in
set_option maxRecDepth 100000 in
theorem c_X1_part (l : Launch) (G : GG) (ad : Nat → Nat) (σ : St) (n : Nat) (τ : St) (hst : l.stackTraces = false) (hn : n ≤ 24) (p0 p1 : Int32)  : vx_Met l yX1_part wsX1_part ({ frames := 8, cells := 6, slots := 36, locals := 160 }) (PcS G ad σ n τ [.ref (ad 0), .int p0, .int p1]) (Qi G (3 * n + 9) ad (ctS G ad σ n τ) (fun r => cdLX n 20 p0 p1 = 0 ∧ r = ptF σ (ix p0) p1 (σ 2 (ix p1)))) (XG G (3 * n + 9) ad (ctS G ad σ n τ) (fun E => exC E (cdLX n 20 p0 p1))) 6 36 (gF G) := by
  refine vx_ofW (cc := cX1_part) (maxL := 4) (ret := (some .int)) (by decide) rfl ?_
  intro p e s m args below meth c s₁ B hml hxt hv
  obtain ⟨rfl, hY⟩ := hv
  have hts := atoms_spec (ws := wsX1_part) B.pre
  have hC : CallFix p m c cX1_part 4 s _ wsX1_part RX1 := ⟨B.exec, B.bytes, hml, findClass_of_methodNamed B.named, hts⟩
  have hx := hC.1
  have hb := hC.2.1
  have hr := B.returns
  have hlocks := B.notSynchronized
  have hin0 : ∀ w ∈ wsX00, w ∈ wsX1_part := by decide +kernel
  have hin1 : ∀ w ∈ wsX10, w ∈ wsX1_part := by decide +kernel
  have hl := lv_entry ([.ref (ad 0), .int p0, .int p1]) (n := 4) (Nat.le_of_ble_eq_true rfl)
  rw [lg_entry_eq]
  generalize (lg_sl ([.ref (ad 0), .int p0, .int p1]) ++ List.replicate (4 - (lg_sl ([.ref (ad 0), .int p0, .int p1])).length) Slot.unset).toArray = ls at hl ⊢
  have hl : lv_has ls 4 [(0, .ref (ad 0)), (1, .int p0), (2, .int p1)] := hl
  refine lv_aload_n hx hb dX1_part_0 rfl (lv_at hl 0 rfl) ?_
  refine lv_iload_n hx hb dX1_part_1 rfl (lv_at hl 1 rfl) ?_
  refine gx_callq hY (gx_runV (n := 1) (q := (RX1, TX1, 5)) (r := 0) hC (c_X1_find l G ad σ n τ hst hn p0) gX1_part_X1_find rfl ⟨rfl, rfl⟩ (by decide +kernel) ⟨Nat.le_of_ble_eq_true rfl, Nat.le_of_ble_eq_true rfl⟩ hY (by omega) rfl (ci := 1) rfl rfl hl.1 rfl (Nat.le_of_ble_eq_true rfl) dX1_part_2 ⟨Nat.le_of_ble_eq_true rfl, Nat.le_of_ble_eq_true rfl⟩) hxt hlocks ⟨Nat.le_of_ble_eq_true rfl, Nat.le_of_ble_eq_true rfl⟩ (fun E h => Or.inl ⟨h.1, by have q := h.2; unfold cdLX; (repeat' split) <;> first | rfl | omega⟩) (fun r1 H locs h2 hY => ?_)
  obtain ⟨rfl, h3⟩ := h2
  refine lv_astore_n (lv' := [(3, .ref (ad (3 * ix p0 + 9))), (0, .ref (ad 0)), (1, .int p0), (2, .int p1)]) hx hb dX1_part_5 rfl hl (by decide) rfl (fun ls hl => ?_)
  refine lv_iload_n hx hb dX1_part_6 rfl (lv_at hl 3 rfl) ?_
  refine lv_aload_n hx hb dX1_part_7 rfl (lv_at hl 1 rfl) ?_
  refine gtV_costs hC hin1 hY (by decide +kernel) dX1_part_8 ?_
  refine g_alen hC hY 3 (by omega) 0 rfl rfl (v := 20) rfl dX1_part_11 ?_
  refine gx_callv hY (gx_runS (n := 2) hC (c_X1_checkNumber l G ad σ n τ hst p1 20 20 rfl) gX1_part_X1_checkNumber rfl ⟨rfl, rfl⟩ (by decide +kernel) ⟨Nat.le_of_ble_eq_true rfl, Nat.le_of_ble_eq_true rfl⟩ hY rfl hl.1 rfl (Nat.le_of_ble_eq_true rfl) dX1_part_12 ⟨Nat.le_of_ble_eq_true rfl, Nat.le_of_ble_eq_true rfl⟩) hxt hlocks ⟨Nat.le_of_ble_eq_true rfl, Nat.le_of_ble_eq_true rfl⟩ (fun E h => Or.inl ⟨h.1, by have q := h.2; unfold cdLX; (repeat' split) <;> first | rfl | omega⟩) (fun H locs h5 hY => ?_)
  refine lv_aload_n hx hb dX1_part_15 rfl (lv_at hl 1 rfl) ?_
  refine lv_aload_n hx hb dX1_part_16 rfl (lv_at hl 0 rfl) ?_
  refine lv_iload_n hx hb dX1_part_17 rfl (lv_at hl 3 rfl) ?_
  refine lv_aload_n hx hb dX1_part_18 rfl (lv_at hl 1 rfl) ?_
  refine gtV_costs hC hin1 hY (by decide +kernel) dX1_part_19 ?_
  refine lv_iload_n hx hb dX1_part_22 rfl (lv_at hl 3 rfl) ?_
  refine rdA2 hC hY h5 dX1_part_23 ?_
  refine g_calli hY (g_runV (n := 3) (q := (RX1, TX1, 5)) (r := 0) hC (c_X1_partOf l G ad σ n τ (ix p0) (ix_lt h3) p1 (σ 2 (ix p1))) gX1_part_X1_partOf rfl ⟨rfl, rfl⟩ (by decide +kernel) ⟨Nat.le_of_ble_eq_true rfl, Nat.le_of_ble_eq_true rfl⟩ hY (by omega) rfl (ci := 1) rfl rfl hl.1 rfl (Nat.le_of_ble_eq_true rfl) dX1_part_24 ⟨Nat.le_of_ble_eq_true rfl, Nat.le_of_ble_eq_true rfl⟩) (fun r6 H locs h7 hY => ?_)
  subst h7
  exact vx_ret (g_iret hC hr hlocks hY ⟨Nat.le_of_ble_eq_true rfl, Nat.le_of_ble_eq_true rfl⟩ dX1_part_27 (⟨by unfold cdLX; (repeat' split) <;> first | rfl | omega, rfl⟩))

set_option maxHeartbeats 4000000 in
set_option maxRecDepth 100000 in
theorem c_X1_balance (l : Launch) (G : GG) (ad : Nat → Nat) (σ : St) (n : Nat) (τ : St) (hst : l.stackTraces = false) (hn : n ≤ 24) (p0 p1 : Int32)  : vx_Met l yX1_balance wsX1_balance ({ frames := 8, cells := 6, slots := 36, locals := 160 }) (PcS G ad σ n τ [.ref (ad 0), .int p0, .int p1]) (Qi G (3 * n + 9) ad (ctS G ad σ n τ) (fun r => cdLX n 20 p0 p1 = 0 ∧ r = ptF σ (ix p0) p1 (σ 2 (ix p1)) - σ 10 (ix p0) * diF σ (ix p0) p1 / 30)) (XG G (3 * n + 9) ad (ctS G ad σ n τ) (fun E => exC E (cdLX n 20 p0 p1))) 6 36 (gF G) := by
  refine vx_ofW (cc := cX1_balance) (maxL := 5) (ret := (some .int)) (by decide) rfl ?_
  intro p e s m args below meth c s₁ B hml hxt hv
  obtain ⟨rfl, hY⟩ := hv
  have hts := atoms_spec (ws := wsX1_balance) B.pre
  have hC : CallFix p m c cX1_balance 5 s _ wsX1_balance RX1 := ⟨B.exec, B.bytes, hml, findClass_of_methodNamed B.named, hts⟩
  have hx := hC.1
  have hb := hC.2.1
  have hr := B.returns
  have hlocks := B.notSynchronized
  have hin0 : ∀ w ∈ wsX00, w ∈ wsX1_balance := by decide +kernel
  have hin1 : ∀ w ∈ wsX10, w ∈ wsX1_balance := by decide +kernel
  have hl := lv_entry ([.ref (ad 0), .int p0, .int p1]) (n := 5) (Nat.le_of_ble_eq_true rfl)
  rw [lg_entry_eq]
  generalize (lg_sl ([.ref (ad 0), .int p0, .int p1]) ++ List.replicate (5 - (lg_sl ([.ref (ad 0), .int p0, .int p1])).length) Slot.unset).toArray = ls at hl ⊢
  have hl : lv_has ls 5 [(0, .ref (ad 0)), (1, .int p0), (2, .int p1)] := hl
  refine lv_aload_n hx hb dX1_balance_0 rfl (lv_at hl 0 rfl) ?_
  refine lv_iload_n hx hb dX1_balance_1 rfl (lv_at hl 1 rfl) ?_
  refine gx_callq hY (gx_runV (n := 1) (q := (RX1, TX1, 5)) (r := 0) hC (c_X1_find l G ad σ n τ hst hn p0) gX1_balance_X1_find rfl ⟨rfl, rfl⟩ (by decide +kernel) ⟨Nat.le_of_ble_eq_true rfl, Nat.le_of_ble_eq_true rfl⟩ hY (by omega) rfl (ci := 1) rfl rfl hl.1 rfl (Nat.le_of_ble_eq_true rfl) dX1_balance_2 ⟨Nat.le_of_ble_eq_true rfl, Nat.le_of_ble_eq_true rfl⟩) hxt hlocks ⟨Nat.le_of_ble_eq_true rfl, Nat.le_of_ble_eq_true rfl⟩ (fun E h => Or.inl ⟨h.1, by have q := h.2; unfold cdLX; (repeat' split) <;> first | rfl | omega⟩) (fun r1 H locs h2 hY => ?_)
  obtain ⟨rfl, h3⟩ := h2
  refine lv_astore_n (lv' := [(3, .ref (ad (3 * ix p0 + 9))), (0, .ref (ad 0)), (1, .int p0), (2, .int p1)]) hx hb dX1_balance_5 rfl hl (by decide) rfl (fun ls hl => ?_)
  refine lv_iload_n hx hb dX1_balance_6 rfl (lv_at hl 3 rfl) ?_
  refine lv_aload_n hx hb dX1_balance_7 rfl (lv_at hl 1 rfl) ?_
  refine gtV_costs hC hin1 hY (by decide +kernel) dX1_balance_8 ?_
  refine g_alen hC hY 3 (by omega) 0 rfl rfl (v := 20) rfl dX1_balance_11 ?_
  refine gx_callv hY (gx_runS (n := 2) hC (c_X1_checkNumber l G ad σ n τ hst p1 20 20 rfl) gX1_balance_X1_checkNumber rfl ⟨rfl, rfl⟩ (by decide +kernel) ⟨Nat.le_of_ble_eq_true rfl, Nat.le_of_ble_eq_true rfl⟩ hY rfl hl.1 rfl (Nat.le_of_ble_eq_true rfl) dX1_balance_12 ⟨Nat.le_of_ble_eq_true rfl, Nat.le_of_ble_eq_true rfl⟩) hxt hlocks ⟨Nat.le_of_ble_eq_true rfl, Nat.le_of_ble_eq_true rfl⟩ (fun E h => Or.inl ⟨h.1, by have q := h.2; unfold cdLX; (repeat' split) <;> first | rfl | omega⟩) (fun H locs h5 hY => ?_)
  refine lv_aload_n hx hb dX1_balance_15 rfl (lv_at hl 0 rfl) ?_
  refine gtN_prepaid hC hin0 hY (k := ix p0) (ix_lt h3) (by decide) dX1_balance_16 ?_
  refine lv_aload_n hx hb dX1_balance_19 rfl (lv_at hl 0 rfl) ?_
  refine lv_iload_n hx hb dX1_balance_20 rfl (lv_at hl 3 rfl) ?_
  refine g_calli hY (g_runV (n := 1) (q := (RX0, TX0, 12)) (r := 3 * ix p0 + 9) hC (c_X0_daysIn l G ad σ n τ (ix p0) (ix_lt h3) p1) gX1_balance_X0_daysIn rfl ⟨rfl, rfl⟩ (by decide +kernel) ⟨Nat.le_of_ble_eq_true rfl, Nat.le_of_ble_eq_true rfl⟩ hY (r_lt (ix_lt h3)) (ct_L (ix p0)) (ci := 0) rfl rfl hl.1 rfl (Nat.le_of_ble_eq_true rfl) dX1_balance_21 ⟨Nat.le_of_ble_eq_true rfl, Nat.le_of_ble_eq_true rfl⟩) (fun r6 H locs h7 hY => ?_)
  subst h7
  refine lv_imul hx hb dX1_balance_24 ?_
  refine lv_bipush (v := 30) hx hb dX1_balance_25 (by decide) ?_
  refine lv_idiv hx hb dX1_balance_27 (by decide) ?_
  refine lv_istore (lv' := [(4, .int (((σ 10 (ix p0)) * (diF σ (ix p0) p1)) / 30)), (3, .ref (ad (3 * ix p0 + 9))), (0, .ref (ad 0)), (1, .int p0), (2, .int p1)]) hx hb dX1_balance_28 hl (by decide) rfl (fun ls hl => ?_)
  refine lv_aload_n hx hb dX1_balance_30 rfl (lv_at hl 2 rfl) ?_
  refine lv_aload_n hx hb dX1_balance_31 rfl (lv_at hl 1 rfl) ?_
  refine lv_iload_n hx hb dX1_balance_32 rfl (lv_at hl 4 rfl) ?_
  refine lv_aload_n hx hb dX1_balance_33 rfl (lv_at hl 2 rfl) ?_
  refine gtV_costs hC hin1 hY (by decide +kernel) dX1_balance_34 ?_
  refine lv_iload_n hx hb dX1_balance_37 rfl (lv_at hl 4 rfl) ?_
  refine rdA2 hC hY h5 dX1_balance_38 ?_
  refine g_calli hY (g_runV (n := 3) (q := (RX1, TX1, 5)) (r := 0) hC (c_X1_partOf l G ad σ n τ (ix p0) (ix_lt h3) p1 (σ 2 (ix p1))) gX1_balance_X1_partOf rfl ⟨rfl, rfl⟩ (by decide +kernel) ⟨Nat.le_of_ble_eq_true rfl, Nat.le_of_ble_eq_true rfl⟩ hY (by omega) rfl (ci := 1) rfl rfl hl.1 rfl (Nat.le_of_ble_eq_true rfl) dX1_balance_39 ⟨Nat.le_of_ble_eq_true rfl, Nat.le_of_ble_eq_true rfl⟩) (fun r8 H locs h9 hY => ?_)
  subst h9
  refine lv_iload hx hb dX1_balance_42 (lv_at hl 0 rfl) ?_
  refine lv_isub hx hb dX1_balance_44 ?_
  exact vx_ret (g_iret hC hr hlocks hY ⟨Nat.le_of_ble_eq_true rfl, Nat.le_of_ble_eq_true rfl⟩ dX1_balance_45 (⟨by unfold cdLX; (repeat' split) <;> first | rfl | omega, rfl⟩))

def cdU1 (N : Int) (p0 : Int32) : Int32 := if 0 ≤ p0.toInt ∧ p0.toInt < N then 0 else 1
def owP (σ : St) (n : Nat) (y : Int32) : Nat → Int32
  | 0 => σ 2 (ix y)
  | i + 1 => if i < n then owP σ n y i - ptF σ i y (σ 2 (ix y)) else owP σ n y i
set_option maxHeartbeats 4000000 in
set_option maxRecDepth 100000 in
theorem c_X1_owners (l : Launch) (G : GG) (ad : Nat → Nat) (σ : St) (n : Nat) (τ : St) (hst : l.stackTraces = false) (p0 : Int32)  : vx_Met l yX1_owners wsX1_owners ({ frames := 8, cells := 6, slots := 36, locals := 160 }) (PcS G ad σ n τ [.ref (ad 0), .int p0]) (Qi G (3 * n + 9) ad (ctS G ad σ n τ) (fun r => cdU1 20 p0 = 0 ∧ r = owP σ n p0 24)) (XG G (3 * n + 9) ad (ctS G ad σ n τ) (fun E => exC E (cdU1 20 p0))) 6 36 (gF G) := by
  refine vx_ofW (cc := cX1_owners) (maxL := 7) (ret := (some .int)) (by decide) rfl ?_
  intro p e s m args below meth c s₁ B hml hxt hv
  obtain ⟨rfl, hY⟩ := hv
  have hts := atoms_spec (ws := wsX1_owners) B.pre
  have hC : CallFix p m c cX1_owners 7 s _ wsX1_owners RX1 := ⟨B.exec, B.bytes, hml, findClass_of_methodNamed B.named, hts⟩
  have hx := hC.1
  have hb := hC.2.1
  have hr := B.returns
  have hlocks := B.notSynchronized
  have hin0 : ∀ w ∈ wsX00, w ∈ wsX1_owners := by decide +kernel
  have hin1 : ∀ w ∈ wsX10, w ∈ wsX1_owners := by decide +kernel
  have hl := lv_entry ([.ref (ad 0), .int p0]) (n := 7) (Nat.le_of_ble_eq_true rfl)
  rw [lg_entry_eq]
  generalize (lg_sl ([.ref (ad 0), .int p0]) ++ List.replicate (7 - (lg_sl ([.ref (ad 0), .int p0])).length) Slot.unset).toArray = ls at hl ⊢
  have hl : lv_has ls 7 [(0, .ref (ad 0)), (1, .int p0)] := hl
  refine lv_iload_n hx hb dX1_owners_0 rfl (lv_at hl 1 rfl) ?_
  refine lv_aload_n hx hb dX1_owners_1 rfl (lv_at hl 0 rfl) ?_
  refine gtV_costs hC hin1 hY (by decide +kernel) dX1_owners_2 ?_
  refine g_alen hC hY 3 (by omega) 0 rfl rfl (v := 20) rfl dX1_owners_5 ?_
  refine gx_callv hY (gx_runS (n := 2) hC (c_X1_checkNumber l G ad σ n τ hst p0 20 20 rfl) gX1_owners_X1_checkNumber rfl ⟨rfl, rfl⟩ (by decide +kernel) ⟨Nat.le_of_ble_eq_true rfl, Nat.le_of_ble_eq_true rfl⟩ hY rfl hl.1 rfl (Nat.le_of_ble_eq_true rfl) dX1_owners_6 ⟨Nat.le_of_ble_eq_true rfl, Nat.le_of_ble_eq_true rfl⟩) hxt hlocks ⟨Nat.le_of_ble_eq_true rfl, Nat.le_of_ble_eq_true rfl⟩ (fun E h => Or.inl ⟨h.1, by have q := h.2; unfold cdU1; (repeat' split) <;> first | rfl | omega⟩) (fun H locs h2 hY => ?_)
  refine lv_aload_n hx hb dX1_owners_9 rfl (lv_at hl 0 rfl) ?_
  refine gtV_costs hC hin1 hY (by decide +kernel) dX1_owners_10 ?_
  refine lv_iload_n hx hb dX1_owners_13 rfl (lv_at hl 1 rfl) ?_
  refine rdA2 hC hY h2 dX1_owners_14 ?_
  refine lv_istore_n (lv' := [(2, .int (σ 2 (ix p0))), (0, .ref (ad 0)), (1, .int p0)]) hx hb dX1_owners_15 rfl hl (by decide) rfl (fun ls hl => ?_)
  refine lv_aload_n hx hb dX1_owners_16 rfl (lv_at hl 1 rfl) ?_
  refine gtV_roll hC hin1 hY (by decide +kernel) dX1_owners_17 ?_
  refine lv_astore_n (lv' := [(3, .ref (ad 4)), (2, .int (σ 2 (ix p0))), (0, .ref (ad 0)), (1, .int p0)]) hx hb dX1_owners_20 rfl hl (by decide) rfl (fun ls hl => ?_)
  refine lv_aload_n hx hb dX1_owners_21 rfl (lv_at hl 0 rfl) ?_
  refine g_alen hC hY 4 (by omega) 1 rfl rfl (v := 24) rfl dX1_owners_22 ?_
  refine lv_istore (lv' := [(4, .int 24), (3, .ref (ad 4)), (2, .int (σ 2 (ix p0))), (0, .ref (ad 0)), (1, .int p0)]) hx hb dX1_owners_23 hl (by decide) rfl (fun ls hl => ?_)
  refine lv_iconst (v := 0) hx hb dX1_owners_25 (by decide) ?_
  refine lv_istore (lv' := [(5, .int 0), (4, .int 24), (3, .ref (ad 4)), (2, .int (σ 2 (ix p0))), (0, .ref (ad 0)), (1, .int p0)]) hx hb dX1_owners_26 hl (by decide) rfl (fun ls hl => ?_)
  refine w_loop (X := Int32 × Int32) (fun i x H locs ls => match x with | (x5, x2) => (x5.toInt = i ∧ (i : Int) ≤ 24 ∧ x2 = owP σ n p0 i) ∧ SyS G ad σ n τ s H locs ∧ lv_has ls 7 [(5, .int x5), (2, .int x2), (4, .int 24), (3, .ref (ad 4)), (0, .ref (ad 0)), (1, .int p0)]) (24) ?_ ?_ ((0, σ 2 (ix p0))) ⟨⟨rfl, by decide, rfl⟩, hY, lv_sub hl [0, 3, 1, 2, 4, 5] rfl⟩
  · intro i x H locs ls hI ih
    obtain ⟨x5, x2⟩ := x
    obtain ⟨hI, hY, hl⟩ := hI
    obtain ⟨h0, h9, e⟩ := hI
    refine lv_iload hx hb dX1_owners_28 (lv_at hl 0 rfl) ?_
    refine lv_iload hx hb dX1_owners_30 (lv_at hl 2 rfl) ?_
    refine b_icmp_ge (tgt := 68) hx hb dX1_owners_32 (by decide) (fun (h3 : 24 ≤ x5.toInt) => ?_) (fun (h3 : x5.toInt < 24) => ?_)
    · refine lv_iload_n hx hb dX1_owners_68 rfl (lv_at hl 1 rfl) ?_
      exact vx_ret (g_iret hC hr hlocks hY ⟨Nat.le_of_ble_eq_true rfl, Nat.le_of_ble_eq_true rfl⟩ dX1_owners_69 (⟨by unfold cdU1; (repeat' split) <;> first | rfl | omega, by rw [e, show i = 24 by omega]⟩))
    · refine lv_aload_n hx hb dX1_owners_35 rfl (lv_at hl 3 rfl) ?_
      refine lv_iload hx hb dX1_owners_36 (lv_at hl 0 rfl) ?_
      refine rdRoll hC hY ⟨by omega, by omega⟩ dX1_owners_38 ?_
      by_cases h4 : ix x5 < n
      · rw [show roF ad n (ix x5) = some (ad (3 * ix x5 + 9)) from if_pos h4]
        refine lv_astore (lv' := [(6, .ref (ad (3 * ix x5 + 9))), (5, .int x5), (2, .int x2), (4, .int 24), (3, .ref (ad 4)), (0, .ref (ad 0)), (1, .int p0)]) hx hb dX1_owners_39 hl (by decide) rfl (fun ls hl => ?_)
        refine lv_aload hx hb dX1_owners_41 (lv_at hl 0 rfl) ?_
        refine lv_ifnull hx hb dX1_owners_43 ?_
        refine lv_iload_n hx hb dX1_owners_46 rfl (lv_at hl 2 rfl) ?_
        refine lv_aload_n hx hb dX1_owners_47 rfl (lv_at hl 5 rfl) ?_
        refine lv_aload hx hb dX1_owners_48 (lv_at hl 0 rfl) ?_
        refine lv_iload_n hx hb dX1_owners_50 rfl (lv_at hl 6 rfl) ?_
        refine lv_aload_n hx hb dX1_owners_51 rfl (lv_at hl 5 rfl) ?_
        refine gtV_costs hC hin1 hY (by decide +kernel) dX1_owners_52 ?_
        refine lv_iload_n hx hb dX1_owners_55 rfl (lv_at hl 6 rfl) ?_
        refine rdA2 hC hY h2 dX1_owners_56 ?_
        refine g_calli hY (g_runV (n := 3) (q := (RX1, TX1, 5)) (r := 0) hC (c_X1_partOf l G ad σ n τ (ix x5) h4 p0 (σ 2 (ix p0))) gX1_owners_X1_partOf rfl ⟨rfl, rfl⟩ (by decide +kernel) ⟨Nat.le_of_ble_eq_true rfl, Nat.le_of_ble_eq_true rfl⟩ hY (by omega) rfl (ci := 1) rfl rfl hl.1 rfl (Nat.le_of_ble_eq_true rfl) dX1_owners_57 ⟨Nat.le_of_ble_eq_true rfl, Nat.le_of_ble_eq_true rfl⟩) (fun r5 H locs h6 hY => ?_)
        subst h6
        refine lv_isub hx hb dX1_owners_60 ?_
        refine lv_istore_n (lv' := [(2, .int (x2 - (ptF σ (ix x5) p0 (σ 2 (ix p0))))), (6, .ref (ad (3 * ix x5 + 9))), (5, .int x5), (4, .int 24), (3, .ref (ad 4)), (0, .ref (ad 0)), (1, .int p0)]) hx hb dX1_owners_61 rfl hl (by decide) rfl (fun ls hl => ?_)
        refine lv_iinc (v := x5 + 1) (lv' := [(5, .int (x5 + 1)), (2, .int (x2 - (ptF σ (ix x5) p0 (σ 2 (ix p0))))), (6, .ref (ad (3 * ix x5 + 9))), (4, .int 24), (3, .ref (ad 4)), (0, .ref (ad 0)), (1, .int p0)]) hx hb dX1_owners_62 hl (k := 2) rfl rfl (by decide) rfl (fun ls hl => ?_)
        refine lv_goto (tgt := 28) hx hb dX1_owners_65 (by decide) ?_
        have hix : ix x5 = i := i_ix h0
        exact ih (x5 + 1, x2 - (ptF σ (ix x5) p0 (σ 2 (ix p0)))) _ _ _ ⟨⟨by rw [i_add (by have : (1 : Int32).toInt = 1 := rfl; omega)]; have : (1 : Int32).toInt = 1 := rfl; omega, by omega, by rw [owP, if_pos (by rw [← hix]; exact h4), ← e, ← hix]⟩, hY, lv_sub hl [0, 1, 3, 4, 5, 6] rfl⟩
      · rw [show roF ad n (ix x5) = none from if_neg h4]
        refine W.eq (g2 := F0 m 39 ls [.null]) rfl ?_
        refine lv_astoreN (lv' := [(6, .null), (5, .int x5), (2, .int x2), (4, .int 24), (3, .ref (ad 4)), (0, .ref (ad 0)), (1, .int p0)]) hx hb dX1_owners_39 hl (by decide) rfl (fun ls hl => ?_)
        refine lv_aloadN hx hb dX1_owners_41 (lv_at hl 0 rfl) ?_
        refine lv_ifnullN (tgt := 62) hx hb dX1_owners_43 (by decide) ?_
        refine lv_iinc (v := x5 + 1) (lv' := [(5, .int (x5 + 1)), (6, .null), (2, .int x2), (4, .int 24), (3, .ref (ad 4)), (0, .ref (ad 0)), (1, .int p0)]) hx hb dX1_owners_62 hl (k := 1) rfl rfl (by decide) rfl (fun ls hl => ?_)
        refine lv_goto (tgt := 28) hx hb dX1_owners_65 (by decide) ?_
        have hix : ix x5 = i := i_ix h0
        exact ih (x5 + 1, x2) _ _ _ ⟨⟨by rw [i_add (by have : (1 : Int32).toInt = 1 := rfl; omega)]; have : (1 : Int32).toInt = 1 := rfl; omega, by omega, by rw [owP, if_neg (by rw [← hix]; exact h4)]; exact e⟩, hY, lv_sub hl [0, 2, 3, 4, 5, 6] rfl⟩
  · intro i x H locs ls hI
    obtain ⟨x5, x2⟩ := x
    obtain ⟨hI, -, -⟩ := hI
    obtain ⟨h0, h9, e⟩ := hI
    omega
end
section
/-! the functions that say what a day, a bill, a part is (whole's, here as words of the mathematics alone) -/
def ilP (τ : St) (u f t : Int32) : Nat → Int32
  | 0 => 0
  | i + 1 => if ¬ (ilP τ u f t i).toInt = 0 ∨ ((τ 3 i).toInt = u.toInt ∧ (τ 4 i).toInt < t.toInt ∧ f.toInt < (τ 5 i).toInt) then 1 else 0
theorem ilP_01 {τ : St} {u f t : Int32} : ∀ i, ilP τ u f t i = 0 ∨ ilP τ u f t i = 1 := by
  intro i
  cases i with
  | zero => exact Or.inl rfl
  | succ i =>
    rw [ilP]
    split
    · exact Or.inr rfl
    · exact Or.inl rfl
def agM (σ : St) (k : Nat) (d : Int32) : Nat → Int32 × Int32
  | 0 => (σ 6 k, -1)
  | i + 1 => if (rowF σ 13 k i).toInt ≤ d.toInt ∧ (agM σ k d i).2.toInt < (rowF σ 13 k i).toInt then (rowF σ 14 k i, rowF σ 13 k i) else agM σ k d i
def amF (σ : St) (k : Nat) (d : Int32) : Int32 := (agM σ k d (stN σ k)).1
theorem rowF_lt {σ : St} {a k i : Nat} (h : i < 6) : rowF σ a k i = σ a (6 * k + i) := if_pos h
theorem ok_ix {σ : St} {k : Nat} (h : okL σ k) : 0 ≤ (σ 4 k / 30).toInt ∧ (σ 4 k / 30).toInt < 240 := by
  obtain ⟨-, ⟨h1, h2, h3⟩, -⟩ := h
  have h30 : (30 : Int32).toInt = 30 := rfl
  rw [i_div (by rw [h30]; decide), h30, Int.tdiv_eq_ediv_of_nonneg h1]
  omega
theorem d30 {x : Int32} (h1 : 0 ≤ x.toInt) (h2 : x.toInt < 7200) : 0 ≤ (x / 30).toInt ∧ (x / 30).toInt < 240 := by
  have h30 : (30 : Int32).toInt = 30 := rfl
  rw [i_div (by rw [h30]; decide), h30, Int.tdiv_eq_ediv_of_nonneg h1]
  omega
def giP (σ : St) (k : Nat) : Nat → Int32
  | 0 => 0
  | i + 1 => mxF (giP σ k i) (σ 1 (ix ((σ 4 k + nI (i + 1) * σ 8 k) / 30)))
def gmF (σ : St) (k : Nat) (d : Int32) : Int32 := giP σ k (rvF σ k d).toInt.toNat
def rmF (σ : St) (k : Nat) (d : Int32) : Int32 := if rOn σ k d ∧ ¬ fOn σ k d then mxF (amF σ k d) (amF σ k d * gmF σ k d / σ 1 (ix (σ 4 k / 30))) else 0
theorem i_mulc' {x : Int32} {c : Nat} (hx : 0 ≤ x.toInt ∧ x.toInt < 10000) (hc : c < 10000) : (nI c * x).toInt = c * x.toInt := by rw [Int32.mul_comm, i_mulc hx hc, Int.mul_comm]
def bmP (σ : St) (k : Nat) (m : Int32) : Nat → Int32
  | 0 => 0
  | i + 1 => bmP σ k m i + rmF σ k (30 * m + nI i)
abbrev bmF (σ : St) (k : Nat) (m : Int32) : Int32 := bmP σ k m 30 / 30
def dmA (σ : St) (k : Nat) (y : Int32) : Int32 := if (360 * y).toInt < (σ 4 k).toInt then σ 4 k else 360 * y
def dmB (σ : St) (k : Nat) (y : Int32) : Int32 := if (σ 5 k).toInt < (360 * y + 360).toInt then σ 5 k else 360 * y + 360
def dmF (σ : St) (k : Nat) (y : Int32) : Int32 := if (dmA σ k y).toInt < (dmB σ k y).toInt then dmB σ k y - dmA σ k y else 0
def pmQ (σ : St) (k : Nat) (y : Int32) : Int32 := ((σ 2 (ix y)).toInt64 * (σ 0 (ix (σ 3 k))).toInt64 * (dmF σ k y).toInt64 / ((aaP σ 6).toInt64 * 360)).toInt32
def pmM (σ : St) (k : Nat) (y : Int32) : Int32 := if (σ 9 k).toInt = -1 then pmQ σ k y else σ 9 k * dmF σ k y / 360
def pmF (σ : St) (k : Nat) (y : Int32) : Int32 := if (aaP σ 6).toInt = 0 then 0 else (if (pmQ σ k y).toInt < (pmM σ k y).toInt then pmQ σ k y else pmM σ k y)
def cdLetM (σ : St) (n : Nat) (p0 p1 p2 p3 : Int32) : Int32 := if 0 ≤ p0.toInt ∧ p0.toInt < 6 then (if (0 ≤ p1.toInt ∧ p1.toInt ≤ 7199) ∧ p1.toInt < p2.toInt ∧ p2.toInt ≤ 7200 ∧ 1 ≤ p3.toInt ∧ p3.toInt ≤ 99999 then (if n = 24 ∨ ¬ (ilP σ p0 p1 p2 n).toInt = 0 then 3 else 0) else 2) else 1
abbrev ltS (σ : St) (n : Nat) (p0 p1 p2 p3 : Int32) : St := us (us (us (us (us σ 3 n p0) 4 n p1) 5 n p2) 6 n p3) 9 n (-1)
abbrev tmV (σ : St) (k : Nat) (d t : Int32) : Int32 := mxF 0 (t * rmF σ k d - σ 11 k)
def fmP (σ : St) (u d : Int32) : Nat → Int32
  | 0 => -1
  | i + 1 => if (σ 3 i).toInt = u.toInt ∧ rOn σ i d then nI i else fmP σ u d i
def bmS (σ : St) (k : Nat) (f : Int32) : Nat → Int64
  | 0 => 0
  | i + 1 => bmS σ k f i + (bmF σ k (f + nI i)).toInt64
def nmG (σ : St) (k : Nat) (b : Int32) : Nat → Int32 → Int32
  | 0, _ => -1
  | f + 1, t => if t.toInt < 7200 ∧ t.toInt ≤ (σ 5 k).toInt then (if (rmF σ k t).toInt = b.toInt then nmG σ k b f (t + 1) else t) else -1
theorem nmG_s {σ : St} {k f : Nat} {b t : Int32} : nmG σ k b (f + 1) t = if t.toInt < 7200 ∧ t.toInt ≤ (σ 5 k).toInt then (if (rmF σ k t).toInt = b.toInt then nmG σ k b f (t + 1) else t) else -1 := rfl
def vmP (σ : St) (u y : Int32) : Nat → Int32
  | 0 => 360
  | i + 1 => if (σ 3 i).toInt = u.toInt then vmP σ u y i - dmF σ i y else vmP σ u y i - 0
def omP (σ : St) (y : Int32) : Nat → Int32
  | 0 => σ 2 (ix y)
  | i + 1 => omP σ y i - pmF σ i y
end
section
/-! making objects and rows -/
section GMK
variable {p : Program} {l : Launch} {e : Env} {R : Room} {s : State} {m : MethodId} {args : Array Value} {below : List Frame} {meth : Method} {c : Code} {H : Heap} {locs : List Loc} {cells slots : Nat} {Q : State → Prop}
variable {cc : ByteArray} {nL : Nat} {Ts : List Cond} {own : String} {pc : Nat} {ls : Array Slot} {rest st0 : List Value} {G : GG} {N N' : Nat} {ad ad' : Nat → Nat} {ct ct' : Nat → va_E} {mc ms : Nat}
theorem g_newi (hC : CallFix p m c cc nL s args Ts own) (hY : Sy G N ad ct s H locs) (harr : Cond.arrayClass .int ∈ Ts) {n : Int32} {L : Nat} (hn : ¬ n < 0) (hN : n.toNatClampNeg = L) (hbytes : L * 4 ≤ 536870912) (hcells : cells + 1 ≤ R.cells) (hslots : slots + L ≤ R.slots) (hdg : decode cc pc = .ok (.newarray .int, 2))
    (kk : ∀ (q : Nat) (H1 : Heap), Sy G (N + 1) (va_up ad N q) (va_up ct N (.inl (G.2.2 0, L, .inl (fun _ => 0)))) s H1 locs → W p l e R s m args below meth c H1 locs (cells + 1) (slots + L) Q (F0 m (pc + 2) ls (.ref q :: rest))) : W p l e R s m args below meth c H locs cells slots Q (F0 m pc ls (.int n :: rest)) := by
  obtain ⟨hx, hb, hml, hown, hts⟩ := hC
  obtain ⟨hK, hP, hD, hS, hlo, hX⟩ := hY
  refine va_newa (atype := .int) hx hb (hts _ harr) (ty := .int) rfl hK hP hD hS (fun q h => Nat.le_trans hlo h) (N' := L) (a0 := (L, .inl (fun _ => 0))) (fun cA => rfl) hn hN hbytes hcells hslots hdg (fun q cA H1 k1 k2 k3 k4 => ?_)
  have e1 : s.vm.findClass ("[" ++ FieldType.int.toString) = some (G.2.2 0) := (hK.2 0 _ rfl).2
  have e2 : s.vm.findClass ("[" ++ FieldType.int.toString) = some cA := (k1.2 2 _ rfl).2
  cases Option.some.inj (e1.symm.trans e2)
  rw [wl_push] at k2 k3
  exact kk q H1 ⟨hK, k2, k3, k4, hlo, hX⟩
theorem g_newq (hC : CallFix p m c cc nL s args Ts own) (hY : Sy G N ad ct s H locs) {index : Nat} (hcl : Cond.classLink own index RX0 ∈ Ts) (hover : va_AO RX0 s) {n : Int32} {L : Nat} (hn : ¬ n < 0) (hN : n.toNatClampNeg = L) (hbytes : L * 4 ≤ 536870912) (hcells : cells + 1 ≤ R.cells) (hslots : slots + L ≤ R.slots) (hdg : decode cc pc = .ok (.anewarray index, 3))
    (kk : ∀ (q : Nat) (H1 : Heap), Sy G (N + 1) (va_up ad N q) (va_up ct N (.inl (G.2.2 1, L, .inr (.inr (.inr (.inr (fun _ => none))))))) s H1 locs → W p l e R s m args below meth c H1 locs (cells + 1) (slots + L) Q (F0 m (pc + 3) ls (.ref q :: rest))) : W p l e R s m args below meth c H locs cells slots Q (F0 m pc ls (.int n :: rest)) := by
  obtain ⟨hx, hb, hml, hown, hts⟩ := hC
  obtain ⟨hK, hP, hD, hS, hlo, hX⟩ := hY
  refine va_newq hx hb hown (hts _ hcl) hover hK hP hD hS (fun q h => Nat.le_trans hlo h) hn hN hbytes hcells hslots hdg (fun q cA H1 k1 k2 k3 k4 => ?_)
  obtain ⟨-, -, -, -, -, e1⟩ : ∃ (kA : Class) (comp : ClassId), s.vm.classes[G.2.2 1]? = some kA ∧ kA.kind = .array comp (.object RX0) ∧ s.vm.findClass RX0 = some comp ∧ s.vm.findClass ("[" ++ (FieldType.object RX0).toString) = some (G.2.2 1) := (hK.2 1 _ rfl).2
  obtain ⟨-, -, -, -, -, e2⟩ : ∃ (kA : Class) (comp : ClassId), s.vm.classes[cA]? = some kA ∧ kA.kind = .array comp (.object RX0) ∧ s.vm.findClass RX0 = some comp ∧ s.vm.findClass ("[" ++ (FieldType.object RX0).toString) = some cA := (k1.2 2 _ rfl).2
  cases Option.some.inj (e1.symm.trans e2)
  rw [wl_push] at k2 k3
  exact kk q H1 ⟨hK, k2, k3, k4, hlo, hX⟩
theorem g_new (hC : CallFix p m c cc nL s args Ts own) (hY : Sy G N ad ct s H locs) {ci : Nat} {q : vw_C} (hc : vwCl[ci]? = some q) (hin : ∀ w ∈ u_ws q.1 q.2.1 q.2.2, w ∈ Ts) (ty0 : Nat → FieldType) (hty : ∀ k, k < q.2.2 → parseFieldDescriptor (q.2.1 k).2.2.1 = some (ty0 k)) {index : Nat} (hcl : Cond.classLink own index q.1 ∈ Ts) (hinst : Cond.instantiable q.1 q.2.2 ∈ Ts) (hini : Cond.initialized q.1 ∈ Ts) {fs : List Value} (hfs : ∀ j, j < q.2.2 → defaultValue (ty0 j) = vp_V fs j) (hcells : cells + 1 ≤ R.cells) (hslots : slots + q.2.2 ≤ R.slots) (hdg : decode cc pc = .ok (.new index, 3))
    (kk : ∀ (a : Nat) (H1 : Heap), Sy G (N + 1) (va_up ad N a) (va_up ct N (.inr (ci, fs))) s H1 locs → W p l e R s m args below meth c H1 locs (cells + 1) (slots + q.2.2) Q (F0 m (pc + 3) ls (.ref a :: rest))) : W p l e R s m args below meth c H locs cells slots Q (F0 m pc ls rest) := by
  obtain ⟨hx, hb, hml, hown, hts⟩ := hC
  obtain ⟨hK, hP, hD, hS, hlo, hX⟩ := hY
  refine va_new (C := q.1) (T := q.2.1) (N := q.2.2) hx hb hts hin ty0 hty hown (hts _ hcl) (hts _ hinst) (hts _ hini) hK hP hD hS (fun q h => Nat.le_trans hlo h) (by rw [hc]) hfs hcells hslots hdg (fun a H1 k2 k3 k4 => ?_)
  rw [wl_push] at k2 k3
  exact kk a H1 ⟨hK, k2, k3, k4, hlo, hX⟩
/-- (g_put on an address that has a name) -/
theorem g_putA (hC : CallFix p m c cc nL s args Ts own) (hY : Sy G N ad ct s H locs) (r : Nat) (hr : r < N) {a : Nat} (ha : ad r = a) {ci : Nat} {fs : List Value} (hct : ct r = .inr (ci, fs)) {q : vw_C} (hc : vwCl[ci]? = some q) (hin : ∀ w ∈ u_ws q.1 q.2.1 q.2.2, w ∈ Ts) (ty0 : Nat → FieldType) (hty : ∀ k, k < q.2.2 → parseFieldDescriptor (q.2.1 k).2.2.1 = some (ty0 k)) (hnm : ∀ a, a < q.2.2 → ∀ b, b < q.2.2 → a ≠ b → (q.2.1 a).2.1 ≠ (q.2.1 b).2.1) (k : Nat) (hk : k < q.2.2) {index : Nat} (hlink : (Cond.fieldLink own index (q.2.1 k).1 (q.2.1 k).2.1 (q.2.1 k).2.2.1) ∈ Ts) (hfin : (q.2.1 k).2.2.2 = false ∨ ((q.2.1 k).2.2.2 = true ∧ meth.name = "<init>" ∧ (q.2.1 k).1 = own)) {v : Value} (hn : narrow (ty0 k) v = v) (hfit : fits (ty0 k) v = true) (hl : k < fs.length) (hdg : decode cc pc = .ok (.putfield index, 3))
    (kk : ∀ (H1 : Heap) (locs1 : List Loc), Sy G N ad (va_up ct r (.inr (ci, fs.set k v))) s H1 locs1 → W p l e R s m args below meth c H1 locs1 cells slots Q (F0 m (pc + 3) ls rest)) : W p l e R s m args below meth c H locs cells slots Q (F0 m pc ls (v :: .ref a :: rest)) := by
  subst ha
  exact g_put hC hY r hr hct hc hin ty0 hty hnm k hk hlink hfin hn hfit hl hdg kk
theorem g_getA (hC : CallFix p m c cc nL s args Ts own) (hY : Sy G N ad ct s H locs) (r : Nat) (hr : r < N) {a : Nat} (ha : ad r = a) {ci : Nat} {fs : List Value} (hct : ct r = .inr (ci, fs)) {q : vw_C} (hc : vwCl[ci]? = some q) (hin : ∀ w ∈ u_ws q.1 q.2.1 q.2.2, w ∈ Ts) (k : Nat) (hk : k < q.2.2) {index : Nat} (hlink : (Cond.fieldLink own index (q.2.1 k).1 (q.2.1 k).2.1 (q.2.1 k).2.2.1) ∈ Ts) {v : Value} (hv : fs[k]? = some v) (hdg : decode cc pc = .ok (.getfield index, 3))
    (kk : W p l e R s m args below meth c H locs cells slots Q (F0 m (pc + 3) ls (v :: rest))) : W p l e R s m args below meth c H locs cells slots Q (F0 m pc ls (.ref a :: rest)) := by
  subst ha
  exact g_get hC hY r hr hct hc hin k hk hlink hv hdg kk
theorem g_runI {y : MethodName} {ws ws' : List Cond} {rm : Room} {Qc : Array Value → State → Outcome → State → Prop} {bytes : ByteArray} {maxL index n : Nat} {As : List Value} {b : Nat} (hC : CallFix p m c cc nL s args Ts own) (hM : Met l y ws rm (va_Pc (.ref b :: As) (fun U => Sy G N ad ct U U.heap [])) Qc mc ms (gF G)) (hT : GoodIn Ts ws) (hw : ws = Cond.code y bytes maxL none :: ws') (hrc : rm.cells = mc ∧ rm.slots = ms) (hini : Cond.initialized y.cls ∈ Ts) (hlk : Cond.methodLink own index y ∈ Ts) (him : Cond.instanceMethod y ∈ Ts) (hnm : y.name = "<init>") (hd : y.cls ≠ "java/lang/invoke/MethodHandle" ∧ y.cls ≠ "java/lang/invoke/VarHandle" ∧ (parseMethodDescriptor y.desc).map (fun d => d.parameters.length) = some n) (hR : rm.frames + 1 ≤ R.frames ∧ 8 + (maxL + 11) + rm.locals ≤ R.locals)
    (hY : Sy G N ad ct s H locs) (hn : As.length = n) (hsize : ls.size = nL) (hst : st0 = As.reverse ++ .ref b :: rest) (hW : (rest.map fun v => v.category).sum ≤ 8) (hdg : decode cc pc = .ok (.invokespecial index, 3)) (hf : cells + mc ≤ R.cells ∧ slots + ms ≤ R.slots) :
    va_Run p l e R s m args below meth c H locs cells slots mc ms (F0 m pc ls st0) rest (Qc (Value.ref b :: As).toArray) (gF G) :=
  va_runI (As := As) (rest := rest) hC hM (cwI n hC.2.2.2.2 hT hw hrc.1 hrc.2 (hC.2.2.2.2 _ hini) (hC.2.2.2.2 _ hlk) (hC.2.2.2.2 _ him) hnm hd hR) ⟨Sy.blind, fun U hU hW => ⟨rfl, hY.pre hU hW⟩⟩ rfl hn hsize hst (lv_room hW) hdg hf
/-- a constructor's call: its world's addresses come with it -/
theorem g_callI {a : Array Value} {post : (Nat → Nat) → Prop} {N2 : Nat} {ct2 : (Nat → Nat) → Nat → va_E} (hY : Sy G N ad ct s H locs) (hr : va_Run p l e R s m args below meth c H locs cells slots mc ms (F0 m pc ls st0) rest (va_Qv post (fun u t => Sz G N2 u (ct2 u) t) (gF G) a) (gF G))
    (kk : ∀ (u : Nat → Nat) (H1 : Heap) (locs1 : List Loc), post u → Sy G N2 u (ct2 u) s H1 locs1 → W p l e R s m args below meth c H1 locs1 (cells + mc) (slots + ms) Q (F0 m (pc + 3) ls rest)) : W p l e R s m args below meth c H locs cells slots Q (F0 m pc ls st0) :=
  va_callv hr hY.2.2.2.1 (fun _ _ h => h) (fun _ h => h) (fun u t H1 locs1 ht hvm hp hz _ _ hS => kk u H1 locs1 hp (hY.back hz ht hvm hS))
theorem g_retI (hC : CallFix p m c cc nL s args Ts own) (hr : meth.sig.returnType = none) (hlocks : meth.locks = false) {post : (Nat → Nat) → Prop} {ct2 : (Nat → Nat) → Nat → va_E} (u : Nat → Nat) (hY : Sy G N u (ct2 u) s H locs) (hcm : cells ≤ mc ∧ slots ≤ ms) (hdg : decode cc pc = .ok (.return_, 1)) (hp : post u) : W p l e R s m args below meth c H locs cells slots (MQ below (va_Qv post (fun u t => Sz G N u (ct2 u) t) (gF G)) args s mc ms (gF G)) (F0 m pc ls []) :=
  W.widen hcm.1 hcm.2 (W.vret hC.1 hC.2.1 hr (fun t ht hW => ⟨⟨u, rfl, hp, hY.post ht hW.alike⟩, hY.2.2.2.1.F ht⟩) hY.2.2.2.1.2.2 hdg hlocks)
end GMK

/-- the world behind a lease's making -/
def ctI (G : GG) (R : Nat) (ct : Nat → va_E) (p0 p1 p2 p3 : Int32) (u : Nat → Nat) : Nat → va_E := fun r => if r = R then .inr (0, [.int p0, .int p1, .int p3, .int p2, .int 0, .int 0, .int (-1), .int 0, .int 0, .ref (u (R + 1)), .ref (u (R + 2)), .int 0]) else if r = R + 1 ∨ r = R + 2 then .inl (G.2.2 0, 6, .inl (fun _ => 0)) else ct r
set_option maxHeartbeats 4000000 in
set_option maxRecDepth 100000 in
theorem c_X0_init (l : Launch) (G : GG) (R : Nat) (ad : Nat → Nat) (ct : Nat → va_E) (hct : ct R = .inr (0, [.int 0, .int 0, .int 0, .int 0, .int 0, .int 0, .int 0, .int 0, .int 0, .null, .null, .int 0])) (p0 p1 p2 p3 : Int32) : Met l yX0_init wsX0_init ({ frames := 1, cells := 2, slots := 12, locals := 20 }) (va_Pc [.ref (ad R), .int p0, .int p1, .int p2, .int p3] (fun U => Sy G (R + 1) ad ct U U.heap [])) (va_Qv (fun u => ∀ r, r ≤ R → u r = ad r) (fun u t => Sz G (R + 3) u (ctI G R ct p0 p1 p2 p3 u) t) (gF G)) 2 12 (gF G) := by
  refine Met.ofW (cc := cX0_init) (maxL := 5) (ret := none) (by decide) rfl ?_
  intro p e s m args below meth c s₁ B hml hv
  obtain ⟨rfl, hY⟩ := hv
  have hts := atoms_spec (ws := wsX0_init) B.pre
  have hC : CallFix p m c cX0_init 5 s _ wsX0_init RX0 := ⟨B.exec, B.bytes, hml, findClass_of_methodNamed B.named, hts⟩
  have hx := hC.1
  have hb := hC.2.1
  have hr := B.returns
  have hlocks := B.notSynchronized
  have hin : meth.name = "<init>" := (name_of_methodNamed B.named B.method).1
  have hin0 : ∀ w ∈ wsX00, w ∈ wsX0_init := by decide +kernel
  have hl := lv_entry ([.ref (ad R), .int p0, .int p1, .int p2, .int p3]) (n := 5) (Nat.le_of_ble_eq_true rfl)
  rw [lg_entry_eq]
  generalize (lg_sl ([.ref (ad R), .int p0, .int p1, .int p2, .int p3]) ++ List.replicate (5 - (lg_sl ([.ref (ad R), .int p0, .int p1, .int p2, .int p3])).length) Slot.unset).toArray = ls at hl ⊢
  have hl : lv_has ls 5 [(0, .ref (ad R)), (1, .int p0), (2, .int p1), (3, .int p2), (4, .int p3)] := hl
  refine lv_aload_n hx hb dX0_init_0 rfl (lv_at hl 0 rfl) ?_
  refine W.objInit hx hb hC.2.2.2.1 (hts (.methodLink RX0 3 objectInit) (by decide +kernel)) (hts (.instanceMethod objectInit) (by decide +kernel)) (hts _ (by decide +kernel)) rfl (by rw [hml]; exact hl.1) rfl dX0_init_1 (Nat.le_of_ble_eq_true rfl) (Nat.le_of_ble_eq_true rfl) ?_
  refine W.eq (g2 := F0 m 4 ls []) rfl ?_
  refine lv_aload_n hx hb dX0_init_4 rfl (lv_at hl 0 rfl) ?_
  refine lv_iconst (v := 0) hx hb dX0_init_5 (by decide) ?_
  refine g_putA hC hY R (by omega) (a := ad R) rfl hct (q := (RX0, TX0, 12)) rfl hin0 tyX0 tyX0_ok nmX0 4 (by decide) (by decide +kernel) (Or.inl rfl) rfl rfl (Nat.le_of_ble_eq_true rfl) dX0_init_6 (fun H locs hY => ?_)
  refine lv_aload_n hx hb dX0_init_9 rfl (lv_at hl 0 rfl) ?_
  refine lv_iconst (v := 0) hx hb dX0_init_10 (by decide) ?_
  refine g_putA hC hY R (by omega) (a := ad R) rfl (va_up_self _ _ _) (q := (RX0, TX0, 12)) rfl hin0 tyX0 tyX0_ok nmX0 5 (by decide) (by decide +kernel) (Or.inl rfl) rfl rfl (Nat.le_of_ble_eq_true rfl) dX0_init_11 (fun H locs hY => ?_)
  refine lv_aload_n hx hb dX0_init_14 rfl (lv_at hl 0 rfl) ?_
  refine lv_iconst (v := (-1)) hx hb dX0_init_15 (by decide) ?_
  refine g_putA hC hY R (by omega) (a := ad R) rfl (va_up_self _ _ _) (q := (RX0, TX0, 12)) rfl hin0 tyX0 tyX0_ok nmX0 6 (by decide) (by decide +kernel) (Or.inl rfl) rfl rfl (Nat.le_of_ble_eq_true rfl) dX0_init_16 (fun H locs hY => ?_)
  refine lv_aload_n hx hb dX0_init_19 rfl (lv_at hl 0 rfl) ?_
  refine lv_iconst (v := 0) hx hb dX0_init_20 (by decide) ?_
  refine g_putA hC hY R (by omega) (a := ad R) rfl (va_up_self _ _ _) (q := (RX0, TX0, 12)) rfl hin0 tyX0 tyX0_ok nmX0 7 (by decide) (by decide +kernel) (Or.inl rfl) rfl rfl (Nat.le_of_ble_eq_true rfl) dX0_init_21 (fun H locs hY => ?_)
  refine lv_aload_n hx hb dX0_init_24 rfl (lv_at hl 0 rfl) ?_
  refine lv_iconst (v := 0) hx hb dX0_init_25 (by decide) ?_
  refine g_putA hC hY R (by omega) (a := ad R) rfl (va_up_self _ _ _) (q := (RX0, TX0, 12)) rfl hin0 tyX0 tyX0_ok nmX0 8 (by decide) (by decide +kernel) (Or.inl rfl) rfl rfl (Nat.le_of_ble_eq_true rfl) dX0_init_26 (fun H locs hY => ?_)
  refine lv_aload_n hx hb dX0_init_29 rfl (lv_at hl 0 rfl) ?_
  refine lv_bipush (v := 6) hx hb dX0_init_30 (by decide) ?_
  refine g_newi hC hY (by decide +kernel) (L := 6) (by decide) (by decide) (by decide) (Nat.le_of_ble_eq_true rfl) (Nat.le_of_ble_eq_true rfl) dX0_init_32 (fun q1 H hY => ?_)
  refine g_putA hC hY R (by omega) (a := ad R) (va_up_ne _ _ (by omega)) ((va_up_ne _ _ (by omega)).trans (va_up_self _ _ _)) (q := (RX0, TX0, 12)) rfl hin0 tyX0 tyX0_ok nmX0 9 (by decide) (by decide +kernel) (Or.inr ⟨rfl, hin, rfl⟩) rfl rfl (Nat.le_of_ble_eq_true rfl) dX0_init_34 (fun H locs hY => ?_)
  refine lv_aload_n hx hb dX0_init_37 rfl (lv_at hl 0 rfl) ?_
  refine lv_bipush (v := 6) hx hb dX0_init_38 (by decide) ?_
  refine g_newi hC hY (by decide +kernel) (L := 6) (by decide) (by decide) (by decide) (Nat.le_of_ble_eq_true rfl) (Nat.le_of_ble_eq_true rfl) dX0_init_40 (fun q2 H hY => ?_)
  refine g_putA hC hY R (by omega) (a := ad R) ((va_up_ne _ _ (by omega)).trans (va_up_ne _ _ (by omega))) ((va_up_ne _ _ (by omega)).trans (va_up_self _ _ _)) (q := (RX0, TX0, 12)) rfl hin0 tyX0 tyX0_ok nmX0 10 (by decide) (by decide +kernel) (Or.inr ⟨rfl, hin, rfl⟩) rfl rfl (Nat.le_of_ble_eq_true rfl) dX0_init_42 (fun H locs hY => ?_)
  refine lv_aload_n hx hb dX0_init_45 rfl (lv_at hl 0 rfl) ?_
  refine lv_iconst (v := 0) hx hb dX0_init_46 (by decide) ?_
  refine g_putA hC hY R (by omega) (a := ad R) ((va_up_ne _ _ (by omega)).trans (va_up_ne _ _ (by omega))) (va_up_self _ _ _) (q := (RX0, TX0, 12)) rfl hin0 tyX0 tyX0_ok nmX0 11 (by decide) (by decide +kernel) (Or.inl rfl) rfl rfl (Nat.le_of_ble_eq_true rfl) dX0_init_47 (fun H locs hY => ?_)
  refine lv_aload_n hx hb dX0_init_50 rfl (lv_at hl 0 rfl) ?_
  refine lv_iload_n hx hb dX0_init_51 rfl (lv_at hl 1 rfl) ?_
  refine g_putA hC hY R (by omega) (a := ad R) ((va_up_ne _ _ (by omega)).trans (va_up_ne _ _ (by omega))) (va_up_self _ _ _) (q := (RX0, TX0, 12)) rfl hin0 tyX0 tyX0_ok nmX0 0 (by decide) (by decide +kernel) (Or.inr ⟨rfl, hin, rfl⟩) rfl rfl (Nat.le_of_ble_eq_true rfl) dX0_init_52 (fun H locs hY => ?_)
  refine lv_aload_n hx hb dX0_init_55 rfl (lv_at hl 0 rfl) ?_
  refine lv_iload_n hx hb dX0_init_56 rfl (lv_at hl 2 rfl) ?_
  refine g_putA hC hY R (by omega) (a := ad R) ((va_up_ne _ _ (by omega)).trans (va_up_ne _ _ (by omega))) (va_up_self _ _ _) (q := (RX0, TX0, 12)) rfl hin0 tyX0 tyX0_ok nmX0 1 (by decide) (by decide +kernel) (Or.inr ⟨rfl, hin, rfl⟩) rfl rfl (Nat.le_of_ble_eq_true rfl) dX0_init_57 (fun H locs hY => ?_)
  refine lv_aload_n hx hb dX0_init_60 rfl (lv_at hl 0 rfl) ?_
  refine lv_iload_n hx hb dX0_init_61 rfl (lv_at hl 3 rfl) ?_
  refine g_putA hC hY R (by omega) (a := ad R) ((va_up_ne _ _ (by omega)).trans (va_up_ne _ _ (by omega))) (va_up_self _ _ _) (q := (RX0, TX0, 12)) rfl hin0 tyX0 tyX0_ok nmX0 3 (by decide) (by decide +kernel) (Or.inl rfl) rfl rfl (Nat.le_of_ble_eq_true rfl) dX0_init_62 (fun H locs hY => ?_)
  refine lv_aload_n hx hb dX0_init_65 rfl (lv_at hl 0 rfl) ?_
  refine lv_iload hx hb dX0_init_66 (lv_at hl 4 rfl) ?_
  refine g_putA hC hY R (by omega) (a := ad R) ((va_up_ne _ _ (by omega)).trans (va_up_ne _ _ (by omega))) (va_up_self _ _ _) (q := (RX0, TX0, 12)) rfl hin0 tyX0 tyX0_ok nmX0 2 (by decide) (by decide +kernel) (Or.inr ⟨rfl, hin, rfl⟩) rfl rfl (Nat.le_of_ble_eq_true rfl) dX0_init_68 (fun H locs hY => ?_)
  have hu0 : ∀ r, r ≤ R → va_up (va_up ad (R + 1) q1) (R + 1 + 1) q2 r = ad r := fun r h => by rw [va_up_ne _ _ (by omega), va_up_ne _ _ (by omega)]
  have hu1 : va_up (va_up ad (R + 1) q1) (R + 1 + 1) q2 (R + 1) = q1 := by rw [va_up_ne _ _ (by omega), va_up_self]
  have hu2 : va_up (va_up ad (R + 1) q1) (R + 1 + 1) q2 (R + 2) = q2 := va_up_self _ _ _
  exact g_retI (ct2 := ctI G R ct p0 p1 p2 p3) hC hr hlocks _ (hY.ctE (fun r hr => by
    unfold ctI
    rw [hu1, hu2]
    by_cases h1 : r = R
    · subst h1; rw [if_pos rfl, va_up_self]; rfl
    · rw [if_neg h1]
      simp only [va_up, if_neg h1]
      by_cases h2 : r = R + 1 + 1
      · rw [if_pos h2, if_pos (by omega)]
      · rw [if_neg h2]
        by_cases h3 : r = R + 1
        · rw [if_pos h3, if_pos (by omega)]
        · rw [if_neg h3, if_neg (by omega)])) ⟨Nat.le_of_ble_eq_true rfl, Nat.le_of_ble_eq_true rfl⟩ dX0_init_71 hu0
end
section
/-! the constructors of the roll and of the reference -/
def idP (i : Nat) : Nat → Int32 := fun q => if q < i then 100 else 0
theorem idP_s {i : Nat} : upd (idP i) i 100 = idP (i + 1) := by
  unfold upd idP
  funext q
  by_cases h : q = i
  · rw [if_pos h, if_pos (by omega)]
  · rw [if_neg h]
    by_cases h2 : q < i
    · rw [if_pos h2, if_pos (by omega)]
    · rw [if_neg h2, if_neg (by omega)]
def σI : St := fun a => if a = 1 then idP 240 else fun _ => 0
/-- the roll's cells before its loop is through: i indices are laid -/
def ctV (G : GG) (u : Nat → Nat) (f : Nat → Int32) : Nat → va_E := fun r => match r with
  | 0 => .inr (1, [.ref (u 1), .ref (u 2), .ref (u 3), .ref (u 4), .int 0])
  | 1 => .inl (G.2.2 0, 6, .inl (fun _ => 0))
  | 2 => .inl (G.2.2 0, 240, .inl f)
  | 3 => .inl (G.2.2 0, 20, .inl (fun _ => 0))
  | _ => .inl (G.2.2 1, 24, .inr (.inr (.inr (.inr (fun _ => none)))))
set_option maxHeartbeats 4000000 in
set_option maxRecDepth 100000 in
theorem c_X1_init (l : Launch) (G : GG) (ad : Nat → Nat) (ct : Nat → va_E) (hct : ct 0 = .inr (1, [.null, .null, .null, .null, .int 0])) : Met l yX1_init wsX1_init ({ frames := 1, cells := 4, slots := 290, locals := 20 }) (va_Pc [.ref (ad 0)] (fun U => Sy G 1 ad ct U U.heap [] ∧ va_AO RX0 U)) (va_Qv (fun u => u 0 = ad 0) (fun u t => Sz G 5 u (ctV G u (idP 240)) t) (gF G)) 4 290 (gF G) := by
  refine Met.ofW (cc := cX1_init) (maxL := 2) (ret := none) (by decide) rfl ?_
  intro p e s m args below meth c s₁ B hml hv
  obtain ⟨rfl, hY, hover⟩ := hv
  have hts := atoms_spec (ws := wsX1_init) B.pre
  have hC : CallFix p m c cX1_init 2 s _ wsX1_init RX1 := ⟨B.exec, B.bytes, hml, findClass_of_methodNamed B.named, hts⟩
  have hx := hC.1
  have hb := hC.2.1
  have hr := B.returns
  have hlocks := B.notSynchronized
  have hin : meth.name = "<init>" := (name_of_methodNamed B.named B.method).1
  have hin1 : ∀ w ∈ wsX10, w ∈ wsX1_init := by decide +kernel
  have hl := lv_entry ([.ref (ad 0)]) (n := 2) (Nat.le_of_ble_eq_true rfl)
  rw [lg_entry_eq]
  generalize (lg_sl ([.ref (ad 0)]) ++ List.replicate (2 - (lg_sl ([.ref (ad 0)])).length) Slot.unset).toArray = ls at hl ⊢
  have hl : lv_has ls 2 [(0, .ref (ad 0))] := hl
  refine lv_aload_n hx hb dX1_init_0 rfl (lv_at hl 0 rfl) ?_
  refine W.objInit hx hb hC.2.2.2.1 (hts (.methodLink RX1 1 objectInit) (by decide +kernel)) (hts (.instanceMethod objectInit) (by decide +kernel)) (hts _ (by decide +kernel)) rfl (by rw [hml]; exact hl.1) rfl dX1_init_1 (Nat.le_of_ble_eq_true rfl) (Nat.le_of_ble_eq_true rfl) ?_
  refine W.eq (g2 := F0 m 4 ls []) rfl ?_
  refine lv_aload_n hx hb dX1_init_4 rfl (lv_at hl 0 rfl) ?_
  refine lv_bipush (v := 6) hx hb dX1_init_5 (by decide) ?_
  refine g_newi hC hY (by decide +kernel) (L := 6) (by decide) (by decide) (by decide) (Nat.le_of_ble_eq_true rfl) (Nat.le_of_ble_eq_true rfl) dX1_init_7 (fun q1 H hY => ?_)
  refine g_putA hC hY 0 (by omega) (a := ad 0) (va_up_ne _ _ (by omega)) ((va_up_ne _ _ (by omega)).trans hct) (q := (RX1, TX1, 5)) rfl hin1 tyX1 tyX1_ok nmX1 0 (by decide) (by decide +kernel) (Or.inr ⟨rfl, hin, rfl⟩) rfl rfl (Nat.le_of_ble_eq_true rfl) dX1_init_9 (fun H locs hY => ?_)
  refine lv_aload_n hx hb dX1_init_12 rfl (lv_at hl 0 rfl) ?_
  refine lv_sipush (v := 240) hx hb dX1_init_13 (by decide) ?_
  refine g_newi hC hY (by decide +kernel) (L := 240) (by decide) (by decide) (by decide) (Nat.le_of_ble_eq_true rfl) (Nat.le_of_ble_eq_true rfl) dX1_init_16 (fun q2 H hY => ?_)
  refine g_putA hC hY 0 (by omega) (a := ad 0) ((va_up_ne _ _ (by omega)).trans (va_up_ne _ _ (by omega))) ((va_up_ne _ _ (by omega)).trans (va_up_self _ _ _)) (q := (RX1, TX1, 5)) rfl hin1 tyX1 tyX1_ok nmX1 1 (by decide) (by decide +kernel) (Or.inr ⟨rfl, hin, rfl⟩) rfl rfl (Nat.le_of_ble_eq_true rfl) dX1_init_18 (fun H locs hY => ?_)
  refine lv_aload_n hx hb dX1_init_21 rfl (lv_at hl 0 rfl) ?_
  refine lv_bipush (v := 20) hx hb dX1_init_22 (by decide) ?_
  refine g_newi hC hY (by decide +kernel) (L := 20) (by decide) (by decide) (by decide) (Nat.le_of_ble_eq_true rfl) (Nat.le_of_ble_eq_true rfl) dX1_init_24 (fun q3 H hY => ?_)
  refine g_putA hC hY 0 (by omega) (a := ad 0) ((va_up_ne _ _ (by omega)).trans ((va_up_ne _ _ (by omega)).trans (va_up_ne _ _ (by omega)))) ((va_up_ne _ _ (by omega)).trans (va_up_self _ _ _)) (q := (RX1, TX1, 5)) rfl hin1 tyX1 tyX1_ok nmX1 2 (by decide) (by decide +kernel) (Or.inr ⟨rfl, hin, rfl⟩) rfl rfl (Nat.le_of_ble_eq_true rfl) dX1_init_26 (fun H locs hY => ?_)
  refine lv_aload_n hx hb dX1_init_29 rfl (lv_at hl 0 rfl) ?_
  refine lv_bipush (v := 24) hx hb dX1_init_30 (by decide) ?_
  refine g_newq hC hY (by decide +kernel) hover (L := 24) (by decide) (by decide) (by decide) (Nat.le_of_ble_eq_true rfl) (Nat.le_of_ble_eq_true rfl) dX1_init_32 (fun q4 H hY => ?_)
  refine g_putA hC hY 0 (by omega) (a := ad 0) ((va_up_ne _ _ (by omega)).trans ((va_up_ne _ _ (by omega)).trans ((va_up_ne _ _ (by omega)).trans (va_up_ne _ _ (by omega))))) ((va_up_ne _ _ (by omega)).trans (va_up_self _ _ _)) (q := (RX1, TX1, 5)) rfl hin1 tyX1 tyX1_ok nmX1 3 (by decide) (by decide +kernel) (Or.inr ⟨rfl, hin, rfl⟩) rfl rfl (Nat.le_of_ble_eq_true rfl) dX1_init_35 (fun H locs hY => ?_)
  refine lv_aload_n hx hb dX1_init_38 rfl (lv_at hl 0 rfl) ?_
  refine lv_iconst (v := 0) hx hb dX1_init_39 (by decide) ?_
  refine g_putA hC hY 0 (by omega) (a := ad 0) ((va_up_ne _ _ (by omega)).trans ((va_up_ne _ _ (by omega)).trans ((va_up_ne _ _ (by omega)).trans (va_up_ne _ _ (by omega))))) (va_up_self _ _ _) (q := (RX1, TX1, 5)) rfl hin1 tyX1 tyX1_ok nmX1 4 (by decide) (by decide +kernel) (Or.inl rfl) rfl rfl (Nat.le_of_ble_eq_true rfl) dX1_init_40 (fun H locs hY => ?_)
  obtain ⟨u, hu⟩ : ∃ u, u = (va_up (va_up (va_up (va_up ad 1 q1) 2 q2) 3 q3) 4 q4) := ⟨_, rfl⟩
  have hu0 : u 0 = ad 0 := by rw [hu]; rfl
  have hu1 : u 1 = q1 := by rw [hu]; rfl
  have hu2 : u 2 = q2 := by rw [hu]; rfl
  have hu3 : u 3 = q3 := by rw [hu]; rfl
  have hu4 : u 4 = q4 := by rw [hu]; rfl
  have hY : Sy G 5 u (ctV G u (idP 0)) s H locs := by
    rw [← hu] at hY
    refine hY.ctE (fun r hr => ?_)
    unfold ctV
    rw [hu1, hu2, hu3, hu4]
    rcases (show r = 0 ∨ r = 1 ∨ r = 2 ∨ r = 3 ∨ r = 4 by omega) with rfl | rfl | rfl | rfl | rfl <;> rfl
  have hq0 : u 0 = ad 0 := hu0
  refine lv_iconst (v := 0) hx hb dX1_init_43 (by decide) ?_
  refine lv_istore_n (lv' := [(1, .int 0), (0, .ref (ad 0))]) hx hb dX1_init_44 rfl hl (by decide) rfl (fun ls hl => ?_)
  refine w_loop (X := Int32) (fun i x H locs ls => (x.toInt = i ∧ (i : Int) ≤ 240) ∧ Sy G 5 u (ctV G u (idP i)) s H locs ∧ lv_has ls 2 [(1, .int x), (0, .ref (ad 0))]) 240 ?_ ?_ 0 ⟨⟨rfl, by decide⟩, hY, lv_sub hl [0, 1] rfl⟩
  · intro i x H locs ls hI ih
    obtain ⟨⟨h0, h9⟩, hY, hl⟩ := hI
    refine lv_iload_n hx hb dX1_init_45 rfl (lv_at hl 0 rfl) ?_
    refine lv_aload_n hx hb dX1_init_46 rfl (lv_at hl 1 rfl) ?_
    refine g_getA hC hY 0 (by omega) (a := ad 0) hq0 (ci := 1) (fs := [.ref (u 1), .ref (u 2), .ref (u 3), .ref (u 4), .int 0]) rfl (q := (RX1, TX1, 5)) rfl hin1 1 (by decide) (by decide +kernel) rfl dX1_init_47 ?_
    refine g_alen hC hY 2 (by omega) 0 rfl rfl (v := 240) rfl dX1_init_50 ?_
    refine b_icmp_ge (tgt := 68) hx hb dX1_init_51 (by decide) (fun (h1 : 240 ≤ x.toInt) => ?_) (fun (h1 : x.toInt < 240) => ?_)
    · have hi : i = 240 := by omega
      subst hi
      exact g_retI (ct2 := fun u => ctV G u (idP 240)) hC hr hlocks u hY ⟨Nat.le_of_ble_eq_true rfl, Nat.le_of_ble_eq_true rfl⟩ dX1_init_68 hu0
    · refine lv_aload_n hx hb dX1_init_54 rfl (lv_at hl 1 rfl) ?_
      refine g_getA hC hY 0 (by omega) (a := ad 0) hq0 (ci := 1) (fs := [.ref (u 1), .ref (u 2), .ref (u 3), .ref (u 4), .int 0]) rfl (q := (RX1, TX1, 5)) rfl hin1 1 (by decide) (by decide +kernel) rfl dX1_init_55 ?_
      refine lv_iload_n hx hb dX1_init_58 rfl (lv_at hl 0 rfl) ?_
      refine lv_bipush (v := 100) hx hb dX1_init_59 (by decide) ?_
      refine g_iast hC hY 2 (by omega) (n := 240) (f := idP i) rfl ⟨by omega, by omega⟩ dX1_init_61 (fun H locs hY => ?_)
      refine lv_iinc (v := x + 1) (lv' := [(1, .int (x + 1)), (0, .ref (ad 0))]) hx hb dX1_init_62 hl (k := 0) rfl rfl (by decide) rfl (fun ls hl => ?_)
      refine lv_goto (tgt := 45) hx hb dX1_init_65 (by decide) ?_
      refine ih (x + 1) _ _ _ ⟨⟨by rw [i_add1 (by omega)]; omega, by omega⟩, hY.ctE (fun r hr => ?_), lv_sub hl [0, 1] rfl⟩
      have hix : x.toNatClampNeg = i := i_ix h0
      rw [hix, idP_s]
      rcases (show r = 0 ∨ r = 1 ∨ r = 2 ∨ r = 3 ∨ r = 4 by omega) with rfl | rfl | rfl | rfl | rfl <;> rfl
  · intro i x H locs ls hI
    obtain ⟨⟨h0, h9⟩, -, -⟩ := hI
    omega
end
section
/-! letting a unit -/
def zeroL (σ : St) (k : Nat) : Prop := σ 7 k = 0 ∧ σ 8 k = 0 ∧ σ 10 k = 0 ∧ σ 11 k = 0 ∧ σ 12 k = 0 ∧ ∀ i, i < 6 → σ 13 (6 * k + i) = 0 ∧ σ 14 (6 * k + i) = 0
def cdLet (σ : St) (n : Nat) (p0 p1 p2 p3 : Int32) : Int32 := if 0 ≤ p0.toInt ∧ p0.toInt < 6 then (if (0 ≤ p1.toInt ∧ p1.toInt ≤ 7199) ∧ p1.toInt < p2.toInt ∧ p2.toInt ≤ 7200 ∧ 1 ≤ p3.toInt ∧ p3.toInt ≤ 99999 then (if 24 ≤ n ∨ 0 < (dlP σ n p0 p1 p2 24).toInt then 3 else 0) else 2) else 1
theorem ctL_u {G : GG} {ad u : Nat → Nat} {σ : St} {k q : Nat} (h1 : u (3 * k + 10) = ad (3 * k + 10)) (h2 : u (3 * k + 11) = ad (3 * k + 11)) : ctL G u σ k q = ctL G ad σ k q := by
  unfold ctL lsF
  rw [h1, h2]
theorem ctL_lt {G : GG} {u : Nat → Nat} {σ : St} {n k q : Nat} {p0 p1 p2 p3 : Int32} (hk : k ≠ n) (hq : q < 3) : ctL G u (ltS σ n p0 p1 p2 p3) k q = ctL G u σ k q := by
  unfold ltS
  rw [ctL_ne (Or.inr (Or.inl ⟨by decide, by omega⟩)) hq, ctL_ne (Or.inr (Or.inl ⟨by decide, by omega⟩)) hq, ctL_ne (Or.inr (Or.inl ⟨by decide, by omega⟩)) hq, ctL_ne (Or.inr (Or.inl ⟨by decide, by omega⟩)) hq, ctL_ne (Or.inr (Or.inl ⟨by decide, by omega⟩)) hq]
theorem us_eq {σ : St} {a i : Nat} {x : Int32} : us σ a i x a i = x := by unfold us upd; rw [if_pos rfl, if_pos rfl]
theorem lsF_lt {u : Nat → Nat} {σ : St} {n : Nat} {p0 p1 p2 p3 : Int32} (hz : zeroL σ n) : lsF u (ltS σ n p0 p1 p2 p3) n = [.int p0, .int p1, .int p3, .int p2, .int 0, .int 0, .int (-1), .int 0, .int 0, .ref (u (3 * n + 10)), .ref (u (3 * n + 11)), .int 0] := by
  obtain ⟨z7, z8, z10, z11, z12, -⟩ := hz
  have h3 : ltS σ n p0 p1 p2 p3 3 n = p0 := (us_eq : us σ 3 n p0 3 n = p0)
  have h4 : ltS σ n p0 p1 p2 p3 4 n = p1 := (us_eq : us (us σ 3 n p0) 4 n p1 4 n = p1)
  have h5 : ltS σ n p0 p1 p2 p3 5 n = p2 := (us_eq : us (us (us σ 3 n p0) 4 n p1) 5 n p2 5 n = p2)
  have h6 : ltS σ n p0 p1 p2 p3 6 n = p3 := (us_eq : us (us (us (us σ 3 n p0) 4 n p1) 5 n p2) 6 n p3 6 n = p3)
  have h9 : ltS σ n p0 p1 p2 p3 9 n = -1 := us_eq
  have h7 : ltS σ n p0 p1 p2 p3 7 n = 0 := z7
  have h8 : ltS σ n p0 p1 p2 p3 8 n = 0 := z8
  have h10 : ltS σ n p0 p1 p2 p3 10 n = 0 := z10
  have h11 : ltS σ n p0 p1 p2 p3 11 n = 0 := z11
  have h12 : ltS σ n p0 p1 p2 p3 12 n = 0 := z12
  unfold lsF
  rw [h3, h4, h5, h6, h7, h8, h9, h10, h11, h12]
theorem rowF_z {σ : St} {a n : Nat} (h : ∀ i, i < 6 → σ a (6 * n + i) = 0) : rowF σ a n = fun _ => 0 := by
  unfold rowF
  funext i
  by_cases hi : i < 6
  · rw [if_pos hi, h i hi]
  · rw [if_neg hi]
theorem roF_lt {u ad : Nat → Nat} {n : Nat} (hu : ∀ r, r < 3 * n + 9 → u r = ad r) : va_up (roF ad n) n (some (u (3 * n + 9))) = roF u (n + 1) := by
  unfold va_up roF
  funext k
  by_cases h1 : k = n
  · subst h1; rw [if_pos rfl, if_pos (by omega)]
  · rw [if_neg h1]
    by_cases h2 : k < n
    · rw [if_pos h2, if_pos (by omega), hu _ (by omega)]
    · rw [if_neg h2, if_neg (by omega)]
abbrev rlC (G : GG) (f : Nat → Option Nat) : va_E := .inl (G.2.2 1, 24, .inr (.inr (.inr (.inr f))))
theorem let_ct {G : GG} {u ad : Nat → Nat} {σ : St} {n : Nat} {τ : St} {p0 p1 p2 p3 : Int32} {e0 : va_E} (hn : n < 24) (hz : zeroL σ n) (hu : ∀ r, r < 3 * n + 9 → u r = ad r) (r : Nat) (hr : r < 3 * n + 9 + 3) :
    va_up (va_up (ctI G (3 * n + 9) (va_up (ctS G ad σ n τ) (3 * n + 9) e0) p0 p1 p2 p3 u) 4 (rlC G (va_up (roF ad n) (nI n).toNatClampNeg (some (u (3 * n + 9)))))) 0 (.inr (1, [.ref (ad 1), .ref (ad 2), .ref (ad 3), .ref (ad 4), .int (nI n + 1)])) r = ctS G u (ltS σ n p0 p1 p2 p3) (n + 1) τ r := by
  have hlow : ∀ q, q < 9 → q ≠ 0 → q ≠ 4 → va_up (va_up (ctI G (3 * n + 9) (va_up (ctS G ad σ n τ) (3 * n + 9) e0) p0 p1 p2 p3 u) 4 (rlC G (va_up (roF ad n) (nI n).toNatClampNeg (some (u (3 * n + 9)))))) 0 (.inr (1, [.ref (ad 1), .ref (ad 2), .ref (ad 3), .ref (ad 4), .int (nI n + 1)])) q = ctS G ad σ n τ q := by
    intro q h1 h2 h3
    rw [va_up_ne _ _ h2, va_up_ne _ _ h3]
    unfold ctI
    rw [if_neg (by omega), if_neg (by omega), va_up_ne _ _ (by omega)]
  match r with
  | 0 => rw [va_up_self, ← hu 1 (by omega), ← hu 2 (by omega), ← hu 3 (by omega), ← hu 4 (by omega), nI_1]; rfl
  | 4 => rw [va_up_ne _ _ (by omega), va_up_self, nI_clamp (show n < 2 ^ 31 by omega), roF_lt hu]; rfl
  | 5 => rw [hlow 5 (by omega) (by omega) (by omega)]; rfl
  | 1 => rw [hlow 1 (by omega) (by omega) (by omega)]; rfl
  | 2 => rw [hlow 2 (by omega) (by omega) (by omega)]; rfl
  | 3 => rw [hlow 3 (by omega) (by omega) (by omega)]; rfl
  | 6 => rw [hlow 6 (by omega) (by omega) (by omega)]; rfl
  | 7 => rw [hlow 7 (by omega) (by omega) (by omega)]; rfl
  | 8 => rw [hlow 8 (by omega) (by omega) (by omega)]; rfl
  | q + 9 =>
    rw [va_up_ne _ _ (by omega), va_up_ne _ _ (by omega)]
    show _ = ctL G u (ltS σ n p0 p1 p2 p3) (q / 3) (q % 3)
    unfold ctI
    by_cases h1 : q + 9 = 3 * n + 9
    · rw [if_pos h1, show q / 3 = n by omega, show q % 3 = 0 by omega]
      show _ = (.inr (0, lsF u (ltS σ n p0 p1 p2 p3) n) : va_E)
      rw [lsF_lt hz]
    · rw [if_neg h1]
      by_cases h2 : q + 9 = 3 * n + 9 + 1 ∨ q + 9 = 3 * n + 9 + 2
      · rw [if_pos h2]
        rcases h2 with h2 | h2
        · rw [show q / 3 = n by omega, show q % 3 = 1 by omega]
          show _ = (.inl (G.2.2 0, 6, .inl (rowF (ltS σ n p0 p1 p2 p3) 13 n)) : va_E)
          rw [show rowF (ltS σ n p0 p1 p2 p3) 13 n = fun _ => 0 from rowF_z (fun i hi => (hz.2.2.2.2.2 i hi).1)]
        · rw [show q / 3 = n by omega, show q % 3 = 2 by omega]
          show _ = (.inl (G.2.2 0, 6, .inl (rowF (ltS σ n p0 p1 p2 p3) 14 n)) : va_E)
          rw [show rowF (ltS σ n p0 p1 p2 p3) 14 n = fun _ => 0 from rowF_z (fun i hi => (hz.2.2.2.2.2 i hi).2)]
      · rw [if_neg h2, va_up_ne _ _ (by omega), ctL_lt (by omega) (Nat.mod_lt _ (by decide)), ctL_u (hu _ (by omega)) (hu _ (by omega))]
        rfl
section GU
variable {p : Program} {l : Launch} {e : Env} {R : Room} {s : State} {m : MethodId} {args : Array Value} {below : List Frame} {meth : Method} {c : Code} {H : Heap} {locs : List Loc} {cells slots : Nat} {Q : State → Prop}
variable {cc : ByteArray} {nL : Nat} {Ts : List Cond} {own : String} {pc : Nat} {ls : Array Slot} {rest st0 : List Value} {G : GG} {N : Nat} {mc ms : Nat}
theorem g_iretU (hC : CallFix p m c cc nL s args Ts own) (hr : meth.sig.returnType = some .int) (hlocks : meth.locks = false) {post : Int32 → (Nat → Nat) → Prop} {v : Int32} {ct2 : (Nat → Nat) → Nat → va_E} (u : Nat → Nat) (hY : Sy G N u (ct2 u) s H locs) (hcm : cells ≤ mc ∧ slots ≤ ms) (hdg : decode cc pc = .ok (.ireturn, 1)) (hp : post v u) : W p l e R s m args below meth c H locs cells slots (MQ below (va_Qi post (fun u t => Sz G N u (ct2 u) t) (gF G)) args s mc ms (gF G)) (F0 m pc ls [.int v]) :=
  W.widen hcm.1 hcm.2 (W.iret hC.1 hC.2.1 hr (fun t ht hW => ⟨⟨v, u, rfl, hp, hY.post ht hW.alike⟩, hY.2.2.2.1.F ht⟩) hY.2.2.2.1.2.2 hdg hlocks)
end GU
set_option maxHeartbeats 4000000 in
set_option maxRecDepth 100000 in
theorem c_X1_let (l : Launch) (G : GG) (ad : Nat → Nat) (σ : St) (n : Nat) (τ : St) (hst : l.stackTraces = false) (hn : n ≤ 24) (hz : n < 24 → zeroL σ n) (p0 p1 p2 p3 : Int32)  : vx_Met l yX1_let wsX1_let ({ frames := 8, cells := 8, slots := 60, locals := 160 }) (PcS G ad σ n τ [.ref (ad 0), .int p0, .int p1, .int p2, .int p3]) (va_Qi (fun r (u : Nat → Nat) => cdLet σ n p0 p1 p2 p3 = 0 ∧ r = nI n ∧ ∀ r, r < 3 * n + 9 → u r = ad r) (fun u t => Sz G (3 * n + 9 + 3) u (ctS G u (ltS σ n p0 p1 p2 p3) (n + 1) τ) t) (gF G)) (XG G (3 * n + 9) ad (ctS G ad σ n τ) (fun E => exC E (cdLet σ n p0 p1 p2 p3))) 8 60 (gF G) := by
  refine vx_ofW (cc := cX1_let) (maxL := 6) (ret := (some .int)) (by decide) rfl ?_
  intro p e s m args below meth c s₁ B hml hxt hv
  obtain ⟨rfl, hY⟩ := hv
  have hts := atoms_spec (ws := wsX1_let) B.pre
  have hC : CallFix p m c cX1_let 6 s _ wsX1_let RX1 := ⟨B.exec, B.bytes, hml, findClass_of_methodNamed B.named, hts⟩
  have hx := hC.1
  have hb := hC.2.1
  have hr := B.returns
  have hlocks := B.notSynchronized
  have hin0 : ∀ w ∈ wsX00, w ∈ wsX1_let := by decide +kernel
  have hin1 : ∀ w ∈ wsX10, w ∈ wsX1_let := by decide +kernel
  have hl := lv_entry ([.ref (ad 0), .int p0, .int p1, .int p2, .int p3]) (n := 6) (Nat.le_of_ble_eq_true rfl)
  rw [lg_entry_eq]
  generalize (lg_sl ([.ref (ad 0), .int p0, .int p1, .int p2, .int p3]) ++ List.replicate (6 - (lg_sl ([.ref (ad 0), .int p0, .int p1, .int p2, .int p3])).length) Slot.unset).toArray = ls at hl ⊢
  have hl : lv_has ls 6 [(0, .ref (ad 0)), (1, .int p0), (2, .int p1), (3, .int p2), (4, .int p3)] := hl
  have hnj : (nI n).toInt = (n : Int) := i_nI (by omega)
  refine lv_iload_n hx hb dX1_let_0 rfl (lv_at hl 1 rfl) ?_
  refine lv_aload_n hx hb dX1_let_1 rfl (lv_at hl 0 rfl) ?_
  refine gtV_areas hC hin1 hY (by decide +kernel) dX1_let_2 ?_
  refine g_alen hC hY 1 (by omega) 0 rfl rfl (v := 6) rfl dX1_let_5 ?_
  refine gx_callv hY (gx_runS (n := 2) hC (c_X1_checkNumber l G ad σ n τ hst p0 6 6 rfl) gX1_let_X1_checkNumber rfl ⟨rfl, rfl⟩ (by decide +kernel) ⟨Nat.le_of_ble_eq_true rfl, Nat.le_of_ble_eq_true rfl⟩ hY rfl hl.1 rfl (Nat.le_of_ble_eq_true rfl) dX1_let_6 ⟨Nat.le_of_ble_eq_true rfl, Nat.le_of_ble_eq_true rfl⟩) hxt hlocks ⟨Nat.le_of_ble_eq_true rfl, Nat.le_of_ble_eq_true rfl⟩ (fun E h => Or.inl ⟨h.1, by have q := h.2; unfold cdLet; (repeat' split) <;> first | rfl | omega⟩) (fun H locs h2 hY => ?_)
  refine lv_iload_n hx hb dX1_let_9 rfl (lv_at hl 2 rfl) ?_
  refine lv_iconst (v := 0) hx hb dX1_let_10 (by decide) ?_
  refine lv_sipush (v := 7199) hx hb dX1_let_11 (by decide) ?_
  refine gx_callv hY (gx_runS (n := 3) hC (c_X1_checkRange l G ad σ n τ hst p1 0 7199 0 7199 rfl rfl) gX1_let_X1_checkRange rfl ⟨rfl, rfl⟩ (by decide +kernel) ⟨Nat.le_of_ble_eq_true rfl, Nat.le_of_ble_eq_true rfl⟩ hY rfl hl.1 rfl (Nat.le_of_ble_eq_true rfl) dX1_let_14 ⟨Nat.le_of_ble_eq_true rfl, Nat.le_of_ble_eq_true rfl⟩) hxt hlocks ⟨Nat.le_of_ble_eq_true rfl, Nat.le_of_ble_eq_true rfl⟩ (fun E h => Or.inr <| Or.inl ⟨h.1, by have q := h.2; unfold cdLet; (repeat' split) <;> first | rfl | omega⟩) (fun H locs h4 hY => ?_)
  refine lv_iload_n hx hb dX1_let_17 rfl (lv_at hl 3 rfl) ?_
  refine lv_iload_n hx hb dX1_let_18 rfl (lv_at hl 2 rfl) ?_
  refine lv_iconst (v := 1) hx hb dX1_let_19 (by decide) ?_
  refine lv_iadd hx hb dX1_let_20 ?_
  refine lv_sipush (v := 7200) hx hb dX1_let_21 (by decide) ?_
  refine gx_callv hY (gx_runS (n := 3) hC (c_X1_checkRange l G ad σ n τ hst p2 (p1 + 1) 7200 (p1.toInt + 1) 7200 (i_add1 (by omega)) rfl) gX1_let_X1_checkRange rfl ⟨rfl, rfl⟩ (by decide +kernel) ⟨Nat.le_of_ble_eq_true rfl, Nat.le_of_ble_eq_true rfl⟩ hY rfl hl.1 rfl (Nat.le_of_ble_eq_true rfl) dX1_let_24 ⟨Nat.le_of_ble_eq_true rfl, Nat.le_of_ble_eq_true rfl⟩) hxt hlocks ⟨Nat.le_of_ble_eq_true rfl, Nat.le_of_ble_eq_true rfl⟩ (fun E h => Or.inr <| Or.inl ⟨h.1, by have q := h.2; unfold cdLet; (repeat' split) <;> first | rfl | omega⟩) (fun H locs h6 hY => ?_)
  refine lv_iload hx hb dX1_let_27 (lv_at hl 4 rfl) ?_
  refine lv_iconst (v := 1) hx hb dX1_let_29 (by decide) ?_
  refine lv_ldc (v := 99999) hx hb hC.2.2.2.1 (hC.2.2.2.2 _ (by decide +kernel)) dX1_let_30 ?_
  refine gx_callv hY (gx_runS (n := 3) hC (c_X1_checkRange l G ad σ n τ hst p3 1 99999 1 99999 rfl rfl) gX1_let_X1_checkRange rfl ⟨rfl, rfl⟩ (by decide +kernel) ⟨Nat.le_of_ble_eq_true rfl, Nat.le_of_ble_eq_true rfl⟩ hY rfl hl.1 rfl (Nat.le_of_ble_eq_true rfl) dX1_let_32 ⟨Nat.le_of_ble_eq_true rfl, Nat.le_of_ble_eq_true rfl⟩) hxt hlocks ⟨Nat.le_of_ble_eq_true rfl, Nat.le_of_ble_eq_true rfl⟩ (fun E h => Or.inr <| Or.inl ⟨h.1, by have q := h.2; unfold cdLet; (repeat' split) <;> first | rfl | omega⟩) (fun H locs h8 hY => ?_)
  refine lv_aload_n hx hb dX1_let_35 rfl (lv_at hl 0 rfl) ?_
  refine gtV_count hC hin1 hY (by decide +kernel) dX1_let_36 ?_
  refine lv_aload_n hx hb dX1_let_39 rfl (lv_at hl 0 rfl) ?_
  refine gtV_roll hC hin1 hY (by decide +kernel) dX1_let_40 ?_
  refine g_alen hC hY 4 (by omega) 1 rfl rfl (v := 24) rfl dX1_let_43 ?_
  refine b_icmp_lt (tgt := 57) hx hb dX1_let_44 (by decide) (fun (h9 : (nI n).toInt < 24) => ?_) (fun (h9 : 24 ≤ (nI n).toInt) => ?_)
  · refine lv_aload_n hx hb dX1_let_57 rfl (lv_at hl 0 rfl) ?_
    refine lv_iload_n hx hb dX1_let_58 rfl (lv_at hl 1 rfl) ?_
    refine lv_iload_n hx hb dX1_let_59 rfl (lv_at hl 2 rfl) ?_
    refine lv_iload_n hx hb dX1_let_60 rfl (lv_at hl 3 rfl) ?_
    refine g_calli hY (g_runV (n := 3) (q := (RX1, TX1, 5)) (r := 0) hC (c_X1_daysLet l G ad σ n τ p0 p1 p2) gX1_let_X1_daysLet rfl ⟨rfl, rfl⟩ (by decide +kernel) ⟨Nat.le_of_ble_eq_true rfl, Nat.le_of_ble_eq_true rfl⟩ hY (by omega) rfl (ci := 1) rfl rfl hl.1 rfl (Nat.le_of_ble_eq_true rfl) dX1_let_61 ⟨Nat.le_of_ble_eq_true rfl, Nat.le_of_ble_eq_true rfl⟩) (fun r10 H locs h11 hY => ?_)
    subst h11
    refine b_if_le (tgt := 77) hx hb dX1_let_64 (by decide) (fun (h12 : (dlP σ n p0 p1 p2 24).toInt ≤ 0) => ?_) (fun (h12 : 0 < (dlP σ n p0 p1 p2 24).toInt) => ?_)
    · have hnn : n < 24 := by omega
      refine lv_aload_n hx hb dX1_let_77 rfl (lv_at hl 0 rfl) ?_
      refine gtV_count hC hin1 hY (by decide +kernel) dX1_let_78 ?_
      refine lv_istore (lv' := [(5, .int (nI n)), (0, .ref (ad 0)), (1, .int p0), (2, .int p1), (3, .int p2), (4, .int p3)]) hx hb dX1_let_81 hl (by decide) rfl (fun ls hl => ?_)
      refine lv_aload_n hx hb dX1_let_83 rfl (lv_at hl 1 rfl) ?_
      refine gtV_roll hC hin1 hY (by decide +kernel) dX1_let_84 ?_
      refine lv_iload hx hb dX1_let_87 (lv_at hl 0 rfl) ?_
      refine g_new hC hY (ci := 0) (q := (RX0, TX0, 12)) rfl hin0 tyX0 tyX0_ok (by decide +kernel) (by decide +kernel) (by decide +kernel) (fs := [.int 0, .int 0, .int 0, .int 0, .int 0, .int 0, .int 0, .int 0, .int 0, .null, .null, .int 0]) (fun j hj => by have hj : j < 12 := hj; rcases (show j = 0 ∨ j = 1 ∨ j = 2 ∨ j = 3 ∨ j = 4 ∨ j = 5 ∨ j = 6 ∨ j = 7 ∨ j = 8 ∨ j = 9 ∨ j = 10 ∨ j = 11 by omega) with rfl | rfl | rfl | rfl | rfl | rfl | rfl | rfl | rfl | rfl | rfl | rfl <;> rfl) (Nat.le_of_ble_eq_true rfl) (Nat.le_of_ble_eq_true rfl) dX1_let_89 (fun q H hY => ?_)
      refine lv_dup hx hb dX1_let_92 rfl ?_
      refine lv_iload_n hx hb dX1_let_93 rfl (lv_at hl 2 rfl) ?_
      refine lv_iload_n hx hb dX1_let_94 rfl (lv_at hl 3 rfl) ?_
      refine lv_iload_n hx hb dX1_let_95 rfl (lv_at hl 4 rfl) ?_
      refine lv_iload hx hb dX1_let_96 (lv_at hl 5 rfl) ?_
      have hM := c_X0_init l G (3 * n + 9) (va_up ad (3 * n + 9) q) (va_up (ctS G ad σ n τ) (3 * n + 9) (.inr (0, [.int 0, .int 0, .int 0, .int 0, .int 0, .int 0, .int 0, .int 0, .int 0, .null, .null, .int 0]))) (va_up_self _ _ _) p0 p1 p2 p3
      rw [va_up_self] at hM
      refine g_callI hY (g_runI (n := 4) (b := q) hC hM gX1_let_X0_init rfl ⟨rfl, rfl⟩ (by decide +kernel) (by decide +kernel) (by decide +kernel) rfl (by decide +kernel) ⟨Nat.le_of_ble_eq_true rfl, Nat.le_of_ble_eq_true rfl⟩ hY rfl hl.1 rfl (Nat.le_of_ble_eq_true rfl) dX1_let_98 ⟨Nat.le_of_ble_eq_true rfl, Nat.le_of_ble_eq_true rfl⟩) (fun u H locs hu hY => ?_)
      have hu9 : ∀ r, r < 3 * n + 9 → u r = ad r := fun r h => by rw [hu r (by omega), va_up_ne _ _ (by omega)]
      have huR : q = u (3 * n + 9) := by rw [hu _ (Nat.le_refl _), va_up_self]
      refine W.eq (g2 := F0 m 101 ls [.ref (u (3 * n + 9)), .int (nI n), .ref (u 4)]) (by rw [← huR, hu9 4 (by omega)]) ?_
      have hnI : (nI n).toInt = n := i_nI (by omega)
      refine g_aast hC hY 4 (by omega) (n := 24) (f := roF ad n) (by unfold ctI; rw [if_neg (by omega), if_neg (by omega), va_up_ne _ _ (by omega)]; rfl) (3 * n + 9) (by omega) (by unfold ctI; exact if_pos rfl) ⟨by omega, by omega⟩ dX1_let_101 (fun H locs hY => ?_)
      refine lv_aload_n hx hb dX1_let_102 rfl (lv_at hl 1 rfl) ?_
      refine lv_iload hx hb dX1_let_103 (lv_at hl 0 rfl) ?_
      refine lv_iconst (v := 1) hx hb dX1_let_105 (by decide) ?_
      refine lv_iadd hx hb dX1_let_106 ?_
      refine g_putA hC hY 0 (by omega) (a := ad 0) (hu9 0 (by omega)) (ci := 1) (fs := [.ref (ad 1), .ref (ad 2), .ref (ad 3), .ref (ad 4), .int (nI n)]) (by rw [va_up_ne _ _ (by omega)]; unfold ctI; rw [if_neg (by omega), if_neg (by omega), va_up_ne _ _ (by omega)]; rfl) (q := (RX1, TX1, 5)) rfl hin1 tyX1 tyX1_ok nmX1 4 (by decide) (by decide +kernel) (Or.inl rfl) rfl rfl (Nat.le_of_ble_eq_true rfl) dX1_let_107 (fun H locs hY => ?_)
      refine lv_iload hx hb dX1_let_110 (lv_at hl 0 rfl) ?_
      exact vx_ret (g_iretU (ct2 := fun u => ctS G u (ltS σ n p0 p1 p2 p3) (n + 1) τ) hC hr hlocks u (N := 3 * n + 9 + 3) (hY.ctE (fun r hr => let_ct hnn (hz hnn) hu9 r hr)) ⟨Nat.le_of_ble_eq_true rfl, Nat.le_of_ble_eq_true rfl⟩ dX1_let_112 ⟨by unfold cdLet; (repeat' split) <;> first | rfl | omega, rfl, hu9⟩)
    · exact g_throw hC hst hY hxt hlocks (E := xS) (text := "the unit is let on one of these days") (by decide +kernel) (by decide +kernel) (by decide +kernel) (by decide) (fun w h => List.mem_cons_of_mem _ (List.mem_append_left _ (List.mem_append_left _ (List.mem_append_right _ h)))) at_S1 at_G1 hY.2.2.2.2.2.1.2.2 hl.1 dX1_let_67 dX1_let_70 dX1_let_71 dX1_let_73 dX1_let_76 ⟨Nat.le_of_ble_eq_true rfl, Nat.le_of_ble_eq_true rfl, Nat.le_of_ble_eq_true rfl, Nat.le_of_ble_eq_true rfl⟩ ⟨Nat.le_of_ble_eq_true rfl, Nat.le_of_ble_eq_true rfl⟩ (Or.inr (Or.inr ⟨rfl, by unfold cdLet; (repeat' split) <;> first | rfl | omega⟩))
  · exact g_throw hC hst hY hxt hlocks (E := xS) (text := "no more leases") (by decide +kernel) (by decide +kernel) (by decide +kernel) (by decide) (fun w h => List.mem_cons_of_mem _ (List.mem_append_left _ (List.mem_append_left _ (List.mem_append_right _ h)))) at_S1 at_G1 hY.2.2.2.2.2.1.2.2 hl.1 dX1_let_47 dX1_let_50 dX1_let_51 dX1_let_53 dX1_let_56 ⟨Nat.le_of_ble_eq_true rfl, Nat.le_of_ble_eq_true rfl, Nat.le_of_ble_eq_true rfl, Nat.le_of_ble_eq_true rfl⟩ ⟨Nat.le_of_ble_eq_true rfl, Nat.le_of_ble_eq_true rfl⟩ (Or.inr (Or.inr ⟨rfl, by unfold cdLet; (repeat' split) <;> first | rfl | omega⟩))

theorem vx_calliU {p : Program} {l : Launch} {e : Env} {R : Room} {s : State} {m : MethodId} {args : Array Value} {below : List Frame} {meth : Method} {c : Code} {H : Heap} {locs : List Loc} {cells slots : Nat} {Q : State → Prop} {pc : Nat} {ls : Array Slot} {rest st0 : List Value} {G : GG} {N N2 : Nat} {ad : Nat → Nat} {ct : Nat → va_E} {mc ms : Nat} {a : Array Value} {post : Int32 → (Nat → Nat) → Prop} {ct2 : (Nat → Nat) → Nat → va_E} {ex : String → Prop} (hY : Sy G N ad ct s H locs) (hr : vx_Run p l e R s m args below meth c H locs cells slots mc ms (F0 m pc ls st0) rest (va_Qi post (fun u t => Sz G N2 u (ct2 u) t) (gF G) a) (XG G N ad ct ex) (gF G))
    (kx : ∀ (E : String) (H1 : Heap) (locs1 : List Loc) (q9 : Addr) (ce : Cell), ex E → Sy G N ad ct s H1 locs1 → H1[q9]? = some ce → ce.vm = .none → s.vm.findClass E = some ce.cls → vx_W p l e R s m args below meth c H1 locs1 (cells + mc) (slots + ms) Q (F0 m pc ls rest) q9)
    (kk : ∀ (r : Int32) (u : Nat → Nat) (H1 : Heap) (locs1 : List Loc), post r u → Sy G N2 u (ct2 u) s H1 locs1 → W p l e R s m args below meth c H1 locs1 (cells + mc) (slots + ms) Q (F0 m (pc + 3) ls (.int r :: rest))) : W p l e R s m args below meth c H locs cells slots Q (F0 m pc ls st0) :=
  vx_calli hr hY.2.2.2.1 (fun _ _ h => h) (fun _ h => h) (fun _ _ h => h) (fun E ce q9 _ t H1 locs1 ht hvm _ hb _ _ hS hce hcv hcl => kx E H1 locs1 q9 ce hb.1 (hY.back hb.2 ht hvm hS) hce hcv hcl) (fun r u t H1 locs1 ht hvm hp hz _ _ hS => kk r u H1 locs1 hp (hY.back hz ht hvm hS))
end
section
/-! the share of a unit: the quotient of two whole numbers, not a NaN -/
theorem ddiv_ok {a b : Int32} (h : b.toInt ≠ 0) : Jvm.FP.Core.val64 (Jvm.FP.ddiv (Jvm.FP.i2d a) (Jvm.FP.i2d b)) ≠ .nan := by
  rw [show Jvm.FP.ddiv (Jvm.FP.i2d a) (Jvm.FP.i2d b) = Jvm.FP.Core.ddiv (Jvm.FP.Core.i2d a) (Jvm.FP.Core.i2d b) from rfl, Jvm.FP.Core.val64_ddiv]
  have ha := Jvm.FP.Core.i2d_int a
  have hb := Jvm.FP.Core.i2d_int b
  unfold Jvm.FP.Core.DInt at ha hb
  generalize Jvm.FP.Core.val64 (Jvm.FP.Core.i2d a) = x at ha ⊢
  generalize Jvm.FP.Core.val64 (Jvm.FP.Core.i2d b) = y at hb ⊢
  match x, y, ha, hb with
  | .fin s c q, .fin t d r, ha, hb =>
    have hd : ¬ d = 0 := fun q => h ((Jvm.FP.Core.whole_zero hb).mp q)
    unfold Jvm.FP.Core.quotient
    simp only [hd, if_false]
    unfold Jvm.FP.Core.roundRatio Jvm.FP.Core.roundAt Jvm.FP.Core.settle Jvm.FP.Core.bound
    (repeat' split) <;> exact Jvm.FP.Core.Datum.noConfusion
theorem n64_ok {r : UInt64} (h : Jvm.FP.Core.val64 r ≠ .nan) : vf_n64 r := by
  unfold vf_n64
  rw [UInt64.le_iff_toNat_le, UInt64.toNat_and, show (0x7fffffffffffffff : UInt64).toNat = 2 ^ 63 - 1 from rfl, Nat.and_two_pow_sub_one_eq_mod, show (0x7ff0000000000000 : UInt64).toNat = 2047 * 2 ^ 52 from rfl]
  have hr := r.toNat_lt
  unfold Jvm.FP.Core.val64 Jvm.FP.Core.decode Jvm.FP.Core.fieldE Jvm.FP.Core.fieldT at h
  rw [show Jvm.FP.Core.b64.tails = 2 ^ 52 from rfl, show Jvm.FP.Core.b64.exps = 2048 from rfl] at h
  by_cases h1 : r.toNat / 2 ^ 52 % 2048 = 2048 - 1
  · rw [if_pos h1] at h
    by_cases h2 : r.toNat % 2 ^ 52 = 0
    · omega
    · rw [if_neg h2] at h; exact absurd rfl h
  · omega
theorem ddiv_n64 {a b : Int32} (h : b.toInt ≠ 0) : vf_n64 (Jvm.FP.ddiv (Jvm.FP.i2d a) (Jvm.FP.i2d b)) := n64_ok (ddiv_ok h)
abbrev shQ (σ : St) (i : Nat) : UInt64 := Jvm.FP.ddiv (Jvm.FP.i2d (σ 0 i)) (Jvm.FP.i2d (aaP σ 6))
def shF (σ : St) (i : Nat) : UInt64 := if 0 < (aaP σ 6).toInt then shQ σ i else Jvm.FP.dconst0
def shM (σ : St) (i : Nat) : UInt64 := if (aaP σ 6).toInt = 0 then Jvm.FP.dconst0 else shQ σ i
theorem shM_ok (σ : St) (i : Nat) : Jvm.FP.Core.val64 (shM σ i) ≠ .nan := by
  unfold shM
  split
  · rw [show Jvm.FP.dconst0 = Jvm.FP.Core.dconst0 from rfl, Jvm.FP.Core.val64_dconst0]; intro q; cases q
  · rename_i h; exact ddiv_ok h
set_option maxHeartbeats 4000000 in
set_option maxRecDepth 100000 in
theorem c_X1_share (l : Launch) (G : GG) (ad : Nat → Nat) (σ : St) (n : Nat) (τ : St) (hst : l.stackTraces = false) (p0 : Int32)  : vx_Met l yX1_share wsX1_share ({ frames := 8, cells := 6, slots := 36, locals := 160 }) (PcS G ad σ n τ [.ref (ad 0), .int p0]) (Qd G (3 * n + 9) ad (ctS G ad σ n τ) (fun r => cdU1 6 p0 = 0 ∧ r = shF σ (ix p0))) (XG G (3 * n + 9) ad (ctS G ad σ n τ) (fun E => exC E (cdU1 6 p0))) 6 36 (gF G) := by
  refine vx_ofW (cc := cX1_share) (maxL := 3) (ret := (some .double)) (by decide) rfl ?_
  intro p e s m args below meth c s₁ B hml hxt hv
  obtain ⟨rfl, hY⟩ := hv
  have hts := atoms_spec (ws := wsX1_share) B.pre
  have hC : CallFix p m c cX1_share 3 s _ wsX1_share RX1 := ⟨B.exec, B.bytes, hml, findClass_of_methodNamed B.named, hts⟩
  have hx := hC.1
  have hb := hC.2.1
  have hr := B.returns
  have hlocks := B.notSynchronized
  have hin1 : ∀ w ∈ wsX10, w ∈ wsX1_share := by decide +kernel
  have hl := lv_entry ([.ref (ad 0), .int p0]) (n := 3) (Nat.le_of_ble_eq_true rfl)
  rw [lg_entry_eq]
  generalize (lg_sl ([.ref (ad 0), .int p0]) ++ List.replicate (3 - (lg_sl ([.ref (ad 0), .int p0])).length) Slot.unset).toArray = ls at hl ⊢
  have hl : lv_has ls 3 [(0, .ref (ad 0)), (1, .int p0)] := hl
  refine lv_iload_n hx hb dX1_share_0 rfl (lv_at hl 1 rfl) ?_
  refine lv_aload_n hx hb dX1_share_1 rfl (lv_at hl 0 rfl) ?_
  refine gtV_areas hC hin1 hY (by decide +kernel) dX1_share_2 ?_
  refine g_alen hC hY 1 (by omega) 0 rfl rfl (v := 6) rfl dX1_share_5 ?_
  refine gx_callv hY (gx_runS (n := 2) hC (c_X1_checkNumber l G ad σ n τ hst p0 6 6 rfl) gX1_share_X1_checkNumber rfl ⟨rfl, rfl⟩ (by decide +kernel) ⟨Nat.le_of_ble_eq_true rfl, Nat.le_of_ble_eq_true rfl⟩ hY rfl hl.1 rfl (Nat.le_of_ble_eq_true rfl) dX1_share_6 ⟨Nat.le_of_ble_eq_true rfl, Nat.le_of_ble_eq_true rfl⟩) hxt hlocks ⟨Nat.le_of_ble_eq_true rfl, Nat.le_of_ble_eq_true rfl⟩ (fun E h => Or.inl ⟨h.1, by have q := h.2; unfold cdU1; (repeat' split) <;> first | rfl | omega⟩) (fun H locs h2 hY => ?_)
  refine lv_aload_n hx hb dX1_share_9 rfl (lv_at hl 0 rfl) ?_
  refine g_calli hY (g_runV (n := 0) (q := (RX1, TX1, 5)) (r := 0) hC (c_X1_allAreas l G ad σ n τ) gX1_share_X1_allAreas rfl ⟨rfl, rfl⟩ (by decide +kernel) ⟨Nat.le_of_ble_eq_true rfl, Nat.le_of_ble_eq_true rfl⟩ hY (by omega) rfl (ci := 1) rfl rfl hl.1 rfl (Nat.le_of_ble_eq_true rfl) dX1_share_10 ⟨Nat.le_of_ble_eq_true rfl, Nat.le_of_ble_eq_true rfl⟩) (fun r3 H locs h4 hY => ?_)
  subst h4
  refine lv_istore_n (lv' := [(2, .int (aaP σ 6)), (0, .ref (ad 0)), (1, .int p0)]) hx hb dX1_share_13 rfl hl (by decide) rfl (fun ls hl => ?_)
  refine lv_iload_n hx hb dX1_share_14 rfl (lv_at hl 0 rfl) ?_
  refine b_if_le (tgt := 31) hx hb dX1_share_15 (by decide) (fun (h5 : (aaP σ 6).toInt ≤ 0) => ?_) (fun (h5 : 0 < (aaP σ 6).toInt) => ?_)
  · refine lv_dconst0 hx hb dX1_share_31 ?_
    exact vx_ret (g_dret hC hr hlocks hY ⟨Nat.le_of_ble_eq_true rfl, Nat.le_of_ble_eq_true rfl⟩ dX1_share_32 (⟨by unfold cdU1; (repeat' split) <;> first | rfl | omega, by unfold shF; exact (if_neg (by omega)).symm⟩))
  · refine lv_aload_n hx hb dX1_share_18 rfl (lv_at hl 1 rfl) ?_
    refine gtV_areas hC hin1 hY (by decide +kernel) dX1_share_19 ?_
    refine lv_iload_n hx hb dX1_share_22 rfl (lv_at hl 2 rfl) ?_
    refine rdA0 hC hY h2 dX1_share_23 ?_
    refine lv_i2d hx hb dX1_share_24 ?_
    refine lv_iload_n hx hb dX1_share_25 rfl (lv_at hl 0 rfl) ?_
    refine lv_i2d hx hb dX1_share_26 ?_
    refine lv_ddiv hx hb dX1_share_27 (ddiv_n64 (by omega)) ?_
    refine lv_goto (tgt := 32) hx hb dX1_share_28 (by decide) ?_
    exact vx_ret (g_dret hC hr hlocks hY ⟨Nat.le_of_ble_eq_true rfl, Nat.le_of_ble_eq_true rfl⟩ dX1_share_32 (⟨by unfold cdU1; (repeat' split) <;> first | rfl | omega, by unfold shF; exact (if_pos h5).symm⟩))
end
section
/-! the invariant of the two, and what they answer alike -/
theorem i_lt {x y : Int32} : x < y ↔ x.toInt < y.toInt := Int32.lt_iff_toInt_lt
theorem i_mx {x y : Int32} : (mxF x y).toInt = if x.toInt < y.toInt then y.toInt else x.toInt := by
  unfold mxF
  by_cases h : x < y
  · rw [if_pos h, if_pos (i_lt.mp h)]
  · rw [if_neg h, if_neg (fun q => h (i_lt.mpr q))]
theorem i_mn {x y : Int32} : (mnF x y).toInt = if y.toInt < x.toInt then y.toInt else x.toInt := by
  unfold mnF
  by_cases h : y < x
  · rw [if_pos h, if_pos (i_lt.mp h)]
  · rw [if_neg h, if_neg (fun q => h (i_lt.mpr q))]
theorem us_ne {σ : St} {a i b q : Nat} {x : Int32} (h : b ≠ a ∨ q ≠ i) : us σ a i x b q = σ b q := by
  unfold us upd
  by_cases h1 : b = a
  · rw [if_pos h1, if_neg (fun e => h.elim (fun z => z h1) (fun z => z e))]
  · rw [if_neg h1]
def Dj (σ : St) (i j : Nat) : Prop := (σ 3 i).toInt = (σ 3 j).toInt → (σ 5 i).toInt ≤ (σ 4 j).toInt ∨ (σ 5 j).toInt ≤ (σ 4 i).toInt
def Inv (σ : St) (n : Nat) : Prop := n ≤ 24 ∧ (∀ i, i < 6 → 0 ≤ (σ 0 i).toInt ∧ (σ 0 i).toInt ≤ 999) ∧ (∀ i, i < 240 → 10 ≤ (σ 1 i).toInt ∧ (σ 1 i).toInt ≤ 999) ∧ (∀ k, k < n → okL σ k) ∧ (∀ k, n ≤ k → k < 24 → zeroL σ k) ∧ ∀ i j, i < n → j < n → i ≠ j → Dj σ i j
theorem okL_c {σ σ' : St} {k : Nat} (h : ∀ a, 3 ≤ a → a ≤ 12 → a ≠ 11 → σ' a k = σ a k) (h2 : rowF σ' 13 k = rowF σ 13 k) (q : okL σ k) : okL σ' k := by
  unfold okL okS stN at *
  rw [show σ' 3 k = σ 3 k from h 3 (by decide) (by decide) (by decide), show σ' 4 k = σ 4 k from h 4 (by decide) (by decide) (by decide), show σ' 5 k = σ 5 k from h 5 (by decide) (by decide) (by decide), show σ' 6 k = σ 6 k from h 6 (by decide) (by decide) (by decide), show σ' 7 k = σ 7 k from h 7 (by decide) (by decide) (by decide), show σ' 8 k = σ 8 k from h 8 (by decide) (by decide) (by decide), show σ' 9 k = σ 9 k from h 9 (by decide) (by decide) (by decide), show σ' 10 k = σ 10 k from h 10 (by decide) (by decide) (by decide), show σ' 12 k = σ 12 k from h 12 (by decide) (by decide) (by decide), h2]
  exact q
theorem zeroL_c {σ σ' : St} {k : Nat} (h : ∀ a, 3 ≤ a → a ≤ 12 → σ' a k = σ a k) (h2 : ∀ a i, 13 ≤ a → i < 6 → σ' a (6 * k + i) = σ a (6 * k + i)) (q : zeroL σ k) : zeroL σ' k := by
  obtain ⟨z7, z8, z10, z11, z12, z⟩ := q
  exact ⟨(h 7 (by decide) (by decide)).trans z7, (h 8 (by decide) (by decide)).trans z8, (h 10 (by decide) (by decide)).trans z10, (h 11 (by decide) (by decide)).trans z11, (h 12 (by decide) (by decide)).trans z12, fun i hi => ⟨(h2 13 i (by decide) hi).trans (z i hi).1, (h2 14 i (by decide) hi).trans (z i hi).2⟩⟩
theorem inv_0 : Inv σI 0 := by
  refine ⟨by decide, fun i _ => ⟨by show 0 ≤ (0 : Int32).toInt; decide, by show (0 : Int32).toInt ≤ 999; decide⟩, fun i hi => ?_, fun k hk => absurd hk (by omega), fun k _ _ => ⟨rfl, rfl, rfl, rfl, rfl, fun i _ => ⟨rfl, rfl⟩⟩, fun i j hi => absurd hi (by omega)⟩
  have h : σI 1 i = 100 := if_pos hi
  rw [h]; decide
/-- a unit's area, an index, a cost -/
theorem inv_t {σ : St} {n a i : Nat} {x : Int32} (hI : Inv σ n) (ha : a < 3) (h0 : a = 0 → 0 ≤ x.toInt ∧ x.toInt ≤ 999) (h1 : a = 1 → 10 ≤ x.toInt ∧ x.toInt ≤ 999) : Inv (us σ a i x) n := by
  obtain ⟨i1, i2, i3, i4, i5, i6⟩ := hI
  refine ⟨i1, fun q hq => ?_, fun q hq => ?_, fun k hk => okL_c (fun b hb _ _ => us_ne (Or.inl (by omega))) (rowF_ne (Or.inl (by omega))) (i4 k hk), fun k h1 h2 => zeroL_c (fun b hb _ => us_ne (Or.inl (by omega))) (fun b i hb _ => us_ne (Or.inl (by omega))) (i5 k h1 h2), fun p q hp hq hne => ?_⟩
  · by_cases h : (0 = a ∧ q = i)
    · obtain ⟨rfl, rfl⟩ := h; rw [us_eq]; exact h0 rfl
    · rw [us_ne (by omega)]; exact i2 q hq
  · by_cases h : (1 = a ∧ q = i)
    · obtain ⟨rfl, rfl⟩ := h; rw [us_eq]; exact h1 rfl
    · rw [us_ne (by omega)]; exact i3 q hq
  · unfold Dj
    rw [us_ne (b := 3) (Or.inl (by omega)), us_ne (b := 3) (Or.inl (by omega)), us_ne (b := 4) (Or.inl (by omega)), us_ne (b := 4) (Or.inl (by omega)), us_ne (b := 5) (Or.inl (by omega)), us_ne (b := 5) (Or.inl (by omega))]
    exact i6 p q hp hq hne
/-- a lease's own number -/
theorem inv_us {σ : St} {n a k : Nat} {x : Int32} (hI : Inv σ n) (hk : k < n) (ha : 5 ≤ a ∧ a ≤ 12 ∧ a ≠ 6) (hok : okL (us σ a k x) k) (h5 : a = 5 → x.toInt ≤ (σ 5 k).toInt) : Inv (us σ a k x) n := by
  obtain ⟨i1, i2, i3, i4, i5, i6⟩ := hI
  refine ⟨i1, fun q hq => ?_, fun q hq => ?_, fun q hq => ?_, fun q h1 h2 => zeroL_c (fun b hb _ => us_ne (Or.inr (by omega))) (fun b i hb _ => us_ne (Or.inl (by omega))) (i5 q h1 h2), fun p q hp hq hne => ?_⟩
  · rw [us_ne (Or.inl (by omega))]; exact i2 q hq
  · rw [us_ne (Or.inl (by omega))]; exact i3 q hq
  · by_cases h : q = k
    · rw [h]; exact hok
    · exact okL_c (fun b hb _ _ => us_ne (Or.inr h)) (rowF_ne (Or.inl (by omega))) (i4 q hq)
  · have hle : ∀ z, (us σ a k x 5 z).toInt ≤ (σ 5 z).toInt := by
      intro z
      by_cases h : 5 = a ∧ z = k
      · obtain ⟨rfl, rfl⟩ := h; rw [us_eq]; exact h5 rfl
      · rw [us_ne (by omega)]; exact Int.le_refl _
    have e1 := hle p
    have e2 := hle q
    have e3 := i6 p q hp hq hne
    unfold Dj at e3 ⊢
    rw [us_ne (b := 3) (Or.inl (by omega)), us_ne (b := 3) (Or.inl (by omega)), us_ne (b := 4) (Or.inl (by omega)), us_ne (b := 4) (Or.inl (by omega))]
    intro h
    have := e3 h
    omega

theorem okL_5 {σ : St} {k : Nat} {x : Int32} (h : okL σ k) (hx : (σ 4 k).toInt < x.toInt ∧ x.toInt ≤ 7200) : okL (us σ 5 k x) k := by
  unfold okL okS stN at *
  rw [show us σ 5 k x 3 k = σ 3 k from us_ne (Or.inl (by decide)), show us σ 5 k x 4 k = σ 4 k from us_ne (Or.inl (by decide)), show us σ 5 k x 5 k = x from us_eq, show us σ 5 k x 6 k = σ 6 k from us_ne (Or.inl (by decide)), show us σ 5 k x 7 k = σ 7 k from us_ne (Or.inl (by decide)), show us σ 5 k x 8 k = σ 8 k from us_ne (Or.inl (by decide)), show us σ 5 k x 9 k = σ 9 k from us_ne (Or.inl (by decide)), show us σ 5 k x 10 k = σ 10 k from us_ne (Or.inl (by decide)), show us σ 5 k x 12 k = σ 12 k from us_ne (Or.inl (by decide)), show rowF (us σ 5 k x) 13 k = rowF σ 13 k from rowF_ne (Or.inl (by decide))]
  obtain ⟨a1, a2, a3, a4, a5, a6, a7, a8, a9⟩ := h
  exact ⟨a1, ⟨a2.1, hx⟩, a3, a4, a5, a6, a7, a8, a9⟩
theorem okL_7 {σ : St} {k : Nat} {x : Int32} (h : okL σ k) (hx : 0 ≤ x.toInt ∧ x.toInt ≤ 720) : okL (us σ 7 k x) k := by
  unfold okL okS stN at *
  rw [show us σ 7 k x 3 k = σ 3 k from us_ne (Or.inl (by decide)), show us σ 7 k x 4 k = σ 4 k from us_ne (Or.inl (by decide)), show us σ 7 k x 5 k = σ 5 k from us_ne (Or.inl (by decide)), show us σ 7 k x 6 k = σ 6 k from us_ne (Or.inl (by decide)), show us σ 7 k x 7 k = x from us_eq, show us σ 7 k x 8 k = σ 8 k from us_ne (Or.inl (by decide)), show us σ 7 k x 9 k = σ 9 k from us_ne (Or.inl (by decide)), show us σ 7 k x 10 k = σ 10 k from us_ne (Or.inl (by decide)), show us σ 7 k x 12 k = σ 12 k from us_ne (Or.inl (by decide)), show rowF (us σ 7 k x) 13 k = rowF σ 13 k from rowF_ne (Or.inl (by decide))]
  obtain ⟨a1, a2, a3, a4, a5, a6, a7, a8, a9⟩ := h
  exact ⟨a1, a2, a3, hx, a5, a6, a7, a8, a9⟩
theorem okL_8 {σ : St} {k : Nat} {x : Int32} (h : okL σ k) (hx : x.toInt = 0 ∨ (30 ≤ x.toInt ∧ x.toInt ≤ 1800)) : okL (us σ 8 k x) k := by
  unfold okL okS stN at *
  rw [show us σ 8 k x 3 k = σ 3 k from us_ne (Or.inl (by decide)), show us σ 8 k x 4 k = σ 4 k from us_ne (Or.inl (by decide)), show us σ 8 k x 5 k = σ 5 k from us_ne (Or.inl (by decide)), show us σ 8 k x 6 k = σ 6 k from us_ne (Or.inl (by decide)), show us σ 8 k x 7 k = σ 7 k from us_ne (Or.inl (by decide)), show us σ 8 k x 8 k = x from us_eq, show us σ 8 k x 9 k = σ 9 k from us_ne (Or.inl (by decide)), show us σ 8 k x 10 k = σ 10 k from us_ne (Or.inl (by decide)), show us σ 8 k x 12 k = σ 12 k from us_ne (Or.inl (by decide)), show rowF (us σ 8 k x) 13 k = rowF σ 13 k from rowF_ne (Or.inl (by decide))]
  obtain ⟨a1, a2, a3, a4, a5, a6, a7, a8, a9⟩ := h
  exact ⟨a1, a2, a3, a4, hx, a6, a7, a8, a9⟩
theorem okL_9 {σ : St} {k : Nat} {x : Int32} (h : okL σ k) (hx : -1 ≤ x.toInt ∧ x.toInt ≤ 999999) : okL (us σ 9 k x) k := by
  unfold okL okS stN at *
  rw [show us σ 9 k x 3 k = σ 3 k from us_ne (Or.inl (by decide)), show us σ 9 k x 4 k = σ 4 k from us_ne (Or.inl (by decide)), show us σ 9 k x 5 k = σ 5 k from us_ne (Or.inl (by decide)), show us σ 9 k x 6 k = σ 6 k from us_ne (Or.inl (by decide)), show us σ 9 k x 7 k = σ 7 k from us_ne (Or.inl (by decide)), show us σ 9 k x 8 k = σ 8 k from us_ne (Or.inl (by decide)), show us σ 9 k x 9 k = x from us_eq, show us σ 9 k x 10 k = σ 10 k from us_ne (Or.inl (by decide)), show us σ 9 k x 12 k = σ 12 k from us_ne (Or.inl (by decide)), show rowF (us σ 9 k x) 13 k = rowF σ 13 k from rowF_ne (Or.inl (by decide))]
  obtain ⟨a1, a2, a3, a4, a5, a6, a7, a8, a9⟩ := h
  exact ⟨a1, a2, a3, a4, a5, hx, a7, a8, a9⟩
theorem okL_10 {σ : St} {k : Nat} {x : Int32} (h : okL σ k) (hx : 0 ≤ x.toInt ∧ x.toInt ≤ 9999) : okL (us σ 10 k x) k := by
  unfold okL okS stN at *
  rw [show us σ 10 k x 3 k = σ 3 k from us_ne (Or.inl (by decide)), show us σ 10 k x 4 k = σ 4 k from us_ne (Or.inl (by decide)), show us σ 10 k x 5 k = σ 5 k from us_ne (Or.inl (by decide)), show us σ 10 k x 6 k = σ 6 k from us_ne (Or.inl (by decide)), show us σ 10 k x 7 k = σ 7 k from us_ne (Or.inl (by decide)), show us σ 10 k x 8 k = σ 8 k from us_ne (Or.inl (by decide)), show us σ 10 k x 9 k = σ 9 k from us_ne (Or.inl (by decide)), show us σ 10 k x 10 k = x from us_eq, show us σ 10 k x 12 k = σ 12 k from us_ne (Or.inl (by decide)), show rowF (us σ 10 k x) 13 k = rowF σ 13 k from rowF_ne (Or.inl (by decide))]
  obtain ⟨a1, a2, a3, a4, a5, a6, a7, a8, a9⟩ := h
  exact ⟨a1, a2, a3, a4, a5, a6, hx, a8, a9⟩
theorem okL_11 {σ : St} {k : Nat} {x : Int32} (h : okL σ k) : okL (us σ 11 k x) k := okL_c (fun _ _ _ h => us_ne (Or.inl h)) (rowF_ne (Or.inl (by decide))) h
theorem inv_end {σ : St} {n : Nat} {p0 p1 : Int32} (hI : Inv σ n) (h : cdEnd σ n p0 p1 = 0) : Inv (us σ 5 (ix p0) p1) n := by
  unfold cdEnd at h
  split at h
  · rename_i h0
    split at h
    · rename_i h1
      have hk := ix_lt h0
      have hL := hI.2.2.2.1 _ hk
      exact inv_us hI hk ⟨by decide, by decide, by decide⟩ (okL_5 hL ⟨h1.1, by have := hL.2.1; omega⟩) (fun _ => by omega)
    · exact absurd h (by decide)
  · exact absurd h (by decide)
theorem inv_terms {σ : St} {n : Nat} {p0 p1 p2 : Int32} (hI : Inv σ n) (h : cdTerms n p0 p1 p2 = 0) : Inv (us (us σ 7 (ix p0) p1) 8 (ix p0) p2) n := by
  unfold cdTerms at h
  split at h
  · rename_i h0
    split at h
    · rename_i h1
      have hk := ix_lt h0
      have hL := hI.2.2.2.1 _ hk
      exact inv_us (inv_us hI hk ⟨by decide, by decide, by decide⟩ (okL_7 hL h1.1) (fun q => absurd q (by decide))) hk ⟨by decide, by decide, by decide⟩ (okL_8 (okL_7 hL h1.1) h1.2) (fun q => absurd q (by decide))
    · exact absurd h (by decide)
  · exact absurd h (by decide)
theorem inv_serv {σ : St} {n : Nat} {p0 p1 p2 : Int32} (hI : Inv σ n) (h : cdServ n p0 p1 p2 = 0) : Inv (us (us σ 9 (ix p0) p1) 10 (ix p0) p2) n := by
  unfold cdServ at h
  split at h
  · rename_i h0
    split at h
    · rename_i h1
      have hk := ix_lt h0
      have hL := hI.2.2.2.1 _ hk
      exact inv_us (inv_us hI hk ⟨by decide, by decide, by decide⟩ (okL_9 hL h1.1) (fun q => absurd q (by decide))) hk ⟨by decide, by decide, by decide⟩ (okL_10 (okL_9 hL h1.1) h1.2) (fun q => absurd q (by decide))
    · exact absurd h (by decide)
  · exact absurd h (by decide)
theorem inv_11 {σ : St} {n k : Nat} {x : Int32} (hI : Inv σ n) (hk : k < n) : Inv (us σ 11 k x) n := inv_us hI hk ⟨by decide, by decide, by decide⟩ (okL_11 (hI.2.2.2.1 _ hk)) (fun q => absurd q (by decide))
theorem plG_le' {σ : St} {k : Nat} {d : Int32} : ∀ f i, plG σ k d f i ≤ i + f
  | 0, i => by unfold plG; omega
  | f + 1, i => by
    unfold plG
    split
    · omega
    · have := plG_le' (σ := σ) (k := k) (d := d) f (i + 1); omega
theorem inv_step {σ : St} {n : Nat} {p0 p1 p2 : Int32} (hI : Inv σ n) (h : cdStep σ n p0 p1 p2 = 0) : Inv (psS σ (ix p0) p1 p2) n := by
  unfold cdStep at h
  split at h
  · rename_i h0
    split at h
    · rename_i h1
      split at h
      · rename_i h2
        have hk := ix_lt h0
        obtain ⟨i1, i2, i3, i4, i5, i6⟩ := hI
        have hL := i4 _ hk
        unfold psS
        rw [if_pos h2]
        generalize hp : plF σ (ix p0) p1 = p at h2 ⊢
        have hpl : p ≤ stN σ (ix p0) := by rw [← hp]; have hz := plG_le' (σ := σ) (k := ix p0) (d := p1) (stN σ (ix p0)) 0; rw [Nat.zero_add] at hz; exact hz
        generalize ix p0 = k at *
        have hS : okS σ k := okL_s hL
        have hst : (stN σ k : Int) = (σ 12 k).toInt := by unfold stN; have := hS.1; omega
        generalize hc : (if p = stN σ k then σ 12 k + 1 else σ 12 k) = c
        have hci : c.toInt = if p = stN σ k then (σ 12 k).toInt + 1 else (σ 12 k).toInt := by
          rw [← hc]; split
          · exact i_add1 (by have := hS.2; omega)
          · rfl
        have g : ∀ b q, b ≠ 12 → b ≠ 13 → b ≠ 14 → us (us (us σ 13 (6 * k + p) p1) 14 (6 * k + p) p2) 12 k c b q = σ b q := fun b q e1 e2 e3 => by rw [us_ne (Or.inl e1), us_ne (Or.inl e3), us_ne (Or.inl e2)]
        refine ⟨i1, fun q hq => by rw [g 0 q (by decide) (by decide) (by decide)]; exact i2 q hq, fun q hq => by rw [g 1 q (by decide) (by decide) (by decide)]; exact i3 q hq, fun q hq => ?_, fun q q1 q2 => zeroL_c (fun b hb _ => ?_) (fun b i hb _ => ?_) (i5 q q1 q2), fun a b ha hb hne => ?_⟩
        · by_cases hqk : q = k
          · subst hqk
            obtain ⟨a1, a2, a3, a4, a5, a6, a7, a8, a9⟩ := hL
            have hst2 : (stN (us (us (us σ 13 (6 * q + p) p1) 14 (6 * q + p) p2) 12 q c) q : Int) = c.toInt := by
              unfold stN; rw [us_eq]
              have := hS.1
              split at hci <;> omega
            unfold okL
            rw [g 3 q (by decide) (by decide) (by decide), g 4 q (by decide) (by decide) (by decide), g 5 q (by decide) (by decide) (by decide), g 6 q (by decide) (by decide) (by decide), g 7 q (by decide) (by decide) (by decide), g 8 q (by decide) (by decide) (by decide), g 9 q (by decide) (by decide) (by decide), g 10 q (by decide) (by decide) (by decide)]
            refine ⟨a1, a2, a3, a4, a5, a6, a7, ?_, fun i hi => ?_⟩
            · unfold okS; rw [us_eq, hci]
              have := hS.1; have := hS.2
              split <;> omega
            · rw [rowF_ne (a := 12) (Or.inl (by decide)), rowF_ne (a := 14) (Or.inl (by decide)), rowF_eq h2]
              unfold upd
              split
              · have := a2.2.2; omega
              · refine a9 i ?_
                split at hci <;> omega
          · refine okL_c (fun b _ h3 _ => ?_) ?_ (i4 q hq)
            · by_cases hb : b = 12
              · subst hb; rw [us_ne (Or.inr hqk), us_ne (Or.inl (by decide)), us_ne (Or.inl (by decide))]
              · exact g b q hb (by omega) (by omega)
            · rw [rowF_ne (a := 12) (Or.inl (by decide)), rowF_ne (a := 14) (Or.inl (by decide)), rowF_ne (by omega)]
        · by_cases hb2 : b = 12
          · subst hb2; rw [us_ne (Or.inr (by omega)), us_ne (Or.inl (by decide)), us_ne (Or.inl (by decide))]
          · exact g b q hb2 (by omega) (by omega)
        · rw [us_ne (Or.inl (by omega)), us_ne (Or.inr (by omega)), us_ne (Or.inr (by omega))]
        · unfold Dj
          rw [g 3 a (by decide) (by decide) (by decide), g 3 b (by decide) (by decide) (by decide), g 4 a (by decide) (by decide) (by decide), g 4 b (by decide) (by decide) (by decide), g 5 a (by decide) (by decide) (by decide), g 5 b (by decide) (by decide) (by decide)]
          exact i6 a b ha hb hne
      · exact absurd h (by decide)
    · exact absurd h (by decide)
  · exact absurd h (by decide)
end
section
/-! days, shares, the let of a unit -/
theorem i_sub0 {x y : Int32} (hx : 0 ≤ x.toInt ∧ x.toInt < 100000) (hy : 0 ≤ y.toInt ∧ y.toInt < 100000) : (x - y).toInt = x.toInt - y.toInt := i_sub (by omega)
/-- the days of a lease from a up to b, as a whole number -/
theorem dw_int {σ : St} {k : Nat} {a b : Int32} (hL : okL σ k) (ha : 0 ≤ a.toInt ∧ a.toInt < 20000) (hb : 0 ≤ b.toInt ∧ b.toInt < 20000) : (dwF σ k a b).toInt = (let A := if (σ 4 k).toInt < a.toInt then a.toInt else (σ 4 k).toInt
    let B := if b.toInt < (σ 5 k).toInt then b.toInt else (σ 5 k).toInt
    if A < B then B - A else 0) := by
  obtain ⟨-, ⟨h1, h2, h3⟩, -⟩ := hL
  unfold dwF
  have e1 := @i_mx (σ 4 k) a
  have e2 := @i_mn (σ 5 k) b
  have e3 : (mnF (σ 5 k) b - mxF (σ 4 k) a).toInt = (mnF (σ 5 k) b).toInt - (mxF (σ 4 k) a).toInt := i_sub0 (by rw [e2]; split <;> omega) (by rw [e1]; split <;> omega)
  rw [i_mx, e3, e1, e2]
  have hz : (0 : Int32).toInt = 0 := rfl
  rw [hz]
  show _ = if _ < _ then _ else (0 : Int)
  split <;> split <;> omega
theorem y360 {y : Int32} (hy : 0 ≤ y.toInt ∧ y.toInt < 20) : (360 * y).toInt = 360 * y.toInt ∧ (360 * y + 360).toInt = 360 * y.toInt + 360 := by
  have h3 : (360 : Int32).toInt = 360 := rfl
  have h1 : (360 * y).toInt = 360 * y.toInt := by rw [i_mul (by rw [h3]; omega), h3]
  exact ⟨h1, by rw [i_add (by rw [h1, h3]; omega), h1, h3]⟩
theorem di_eq {σ : St} {k : Nat} {y : Int32} (hL : okL σ k) (hy : 0 ≤ y.toInt ∧ y.toInt < 20) : diF σ k y = dmF σ k y := by
  apply i_ext
  obtain ⟨y1, y2⟩ := y360 hy
  unfold diF
  rw [Int32.mul_comm y 360, dw_int hL (by rw [y1]; omega) (by rw [y2]; omega)]
  obtain ⟨-, ⟨h1, h2, h3⟩, -⟩ := hL
  unfold dmF
  have e1 : (dmA σ k y).toInt = if (σ 4 k).toInt < (360 * y).toInt then (360 * y).toInt else (σ 4 k).toInt := by
    unfold dmA
    split
    · rw [if_neg (by omega)]
    · split
      · rfl
      · omega
  have e2 : (dmB σ k y).toInt = if (360 * y + 360).toInt < (σ 5 k).toInt then (360 * y + 360).toInt else (σ 5 k).toInt := by
    unfold dmB
    split
    · rw [if_neg (by omega)]
    · split
      · rfl
      · omega
  have hA : 0 ≤ (dmA σ k y).toInt ∧ (dmA σ k y).toInt < 100000 := by rw [e1, y1]; split <;> omega
  have hB : 0 ≤ (dmB σ k y).toInt ∧ (dmB σ k y).toInt < 100000 := by rw [e2, y2]; split <;> omega
  show (if _ < _ then _ else (0 : Int)) = _
  rw [← e1, ← e2]
  split
  · rw [i_sub0 hB hA]
  · rfl
theorem aa_b {σ : St} {n : Nat} (hI : Inv σ n) : ∀ i, i ≤ 6 → 0 ≤ (aaP σ i).toInt ∧ (aaP σ i).toInt ≤ 999 * i
  | 0, _ => ⟨by show 0 ≤ (0 : Int32).toInt; decide, by show (0 : Int32).toInt ≤ 999 * 0; decide⟩
  | i + 1, h => by
    have ih := aa_b hI i (by omega)
    have ha := hI.2.1 i (by omega)
    unfold aaP
    rw [i_add (by omega)]
    omega
theorem sh_eq {σ : St} {n i : Nat} (hI : Inv σ n) : shF σ i = shM σ i := by
  have h := aa_b hI 6 (by decide)
  unfold shF shM
  by_cases h0 : (aaP σ 6).toInt = 0
  · rw [if_neg (by omega), if_pos h0]
  · rw [if_pos (by omega), if_neg h0]
theorem pt_eq {σ : St} {n k : Nat} {y : Int32} (hI : Inv σ n) (hk : k < n) (hy : 0 ≤ y.toInt ∧ y.toInt < 20) : ptF σ k y (σ 2 (ix y)) = pmF σ k y := by
  have h := aa_b hI 6 (by decide)
  have hL := hI.2.2.2.1 k hk
  unfold ptF pmF
  by_cases h0 : (aaP σ 6).toInt = 0
  · rw [if_neg (by omega), if_pos h0]
  · rw [if_pos (by omega), if_neg h0, di_eq hL hy, show vaF (σ 0) 6 (σ 3 k) = σ 0 (ix (σ 3 k)) from if_pos hL.1]
    show (if _ then pmQ σ k y else mnF (pmQ σ k y) (σ 9 k * dmF σ k y / 360)) = _
    unfold pmM
    by_cases hc : (σ 9 k).toInt = -1
    · rw [if_pos hc, if_pos hc]; split <;> rfl
    · rw [if_neg hc, if_neg hc]
      generalize pmQ σ k y = Q
      generalize σ 9 k * dmF σ k y / 360 = M
      apply i_ext
      rw [i_mn]
      split <;> split <;> omega
theorem ow_eq {σ : St} {n : Nat} {y : Int32} (hI : Inv σ n) (hy : 0 ≤ y.toInt ∧ y.toInt < 20) : owP σ n y 24 = omP σ y n := by
  have h1 : ∀ i, i ≤ n → owP σ n y i = omP σ y i := by
    intro i
    induction i with
    | zero => intro _; rfl
    | succ i ih =>
      intro h
      unfold owP omP
      rw [if_pos (by omega), ih (by omega), pt_eq hI (by omega) hy]
  have h2 : ∀ i, owP σ n y (n + i) = omP σ y n := by
    intro i
    induction i with
    | zero => exact h1 n (Nat.le_refl _)
    | succ i ih =>
      rw [← Nat.add_assoc]
      unfold owP
      rw [if_neg (by omega)]; exact ih
  have h3 := h2 (24 - n)
  rw [show n + (24 - n) = 24 by have := hI.1; omega] at h3
  exact h3
theorem dl_far {σ : St} {n : Nat} {u a b : Int32} (hn : n ≤ 24) : dlP σ n u a b 24 = dlP σ n u a b n := by
  have h2 : ∀ i, dlP σ n u a b (n + i) = dlP σ n u a b n := by
    intro i
    induction i with
    | zero => rfl
    | succ i ih =>
      rw [← Nat.add_assoc]
      show (if _ then _ else _) = _
      rw [if_neg (by omega)]; exact ih
  have h3 := h2 (24 - n)
  rw [show n + (24 - n) = 24 by omega] at h3
  exact h3
theorem vo_eq {σ : St} {n : Nat} {u y : Int32} (hI : Inv σ n) (hy : 0 ≤ y.toInt ∧ y.toInt < 20) : 360 - dlP σ n u (y * 360) (y * 360 + 360) 24 = vmP σ u y n := by
  rw [dl_far hI.1]
  have h1 : ∀ i, i ≤ n → 360 - dlP σ n u (y * 360) (y * 360 + 360) i = vmP σ u y i := by
    intro i
    induction i with
    | zero => intro _; exact Int32.sub_zero _
    | succ i ih =>
      intro h
      unfold dlP vmP
      by_cases hu : (σ 3 i).toInt = u.toInt
      · rw [if_pos ⟨by omega, hu⟩, if_pos hu, ← ih (by omega), show dwF σ i (y * 360) (y * 360 + 360) = dmF σ i y from di_eq (hI.2.2.2.1 i (by omega)) hy]
        simp only [Int32.sub_eq_add_neg, Int32.neg_add, Int32.add_assoc]
      · rw [if_neg (fun q => hu q.2), if_neg hu, ← ih (by omega), Int32.sub_zero]
  exact h1 n (Nat.le_refl _)
theorem il_iff {σ : St} {u f t : Int32} : ∀ i, (ilP σ u f t i).toInt ≠ 0 ↔ ∃ q, q < i ∧ (σ 3 q).toInt = u.toInt ∧ (σ 4 q).toInt < t.toInt ∧ f.toInt < (σ 5 q).toInt
  | 0 => ⟨fun h => absurd rfl h, fun ⟨q, h, _⟩ => absurd h (by omega)⟩
  | i + 1 => by
    have ih := il_iff (σ := σ) (u := u) (f := f) (t := t) i
    unfold ilP
    constructor
    · intro h
      split at h
      · rename_i hc
        rcases hc with hc | hc
        · obtain ⟨q, h1, h2⟩ := ih.mp hc
          exact ⟨q, by omega, h2⟩
        · exact ⟨i, by omega, hc⟩
      · exact absurd rfl h
    · rintro ⟨q, h1, h2⟩
      rw [if_pos]
      · decide
      · by_cases hq : q = i
        · subst hq; exact Or.inr h2
        · exact Or.inl (ih.mpr ⟨q, by omega, h2⟩)
theorem dl_iff {σ : St} {n : Nat} {u a b : Int32} (hI : Inv σ n) (ha : 0 ≤ a.toInt ∧ a.toInt < b.toInt) (hb : b.toInt ≤ 7200) : ∀ i, i ≤ n → (0 ≤ (dlP σ n u a b i).toInt ∧ (dlP σ n u a b i).toInt ≤ 7200 * i) ∧ (0 < (dlP σ n u a b i).toInt ↔ ∃ q, q < i ∧ (σ 3 q).toInt = u.toInt ∧ (σ 4 q).toInt < b.toInt ∧ a.toInt < (σ 5 q).toInt)
  | 0, _ => ⟨⟨by show 0 ≤ (0 : Int32).toInt; decide, by show (0 : Int32).toInt ≤ 7200 * 0; decide⟩, fun h => absurd h (by show ¬ 0 < (0 : Int32).toInt; decide), fun ⟨q, h, _⟩ => absurd h (by omega)⟩
  | i + 1, hi => by
    obtain ⟨⟨ih1, ih2⟩, ih3⟩ := dl_iff hI ha hb i (by omega) (u := u)
    have hn := hI.1
    have hL := hI.2.2.2.1 i (by omega)
    unfold dlP
    by_cases hu : (σ 3 i).toInt = u.toInt
    · rw [if_pos ⟨by omega, hu⟩]
      have hd := dw_int hL (a := a) (b := b) (by omega) (by omega)
      obtain ⟨-, ⟨h1, h2, h3⟩, -⟩ := hL
      generalize dwF σ i a b = D at hd ⊢
      have hD : (0 ≤ D.toInt ∧ D.toInt ≤ 7200) ∧ (0 < D.toInt ↔ (σ 4 i).toInt < b.toInt ∧ a.toInt < (σ 5 i).toInt) := by
        rw [hd]
        simp only
        (repeat' split) <;> omega
      rw [i_add (by omega)]
      refine ⟨by omega, ?_⟩
      constructor
      · intro h
        by_cases h5 : 0 < D.toInt
        · exact ⟨i, by omega, hu, hD.2.mp h5⟩
        · obtain ⟨q, h6, h7⟩ := ih3.mp (by omega)
          exact ⟨q, by omega, h7⟩
      · rintro ⟨q, h6, h7⟩
        by_cases hq : q = i
        · subst hq
          have := hD.2.mpr h7.2; omega
        · have := ih3.mpr ⟨q, by omega, h7⟩; omega
    · rw [if_neg (fun q => hu q.2)]
      refine ⟨by omega, ih3.trans ⟨fun ⟨q, h6, h7⟩ => ⟨q, by omega, h7⟩, fun ⟨q, h6, h7⟩ => ⟨q, ?_, h7⟩⟩⟩
      by_cases hq : q = i
      · subst hq; exact absurd h7.1 hu
      · omega
theorem let_eq {σ : St} {n : Nat} {p0 p1 p2 p3 : Int32} (hI : Inv σ n) : cdLet σ n p0 p1 p2 p3 = cdLetM σ n p0 p1 p2 p3 := by
  unfold cdLet cdLetM
  split
  · split
    · rename_i h0 h1
      have h2 := il_iff (σ := σ) (u := p0) (f := p1) (t := p2) n
      have h3 := (dl_iff hI (u := p0) (a := p1) (b := p2) (by omega) (by omega) n (Nat.le_refl _)).2
      rw [dl_far hI.1]
      have h4 : (24 ≤ n ∨ 0 < (dlP σ n p0 p1 p2 n).toInt) ↔ (n = 24 ∨ ¬ (ilP σ p0 p1 p2 n).toInt = 0) := by
        have := hI.1
        rw [h3, ← h2]
        constructor
        · rintro (h | h)
          · exact Or.inl (by omega)
          · exact Or.inr h
        · rintro (h | h)
          · exact Or.inl (by omega)
          · exact Or.inr h
      by_cases h5 : n = 24 ∨ ¬ (ilP σ p0 p1 p2 n).toInt = 0
      · rw [if_pos h5, if_pos (h4.mpr h5)]
      · rw [if_neg h5, if_neg (fun q => h5 (h4.mp q))]
    · rfl
  · rfl
theorem inv_let {σ : St} {n : Nat} {p0 p1 p2 p3 : Int32} (hI : Inv σ n) (h : cdLet σ n p0 p1 p2 p3 = 0) : Inv (ltS σ n p0 p1 p2 p3) (n + 1) := by
  rw [let_eq hI] at h
  unfold cdLetM at h
  split at h
  · rename_i h0
    split at h
    · rename_i h1
      split at h
      · exact absurd h (by decide)
      · rename_i h2
        have hil : ¬ ∃ q, q < n ∧ (σ 3 q).toInt = p0.toInt ∧ (σ 4 q).toInt < p2.toInt ∧ p1.toInt < (σ 5 q).toInt := fun q => h2 (Or.inr ((il_iff n).mpr q))
        obtain ⟨i1, i2, i3, i4, i5, i6⟩ := hI
        have hn : n < 24 := by omega
        have hz := i5 n (Nat.le_refl _) hn
        unfold ltS
        have g : ∀ a q, (q ≠ n ∨ (a ≠ 3 ∧ a ≠ 4 ∧ a ≠ 5 ∧ a ≠ 6 ∧ a ≠ 9)) → us (us (us (us (us σ 3 n p0) 4 n p1) 5 n p2) 6 n p3) 9 n (-1) a q = σ a q := fun a q hh => by
          rw [us_ne (by omega), us_ne (by omega), us_ne (by omega), us_ne (by omega), us_ne (by omega)]
        have g3 : us (us (us (us (us σ 3 n p0) 4 n p1) 5 n p2) 6 n p3) 9 n (-1) 3 n = p0 := by rw [us_ne (Or.inl (by decide)), us_ne (Or.inl (by decide)), us_ne (Or.inl (by decide)), us_ne (Or.inl (by decide)), us_eq]
        have g4 : us (us (us (us (us σ 3 n p0) 4 n p1) 5 n p2) 6 n p3) 9 n (-1) 4 n = p1 := by rw [us_ne (Or.inl (by decide)), us_ne (Or.inl (by decide)), us_ne (Or.inl (by decide)), us_eq]
        have g5 : us (us (us (us (us σ 3 n p0) 4 n p1) 5 n p2) 6 n p3) 9 n (-1) 5 n = p2 := by rw [us_ne (Or.inl (by decide)), us_ne (Or.inl (by decide)), us_eq]
        have g6 : us (us (us (us (us σ 3 n p0) 4 n p1) 5 n p2) 6 n p3) 9 n (-1) 6 n = p3 := by rw [us_ne (Or.inl (by decide)), us_eq]
        have g9 : us (us (us (us (us σ 3 n p0) 4 n p1) 5 n p2) 6 n p3) 9 n (-1) 9 n = -1 := us_eq
        have gr : ∀ q, rowF (us (us (us (us (us σ 3 n p0) 4 n p1) 5 n p2) 6 n p3) 9 n (-1)) 13 q = rowF σ 13 q := fun q => by
          rw [rowF_ne (Or.inl (by decide)), rowF_ne (Or.inl (by decide)), rowF_ne (Or.inl (by decide)), rowF_ne (Or.inl (by decide)), rowF_ne (Or.inl (by decide))]
        generalize us (us (us (us (us σ 3 n p0) 4 n p1) 5 n p2) 6 n p3) 9 n (-1) = σ' at *
        refine ⟨by omega, fun q hq => by rw [g 0 q (Or.inr (by decide))]; exact i2 q hq, fun q hq => by rw [g 1 q (Or.inr (by decide))]; exact i3 q hq, fun q hq => ?_, fun q q1 q2 => zeroL_c (fun b _ _ => g b q (Or.inl (by omega))) (fun b i hb _ => g b _ (Or.inr (by omega))) (i5 q (by omega) q2), fun a b ha hb hne => ?_⟩
        · by_cases hq2 : q = n
          · subst hq2
            obtain ⟨z7, z8, z10, z11, z12, -⟩ := hz
            have g7 : σ' 7 q = 0 := (g 7 q (Or.inr (by decide))).trans z7
            have g8 : σ' 8 q = 0 := (g 8 q (Or.inr (by decide))).trans z8
            have g10 : σ' 10 q = 0 := (g 10 q (Or.inr (by decide))).trans z10
            have g12 : σ' 12 q = 0 := (g 12 q (Or.inr (by decide))).trans z12
            unfold okL okS stN
            rw [g3, g4, g5, g6, g7, g8, g9, g10, g12]
            refine ⟨h0, ⟨h1.1.1, h1.2.1, h1.2.2.1⟩, h1.2.2.2, by decide, Or.inl rfl, by decide, by decide, by decide, fun i hi => absurd hi (by show ¬ i < 0; omega)⟩
          · exact okL_c (fun b _ _ _ => g b q (Or.inl hq2)) (gr q) (i4 q (by omega))
        · unfold Dj
          by_cases ha2 : a = n
          · subst ha2
            rw [g3, g4, g5, g 3 b (Or.inl (by omega)), g 4 b (Or.inl (by omega)), g 5 b (Or.inl (by omega))]
            intro e
            by_cases h7 : (σ 4 b).toInt < p2.toInt ∧ p1.toInt < (σ 5 b).toInt
            · exact absurd ⟨b, by omega, e.symm, h7⟩ hil
            · omega
          · by_cases hb2 : b = n
            · subst hb2
              rw [g3, g4, g5, g 3 a (Or.inl (by omega)), g 4 a (Or.inl (by omega)), g 5 a (Or.inl (by omega))]
              intro e
              by_cases h7 : (σ 4 a).toInt < p2.toInt ∧ p1.toInt < (σ 5 a).toInt
              · exact absurd ⟨a, by omega, e, h7⟩ hil
              · omega
            · rw [g 3 a (Or.inl ha2), g 4 a (Or.inl ha2), g 5 a (Or.inl ha2), g 3 b (Or.inl hb2), g 4 b (Or.inl hb2), g 5 b (Or.inl hb2)]
              exact i6 a b (by omega) (by omega) hne
    · exact absurd h (by decide)
  · exact absurd h (by decide)
/-- whose day it is: the first place of the class, the last of the reference: there is one at most -/
theorem ln_eq {σ : St} {n : Nat} {u d : Int32} (hI : Inv σ n) : lnG σ n u d 24 0 = fmP σ u d n := by
  have h1 : ∀ i, i ≤ n → fmP σ u d i = -1 ∧ (∀ q, q < i → ¬ ((σ 3 q).toInt = u.toInt ∧ rOn σ q d)) ∨ ∃ q, q < i ∧ ((σ 3 q).toInt = u.toInt ∧ rOn σ q d) ∧ fmP σ u d i = nI q := by
    intro i
    induction i with
    | zero => intro _; exact Or.inl ⟨rfl, fun q h => absurd h (by omega)⟩
    | succ i ih =>
      intro hi
      unfold fmP
      by_cases h : (σ 3 i).toInt = u.toInt ∧ rOn σ i d
      · rw [if_pos h]; exact Or.inr ⟨i, by omega, h, rfl⟩
      · rw [if_neg h]
        rcases ih (by omega) with ⟨e, h2⟩ | ⟨q, h2, h3, e⟩
        · refine Or.inl ⟨e, fun q hq => ?_⟩
          by_cases hqi : q = i
          · subst hqi; exact h
          · exact h2 q (by omega)
        · exact Or.inr ⟨q, by omega, h3, e⟩
  have h2 : ∀ f i, i + f = 24 → lnG σ n u d f i = -1 ∧ (∀ q, i ≤ q → q < n → ¬ ((σ 3 q).toInt = u.toInt ∧ rOn σ q d)) ∨ ∃ q, i ≤ q ∧ q < n ∧ ((σ 3 q).toInt = u.toInt ∧ rOn σ q d) ∧ lnG σ n u d f i = nI q := by
    intro f
    induction f with
    | zero => intro i hi; exact Or.inl ⟨rfl, fun q h h' => absurd h (by have := hI.1; omega)⟩
    | succ f ih =>
      intro i hi
      unfold lnG
      by_cases h : (i < n ∧ (σ 3 i).toInt = u.toInt) ∧ rOn σ i d
      · rw [if_pos h]; exact Or.inr ⟨i, Nat.le_refl _, h.1.1, ⟨h.1.2, h.2⟩, rfl⟩
      · rw [if_neg h]
        rcases ih (i + 1) (by omega) with ⟨e, h2⟩ | ⟨q, h2, h3, h4, e⟩
        · refine Or.inl ⟨e, fun q hq hqn hh => ?_⟩
          by_cases hqi : q = i
          · subst hqi; exact h ⟨⟨hqn, hh.1⟩, hh.2⟩
          · exact h2 q (by omega) hqn hh
        · exact Or.inr ⟨q, by omega, h3, h4, e⟩
  rcases h1 n (Nat.le_refl _) with ⟨e1, a1⟩ | ⟨q1, b1, c1, e1⟩
  · rcases h2 24 0 rfl with ⟨e2, a2⟩ | ⟨q2, a2, b2, c2, e2⟩
    · rw [e1, e2]
    · exact absurd c2 (a1 q2 b2)
  · rcases h2 24 0 rfl with ⟨e2, a2⟩ | ⟨q2, a2, b2, c2, e2⟩
    · exact absurd c1 (a2 q1 (Nat.zero_le _) b1)
    · by_cases hq : q1 = q2
      · rw [e1, e2, hq]
      · have hj := hI.2.2.2.2.2 q1 q2 b1 b2 hq (c1.1.trans c2.1.symm)
        have w1 := c1.2
        have w2 := c2.2
        unfold rOn at w1 w2
        omega
end
section
/-! rents and bills -/
theorem ag_eq {σ : St} {k : Nat} {d : Int32} (hL : okL σ k) : acF σ k d = amF σ k d := by
  have h9 := hL.2.2.2.2.2.2.2.2
  have h4 := hL.2.1
  have h : ∀ i, i ≤ stN σ k → agC σ k d i = agM σ k d i ∨ (agC σ k d i = (σ 6 k, σ 4 k) ∧ agM σ k d i = (σ 6 k, -1)) := by
    intro i
    induction i with
    | zero => intro _; exact Or.inr ⟨rfl, rfl⟩
    | succ i ih =>
      intro hi
      have hr := h9 i (by omega)
      unfold agC agM
      rcases ih (by omega) with e | ⟨e1, e2⟩
      · rw [e]; exact Or.inl rfl
      · rw [e1, e2]
        have hm : (-1 : Int32).toInt = -1 := rfl
        by_cases h1 : (rowF σ 13 k i).toInt ≤ d.toInt
        · rw [if_pos ⟨h1, hr.1⟩, if_pos ⟨h1, by show (-1 : Int32).toInt < _; omega⟩]; exact Or.inl rfl
        · rw [if_neg (fun q => h1 q.1), if_neg (fun q => h1 q.1)]; exact Or.inr ⟨rfl, rfl⟩
  unfold acF amF
  rcases h (stN σ k) (Nat.le_refl _) with e | ⟨e1, e2⟩
  · rw [e]
  · rw [e1, e2]
/-- how many reviews have come by d -/
theorem rv_int {σ : St} {k : Nat} {d : Int32} (hL : okL σ k) (h8 : 0 < (σ 8 k).toInt) (hd : (σ 4 k).toInt ≤ d.toInt ∧ d.toInt < 7300) : (rvF σ k d).toInt = (d.toInt - (σ 4 k).toInt) / (σ 8 k).toInt := by
  obtain ⟨-, ⟨h1, h2, h3⟩, -⟩ := hL
  unfold rvF
  by_cases h : (σ 4 k).toInt < d.toInt
  · rw [if_pos ⟨h8, h⟩, i_div (by omega), i_sub (by omega)]
    exact Int.tdiv_eq_ediv_of_nonneg (by omega)
  · rw [if_neg (fun q => h q.2), show d.toInt - (σ 4 k).toInt = 0 by omega, Int.zero_ediv]; rfl
theorem hi_eq {σ : St} {n k : Nat} {d : Int32} (hI : Inv σ n) (hk : k < n) (hd : (σ 4 k).toInt ≤ d.toInt ∧ d.toInt < 7200) : hxF σ k d = gmF σ k d := by
  have hL := hI.2.2.2.1 k hk
  unfold hxF gmF
  have h4 := hL.2.1
  have h8 := hL.2.2.2.2.1
  have h : ∀ i, i ≤ (rvF σ k d).toInt.toNat → hiP σ k i = giP σ k i := by
    intro i
    induction i with
    | zero => intro _; rfl
    | succ i ih =>
      intro hi
      unfold hiP giP
      rw [ih (by omega)]
      have h8p : 0 < (σ 8 k).toInt := by
        by_cases h0 : 0 < (σ 8 k).toInt
        · exact h0
        · exfalso
          have : rvF σ k d = 0 := if_neg (fun q => h0 q.1)
          rw [this] at hi
          exact absurd hi (by show ¬ i + 1 ≤ 0; omega)
      have hrv := rv_int hL h8p (d := d) (by omega)
      have hb := (rv_b (d := d) hL (by omega))
      have hmul : ((i + 1 : Nat) : Int) * (σ 8 k).toInt ≤ d.toInt - (σ 4 k).toInt := by
        have h1 : ((i + 1 : Nat) : Int) ≤ (d.toInt - (σ 4 k).toInt) / (σ 8 k).toInt := by rw [← hrv]; omega
        exact Int.le_trans (Int.mul_le_mul_of_nonneg_right h1 (by omega)) (Int.ediv_mul_le _ (by omega))
      have hm0 : 0 ≤ ((i + 1 : Nat) : Int) * (σ 8 k).toInt := Int.mul_nonneg (by omega) (by omega)
      have e1 : (nI (i + 1) * σ 8 k).toInt = ((i + 1 : Nat) : Int) * (σ 8 k).toInt := i_mulc' (by omega) (by omega)
      have e2 : (σ 4 k + nI (i + 1) * σ 8 k).toInt = (σ 4 k).toInt + ((i + 1 : Nat) : Int) * (σ 8 k).toInt := by rw [i_add (by rw [e1]; omega), e1]
      rw [show vaF (σ 1) 240 ((σ 4 k + nI (i + 1) * σ 8 k) / 30) = σ 1 (ix ((σ 4 k + nI (i + 1) * σ 8 k) / 30)) from if_pos (d30 (by rw [e2]; omega) (by rw [e2]; omega))]
  exact h _ (Nat.le_refl _)
theorem rf_eq {σ : St} {n k : Nat} (hI : Inv σ n) (hk : k < n) (d : Int32) : rfF σ k d = rmF σ k d := by
  have hL := hI.2.2.2.1 k hk
  have hX := ok_ix hL
  unfold rfF rmF
  by_cases h : rOn σ k d ∧ ¬ fOn σ k d
  · rw [if_pos h, if_pos h, show vaF (σ 1) 240 (σ 4 k / 30) = σ 1 (ix (σ 4 k / 30)) from if_pos hX, ag_eq hL]
    have h4 := hL.2.1
    have h1 := h.1
    unfold rOn at h1
    rw [hi_eq hI hk ⟨h1.1, by omega⟩, if_pos (by have := (hI.2.2.1 (ix (σ 4 k / 30)) (ix_lt hX)).1; omega)]
  · rw [if_neg h, if_neg h]
theorem bd_eq {σ : St} {n k : Nat} {m : Int32} (hI : Inv σ n) (hk : k < n) : ∀ i, bdP σ k m i = bmP σ k m i
  | 0 => rfl
  | i + 1 => by
    unfold bdP bmP
    rw [bd_eq hI hk i, rf_eq hI hk, Int32.mul_comm m 30]
theorem bd_eq' {σ : St} {n k : Nat} {m : Int32} (hI : Inv σ n) (hk : k < n) : bdP σ k m 30 / 30 = bmF σ k m := by rw [bd_eq hI hk]
/-! turns: the rent is one from d up to the next turn -/
theorem so_le {d x t : Int32} : (soF d x t).toInt ≤ t.toInt := by unfold soF; split <;> omega
theorem so_np {d x t : Int32} {T : Int} (h : T ≤ (soF d x t).toInt) : ¬ (d.toInt < x.toInt ∧ x.toInt < T) := by
  unfold soF at h
  split at h <;> omega
theorem nt_np {σ : St} {k : Nat} {d : Int32} {T : Int} : ∀ i, T ≤ (ntP σ k d i).toInt → T ≤ 7200 ∧ ¬ (d.toInt < (σ 4 k).toInt ∧ (σ 4 k).toInt < T) ∧ ¬ (d.toInt < (σ 4 k + σ 7 k).toInt ∧ (σ 4 k + σ 7 k).toInt < T) ∧ ¬ (d.toInt < (σ 5 k).toInt ∧ (σ 5 k).toInt < T) ∧ ∀ q, q < i → ¬ (d.toInt < (rowF σ 13 k q).toInt ∧ (rowF σ 13 k q).toInt < T)
  | 0, h => by
    unfold ntP at h
    have h1 := Int.le_trans h so_le
    have h2 := Int.le_trans h1 so_le
    have h3 := Int.le_trans h2 so_le
    have h7 : (7200 : Int32).toInt = 7200 := rfl
    exact ⟨by omega, so_np h2, so_np h1, so_np h, fun q hq => absurd hq (by omega)⟩
  | i + 1, h => by
    unfold ntP at h
    obtain ⟨a1, a2, a3, a4, a5⟩ := nt_np i (Int.le_trans h so_le)
    refine ⟨a1, a2, a3, a4, fun q hq => ?_⟩
    by_cases hqi : q = i
    · subst hqi; exact so_np h
    · exact a5 q (by omega)
theorem ag_c {σ : St} {k : Nat} {d t : Int32} : ∀ i, (∀ q, q < i → ((rowF σ 13 k q).toInt ≤ t.toInt ↔ (rowF σ 13 k q).toInt ≤ d.toInt)) → agC σ k t i = agC σ k d i
  | 0, _ => rfl
  | i + 1, h => by
    unfold agC
    rw [ag_c i (fun q hq => h q (by omega))]
    by_cases h1 : (rowF σ 13 k i).toInt ≤ d.toInt ∧ (agC σ k d i).2.toInt < (rowF σ 13 k i).toInt
    · rw [if_pos h1, if_pos ⟨(h i (by omega)).mpr h1.1, h1.2⟩]
    · rw [if_neg h1, if_neg (fun q => h1 ⟨(h i (by omega)).mp q.1, q.2⟩)]
theorem rf_const {σ : St} {k : Nat} {d t : Int32} (hL : okL σ k) (h1 : d.toInt ≤ t.toInt) (h2 : t.toInt < (ntF σ k d).toInt) : rfF σ k t = rfF σ k d := by
  have hT : (ntF σ k d).toInt ≤ (ntP σ k d (stN σ k)).toInt := by
    unfold ntF; split
    · exact so_le
    · exact Int.le_refl _
  obtain ⟨a1, a2, a3, a4, a5⟩ := nt_np _ hT
  have hL' := hL
  obtain ⟨-, ⟨b1, b2, b3⟩, -, b4, b5, -⟩ := hL'
  by_cases hr : rOn σ k d
  · have hr' := hr
    unfold rOn at hr'
    have hrt : rOn σ k t := ⟨by omega, by omega⟩
    have hf : fOn σ k t ↔ fOn σ k d := by unfold fOn; omega
    have hag : acF σ k t = acF σ k d := by
      unfold acF
      rw [ag_c _ (fun q hq => ?_)]
      have := a5 q hq
      omega
    have hrv : rvF σ k t = rvF σ k d := by
      by_cases h8 : 0 < (σ 8 k).toInt
      · apply i_ext
        have hb := rv_b (d := d) hL (by omega)
        have hd := rv_int hL h8 (d := d) (by omega)
        rw [rv_int hL h8 (d := t) (by omega)]
        have hN : ¬ (d.toInt < (σ 4 k + (rvF σ k d + 1) * σ 8 k).toInt ∧ (σ 4 k + (rvF σ k d + 1) * σ 8 k).toInt < (ntF σ k d).toInt) := by
          have hz : ntF σ k d = soF d (σ 4 k + (rvF σ k d + 1) * σ 8 k) (ntP σ k d (stN σ k)) := if_pos h8
          rw [hz]; exact so_np (Int.le_refl _)
        have c1 : (d.toInt - (σ 4 k).toInt) / (σ 8 k).toInt * (σ 8 k).toInt ≤ d.toInt - (σ 4 k).toInt := Int.ediv_mul_le _ (by omega)
        have c2 : d.toInt - (σ 4 k).toInt < ((d.toInt - (σ 4 k).toInt) / (σ 8 k).toInt + 1) * (σ 8 k).toInt := Int.lt_ediv_add_one_mul_self _ h8
        rw [← hd] at c1 c2
        have c3 : ((rvF σ k d).toInt + 1) * (σ 8 k).toInt = (rvF σ k d).toInt * (σ 8 k).toInt + (σ 8 k).toInt := by rw [Int.add_mul, Int.one_mul]
        have e0 : (rvF σ k d + 1).toInt = (rvF σ k d).toInt + 1 := i_add1 (by omega)
        have hnn : 0 ≤ (rvF σ k d).toInt * (σ 8 k).toInt := Int.mul_nonneg hb.1 (by omega)
        have e1 : ((rvF σ k d + 1) * σ 8 k).toInt = ((rvF σ k d).toInt + 1) * (σ 8 k).toInt := by rw [i_mul (by rw [e0]; omega), e0]
        have e2 : (σ 4 k + (rvF σ k d + 1) * σ 8 k).toInt = (σ 4 k).toInt + ((rvF σ k d).toInt + 1) * (σ 8 k).toInt := by rw [i_add (by rw [e1]; omega), e1]
        rw [e2] at hN
        have u1 : (t.toInt - (σ 4 k).toInt) / (σ 8 k).toInt < (rvF σ k d).toInt + 1 := Int.ediv_lt_of_lt_mul h8 (by omega)
        have u2 : (rvF σ k d).toInt ≤ (t.toInt - (σ 4 k).toInt) / (σ 8 k).toInt := Int.le_ediv_of_mul_le h8 (by omega)
        omega
      · unfold rvF
        rw [if_neg (fun q => h8 q.1), if_neg (fun q => h8 q.1)]
    have hhx : hxF σ k t = hxF σ k d := by unfold hxF; rw [hrv]
    unfold rfF
    rw [hag, hhx]
    by_cases hfd : fOn σ k d
    · rw [if_neg (c := rOn σ k t ∧ ¬ fOn σ k t) (fun q => q.2 (hf.mpr hfd)), if_neg (c := rOn σ k d ∧ ¬ fOn σ k d) (fun q => q.2 hfd)]
    · rw [if_pos (c := rOn σ k t ∧ ¬ fOn σ k t) ⟨hrt, fun q => hfd (hf.mp q)⟩, if_pos (c := rOn σ k d ∧ ¬ fOn σ k d) ⟨hr, hfd⟩]
  · have hrt : ¬ rOn σ k t := by
      unfold rOn at hr ⊢
      omega
    unfold rfF
    rw [if_neg (c := rOn σ k t ∧ ¬ fOn σ k t) (fun q => hrt q.1), if_neg (c := rOn σ k d ∧ ¬ fOn σ k d) (fun q => hr q.1)]
theorem rm_const {σ : St} {n k : Nat} {d t : Int32} (hI : Inv σ n) (hk : k < n) (h1 : d.toInt ≤ t.toInt) (h2 : t.toInt < (ntF σ k d).toInt) : rmF σ k t = rmF σ k d := by
  rw [← rf_eq hI hk, ← rf_eq hI hk]; exact rf_const (hI.2.2.2.1 k hk) h1 h2
/-! the bill by turns is the bill by days -/
theorem bm_run {σ : St} {k j : Nat} {m R : Int32} : ∀ c, (∀ q, j ≤ q → q < j + c → rmF σ k (30 * m + nI q) = R) → bmP σ k m (j + c) = bmP σ k m j + nI c * R
  | 0, _ => by
    show bmP σ k m j = _
    rw [show nI 0 = 0 from rfl, Int32.zero_mul, Int32.add_zero]
  | c + 1, h => by
    show bmP σ k m (j + c) + rmF σ k (30 * m + nI (j + c)) = _
    rw [bm_run c (fun q h1 h2 => h q h1 (by omega)), h (j + c) (by omega) (by omega), ← nI_1, Int32.add_mul, Int32.one_mul, Int32.add_assoc]
theorem bf_eq {σ : St} {n k : Nat} {m : Int32} (hI : Inv σ n) (hk : k < n) (hm : 0 ≤ m.toInt ∧ m.toInt < 240) : bfF σ k m = bmF σ k m := by
  have hL := hI.2.2.2.1 k hk
  have h30 : (30 : Int32).toInt = 30 := rfl
  have eA : (m * 30).toInt = 30 * m.toInt := by rw [i_mul (by rw [h30]; omega), h30]; omega
  have eB : (m * 30 + 30).toInt = 30 * m.toInt + 30 := by rw [i_add (by rw [eA, h30]; omega), eA, h30]
  have eJ : ∀ j, j ≤ 30 → (m * 30 + nI j).toInt = 30 * m.toInt + j := fun j hj => by rw [i_add (by rw [eA, i_nI (by omega)]; omega), eA, i_nI (by omega)]
  have h : ∀ i, ∃ j, j ≤ 30 ∧ (i ≤ j ∨ j = 30) ∧ bfP σ k m i = (m * 30 + nI j, bmP σ k m j) := by
    intro i
    induction i with
    | zero => exact ⟨0, by decide, Or.inl (Nat.le_refl _), by unfold bfP bmP; rw [show nI 0 = 0 from rfl, Int32.add_zero]⟩
    | succ i ih =>
      obtain ⟨j, h1, h2, e⟩ := ih
      unfold bfP
      rw [e]
      simp only
      by_cases hj : j = 30
      · subst hj
        rw [if_neg (by rw [eB, eJ 30 (by decide)]; omega)]
        exact ⟨30, by decide, Or.inr rfl, rfl⟩
      · have ej := eJ j h1
        rw [if_pos (by rw [eB, ej]; omega)]
        have hgt := nt_gt (σ := σ) (k := k) (d := m * 30 + nI j) (by rw [ej]; omega)
        have hN : (mnF (ntF σ k (m * 30 + nI j)) (m * 30 + 30)).toInt ≤ (ntF σ k (m * 30 + nI j)).toInt ∧ (m * 30 + nI j).toInt < (mnF (ntF σ k (m * 30 + nI j)) (m * 30 + 30)).toInt ∧ (mnF (ntF σ k (m * 30 + nI j)) (m * 30 + 30)).toInt ≤ 30 * m.toInt + 30 := by
          rw [i_mn, eB]
          rw [ej] at hgt ⊢
          split <;> omega
        generalize mnF (ntF σ k (m * 30 + nI j)) (m * 30 + 30) = t at hN ⊢
        obtain ⟨n1, n2, n3⟩ := hN
        rw [ej] at n2
        obtain ⟨c, hc⟩ : ∃ c : Nat, t.toInt = 30 * m.toInt + j + c := ⟨(t.toInt - (30 * m.toInt + j)).toNat, by omega⟩
        have et : t = m * 30 + nI (j + c) := i_ext (by rw [eJ _ (by omega)]; omega)
        have ed : t - (m * 30 + nI j) = nI c := i_ext (by rw [i_sub (by rw [ej]; omega), ej, i_nI (by omega)]; omega)
        refine ⟨j + c, by omega, by omega, ?_⟩
        rw [ed, et, bm_run (R := rfF σ k (m * 30 + nI j)) c (fun q h1 h2 => ?_)]
        rw [Int32.mul_comm 30 m, ← rf_eq hI hk]
        exact rf_const hL (by rw [ej, eJ q (by omega)]; omega) (by rw [eJ q (by omega)]; omega)
  obtain ⟨j, h1, h2, e⟩ := h 30
  unfold bfF bmF
  rw [e]
  rw [show j = 30 by omega]
theorem bs_eq {σ : St} {n k : Nat} {f : Int32} (hI : Inv σ n) (hk : k < n) (hf : 0 ≤ f.toInt) : ∀ i : Nat, f.toInt + i ≤ 240 → bsP σ k f i = bmS σ k f i
  | 0, _ => rfl
  | i + 1, h => by
    unfold bsP bmS
    have e : (f + nI i).toInt = f.toInt + i := by rw [i_add (by rw [i_nI (by omega)]; omega), i_nI (by omega)]
    rw [bs_eq hI hk hf i (by omega), bf_eq hI hk (by rw [e]; omega)]
/-! the next change of the rent -/
/-- the first day from t on whose rent is not b -/
def fcG (σ : St) (k : Nat) (b : Int32) : Nat → Int32 → Int32
  | 0, _ => -1
  | f + 1, t => if t.toInt < 7200 then (if rmF σ k t = b then fcG σ k b f (t + 1) else t) else -1
theorem fc_more {σ : St} {k : Nat} {b : Int32} : ∀ (f g : Nat) (t : Int32), 7200 ≤ t.toInt + f → 7200 ≤ t.toInt + g → 0 ≤ t.toInt → fcG σ k b f t = fcG σ k b g t
  | 0, 0, _, _, _, _ => rfl
  | 0, g + 1, t, h1, _, h0 => by unfold fcG; rw [if_neg (by omega)]
  | f + 1, 0, t, _, h2, h0 => by unfold fcG; rw [if_neg (by omega)]
  | f + 1, g + 1, t, h1, h2, h0 => by
    unfold fcG
    by_cases h : t.toInt < 7200
    · rw [if_pos h, if_pos h]
      have e := i_add1 (x := t) (by omega)
      rw [fc_more f g (t + 1) (by omega) (by omega) (by omega)]
    · rw [if_neg h, if_neg h]
/-- a run of days with the rent b is passed over -/
theorem fc_skip {σ : St} {k : Nat} {b : Int32} : ∀ (c f : Nat) (t u : Int32), 0 ≤ t.toInt → t.toInt ≤ 7200 → u.toInt = t.toInt + c → u.toInt ≤ 7200 → (∀ z : Int32, t.toInt ≤ z.toInt → z.toInt < u.toInt → rmF σ k z = b) → 7200 ≤ t.toInt + f → fcG σ k b f t = fcG σ k b f u
  | 0, f, t, u, _, _, h, _, _, _ => by rw [show u = t from i_ext (by omega)]
  | c + 1, 0, t, u, h0, h1, h, h2, h3, h4 => by omega
  | c + 1, f + 1, t, u, h0, h1, h, h2, h3, h4 => by
    have e := i_add1 (x := t) (by omega)
    have hs : fcG σ k b (f + 1) t = fcG σ k b f (t + 1) := by
      show (if _ then (if _ then _ else _) else _) = _
      rw [if_pos (by omega), if_pos (h3 t (Int.le_refl _) (by omega))]
    rw [hs, fc_skip c f (t + 1) u (by omega) (by omega) (by omega) h2 (fun z z1 z2 => h3 z (by omega) z2) (by omega)]
    exact fc_more _ _ _ (by omega) (by omega) (by omega)
theorem nt_le {σ : St} {k : Nat} {d : Int32} : (ntF σ k d).toInt ≤ 7200 := by
  have hT : (ntF σ k d).toInt ≤ (ntP σ k d (stN σ k)).toInt := by
    unfold ntF; split
    · exact so_le
    · exact Int.le_refl _
  exact (nt_np _ hT).1
theorem nc_fc {σ : St} {n k : Nat} {b : Int32} (hI : Inv σ n) (hk : k < n) : ∀ (f : Nat) (t g : Int32), 0 ≤ g.toInt → g.toInt < 7200 → t = ntF σ k g → rmF σ k g = b → 7200 ≤ t.toInt + f → ncG σ k f t = fcG σ k b 7200 t
  | 0, t, g, h0, h1, ht, hb, hf => by
    have h7 := nt_le (σ := σ) (k := k) (d := g)
    have h8 := nt_gt (σ := σ) (k := k) (d := g) h1
    unfold ncG fcG
    rw [if_neg (by omega)]
  | f + 1, t, g, h0, h1, ht, hb, hf => by
    have h7 := nt_le (σ := σ) (k := k) (d := g)
    have h8 := nt_gt (σ := σ) (k := k) (d := g) h1
    rw [← ht] at h7 h8
    unfold ncG
    by_cases h : t.toInt < 7200
    · rw [if_pos h]
      have e1 : (t - 1).toInt = t.toInt - 1 := i_sub1 (by omega)
      have hp : rmF σ k (t - 1) = b := by rw [← hb]; exact rm_const hI hk (by omega) (by rw [← ht]; omega)
      rw [rf_eq hI hk, rf_eq hI hk, hp]
      by_cases hc : (rmF σ k t).toInt = b.toInt
      · rw [if_pos hc]
        have hc' : rmF σ k t = b := i_ext hc
        have h9 := nt_gt (σ := σ) (k := k) (d := t) h
        have h10 := nt_le (σ := σ) (k := k) (d := t)
        rw [nc_fc hI hk f (ntF σ k t) t (by omega) h rfl hc' (by omega)]
        exact (fc_skip ((ntF σ k t).toInt - t.toInt).toNat 7200 t (ntF σ k t) (by omega) (by omega) (by omega) h10 (fun z z1 z2 => (rm_const hI hk z1 z2).trans hc') (by omega)).symm
      · rw [if_neg hc]
        show _ = (if _ then (if _ then _ else _) else _)
        rw [if_pos h, if_neg (fun q => hc (by rw [q]))]
    · rw [if_neg h]
      show _ = (if _ then (if _ then _ else _) else _)
      rw [if_neg h]
theorem nm_fc {σ : St} {n k : Nat} {b : Int32} (hI : Inv σ n) (hk : k < n) : ∀ (f : Nat) (t : Int32), 0 ≤ t.toInt → (((σ 5 k).toInt < t.toInt → b = 0)) → 7200 ≤ t.toInt + f → nmG σ k b f t = fcG σ k b f t
  | 0, t, h0, hb, hf => rfl
  | f + 1, t, h0, hb, hf => by
    unfold nmG
    have hz : ∀ z : Int32, (σ 5 k).toInt ≤ z.toInt → rmF σ k z = 0 := fun z hz => if_neg (fun q => by have := q.1; unfold rOn at this; omega)
    by_cases h : t.toInt < 7200
    · by_cases ht : t.toInt ≤ (σ 5 k).toInt
      · rw [if_pos ⟨h, ht⟩]
        show _ = (if _ then (if _ then _ else _) else _)
        rw [if_pos h]
        have e := i_add1 (x := t) (by omega)
        by_cases hc : rmF σ k t = b
        · rw [if_pos (by rw [hc]), if_pos hc]
          exact nm_fc hI hk f (t + 1) (by omega) (fun q => by rw [← hc]; exact hz t (by omega)) (by omega)
        · rw [if_neg (fun q => hc (i_ext q)), if_neg hc]
      · rw [if_neg (fun q => ht q.2)]
        have hb0 := hb (by omega)
        rw [fc_skip (7200 - t.toInt).toNat (f + 1) t 7200 h0 (by omega) (by show (7200 : Int) = _; omega) (by decide) (fun z z1 _ => by rw [hb0]; exact hz z (by omega)) (by omega)]
        rfl
    · rw [if_neg (fun q => h q.1)]
      show _ = (if _ then (if _ then _ else _) else _)
      rw [if_neg h]
theorem nc_eq {σ : St} {n k : Nat} {d : Int32} (hI : Inv σ n) (hk : k < n) (hd : 0 ≤ d.toInt ∧ d.toInt < 7200) : ncG σ k 7200 (ntF σ k d) = nmG σ k (rmF σ k d) 7300 (d + 1) := by
  have h7 := nt_le (σ := σ) (k := k) (d := d)
  have h8 := nt_gt (σ := σ) (k := k) (d := d) hd.2
  have e := i_add1 (x := d) (by omega)
  have hL := hI.2.2.2.1 k hk
  rw [nc_fc hI hk 7200 (ntF σ k d) d hd.1 hd.2 rfl rfl (by omega), nm_fc (b := rmF σ k d) hI hk 7300 (d + 1) (by omega) (fun q => by unfold rmF; exact if_neg (fun w => by have := w.1; unfold rOn at this; omega)) (by omega)]
  rw [fc_more 7200 7300 (ntF σ k d) (by omega) (by omega) (by omega)]
  exact (fc_skip ((ntF σ k d).toInt - (d.toInt + 1)).toNat 7300 (d + 1) (ntF σ k d) (by omega) (by omega) (by omega) h7 (fun z z1 z2 => rm_const hI hk (by omega) z2) (by omega)).symm
end
section
/-! years: the days of the leases of a unit, the parts and the owner's part -/
/-- the days of lease k from a on, D of them, as a whole number -/
def wdD (σ : St) (k : Nat) (a D : Int) : Int := if (if (σ 4 k).toInt < a then a else (σ 4 k).toInt) < (if a + D < (σ 5 k).toInt then a + D else (σ 5 k).toInt) then (if a + D < (σ 5 k).toInt then a + D else (σ 5 k).toInt) - (if (σ 4 k).toInt < a then a else (σ 4 k).toInt) else 0
theorem wd_step {σ : St} {k : Nat} {a D : Int} (h : (σ 4 k).toInt < (σ 5 k).toInt) (hD : 0 ≤ D) : wdD σ k a (D + 1) = wdD σ k a D + (if (σ 4 k).toInt ≤ a + D ∧ a + D < (σ 5 k).toInt then 1 else 0) := by
  unfold wdD
  (repeat' split) <;> omega
theorem wd_0 {σ : St} {k : Nat} {a : Int} (h : (σ 4 k).toInt < (σ 5 k).toInt) : wdD σ k a 0 = 0 := by
  unfold wdD
  (repeat' split) <;> omega
theorem wd_nn {σ : St} {k : Nat} {a D : Int} (hD : 0 ≤ D) : 0 ≤ wdD σ k a D ∧ wdD σ k a D ≤ D := by
  unfold wdD
  (repeat' split) <;> omega
/-- the days that the first i leases have of unit u -/
def wdS (σ : St) (u a D : Int) : Nat → Int
  | 0 => 0
  | i + 1 => if (σ 3 i).toInt = u then wdS σ u a D i + wdD σ i a D else wdS σ u a D i
theorem ws_step {σ : St} {n : Nat} {u a D : Int} (hI : Inv σ n) (hD : 0 ≤ D) : ∀ i, i ≤ n → (wdS σ u a (D + 1) i = wdS σ u a D i ∧ ∀ q, q < i → (σ 3 q).toInt = u → ¬ ((σ 4 q).toInt ≤ a + D ∧ a + D < (σ 5 q).toInt)) ∨ (wdS σ u a (D + 1) i = wdS σ u a D i + 1 ∧ ∃ q, q < i ∧ (σ 3 q).toInt = u ∧ ((σ 4 q).toInt ≤ a + D ∧ a + D < (σ 5 q).toInt))
  | 0, _ => Or.inl ⟨rfl, fun q h => absurd h (by omega)⟩
  | i + 1, hi => by
    have ih := ws_step hI hD i (by omega) (u := u) (a := a)
    have hL := hI.2.2.2.1 i (by omega)
    have hst := wd_step (a := a) hL.2.1.2.1 hD
    unfold wdS
    by_cases hu : (σ 3 i).toInt = u
    · rw [if_pos hu, if_pos hu]
      by_cases hd : (σ 4 i).toInt ≤ a + D ∧ a + D < (σ 5 i).toInt
      · rw [if_pos hd] at hst
        rcases ih with ⟨e, h⟩ | ⟨e, q, h1, h2, h3⟩
        · exact Or.inr ⟨by omega, i, by omega, hu, hd⟩
        · exfalso
          have := hI.2.2.2.2.2 q i (by omega) (by omega) (by omega) (h2.trans hu.symm)
          omega
      · rw [if_neg hd] at hst
        rcases ih with ⟨e, h⟩ | ⟨e, q, h1, h2, h3⟩
        · refine Or.inl ⟨by omega, fun q hq hqu => ?_⟩
          by_cases hqi : q = i
          · subst hqi; exact hd
          · exact h q (by omega) hqu
        · exact Or.inr ⟨by omega, q, by omega, h2, h3⟩
    · rw [if_neg hu, if_neg hu]
      rcases ih with ⟨e, h⟩ | ⟨e, q, h1, h2, h3⟩
      · refine Or.inl ⟨e, fun q hq hqu => ?_⟩
        by_cases hqi : q = i
        · subst hqi; exact absurd hqu hu
        · exact h q (by omega) hqu
      · exact Or.inr ⟨e, q, by omega, h2, h3⟩
theorem ws_0 {σ : St} {n : Nat} {u a : Int} (hI : Inv σ n) : ∀ i, i ≤ n → wdS σ u a 0 i = 0
  | 0, _ => rfl
  | i + 1, hi => by
    have ih := ws_0 hI i (by omega) (u := u) (a := a)
    have h0 := wd_0 (a := a) (hI.2.2.2.1 i (by omega)).2.1.2.1
    unfold wdS
    split <;> omega
/-- the leases of a unit have no more days than there are -/
theorem ws_le {σ : St} {n : Nat} {u a : Int} (hI : Inv σ n) : ∀ D : Nat, 0 ≤ wdS σ u a D n ∧ wdS σ u a D n ≤ D
  | 0 => by have h := ws_0 (u := u) (a := a) hI n (Nat.le_refl _); exact ⟨by show 0 ≤ wdS σ u a 0 n; omega, by show wdS σ u a 0 n ≤ 0; omega⟩
  | D + 1 => by
    have ih := ws_le (u := u) (a := a) hI D
    have h := ws_step (u := u) (a := a) (D := (D : Int)) hI (by omega) n (Nat.le_refl _)
    have e : ((D + 1 : Nat) : Int) = (D : Int) + 1 := by omega
    rw [e]
    rcases h with ⟨e, _⟩ | ⟨e, _⟩ <;> omega
theorem ws_nn {σ : St} {u a D : Int} (hD : 0 ≤ D) : ∀ i, 0 ≤ wdS σ u a D i
  | 0 => Int.le_refl _
  | i + 1 => by
    have ih := ws_nn (σ := σ) (u := u) (a := a) hD i
    have h := (wd_nn (σ := σ) (k := i) (a := a) hD).1
    unfold wdS
    split <;> omega
/-- the days of a lease in a year -/
abbrev its (σ : St) (k : Nat) (y : Int32) : Int := wdD σ k (360 * y.toInt) 360
theorem di_int {σ : St} {k : Nat} {y : Int32} (hL : okL σ k) (hy : 0 ≤ y.toInt ∧ y.toInt < 20) : (diF σ k y).toInt = its σ k y := by
  obtain ⟨y1, y2⟩ := y360 hy
  show (dwF σ k (y * 360) (y * 360 + 360)).toInt = _
  rw [Int32.mul_comm y 360, dw_int hL (by rw [y1]; omega) (by rw [y2]; omega), y1, y2]
  rfl
theorem dl_int {σ : St} {n : Nat} {u y : Int32} (hI : Inv σ n) (hy : 0 ≤ y.toInt ∧ y.toInt < 20) : ∀ i, i ≤ n → (dlP σ n u (y * 360) (y * 360 + 360) i).toInt = wdS σ u.toInt (360 * y.toInt) 360 i ∧ wdS σ u.toInt (360 * y.toInt) 360 i ≤ 360 * i
  | 0, _ => ⟨rfl, Int.le_refl 0⟩
  | i + 1, hi => by
    obtain ⟨ih, ih2⟩ := dl_int hI hy i (by omega) (u := u)
    have h := wd_nn (σ := σ) (k := i) (a := 360 * y.toInt) (D := 360) (by decide)
    have hn := ws_nn (σ := σ) (u := u.toInt) (a := 360 * y.toInt) (D := 360) (by decide) i
    have hd : (dwF σ i (y * 360) (y * 360 + 360)).toInt = wdD σ i (360 * y.toInt) 360 := di_int (hI.2.2.2.1 i (by omega)) hy
    have h24 := hI.1
    unfold dlP wdS
    by_cases hu : (σ 3 i).toInt = u.toInt
    · rw [if_pos ⟨by omega, hu⟩, if_pos hu, i_add (by rw [ih, hd]; show _ ∧ _; constructor <;> omega), ih, hd]
      refine ⟨rfl, by omega⟩
    · rw [if_neg (fun q => hu q.2), if_neg hu]
      exact ⟨ih, by omega⟩
abbrev vdF (σ : St) (n : Nat) (u y : Int32) : Int32 := 360 - dlP σ n u (y * 360) (y * 360 + 360) 24
theorem vd_int {σ : St} {n : Nat} {u y : Int32} (hI : Inv σ n) (hy : 0 ≤ y.toInt ∧ y.toInt < 20) : (vdF σ n u y).toInt = 360 - wdS σ u.toInt (360 * y.toInt) 360 n ∧ 0 ≤ (vdF σ n u y).toInt ∧ (vdF σ n u y).toInt ≤ 360 := by
  obtain ⟨h1, -⟩ := dl_int (u := u) hI hy n (Nat.le_refl _)
  have h2 : 0 ≤ wdS σ u.toInt (360 * y.toInt) 360 n ∧ wdS σ u.toInt (360 * y.toInt) 360 n ≤ 360 := ws_le (u := u.toInt) (a := 360 * y.toInt) hI 360
  have h3 : (360 : Int32).toInt = 360 := rfl
  have e : (vdF σ n u y).toInt = 360 - wdS σ u.toInt (360 * y.toInt) 360 n := by
    show (360 - dlP σ n u (y * 360) (y * 360 + 360) 24).toInt = _
    rw [dl_far hI.1, i_sub (by rw [h1, h3]; exact ⟨by have := h2.2; omega, by have := h2.1; omega⟩), h1, h3]
  have h2a := h2.1
  have h2b : wdS σ u.toInt (360 * y.toInt) 360 n ≤ 360 := h2.2
  exact ⟨e, by omega, by omega⟩
/-- the days of all leases: those of the six units together -/
def itS (σ : St) (y : Int32) : Nat → Int
  | 0 => 0
  | i + 1 => itS σ y i + its σ i y
theorem it_six {σ : St} {n : Nat} {y : Int32} (hI : Inv σ n) : ∀ i, i ≤ n → itS σ y i = wdS σ 0 (360 * y.toInt) 360 i + wdS σ 1 (360 * y.toInt) 360 i + wdS σ 2 (360 * y.toInt) 360 i + wdS σ 3 (360 * y.toInt) 360 i + wdS σ 4 (360 * y.toInt) 360 i + wdS σ 5 (360 * y.toInt) 360 i
  | 0, _ => rfl
  | i + 1, hi => by
    have ih := it_six hI i (by omega) (y := y)
    have hL := (hI.2.2.2.1 i (by omega)).1
    unfold itS wdS
    rw [ih]
    show _ + wdD σ i (360 * y.toInt) 360 = _
    generalize wdD σ i (360 * y.toInt) 360 = w
    (repeat' split) <;> omega
/-- area by days, over the leases and over the units -/
def arS (σ : St) (y : Int32) : Nat → Int
  | 0 => 0
  | i + 1 => arS σ y i + (σ 0 (ix (σ 3 i))).toInt * its σ i y
theorem ar_six {σ : St} {n : Nat} {y : Int32} (hI : Inv σ n) : ∀ i, i ≤ n → arS σ y i = (σ 0 0).toInt * wdS σ 0 (360 * y.toInt) 360 i + (σ 0 1).toInt * wdS σ 1 (360 * y.toInt) 360 i + (σ 0 2).toInt * wdS σ 2 (360 * y.toInt) 360 i + (σ 0 3).toInt * wdS σ 3 (360 * y.toInt) 360 i + (σ 0 4).toInt * wdS σ 4 (360 * y.toInt) 360 i + (σ 0 5).toInt * wdS σ 5 (360 * y.toInt) 360 i
  | 0, _ => by simp [arS, wdS]
  | i + 1, hi => by
    have ih := ar_six hI i (by omega) (y := y)
    have hL := (hI.2.2.2.1 i (by omega)).1
    unfold arS wdS
    rw [ih]
    show _ + _ * wdD σ i (360 * y.toInt) 360 = _
    generalize wdD σ i (360 * y.toInt) 360 = w
    rcases (show (σ 3 i).toInt = 0 ∨ (σ 3 i).toInt = 1 ∨ (σ 3 i).toInt = 2 ∨ (σ 3 i).toInt = 3 ∨ (σ 3 i).toInt = 4 ∨ (σ 3 i).toInt = 5 by omega) with h | h | h | h | h | h
    · rw [show ix (σ 3 i) = 0 from i_ix h]; simp only [h]; simp [Int.mul_add]; omega
    · rw [show ix (σ 3 i) = 1 from i_ix h]; simp only [h]; simp [Int.mul_add]; omega
    · rw [show ix (σ 3 i) = 2 from i_ix h]; simp only [h]; simp [Int.mul_add]; omega
    · rw [show ix (σ 3 i) = 3 from i_ix h]; simp only [h]; simp [Int.mul_add]; omega
    · rw [show ix (σ 3 i) = 4 from i_ix h]; simp only [h]; simp [Int.mul_add]; omega
    · rw [show ix (σ 3 i) = 5 from i_ix h]; simp only [h]; simp [Int.mul_add]; omega
theorem aa_six {σ : St} {n : Nat} (hI : Inv σ n) : (aaP σ 6).toInt = (σ 0 0).toInt + (σ 0 1).toInt + (σ 0 2).toInt + (σ 0 3).toInt + (σ 0 4).toInt + (σ 0 5).toInt := by
  have h : ∀ i, i < 6 → (aaP σ (i + 1)).toInt = (aaP σ i).toInt + (σ 0 i).toInt := by
    intro i hi
    have h1 := aa_b hI i (by omega)
    have h2 := hI.2.1 i hi
    show (aaP σ i + σ 0 i).toInt = _
    exact i_add (by omega)
  have h0 : (aaP σ 0).toInt = 0 := rfl
  rw [h 5 (by decide), h 4 (by decide), h 3 (by decide), h 2 (by decide), h 1 (by decide), h 0 (by decide), h0]
  omega
theorem ar_le {σ : St} {n : Nat} {y : Int32} (hI : Inv σ n) : arS σ y n ≤ (aaP σ 6).toInt * 360 := by
  rw [ar_six hI n (Nat.le_refl _), aa_six hI]
  have h : ∀ u : Nat, u < 6 → (σ 0 u).toInt * wdS σ (u : Int) (360 * y.toInt) 360 n ≤ (σ 0 u).toInt * 360 := fun u hu => Int.mul_le_mul_of_nonneg_left (ws_le (u := (u : Int)) (a := 360 * y.toInt) hI 360).2 (hI.2.1 u hu).1
  have h0 := h 0 (by decide)
  have h1 := h 1 (by decide)
  have h2 := h 2 (by decide)
  have h3 := h 3 (by decide)
  have h4 := h 4 (by decide)
  have h5 := h 5 (by decide)
  simp only [Int.add_mul]
  exact Int.add_le_add (Int.add_le_add (Int.add_le_add (Int.add_le_add (Int.add_le_add h0 h1) h2) h3) h4) h5
end
section
/-! parts of a year's cost -/
theorem l_mul {x y : Int64} (h : -9223372036854775808 ≤ x.toInt * y.toInt ∧ x.toInt * y.toInt < 9223372036854775808) : (x * y).toInt = x.toInt * y.toInt := by
  rw [Int64.toInt_mul]; exact l_bmod h
/-- the uncapped part -/
abbrev pqF (σ : St) (k : Nat) (y c : Int32) : Int32 := (c.toInt64 * (vaF (σ 0) 6 (σ 3 k)).toInt64 * (diF σ k y).toInt64 / ((aaP σ 6).toInt64 * 360)).toInt32
theorem pq_int {σ : St} {n k : Nat} {y c : Int32} (hI : Inv σ n) (hk : k < n) (hy : 0 ≤ y.toInt ∧ y.toInt < 20) (hc : 0 ≤ c.toInt ∧ c.toInt ≤ 999999) (hA : 0 < (aaP σ 6).toInt) : (pqF σ k y c).toInt = c.toInt * (σ 0 (ix (σ 3 k))).toInt * its σ k y / ((aaP σ 6).toInt * 360) ∧ 0 ≤ c.toInt * (σ 0 (ix (σ 3 k))).toInt * its σ k y ∧ c.toInt * (σ 0 (ix (σ 3 k))).toInt * its σ k y ≤ 999999 * 999 * 360 := by
  have hL := hI.2.2.2.1 k hk
  have ha := hI.2.1 (ix (σ 3 k)) (ix_lt hL.1)
  have hd := di_int hL hy
  have hw := wd_nn (σ := σ) (k := k) (a := 360 * y.toInt) (D := 360) (by decide)
  have hb := aa_b hI 6 (by decide)
  have hva : vaF (σ 0) 6 (σ 3 k) = σ 0 (ix (σ 3 k)) := if_pos hL.1
  show ((c.toInt64 * (vaF (σ 0) 6 (σ 3 k)).toInt64 * (diF σ k y).toInt64 / ((aaP σ 6).toInt64 * 360)).toInt32).toInt = _ ∧ _
  rw [hva]
  show _ ∧ 0 ≤ c.toInt * (σ 0 (ix (σ 3 k))).toInt * wdD σ k (360 * y.toInt) 360 ∧ _ ≤ _
  have hd : (diF σ k y).toInt = wdD σ k (360 * y.toInt) 360 := hd
  rw [show its σ k y = wdD σ k (360 * y.toInt) 360 from rfl]
  rw [← hd] at hw ⊢
  generalize σ 0 (ix (σ 3 k)) = a at ha ⊢
  generalize diF σ k y = d at hw ⊢
  generalize aaP σ 6 = A at hA hb ⊢
  have m1 : 0 ≤ c.toInt * a.toInt := Int.mul_nonneg hc.1 ha.1
  have m2 : c.toInt * a.toInt ≤ 999999 * 999 := Int.mul_le_mul hc.2 ha.2 ha.1 (by decide)
  have m3 : 0 ≤ c.toInt * a.toInt * d.toInt := Int.mul_nonneg m1 hw.1
  have m4 : c.toInt * a.toInt * d.toInt ≤ 999999 * 999 * 360 := Int.mul_le_mul m2 hw.2 hw.1 (by decide)
  have e1 : (c.toInt64 * a.toInt64).toInt = c.toInt * a.toInt := by
    rw [l_mul (by rw [Int32.toInt_toInt64, Int32.toInt_toInt64]; omega), Int32.toInt_toInt64, Int32.toInt_toInt64]
  have e2 : (c.toInt64 * a.toInt64 * d.toInt64).toInt = c.toInt * a.toInt * d.toInt := by
    rw [l_mul (by rw [e1, Int32.toInt_toInt64]; omega), e1, Int32.toInt_toInt64]
  have e3 : (A.toInt64 * 360).toInt = A.toInt * 360 := by
    have h6 : (360 : Int64).toInt = 360 := rfl
    rw [l_mul (by rw [Int32.toInt_toInt64, h6]; omega), Int32.toInt_toInt64, h6]
  have e4 : (c.toInt64 * a.toInt64 * d.toInt64 / (A.toInt64 * 360)).toInt = c.toInt * a.toInt * d.toInt / (A.toInt * 360) := by
    rw [Int64.toInt_div_of_ne_right _ _ (by intro q; have := congrArg Int64.toInt q; rw [e3] at this; have h1 : (-1 : Int64).toInt = -1 := rfl; omega), e2, e3]
    exact Int.tdiv_eq_ediv_of_nonneg m3
  have hD : 0 < A.toInt * 360 := by omega
  have e5 : c.toInt * a.toInt * d.toInt / (A.toInt * 360) ≤ 999999 * 999 := by
    have h1 : c.toInt * a.toInt * d.toInt / (A.toInt * 360) * (A.toInt * 360) ≤ c.toInt * a.toInt * d.toInt := Int.ediv_mul_le _ (by omega)
    have h0 : 0 ≤ c.toInt * a.toInt * d.toInt / (A.toInt * 360) := Int.ediv_nonneg m3 (by omega)
    have h2 : c.toInt * a.toInt * d.toInt / (A.toInt * 360) * 360 ≤ c.toInt * a.toInt * d.toInt / (A.toInt * 360) * (A.toInt * 360) := Int.mul_le_mul_of_nonneg_left (by omega) h0
    omega
  have e6 : 0 ≤ c.toInt * a.toInt * d.toInt / (A.toInt * 360) := Int.ediv_nonneg m3 (by omega)
  refine ⟨?_, m3, m4⟩
  rw [Int64.toInt_toInt32, e4]
  exact i_bmod (by omega)
theorem pt_ok {σ : St} {n k : Nat} {y c : Int32} (hI : Inv σ n) (hk : k < n) (hy : 0 ≤ y.toInt ∧ y.toInt < 20) (hc : 0 ≤ c.toInt ∧ c.toInt ≤ 999999) :
    0 ≤ (ptF σ k y c).toInt ∧ (ptF σ k y c).toInt * ((aaP σ 6).toInt * 360) ≤ c.toInt * ((σ 0 (ix (σ 3 k))).toInt * its σ k y) ∧ (its σ k y = 0 → (ptF σ k y c).toInt = 0) ∧ ((σ 9 k).toInt = -1 ∨ (ptF σ k y c).toInt ≤ (σ 9 k * diF σ k y / 360).toInt) ∧ ((aaP σ 6).toInt = 0 → (ptF σ k y c).toInt = 0) ∧ (ptF σ k y c).toInt ≤ 999999 * 999 := by
  have hL := hI.2.2.2.1 k hk
  have hb := aa_b hI 6 (by decide)
  have hd : (diF σ k y).toInt = its σ k y := di_int hL hy
  have hw := wd_nn (σ := σ) (k := k) (a := 360 * y.toInt) (D := 360) (by decide)
  have hw1 : 0 ≤ its σ k y := hw.1
  have hw2 : its σ k y ≤ 360 := hw.2
  have ha := hI.2.1 (ix (σ 3 k)) (ix_lt hL.1)
  have hcap := hL.2.2.2.2.2.1
  have hM : 0 ≤ (σ 9 k).toInt → 0 ≤ (σ 9 k * diF σ k y / 360).toInt ∧ (its σ k y = 0 → (σ 9 k * diF σ k y / 360).toInt = 0) := by
    intro h9
    have m1 : 0 ≤ (σ 9 k).toInt * (diF σ k y).toInt := Int.mul_nonneg h9 (by omega)
    have m2 : (σ 9 k).toInt * (diF σ k y).toInt ≤ 999999 * 360 := Int.mul_le_mul hcap.2 (by omega) (by omega) (by decide)
    have h36 : (360 : Int32).toInt = 360 := rfl
    rw [i_div (by decide), i_mul (by omega), h36, Int.tdiv_eq_ediv_of_nonneg m1]
    refine ⟨Int.ediv_nonneg m1 (by decide), fun h0 => ?_⟩
    rw [hd, h0, Int.mul_zero]; rfl
  unfold ptF
  by_cases hA : 0 < (aaP σ 6).toInt
  · rw [if_pos hA]
    obtain ⟨q1, q2, q3⟩ := pq_int hI hk hy hc hA
    have hD : 0 < (aaP σ 6).toInt * 360 := by omega
    have hQ0 : 0 ≤ (pqF σ k y c).toInt := by rw [q1]; exact Int.ediv_nonneg q2 (by omega)
    have hQ1 : (pqF σ k y c).toInt * ((aaP σ 6).toInt * 360) ≤ c.toInt * ((σ 0 (ix (σ 3 k))).toInt * its σ k y) := by rw [q1, ← Int.mul_assoc c.toInt]; exact Int.ediv_mul_le _ (Int.ne_of_gt hD)
    have hQ2 : its σ k y = 0 → (pqF σ k y c).toInt = 0 := by
      intro h0; rw [q1, h0, Int.mul_zero, Int.zero_ediv]
    have hQ3 : (pqF σ k y c).toInt ≤ 999999 * 999 := by
      rw [q1]
      have h1 : c.toInt * (σ 0 (ix (σ 3 k))).toInt * its σ k y / ((aaP σ 6).toInt * 360) * ((aaP σ 6).toInt * 360) ≤ c.toInt * (σ 0 (ix (σ 3 k))).toInt * its σ k y := Int.ediv_mul_le _ (by omega)
      have h0 : 0 ≤ c.toInt * (σ 0 (ix (σ 3 k))).toInt * its σ k y / ((aaP σ 6).toInt * 360) := Int.ediv_nonneg q2 (by omega)
      have h2 : c.toInt * (σ 0 (ix (σ 3 k))).toInt * its σ k y / ((aaP σ 6).toInt * 360) * 360 ≤ c.toInt * (σ 0 (ix (σ 3 k))).toInt * its σ k y / ((aaP σ 6).toInt * 360) * ((aaP σ 6).toInt * 360) := Int.mul_le_mul_of_nonneg_left (by omega) h0
      omega
    by_cases h9 : (σ 9 k).toInt = -1
    · rw [if_pos h9]
      exact ⟨hQ0, hQ1, hQ2, Or.inl h9, fun h => absurd h (by omega), hQ3⟩
    · rw [if_neg h9]
      obtain ⟨c1, c2⟩ := hM (by omega)
      show 0 ≤ (mnF (pqF σ k y c) (σ 9 k * diF σ k y / 360)).toInt ∧ (mnF (pqF σ k y c) (σ 9 k * diF σ k y / 360)).toInt * _ ≤ _ ∧ (_ → (mnF (pqF σ k y c) (σ 9 k * diF σ k y / 360)).toInt = 0) ∧ (_ ∨ (mnF (pqF σ k y c) (σ 9 k * diF σ k y / 360)).toInt ≤ _) ∧ (_ → (mnF (pqF σ k y c) (σ 9 k * diF σ k y / 360)).toInt = 0) ∧ (mnF (pqF σ k y c) (σ 9 k * diF σ k y / 360)).toInt ≤ _
      have hm := @i_mn (pqF σ k y c) (σ 9 k * diF σ k y / 360)
      generalize mnF (pqF σ k y c) (σ 9 k * diF σ k y / 360) = M at hm ⊢
      generalize pqF σ k y c = Qv at *
      generalize σ 9 k * diF σ k y / 360 = Cv at *
      have hle : M.toInt ≤ Qv.toInt ∧ M.toInt ≤ Cv.toInt ∧ (M.toInt = Qv.toInt ∨ M.toInt = Cv.toInt) := by rw [hm]; split <;> omega
      refine ⟨by omega, Int.le_trans (Int.mul_le_mul_of_nonneg_right hle.1 (by omega)) hQ1, fun h0 => ?_, Or.inr hle.2.1, fun h => absurd h (by omega), by omega⟩
      have := hQ2 h0; have := c2 h0; omega
  · rw [if_neg hA]
    have hA0 : (aaP σ 6).toInt = 0 := by omega
    have h0 : (0 : Int32).toInt = 0 := rfl
    rw [h0]
    refine ⟨by omega, ?_, fun _ => rfl, ?_, fun _ => rfl, by decide⟩
    · rw [Int.zero_mul]; exact Int.mul_nonneg hc.1 (Int.mul_nonneg ha.1 hw1)
    · by_cases h9 : (σ 9 k).toInt = -1
      · exact Or.inl h9
      · exact Or.inr (hM (by omega)).1
/-- the parts of the first i leases together -/
def ptP (σ : St) (y : Int32) : Nat → Int32
  | 0 => 0
  | i + 1 => ptP σ y i + ptF σ i y (σ 2 (ix y))
theorem ow_pt {σ : St} {n : Nat} {y : Int32} (hn : n ≤ 24) : owP σ n y 24 = σ 2 (ix y) - ptP σ y n := by
  have h1 : ∀ i, i ≤ n → owP σ n y i = σ 2 (ix y) - ptP σ y i := by
    intro i
    induction i with
    | zero => intro _; show σ 2 (ix y) = σ 2 (ix y) - 0; rw [Int32.sub_zero]
    | succ i ih =>
      intro h
      unfold owP ptP
      rw [if_pos (by omega), ih (by omega)]
      simp only [Int32.sub_eq_add_neg, Int32.neg_add, Int32.add_assoc]
  have h2 : ∀ i, owP σ n y (n + i) = owP σ n y n := by
    intro i
    induction i with
    | zero => rfl
    | succ i ih =>
      rw [← Nat.add_assoc]
      show (if _ then _ else _) = _
      rw [if_neg (by omega)]; exact ih
  have h3 := h2 (24 - n)
  rw [show n + (24 - n) = 24 by omega] at h3
  rw [h3]; exact h1 n (Nat.le_refl _)
theorem ar_mono {σ : St} {n : Nat} {y : Int32} (hI : Inv σ n) : ∀ j i, i + j ≤ n → arS σ y i ≤ arS σ y (i + j)
  | 0, _, _ => Int.le_refl _
  | j + 1, i, h => by
    have ih := ar_mono hI j i (by omega) (y := y)
    have ha := hI.2.1 (ix (σ 3 (i + j))) (ix_lt (hI.2.2.2.1 (i + j) (by omega)).1)
    have hw : 0 ≤ its σ (i + j) y := (wd_nn (by decide)).1
    have hm := Int.mul_nonneg ha.1 hw
    show _ ≤ arS σ y (i + j) + (σ 0 (ix (σ 3 (i + j)))).toInt * its σ (i + j) y
    omega
theorem pp_int {σ : St} {n : Nat} {y : Int32} (hI : Inv σ n) (hy : 0 ≤ y.toInt ∧ y.toInt < 20) (hc : 0 ≤ (σ 2 (ix y)).toInt ∧ (σ 2 (ix y)).toInt ≤ 999999) : ∀ i, i ≤ n → 0 ≤ (ptP σ y i).toInt ∧ (ptP σ y i).toInt * ((aaP σ 6).toInt * 360) ≤ (σ 2 (ix y)).toInt * arS σ y i ∧ (ptP σ y i).toInt ≤ (σ 2 (ix y)).toInt
  | 0, _ => by
    have h0 : (ptP σ y 0).toInt = 0 := rfl
    rw [h0]
    refine ⟨by decide, ?_, hc.1⟩
    show _ ≤ _ * (0 : Int)
    omega
  | i + 1, hi => by
    obtain ⟨i1, i2, i3⟩ := pp_int hI hy hc i (by omega)
    obtain ⟨p1, p2, p3, p4, p5, p6⟩ := pt_ok hI (show i < n by omega) hy hc
    have hb := aa_b hI 6 (by decide)
    have e : (ptP σ y (i + 1)).toInt = (ptP σ y i).toInt + (ptF σ i y (σ 2 (ix y))).toInt := by
      show (ptP σ y i + ptF σ i y (σ 2 (ix y))).toInt = _
      exact i_add (by omega)
    have h2 : (ptP σ y (i + 1)).toInt * ((aaP σ 6).toInt * 360) ≤ (σ 2 (ix y)).toInt * arS σ y (i + 1) := by
      rw [e, Int.add_mul]
      show _ ≤ _ * (arS σ y i + (σ 0 (ix (σ 3 i))).toInt * its σ i y)
      rw [Int.mul_add]
      exact Int.add_le_add i2 p2
    refine ⟨by omega, h2, ?_⟩
    by_cases hA : 0 < (aaP σ 6).toInt
    · have h3 : arS σ y (i + 1) ≤ (aaP σ 6).toInt * 360 := by
        have h4 := ar_mono hI (n - (i + 1)) (i + 1) (by omega) (y := y)
        rw [show i + 1 + (n - (i + 1)) = n by omega] at h4
        exact Int.le_trans h4 (ar_le hI)
      exact Int.le_of_mul_le_mul_right (Int.le_trans h2 (Int.mul_le_mul_of_nonneg_left h3 hc.1)) (by omega)
    · have := p5 (by omega); omega
/-- the owner's part -/
theorem ow_nn {σ : St} {n : Nat} {y : Int32} (hI : Inv σ n) (hy : 0 ≤ y.toInt ∧ y.toInt < 20) (hc : 0 ≤ (σ 2 (ix y)).toInt ∧ (σ 2 (ix y)).toInt ≤ 999999) : 0 ≤ (owP σ n y 24).toInt := by
  obtain ⟨h1, -, h3⟩ := pp_int hI hy hc n (Nat.le_refl _)
  rw [ow_pt hI.1, i_sub (by omega)]
  omega
theorem ow_sum {σ : St} {n : Nat} {y : Int32} (hn : n ≤ 24) : ptP σ y n + owP σ n y 24 = σ 2 (ix y) := by
  rw [ow_pt hn, Int32.sub_eq_add_neg, ← Int32.add_assoc, Int32.add_comm (ptP σ y n), Int32.add_assoc, ← Int32.sub_eq_add_neg, Int32.sub_self, Int32.add_zero]
theorem ow_0 {σ : St} {n : Nat} {y : Int32} (hI : Inv σ n) (hy : 0 ≤ y.toInt ∧ y.toInt < 20) : owP (us σ 2 (ix y) 0) n y 24 = 0 := by
  have hI' : Inv (us σ 2 (ix y) 0) n := inv_t hI (by decide) (fun h => absurd h (by decide)) (fun h => absurd h (by decide))
  have h2 : us σ 2 (ix y) 0 2 (ix y) = 0 := us_eq
  have h := pp_int hI' hy (by rw [h2]; exact ⟨by decide, by decide⟩) n (Nat.le_refl _)
  rw [h2] at h
  have h0 : (0 : Int32).toInt = 0 := rfl
  have e : ptP (us σ 2 (ix y) 0) y n = 0 := i_ext (by have h1 := h.1; have h3 := h.2.2; rw [h0] at h3 ⊢; omega)
  rw [ow_pt hI.1, h2, e]
  rfl
theorem us_back {σ : St} {a i : Nat} {x : Int32} : us (us σ a i x) a i (σ a i) = σ := by
  funext b q
  unfold us upd
  by_cases hb : b = a
  · subst hb
    simp only [if_true]
    by_cases hq : q = i
    · subst hq; rw [if_pos rfl]
    · rw [if_neg hq, if_neg hq]
  · rw [if_neg hb, if_neg hb]
/-- the balance -/
theorem bl_ok {σ : St} {n k : Nat} {y : Int32} (hI : Inv σ n) (hk : k < n) (hy : 0 ≤ y.toInt ∧ y.toInt < 20) (hc : 0 ≤ (σ 2 (ix y)).toInt ∧ (σ 2 (ix y)).toInt ≤ 999999) : (ptF σ k y (σ 2 (ix y)) - σ 10 k * diF σ k y / 30).toInt ≤ (ptF σ k y (σ 2 (ix y))).toInt ∧ (its σ k y = 0 → (ptF σ k y (σ 2 (ix y)) - σ 10 k * diF σ k y / 30).toInt = 0) := by
  obtain ⟨p1, p2, p3, p4, p5, p6⟩ := pt_ok hI hk hy hc
  have hL := hI.2.2.2.1 k hk
  have hd : (diF σ k y).toInt = its σ k y := di_int hL hy
  have hw := wd_nn (σ := σ) (k := k) (a := 360 * y.toInt) (D := 360) (by decide)
  have hw1 : 0 ≤ its σ k y := hw.1
  have hw2 : its σ k y ≤ 360 := hw.2
  have hp := hL.2.2.2.2.2.2.1
  have m1 : 0 ≤ (σ 10 k).toInt * (diF σ k y).toInt := Int.mul_nonneg hp.1 (by omega)
  have m2 : (σ 10 k).toInt * (diF σ k y).toInt ≤ 9999 * 360 := Int.mul_le_mul hp.2 (by omega) (by omega) (by decide)
  have h30 : (30 : Int32).toInt = 30 := rfl
  have e : (σ 10 k * diF σ k y / 30).toInt = (σ 10 k).toInt * (diF σ k y).toInt / 30 := by
    rw [i_div (by decide), i_mul (by omega), h30, Int.tdiv_eq_ediv_of_nonneg m1]
  have e0 : 0 ≤ (σ 10 k).toInt * (diF σ k y).toInt / 30 := Int.ediv_nonneg m1 (by decide)
  have e1 : (σ 10 k).toInt * (diF σ k y).toInt / 30 ≤ 9999 * 360 := by omega
  generalize σ 10 k * diF σ k y / 30 = B at e ⊢
  rw [i_sub (by omega)]
  refine ⟨by omega, fun h => ?_⟩
  have h3 := p3 h
  rw [hd, h, Int.mul_zero] at e
  omega
end
section
/-! rents: their bounds, their first day, a step's day, the next change, bills, leases by days -/
/-- the rents of a lease's steps are rents -/
def stOk (σ : St) (k : Nat) : Prop := ∀ i, i < stN σ k → 1 ≤ (rowF σ 14 k i).toInt ∧ (rowF σ 14 k i).toInt ≤ 99999
theorem ac_b {σ : St} {k : Nat} {d : Int32} (hL : okL σ k) (hs : stOk σ k) : 1 ≤ (acF σ k d).toInt ∧ (acF σ k d).toInt ≤ 99999 := by
  have h : ∀ i, i ≤ stN σ k → 1 ≤ (agC σ k d i).1.toInt ∧ (agC σ k d i).1.toInt ≤ 99999 := by
    intro i
    induction i with
    | zero => intro _; exact hL.2.2.1
    | succ i ih =>
      intro hi
      unfold agC
      split
      · exact hs i (by omega)
      · exact ih (by omega)
  exact h _ (Nat.le_refl _)
theorem va_b {σ : St} {n : Nat} {x : Int32} (hI : Inv σ n) : 0 ≤ (vaF (σ 1) 240 x).toInt ∧ (vaF (σ 1) 240 x).toInt ≤ 999 := by
  unfold vaF
  split
  · rename_i h
    have := hI.2.2.1 (ix x) (ix_lt h)
    omega
  · exact ⟨by decide, by decide⟩
theorem hx_b {σ : St} {n k : Nat} {d : Int32} (hI : Inv σ n) : 0 ≤ (hxF σ k d).toInt ∧ (hxF σ k d).toInt ≤ 999 := by
  have h : ∀ i, 0 ≤ (hiP σ k i).toInt ∧ (hiP σ k i).toInt ≤ 999 := by
    intro i
    induction i with
    | zero => exact ⟨by show 0 ≤ (0 : Int32).toInt; decide, by show (0 : Int32).toInt ≤ 999; decide⟩
    | succ i ih =>
      unfold hiP
      have hv := va_b (x := (σ 4 k + nI (i + 1) * σ 8 k) / 30) hI
      rw [i_mx]
      split <;> omega
  exact h _
theorem rf_int {σ : St} {n k : Nat} {d : Int32} (hI : Inv σ n) (hk : k < n) (hs : stOk σ k) (h : rOn σ k d ∧ ¬ fOn σ k d) : (acF σ k d).toInt ≤ (rfF σ k d).toInt ∧ (rfF σ k d).toInt ≤ 9989901 ∧ ((hxF σ k d).toInt = 0 → rfF σ k d = acF σ k d) := by
  have hL := hI.2.2.2.1 k hk
  have ha := ac_b (d := d) hL hs
  have hh := hx_b (k := k) (d := d) hI
  have hX := ok_ix hL
  have hi := hI.2.2.1 (ix (σ 4 k / 30)) (ix_lt hX)
  unfold rfF
  rw [if_pos h, show vaF (σ 1) 240 (σ 4 k / 30) = σ 1 (ix (σ 4 k / 30)) from if_pos hX, if_pos (by omega)]
  generalize σ 1 (ix (σ 4 k / 30)) = B at hi ⊢
  generalize acF σ k d = a at ha ⊢
  generalize hxF σ k d = g at hh ⊢
  have m1 : 0 ≤ a.toInt * g.toInt := Int.mul_nonneg (by omega) hh.1
  have m2 : a.toInt * g.toInt ≤ 99999 * 999 := Int.mul_le_mul ha.2 hh.2 hh.1 (by decide)
  have e : (a * g / B).toInt = a.toInt * g.toInt / B.toInt := by
    rw [i_div (by omega), i_mul (by omega), Int.tdiv_eq_ediv_of_nonneg m1]
  have e0 : 0 ≤ a.toInt * g.toInt / B.toInt := Int.ediv_nonneg m1 (by omega)
  have e1 : a.toInt * g.toInt / B.toInt ≤ 9989901 := by
    have h1 : a.toInt * g.toInt / B.toInt * B.toInt ≤ a.toInt * g.toInt := Int.ediv_mul_le _ (by omega)
    have h2 : a.toInt * g.toInt / B.toInt * 10 ≤ a.toInt * g.toInt / B.toInt * B.toInt := Int.mul_le_mul_of_nonneg_left hi.1 e0
    omega
  have hm := @i_mx a (a * g / B)
  refine ⟨by rw [hm, e]; split <;> omega, by rw [hm, e]; split <;> omega, fun h0 => i_ext ?_⟩
  rw [h0, Int.mul_zero, Int.zero_ediv] at e
  rw [hm, e]
  split <;> omega
theorem rf_no {σ : St} {k : Nat} {d : Int32} (h : ¬ (rOn σ k d ∧ ¬ fOn σ k d)) : rfF σ k d = 0 := if_neg h
theorem rf_b {σ : St} {n k : Nat} {d : Int32} (hI : Inv σ n) (hk : k < n) (hs : stOk σ k) : 0 ≤ (rfF σ k d).toInt ∧ (rfF σ k d).toInt ≤ 9989901 := by
  by_cases h : rOn σ k d ∧ ¬ fOn σ k d
  · have h1 := rf_int hI hk hs h
    have h2 := ac_b (d := d) (hI.2.2.2.1 k hk) hs
    omega
  · rw [rf_no h]; exact ⟨by decide, by decide⟩
theorem hx_0 {σ : St} {k : Nat} {d : Int32} (h : ¬ (0 < (σ 8 k).toInt ∧ (σ 4 k).toInt < d.toInt)) : (hxF σ k d).toInt = 0 := by
  unfold hxF rvF
  rw [if_neg h]
  rfl
theorem ac_st0 {σ : St} {k : Nat} {d : Int32} (h : (σ 12 k).toInt = 0) : acF σ k d = σ 6 k := by
  unfold acF stN
  rw [h]
  rfl
theorem ff_int {σ : St} {k : Nat} (hL : okL σ k) : (σ 4 k + σ 7 k).toInt = (σ 4 k).toInt + (σ 7 k).toInt := by
  have h1 := hL.2.1
  have h2 := hL.2.2.2.1
  exact i_add (by omega)
/-- the first day's rent -/
theorem rf_from {σ : St} {n k : Nat} (hI : Inv σ n) (hk : k < n) (hs : stOk σ k) : rfF σ k (σ 4 k) = if 0 < (σ 7 k).toInt then 0 else σ 6 k := by
  have hL := hI.2.2.2.1 k hk
  have hf := ff_int hL
  have h7 := hL.2.2.2.1
  have hon : rOn σ k (σ 4 k) := ⟨Int.le_refl _, hL.2.1.2.1⟩
  by_cases h : 0 < (σ 7 k).toInt
  · rw [if_pos h]
    exact rf_no (fun q => q.2 (by unfold fOn; omega))
  · rw [if_neg h]
    have hx := hx_0 (σ := σ) (k := k) (d := σ 4 k) (fun q => by have := q.2; omega)
    rw [(rf_int hI hk hs ⟨hon, by unfold fOn; omega⟩).2.2 hx]
    have hag : ∀ i, agC σ k (σ 4 k) i = (σ 6 k, σ 4 k) := by
      intro i
      induction i with
      | zero => rfl
      | succ i ih =>
        unfold agC
        rw [ih]
        exact if_neg (fun q => by have := q.1; have h2 : (σ 4 k).toInt < _ := q.2; omega)
    unfold acF
    rw [hag]
/-- places of steps -/
theorem pl_ne {σ : St} {k : Nat} {d : Int32} : ∀ f i q, i ≤ q → q < plG σ k d f i → ¬ (rowF σ 13 k q).toInt = d.toInt
  | 0, i, q, h1, h2 => by unfold plG at h2; omega
  | f + 1, i, q, h1, h2 => by
    unfold plG at h2
    split at h2
    · omega
    · rename_i h
      by_cases hq : q = i
      · subst hq; exact h
      · exact pl_ne f (i + 1) q (by omega) h2
theorem ps_int {σ : St} {k : Nat} {d r : Int32} (hL : okL σ k) (hp : plF σ k d < 6) : stN (psS σ k d r) k ≤ 6 ∧ plF σ k d < stN (psS σ k d r) k ∧ stN σ k ≤ stN (psS σ k d r) k ∧ (stN (psS σ k d r) k ≤ stN σ k + 1) ∧ (psS σ k d r 12 k = σ 12 k ∨ psS σ k d r 12 k = σ 12 k + 1) ∧ (plF σ k d < stN σ k → stN (psS σ k d r) k = stN σ k) ∧ (stN σ k ≤ plF σ k d → plF σ k d = stN σ k) := by
  have hS : okS σ k := okL_s hL
  have hpl : plF σ k d ≤ stN σ k := by have hz := plG_le' (σ := σ) (k := k) (d := d) (stN σ k) 0; rw [Nat.zero_add] at hz; exact hz
  have hst : (stN σ k : Int) = (σ 12 k).toInt := by unfold stN; have := hS.1; omega
  have e : psS σ k d r 12 k = if plF σ k d = stN σ k then σ 12 k + 1 else σ 12 k := by
    unfold psS
    rw [if_pos hp]
    exact us_eq
  have h6 := hS.2
  by_cases h : plF σ k d = stN σ k
  · rw [if_pos h] at e
    have e2 : (psS σ k d r 12 k).toInt = (σ 12 k).toInt + 1 := by rw [e]; exact i_add1 (by omega)
    have e3 : stN (psS σ k d r) k = stN σ k + 1 := by unfold stN at *; omega
    exact ⟨by omega, by omega, by omega, by omega, Or.inr e, fun h => by omega, fun _ => h⟩
  · rw [if_neg h] at e
    have e3 : stN (psS σ k d r) k = stN σ k := by unfold stN; rw [e]
    exact ⟨by omega, by omega, by omega, by omega, Or.inl e, fun _ => e3, fun h => by omega⟩
theorem ps_rows {σ : St} {k : Nat} {d r : Int32} (hp : plF σ k d < 6) : rowF (psS σ k d r) 13 k = upd (rowF σ 13 k) (plF σ k d) d ∧ rowF (psS σ k d r) 14 k = upd (rowF σ 14 k) (plF σ k d) r := by
  unfold psS
  rw [if_pos hp]
  constructor
  · rw [rowF_ne (a := 12) (Or.inl (by decide)), rowF_ne (a := 14) (Or.inl (by decide)), rowF_eq hp]
  · rw [rowF_ne (a := 12) (Or.inl (by decide)), rowF_eq hp, rowF_ne (a := 13) (Or.inl (by decide))]
theorem ps_keep {σ : St} {k a q : Nat} {d r : Int32} (h : a ≠ 13 ∧ a ≠ 14 ∧ (a ≠ 12 ∨ q ≠ k)) : psS σ k d r a q = σ a q := by
  unfold psS
  split
  · rw [us_ne (by omega), us_ne (Or.inl (by omega)), us_ne (Or.inl (by omega))]
  · rfl
theorem ps_other {σ : St} {k q : Nat} {d r : Int32} (h : q ≠ k) : rowF (psS σ k d r) 14 q = rowF σ 14 q ∧ stN (psS σ k d r) q = stN σ q := by
  constructor
  · unfold psS
    split
    · rw [rowF_ne (a := 12) (Or.inl (by decide)), rowF_ne (a := 14) (by omega), rowF_ne (a := 13) (Or.inl (by decide))]
    · rfl
  · unfold stN
    rw [ps_keep (a := 12) (q := q) ⟨by decide, by decide, Or.inr h⟩]
/-- on a step's own day its rent is agreed -/
theorem ps_ag {σ : St} {k : Nat} {d r : Int32} (hL : okL σ k) (hp : plF σ k d < 6) (hd : (σ 4 k).toInt < d.toInt) : acF (psS σ k d r) k d = r := by
  obtain ⟨p1, p2, p3, p4, p5, p6, p7⟩ := ps_int (r := r) hL hp
  obtain ⟨r13, r14⟩ := ps_rows (σ := σ) (k := k) (d := d) (r := r) hp
  have hne : ∀ q, q < plF σ k d → ¬ (rowF σ 13 k q).toInt = d.toInt := fun q h => pl_ne (σ := σ) (k := k) (d := d) (stN σ k) 0 q (Nat.zero_le _) h
  have h4 : psS σ k d r 4 k = σ 4 k := ps_keep ⟨by decide, by decide, Or.inl (by decide)⟩
  generalize hpp : plF σ k d = p at *
  have hlow : ∀ i, i ≤ p → (agC (psS σ k d r) k d i).2.toInt < d.toInt := by
    intro i
    induction i with
    | zero => intro _; show (psS σ k d r 4 k).toInt < _; rw [h4]; exact hd
    | succ i ih =>
      intro hi
      unfold agC
      rw [r13, r14]
      have hn := hne i (by omega)
      have hu : upd (rowF σ 13 k) p d i = rowF σ 13 k i := by unfold upd; rw [if_neg (by omega)]
      rw [hu]
      split
      · rename_i hc; show (rowF σ 13 k i).toInt < _; have := hc.1; omega
      · exact ih (by omega)
  have hhigh : ∀ j, agC (psS σ k d r) k d (p + 1 + j) = (r, d) := by
    intro j
    induction j with
    | zero =>
      show agC (psS σ k d r) k d (p + 1) = _
      unfold agC
      rw [r13, r14]
      have e1 : upd (rowF σ 13 k) p d p = d := by unfold upd; rw [if_pos rfl]
      have e2 : upd (rowF σ 14 k) p r p = r := by unfold upd; rw [if_pos rfl]
      rw [e1, e2]
      exact if_pos ⟨Int.le_refl _, hlow p (Nat.le_refl _)⟩
    | succ j ih =>
      show agC (psS σ k d r) k d (p + 1 + j + 1) = _
      unfold agC
      rw [ih]
      exact if_neg (fun q => by have := q.1; have h2 : d.toInt < _ := q.2; omega)
  unfold acF
  obtain ⟨j, hj⟩ : ∃ j, stN (psS σ k d r) k = p + 1 + j := ⟨stN (psS σ k d r) k - (p + 1), by omega⟩
  rw [hj, hhigh]
theorem ps_ok {σ : St} {k : Nat} {d r : Int32} (hL : okL σ k) (hp : plF σ k d < 6) (hr : 1 ≤ r.toInt ∧ r.toInt ≤ 99999) {q : Nat} (hs : stOk σ q) : stOk (psS σ k d r) q := by
  unfold stOk at *
  by_cases hq : q = k
  · subst hq
    obtain ⟨p1, p2, p3, p4, p5, p6, p7⟩ := ps_int (r := r) hL hp
    rw [(ps_rows (σ := σ) (k := q) (d := d) (r := r) hp).2]
    intro i hi
    unfold upd
    split
    · exact hr
    · rename_i hne
      refine hs i ?_
      by_cases h : plF σ q d < stN σ q
      · have := p6 h; omega
      · have := p7 (by omega); omega
  · obtain ⟨e1, e2⟩ := ps_other (σ := σ) (k := k) (d := d) (r := r) hq
    rw [e1, e2]
    exact hs
/-- the rent's next change -/
theorem fc_spec {σ : St} {k : Nat} {b : Int32} : ∀ (f : Nat) (t : Int32), 0 ≤ t.toInt → 7200 ≤ t.toInt + f → (fcG σ k b f t = -1 ∧ ∀ z : Int32, t.toInt ≤ z.toInt → z.toInt < 7200 → rmF σ k z = b) ∨ (t.toInt ≤ (fcG σ k b f t).toInt ∧ (fcG σ k b f t).toInt < 7200 ∧ rmF σ k (fcG σ k b f t) ≠ b ∧ ∀ z : Int32, t.toInt ≤ z.toInt → z.toInt < (fcG σ k b f t).toInt → rmF σ k z = b)
  | 0, t, h0, h1 => Or.inl ⟨rfl, fun z h2 h3 => by omega⟩
  | f + 1, t, h0, h1 => by
    unfold fcG
    by_cases h : t.toInt < 7200
    · rw [if_pos h]
      by_cases hc : rmF σ k t = b
      · rw [if_pos hc]
        have e := i_add1 (x := t) (by omega)
        rcases fc_spec (σ := σ) (k := k) (b := b) f (t + 1) (by omega) (by omega) with ⟨e1, h2⟩ | ⟨e1, e2, e3, h2⟩
        · refine Or.inl ⟨e1, fun z h3 h4 => ?_⟩
          by_cases hz : z.toInt = t.toInt
          · rw [i_ext hz]; exact hc
          · exact h2 z (by omega) h4
        · refine Or.inr ⟨by omega, e2, e3, fun z h3 h4 => ?_⟩
          by_cases hz : z.toInt = t.toInt
          · rw [i_ext hz]; exact hc
          · exact h2 z (by omega) h4
      · rw [if_neg hc]
        exact Or.inr ⟨Int.le_refl _, h, hc, fun z h3 h4 => by omega⟩
    · rw [if_neg h]
      exact Or.inl ⟨rfl, fun z h2 h3 => by omega⟩
abbrev nxF (σ : St) (k : Nat) (d : Int32) : Int32 := ncG σ k 7200 (ntF σ k d)
theorem nx_spec {σ : St} {n k : Nat} {d : Int32} (hI : Inv σ n) (hk : k < n) (hd : 0 ≤ d.toInt ∧ d.toInt < 7200) : (nxF σ k d = -1 ∧ ∀ z : Int32, d.toInt ≤ z.toInt → z.toInt < 7200 → rfF σ k z = rfF σ k d) ∨ (d.toInt < (nxF σ k d).toInt ∧ (nxF σ k d).toInt < 7200 ∧ rfF σ k (nxF σ k d) ≠ rfF σ k d ∧ ∀ z : Int32, d.toInt ≤ z.toInt → z.toInt < (nxF σ k d).toInt → rfF σ k z = rfF σ k d) := by
  have h7 := nt_le (σ := σ) (k := k) (d := d)
  have h8 := nt_gt (σ := σ) (k := k) (d := d) hd.2
  have hz : ∀ z : Int32, d.toInt ≤ z.toInt → z.toInt < (ntF σ k d).toInt → rfF σ k z = rfF σ k d := fun z h1 h2 => rf_const (hI.2.2.2.1 k hk) h1 h2
  have hr := rf_eq hI hk
  show (ncG σ k 7200 (ntF σ k d) = -1 ∧ _) ∨ (_ < (ncG σ k 7200 (ntF σ k d)).toInt ∧ (ncG σ k 7200 (ntF σ k d)).toInt < _ ∧ rfF σ k (ncG σ k 7200 (ntF σ k d)) ≠ _ ∧ ∀ z : Int32, _ → z.toInt < (ncG σ k 7200 (ntF σ k d)).toInt → _)
  rw [nc_fc hI hk 7200 (ntF σ k d) d hd.1 hd.2 rfl rfl (by omega)]
  rw [← hr d]
  rcases fc_spec (σ := σ) (k := k) (b := rfF σ k d) 7200 (ntF σ k d) (by omega) (by omega) with ⟨e1, h2⟩ | ⟨e1, e2, e3, h2⟩
  · refine Or.inl ⟨e1, fun z h3 h4 => ?_⟩
    by_cases h5 : z.toInt < (ntF σ k d).toInt
    · exact hz z h3 h5
    · rw [hr z]; exact h2 z (by omega) h4
  · refine Or.inr ⟨by omega, e2, by rw [hr (fcG σ k (rfF σ k d) 7200 (ntF σ k d))]; exact e3, fun z h3 h4 => ?_⟩
    by_cases h5 : z.toInt < (ntF σ k d).toInt
    · exact hz z h3 h5
    · rw [hr z]; exact h2 z (by omega) h4
/-- the day ahead of a change, and its bound -/
theorem nx_ok {σ : St} {n k : Nat} {d : Int32} (hI : Inv σ n) (hk : k < n) (hd : 0 ≤ d.toInt ∧ d.toInt < 7200) (hne : ¬ nxF σ k d = -1) : d.toInt < (nxF σ k d).toInt ∧ (nxF σ k d).toInt < 7200 ∧ (nxF σ k d - 1).toInt = (nxF σ k d).toInt - 1 ∧ rfF σ k (nxF σ k d) ≠ rfF σ k (nxF σ k d - 1) ∧ (nxF σ k d).toInt ≤ (σ 5 k).toInt := by
  rcases nx_spec hI hk hd with ⟨e, -⟩ | ⟨h1, h2, h3, h4⟩
  · exact absurd e hne
  · generalize nxF σ k d = x at *
    have e : (x - 1).toInt = x.toInt - 1 := i_sub1 (by omega)
    have e2 := h4 (x - 1) (by omega) (by omega)
    refine ⟨h1, h2, e, by rw [e2]; exact h3, Int.not_lt.mp (fun hc => ?_)⟩
    have z1 : rfF σ k x = 0 := rf_no (fun q => by have := q.1; unfold rOn at this; omega)
    have z2 : rfF σ k (x - 1) = 0 := rf_no (fun q => by have := q.1; unfold rOn at this; omega)
    exact h3 (by rw [z1, ← e2, z2])
theorem nx_run {σ : St} {n k : Nat} {d z : Int32} (hI : Inv σ n) (hk : k < n) (hd : 0 ≤ d.toInt ∧ d.toInt < 7200) (h1 : d.toInt ≤ z.toInt) (h2 : z.toInt < 7200) (h3 : nxF σ k d = -1 ∨ z.toInt < (nxF σ k d).toInt) : rfF σ k z = rfF σ k d := by
  rcases nx_spec hI hk hd with ⟨e, h⟩ | ⟨g1, g2, g3, g4⟩
  · exact h z h1 h2
  · rcases h3 with e | e
    · rw [e] at g1; exact absurd g1 (by have h5 : (-1 : Int32).toInt = -1 := rfl; omega)
    · exact g4 z h1 e
/-- bills -/
theorem nI_ad {x : Int32} {a : Nat} : ∀ b, x + nI (a + b) = x + nI a + nI b
  | 0 => by rw [nI_0, Int32.add_zero]; rfl
  | b + 1 => by
    rw [← Nat.add_assoc, ← nI_1, ← nI_1, ← Int32.add_assoc, nI_ad b, Int32.add_assoc]
theorem bs_split {σ : St} {k a : Nat} {f : Int32} : ∀ c, bsP σ k f (a + c) = bsP σ k f a + bsP σ k (f + nI a) c
  | 0 => by show _ = _ + (0 : Int64); rw [Int64.add_zero]; rfl
  | c + 1 => by
    show bsP σ k f (a + c) + (bfF σ k (f + nI (a + c))).toInt64 = _ + (bsP σ k (f + nI a) c + (bfF σ k (f + nI a + nI c)).toInt64)
    rw [bs_split c, nI_ad, Int64.add_assoc]
theorem bs_one {σ : St} {k : Nat} {m : Int32} : bsP σ k m 1 = (bfF σ k m).toInt64 := by
  show (0 : Int64) + (bfF σ k (m + nI 0)).toInt64 = _
  rw [nI_0, Int32.add_zero, Int64.zero_add]
theorem bs_all {σ : St} {k : Nat} {m : Int32} (hm : 0 ≤ m.toInt ∧ m.toInt < 240) : bsP σ k 0 240 = bsP σ k 0 (m.toInt - 0 + 1).toNat + bsP σ k m (239 - m.toInt + 1).toNat - (bfF σ k m).toInt64 := by
  obtain ⟨M, hM, rfl⟩ : ∃ M : Nat, M < 240 ∧ m = nI M := ⟨m.toInt.toNat, by omega, i_eqnI (by omega)⟩
  have e := i_nI (k := M) (by omega)
  have e0 : (0 : Int32) + nI M = nI M := Int32.zero_add _
  rw [e, show ((M : Int) - 0 + 1).toNat = M + 1 by omega, show (239 - (M : Int) + 1).toNat = 240 - M by omega]
  have h1 := bs_split (σ := σ) (k := k) (a := M) (f := 0) (240 - M)
  rw [show M + (240 - M) = 240 by omega, e0] at h1
  have h2 := bs_split (σ := σ) (k := k) (a := M) (f := 0) 1
  rw [e0, bs_one] at h2
  rw [h1, h2, Int64.sub_eq_add_neg, Int64.add_assoc, Int64.add_assoc, Int64.add_comm _ (-_), ← Int64.add_assoc (bfF σ k (nI M)).toInt64, ← Int64.sub_eq_add_neg, Int64.sub_self, Int64.zero_add]
theorem bill_eq {σ : St} {n k : Nat} {m : Int32} (hI : Inv σ n) (hk : k < n) (hm : 0 ≤ m.toInt ∧ m.toInt < 240) : bfF σ k m = bdP σ k m 30 / 30 := by
  rw [bf_eq hI hk hm, bd_eq' hI hk]
/-- whose day it is -/
theorem ln_iff {σ : St} {n k : Nat} {d : Int32} (hI : Inv σ n) (hk : k < n) : (lnG σ n (σ 3 k) d 24 0).toInt = (k : Int) ↔ rOn σ k d := by
  have hn := hI.1
  have h2 : ∀ f i, i + f = 24 → (lnG σ n (σ 3 k) d f i = -1 ∧ (∀ q, i ≤ q → q < n → ¬ ((σ 3 q).toInt = (σ 3 k).toInt ∧ rOn σ q d))) ∨ ∃ q, i ≤ q ∧ q < n ∧ ((σ 3 q).toInt = (σ 3 k).toInt ∧ rOn σ q d) ∧ lnG σ n (σ 3 k) d f i = nI q := by
    intro f
    induction f with
    | zero => intro i hi; exact Or.inl ⟨rfl, fun q h h' => absurd h (by omega)⟩
    | succ f ih =>
      intro i hi
      unfold lnG
      by_cases h : (i < n ∧ (σ 3 i).toInt = (σ 3 k).toInt) ∧ rOn σ i d
      · rw [if_pos h]; exact Or.inr ⟨i, Nat.le_refl _, h.1.1, ⟨h.1.2, h.2⟩, rfl⟩
      · rw [if_neg h]
        rcases ih (i + 1) (by omega) with ⟨e, h2⟩ | ⟨q, h2, h3, h4, e⟩
        · refine Or.inl ⟨e, fun q hq hqn hh => ?_⟩
          by_cases hqi : q = i
          · subst hqi; exact h ⟨⟨hqn, hh.1⟩, hh.2⟩
          · exact h2 q (by omega) hqn hh
        · exact Or.inr ⟨q, by omega, h3, h4, e⟩
  rcases h2 24 0 rfl with ⟨e, h⟩ | ⟨q, h1, h3, h4, e⟩
  · rw [e]
    have hm : (-1 : Int32).toInt = -1 := rfl
    exact ⟨fun hh => by omega, fun hh => absurd ⟨rfl, hh⟩ (h k (Nat.zero_le _) hk)⟩
  · rw [e, i_nI (by omega)]
    constructor
    · intro hh
      have : q = k := by omega
      subst this; exact h4.2
    · intro hh
      by_cases hq : q = k
      · rw [hq]
      · have hj := hI.2.2.2.2.2 q k h3 hk hq h4.1
        have w1 := h4.2
        unfold rOn at w1 hh
        omega
end

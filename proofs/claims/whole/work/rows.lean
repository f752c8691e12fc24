section
-- ===== PART A: goes FIRST, ahead of the names: the tables' words, and 'selects' of the private methods out of them =====
/-- a private method of a class that the tables say can be made, by its rows of tables_1 -/
def lw_okq (q : MethodName × Nat) : Prop := (q.1.cls ≠ "java/lang/invoke/MethodHandle" ∧ q.1.cls ≠ "java/lang/invoke/VarHandle") ∧ Cond.instantiable q.1.cls q.2 ∈ tables_1 ∧ Cond.privateMethod q.1 ∈ tables_1 ∧ Cond.instanceMethod q.1 ∈ tables_1
theorem lw_p0 : lw_okq (⟨"java/lang/Throwable", "fillInStackTrace", "(I)Ljava/lang/Throwable;"⟩, 6) := ⟨⟨by decide +kernel, by decide +kernel⟩, List.mem_of_getElem? (i := 93) (by decide +kernel), List.mem_of_getElem? (i := 91) (by decide +kernel), List.mem_of_getElem? (i := 92) (by decide +kernel)⟩
theorem lw_p1 : lw_okq (⟨"Voidrent", "daysLet", "(III)I"⟩, 5) := ⟨⟨by decide +kernel, by decide +kernel⟩, List.mem_of_getElem? (i := 12) (by decide +kernel), List.mem_of_getElem? (i := 182) (by decide +kernel), List.mem_of_getElem? (i := 183) (by decide +kernel)⟩
theorem lw_p2 : lw_okq (⟨"Voidrent", "find", "(I)LVoidrent$Lease;"⟩, 5) := ⟨⟨by decide +kernel, by decide +kernel⟩, List.mem_of_getElem? (i := 12) (by decide +kernel), List.mem_of_getElem? (i := 255) (by decide +kernel), List.mem_of_getElem? (i := 256) (by decide +kernel)⟩
theorem lw_p3 : lw_okq (⟨"Voidrent", "rentFor", "(LVoidrent$Lease;I)I"⟩, 5) := ⟨⟨by decide +kernel, by decide +kernel⟩, List.mem_of_getElem? (i := 12) (by decide +kernel), List.mem_of_getElem? (i := 293) (by decide +kernel), List.mem_of_getElem? (i := 294) (by decide +kernel)⟩
theorem lw_p4 : lw_okq (⟨"Voidrent", "highestIndex", "(LVoidrent$Lease;I)I"⟩, 5) := ⟨⟨by decide +kernel, by decide +kernel⟩, List.mem_of_getElem? (i := 12) (by decide +kernel), List.mem_of_getElem? (i := 312) (by decide +kernel), List.mem_of_getElem? (i := 313) (by decide +kernel)⟩
theorem lw_p5 : lw_okq (⟨"Voidrent", "billFor", "(LVoidrent$Lease;I)I"⟩, 5) := ⟨⟨by decide +kernel, by decide +kernel⟩, List.mem_of_getElem? (i := 12) (by decide +kernel), List.mem_of_getElem? (i := 357) (by decide +kernel), List.mem_of_getElem? (i := 358) (by decide +kernel)⟩
theorem lw_p6 : lw_okq (⟨"Voidrent", "partOf", "(LVoidrent$Lease;II)I"⟩, 5) := ⟨⟨by decide +kernel, by decide +kernel⟩, List.mem_of_getElem? (i := 12) (by decide +kernel), List.mem_of_getElem? (i := 405) (by decide +kernel), List.mem_of_getElem? (i := 406) (by decide +kernel)⟩
theorem lw_p7 : lw_okq (⟨"Voidrent", "allAreas", "()I"⟩, 5) := ⟨⟨by decide +kernel, by decide +kernel⟩, List.mem_of_getElem? (i := 12) (by decide +kernel), List.mem_of_getElem? (i := 409) (by decide +kernel), List.mem_of_getElem? (i := 410) (by decide +kernel)⟩
theorem lw_p8 : lw_okq (⟨"VoidrentModel", "holds", "(I)Z"⟩, 17) := ⟨⟨by decide +kernel, by decide +kernel⟩, List.mem_of_getElem? (i := 440) (by decide +kernel), List.mem_of_getElem? (i := 509) (by decide +kernel), List.mem_of_getElem? (i := 510) (by decide +kernel)⟩
theorem lw_p9 : lw_okq (⟨"VoidrentModel", "isLet", "(III)Z"⟩, 17) := ⟨⟨by decide +kernel, by decide +kernel⟩, List.mem_of_getElem? (i := 440) (by decide +kernel), List.mem_of_getElem? (i := 527) (by decide +kernel), List.mem_of_getElem? (i := 528) (by decide +kernel)⟩
theorem lw_p10 : lw_okq (⟨"VoidrentModel", "isLease", "(I)Z"⟩, 17) := ⟨⟨by decide +kernel, by decide +kernel⟩, List.mem_of_getElem? (i := 440) (by decide +kernel), List.mem_of_getElem? (i := 535) (by decide +kernel), List.mem_of_getElem? (i := 536) (by decide +kernel)⟩
theorem lw_p11 : lw_okq (⟨"VoidrentModel", "placeOf", "(II)I"⟩, 17) := ⟨⟨by decide +kernel, by decide +kernel⟩, List.mem_of_getElem? (i := 440) (by decide +kernel), List.mem_of_getElem? (i := 543) (by decide +kernel), List.mem_of_getElem? (i := 544) (by decide +kernel)⟩
theorem lw_p12 : lw_okq (⟨"VoidrentModel", "isDayOf", "(II)Z"⟩, 17) := ⟨⟨by decide +kernel, by decide +kernel⟩, List.mem_of_getElem? (i := 440) (by decide +kernel), List.mem_of_getElem? (i := 559) (by decide +kernel), List.mem_of_getElem? (i := 560) (by decide +kernel)⟩
theorem lw_p13 : lw_okq (⟨"VoidrentModel", "rentAt", "(II)I"⟩, 17) := ⟨⟨by decide +kernel, by decide +kernel⟩, List.mem_of_getElem? (i := 440) (by decide +kernel), List.mem_of_getElem? (i := 563) (by decide +kernel), List.mem_of_getElem? (i := 564) (by decide +kernel)⟩
theorem lw_p14 : lw_okq (⟨"VoidrentModel", "agreed", "(II)I"⟩, 17) := ⟨⟨by decide +kernel, by decide +kernel⟩, List.mem_of_getElem? (i := 440) (by decide +kernel), List.mem_of_getElem? (i := 567) (by decide +kernel), List.mem_of_getElem? (i := 568) (by decide +kernel)⟩
theorem lw_p15 : lw_okq (⟨"VoidrentModel", "greatestIndex", "(II)I"⟩, 17) := ⟨⟨by decide +kernel, by decide +kernel⟩, List.mem_of_getElem? (i := 440) (by decide +kernel), List.mem_of_getElem? (i := 571) (by decide +kernel), List.mem_of_getElem? (i := 572) (by decide +kernel)⟩
def lw_privs_1 : List (MethodName × Nat) := [(⟨"java/lang/Throwable", "fillInStackTrace", "(I)Ljava/lang/Throwable;"⟩, 6), (⟨"Voidrent", "daysLet", "(III)I"⟩, 5), (⟨"Voidrent", "find", "(I)LVoidrent$Lease;"⟩, 5), (⟨"Voidrent", "rentFor", "(LVoidrent$Lease;I)I"⟩, 5), (⟨"Voidrent", "highestIndex", "(LVoidrent$Lease;I)I"⟩, 5), (⟨"Voidrent", "billFor", "(LVoidrent$Lease;I)I"⟩, 5), (⟨"Voidrent", "partOf", "(LVoidrent$Lease;II)I"⟩, 5), (⟨"Voidrent", "allAreas", "()I"⟩, 5), (⟨"VoidrentModel", "holds", "(I)Z"⟩, 17), (⟨"VoidrentModel", "isLet", "(III)Z"⟩, 17), (⟨"VoidrentModel", "isLease", "(I)Z"⟩, 17), (⟨"VoidrentModel", "placeOf", "(II)I"⟩, 17), (⟨"VoidrentModel", "isDayOf", "(II)Z"⟩, 17), (⟨"VoidrentModel", "rentAt", "(II)I"⟩, 17), (⟨"VoidrentModel", "agreed", "(II)I"⟩, 17), (⟨"VoidrentModel", "greatestIndex", "(II)I"⟩, 17)]
theorem lw_r1 : ∀ q ∈ lw_privs_1, lw_okq q := List.forall_mem_cons.mpr ⟨lw_p0, List.forall_mem_cons.mpr ⟨lw_p1, List.forall_mem_cons.mpr ⟨lw_p2, List.forall_mem_cons.mpr ⟨lw_p3, List.forall_mem_cons.mpr ⟨lw_p4, List.forall_mem_cons.mpr ⟨lw_p5, List.forall_mem_cons.mpr ⟨lw_p6, List.forall_mem_cons.mpr ⟨lw_p7, List.forall_mem_cons.mpr ⟨lw_p8, List.forall_mem_cons.mpr ⟨lw_p9, List.forall_mem_cons.mpr ⟨lw_p10, List.forall_mem_cons.mpr ⟨lw_p11, List.forall_mem_cons.mpr ⟨lw_p12, List.forall_mem_cons.mpr ⟨lw_p13, List.forall_mem_cons.mpr ⟨lw_p14, List.forall_mem_cons.mpr ⟨lw_p15, fun _ h => absurd h List.not_mem_nil⟩⟩⟩⟩⟩⟩⟩⟩⟩⟩⟩⟩⟩⟩⟩⟩
theorem lw_p16 : lw_okq (⟨"VoidrentModel", "billOf", "(II)I"⟩, 17) := ⟨⟨by decide +kernel, by decide +kernel⟩, List.mem_of_getElem? (i := 440) (by decide +kernel), List.mem_of_getElem? (i := 599) (by decide +kernel), List.mem_of_getElem? (i := 600) (by decide +kernel)⟩
theorem lw_p17 : lw_okq (⟨"VoidrentModel", "daysIn", "(II)I"⟩, 17) := ⟨⟨by decide +kernel, by decide +kernel⟩, List.mem_of_getElem? (i := 440) (by decide +kernel), List.mem_of_getElem? (i := 619) (by decide +kernel), List.mem_of_getElem? (i := 620) (by decide +kernel)⟩
theorem lw_p18 : lw_okq (⟨"VoidrentModel", "partOf", "(II)I"⟩, 17) := ⟨⟨by decide +kernel, by decide +kernel⟩, List.mem_of_getElem? (i := 440) (by decide +kernel), List.mem_of_getElem? (i := 627) (by decide +kernel), List.mem_of_getElem? (i := 628) (by decide +kernel)⟩
theorem lw_p19 : lw_okq (⟨"VoidrentModel", "allAreas", "()I"⟩, 17) := ⟨⟨by decide +kernel, by decide +kernel⟩, List.mem_of_getElem? (i := 440) (by decide +kernel), List.mem_of_getElem? (i := 631) (by decide +kernel), List.mem_of_getElem? (i := 632) (by decide +kernel)⟩
def lw_privs_2 : List (MethodName × Nat) := [(⟨"VoidrentModel", "billOf", "(II)I"⟩, 17), (⟨"VoidrentModel", "daysIn", "(II)I"⟩, 17), (⟨"VoidrentModel", "partOf", "(II)I"⟩, 17), (⟨"VoidrentModel", "allAreas", "()I"⟩, 17)]
theorem lw_r2 : ∀ q ∈ lw_privs_2, lw_okq q := List.forall_mem_cons.mpr ⟨lw_p16, List.forall_mem_cons.mpr ⟨lw_p17, List.forall_mem_cons.mpr ⟨lw_p18, List.forall_mem_cons.mpr ⟨lw_p19, fun _ h => absurd h List.not_mem_nil⟩⟩⟩⟩
def lw_privs : List (MethodName × Nat) := lw_privs_1 ++ (lw_privs_2)
def lw_tbl : List Cond := k2_sels lw_privs ++ tables_1
theorem lw_privs_ok : ∀ q ∈ lw_privs, lw_okq q := by
  show ∀ q ∈ lw_privs_1 ++ (lw_privs_2), lw_okq q
  exact List.forall_mem_append.mpr ⟨lw_r1, lw_r2⟩
/-- the streams that the claim lets the run draw from -/
abbrev lw_cs : List Choice := [Jvm.Choice.named "NaN.bits"]
theorem lw_bits : nanBits ∈ lw_cs := by first | decide | exact List.mem_cons_self | simp [lw_cs, nanBits]
-- ===== end of PART A; then your names; then what follows =====
end
section
/-! ===== BEGIN words of one list among another's, by their places ===== -/
theorem goodIn_r {big : List Cond} (ws : List Cond) (ps : List Nat) (hp : ws = ps.filterMap (fun i => big[i]?)) (h : ws.all goodWord = true) : GoodIn big ws := by
  intro w hw
  have h1 := List.all_eq_true.mp h w hw
  rw [hp] at hw
  obtain ⟨i, -, hi⟩ := List.mem_filterMap.mp hw
  have hm : w ∈ big := by first | exact List.mem_of_getElem? hi | exact List.getElem?_mem hi
  exact ⟨hm, good_of_word h1⟩
theorem goodIn_app {big a b : List Cond} (ha : GoodIn big a) (hb : GoodIn big b) : GoodIn big (a ++ b) := fun w h => (List.mem_append.mp h).elim (ha w) (hb w)
theorem goodIn_ca {big a b : List Cond} {c : Cond} (ha : GoodIn big (c :: a)) (hb : GoodIn big b) : GoodIn big (c :: (a ++ b)) := fun w h => (List.mem_cons.mp h).elim (fun e => ha w (List.mem_cons.mpr (Or.inl e))) (fun h => (List.mem_append.mp h).elim (fun h => ha w (List.mem_cons.mpr (Or.inr h))) (hb w))
theorem goodIn_sub {big ws : List Cond} (hm : ∀ w ∈ ws, w ∈ big) (h : ws.all goodWord = true) : GoodIn big ws := fun w hw => ⟨hm w hw, good_of_word (List.all_eq_true.mp h w hw)⟩
/-! ===== END ===== -/

/-! ===== BEGIN exceptions that leave a method, and their catching by the caller (launches without stack traces) ===== -/
section VXA
/-! The laws vx_back, vx_callV, vx_callS, vx_callSW, vx_throw0, vx_throwS follow proofs of the library, with one case more: JvmDerived/Free/Laws.lean (Back.of_free), Shelf42/LK1.lean (callV, callS), Shelf/KitTraced.lean (throwNew0V, throwNewS). -/
/-- where a method has thrown q: the class by its name, the cell, what was written, the world -/
def vx_T (XC : String → State → State → Prop) (st : State) (q : Addr) (t : State) (mc ms : Nat) (free : Addr → Prop) : Prop :=
  ∃ (E : String) (ce : Cell) (L : List Loc), XC E st t ∧ t.heap[q]? = some ce ∧ ce.vm = .none ∧ st.vm.findClass E = some ce.cls ∧ st.WarmedH t.vm ∧ st.sameButNew ({ t with vm := st.vm } : State) L mc ms ∧ ∀ z ∈ L, free z.base
def vx_Q (Qc : Array Value → State → Outcome → State → Prop) (XC : String → State → State → Prop) (mc ms : Nat) (free : Addr → Prop) : Array Value → State → Outcome → State → Prop := fun a st o t =>
  (Qc a st o t ∧ ∃ L, FrameEnd st o t L mc ms ∧ ∀ q ∈ L, free q.base) ∨ ∃ q, o = .threw q ∧ vx_T XC st q t mc ms free
/-- a callee that returns or throws -/
def vx_Met (l : Launch) (y : MethodName) (ws : List Cond) (rm : Room) (Pc : Array Value → State → Prop) (Qc : Array Value → State → Outcome → State → Prop) (XC : String → State → State → Prop) (mc ms : Nat) (free : Addr → Prop) : Prop :=
  MetFree l y (headSpec ws rm) Pc (fun _ _ _ _ _ => True) (vx_Q Qc XC mc ms free)
def vx_Post (XC : String → State → State → Prop) (mc ms : Nat) (free : Addr → Prop) : Pt → Array Value → Addr → Pt → Prop := fun A a q B =>
  ∃ (g : JFrame) (mk : MethodId) (t : State) (L : List Loc) (E : String) (ce : Cell), B.U.heap = t.heap ∧ B.U.vm = t.vm ∧ XC E (A.U.calling g mk a) t ∧ t.heap[q]? = some ce ∧ ce.vm = .none ∧ A.U.vm.findClass E = some ce.cls ∧ B.locs = A.locs ++ L ∧ (∀ z ∈ L, free z.base) ∧ B.cells = A.cells + mc ∧ B.slots = A.slots + ms
def vx_Back (l : Launch) (R : Room) (p : Program) (e : Env) (below : List Frame) (s : State) (sargs : Array Value) (y : MethodName) (len W9 : Nat)
    (Pre : Pt → Array Value → Prop) (Post : Pt → Array Value → Option Value → Pt → Prop) (PostX : Pt → Array Value → Addr → Pt → Prop) : Prop :=
  ∀ (m : MethodId) (meth : Method) (c : Code) (A : Pt) (g : JFrame) (ig : Instr) (mk : MethodId) (a : Array Value),
    Stand p l e R s m sargs below meth c A.U A.locs A.cells A.slots → g.method = m → g.locals.size = c.maxLocals → decode c.code g.pc = .ok (ig, len) →
    2 * g.monitorRoom + (g.stack.map fun v => v.category).sum ≤ W9 → A.U.methodNamed? y = some mk → Pre A a →
    (∃ (v : Option Value) (B : Pt), Stand p l e R s m sargs below meth c B.U B.locs B.cells B.slots ∧ Post A a v B ∧
      Steps p.tables e below (doInvoke e (A.U.setTop g) [] mk a).1 (B.U.setTop { g with pc := g.pc + len, stack := v.toList ++ g.stack })) ∨
    (∃ (q : Addr) (B : Pt), Stand p l e R s m sargs below meth c B.U B.locs B.cells B.slots ∧ PostX A a q B ∧
      Steps p.tables e below (doInvoke e (A.U.setTop g) [] mk a).1 ((B.U.setTop g).pushFrame (.throwing q)))
section Payer
variable {l : Launch} {R : Room} {p : Program} {e : Env} {below : List Frame} {s : State} {sargs : Array Value} {y : MethodName} {len W9 : Nat}
theorem vx_back {ws : List Cond} {rm : Room} {Pc : Array Value → State → Prop} {Qc : Array Value → State → Outcome → State → Prop} {XC : String → State → State → Prop} {mc ms : Nat} {free : Addr → Prop} {bytes : ByteArray} {maxL : Nat} {ret : Option FieldType}
    (hM : vx_Met l y ws rm Pc Qc XC mc ms free) (hblind : FrameBlind Pc) (hrc : rm.cells = mc) (hrs : rm.slots = ms)
    (hframes : rm.frames + 1 ≤ R.frames) (hlocals : W9 + (maxL + 11) + rm.locals ≤ R.locals)
    (hws : ∀ w ∈ ws, ∀ a' U, s.WarmedH U.vm → w.before a' U = true) (hcode : Cond.code y bytes maxL ret ∈ ws) (hinit : ∀ a' U, s.WarmedH U.vm → (Cond.initialized y.cls).before a' U = true) :
    vx_Back l R p e below s sargs y len W9 (PreOf R mc ms Pc) (PostOf Qc mc ms free) (vx_Post XC mc ms free) := by
  intro m meth c A g ig mk a X hg hsize hdg hW hn hp
  have h1 : (headSpec ws rm).pre.before a A.U = true := atoms_intro fun w hw => hws w hw _ _ X.warmed
  have h2 : (Cond.code y bytes maxL ret).before a A.U = true := hws _ hcode _ _ X.warmed
  have h3 : (Cond.initialized y.cls).before a A.U = true := hinit _ _ X.warmed
  have h4 : A.cells + (headSpec ws rm).room.cells ≤ R.cells := by rw [show (headSpec ws rm).room.cells = mc from hrc]; exact hp.1
  have h5 : A.slots + (headSpec ws rm).room.slots ≤ R.slots := by rw [show (headSpec ws rm).room.slots = ms from hrs]; exact hp.2.1
  have hPc : Pc a (A.U.calling g mk a) := hblind _ _ _ _ hp.2.2
  obtain ⟨U, Ls, c0, s0⟩ := A
  dsimp only [Pt.U, Pt.locs, Pt.cells, Pt.slots] at h1 h2 h3 h4 h5 X hn hPc ⊢
  obtain ⟨methY, cY, hmY, hcY, -, hlY, -, -, -, -⟩ := Cond.code_spec hn h2
  obtain ⟨kY, hkY, -⟩ := className_of_methodNamed hn
  have hinitY : kY.init = .initialized := Cond.initialized_spec (findClass_of_methodNamed hn) hkY h3
  have h : At U g.method c below := by rw [hg]; exact X.here
  have hlocals9 : W9 + (maxL + 11) + (headSpec ws rm).room.locals ≤ R.locals := hlocals
  have happ : (headSpec ws rm).appliesLoose y e.platform (U.calling g mk a) = true :=
    Spec.appliesLoose_calling (g := g) h hdg hn hkY hinitY
      (X.room_calling (g := g) (R' := (headSpec ws rm).room) hsize hmY hcY hframes (by rw [hlY]; omega) h4 h5) h1
  obtain ⟨mid, hmid⟩ := h.above
  have hfr : (U.setTop g).frames = (.java g :: mid) ++ below := by rw [State.frames_setTop' g h.top, hmid]; rfl
  obtain ⟨o, s₂, hsteps, -, hend, hq⟩ := Steps.callFree hM p X.admits X.cas X.clock (acts := []) hfr happ hPc trivial
  have hq' : vx_Q Qc XC mc ms free a (U.calling g mk a) o s₂ := hq
  rw [State.frames_setTop' g h.top] at hend
  obtain ⟨g₀, hg0⟩ := Option.isSome_iff_exists.mp h.top
  obtain ⟨r, hr⟩ := State.topJava?_eq_some.mp hg0
  have hr' : (({ U with heap := s₂.heap, slotsUsed := s₂.slotsUsed } : State).setVm s₂.vm).frames = .java g₀ :: r := hr
  rcases hq' with ⟨hqc, L, hfe, hL⟩ | ⟨q, rfl, E, ce, L, hx, hce, hcv, hcl, hW₂, hsm, hL⟩
  · obtain ⟨⟨v, rfl⟩, hW₂, e2, q2, q3, q4, q5, q6⟩ := id hfe
    have e3 : s₂ = ({ (U.calling g mk a).setFrames s₂.frames with heap := s₂.heap, slotsUsed := s₂.slotsUsed } : State).setVm s₂.vm := by
      have : s₂ = ({ s₂ with vm := (U.calling g mk a).vm } : State).setVm s₂.vm := rfl
      rw [e2] at this
      exact this
    obtain ⟨c₂, i₂, len₂, hc₂, hd₂, hf₂⟩ := hend
    have hW' : U.WarmedH s₂.vm := hW₂
    have hcc : c₂ = c := by
      have h1 : s₂.code? g.method = U.code? g.method := by
        rw [State.code?_eq, State.code?_eq, hW'.alike.method?]
      exact Option.some.inj (hc₂.symm.trans (h1.trans h.code))
    subst hcc
    have hlen : len₂ = len := by rw [hdg] at hd₂; cases hd₂; rfl
    subst hlen
    have hs₂ : s₂ = (({ U with heap := s₂.heap, slotsUsed := s₂.slotsUsed } : State).setVm s₂.vm).setTop { g with pc := g.pc + len₂, stack := v.toList ++ g.stack } := by
      refine e3.trans ?_
      rw [hf₂, State.calling_eq h.top, State.setFrames_setFrames, State.setTop_of_frames _ hr', hr]
      rfl
    have hsame : U.sameButNew ({ U with heap := s₂.heap, slotsUsed := s₂.slotsUsed } : State) L mc ms := by
      refine ⟨?_, q2, q3, q4, q5, q6⟩
      obtain ⟨t, ht, -⟩ := State.frames_cons hr
      show ({ U with heap := s₂.heap, slotsUsed := s₂.slotsUsed } : State) = { U.setFrames U.frames with heap := s₂.heap, slotsUsed := s₂.slotsUsed }
      rw [State.setFrames_self ht]
    subst hg
    refine Or.inl ⟨v, ⟨(({ U with heap := s₂.heap, slotsUsed := s₂.slotsUsed } : State).setVm s₂.vm), Ls ++ L, c0 + mc, s0 + ms⟩,
      ⟨X.admits, X.cas, X.clock, X.frames, X.room, X.hears, X.method, X.code, (X.here.setHeapUsed s₂.heap s₂.slotsUsed).setVm hW'.alike, X.tail, State.WarmedH.trans X.warmed hW', X.limits, X.bytes, X.same.trans (hsame.setVm s.vm)⟩,
      ⟨g, mk, s₂, L, rfl, rfl, hqc, rfl, hL, rfl, rfl⟩, ?_⟩
    show Steps p.tables e below _ ((({ U with heap := s₂.heap, slotsUsed := s₂.slotsUsed } : State).setVm s₂.vm).setTop { g with pc := g.pc + len₂, stack := v.toList ++ g.stack })
    rw [← hs₂]
    exact hsteps
  · obtain ⟨e2, q2, q3, q4, q5, q6⟩ := id hsm
    have e3 : s₂ = ({ (U.calling g mk a).setFrames s₂.frames with heap := s₂.heap, slotsUsed := s₂.slotsUsed } : State).setVm s₂.vm := by
      have : s₂ = ({ s₂ with vm := (U.calling g mk a).vm } : State).setVm s₂.vm := rfl
      rw [e2] at this
      exact this
    have hf₂ : s₂.frames = .throwing q :: .java g :: U.frames.tail := hend
    have hW' : U.WarmedH s₂.vm := hW₂
    have hs₂ : s₂ = ((({ U with heap := s₂.heap, slotsUsed := s₂.slotsUsed } : State).setVm s₂.vm).setTop g).pushFrame (.throwing q) := by
      refine e3.trans ?_
      rw [hf₂, State.calling_eq h.top, State.setFrames_setFrames, State.pushFrame, State.frames_setTop _ hr', State.setTop_of_frames _ hr', State.setFrames_setFrames, hr]
      rfl
    have hsame : U.sameButNew ({ U with heap := s₂.heap, slotsUsed := s₂.slotsUsed } : State) L mc ms := by
      refine ⟨?_, q2, q3, q4, q5, q6⟩
      obtain ⟨t, ht, -⟩ := State.frames_cons hr
      show ({ U with heap := s₂.heap, slotsUsed := s₂.slotsUsed } : State) = { U.setFrames U.frames with heap := s₂.heap, slotsUsed := s₂.slotsUsed }
      rw [State.setFrames_self ht]
    subst hg
    refine Or.inr ⟨q, ⟨(({ U with heap := s₂.heap, slotsUsed := s₂.slotsUsed } : State).setVm s₂.vm), Ls ++ L, c0 + mc, s0 + ms⟩,
      ⟨X.admits, X.cas, X.clock, X.frames, X.room, X.hears, X.method, X.code, (X.here.setHeapUsed s₂.heap s₂.slotsUsed).setVm hW'.alike, X.tail, State.WarmedH.trans X.warmed hW', X.limits, X.bytes, X.same.trans (hsame.setVm s.vm)⟩,
      ⟨g, mk, s₂, L, E, ce, rfl, rfl, hx, hce, hcv, hcl, rfl, hL, rfl, rfl⟩, ?_⟩
    show Steps p.tables e below _ (((({ U with heap := s₂.heap, slotsUsed := s₂.slotsUsed } : State).setVm s₂.vm).setTop g).pushFrame (.throwing q))
    rw [← hs₂]
    exact hsteps
end Payer
section Calls
variable {p : Program} {l : Launch} {e : Env} {R : Room} {s : State} {m : MethodId} {args : Array Value} {below : List Frame} {meth : Method} {c : Code} {T : State} {locs : List Loc} {cells slots : Nat}
theorem vx_callV (X : Stand p l e R s m args below meth c T locs cells slots) (hexec : p.tables.exec = Jvm.exec) {own C : String} {index : Nat} {y : MethodName} {bytes : ByteArray} {maxL : Nat} {ret : Option FieldType}
    (hown : s.vm.findClass own = some m.cls) (hlink : (Cond.methodLink own index y).before args s = true) (hinst : (Cond.instanceMethod y).before args s = true) (hsel : (Cond.selects C y y).before args s = true)
    (hcode : (Cond.code y bytes maxL ret).before args s = true) (hy : y.cls ≠ "java/lang/invoke/MethodHandle" ∧ y.cls ≠ "java/lang/invoke/VarHandle")
    {W9 : Nat} {Pre : Pt → Array Value → Prop} {Post : Pt → Array Value → Option Value → Pt → Prop} {PostX : Pt → Array Value → Addr → Pt → Prop} (hK : vx_Back l R p e below s args y 3 W9 Pre Post PostX)
    {b : Addr} {cellB : Cell} (hcell : T.heap[b]? = some cellB) (hobj : cellB.vm.isStatics = false) (hcls : s.vm.findClass C = some cellB.cls)
    {g : JFrame} (hg : g.method = m) (hsize : g.locals.size = c.maxLocals) {argsL rest : List Value} (hlen : ∀ sig, parseMethodDescriptor y.desc = some sig → argsL.length = sig.parameters.length)
    (hstack : g.stack = argsL.reverse ++ .ref b :: rest) (hW : 2 * g.monitorRoom + (rest.map fun v => v.category).sum ≤ W9) (hdg : decode c.code g.pc = .ok (.invokevirtual index, 3))
    (hpre : ∀ vm₁, s.WarmedH vm₁ → Pre ⟨T.setVm vm₁, locs, cells, slots⟩ (Value.ref b :: argsL).toArray) :
    (∃ (v : Option Value) (vm₁ : Vm) (B : Pt), s.WarmedH vm₁ ∧ Stand p l e R s m args below meth c B.U B.locs B.cells B.slots ∧ Post ⟨T.setVm vm₁, locs, cells, slots⟩ (Value.ref b :: argsL).toArray v B ∧
      ∀ target, Steps p.tables e below (B.U.setTop { g with pc := g.pc + 3, stack := v.toList ++ rest }) target → Steps p.tables e below (T.setTop g) target) ∨
    (∃ (q : Addr) (vm₁ : Vm) (B : Pt), s.WarmedH vm₁ ∧ Stand p l e R s m args below meth c B.U B.locs B.cells B.slots ∧ PostX ⟨T.setVm vm₁, locs, cells, slots⟩ (Value.ref b :: argsL).toArray q B ∧
      Steps p.tables e below (T.setTop g) ((B.U.setTop { g with stack := rest }).pushFrame (.throwing q))) := by
  obtain ⟨mk, methM, hnamed, hmethM, hstM, habM⟩ := Cond.instanceMethod_spec hinst
  obtain ⟨methM', cM, hmethM', -, -, -, -, -, -, hsigM⟩ := Cond.code_spec hnamed hcode
  cases hmethM.symm.trans hmethM'
  obtain ⟨c2, r2, m2, q1, q2, q3, q4, kP, hkP, hkPi⟩ := Cond.selects_spec hsel
  cases hcls.symm.trans q1
  cases (State.methodFound?_of_named hnamed hy).symm.trans q2
  cases hnamed.symm.trans q3
  have hselP : selectMethod e.platform s.vm cellB.cls mk = .method mk := by rw [Launch.admits_selectMethod X.admits]; exact q4
  obtain ⟨vm₁, X₁, hstep₁⟩ := X.invokevirtual hexec hown hlink hnamed hmethM hstM hkP hkPi hy (a := b) (cell := cellB) hcell
    (fun z h => by rw [h] at hobj; cases hobj) hselP hmethM habM hkP hkPi (g := g) hg (argsL := argsL) (rest := rest) (hlen _ hsigM) hstack hdg
  rcases hK m meth c ⟨T.setVm vm₁, locs, cells, slots⟩ { g with stack := rest } (.invokevirtual index) mk (Value.ref b :: argsL).toArray X₁ hg hsize hdg hW (X₁.named hnamed) (hpre vm₁ X₁.warmed) with ⟨v, B, X', hpost, hsteps⟩ | ⟨q, B, X', hpost, hsteps⟩
  · exact Or.inl ⟨v, vm₁, B, X₁.warmed, X', hpost, fun target h => hstep₁ _ fun acts => by rw [doInvoke_state]; exact hsteps.trans h⟩
  · exact Or.inr ⟨q, vm₁, B, X₁.warmed, X', hpost, hstep₁ _ fun acts => by rw [doInvoke_state]; exact hsteps⟩
theorem vx_callS (X : Stand p l e R s m args below meth c T locs cells slots) (hexec : p.tables.exec = Jvm.exec) {own : String} {index : Nat} {y : MethodName} {bytes : ByteArray} {maxL : Nat} {ret : Option FieldType}
    (hown : s.vm.findClass own = some m.cls) (hlink : (Cond.methodLink own index y).before args s = true) (hstat : (Cond.static y).before args s = true) (hinit : (Cond.initialized y.cls).before args s = true)
    (hcode : (Cond.code y bytes maxL ret).before args s = true) (hy : y.cls ≠ "java/lang/invoke/MethodHandle" ∧ y.cls ≠ "java/lang/invoke/VarHandle")
    {W9 : Nat} {Pre : Pt → Array Value → Prop} {Post : Pt → Array Value → Option Value → Pt → Prop} {PostX : Pt → Array Value → Addr → Pt → Prop} (hK : vx_Back l R p e below s args y 3 W9 Pre Post PostX)
    {g : JFrame} (hg : g.method = m) (hsize : g.locals.size = c.maxLocals) {argsL rest : List Value} (hlen : ∀ sig, parseMethodDescriptor y.desc = some sig → argsL.length = sig.parameters.length)
    (hstack : g.stack = argsL.reverse ++ rest) (hW : 2 * g.monitorRoom + (rest.map fun v => v.category).sum ≤ W9) (hdg : decode c.code g.pc = .ok (.invokestatic index, 3))
    (hpre : ∀ vm₁, s.WarmedH vm₁ → Pre ⟨T.setVm vm₁, locs, cells, slots⟩ argsL.toArray) :
    (∃ (v : Option Value) (vm₁ : Vm) (B : Pt), s.WarmedH vm₁ ∧ Stand p l e R s m args below meth c B.U B.locs B.cells B.slots ∧ Post ⟨T.setVm vm₁, locs, cells, slots⟩ argsL.toArray v B ∧
      ∀ target, Steps p.tables e below (B.U.setTop { g with pc := g.pc + 3, stack := v.toList ++ rest }) target → Steps p.tables e below (T.setTop g) target) ∨
    (∃ (q : Addr) (vm₁ : Vm) (B : Pt), s.WarmedH vm₁ ∧ Stand p l e R s m args below meth c B.U B.locs B.cells B.slots ∧ PostX ⟨T.setVm vm₁, locs, cells, slots⟩ argsL.toArray q B ∧
      Steps p.tables e below (T.setTop g) ((B.U.setTop { g with stack := rest }).pushFrame (.throwing q))) := by
  obtain ⟨mk, hnamed⟩ := Cond.code_named hcode
  obtain ⟨methM, cM, hmethM, -, -, -, -, -, -, hsigM⟩ := Cond.code_spec hnamed hcode
  have hstatic : methM.isStatic = true := Cond.static_spec hnamed hmethM hstat
  obtain ⟨kP, hkP, -⟩ := className_of_methodNamed hnamed
  have hinitP : kP.init = .initialized := Cond.initialized_spec (findClass_of_methodNamed hnamed) hkP hinit
  obtain ⟨vm₁, X₁, hstep₁⟩ := X.invokestatic hexec hown hlink hnamed hmethM hstatic hkP hinitP hy (g := g) hg (argsL := argsL) (rest := rest) (hlen _ hsigM) hstack hdg
  rcases hK m meth c ⟨T.setVm vm₁, locs, cells, slots⟩ { g with stack := rest } (.invokestatic index) mk argsL.toArray X₁ hg hsize hdg hW (X₁.named hnamed) (hpre vm₁ X₁.warmed) with ⟨v, B, X', hpost, hsteps⟩ | ⟨q, B, X', hpost, hsteps⟩
  · exact Or.inl ⟨v, vm₁, B, X₁.warmed, X', hpost, fun target h => hstep₁ _ fun acts => by rw [doInvoke_state]; exact hsteps.trans h⟩
  · exact Or.inr ⟨q, vm₁, B, X₁.warmed, X', hpost, hstep₁ _ fun acts => by rw [doInvoke_state]; exact hsteps⟩
end Calls
theorem vx_cls {s : State} {T : State} {vm₁ : Vm} {E : String} {k : ClassId} (hW : s.WarmedH vm₁) (h : (T.setVm vm₁).vm.findClass E = some k) : s.vm.findClass E = some k := by
  have h1 : vm₁.findClass E = some k := h
  rw [hW.alike.findClass] at h1
  exact h1
/-- the method's frame g, with q thrown over it -/
def vx_W (p : Program) (l : Launch) (e : Env) (R : Room) (s : State) (m : MethodId) (args : Array Value) (below : List Frame) (meth : Method) (c : Code) (H : Heap) (locs : List Loc) (cells slots : Nat) (Q : State → Prop) (g : JFrame) (q : Addr) : Prop :=
  ∀ T : State, T.heap = H → Stand p l e R s m args below meth c T locs cells slots → ∃ t, Steps p.tables e below ((T.setTop g).pushFrame (.throwing q)) t ∧ Q t
def vx_Run (p : Program) (l : Launch) (e : Env) (R : Room) (s : State) (m : MethodId) (args : Array Value) (below : List Frame) (meth : Method) (c : Code) (H : Heap) (locs : List Loc) (cells slots mc ms : Nat) (g : JFrame) (rest : List Value) (Qa : State → Outcome → State → Prop) (XC : String → State → State → Prop) (free : Addr → Prop) : Prop :=
  ∀ T : State, T.heap = H → Stand p l e R s m args below meth c T locs cells slots →
    (∃ (v : Option Value) (st₀ t T' : State) (L : List Loc), st₀.heap = H ∧ Stand p l e R s m args below meth c T' (locs ++ L) (cells + mc) (slots + ms) ∧ (∀ q ∈ L, free q.base) ∧ T'.heap = t.heap ∧ T'.vm = t.vm ∧ Qa st₀ (.returned v) t ∧
      Goes p e below T g T' { g with pc := g.pc + 3, stack := v.toList ++ rest }) ∨
    (∃ (q : Addr) (st₀ t T' : State) (L : List Loc) (E : String) (ce : Cell), st₀.heap = H ∧ Stand p l e R s m args below meth c T' (locs ++ L) (cells + mc) (slots + ms) ∧ (∀ z ∈ L, free z.base) ∧ T'.heap = t.heap ∧ T'.vm = t.vm ∧ XC E st₀ t ∧ t.heap[q]? = some ce ∧ ce.vm = .none ∧ s.vm.findClass E = some ce.cls ∧
      Steps p.tables e below (T.setTop g) ((T'.setTop { g with stack := rest }).pushFrame (.throwing q)))
def vx_X {S : Type} (px : S → Prop) (B : String → S → State → Prop) (A : Nat → Prop) : String → State → State → Prop := fun E st t => ∃ u : S, px u ∧ B E u t ∧ va_F A st t
section Runs
variable {p : Program} {l : Launch} {e : Env} {R : Room} {s : State} {m : MethodId} {args : Array Value} {below : List Frame} {meth : Method} {c : Code} {H : Heap} {locs : List Loc} {cells slots : Nat}
variable {y : MethodName} {bytes cc : ByteArray} {maxL nL mc ms n index : Nat} {ret : Option FieldType} {ws : List Cond} {rm : Room} {Pc : Array Value → State → Prop} {Qc : Array Value → State → Outcome → State → Prop} {XC : String → State → State → Prop} {free : Addr → Prop} {Ts : List Cond} {own C : String} {b : Addr} {As rest : List Value} {g : JFrame}
theorem vx_callBack (cb : CallB R s args own index y bytes maxL ret ws rm mc ms n) (hM : vx_Met l y ws rm Pc Qc XC mc ms free) (hbl : FrameBlind Pc) : vx_Back l R p e below s args y 3 8 (PreOf R mc ms Pc) (PostOf Qc mc ms free) (vx_Post XC mc ms free) := by
  obtain ⟨hrc, hrs, hfr, hlo, hws, hcw, -, hini, -⟩ := cb
  exact vx_back (bytes := bytes) (maxL := maxL) (ret := ret) hM hbl hrc hrs hfr hlo hws hcw (fun a' U hW => word_at hW (Or.inl (by first | rfl | simp [Cond.onTables, Cond.keeps, Cond.steady])) hini)
theorem vx_runV (S : CallFix p m c cc nL s args Ts own) (hM : vx_Met l y ws rm Pc Qc XC mc ms free) (cw : CallW R s args own C index y bytes maxL ret ws rm mc ms n) (hp : PreV s H C b Pc As)
    (hg : g.method = m) (hn : As.length = n) (hsize : g.locals.size = nL) (hstack : g.stack = As.reverse ++ .ref b :: rest) (hW : 2 * g.monitorRoom + (rest.map fun v => v.category).sum ≤ 8) (hdg : decode cc g.pc = .ok (.invokevirtual index, 3)) (hf : cells + mc ≤ R.cells ∧ slots + ms ≤ R.slots) :
    vx_Run p l e R s m args below meth c H locs cells slots mc ms g rest (Qc (Value.ref b :: As).toArray) XC free := by
  have hK : vx_Back l R p e below s args y 3 8 (PreOf R mc ms Pc) (PostOf Qc mc ms free) (vx_Post XC mc ms free) := vx_callBack cw.1 hM hp.1
  obtain ⟨⟨-, -, -, -, -, -, hcode, -, hy, hlen, hl⟩, hin, hse⟩ := cw
  obtain ⟨hx, hb, hml, ho, -⟩ := S
  obtain ⟨-, ⟨cellB, hcB, hoB, hclB⟩, hPc⟩ := hp
  intro T hT X
  rcases vx_callV X hx (C := C) (bytes := bytes) (maxL := maxL) (ret := ret) ho hl hin hse hcode hy hK (by rw [hT]; exact hcB) hoB hclB hg (hsize.trans hml.symm) (argsL := As) (rest := rest) (fun sig h => hn.trans (hlen sig h)) hstack hW (by rw [hb]; exact hdg)
    (fun vm₁ hW₁ => ⟨hf.1, hf.2, hPc (T.setVm vm₁) hT hW₁⟩) with ⟨v, vm₁, ⟨U', l2, c2, s2⟩, hW₁, X', ⟨g', mk, t, L, e1, e2, hq, h1, hL, h2, h3⟩, st⟩ | ⟨q, vm₁, ⟨U', l2, c2, s2⟩, hW₁, X', ⟨g', mk, t, L, E, ce, e1, e2, hq, hce, hcv, hcl, h1, hL, h2, h3⟩, st⟩
  · dsimp only [Pt.U, Pt.locs, Pt.cells, Pt.slots] at X' e1 e2 h1 h2 h3 st
    subst h1; subst h2; subst h3
    exact Or.inl ⟨v, (T.setVm vm₁).calling g' mk (Value.ref b :: As).toArray, t, U', L, hT, X', hL, e1, e2, hq, st⟩
  · dsimp only [Pt.U, Pt.locs, Pt.cells, Pt.slots] at X' e1 e2 h1 h2 h3 st hcl
    subst h1; subst h2; subst h3
    exact Or.inr ⟨q, (T.setVm vm₁).calling g' mk (Value.ref b :: As).toArray, t, U', L, E, ce, hT, X', hL, e1, e2, hq, hce, hcv, vx_cls hW₁ hcl, st⟩
theorem vx_runS (S : CallFix p m c cc nL s args Ts own) (hM : vx_Met l y ws rm Pc Qc XC mc ms free) (cw : CallB R s args own index y bytes maxL ret ws rm mc ms n ∧ (Cond.static y).before args s = true) (hp : PreS s H Pc As)
    (hg : g.method = m) (hn : As.length = n) (hsize : g.locals.size = nL) (hstack : g.stack = As.reverse ++ rest) (hW : 2 * g.monitorRoom + (rest.map fun v => v.category).sum ≤ 8) (hdg : decode cc g.pc = .ok (.invokestatic index, 3)) (hf : cells + mc ≤ R.cells ∧ slots + ms ≤ R.slots) :
    vx_Run p l e R s m args below meth c H locs cells slots mc ms g rest (Qc As.toArray) XC free := by
  have hK : vx_Back l R p e below s args y 3 8 (PreOf R mc ms Pc) (PostOf Qc mc ms free) (vx_Post XC mc ms free) := vx_callBack cw.1 hM hp.1
  obtain ⟨⟨-, -, -, -, -, -, hcode, hini, hy, hlen, hl⟩, hstt⟩ := cw
  obtain ⟨hx, hb, hml, ho, -⟩ := S
  intro T hT X
  rcases vx_callS X hx (bytes := bytes) (maxL := maxL) (ret := ret) ho hl hstt hini hcode hy hK hg (hsize.trans hml.symm) (argsL := As) (rest := rest) (fun sig h => hn.trans (hlen sig h)) hstack hW (by rw [hb]; exact hdg)
    (fun vm₁ hW₁ => ⟨hf.1, hf.2, hp.2 (T.setVm vm₁) hT hW₁⟩) with ⟨v, vm₁, ⟨U', l2, c2, s2⟩, hW₁, X', ⟨g', mk, t, L, e1, e2, hq, h1, hL, h2, h3⟩, st⟩ | ⟨q, vm₁, ⟨U', l2, c2, s2⟩, hW₁, X', ⟨g', mk, t, L, E, ce, e1, e2, hq, hce, hcv, hcl, h1, hL, h2, h3⟩, st⟩
  · dsimp only [Pt.U, Pt.locs, Pt.cells, Pt.slots] at X' e1 e2 h1 h2 h3 st
    subst h1; subst h2; subst h3
    exact Or.inl ⟨v, (T.setVm vm₁).calling g' mk As.toArray, t, U', L, hT, X', hL, e1, e2, hq, st⟩
  · dsimp only [Pt.U, Pt.locs, Pt.cells, Pt.slots] at X' e1 e2 h1 h2 h3 st hcl
    subst h1; subst h2; subst h3
    exact Or.inr ⟨q, (T.setVm vm₁).calling g' mk As.toArray, t, U', L, E, ce, hT, X', hL, e1, e2, hq, hce, hcv, vx_cls hW₁ hcl, st⟩
end Runs
section Rows
variable {p : Program} {l : Launch} {e : Env} {R : Room} {s : State} {m : MethodId} {args : Array Value} {below : List Frame} {meth : Method} {c : Code} {H : Heap} {locs : List Loc} {cells slots : Nat} {Q : State → Prop}
variable {mc ms : Nat} {free : Addr → Prop} {A0 A1 : Nat → Prop} {H0 : Heap} {a : Array Value} {pc : Nat} {ls : Array Slot} {st0 rest : List Value}
theorem vx_keep {st₀ t T' : State} {L : List Loc} (h0 : st₀.heap = H) (e1 : T'.heap = t.heap) (hS : va_S A0 H0 H locs) (hA : ∀ q, q < H.size → A1 q → A0 q) (hf : ∀ q, free q → A0 q) (hL : ∀ q ∈ L, free q.base) (hF : va_F A1 st₀ t) :
    H.size ≤ T'.heap.size ∧ (∀ q : Nat, q < H.size → ¬ A1 q → T'.heap[q]? = H[q]?) ∧ va_S A0 H0 T'.heap (locs ++ L) := by
  obtain ⟨hz, hk⟩ := hF
  rw [h0] at hz hk
  exact ⟨by rw [e1]; exact hz, fun q h1 h2 => by rw [e1]; exact hk q h1 h2,
    ⟨Nat.le_trans hS.1 (by rw [e1]; exact hz), fun q h1 h2 => by rw [e1, hk q (Nat.lt_of_lt_of_le h1 hS.1) (fun z => h2 (hA q (Nat.lt_of_lt_of_le h1 hS.1) z))]; exact hS.2.1 q h1 h2, fun q hq => by
      rcases List.mem_append.mp hq with h | h
      · exact hS.2.2 q h
      · exact hf _ (hL q h)⟩⟩
theorem vx_calli {S SX : Type} {post : Int32 → S → Prop} {px : SX → Prop} {B : S → State → Prop} {BX : String → SX → State → Prop} {AX : Nat → Prop} (hr : vx_Run p l e R s m args below meth c H locs cells slots mc ms (F0 m pc ls st0) rest (va_Qi post B A1 a) (vx_X px BX AX) free) (hS : va_S A0 H0 H locs) (hA : ∀ q, q < H.size → A1 q → A0 q) (hf : ∀ q, free q → A0 q) (hAX : ∀ q, q < H.size → AX q → A0 q)
    (kx : ∀ (E : String) (ce : Cell) (q9 : Addr) (u : SX) (t : State) (H1 : Heap) (locs1 : List Loc), t.heap = H1 → s.vm.Alike t.vm → px u → BX E u t → H.size ≤ H1.size → (∀ q : Nat, q < H.size → ¬ AX q → H1[q]? = H[q]?) → va_S A0 H0 H1 locs1 → H1[q9]? = some ce → ce.vm = .none → s.vm.findClass E = some ce.cls → vx_W p l e R s m args below meth c H1 locs1 (cells + mc) (slots + ms) Q (F0 m pc ls rest) q9)
    (kk : ∀ (r : Int32) (u : S) (t : State) (H1 : Heap) (locs1 : List Loc), t.heap = H1 → s.vm.Alike t.vm → post r u → B u t → H.size ≤ H1.size → (∀ q : Nat, q < H.size → ¬ A1 q → H1[q]? = H[q]?) → va_S A0 H0 H1 locs1 → W p l e R s m args below meth c H1 locs1 (cells + mc) (slots + ms) Q (F0 m (pc + 3) ls (.int r :: rest))) : W p l e R s m args below meth c H locs cells slots Q (F0 m pc ls st0) := by
  intro T hT X
  rcases hr T hT X with ⟨v, st₀, t, T', L, h0, X', hL, e1, e2, ⟨⟨r, u, hv, hp, hb⟩, hF⟩, st⟩ | ⟨q, st₀, t, T', L, E, ce, h0, X', hL, e1, e2, ⟨u, hp, hb, hF⟩, hce, hcv, hcl, st⟩
  · cases hv
    obtain ⟨k1, k2, k3⟩ := vx_keep h0 e1 hS hA hf hL hF
    obtain ⟨t2, a1, b1⟩ := kk r u t T'.heap (locs ++ L) e1.symm (by rw [← e2]; exact X'.warmed.alike) hp hb k1 k2 k3 T' rfl X'
    exact ⟨t2, st t2 a1, b1⟩
  · obtain ⟨k1, k2, k3⟩ := vx_keep h0 e1 hS hAX hf hL hF
    obtain ⟨t2, a1, b1⟩ := kx E ce q u t T'.heap (locs ++ L) e1.symm (by rw [← e2]; exact X'.warmed.alike) hp hb k1 k2 k3 (by rw [e1]; exact hce) hcv hcl T' rfl X'
    exact ⟨t2, st.trans a1, b1⟩
theorem vx_calll {S SX : Type} {post : Int64 → S → Prop} {px : SX → Prop} {B : S → State → Prop} {BX : String → SX → State → Prop} {AX : Nat → Prop} (hr : vx_Run p l e R s m args below meth c H locs cells slots mc ms (F0 m pc ls st0) rest (va_Ql post B A1 a) (vx_X px BX AX) free) (hS : va_S A0 H0 H locs) (hA : ∀ q, q < H.size → A1 q → A0 q) (hf : ∀ q, free q → A0 q) (hAX : ∀ q, q < H.size → AX q → A0 q)
    (kx : ∀ (E : String) (ce : Cell) (q9 : Addr) (u : SX) (t : State) (H1 : Heap) (locs1 : List Loc), t.heap = H1 → s.vm.Alike t.vm → px u → BX E u t → H.size ≤ H1.size → (∀ q : Nat, q < H.size → ¬ AX q → H1[q]? = H[q]?) → va_S A0 H0 H1 locs1 → H1[q9]? = some ce → ce.vm = .none → s.vm.findClass E = some ce.cls → vx_W p l e R s m args below meth c H1 locs1 (cells + mc) (slots + ms) Q (F0 m pc ls rest) q9)
    (kk : ∀ (r : Int64) (u : S) (t : State) (H1 : Heap) (locs1 : List Loc), t.heap = H1 → s.vm.Alike t.vm → post r u → B u t → H.size ≤ H1.size → (∀ q : Nat, q < H.size → ¬ A1 q → H1[q]? = H[q]?) → va_S A0 H0 H1 locs1 → W p l e R s m args below meth c H1 locs1 (cells + mc) (slots + ms) Q (F0 m (pc + 3) ls (.long r :: rest))) : W p l e R s m args below meth c H locs cells slots Q (F0 m pc ls st0) := by
  intro T hT X
  rcases hr T hT X with ⟨v, st₀, t, T', L, h0, X', hL, e1, e2, ⟨⟨r, u, hv, hp, hb⟩, hF⟩, st⟩ | ⟨q, st₀, t, T', L, E, ce, h0, X', hL, e1, e2, ⟨u, hp, hb, hF⟩, hce, hcv, hcl, st⟩
  · cases hv
    obtain ⟨k1, k2, k3⟩ := vx_keep h0 e1 hS hA hf hL hF
    obtain ⟨t2, a1, b1⟩ := kk r u t T'.heap (locs ++ L) e1.symm (by rw [← e2]; exact X'.warmed.alike) hp hb k1 k2 k3 T' rfl X'
    exact ⟨t2, st t2 a1, b1⟩
  · obtain ⟨k1, k2, k3⟩ := vx_keep h0 e1 hS hAX hf hL hF
    obtain ⟨t2, a1, b1⟩ := kx E ce q u t T'.heap (locs ++ L) e1.symm (by rw [← e2]; exact X'.warmed.alike) hp hb k1 k2 k3 (by rw [e1]; exact hce) hcv hcl T' rfl X'
    exact ⟨t2, st.trans a1, b1⟩
theorem vx_callf {S SX : Type} {post : UInt32 → S → Prop} {px : SX → Prop} {B : S → State → Prop} {BX : String → SX → State → Prop} {AX : Nat → Prop} (hr : vx_Run p l e R s m args below meth c H locs cells slots mc ms (F0 m pc ls st0) rest (va_Qf post B A1 a) (vx_X px BX AX) free) (hS : va_S A0 H0 H locs) (hA : ∀ q, q < H.size → A1 q → A0 q) (hf : ∀ q, free q → A0 q) (hAX : ∀ q, q < H.size → AX q → A0 q)
    (kx : ∀ (E : String) (ce : Cell) (q9 : Addr) (u : SX) (t : State) (H1 : Heap) (locs1 : List Loc), t.heap = H1 → s.vm.Alike t.vm → px u → BX E u t → H.size ≤ H1.size → (∀ q : Nat, q < H.size → ¬ AX q → H1[q]? = H[q]?) → va_S A0 H0 H1 locs1 → H1[q9]? = some ce → ce.vm = .none → s.vm.findClass E = some ce.cls → vx_W p l e R s m args below meth c H1 locs1 (cells + mc) (slots + ms) Q (F0 m pc ls rest) q9)
    (kk : ∀ (r : UInt32) (u : S) (t : State) (H1 : Heap) (locs1 : List Loc), t.heap = H1 → s.vm.Alike t.vm → post r u → B u t → H.size ≤ H1.size → (∀ q : Nat, q < H.size → ¬ A1 q → H1[q]? = H[q]?) → va_S A0 H0 H1 locs1 → W p l e R s m args below meth c H1 locs1 (cells + mc) (slots + ms) Q (F0 m (pc + 3) ls (.float r :: rest))) : W p l e R s m args below meth c H locs cells slots Q (F0 m pc ls st0) := by
  intro T hT X
  rcases hr T hT X with ⟨v, st₀, t, T', L, h0, X', hL, e1, e2, ⟨⟨r, u, hv, hp, hb⟩, hF⟩, st⟩ | ⟨q, st₀, t, T', L, E, ce, h0, X', hL, e1, e2, ⟨u, hp, hb, hF⟩, hce, hcv, hcl, st⟩
  · cases hv
    obtain ⟨k1, k2, k3⟩ := vx_keep h0 e1 hS hA hf hL hF
    obtain ⟨t2, a1, b1⟩ := kk r u t T'.heap (locs ++ L) e1.symm (by rw [← e2]; exact X'.warmed.alike) hp hb k1 k2 k3 T' rfl X'
    exact ⟨t2, st t2 a1, b1⟩
  · obtain ⟨k1, k2, k3⟩ := vx_keep h0 e1 hS hAX hf hL hF
    obtain ⟨t2, a1, b1⟩ := kx E ce q u t T'.heap (locs ++ L) e1.symm (by rw [← e2]; exact X'.warmed.alike) hp hb k1 k2 k3 (by rw [e1]; exact hce) hcv hcl T' rfl X'
    exact ⟨t2, st.trans a1, b1⟩
theorem vx_calld {S SX : Type} {post : UInt64 → S → Prop} {px : SX → Prop} {B : S → State → Prop} {BX : String → SX → State → Prop} {AX : Nat → Prop} (hr : vx_Run p l e R s m args below meth c H locs cells slots mc ms (F0 m pc ls st0) rest (va_Qd post B A1 a) (vx_X px BX AX) free) (hS : va_S A0 H0 H locs) (hA : ∀ q, q < H.size → A1 q → A0 q) (hf : ∀ q, free q → A0 q) (hAX : ∀ q, q < H.size → AX q → A0 q)
    (kx : ∀ (E : String) (ce : Cell) (q9 : Addr) (u : SX) (t : State) (H1 : Heap) (locs1 : List Loc), t.heap = H1 → s.vm.Alike t.vm → px u → BX E u t → H.size ≤ H1.size → (∀ q : Nat, q < H.size → ¬ AX q → H1[q]? = H[q]?) → va_S A0 H0 H1 locs1 → H1[q9]? = some ce → ce.vm = .none → s.vm.findClass E = some ce.cls → vx_W p l e R s m args below meth c H1 locs1 (cells + mc) (slots + ms) Q (F0 m pc ls rest) q9)
    (kk : ∀ (r : UInt64) (u : S) (t : State) (H1 : Heap) (locs1 : List Loc), t.heap = H1 → s.vm.Alike t.vm → post r u → B u t → H.size ≤ H1.size → (∀ q : Nat, q < H.size → ¬ A1 q → H1[q]? = H[q]?) → va_S A0 H0 H1 locs1 → W p l e R s m args below meth c H1 locs1 (cells + mc) (slots + ms) Q (F0 m (pc + 3) ls (.double r :: rest))) : W p l e R s m args below meth c H locs cells slots Q (F0 m pc ls st0) := by
  intro T hT X
  rcases hr T hT X with ⟨v, st₀, t, T', L, h0, X', hL, e1, e2, ⟨⟨r, u, hv, hp, hb⟩, hF⟩, st⟩ | ⟨q, st₀, t, T', L, E, ce, h0, X', hL, e1, e2, ⟨u, hp, hb, hF⟩, hce, hcv, hcl, st⟩
  · cases hv
    obtain ⟨k1, k2, k3⟩ := vx_keep h0 e1 hS hA hf hL hF
    obtain ⟨t2, a1, b1⟩ := kk r u t T'.heap (locs ++ L) e1.symm (by rw [← e2]; exact X'.warmed.alike) hp hb k1 k2 k3 T' rfl X'
    exact ⟨t2, st t2 a1, b1⟩
  · obtain ⟨k1, k2, k3⟩ := vx_keep h0 e1 hS hAX hf hL hF
    obtain ⟨t2, a1, b1⟩ := kx E ce q u t T'.heap (locs ++ L) e1.symm (by rw [← e2]; exact X'.warmed.alike) hp hb k1 k2 k3 (by rw [e1]; exact hce) hcv hcl T' rfl X'
    exact ⟨t2, st.trans a1, b1⟩
theorem vx_callv {S SX : Type} {post : S → Prop} {px : SX → Prop} {B : S → State → Prop} {BX : String → SX → State → Prop} {AX : Nat → Prop} (hr : vx_Run p l e R s m args below meth c H locs cells slots mc ms (F0 m pc ls st0) rest (va_Qv post B A1 a) (vx_X px BX AX) free) (hS : va_S A0 H0 H locs) (hA : ∀ q, q < H.size → A1 q → A0 q) (hf : ∀ q, free q → A0 q) (hAX : ∀ q, q < H.size → AX q → A0 q)
    (kx : ∀ (E : String) (ce : Cell) (q9 : Addr) (u : SX) (t : State) (H1 : Heap) (locs1 : List Loc), t.heap = H1 → s.vm.Alike t.vm → px u → BX E u t → H.size ≤ H1.size → (∀ q : Nat, q < H.size → ¬ AX q → H1[q]? = H[q]?) → va_S A0 H0 H1 locs1 → H1[q9]? = some ce → ce.vm = .none → s.vm.findClass E = some ce.cls → vx_W p l e R s m args below meth c H1 locs1 (cells + mc) (slots + ms) Q (F0 m pc ls rest) q9)
    (kk : ∀ (u : S) (t : State) (H1 : Heap) (locs1 : List Loc), t.heap = H1 → s.vm.Alike t.vm → post u → B u t → H.size ≤ H1.size → (∀ q : Nat, q < H.size → ¬ A1 q → H1[q]? = H[q]?) → va_S A0 H0 H1 locs1 → W p l e R s m args below meth c H1 locs1 (cells + mc) (slots + ms) Q (F0 m (pc + 3) ls (rest))) : W p l e R s m args below meth c H locs cells slots Q (F0 m pc ls st0) := by
  intro T hT X
  rcases hr T hT X with ⟨v, st₀, t, T', L, h0, X', hL, e1, e2, ⟨⟨u, hv, hp, hb⟩, hF⟩, st⟩ | ⟨q, st₀, t, T', L, E, ce, h0, X', hL, e1, e2, ⟨u, hp, hb, hF⟩, hce, hcv, hcl, st⟩
  · cases hv
    obtain ⟨k1, k2, k3⟩ := vx_keep h0 e1 hS hA hf hL hF
    obtain ⟨t2, a1, b1⟩ := kk u t T'.heap (locs ++ L) e1.symm (by rw [← e2]; exact X'.warmed.alike) hp hb k1 k2 k3 T' rfl X'
    exact ⟨t2, st t2 a1, b1⟩
  · obtain ⟨k1, k2, k3⟩ := vx_keep h0 e1 hS hAX hf hL hF
    obtain ⟨t2, a1, b1⟩ := kx E ce q u t T'.heap (locs ++ L) e1.symm (by rw [← e2]; exact X'.warmed.alike) hp hb k1 k2 k3 (by rw [e1]; exact hce) hcv hcl T' rfl X'
    exact ⟨t2, st.trans a1, b1⟩
/-- caught by the row x of this method's table; the rows ahead don't take it -/
theorem vx_catch {own name : String} {E : String} {ce : Cell} {q : Addr} (hown : s.vm.findClass own = some m.cls) (pre : List ExceptionTableEntry) (x : ExceptionTableEntry) (suf : List ExceptionTableEntry) (hsplit : c.exceptionTable.toList = pre ++ x :: suf)
    (hpass : ∀ z ∈ pre, covers z pc = false ∨ (z.catchType ≠ 0 ∧ ∃ nm : String, (Cond.classLink own z.catchType nm).before args s = true ∧ va_Nc E nm s)) (hx : covers x pc = true) (h0 : x.catchType ≠ 0)
    (hlink : (Cond.classLink own x.catchType name).before args s = true) (hcast : (Cond.castable E name).before args s = true) (hcell : H[q]? = some ce) (hv : ce.vm = .none) (hcl : s.vm.findClass E = some ce.cls)
    (kk : W p l e R s m args below meth c H locs cells slots Q (F0 m x.handlerPc ls [.ref q])) : vx_W p l e R s m args below meth c H locs cells slots Q (F0 m pc ls rest) q := by
  intro T hT X
  have hpl : e.platform.magicAccessors = ({} : Platform).magicAccessors := by rw [X.admits.platform]
  obtain ⟨c3, c4, hc3, hc4, hasg⟩ := Cond.castable_spec hcast
  cases Option.some.inj (hc3.symm.trans hcl)
  obtain ⟨c5, hc5, hcl5⟩ := Cond.classLink_spec hown hlink e.platform hpl
  cases Option.some.inj (hc4.symm.trans hc5)
  obtain ⟨vm', X', st⟩ := X.thenCaughtThrough q (g := F0 m pc ls rest) rfl (Steps.refl _) (by rw [hT]; exact hcell) (by rw [hv]; rfl) (by obtain ⟨k9, h9, -⟩ := Vm.findClass_spec hcl; exact ⟨k9, h9⟩) pre x suf hsplit
    (fun z hz => by
      rcases hpass z hz with h | ⟨hz0, nm, hl1, hn1⟩
      · exact Or.inl h
      · obtain ⟨c6, hc6, hcl6⟩ := Cond.classLink_spec hown hl1 e.platform hpl
        obtain ⟨a8, b8, h1, h2, h3⟩ := hn1
        cases Option.some.inj (h1.symm.trans hcl)
        cases Option.some.inj (h2.symm.trans hc6)
        exact Or.inr ⟨hz0, _, hcl6, h3⟩) hx (Or.inr ⟨h0, c4, hcl5, hasg⟩)
  obtain ⟨t, a1, b1⟩ := kk (T.setVm vm') hT X'
  exact ⟨t, st.trans a1, b1⟩
end Rows
section Ends
variable {p : Program} {l : Launch} {e : Env} {R : Room} {s : State} {m : MethodId} {args : Array Value} {below : List Frame} {meth : Method} {c : Code} {H : Heap} {locs : List Loc} {cells slots : Nat} {Q : State → Prop}
variable {mc ms : Nat} {free : Addr → Prop} {A0 A1 : Nat → Prop} {H0 : Heap} {a : Array Value} {ls : Array Slot} {st0 rest : List Value}
variable {Qc : Array Value → State → Outcome → State → Prop} {XC : String → State → State → Prop}
/-- what a body that may throw owes at its end -/
def vx_MQ (below : List Frame) (Qc : Array Value → State → Outcome → State → Prop) (XC : String → State → State → Prop) (a : Array Value) (s : State) (mc ms : Nat) (free : Addr → Prop) : State → Prop := fun t =>
  ∃ o, t.status = .running ∧ Ended t below o ∧ vx_Q Qc XC mc ms free a s o t
theorem vx_ret {g : JFrame} {mc ms : Nat} (k : W p l e R s m args below meth c H locs cells slots (MQ below Qc args s mc ms free) g) : W p l e R s m args below meth c H locs cells slots (vx_MQ below Qc XC args s mc ms free) g := by
  intro T hT X
  obtain ⟨t, a1, o, b1, b2, b3, b4⟩ := k T hT X
  exact ⟨t, a1, o, b1, b2, Or.inl ⟨b3, b4⟩⟩
/-- not caught here: it goes on to the caller -/
theorem vx_widen {g : JFrame} {q : Addr} {k n : Nat} (h1 : cells ≤ k) (h2 : slots ≤ n) (kk : vx_W p l e R s m args below meth c H locs k n Q g q) : vx_W p l e R s m args below meth c H locs cells slots Q g q := fun T hT X => kk T hT (stand_widen X h1 h2)
theorem vx_out {pc : Nat} {E : String} {ce : Cell} {q : Addr} {mc ms : Nat} (hout : ∀ x ∈ c.exceptionTable.toList, covers x pc = false) (hlocks : meth.locks = false) (hcell : H[q]? = some ce) (hv : ce.vm = .none) (hcl : s.vm.findClass E = some ce.cls)
    (hx : ∀ t : State, t.heap = H → s.vm.Alike t.vm → XC E s t) (hf : ∀ z ∈ locs, free z.base) (hc : cells ≤ mc) (hs : slots ≤ ms) :
    vx_W p l e R s m args below meth c H locs cells slots (vx_MQ below Qc XC args s mc ms free) (F0 m pc ls rest) q := by
  intro T hT X
  obtain ⟨st1, hrun, hend, hW, hsm⟩ := X.leaveThrown q (g := F0 m pc ls rest) rfl rfl rfl hout hlocks
  have hcell9 : (T.setFrames (.throwing q :: below)).heap[q]? = some ce := by
    show T.heap[q]? = some ce
    rw [hT]; exact hcell
  exact ⟨_, st1, .threw q, hrun, hend, Or.inr ⟨q, rfl, E, ce, locs, hx _ hT hW.alike, hcell9, hv, hcl, hW, hsm.mono hc hs, hf⟩⟩
theorem vx_frame {U : State} {k n : Nat} (h : s.sameButNew ({ U with vm := s.vm } : State) locs k n) : s.heap.size ≤ U.heap.size ∧ ∀ q : Nat, q < s.heap.size → (∀ z ∈ locs, z.base ≠ q) → U.heap[q]? = s.heap[q]? := by
  obtain ⟨-, h2, -, -, -, h6⟩ := h
  refine ⟨h2, fun q hq hz => ?_⟩
  obtain ⟨c9, e1, e2, e3, e4⟩ := h6 q _ (Array.getElem?_eq_getElem hq)
  have hs : c9.slots = (s.heap[q]).slots := Array.ext_getElem? fun i => e4 i fun hm => hz _ hm rfl
  have h9 : c9 = s.heap[q] := by
    rw [hs] at e2
    exact e2
  have e5 : U.heap[q]? = some c9 := e1
  rw [e5, h9, Array.getElem?_eq_getElem hq]
/-- the words of a throw but the four that speak of the heap -/
def vx_no (w : Cond) : Bool := decide (w ≠ .isRef (.static Bundle.tN "UNASSIGNED_STACK" Bundle.steD)) && decide (w ≠ .isRef (.static Bundle.tN "SUPPRESSED_SENTINEL" Bundle.listD)) && decide (w ≠ .laysStatic Bundle.tN "UNASSIGNED_STACK" Bundle.steD) && decide (w ≠ .laysStatic Bundle.tN "SUPPRESSED_SENTINEL" Bundle.listD)
def vx_at0 (own : String) (ic : Nat) (X : String) (names : List String) : List Cond := (Bundle.ownAtoms0 own ic X names).filter vx_no
def vx_atS (own : String) (ic : Nat) (X : String) (names : List String) : List Cond := (Bundle.ownAtoms own ic X names).filter vx_no
/-- a word that the tables alone decide, or a good one -/
def vx_ot (w : Cond) : Bool := w.onTables || goodWord w
theorem vx_ot_at {args a' : Array Value} {s U : State} {w : Cond} (hW : s.WarmedH U.vm) (hvm : s.vm = U.vm) (hg : vx_ot w = true) (h : w.before args s = true) : w.before a' U = true := by
  simp only [vx_ot, Bool.or_eq_true] at hg
  rcases hg with hg | hg
  · exact va_tabs hg hvm h
  · exact word_at hW (good_of_word hg) h
/-- a list's words: the good ones out of the method's own list, the others by premises of their own -/
theorem vx_hat {args : Array Value} {s : State} {L B : List Cond} (h1 : ∀ w ∈ L.filter goodWord, w.before args s = true) (h2 : ∀ w ∈ L.filter (fun w => !goodWord w), w ∈ B) (h3 : ∀ w ∈ B, w.before args s = true) : ∀ w ∈ L, w.before args s = true := by
  intro w hw
  by_cases g : goodWord w = true
  · exact h1 w (List.mem_filter.mpr ⟨hw, g⟩)
  · refine h3 w (h2 w (List.mem_filter.mpr ⟨hw, ?_⟩))
    show (!goodWord w) = true
    cases hgw : goodWord w
    · rfl
    · exact absurd hgw g
theorem vx_c {args : Array Value} {s : State} {w : Cond} {B : List Cond} (h : w.before args s = true) (t : ∀ w ∈ B, w.before args s = true) : ∀ w' ∈ w :: B, w'.before args s = true := fun w' h' => (List.mem_cons.mp h').elim (fun e => by rw [e]; exact h) (t w')
theorem vx_n {args : Array Value} {s : State} : ∀ w ∈ ([] : List Cond), w.before args s = true := fun _ h => nomatch h
theorem vx_own {args : Array Value} {s : State} {L : List Cond} (h1 : ∀ w ∈ L.filter vx_no, w.before args s = true)
    (hU : (Cond.isRef (.static Bundle.tN "UNASSIGNED_STACK" Bundle.steD)).before args s = true) (hN : (Cond.isRef (.static Bundle.tN "SUPPRESSED_SENTINEL" Bundle.listD)).before args s = true)
    (lU : (Cond.laysStatic Bundle.tN "UNASSIGNED_STACK" Bundle.steD).before args s = true) (lN : (Cond.laysStatic Bundle.tN "SUPPRESSED_SENTINEL" Bundle.listD).before args s = true) : ∀ w ∈ L, w.before args s = true := by
  intro w hw
  by_cases e1 : w = .isRef (.static Bundle.tN "UNASSIGNED_STACK" Bundle.steD)
  · rw [e1]; exact hU
  · by_cases e2 : w = .isRef (.static Bundle.tN "SUPPRESSED_SENTINEL" Bundle.listD)
    · rw [e2]; exact hN
    · by_cases e3 : w = .laysStatic Bundle.tN "UNASSIGNED_STACK" Bundle.steD
      · rw [e3]; exact lU
      · by_cases e4 : w = .laysStatic Bundle.tN "SUPPRESSED_SENTINEL" Bundle.listD
        · rw [e4]; exact lN
        · exact h1 w (List.mem_filter.mpr ⟨hw, by unfold vx_no; rw [decide_eq_true e1, decide_eq_true e2, decide_eq_true e3, decide_eq_true e4]; rfl⟩)
/-- where a static field lies, its class's statics cell in H -/
def vx_L (C n d : String) (A : Nat → Prop) (U : State) (H : Heap) : Prop := ∃ (c : ClassId) (k : Class) (i : Nat) (f : Field) (a : Nat) (cell : Cell), U.vm.findClass C = some c ∧ U.fieldFound? C n d = some (c, k, i, f) ∧ f.isStatic = true ∧ k.statics = some a ∧ H[a]? = some cell ∧ cell.vm.isStatics = true ∧ cell.cls = c ∧ f.slot < cell.slots.size ∧ k.staticTypes[f.slot]? = some f.type ∧ ¬ A a
theorem vx_L.moved {C n d : String} {A : Nat → Prop} {u U : State} {H : Heap} (hvm : u.vm.Alike U.vm) (h : vx_L C n d A u H) : vx_L C n d A U H := by
  obtain ⟨c, k, i, f, a, cell, h1, h2, h3, h4, h5, h6, h7, h8, h9, h10⟩ := h
  obtain ⟨k', hi', he⟩ := State.fieldFound?_setVm hvm h2
  exact ⟨c, k', i, f, a, cell, by rw [hvm.findClass]; exact h1, hi', h3, by rw [he]; exact h4, h5, h6, h7, h8, by rw [he]; exact h9, h10⟩
theorem vx_L.kept {C n d : String} {A : Nat → Prop} {U : State} {H H1 : Heap} (h : vx_L C n d A U H) (hq : ∀ a : Nat, a < H.size → ¬ A a → H1[a]? = H[a]?) : vx_L C n d A U H1 := by
  obtain ⟨c, k, i, f, a, cell, h1, h2, h3, h4, h5, h6, h7, h8, h9, h10⟩ := h
  exact ⟨c, k, i, f, a, cell, h1, h2, h3, h4, by rw [hq a (Array.getElem?_eq_some_iff.mp h5).1 h10]; exact h5, h6, h7, h8, h9, h10⟩
theorem vx_L.narrow {C n d : String} {A B : Nat → Prop} {U : State} {H : Heap} (h : vx_L C n d A U H) (hAB : ∀ q, B q → A q) : vx_L C n d B U H := by
  obtain ⟨c, k, i, f, a, cell, h1, h2, h3, h4, h5, h6, h7, h8, h9, h10⟩ := h
  exact ⟨c, k, i, f, a, cell, h1, h2, h3, h4, h5, h6, h7, h8, h9, fun z => h10 (hAB _ z)⟩
theorem vx_L.word {C n d : String} {A : Nat → Prop} {s : State} {args : Array Value} (h : vx_L C n d A s s.heap) : (Cond.laysStatic C n d).before args s = true := by
  obtain ⟨c, k, i, f, a, cell, h1, h2, h3, h4, h5, h6, h7, h8, h9, -⟩ := h
  show (Cond.laysStatic C n d).holds args s none s [] = true
  exact Cond.laysStatic_of h1 h2 h3 h4 h5 h6 h7 h8 h9
/-- .. and what it holds: null or some reference -/
def vx_Zq (C n d : String) (A : Nat → Prop) (U : State) (H : Heap) : Prop := va_Zq C n d A U H ∧ vx_L C n d A U H
theorem vx_Zq.moved {C n d : String} {A : Nat → Prop} {u U : State} {H : Heap} (hvm : u.vm.Alike U.vm) (h : vx_Zq C n d A u H) : vx_Zq C n d A U H := ⟨va_Zq.moved hvm h.1, vx_L.moved hvm h.2⟩
theorem vx_Zq.kept {C n d : String} {A : Nat → Prop} {U : State} {H H1 : Heap} (h : vx_Zq C n d A U H) (hq : ∀ a : Nat, a < H.size → ¬ A a → H1[a]? = H[a]?) : vx_Zq C n d A U H1 := ⟨va_Zq.kept h.1 hq, vx_L.kept h.2 hq⟩
theorem vx_Zq.narrow {C n d : String} {A B : Nat → Prop} {U : State} {H : Heap} (h : vx_Zq C n d A U H) (hAB : ∀ q, B q → A q) : vx_Zq C n d B U H := ⟨va_Zq.narrow h.1 hAB, vx_L.narrow h.2 hAB⟩
theorem vx_Zqof {args : Array Value} {s : State} {C n d : String} {A : Nat → Prop} (hl : (Cond.laysStatic C n d).before args s = true) (hini : (Cond.initialized C).before args s = true) (h : (Cond.isRef (.static C n d)).before args s = true) (hA : ∀ a : Nat, a < s.heap.size → ¬ A a) : vx_Zq C n d A s s.heap := by
  refine ⟨va_Zqof hl hini h hA, ?_⟩
  obtain ⟨c, k, i, f, a, cell, h1, h2, h3, h4, h5, h6, h7, h8, h9⟩ := Cond.laysStatic_spec hl
  exact ⟨c, k, i, f, a, cell, h1, h2, h3, h4, h5, h6, h7, h8, h9, hA a (Array.getElem?_eq_some_iff.mp h5).1⟩
theorem vx_isRef {C n d : String} {v : Value} {A : Nat → Prop} {s : State} {args : Array Value} (h : va_Z C n d v A s s.heap) (hv : v.isRef = true) : (Cond.isRef (.static C n d)).before args s = true := by
  obtain ⟨cf, kf, fi, f, a, cell, h1, h2, h3, h4, h5, h6, h7, -⟩ := h
  have he : (Term.static C n d).eval args s none [] s = some v := by
    simp [Term.eval, State.fieldNamed?, h1, h2, h4, h5, h6, h7]
  simp only [Cond.before, Cond.holds, Cond.value, he]
  cases v <;> simp_all [Value.isRef]
theorem vx_isRefq {C n d : String} {A : Nat → Prop} {s : State} {args : Array Value} (h : va_Zq C n d A s s.heap) : (Cond.isRef (.static C n d)).before args s = true := by
  rcases h with h | ⟨t, h⟩
  · exact vx_isRef h rfl
  · exact vx_isRef h rfl
/-- the same frame, seen from here: as if the method were called anew in this heap -/
theorem vx_rebase {T : State} (X : Stand p l e R s m args below meth c T locs cells slots) {R' : Room} (hf : R'.frames ≤ R.frames) (hl : R'.locals ≤ R.locals) (hc : cells + R'.cells ≤ R.cells) (hs : slots + R'.slots ≤ R.slots) :
    Stand p l e R' ((T.setVm s.vm).setFrames (.invoking m args :: below)) m args below meth c T [] 0 0 := by
  have htop : (T.setVm s.vm).topJava?.isSome := X.here.top
  have hF : ((T.setVm s.vm).setFrames (.invoking m args :: below)).frames = .invoking m args :: below := State.frames_setFrames _ (State.cur_lt_of_top htop)
  obtain ⟨g₀, hg0⟩ := Option.isSome_iff_exists.mp htop
  obtain ⟨r, hr⟩ := State.topJava?_eq_some.mp hg0
  have hl9 : e.platform.stackLimits (T.setVm s.vm).me = e.platform.stackLimits s.me := X.limits
  have hb9 : (T.setVm s.vm).me.stackBytes = s.me.stackBytes := X.bytes
  refine ⟨X.admits, X.cas, X.clock, hF, ?_, X.hears, X.method, X.code, X.here, X.tail, X.warmed, ?_, ?_, ?_⟩
  · have h := X.room
    have hU : ((T.setVm s.vm).setFrames (.invoking m args :: below)).localsInUse = s.localsInUse := by
      rw [State.localsInUse_invoking hF (meth := meth) (c := c) X.method X.code, State.localsInUse_invoking X.frames X.method X.code]
    simp only [State.hasRoom, Bool.and_eq_true, decide_eq_true_eq] at h ⊢
    obtain ⟨⟨⟨⟨h1, h2, h3, h4, h5, h6⟩, h7⟩, h8⟩, h9⟩ := h
    rw [X.frames, List.length_cons] at h2 h3
    have q1 := X.heapSize
    have q2 := X.used
    simp only [hF, hU, List.length_cons, State.stackLimits_setFrames, State.stackBytes_setFrames, hl9, hb9]
    refine ⟨⟨⟨⟨by omega, by omega, by omega, by omega, by omega, h6⟩, ?_⟩, ?_⟩, X.book⟩
    · show T.heap.size + R'.cells ≤ e.platform.maxCells
      omega
    · show T.slotsUsed + R'.slots ≤ e.platform.maxSlots
      omega
  · rw [State.stackLimits_setFrames]; rfl
  · rw [State.stackBytes_setFrames]; rfl
  · refine ⟨?_, Nat.le_refl _, Nat.le_refl _, ?_, ?_, fun a c9 h9 => ⟨c9, h9, rfl, rfl, fun _ _ => rfl⟩⟩
    · obtain ⟨t, ht, -⟩ := State.frames_cons hr
      show T.setVm s.vm = { ((T.setVm s.vm).setFrames (.invoking m args :: below)).setFrames (T.setVm s.vm).frames with heap := T.heap, slotsUsed := T.slotsUsed }
      rw [State.setFrames_setFrames, State.setFrames_self ht]
      rfl
    · show T.slotsUsed = T.slotsUsed + ((T.heap.toList.drop T.heap.size).map (·.slots.size)).sum
      rw [List.drop_eq_nil_of_le (Nat.le_of_eq Array.length_toList)]
      rfl
    · show ((T.heap.toList.drop T.heap.size).map (·.slots.size)).sum ≤ 0
      rw [List.drop_eq_nil_of_le (Nat.le_of_eq Array.length_toList)]
      exact Nat.le_refl _
/-- 'throw new E()': new; dup; invokespecial; athrow -/
theorem vx_throw0 {cc : ByteArray} {pc : Nat} (hexec : p.tables.exec = Jvm.exec) (hb : c.code = cc) (hl : l.stackTraces = false) {own cls : String} {names : List String} {ik ic mc ms : Nat} {A : Nat → Prop}
    (hown : s.vm.findClass own = some m.cls) (hcls : Bundle.fit cls = true) (hnames : ∀ n ∈ names, Bundle.fit n = true)
    (hk : (Cond.classLink own ik cls).before args s = true) (hini : (Cond.initialized cls).before args s = true) (hat : ∀ w ∈ vx_at0 own ic cls names, w.before args s = true)
    (hgood : ∀ w ∈ Cond.classLink own ik cls :: Cond.initialized cls :: vx_at0 own ic cls names, vx_ot w = true)
    (hU : vx_Zq Bundle.tN "UNASSIGNED_STACK" Bundle.steD A s s.heap) (hN : vx_Zq Bundle.tN "SUPPRESSED_SENTINEL" Bundle.listD A s s.heap) (hS : va_S A s.heap H locs) (hsize : ls.size = c.maxLocals)
    (d0 : decode cc pc = .ok (.new ik, 3)) (d3 : decode cc (pc + 3) = .ok (.dup, 1)) (d4 : decode cc (pc + 4) = .ok (.invokespecial ic, 3)) (d7 : decode cc (pc + 7) = .ok (.athrow, 1))
    (hout : ∀ x ∈ c.exceptionTable.toList, covers x (pc + 7) = false)
    (hRframes : names.length + 3 < R.frames) (hRlocals : (rest.map fun v => v.category).sum + (13 * (names.length + 1) + 42) ≤ R.locals) (hRcells : cells + 1 ≤ R.cells) (hRslots : slots + 6 ≤ R.slots) (hlocks : meth.locks = false)
    (hx : ∀ t : State, s.vm.Alike t.vm → H.size ≤ t.heap.size → (∀ q : Nat, q < H.size → t.heap[q]? = H[q]?) → XC cls s t)
    (hf : ∀ z ∈ locs, free z.base) (hc : cells + 1 ≤ mc) (hs : slots + 6 ≤ ms) :
    W p l e R s m args below meth c H locs cells slots (vx_MQ below Qc XC args s mc ms free) (F0 m pc ls rest) := by
  intro T hT X
  have htr : e.platform.stackTraces = false := (show e.platform.stackTraces = l.stackTraces by rw [X.admits.platform]).trans hl
  have Y := vx_rebase X (R' := { frames := R.frames, locals := R.locals, cells := 1, slots := 6 }) (Nat.le_refl _) (Nat.le_refl _) hRcells hRslots
  obtain ⟨s', hA⟩ : ∃ z, z = (T.setVm s.vm).setFrames (.invoking m args :: below) := ⟨_, rfl⟩
  rw [← hA] at Y
  have hvm : s'.vm = s.vm := by rw [hA]; rfl
  have hhp : s'.heap = H := by rw [hA]; exact hT
  have hW0 : s.WarmedH s'.vm := by rw [hvm]; exact State.WarmedH.refl s
  have hat' : ∀ w ∈ vx_at0 own ic cls names, w.before args s' = true := fun w hw => vx_ot_at hW0 hvm.symm (hgood w (List.mem_cons_of_mem _ (List.mem_cons_of_mem _ hw))) (hat w hw)
  have hk' : (Cond.classLink own ik cls).before args s' = true := vx_ot_at hW0 hvm.symm (hgood _ List.mem_cons_self) hk
  have hini' : (Cond.initialized cls).before args s' = true := vx_ot_at hW0 hvm.symm (hgood _ (List.mem_cons_of_mem _ List.mem_cons_self)) hini
  have hU' : vx_Zq Bundle.tN "UNASSIGNED_STACK" Bundle.steD A s' s'.heap := by rw [hhp]; exact vx_Zq.moved hW0.alike (hU.kept hS.2.1)
  have hN' : vx_Zq Bundle.tN "SUPPRESSED_SENTINEL" Bundle.listD A s' s'.heap := by rw [hhp]; exact vx_Zq.moved hW0.alike (hN.kept hS.2.1)
  have h : ∀ w ∈ Bundle.ownAtoms0 own ic cls names, w.before args s' = true := vx_own hat' (vx_isRefq hU'.1) (vx_isRefq hN'.1) hU'.2.word hN'.2.word
  have hown' : s'.vm.findClass own = some m.cls := by rw [hvm]; exact hown
  have hins : (Cond.instantiable cls 6).before args s' = true := h _ (by simp [Bundle.ownAtoms0])
  obtain ⟨vm₁, cX, kX, hfX, hkX, -, -, X₁, st1⟩ := Y.newCold hexec (own := own) (C := cls) (index := ik) (n := 6) hown' hk' hins hini'
    (g := F0 m pc ls rest) rfl (by rw [hb]; exact d0) (Nat.le_refl _) (Nat.le_refl _)
  generalize hT1 : (T.setVm vm₁).pushCell { cls := cX, slots := kX.instanceTypes.map defaultValue, vm := .none } = T1 at X₁ st1
  have hcat : (Value.ref T.heap.size).category = 1 := rfl
  have hcellA : T1.heap[T.heap.size]? = some (freshCell cX kX) := by rw [← hT1]; exact State.heap_pushCell_size _ _
  have d3' : decode c.code (pc + 3) = .ok (.dup, 1) := by rw [hb]; exact d3
  obtain ⟨U, hsteps, hrun, hend, hW, hsame, ce, hce, hO⟩ := X₁.ctorThrow0 hexec htr (own := own) (cls := cls) (names := names) (ic := ic) hown' hcls hnames h (fun x hx => nomatch hx) hfX hkX hcellA (by rw [hhp, hT]; exact Nat.le_refl _)
    (g := { method := m, pc := pc + 4, locals := ls, stack := .ref T.heap.size :: .ref T.heap.size :: rest, locked := none }) rfl hsize rfl rfl (rest := rest) rfl
    (by rw [hb]; exact d4) (by rw [hb]; exact d7) hout hRframes (by simp only [List.map_cons, List.sum_cons, hcat]; omega) hlocks
  obtain ⟨f1, f2⟩ := vx_frame hsame
  rw [hhp] at f1 f2
  have hWs : s.WarmedH U.vm := State.WarmedH.trans hW0 hW
  have hcl : s.vm.findClass cls = some ce.cls := by
    have h9 := hO.cls
    rw [hvm] at h9
    exact h9
  have hall : s.sameButNew ({ U with vm := s.vm } : State) locs mc ms := by
    subst hA
    obtain ⟨e1, e2⟩ := hsame
    rw [State.setFrames_setFrames] at e1
    have h2 : (T.setVm s.vm).sameButNew ({ U with vm := s.vm } : State) [] (0 + 1) (0 + 6) := ⟨e1, e2⟩
    have h3 := X.same.trans h2
    rw [List.append_nil] at h3
    exact h3.mono hc hs
  refine ⟨U, ?_, .threw T.heap.size, hrun, hend, Or.inr ⟨T.heap.size, rfl, cls, ce, locs, hx U hWs.alike f1 (fun q hq => f2 q hq (fun z hz => nomatch hz)), hce, hO.vm, hcl, hWs, hall, hf⟩⟩
  refine st1 _ ?_
  show Steps p.tables e below (T1.setTop { method := m, pc := pc + 3, locals := ls, stack := .ref T.heap.size :: rest, locked := none }) _
  jvm_step X₁.here [X₁.here.top, hexec, d3', Value.category]
  exact hsteps
/-- 'throw new E("text")': new; dup; ldc; invokespecial; athrow -/
theorem vx_throwS {cc : ByteArray} {pc : Nat} (hexec : p.tables.exec = Jvm.exec) (hb : c.code = cc) (hl : l.stackTraces = false) {own cls text : String} {names : List String} {ik is ic mc ms sa : Nat} {A : Nat → Prop}
    (hown : s.vm.findClass own = some m.cls) (hcls : Bundle.fit cls = true) (hnames : ∀ n ∈ names, Bundle.fit n = true)
    (hk : (Cond.classLink own ik cls).before args s = true) (hini : (Cond.initialized cls).before args s = true) (hstr : vk_R own is text sa s) (hat : ∀ w ∈ vx_atS own ic cls names, w.before args s = true)
    (hgood : ∀ w ∈ Cond.classLink own ik cls :: Cond.initialized cls :: vx_atS own ic cls names, vx_ot w = true)
    (hU : vx_Zq Bundle.tN "UNASSIGNED_STACK" Bundle.steD A s s.heap) (hN : vx_Zq Bundle.tN "SUPPRESSED_SENTINEL" Bundle.listD A s s.heap) (hS : va_S A s.heap H locs) (hsize : ls.size = c.maxLocals)
    (d0 : decode cc pc = .ok (.new ik, 3)) (d3 : decode cc (pc + 3) = .ok (.dup, 1)) (d4 : decode cc (pc + 4) = .ok (.ldc is, 2)) (d6 : decode cc (pc + 6) = .ok (.invokespecial ic, 3)) (d9 : decode cc (pc + 9) = .ok (.athrow, 1))
    (hout : ∀ x ∈ c.exceptionTable.toList, covers x (pc + 9) = false)
    (hRframes : names.length + 3 < R.frames) (hRlocals : (rest.map fun v => v.category).sum + (13 * (names.length + 1) + 43) ≤ R.locals) (hRcells : cells + 1 ≤ R.cells) (hRslots : slots + 6 ≤ R.slots) (hlocks : meth.locks = false)
    (hx : ∀ t : State, s.vm.Alike t.vm → H.size ≤ t.heap.size → (∀ q : Nat, q < H.size → t.heap[q]? = H[q]?) → XC cls s t)
    (hf : ∀ z ∈ locs, free z.base) (hc : cells + 1 ≤ mc) (hs : slots + 6 ≤ ms) :
    W p l e R s m args below meth c H locs cells slots (vx_MQ below Qc XC args s mc ms free) (F0 m pc ls rest) := by
  intro T hT X
  have htr : e.platform.stackTraces = false := (show e.platform.stackTraces = l.stackTraces by rw [X.admits.platform]).trans hl
  have Y := vx_rebase X (R' := { frames := R.frames, locals := R.locals, cells := 1, slots := 6 }) (Nat.le_refl _) (Nat.le_refl _) hRcells hRslots
  obtain ⟨s', hA⟩ : ∃ z, z = (T.setVm s.vm).setFrames (.invoking m args :: below) := ⟨_, rfl⟩
  rw [← hA] at Y
  have hvm : s'.vm = s.vm := by rw [hA]; rfl
  have hhp : s'.heap = H := by rw [hA]; exact hT
  have hW0 : s.WarmedH s'.vm := by rw [hvm]; exact State.WarmedH.refl s
  have hat' : ∀ w ∈ vx_atS own ic cls names, w.before args s' = true := fun w hw => vx_ot_at hW0 hvm.symm (hgood w (List.mem_cons_of_mem _ (List.mem_cons_of_mem _ hw))) (hat w hw)
  have hk' : (Cond.classLink own ik cls).before args s' = true := vx_ot_at hW0 hvm.symm (hgood _ List.mem_cons_self) hk
  have hini' : (Cond.initialized cls).before args s' = true := vx_ot_at hW0 hvm.symm (hgood _ (List.mem_cons_of_mem _ List.mem_cons_self)) hini
  have hU' : vx_Zq Bundle.tN "UNASSIGNED_STACK" Bundle.steD A s' s'.heap := by rw [hhp]; exact vx_Zq.moved hW0.alike (hU.kept hS.2.1)
  have hN' : vx_Zq Bundle.tN "SUPPRESSED_SENTINEL" Bundle.listD A s' s'.heap := by rw [hhp]; exact vx_Zq.moved hW0.alike (hN.kept hS.2.1)
  have h : ∀ w ∈ Bundle.ownAtoms own ic cls names, w.before args s' = true := vx_own hat' (vx_isRefq hU'.1) (vx_isRefq hN'.1) hU'.2.word hN'.2.word
  have hown' : s'.vm.findClass own = some m.cls := by rw [hvm]; exact hown
  have hins : (Cond.instantiable cls 6).before args s' = true := h _ (by simp [Bundle.ownAtoms])
  obtain ⟨vm₁, cX, kX, hfX, hkX, -, -, X₁, st1⟩ := Y.newCold hexec (own := own) (C := cls) (index := ik) (n := 6) hown' hk' hins hini'
    (g := F0 m pc ls rest) rfl (by rw [hb]; exact d0) (Nat.le_refl _) (Nat.le_refl _)
  generalize hT1 : (T.setVm vm₁).pushCell { cls := cX, slots := kX.instanceTypes.map defaultValue, vm := .none } = T1 at X₁ st1
  have hcat : (Value.ref T.heap.size).category = 1 := rfl
  have hcellA : T1.heap[T.heap.size]? = some (freshCell cX kX) := by rw [← hT1]; exact State.heap_pushCell_size _ _
  have d3' : decode c.code (pc + 3) = .ok (.dup, 1) := by rw [hb]; exact d3
  have d4' : decode c.code (pc + 4) = .ok (.ldc is, 2) := by rw [hb]; exact d4
  have hstr' : vk_R own is text sa s' := vk_R.warm hW0 hstr
  obtain ⟨U, hsteps, hrun, hend, hW, hsame, ce, hce, hO⟩ := X₁.ctorThrowS hexec htr (own := own) (cls := cls) (names := names) (ic := ic) hown' hcls hnames h (fun x hx => nomatch hx) hfX hkX hcellA (by rw [hhp, hT]; exact Nat.le_refl _) (msg := .ref sa) rfl
    (g := { method := m, pc := pc + 6, locals := ls, stack := .ref sa :: .ref T.heap.size :: .ref T.heap.size :: rest, locked := none }) rfl hsize rfl rfl (rest := rest) rfl
    (by rw [hb]; exact d6) (by rw [hb]; exact d9) hout hRframes (by simp only [List.map_cons, List.sum_cons, hcat]; omega) hlocks
  obtain ⟨f1, f2⟩ := vx_frame hsame
  rw [hhp] at f1 f2
  have hWs : s.WarmedH U.vm := State.WarmedH.trans hW0 hW
  have hcl : s.vm.findClass cls = some ce.cls := by
    have h9 := hO.cls
    rw [hvm] at h9
    exact h9
  have hall : s.sameButNew ({ U with vm := s.vm } : State) locs mc ms := by
    subst hA
    obtain ⟨e1, e2⟩ := hsame
    rw [State.setFrames_setFrames] at e1
    have h2 : (T.setVm s.vm).sameButNew ({ U with vm := s.vm } : State) [] (0 + 1) (0 + 6) := ⟨e1, e2⟩
    have h3 := X.same.trans h2
    rw [List.append_nil] at h3
    exact h3.mono hc hs
  refine ⟨U, ?_, .threw T.heap.size, hrun, hend, Or.inr ⟨T.heap.size, rfl, cls, ce, locs, hx U hWs.alike f1 (fun q hq => f2 q hq (fun z hz => nomatch hz)), hce, hO.vm, hcl, hWs, hall, hf⟩⟩
  refine st1 _ ?_
  show Steps p.tables e below (T1.setTop { method := m, pc := pc + 3, locals := ls, stack := .ref T.heap.size :: rest, locked := none }) _
  jvm_step X₁.here [X₁.here.top, hexec, d3', Value.category]
  exact X₁.ldcString hexec (own := own) (text := text) (index := is) (a := sa) hown' hstr'.1 hstr'.2
    (g := { method := m, pc := pc + 4, locals := ls, stack := .ref T.heap.size :: .ref T.heap.size :: rest, locked := none }) rfl d4' _ hsteps
/-- 'throw new E("text")', the text by a wide index -/
theorem vx_throwSW {cc : ByteArray} {pc : Nat} (hexec : p.tables.exec = Jvm.exec) (hb : c.code = cc) (hl : l.stackTraces = false) {own cls text : String} {names : List String} {ik is ic mc ms sa : Nat} {A : Nat → Prop}
    (hown : s.vm.findClass own = some m.cls) (hcls : Bundle.fit cls = true) (hnames : ∀ n ∈ names, Bundle.fit n = true)
    (hk : (Cond.classLink own ik cls).before args s = true) (hini : (Cond.initialized cls).before args s = true) (hstr : vk_R own is text sa s) (hat : ∀ w ∈ vx_atS own ic cls names, w.before args s = true)
    (hgood : ∀ w ∈ Cond.classLink own ik cls :: Cond.initialized cls :: vx_atS own ic cls names, vx_ot w = true)
    (hU : vx_Zq Bundle.tN "UNASSIGNED_STACK" Bundle.steD A s s.heap) (hN : vx_Zq Bundle.tN "SUPPRESSED_SENTINEL" Bundle.listD A s s.heap) (hS : va_S A s.heap H locs) (hsize : ls.size = c.maxLocals)
    (d0 : decode cc pc = .ok (.new ik, 3)) (d3 : decode cc (pc + 3) = .ok (.dup, 1)) (d4 : decode cc (pc + 4) = .ok (.ldc_w is, 3)) (d7 : decode cc (pc + 7) = .ok (.invokespecial ic, 3)) (d10 : decode cc (pc + 10) = .ok (.athrow, 1))
    (hout : ∀ x ∈ c.exceptionTable.toList, covers x (pc + 10) = false)
    (hRframes : names.length + 3 < R.frames) (hRlocals : (rest.map fun v => v.category).sum + (13 * (names.length + 1) + 43) ≤ R.locals) (hRcells : cells + 1 ≤ R.cells) (hRslots : slots + 6 ≤ R.slots) (hlocks : meth.locks = false)
    (hx : ∀ t : State, s.vm.Alike t.vm → H.size ≤ t.heap.size → (∀ q : Nat, q < H.size → t.heap[q]? = H[q]?) → XC cls s t)
    (hf : ∀ z ∈ locs, free z.base) (hc : cells + 1 ≤ mc) (hs : slots + 6 ≤ ms) :
    W p l e R s m args below meth c H locs cells slots (vx_MQ below Qc XC args s mc ms free) (F0 m pc ls rest) := by
  intro T hT X
  have htr : e.platform.stackTraces = false := (show e.platform.stackTraces = l.stackTraces by rw [X.admits.platform]).trans hl
  have Y := vx_rebase X (R' := { frames := R.frames, locals := R.locals, cells := 1, slots := 6 }) (Nat.le_refl _) (Nat.le_refl _) hRcells hRslots
  obtain ⟨s', hA⟩ : ∃ z, z = (T.setVm s.vm).setFrames (.invoking m args :: below) := ⟨_, rfl⟩
  rw [← hA] at Y
  have hvm : s'.vm = s.vm := by rw [hA]; rfl
  have hhp : s'.heap = H := by rw [hA]; exact hT
  have hW0 : s.WarmedH s'.vm := by rw [hvm]; exact State.WarmedH.refl s
  have hat' : ∀ w ∈ vx_atS own ic cls names, w.before args s' = true := fun w hw => vx_ot_at hW0 hvm.symm (hgood w (List.mem_cons_of_mem _ (List.mem_cons_of_mem _ hw))) (hat w hw)
  have hk' : (Cond.classLink own ik cls).before args s' = true := vx_ot_at hW0 hvm.symm (hgood _ List.mem_cons_self) hk
  have hini' : (Cond.initialized cls).before args s' = true := vx_ot_at hW0 hvm.symm (hgood _ (List.mem_cons_of_mem _ List.mem_cons_self)) hini
  have hU' : vx_Zq Bundle.tN "UNASSIGNED_STACK" Bundle.steD A s' s'.heap := by rw [hhp]; exact vx_Zq.moved hW0.alike (hU.kept hS.2.1)
  have hN' : vx_Zq Bundle.tN "SUPPRESSED_SENTINEL" Bundle.listD A s' s'.heap := by rw [hhp]; exact vx_Zq.moved hW0.alike (hN.kept hS.2.1)
  have h : ∀ w ∈ Bundle.ownAtoms own ic cls names, w.before args s' = true := vx_own hat' (vx_isRefq hU'.1) (vx_isRefq hN'.1) hU'.2.word hN'.2.word
  have hown' : s'.vm.findClass own = some m.cls := by rw [hvm]; exact hown
  have hins : (Cond.instantiable cls 6).before args s' = true := h _ (by simp [Bundle.ownAtoms])
  obtain ⟨vm₁, cX, kX, hfX, hkX, -, -, X₁, st1⟩ := Y.newCold hexec (own := own) (C := cls) (index := ik) (n := 6) hown' hk' hins hini'
    (g := F0 m pc ls rest) rfl (by rw [hb]; exact d0) (Nat.le_refl _) (Nat.le_refl _)
  generalize hT1 : (T.setVm vm₁).pushCell { cls := cX, slots := kX.instanceTypes.map defaultValue, vm := .none } = T1 at X₁ st1
  have hcat : (Value.ref T.heap.size).category = 1 := rfl
  have hcellA : T1.heap[T.heap.size]? = some (freshCell cX kX) := by rw [← hT1]; exact State.heap_pushCell_size _ _
  have d3' : decode c.code (pc + 3) = .ok (.dup, 1) := by rw [hb]; exact d3
  have d4' : decode c.code (pc + 4) = .ok (.ldc_w is, 3) := by rw [hb]; exact d4
  have hstr' : vk_R own is text sa s' := vk_R.warm hW0 hstr
  obtain ⟨U, hsteps, hrun, hend, hW, hsame, ce, hce, hO⟩ := X₁.ctorThrowS hexec htr (own := own) (cls := cls) (names := names) (ic := ic) hown' hcls hnames h (fun x hx => nomatch hx) hfX hkX hcellA (by rw [hhp, hT]; exact Nat.le_refl _) (msg := .ref sa) rfl
    (g := { method := m, pc := pc + 7, locals := ls, stack := .ref sa :: .ref T.heap.size :: .ref T.heap.size :: rest, locked := none }) rfl hsize rfl rfl (rest := rest) rfl
    (by rw [hb]; exact d7) (by rw [hb]; exact d10) hout hRframes (by simp only [List.map_cons, List.sum_cons, hcat]; omega) hlocks
  obtain ⟨f1, f2⟩ := vx_frame hsame
  rw [hhp] at f1 f2
  have hWs : s.WarmedH U.vm := State.WarmedH.trans hW0 hW
  have hcl : s.vm.findClass cls = some ce.cls := by
    have h9 := hO.cls
    rw [hvm] at h9
    exact h9
  have hall : s.sameButNew ({ U with vm := s.vm } : State) locs mc ms := by
    subst hA
    obtain ⟨e1, e2⟩ := hsame
    rw [State.setFrames_setFrames] at e1
    have h2 : (T.setVm s.vm).sameButNew ({ U with vm := s.vm } : State) [] (0 + 1) (0 + 6) := ⟨e1, e2⟩
    have h3 := X.same.trans h2
    rw [List.append_nil] at h3
    exact h3.mono hc hs
  refine ⟨U, ?_, .threw T.heap.size, hrun, hend, Or.inr ⟨T.heap.size, rfl, cls, ce, locs, hx U hWs.alike f1 (fun q hq => f2 q hq (fun z hz => nomatch hz)), hce, hO.vm, hcl, hWs, hall, hf⟩⟩
  refine st1 _ ?_
  show Steps p.tables e below (T1.setTop { method := m, pc := pc + 3, locals := ls, stack := .ref T.heap.size :: rest, locked := none }) _
  jvm_step X₁.here [X₁.here.top, hexec, d3', Value.category]
  exact X₁.ldcStringW hexec (own := own) (text := text) (index := is) (a := sa) hown' hstr'.1 hstr'.2
    (g := { method := m, pc := pc + 4, locals := ls, stack := .ref T.heap.size :: .ref T.heap.size :: rest, locked := none }) rfl d4' _ hsteps
end Ends
section Bodies
variable {l : Launch}
theorem vx_ofW {y : MethodName} {ws ws' : List Cond} {rm : Room} {Pc : Array Value → State → Prop} {Qc : Array Value → State → Outcome → State → Prop} {XC : String → State → State → Prop} {mc ms : Nat} {free : Addr → Prop} {cc : ByteArray} {maxL : Nat} {ret : Option FieldType}
    (hy : plainName y.cls = true) (hw : ws = Cond.code y cc maxL ret :: ws')
    (body : ∀ p e s m args below meth c s₁, BodyLoose p l y (headSpec ws rm) cc maxL ret e s m args below meth c s₁ → c.maxLocals = maxL → (∀ x ∈ c.exceptionTable.toList, False) → Pc args s →
      W p l e (headSpec ws rm).room s m args below meth c s.heap [] 0 0 (vx_MQ below Qc XC args s mc ms free) (entryFrame m args maxL)) : vx_Met l y ws rm Pc Qc XC mc ms free := by
  refine MetFree.of_bodyS (code := cc) (maxLocals := maxL) (ret := ret) hy ?_ ?_
  · intro args s m h hn
    obtain ⟨meth, c, h1, h2, h3, h4, h5, h6, -, -⟩ := Cond.code_spec hn (atoms_spec (ws := ws) h _ (by rw [hw]; exact List.mem_cons_self))
    exact ⟨meth, c, h1, h2, h3, h4, h5, h6⟩
  · intro p e s m args below meth c s₁ B hml hP _
    have hh0 : s₁.heap = s.heap := by rw [B.state]; rfl
    have ht : ∀ x ∈ c.exceptionTable.toList, False := by
      obtain ⟨meth9, c9, h1, h2, -, -, -, -, h7, -⟩ := Cond.code_spec B.named (atoms_spec (ws := ws) B.pre _ (by rw [hw]; exact List.mem_cons_self))
      cases Option.some.inj (h1.symm.trans B.method)
      cases Option.some.inj (h2.symm.trans (Stand.of_body B).code)
      intro x hx
      rw [Array.isEmpty_iff.mp h7] at hx
      cases hx
    obtain ⟨t, a1, o, b1, b2, b3⟩ := body p e s m args below meth c s₁ B hml ht hP s₁ hh0 (Stand.of_body B)
    exact ⟨t, o, a1, b1, b2, b3⟩
/-- the table of a body with handlers -/
theorem vx_table {p : Program} {x y : MethodName} {S : Spec} {cc bytes : ByteArray} {maxL maxL' : Nat} {ret ret' : Option FieldType} {e : Env} {s s₁ : State} {m : MethodId} {args : Array Value} {below : List Frame} {meth : Method} {c : Code} {hh : List (Nat × Nat × Nat × Nat)}
    (B : BodyLoose p l y S cc maxL ret e s m args below meth c s₁) (h : (Cond.codeWith y bytes maxL' ret' hh).before args s = true) : c.exceptionTable.toList = tableOf hh := by
  obtain ⟨m9, meth9, c9, hn9, h1, h2, -, -, h6, -⟩ := Cond.codeWith_spec h
  cases Option.some.inj (hn9.symm.trans B.named)
  cases Option.some.inj (h1.symm.trans B.method)
  cases Option.some.inj (h2.symm.trans (Stand.of_body B).code)
  rw [← h6, table_eq]
end Bodies
end VXA
/-! ===== END ===== -/
/-! ===== BEGIN a static call of a method with an exception table ===== -/
section VXS
variable {p : Program} {l : Launch} {e : Env} {R : Room} {s : State} {m : MethodId} {args : Array Value} {below : List Frame} {meth : Method} {c : Code} {T : State} {H : Heap} {locs : List Loc} {cells slots : Nat}
abbrev vx_CSW (R : Room) (s : State) (args : Array Value) (own : String) (index : Nat) (y : MethodName) (bytes : ByteArray) (maxL : Nat) (ret : Option FieldType) (hh : List (Nat × Nat × Nat × Nat)) (ws : List Cond) (rm : Room) (mc ms n : Nat) : Prop :=
  (rm.cells = mc ∧ rm.slots = ms ∧ rm.frames + 1 ≤ R.frames ∧ 8 + (maxL + 11) + rm.locals ≤ R.locals ∧ (∀ w ∈ ws, ∀ (a' : Array Value) (U : State), s.WarmedH U.vm → w.before a' U = true) ∧ Cond.codeWith y bytes maxL ret hh ∈ ws) ∧
  (Cond.codeWith y bytes maxL ret hh).before args s = true ∧ (Cond.initialized y.cls).before args s = true ∧ (y.cls ≠ "java/lang/invoke/MethodHandle" ∧ y.cls ≠ "java/lang/invoke/VarHandle") ∧
  (∀ sig, parseMethodDescriptor y.desc = some sig → n = sig.parameters.length) ∧ (Cond.methodLink own index y).before args s = true ∧ (Cond.static y).before args s = true
theorem vx_cwSW {own : String} {index maxL mc ms : Nat} {y : MethodName} {bytes : ByteArray} {ret : Option FieldType} {hh : List (Nat × Nat × Nat × Nat)} {Ts ws ws' : List Cond} {rm : Room} (n : Nat) (ht : ∀ w ∈ Ts, w.before args s = true) (hT : GoodIn Ts (va_wsS own index y ws)) (hw : ws = Cond.codeWith y bytes maxL ret hh :: ws') (hrc : rm.cells = mc) (hrs : rm.slots = ms)
    (hd : y.cls ≠ "java/lang/invoke/MethodHandle" ∧ y.cls ≠ "java/lang/invoke/VarHandle" ∧ (parseMethodDescriptor y.desc).map (fun d => d.parameters.length) = some n) (hR : rm.frames + 1 ≤ R.frames ∧ 8 + (maxL + 11) + rm.locals ≤ R.locals) :
    vx_CSW R s args own index y bytes maxL ret hh ws rm mc ms n := by
  have ok : ∀ w ∈ va_wsS own index y ws, w.before args s = true := fun w h => ht w (hT w h).1
  have hG : GoodIn Ts ws := fun w h => hT w (by unfold va_wsS; exact List.mem_append_right _ h)
  have hc : Cond.codeWith y bytes maxL ret hh ∈ ws := by rw [hw]; exact List.mem_cons_self
  refine ⟨⟨hrc, hrs, hR.1, hR.2, pay_in ht hG, hc⟩, ht _ (hG _ hc).1, ok _ (by simp [va_wsS]), ⟨hd.1, hd.2.1⟩, fun sig h => ?_, ok _ (by simp [va_wsS]), ok _ (by simp [va_wsS])⟩
  have h2 := hd.2.2
  rw [h] at h2
  exact (Option.some.inj h2).symm
theorem vx_callSW (X : Stand p l e R s m args below meth c T locs cells slots) (hexec : p.tables.exec = Jvm.exec) {own : String} {index : Nat} {y : MethodName} {bytes : ByteArray} {maxL : Nat} {ret : Option FieldType} {hh : List (Nat × Nat × Nat × Nat)}
    (hown : s.vm.findClass own = some m.cls) (hlink : (Cond.methodLink own index y).before args s = true) (hstat : (Cond.static y).before args s = true) (hinit : (Cond.initialized y.cls).before args s = true)
    (hcode : (Cond.codeWith y bytes maxL ret hh).before args s = true) (hy : y.cls ≠ "java/lang/invoke/MethodHandle" ∧ y.cls ≠ "java/lang/invoke/VarHandle")
    {W9 : Nat} {Pre : Pt → Array Value → Prop} {Post : Pt → Array Value → Option Value → Pt → Prop} (hK : Back l R p e below s args y 3 W9 Pre Post)
    {g : JFrame} (hg : g.method = m) (hsize : g.locals.size = c.maxLocals) {argsL rest : List Value} (hlen : ∀ sig, parseMethodDescriptor y.desc = some sig → argsL.length = sig.parameters.length)
    (hstack : g.stack = argsL.reverse ++ rest) (hW : 2 * g.monitorRoom + (rest.map fun v => v.category).sum ≤ W9) (hdg : decode c.code g.pc = .ok (.invokestatic index, 3))
    (hpre : ∀ vm₁, s.WarmedH vm₁ → Pre ⟨T.setVm vm₁, locs, cells, slots⟩ argsL.toArray) :
    ∃ (v : Option Value) (vm₁ : Vm) (B : Pt), s.WarmedH vm₁ ∧ Stand p l e R s m args below meth c B.U B.locs B.cells B.slots ∧ Post ⟨T.setVm vm₁, locs, cells, slots⟩ argsL.toArray v B ∧
      ∀ target, Steps p.tables e below (B.U.setTop { g with pc := g.pc + 3, stack := v.toList ++ rest }) target → Steps p.tables e below (T.setTop g) target := by
  obtain ⟨mk, methM, cM, hnamed, hmethM, -, -, -, -, -, -, hsigM⟩ := Cond.codeWith_spec hcode
  have hstatic : methM.isStatic = true := Cond.static_spec hnamed hmethM hstat
  obtain ⟨kP, hkP, -⟩ := className_of_methodNamed hnamed
  have hinitP : kP.init = .initialized := Cond.initialized_spec (findClass_of_methodNamed hnamed) hkP hinit
  obtain ⟨vm₁, X₁, hstep₁⟩ := X.invokestatic hexec hown hlink hnamed hmethM hstatic hkP hinitP hy (g := g) hg (argsL := argsL) (rest := rest) (hlen _ hsigM) hstack hdg
  obtain ⟨v, B, X', hpost, hsteps⟩ := hK m meth c ⟨T.setVm vm₁, locs, cells, slots⟩ { g with stack := rest } (.invokestatic index) mk argsL.toArray X₁ hg hsize hdg hW (X₁.named hnamed) (hpre vm₁ X₁.warmed)
  exact ⟨v, vm₁, B, X₁.warmed, X', hpost, fun target h => hstep₁ _ fun acts => by rw [doInvoke_state]; exact hsteps.trans h⟩
theorem vx_runSW {y : MethodName} {bytes cc : ByteArray} {maxL nL mc ms n index : Nat} {ret : Option FieldType} {hh : List (Nat × Nat × Nat × Nat)} {ws : List Cond} {rm : Room} {Pc : Array Value → State → Prop} {Qc : Array Value → State → Outcome → State → Prop} {free : Addr → Prop} {Ts : List Cond} {own : String} {As rest : List Value} {g : JFrame}
    (S : CallFix p m c cc nL s args Ts own) (hM : Met l y ws rm Pc Qc mc ms free) (cw : vx_CSW R s args own index y bytes maxL ret hh ws rm mc ms n) (hp : PreS s H Pc As)
    (hg : g.method = m) (hn : As.length = n) (hsize : g.locals.size = nL) (hstack : g.stack = As.reverse ++ rest) (hW : 2 * g.monitorRoom + (rest.map fun v => v.category).sum ≤ 8) (hdg : decode cc g.pc = .ok (.invokestatic index, 3)) (hf : cells + mc ≤ R.cells ∧ slots + ms ≤ R.slots) :
    va_Run p l e R s m args below meth c H locs cells slots mc ms g rest (Qc As.toArray) (free) := by
  obtain ⟨⟨hrc, hrs, hfr, hlo, hws, hcw⟩, hcode, hini, hy, hlen, hl, hstt⟩ := cw
  have hK : Back l R p e below s args y 3 8 (PreOf R mc ms Pc) (PostOf Qc mc ms free) := va_backW (hh := hh) (bytes := bytes) (maxL := maxL) (ret := ret) hM hp.1 hrc hrs hfr hlo hws hcw (fun a' U hW => word_at hW (Or.inl (by first | rfl | simp [Cond.onTables, Cond.keeps, Cond.steady])) hini)
  obtain ⟨hx, hb, hml, ho, -⟩ := S
  intro T hT X
  obtain ⟨v, vm₁, ⟨U', l2, c2, s2⟩, hW₁, X', ⟨g', mk, t, L, e1, e2, hq, h1, hL, h2, h3⟩, st⟩ := vx_callSW X hx (hh := hh) (bytes := bytes) (maxL := maxL) (ret := ret) ho hl hstt hini hcode hy hK hg (hsize.trans hml.symm) (argsL := As) (rest := rest) (fun sig h => hn.trans (hlen sig h)) hstack hW (by rw [hb]; exact hdg)
    (fun vm₁ hW₁ => ⟨hf.1, hf.2, hp.2 (T.setVm vm₁) hT hW₁⟩)
  dsimp only [Pt.U, Pt.locs, Pt.cells, Pt.slots] at X' e1 e2 h1 h2 h3 st
  subst h1; subst h2; subst h3
  exact ⟨v, (T.setVm vm₁).calling g' mk As.toArray, t, U', L, hT, X', hL, e1, e2, hq, st⟩
/-- not caught here, past rows that name other classes: it goes on to the caller -/
theorem vx_outP {p : Program} {l : Launch} {e : Env} {R : Room} {s : State} {m : MethodId} {args : Array Value} {below : List Frame} {meth : Method} {c : Code} {H : Heap} {locs : List Loc} {cells slots : Nat} {free : Addr → Prop} {ls : Array Slot} {rest : List Value} {Qc : Array Value → State → Outcome → State → Prop} {XC : String → State → State → Prop}
    {pc : Nat} {own E : String} {ce : Cell} {q : Addr} {mc ms : Nat} (hown : s.vm.findClass own = some m.cls) (hlocks : meth.locks = false)
    (hpass : ∀ z ∈ c.exceptionTable.toList, covers z pc = false ∨ (z.catchType ≠ 0 ∧ ∃ nm : String, (Cond.classLink own z.catchType nm).before args s = true ∧ va_Nc E nm s)) (hcell : H[q]? = some ce) (hv : ce.vm = .none) (hcl : s.vm.findClass E = some ce.cls)
    (hx : ∀ t : State, t.heap = H → s.vm.Alike t.vm → XC E s t) (hf : ∀ z ∈ locs, free z.base) (hc : cells ≤ mc) (hs : slots ≤ ms) :
    vx_W p l e R s m args below meth c H locs cells slots (vx_MQ below Qc XC args s mc ms free) (F0 m pc ls rest) q := by
  intro T hT X
  have hpl : e.platform.magicAccessors = ({} : Platform).magicAccessors := by rw [X.admits.platform]
  obtain ⟨vm', hW', X', st⟩ := X.outThrough hlocks q (g := F0 m pc ls rest) rfl rfl rfl (cell := ce) (by rw [hT]; exact hcell) (by rw [hv]; rfl)
    (by obtain ⟨k9, h9, -⟩ := Vm.findClass_spec hcl; exact ⟨k9, h9⟩) (fun z hz => by
      rcases hpass z hz with h | ⟨hz0, nm, hl1, hn1⟩
      · exact Or.inl h
      · obtain ⟨c6, hc6, hcl6⟩ := Cond.classLink_spec hown hl1 e.platform hpl
        obtain ⟨a8, b8, h1, h2, h3⟩ := hn1
        cases Option.some.inj (h1.symm.trans hcl)
        cases Option.some.inj (h2.symm.trans hc6)
        exact Or.inr ⟨hz0, _, hcl6, h3⟩)
  obtain ⟨g₀, hfr⟩ := X'.frames_eq
  have hcell9 : ((T.setVm vm').setFrames (.throwing q :: below)).heap[q]? = some ce := by
    show T.heap[q]? = some ce
    rw [hT]; exact hcell
  have hend : Ended ((T.setVm vm').setFrames (.throwing q :: below)) below (.threw q) := State.frames_setFrames _ (State.cur_lt_of_frames hfr)
  refine ⟨(T.setVm vm').setFrames (.throwing q :: below), ?_, .threw q, X'.here.running, hend, Or.inr ⟨q, rfl, E, ce, locs, hx _ hT (X'.ends _).1.alike, hcell9, hv, hcl, (X'.ends _).1, (X'.ends _).2.mono hc hs, hf⟩⟩
  rw [X.pushThrowing_eq]
  exact st
/-- a thing of a world lies in the heap -/
theorem vx_lt {D : va_G} {cl : List vw_C} {ws : va_W} {H1 : Heap} (h : va_P D cl ws H1) {k : Nat} {q : Nat × va_E} (hk : ws[k]? = some q) : q.1 < H1.size := (h k q hk).lt
end VXS
/-! ===== END ===== -/
/-! ===== BEGIN methods with a table of their own: called by a name, returning or throwing ===== -/
section VXH
/-! vx_backW, vx_callVX, vx_callSX, vx_callVW, vx_runVW, vx_runVX, vx_runSX, vx_ofWH follow the same proofs as their sisters above (Free/Laws.lean, Shelf42/LK1.lean); vx_outP calls Shelf42/NT130.lean (outThrough). -/
section
variable {l : Launch} {R : Room} {p : Program} {e : Env} {below : List Frame} {s : State} {sargs : Array Value} {y : MethodName} {len W9 : Nat}
theorem vx_backW {ws : List Cond} {rm : Room} {Pc : Array Value → State → Prop} {Qc : Array Value → State → Outcome → State → Prop} {XC : String → State → State → Prop} {mc ms : Nat} {free : Addr → Prop} {bytes : ByteArray} {maxL : Nat} {ret : Option FieldType} {hh : List (Nat × Nat × Nat × Nat)}
    (hM : vx_Met l y ws rm Pc Qc XC mc ms free) (hblind : FrameBlind Pc) (hrc : rm.cells = mc) (hrs : rm.slots = ms)
    (hframes : rm.frames + 1 ≤ R.frames) (hlocals : W9 + (maxL + 11) + rm.locals ≤ R.locals)
    (hws : ∀ w ∈ ws, ∀ a' U, s.WarmedH U.vm → w.before a' U = true) (hcode : Cond.codeWith y bytes maxL ret hh ∈ ws) (hinit : ∀ a' U, s.WarmedH U.vm → (Cond.initialized y.cls).before a' U = true) :
    vx_Back l R p e below s sargs y len W9 (PreOf R mc ms Pc) (PostOf Qc mc ms free) (vx_Post XC mc ms free) := by
  intro m meth c A g ig mk a X hg hsize hdg hW hn hp
  have h1 : (headSpec ws rm).pre.before a A.U = true := atoms_intro fun w hw => hws w hw _ _ X.warmed
  have h2 : (Cond.codeWith y bytes maxL ret hh).before a A.U = true := hws _ hcode _ _ X.warmed
  have h3 : (Cond.initialized y.cls).before a A.U = true := hinit _ _ X.warmed
  have h4 : A.cells + (headSpec ws rm).room.cells ≤ R.cells := by rw [show (headSpec ws rm).room.cells = mc from hrc]; exact hp.1
  have h5 : A.slots + (headSpec ws rm).room.slots ≤ R.slots := by rw [show (headSpec ws rm).room.slots = ms from hrs]; exact hp.2.1
  have hPc : Pc a (A.U.calling g mk a) := hblind _ _ _ _ hp.2.2
  obtain ⟨U, Ls, c0, s0⟩ := A
  dsimp only [Pt.U, Pt.locs, Pt.cells, Pt.slots] at h1 h2 h3 h4 h5 X hn hPc ⊢
  obtain ⟨m9, methY, cY, hn9, hmY, hcY, -, hlY, -⟩ := Cond.codeWith_spec h2
  cases Option.some.inj (hn9.symm.trans hn)
  obtain ⟨kY, hkY, -⟩ := className_of_methodNamed hn
  have hinitY : kY.init = .initialized := Cond.initialized_spec (findClass_of_methodNamed hn) hkY h3
  have h : At U g.method c below := by rw [hg]; exact X.here
  have hlocals9 : W9 + (maxL + 11) + (headSpec ws rm).room.locals ≤ R.locals := hlocals
  have happ : (headSpec ws rm).appliesLoose y e.platform (U.calling g mk a) = true :=
    Spec.appliesLoose_calling (g := g) h hdg hn hkY hinitY
      (X.room_calling (g := g) (R' := (headSpec ws rm).room) hsize hmY hcY hframes (by rw [hlY]; omega) h4 h5) h1
  obtain ⟨mid, hmid⟩ := h.above
  have hfr : (U.setTop g).frames = (.java g :: mid) ++ below := by rw [State.frames_setTop' g h.top, hmid]; rfl
  obtain ⟨o, s₂, hsteps, -, hend, hq⟩ := Steps.callFree hM p X.admits X.cas X.clock (acts := []) hfr happ hPc trivial
  have hq' : vx_Q Qc XC mc ms free a (U.calling g mk a) o s₂ := hq
  rw [State.frames_setTop' g h.top] at hend
  obtain ⟨g₀, hg0⟩ := Option.isSome_iff_exists.mp h.top
  obtain ⟨r, hr⟩ := State.topJava?_eq_some.mp hg0
  have hr' : (({ U with heap := s₂.heap, slotsUsed := s₂.slotsUsed } : State).setVm s₂.vm).frames = .java g₀ :: r := hr
  rcases hq' with ⟨hqc, L, hfe, hL⟩ | ⟨q, rfl, E, ce, L, hx, hce, hcv, hcl, hW₂, hsm, hL⟩
  · obtain ⟨⟨v, rfl⟩, hW₂, e2, q2, q3, q4, q5, q6⟩ := id hfe
    have e3 : s₂ = ({ (U.calling g mk a).setFrames s₂.frames with heap := s₂.heap, slotsUsed := s₂.slotsUsed } : State).setVm s₂.vm := by
      have : s₂ = ({ s₂ with vm := (U.calling g mk a).vm } : State).setVm s₂.vm := rfl
      rw [e2] at this
      exact this
    obtain ⟨c₂, i₂, len₂, hc₂, hd₂, hf₂⟩ := hend
    have hW' : U.WarmedH s₂.vm := hW₂
    have hcc : c₂ = c := by
      have h1 : s₂.code? g.method = U.code? g.method := by
        rw [State.code?_eq, State.code?_eq, hW'.alike.method?]
      exact Option.some.inj (hc₂.symm.trans (h1.trans h.code))
    subst hcc
    have hlen : len₂ = len := by rw [hdg] at hd₂; cases hd₂; rfl
    subst hlen
    have hs₂ : s₂ = (({ U with heap := s₂.heap, slotsUsed := s₂.slotsUsed } : State).setVm s₂.vm).setTop { g with pc := g.pc + len₂, stack := v.toList ++ g.stack } := by
      refine e3.trans ?_
      rw [hf₂, State.calling_eq h.top, State.setFrames_setFrames, State.setTop_of_frames _ hr', hr]
      rfl
    have hsame : U.sameButNew ({ U with heap := s₂.heap, slotsUsed := s₂.slotsUsed } : State) L mc ms := by
      refine ⟨?_, q2, q3, q4, q5, q6⟩
      obtain ⟨t, ht, -⟩ := State.frames_cons hr
      show ({ U with heap := s₂.heap, slotsUsed := s₂.slotsUsed } : State) = { U.setFrames U.frames with heap := s₂.heap, slotsUsed := s₂.slotsUsed }
      rw [State.setFrames_self ht]
    subst hg
    refine Or.inl ⟨v, ⟨(({ U with heap := s₂.heap, slotsUsed := s₂.slotsUsed } : State).setVm s₂.vm), Ls ++ L, c0 + mc, s0 + ms⟩,
      ⟨X.admits, X.cas, X.clock, X.frames, X.room, X.hears, X.method, X.code, (X.here.setHeapUsed s₂.heap s₂.slotsUsed).setVm hW'.alike, X.tail, State.WarmedH.trans X.warmed hW', X.limits, X.bytes, X.same.trans (hsame.setVm s.vm)⟩,
      ⟨g, mk, s₂, L, rfl, rfl, hqc, rfl, hL, rfl, rfl⟩, ?_⟩
    show Steps p.tables e below _ ((({ U with heap := s₂.heap, slotsUsed := s₂.slotsUsed } : State).setVm s₂.vm).setTop { g with pc := g.pc + len₂, stack := v.toList ++ g.stack })
    rw [← hs₂]
    exact hsteps
  · obtain ⟨e2, q2, q3, q4, q5, q6⟩ := id hsm
    have e3 : s₂ = ({ (U.calling g mk a).setFrames s₂.frames with heap := s₂.heap, slotsUsed := s₂.slotsUsed } : State).setVm s₂.vm := by
      have : s₂ = ({ s₂ with vm := (U.calling g mk a).vm } : State).setVm s₂.vm := rfl
      rw [e2] at this
      exact this
    have hf₂ : s₂.frames = .throwing q :: .java g :: U.frames.tail := hend
    have hW' : U.WarmedH s₂.vm := hW₂
    have hs₂ : s₂ = ((({ U with heap := s₂.heap, slotsUsed := s₂.slotsUsed } : State).setVm s₂.vm).setTop g).pushFrame (.throwing q) := by
      refine e3.trans ?_
      rw [hf₂, State.calling_eq h.top, State.setFrames_setFrames, State.pushFrame, State.frames_setTop _ hr', State.setTop_of_frames _ hr', State.setFrames_setFrames, hr]
      rfl
    have hsame : U.sameButNew ({ U with heap := s₂.heap, slotsUsed := s₂.slotsUsed } : State) L mc ms := by
      refine ⟨?_, q2, q3, q4, q5, q6⟩
      obtain ⟨t, ht, -⟩ := State.frames_cons hr
      show ({ U with heap := s₂.heap, slotsUsed := s₂.slotsUsed } : State) = { U.setFrames U.frames with heap := s₂.heap, slotsUsed := s₂.slotsUsed }
      rw [State.setFrames_self ht]
    subst hg
    refine Or.inr ⟨q, ⟨(({ U with heap := s₂.heap, slotsUsed := s₂.slotsUsed } : State).setVm s₂.vm), Ls ++ L, c0 + mc, s0 + ms⟩,
      ⟨X.admits, X.cas, X.clock, X.frames, X.room, X.hears, X.method, X.code, (X.here.setHeapUsed s₂.heap s₂.slotsUsed).setVm hW'.alike, X.tail, State.WarmedH.trans X.warmed hW', X.limits, X.bytes, X.same.trans (hsame.setVm s.vm)⟩,
      ⟨g, mk, s₂, L, E, ce, rfl, rfl, hx, hce, hcv, hcl, rfl, hL, rfl, rfl⟩, ?_⟩
    show Steps p.tables e below _ (((({ U with heap := s₂.heap, slotsUsed := s₂.slotsUsed } : State).setVm s₂.vm).setTop g).pushFrame (.throwing q))
    rw [← hs₂]
    exact hsteps
end
variable {p : Program} {l : Launch} {e : Env} {R : Room} {s : State} {m : MethodId} {args : Array Value} {below : List Frame} {meth : Method} {c : Code} {T : State} {H : Heap} {locs : List Loc} {cells slots : Nat}
theorem vx_callVX (X : Stand p l e R s m args below meth c T locs cells slots) (hexec : p.tables.exec = Jvm.exec) {own C : String} {index : Nat} {y : MethodName} {bytes : ByteArray} {maxL : Nat} {ret : Option FieldType} {hh : List (Nat × Nat × Nat × Nat)}
    (hown : s.vm.findClass own = some m.cls) (hlink : (Cond.methodLink own index y).before args s = true) (hinst : (Cond.instanceMethod y).before args s = true) (hsel : (Cond.selects C y y).before args s = true)
    (hcode : (Cond.codeWith y bytes maxL ret hh).before args s = true) (hy : y.cls ≠ "java/lang/invoke/MethodHandle" ∧ y.cls ≠ "java/lang/invoke/VarHandle")
    {W9 : Nat} {Pre : Pt → Array Value → Prop} {Post : Pt → Array Value → Option Value → Pt → Prop} {PostX : Pt → Array Value → Addr → Pt → Prop} (hK : vx_Back l R p e below s args y 3 W9 Pre Post PostX)
    {b : Addr} {cellB : Cell} (hcell : T.heap[b]? = some cellB) (hobj : cellB.vm.isStatics = false) (hcls : s.vm.findClass C = some cellB.cls)
    {g : JFrame} (hg : g.method = m) (hsize : g.locals.size = c.maxLocals) {argsL rest : List Value} (hlen : ∀ sig, parseMethodDescriptor y.desc = some sig → argsL.length = sig.parameters.length)
    (hstack : g.stack = argsL.reverse ++ .ref b :: rest) (hW : 2 * g.monitorRoom + (rest.map fun v => v.category).sum ≤ W9) (hdg : decode c.code g.pc = .ok (.invokevirtual index, 3))
    (hpre : ∀ vm₁, s.WarmedH vm₁ → Pre ⟨T.setVm vm₁, locs, cells, slots⟩ (Value.ref b :: argsL).toArray) :
    (∃ (v : Option Value) (vm₁ : Vm) (B : Pt), s.WarmedH vm₁ ∧ Stand p l e R s m args below meth c B.U B.locs B.cells B.slots ∧ Post ⟨T.setVm vm₁, locs, cells, slots⟩ (Value.ref b :: argsL).toArray v B ∧
      ∀ target, Steps p.tables e below (B.U.setTop { g with pc := g.pc + 3, stack := v.toList ++ rest }) target → Steps p.tables e below (T.setTop g) target) ∨
    (∃ (q : Addr) (vm₁ : Vm) (B : Pt), s.WarmedH vm₁ ∧ Stand p l e R s m args below meth c B.U B.locs B.cells B.slots ∧ PostX ⟨T.setVm vm₁, locs, cells, slots⟩ (Value.ref b :: argsL).toArray q B ∧
      Steps p.tables e below (T.setTop g) ((B.U.setTop { g with stack := rest }).pushFrame (.throwing q))) := by
  obtain ⟨mk, methM, hnamed, hmethM, hstM, habM⟩ := Cond.instanceMethod_spec hinst
  obtain ⟨m8, methM', cM, hn8, hmethM', -, -, -, -, -, -, hsigM⟩ := Cond.codeWith_spec hcode
  cases Option.some.inj (hn8.symm.trans hnamed)
  cases hmethM.symm.trans hmethM'
  obtain ⟨c2, r2, m2, q1, q2, q3, q4, kP, hkP, hkPi⟩ := Cond.selects_spec hsel
  cases hcls.symm.trans q1
  cases (State.methodFound?_of_named hnamed hy).symm.trans q2
  cases hnamed.symm.trans q3
  have hselP : selectMethod e.platform s.vm cellB.cls mk = .method mk := by rw [Launch.admits_selectMethod X.admits]; exact q4
  obtain ⟨vm₁, X₁, hstep₁⟩ := X.invokevirtual hexec hown hlink hnamed hmethM hstM hkP hkPi hy (a := b) (cell := cellB) hcell
    (fun z h => by rw [h] at hobj; cases hobj) hselP hmethM habM hkP hkPi (g := g) hg (argsL := argsL) (rest := rest) (hlen _ hsigM) hstack hdg
  rcases hK m meth c ⟨T.setVm vm₁, locs, cells, slots⟩ { g with stack := rest } (.invokevirtual index) mk (Value.ref b :: argsL).toArray X₁ hg hsize hdg hW (X₁.named hnamed) (hpre vm₁ X₁.warmed) with ⟨v, B, X', hpost, hsteps⟩ | ⟨q, B, X', hpost, hsteps⟩
  · exact Or.inl ⟨v, vm₁, B, X₁.warmed, X', hpost, fun target h => hstep₁ _ fun acts => by rw [doInvoke_state]; exact hsteps.trans h⟩
  · exact Or.inr ⟨q, vm₁, B, X₁.warmed, X', hpost, hstep₁ _ fun acts => by rw [doInvoke_state]; exact hsteps⟩
theorem vx_callSX (X : Stand p l e R s m args below meth c T locs cells slots) (hexec : p.tables.exec = Jvm.exec) {own : String} {index : Nat} {y : MethodName} {bytes : ByteArray} {maxL : Nat} {ret : Option FieldType} {hh : List (Nat × Nat × Nat × Nat)}
    (hown : s.vm.findClass own = some m.cls) (hlink : (Cond.methodLink own index y).before args s = true) (hstat : (Cond.static y).before args s = true) (hinit : (Cond.initialized y.cls).before args s = true)
    (hcode : (Cond.codeWith y bytes maxL ret hh).before args s = true) (hy : y.cls ≠ "java/lang/invoke/MethodHandle" ∧ y.cls ≠ "java/lang/invoke/VarHandle")
    {W9 : Nat} {Pre : Pt → Array Value → Prop} {Post : Pt → Array Value → Option Value → Pt → Prop} {PostX : Pt → Array Value → Addr → Pt → Prop} (hK : vx_Back l R p e below s args y 3 W9 Pre Post PostX)
    {g : JFrame} (hg : g.method = m) (hsize : g.locals.size = c.maxLocals) {argsL rest : List Value} (hlen : ∀ sig, parseMethodDescriptor y.desc = some sig → argsL.length = sig.parameters.length)
    (hstack : g.stack = argsL.reverse ++ rest) (hW : 2 * g.monitorRoom + (rest.map fun v => v.category).sum ≤ W9) (hdg : decode c.code g.pc = .ok (.invokestatic index, 3))
    (hpre : ∀ vm₁, s.WarmedH vm₁ → Pre ⟨T.setVm vm₁, locs, cells, slots⟩ argsL.toArray) :
    (∃ (v : Option Value) (vm₁ : Vm) (B : Pt), s.WarmedH vm₁ ∧ Stand p l e R s m args below meth c B.U B.locs B.cells B.slots ∧ Post ⟨T.setVm vm₁, locs, cells, slots⟩ argsL.toArray v B ∧
      ∀ target, Steps p.tables e below (B.U.setTop { g with pc := g.pc + 3, stack := v.toList ++ rest }) target → Steps p.tables e below (T.setTop g) target) ∨
    (∃ (q : Addr) (vm₁ : Vm) (B : Pt), s.WarmedH vm₁ ∧ Stand p l e R s m args below meth c B.U B.locs B.cells B.slots ∧ PostX ⟨T.setVm vm₁, locs, cells, slots⟩ argsL.toArray q B ∧
      Steps p.tables e below (T.setTop g) ((B.U.setTop { g with stack := rest }).pushFrame (.throwing q))) := by
  obtain ⟨mk, methM, cM, hnamed, hmethM, -, -, -, -, -, -, hsigM⟩ := Cond.codeWith_spec hcode
  have hstatic : methM.isStatic = true := Cond.static_spec hnamed hmethM hstat
  obtain ⟨kP, hkP, -⟩ := className_of_methodNamed hnamed
  have hinitP : kP.init = .initialized := Cond.initialized_spec (findClass_of_methodNamed hnamed) hkP hinit
  obtain ⟨vm₁, X₁, hstep₁⟩ := X.invokestatic hexec hown hlink hnamed hmethM hstatic hkP hinitP hy (g := g) hg (argsL := argsL) (rest := rest) (hlen _ hsigM) hstack hdg
  rcases hK m meth c ⟨T.setVm vm₁, locs, cells, slots⟩ { g with stack := rest } (.invokestatic index) mk argsL.toArray X₁ hg hsize hdg hW (X₁.named hnamed) (hpre vm₁ X₁.warmed) with ⟨v, B, X', hpost, hsteps⟩ | ⟨q, B, X', hpost, hsteps⟩
  · exact Or.inl ⟨v, vm₁, B, X₁.warmed, X', hpost, fun target h => hstep₁ _ fun acts => by rw [doInvoke_state]; exact hsteps.trans h⟩
  · exact Or.inr ⟨q, vm₁, B, X₁.warmed, X', hpost, hstep₁ _ fun acts => by rw [doInvoke_state]; exact hsteps⟩
theorem vx_callVW (X : Stand p l e R s m args below meth c T locs cells slots) (hexec : p.tables.exec = Jvm.exec) {own C : String} {index : Nat} {y : MethodName} {bytes : ByteArray} {maxL : Nat} {ret : Option FieldType} {hh : List (Nat × Nat × Nat × Nat)}
    (hown : s.vm.findClass own = some m.cls) (hlink : (Cond.methodLink own index y).before args s = true) (hinst : (Cond.instanceMethod y).before args s = true) (hsel : (Cond.selects C y y).before args s = true)
    (hcode : (Cond.codeWith y bytes maxL ret hh).before args s = true) (hy : y.cls ≠ "java/lang/invoke/MethodHandle" ∧ y.cls ≠ "java/lang/invoke/VarHandle")
    {W9 : Nat} {Pre : Pt → Array Value → Prop} {Post : Pt → Array Value → Option Value → Pt → Prop} (hK : Back l R p e below s args y 3 W9 Pre Post)
    {b : Addr} {cellB : Cell} (hcell : T.heap[b]? = some cellB) (hobj : cellB.vm.isStatics = false) (hcls : s.vm.findClass C = some cellB.cls)
    {g : JFrame} (hg : g.method = m) (hsize : g.locals.size = c.maxLocals) {argsL rest : List Value} (hlen : ∀ sig, parseMethodDescriptor y.desc = some sig → argsL.length = sig.parameters.length)
    (hstack : g.stack = argsL.reverse ++ .ref b :: rest) (hW : 2 * g.monitorRoom + (rest.map fun v => v.category).sum ≤ W9) (hdg : decode c.code g.pc = .ok (.invokevirtual index, 3))
    (hpre : ∀ vm₁, s.WarmedH vm₁ → Pre ⟨T.setVm vm₁, locs, cells, slots⟩ (Value.ref b :: argsL).toArray) :
    ∃ (v : Option Value) (vm₁ : Vm) (B : Pt), s.WarmedH vm₁ ∧ Stand p l e R s m args below meth c B.U B.locs B.cells B.slots ∧ Post ⟨T.setVm vm₁, locs, cells, slots⟩ (Value.ref b :: argsL).toArray v B ∧
      ∀ target, Steps p.tables e below (B.U.setTop { g with pc := g.pc + 3, stack := v.toList ++ rest }) target → Steps p.tables e below (T.setTop g) target := by
  obtain ⟨mk, methM, hnamed, hmethM, hstM, habM⟩ := Cond.instanceMethod_spec hinst
  obtain ⟨m8, methM', cM, hn8, hmethM', -, -, -, -, -, -, hsigM⟩ := Cond.codeWith_spec hcode
  cases Option.some.inj (hn8.symm.trans hnamed)
  cases hmethM.symm.trans hmethM'
  obtain ⟨c2, r2, m2, q1, q2, q3, q4, kP, hkP, hkPi⟩ := Cond.selects_spec hsel
  cases hcls.symm.trans q1
  cases (State.methodFound?_of_named hnamed hy).symm.trans q2
  cases hnamed.symm.trans q3
  have hselP : selectMethod e.platform s.vm cellB.cls mk = .method mk := by rw [Launch.admits_selectMethod X.admits]; exact q4
  obtain ⟨vm₁, X₁, hstep₁⟩ := X.invokevirtual hexec hown hlink hnamed hmethM hstM hkP hkPi hy (a := b) (cell := cellB) hcell
    (fun z h => by rw [h] at hobj; cases hobj) hselP hmethM habM hkP hkPi (g := g) hg (argsL := argsL) (rest := rest) (hlen _ hsigM) hstack hdg
  obtain ⟨v, B, X', hpost, hsteps⟩ := hK m meth c ⟨T.setVm vm₁, locs, cells, slots⟩ { g with stack := rest } (.invokevirtual index) mk (Value.ref b :: argsL).toArray X₁ hg hsize hdg hW (X₁.named hnamed) (hpre vm₁ X₁.warmed)
  exact ⟨v, vm₁, B, X₁.warmed, X', hpost, fun target h => hstep₁ _ fun acts => by rw [doInvoke_state]; exact hsteps.trans h⟩
abbrev vx_CVW (R : Room) (s : State) (args : Array Value) (own C : String) (index : Nat) (y : MethodName) (bytes : ByteArray) (maxL : Nat) (ret : Option FieldType) (hh : List (Nat × Nat × Nat × Nat)) (ws : List Cond) (rm : Room) (mc ms n : Nat) : Prop :=
  (rm.cells = mc ∧ rm.slots = ms ∧ rm.frames + 1 ≤ R.frames ∧ 8 + (maxL + 11) + rm.locals ≤ R.locals ∧ (∀ w ∈ ws, ∀ (a' : Array Value) (U : State), s.WarmedH U.vm → w.before a' U = true) ∧ Cond.codeWith y bytes maxL ret hh ∈ ws) ∧
  (Cond.codeWith y bytes maxL ret hh).before args s = true ∧ (Cond.initialized y.cls).before args s = true ∧ (y.cls ≠ "java/lang/invoke/MethodHandle" ∧ y.cls ≠ "java/lang/invoke/VarHandle") ∧
  (∀ sig, parseMethodDescriptor y.desc = some sig → n = sig.parameters.length) ∧ (Cond.methodLink own index y).before args s = true ∧ (Cond.instanceMethod y).before args s = true ∧ (Cond.selects C y y).before args s = true
theorem vx_cwVW {own C : String} {index maxL mc ms : Nat} {y : MethodName} {bytes : ByteArray} {ret : Option FieldType} {hh : List (Nat × Nat × Nat × Nat)} {Ts ws ws' : List Cond} {rm : Room} (n : Nat) (ht : ∀ w ∈ Ts, w.before args s = true) (hT : GoodIn Ts (wsV own index C y ws)) (hw : ws = Cond.codeWith y bytes maxL ret hh :: ws') (hrc : rm.cells = mc) (hrs : rm.slots = ms)
    (hd : y.cls = C ∧ y.cls ≠ "java/lang/invoke/MethodHandle" ∧ y.cls ≠ "java/lang/invoke/VarHandle" ∧ (parseMethodDescriptor y.desc).map (fun d => d.parameters.length) = some n) (hR : rm.frames + 1 ≤ R.frames ∧ 8 + (maxL + 11) + rm.locals ≤ R.locals) :
    vx_CVW R s args own C index y bytes maxL ret hh ws rm mc ms n := by
  obtain ⟨hC, hd⟩ := hd
  subst hC
  have ok : ∀ w ∈ wsV own index y.cls y ws, w.before args s = true := fun w h => ht w (hT w h).1
  have hG : GoodIn Ts ws := fun w h => hT w (by unfold wsV; exact List.mem_append_right _ h)
  have hc : Cond.codeWith y bytes maxL ret hh ∈ ws := by rw [hw]; exact List.mem_cons_self
  refine ⟨⟨hrc, hrs, hR.1, hR.2, pay_in ht hG, hc⟩, ht _ (hG _ hc).1, ok _ (by simp [wsV]), ⟨hd.1, hd.2.1⟩, fun sig h => ?_, ok _ (by simp [wsV]), ok _ (by simp [wsV]), ok _ (by simp [wsV])⟩
  have h2 := hd.2.2
  rw [h] at h2
  exact (Option.some.inj h2).symm
theorem vx_runVW {y : MethodName} {bytes cc : ByteArray} {maxL nL mc ms n index : Nat} {ret : Option FieldType} {hh : List (Nat × Nat × Nat × Nat)} {ws : List Cond} {rm : Room} {Pc : Array Value → State → Prop} {Qc : Array Value → State → Outcome → State → Prop} {free : Addr → Prop} {Ts : List Cond} {own C : String} {b : Addr} {As rest : List Value} {g : JFrame}
    (S : CallFix p m c cc nL s args Ts own) (hM : Met l y ws rm Pc Qc mc ms free) (cw : vx_CVW R s args own C index y bytes maxL ret hh ws rm mc ms n) (hp : PreV s H C b Pc As)
    (hg : g.method = m) (hn : As.length = n) (hsize : g.locals.size = nL) (hstack : g.stack = As.reverse ++ .ref b :: rest) (hW : 2 * g.monitorRoom + (rest.map fun v => v.category).sum ≤ 8) (hdg : decode cc g.pc = .ok (.invokevirtual index, 3)) (hf : cells + mc ≤ R.cells ∧ slots + ms ≤ R.slots) :
    va_Run p l e R s m args below meth c H locs cells slots mc ms g rest (Qc (Value.ref b :: As).toArray) free := by
  obtain ⟨⟨hrc, hrs, hfr, hlo, hws, hcw⟩, hcode, hini, hy, hlen, hl, hin, hse⟩ := cw
  have hK : Back l R p e below s args y 3 8 (PreOf R mc ms Pc) (PostOf Qc mc ms free) := va_backW (hh := hh) (bytes := bytes) (maxL := maxL) (ret := ret) hM hp.1 hrc hrs hfr hlo hws hcw (fun a' U hW => word_at hW (Or.inl (by first | rfl | simp [Cond.onTables, Cond.keeps, Cond.steady])) hini)
  obtain ⟨hx, hb, hml, ho, -⟩ := S
  obtain ⟨-, ⟨cellB, hcB, hoB, hclB⟩, hPc⟩ := hp
  intro T hT X
  obtain ⟨v, vm₁, ⟨U', l2, c2, s2⟩, hW₁, X', ⟨g', mk, t, L, e1, e2, hq, h1, hL, h2, h3⟩, st⟩ := vx_callVW X hx (C := C) (hh := hh) (bytes := bytes) (maxL := maxL) (ret := ret) ho hl hin hse hcode hy hK (by rw [hT]; exact hcB) hoB hclB hg (hsize.trans hml.symm) (argsL := As) (rest := rest) (fun sig h => hn.trans (hlen sig h)) hstack hW (by rw [hb]; exact hdg)
    (fun vm₁ hW₁ => ⟨hf.1, hf.2, hPc (T.setVm vm₁) hT hW₁⟩)
  dsimp only [Pt.U, Pt.locs, Pt.cells, Pt.slots] at X' e1 e2 h1 h2 h3 st
  subst h1; subst h2; subst h3
  exact ⟨v, (T.setVm vm₁).calling g' mk (Value.ref b :: As).toArray, t, U', L, hT, X', hL, e1, e2, hq, st⟩
section
variable {y : MethodName} {bytes cc : ByteArray} {maxL nL mc ms n index : Nat} {ret : Option FieldType} {ws : List Cond} {rm : Room} {Pc : Array Value → State → Prop} {Qc : Array Value → State → Outcome → State → Prop} {XC : String → State → State → Prop} {free : Addr → Prop} {Ts : List Cond} {own C : String} {b : Addr} {As rest : List Value} {g : JFrame}
theorem vx_runVX {hh : List (Nat × Nat × Nat × Nat)} (S : CallFix p m c cc nL s args Ts own) (hM : vx_Met l y ws rm Pc Qc XC mc ms free) (cw : vx_CVW R s args own C index y bytes maxL ret hh ws rm mc ms n) (hp : PreV s H C b Pc As)
    (hg : g.method = m) (hn : As.length = n) (hsize : g.locals.size = nL) (hstack : g.stack = As.reverse ++ .ref b :: rest) (hW : 2 * g.monitorRoom + (rest.map fun v => v.category).sum ≤ 8) (hdg : decode cc g.pc = .ok (.invokevirtual index, 3)) (hf : cells + mc ≤ R.cells ∧ slots + ms ≤ R.slots) :
    vx_Run p l e R s m args below meth c H locs cells slots mc ms g rest (Qc (Value.ref b :: As).toArray) XC free := by
  obtain ⟨⟨hrc, hrs, hfr, hlo, hws, hcw⟩, hcode, hini, hy, hlen, hl, hin, hse⟩ := cw
  have hK : vx_Back l R p e below s args y 3 8 (PreOf R mc ms Pc) (PostOf Qc mc ms free) (vx_Post XC mc ms free) := vx_backW (hh := hh) (bytes := bytes) (maxL := maxL) (ret := ret) hM hp.1 hrc hrs hfr hlo hws hcw (fun a' U hW => word_at hW (Or.inl (by first | rfl | simp [Cond.onTables, Cond.keeps, Cond.steady])) hini)
  obtain ⟨hx, hb, hml, ho, -⟩ := S
  obtain ⟨-, ⟨cellB, hcB, hoB, hclB⟩, hPc⟩ := hp
  intro T hT X
  rcases vx_callVX X hx (C := C) (hh := hh) (bytes := bytes) (maxL := maxL) (ret := ret) ho hl hin hse hcode hy hK (by rw [hT]; exact hcB) hoB hclB hg (hsize.trans hml.symm) (argsL := As) (rest := rest) (fun sig h => hn.trans (hlen sig h)) hstack hW (by rw [hb]; exact hdg)
    (fun vm₁ hW₁ => ⟨hf.1, hf.2, hPc (T.setVm vm₁) hT hW₁⟩) with ⟨v, vm₁, ⟨U', l2, c2, s2⟩, hW₁, X', ⟨g', mk, t, L, e1, e2, hq, h1, hL, h2, h3⟩, st⟩ | ⟨q, vm₁, ⟨U', l2, c2, s2⟩, hW₁, X', ⟨g', mk, t, L, E, ce, e1, e2, hq, hce, hcv, hcl, h1, hL, h2, h3⟩, st⟩
  · dsimp only [Pt.U, Pt.locs, Pt.cells, Pt.slots] at X' e1 e2 h1 h2 h3 st
    subst h1; subst h2; subst h3
    exact Or.inl ⟨v, (T.setVm vm₁).calling g' mk (Value.ref b :: As).toArray, t, U', L, hT, X', hL, e1, e2, hq, st⟩
  · dsimp only [Pt.U, Pt.locs, Pt.cells, Pt.slots] at X' e1 e2 h1 h2 h3 st hcl
    subst h1; subst h2; subst h3
    exact Or.inr ⟨q, (T.setVm vm₁).calling g' mk (Value.ref b :: As).toArray, t, U', L, E, ce, hT, X', hL, e1, e2, hq, hce, hcv, vx_cls hW₁ hcl, st⟩
theorem vx_runSX {hh : List (Nat × Nat × Nat × Nat)} (S : CallFix p m c cc nL s args Ts own) (hM : vx_Met l y ws rm Pc Qc XC mc ms free) (cw : vx_CSW R s args own index y bytes maxL ret hh ws rm mc ms n) (hp : PreS s H Pc As)
    (hg : g.method = m) (hn : As.length = n) (hsize : g.locals.size = nL) (hstack : g.stack = As.reverse ++ rest) (hW : 2 * g.monitorRoom + (rest.map fun v => v.category).sum ≤ 8) (hdg : decode cc g.pc = .ok (.invokestatic index, 3)) (hf : cells + mc ≤ R.cells ∧ slots + ms ≤ R.slots) :
    vx_Run p l e R s m args below meth c H locs cells slots mc ms g rest (Qc As.toArray) XC free := by
  obtain ⟨⟨hrc, hrs, hfr, hlo, hws, hcw⟩, hcode, hini, hy, hlen, hl, hstt⟩ := cw
  have hK : vx_Back l R p e below s args y 3 8 (PreOf R mc ms Pc) (PostOf Qc mc ms free) (vx_Post XC mc ms free) := vx_backW (hh := hh) (bytes := bytes) (maxL := maxL) (ret := ret) hM hp.1 hrc hrs hfr hlo hws hcw (fun a' U hW => word_at hW (Or.inl (by first | rfl | simp [Cond.onTables, Cond.keeps, Cond.steady])) hini)
  obtain ⟨hx, hb, hml, ho, -⟩ := S
  intro T hT X
  rcases vx_callSX X hx (hh := hh) (bytes := bytes) (maxL := maxL) (ret := ret) ho hl hstt hini hcode hy hK hg (hsize.trans hml.symm) (argsL := As) (rest := rest) (fun sig h => hn.trans (hlen sig h)) hstack hW (by rw [hb]; exact hdg)
    (fun vm₁ hW₁ => ⟨hf.1, hf.2, hp.2 (T.setVm vm₁) hT hW₁⟩) with ⟨v, vm₁, ⟨U', l2, c2, s2⟩, hW₁, X', ⟨g', mk, t, L, e1, e2, hq, h1, hL, h2, h3⟩, st⟩ | ⟨q, vm₁, ⟨U', l2, c2, s2⟩, hW₁, X', ⟨g', mk, t, L, E, ce, e1, e2, hq, hce, hcv, hcl, h1, hL, h2, h3⟩, st⟩
  · dsimp only [Pt.U, Pt.locs, Pt.cells, Pt.slots] at X' e1 e2 h1 h2 h3 st
    subst h1; subst h2; subst h3
    exact Or.inl ⟨v, (T.setVm vm₁).calling g' mk As.toArray, t, U', L, hT, X', hL, e1, e2, hq, st⟩
  · dsimp only [Pt.U, Pt.locs, Pt.cells, Pt.slots] at X' e1 e2 h1 h2 h3 st hcl
    subst h1; subst h2; subst h3
    exact Or.inr ⟨q, (T.setVm vm₁).calling g' mk As.toArray, t, U', L, E, ce, hT, X', hL, e1, e2, hq, hce, hcv, vx_cls hW₁ hcl, st⟩
end
end VXH
theorem vx_ofWH {l : Launch} {y : MethodName} {ws ws' : List Cond} {rm : Room} {Pc : Array Value → State → Prop} {Qc : Array Value → State → Outcome → State → Prop} {XC : String → State → State → Prop} {mc ms : Nat} {free : Addr → Prop} {cc : ByteArray} {maxL : Nat} {ret : Option FieldType} {hh : List (Nat × Nat × Nat × Nat)}
    (hy : plainName y.cls = true) (hw : ws = Cond.codeWith y cc maxL ret hh :: ws')
    (body : ∀ p e s m args below meth c s₁, BodyLoose p l y (headSpec ws rm) cc maxL ret e s m args below meth c s₁ → c.maxLocals = maxL → Pc args s →
      W p l e (headSpec ws rm).room s m args below meth c s.heap [] 0 0 (vx_MQ below Qc XC args s mc ms free) (entryFrame m args maxL)) : vx_Met l y ws rm Pc Qc XC mc ms free := by
  refine MetFree.of_bodyS (code := cc) (maxLocals := maxL) (ret := ret) hy ?_ ?_
  · intro args s m h hn
    obtain ⟨m9, meth, c, hn9, h1, h2, h3, h4, -, h5, h6, -⟩ := Cond.codeWith_spec (atoms_spec (ws := ws) h _ (by rw [hw]; exact List.mem_cons_self))
    cases hn.symm.trans hn9
    exact ⟨meth, c, h1, h2, h3, h4, h5, h6⟩
  · intro p e s m args below meth c s₁ B hml hP _
    have hh0 : s₁.heap = s.heap := by rw [B.state]; rfl
    obtain ⟨t, a1, o, b1, b2, b3⟩ := body p e s m args below meth c s₁ B hml hP s₁ hh0 (Stand.of_body B)
    exact ⟨t, o, a1, b1, b2, b3⟩
/-! ===== END ===== -/
end
section
/-! ===== BEGIN printed: names, fields, word lists, decode rows ===== -/
def RX0 : String := "Voidrent$Lease"
def TX0 : u_T := fun k => match k with
  | 0 => ("Voidrent$Lease", "unit", "I", true)
  | 1 => ("Voidrent$Lease", "from", "I", true)
  | 2 => ("Voidrent$Lease", "firstRent", "I", true)
  | 3 => ("Voidrent$Lease", "to", "I", false)
  | 4 => ("Voidrent$Lease", "free", "I", false)
  | 5 => ("Voidrent$Lease", "every", "I", false)
  | 6 => ("Voidrent$Lease", "cap", "I", false)
  | 7 => ("Voidrent$Lease", "prepaid", "I", false)
  | 8 => ("Voidrent$Lease", "deposit", "I", false)
  | 9 => ("Voidrent$Lease", "stepDays", "[I", true)
  | 10 => ("Voidrent$Lease", "stepRents", "[I", true)
  | _ => ("Voidrent$Lease", "steps", "I", false)
def tyX0 : Nat → FieldType := fun k => match k with
  | 0 => .int
  | 1 => .int
  | 2 => .int
  | 3 => .int
  | 4 => .int
  | 5 => .int
  | 6 => .int
  | 7 => .int
  | 8 => .int
  | 9 => .array .int
  | 10 => .array .int
  | _ => .int
abbrev wsX00 : List Cond := u_ws RX0 TX0 12
theorem nmX0 : ∀ a, a < 12 → ∀ b, b < 12 → a ≠ b → (TX0 a).2.1 ≠ (TX0 b).2.1 := by decide +kernel
theorem tyX0_ok : ∀ k, k < 12 → parseFieldDescriptor (TX0 k).2.2.1 = some (tyX0 k) := by decide +kernel
abbrev cX0_init : ByteArray := prog_2_method_1_code
def yX0_init : MethodName := ⟨RX0, "<init>", "(IIII)V"⟩
abbrev cX0_runsOn : ByteArray := prog_2_method_2_code
def yX0_runsOn : MethodName := ⟨RX0, "runsOn", "(I)Z"⟩
abbrev cX0_isFreeOn : ByteArray := prog_2_method_3_code
def yX0_isFreeOn : MethodName := ⟨RX0, "isFreeOn", "(I)Z"⟩
abbrev cX0_daysWithin : ByteArray := prog_2_method_4_code
def yX0_daysWithin : MethodName := ⟨RX0, "daysWithin", "(II)I"⟩
abbrev cX0_daysIn : ByteArray := prog_2_method_5_code
def yX0_daysIn : MethodName := ⟨RX0, "daysIn", "(I)I"⟩
abbrev cX0_putStep : ByteArray := prog_2_method_6_code
def yX0_putStep : MethodName := ⟨RX0, "putStep", "(II)Z"⟩
abbrev cX0_agreedOn : ByteArray := prog_2_method_7_code
def yX0_agreedOn : MethodName := ⟨RX0, "agreedOn", "(I)I"⟩
abbrev cX0_reviewsUpTo : ByteArray := prog_2_method_8_code
def yX0_reviewsUpTo : MethodName := ⟨RX0, "reviewsUpTo", "(I)I"⟩
abbrev cX0_nextTurn : ByteArray := prog_2_method_9_code
def yX0_nextTurn : MethodName := ⟨RX0, "nextTurn", "(I)I"⟩
abbrev cX0_sooner : ByteArray := prog_2_method_10_code
def yX0_sooner : MethodName := ⟨RX0, "sooner", "(III)I"⟩
def RX1 : String := "Voidrent"
def TX1 : u_T := fun k => match k with
  | 0 => ("Voidrent", "areas", "[I", true)
  | 1 => ("Voidrent", "indices", "[I", true)
  | 2 => ("Voidrent", "costs", "[I", true)
  | 3 => ("Voidrent", "roll", "[LVoidrent$Lease;", true)
  | _ => ("Voidrent", "count", "I", false)
def tyX1 : Nat → FieldType := fun k => match k with
  | 0 => .array .int
  | 1 => .array .int
  | 2 => .array .int
  | 3 => .array (.object "Voidrent$Lease")
  | _ => .int
abbrev wsX10 : List Cond := u_ws RX1 TX1 5
theorem nmX1 : ∀ a, a < 5 → ∀ b, b < 5 → a ≠ b → (TX1 a).2.1 ≠ (TX1 b).2.1 := by decide +kernel
theorem tyX1_ok : ∀ k, k < 5 → parseFieldDescriptor (TX1 k).2.2.1 = some (tyX1 k) := by decide +kernel
abbrev cX1_init : ByteArray := prog_1_method_1_code
def yX1_init : MethodName := ⟨RX1, "<init>", "()V"⟩
abbrev cX1_setArea : ByteArray := prog_1_method_2_code
def yX1_setArea : MethodName := ⟨RX1, "setArea", "(II)I"⟩
abbrev cX1_setIndex : ByteArray := prog_1_method_3_code
def yX1_setIndex : MethodName := ⟨RX1, "setIndex", "(II)I"⟩
abbrev cX1_setCost : ByteArray := prog_1_method_4_code
def yX1_setCost : MethodName := ⟨RX1, "setCost", "(II)I"⟩
abbrev cX1_let : ByteArray := prog_1_method_5_code
def yX1_let : MethodName := ⟨RX1, "let", "(IIII)I"⟩
abbrev cX1_end : ByteArray := prog_1_method_6_code
def yX1_end : MethodName := ⟨RX1, "end", "(II)I"⟩
abbrev cX1_step : ByteArray := prog_1_method_7_code
def yX1_step : MethodName := ⟨RX1, "step", "(III)I"⟩
abbrev cX1_setTerms : ByteArray := prog_1_method_8_code
def yX1_setTerms : MethodName := ⟨RX1, "setTerms", "(III)V"⟩
abbrev cX1_setService : ByteArray := prog_1_method_9_code
def yX1_setService : MethodName := ⟨RX1, "setService", "(III)V"⟩
abbrev cX1_topUp : ByteArray := prog_1_method_10_code
def yX1_topUp : MethodName := ⟨RX1, "topUp", "(III)I"⟩
abbrev cX1_draw : ByteArray := prog_1_method_11_code
def yX1_draw : MethodName := ⟨RX1, "draw", "(II)I"⟩
abbrev cX1_held : ByteArray := prog_1_method_12_code
def yX1_held : MethodName := ⟨RX1, "held", "(I)I"⟩
abbrev cX1_leases : ByteArray := prog_1_method_13_code
def yX1_leases : MethodName := ⟨RX1, "leases", "()I"⟩
abbrev cX1_leaseOn : ByteArray := prog_1_method_14_code
def yX1_leaseOn : MethodName := ⟨RX1, "leaseOn", "(II)I"⟩
abbrev cX1_rentOn : ByteArray := prog_1_method_15_code
def yX1_rentOn : MethodName := ⟨RX1, "rentOn", "(II)I"⟩
abbrev cX1_bill : ByteArray := prog_1_method_16_code
def yX1_bill : MethodName := ⟨RX1, "bill", "(II)I"⟩
abbrev cX1_billByDays : ByteArray := prog_1_method_17_code
def yX1_billByDays : MethodName := ⟨RX1, "billByDays", "(II)I"⟩
abbrev cX1_bills : ByteArray := prog_1_method_18_code
def yX1_bills : MethodName := ⟨RX1, "bills", "(III)J"⟩
abbrev cX1_nextChange : ByteArray := prog_1_method_19_code
def yX1_nextChange : MethodName := ⟨RX1, "nextChange", "(II)I"⟩
abbrev cX1_voids : ByteArray := prog_1_method_20_code
def yX1_voids : MethodName := ⟨RX1, "voids", "(II)I"⟩
abbrev cX1_part : ByteArray := prog_1_method_21_code
def yX1_part : MethodName := ⟨RX1, "part", "(II)I"⟩
abbrev cX1_owners : ByteArray := prog_1_method_22_code
def yX1_owners : MethodName := ⟨RX1, "owners", "(I)I"⟩
abbrev cX1_balance : ByteArray := prog_1_method_23_code
def yX1_balance : MethodName := ⟨RX1, "balance", "(II)I"⟩
abbrev cX1_share : ByteArray := prog_1_method_24_code
def yX1_share : MethodName := ⟨RX1, "share", "(I)D"⟩
abbrev cX1_checkNumber : ByteArray := prog_1_method_25_code
def yX1_checkNumber : MethodName := ⟨RX1, "checkNumber", "(II)V"⟩
abbrev cX1_checkRange : ByteArray := prog_1_method_26_code
def yX1_checkRange : MethodName := ⟨RX1, "checkRange", "(III)V"⟩
abbrev cX1_find : ByteArray := prog_1_method_27_code
def yX1_find : MethodName := ⟨RX1, "find", "(I)LVoidrent$Lease;"⟩
abbrev cX1_daysLet : ByteArray := prog_1_method_28_code
def yX1_daysLet : MethodName := ⟨RX1, "daysLet", "(III)I"⟩
abbrev cX1_allAreas : ByteArray := prog_1_method_29_code
def yX1_allAreas : MethodName := ⟨RX1, "allAreas", "()I"⟩
abbrev cX1_valueAt : ByteArray := prog_1_method_30_code
def yX1_valueAt : MethodName := ⟨RX1, "valueAt", "([II)I"⟩
abbrev cX1_rentFor : ByteArray := prog_1_method_31_code
def yX1_rentFor : MethodName := ⟨RX1, "rentFor", "(LVoidrent$Lease;I)I"⟩
abbrev cX1_highestIndex : ByteArray := prog_1_method_32_code
def yX1_highestIndex : MethodName := ⟨RX1, "highestIndex", "(LVoidrent$Lease;I)I"⟩
abbrev cX1_billFor : ByteArray := prog_1_method_33_code
def yX1_billFor : MethodName := ⟨RX1, "billFor", "(LVoidrent$Lease;I)I"⟩
abbrev cX1_partOf : ByteArray := prog_1_method_34_code
def yX1_partOf : MethodName := ⟨RX1, "partOf", "(LVoidrent$Lease;II)I"⟩
def RX2 : String := "VoidrentModel"
def TX2 : u_T := fun k => match k with
  | 0 => ("VoidrentModel", "thrown", "I", false)
  | 1 => ("VoidrentModel", "areas", "[I", true)
  | 2 => ("VoidrentModel", "indices", "[I", true)
  | 3 => ("VoidrentModel", "costs", "[I", true)
  | 4 => ("VoidrentModel", "leases", "I", false)
  | 5 => ("VoidrentModel", "units", "[I", true)
  | 6 => ("VoidrentModel", "froms", "[I", true)
  | 7 => ("VoidrentModel", "tos", "[I", true)
  | 8 => ("VoidrentModel", "rents", "[I", true)
  | 9 => ("VoidrentModel", "frees", "[I", true)
  | 10 => ("VoidrentModel", "everies", "[I", true)
  | 11 => ("VoidrentModel", "caps", "[I", true)
  | 12 => ("VoidrentModel", "prepaids", "[I", true)
  | 13 => ("VoidrentModel", "deposits", "[I", true)
  | 14 => ("VoidrentModel", "steps", "[I", true)
  | 15 => ("VoidrentModel", "stepDays", "[I", true)
  | _ => ("VoidrentModel", "stepRents", "[I", true)
def tyX2 : Nat → FieldType := fun k => match k with
  | 0 => .int
  | 1 => .array .int
  | 2 => .array .int
  | 3 => .array .int
  | 4 => .int
  | 5 => .array .int
  | 6 => .array .int
  | 7 => .array .int
  | 8 => .array .int
  | 9 => .array .int
  | 10 => .array .int
  | 11 => .array .int
  | 12 => .array .int
  | 13 => .array .int
  | 14 => .array .int
  | 15 => .array .int
  | _ => .array .int
abbrev wsX20 : List Cond := u_ws RX2 TX2 17
theorem nmX2 : ∀ a, a < 17 → ∀ b, b < 17 → a ≠ b → (TX2 a).2.1 ≠ (TX2 b).2.1 := by decide +kernel
theorem tyX2_ok : ∀ k, k < 17 → parseFieldDescriptor (TX2 k).2.2.1 = some (tyX2 k) := by decide +kernel
abbrev cX2_init : ByteArray := prog_4_method_1_code
def yX2_init : MethodName := ⟨RX2, "<init>", "()V"⟩
abbrev cX2_thrown : ByteArray := prog_4_method_2_code
def yX2_thrown : MethodName := ⟨RX2, "thrown", "()I"⟩
abbrev cX2_holds : ByteArray := prog_4_method_3_code
def yX2_holds : MethodName := ⟨RX2, "holds", "(I)Z"⟩
abbrev cX2_isIn : ByteArray := prog_4_method_4_code
def yX2_isIn : MethodName := ⟨RX2, "isIn", "(III)Z"⟩
abbrev cX2_isLease : ByteArray := prog_4_method_5_code
def yX2_isLease : MethodName := ⟨RX2, "isLease", "(I)Z"⟩
abbrev cX2_setArea : ByteArray := prog_4_method_6_code
def yX2_setArea : MethodName := ⟨RX2, "setArea", "(II)I"⟩
abbrev cX2_setIndex : ByteArray := prog_4_method_7_code
def yX2_setIndex : MethodName := ⟨RX2, "setIndex", "(II)I"⟩
abbrev cX2_setCost : ByteArray := prog_4_method_8_code
def yX2_setCost : MethodName := ⟨RX2, "setCost", "(II)I"⟩
abbrev cX2_isLet : ByteArray := prog_4_method_9_code
def yX2_isLet : MethodName := ⟨RX2, "isLet", "(III)Z"⟩
abbrev cX2_let : ByteArray := prog_4_method_10_code
def yX2_let : MethodName := ⟨RX2, "let", "(IIII)I"⟩
abbrev cX2_end : ByteArray := prog_4_method_11_code
def yX2_end : MethodName := ⟨RX2, "end", "(II)I"⟩
abbrev cX2_placeOf : ByteArray := prog_4_method_12_code
def yX2_placeOf : MethodName := ⟨RX2, "placeOf", "(II)I"⟩
abbrev cX2_step : ByteArray := prog_4_method_13_code
def yX2_step : MethodName := ⟨RX2, "step", "(III)I"⟩
abbrev cX2_setTerms : ByteArray := prog_4_method_14_code
def yX2_setTerms : MethodName := ⟨RX2, "setTerms", "(III)V"⟩
abbrev cX2_setService : ByteArray := prog_4_method_15_code
def yX2_setService : MethodName := ⟨RX2, "setService", "(III)V"⟩
abbrev cX2_agreed : ByteArray := prog_4_method_16_code
def yX2_agreed : MethodName := ⟨RX2, "agreed", "(II)I"⟩
abbrev cX2_greatestIndex : ByteArray := prog_4_method_17_code
def yX2_greatestIndex : MethodName := ⟨RX2, "greatestIndex", "(II)I"⟩
abbrev cX2_isDayOf : ByteArray := prog_4_method_18_code
def yX2_isDayOf : MethodName := ⟨RX2, "isDayOf", "(II)Z"⟩
abbrev cX2_rentAt : ByteArray := prog_4_method_19_code
def yX2_rentAt : MethodName := ⟨RX2, "rentAt", "(II)I"⟩
abbrev cX2_billOf : ByteArray := prog_4_method_20_code
def yX2_billOf : MethodName := ⟨RX2, "billOf", "(II)I"⟩
abbrev cX2_topUp : ByteArray := prog_4_method_21_code
def yX2_topUp : MethodName := ⟨RX2, "topUp", "(III)I"⟩
abbrev cX2_draw : ByteArray := prog_4_method_22_code
def yX2_draw : MethodName := ⟨RX2, "draw", "(II)I"⟩
abbrev cX2_held : ByteArray := prog_4_method_23_code
def yX2_held : MethodName := ⟨RX2, "held", "(I)I"⟩
abbrev cX2_leases : ByteArray := prog_4_method_24_code
def yX2_leases : MethodName := ⟨RX2, "leases", "()I"⟩
abbrev cX2_leaseOn : ByteArray := prog_4_method_25_code
def yX2_leaseOn : MethodName := ⟨RX2, "leaseOn", "(II)I"⟩
abbrev cX2_rentOn : ByteArray := prog_4_method_26_code
def yX2_rentOn : MethodName := ⟨RX2, "rentOn", "(II)I"⟩
abbrev cX2_bill : ByteArray := prog_4_method_27_code
def yX2_bill : MethodName := ⟨RX2, "bill", "(II)I"⟩
abbrev cX2_billByDays : ByteArray := prog_4_method_28_code
def yX2_billByDays : MethodName := ⟨RX2, "billByDays", "(II)I"⟩
abbrev cX2_bills : ByteArray := prog_4_method_29_code
def yX2_bills : MethodName := ⟨RX2, "bills", "(III)J"⟩
abbrev cX2_nextChange : ByteArray := prog_4_method_30_code
def yX2_nextChange : MethodName := ⟨RX2, "nextChange", "(II)I"⟩
abbrev cX2_daysIn : ByteArray := prog_4_method_31_code
def yX2_daysIn : MethodName := ⟨RX2, "daysIn", "(II)I"⟩
abbrev cX2_allAreas : ByteArray := prog_4_method_32_code
def yX2_allAreas : MethodName := ⟨RX2, "allAreas", "()I"⟩
abbrev cX2_partOf : ByteArray := prog_4_method_33_code
def yX2_partOf : MethodName := ⟨RX2, "partOf", "(II)I"⟩
abbrev cX2_voids : ByteArray := prog_4_method_34_code
def yX2_voids : MethodName := ⟨RX2, "voids", "(II)I"⟩
abbrev cX2_part : ByteArray := prog_4_method_35_code
def yX2_part : MethodName := ⟨RX2, "part", "(II)I"⟩
abbrev cX2_owners : ByteArray := prog_4_method_36_code
def yX2_owners : MethodName := ⟨RX2, "owners", "(I)I"⟩
abbrev cX2_balance : ByteArray := prog_4_method_37_code
def yX2_balance : MethodName := ⟨RX2, "balance", "(II)I"⟩
abbrev cX2_share : ByteArray := prog_4_method_38_code
def yX2_share : MethodName := ⟨RX2, "share", "(I)D"⟩
def RJ9 : String := "java/lang/Math"
def TJ9 : u_T := fun k => match k with
  | _ => ("", "", "", false)
def tyJ9 : Nat → FieldType := fun k => match k with
  | _ => .int
abbrev wsJ90 : List Cond := u_ws RJ9 TJ9 0
theorem nmJ9 : ∀ a, a < 0 → ∀ b, b < 0 → a ≠ b → (TJ9 a).2.1 ≠ (TJ9 b).2.1 := by decide +kernel
theorem tyJ9_ok : ∀ k, k < 0 → parseFieldDescriptor (TJ9 k).2.2.1 = some (tyJ9 k) := by decide +kernel
abbrev cJ9_max_7cf53 : ByteArray := prog_9_method_65_code
def yJ9_max_7cf53 : MethodName := ⟨RJ9, "max", "(II)I"⟩
abbrev cJ9_min_7cf53 : ByteArray := prog_9_method_69_code
def yJ9_min_7cf53 : MethodName := ⟨RJ9, "min", "(II)I"⟩
def RJ0 : String := "java/lang/String"
def TJ0 : u_T := fun k => match k with
  | _ => ("", "", "", false)
def tyJ0 : Nat → FieldType := fun k => match k with
  | _ => .int
abbrev wsJ00 : List Cond := u_ws RJ0 TJ0 0
theorem nmJ0 : ∀ a, a < 0 → ∀ b, b < 0 → a ≠ b → (TJ0 a).2.1 ≠ (TJ0 b).2.1 := by decide +kernel
theorem tyJ0_ok : ∀ k, k < 0 → parseFieldDescriptor (TJ0 k).2.2.1 = some (tyJ0 k) := by decide +kernel
def RL : String := "VoidrentLaw"
abbrev cL_setArea : ByteArray := method_3_code
def yL_setArea : MethodName := ⟨RL, "setArea", "(LVoidrent;II[J)I"⟩
abbrev cL_setIndex : ByteArray := method_4_code
def yL_setIndex : MethodName := ⟨RL, "setIndex", "(LVoidrent;II[J)I"⟩
abbrev cL_setCost : ByteArray := method_5_code
def yL_setCost : MethodName := ⟨RL, "setCost", "(LVoidrent;II[J)I"⟩
abbrev cL_let : ByteArray := method_6_code
def yL_let : MethodName := ⟨RL, "let", "(LVoidrent;IIII[J)I"⟩
abbrev cL_end : ByteArray := method_7_code
def yL_end : MethodName := ⟨RL, "end", "(LVoidrent;II[J)I"⟩
abbrev cL_step : ByteArray := method_8_code
def yL_step : MethodName := ⟨RL, "step", "(LVoidrent;III[J)I"⟩
abbrev cL_setTerms : ByteArray := method_9_code
def yL_setTerms : MethodName := ⟨RL, "setTerms", "(LVoidrent;III)I"⟩
abbrev cL_setService : ByteArray := method_10_code
def yL_setService : MethodName := ⟨RL, "setService", "(LVoidrent;III)I"⟩
abbrev cL_topUp : ByteArray := method_11_code
def yL_topUp : MethodName := ⟨RL, "topUp", "(LVoidrent;III[J)I"⟩
abbrev cL_draw : ByteArray := method_12_code
def yL_draw : MethodName := ⟨RL, "draw", "(LVoidrent;II[J)I"⟩
abbrev cL_held : ByteArray := method_13_code
def yL_held : MethodName := ⟨RL, "held", "(LVoidrent;I[J)I"⟩
abbrev cL_leaseOn : ByteArray := method_14_code
def yL_leaseOn : MethodName := ⟨RL, "leaseOn", "(LVoidrent;II[J)I"⟩
abbrev cL_rentOn : ByteArray := method_15_code
def yL_rentOn : MethodName := ⟨RL, "rentOn", "(LVoidrent;II[J)I"⟩
abbrev cL_bill : ByteArray := method_16_code
def yL_bill : MethodName := ⟨RL, "bill", "(LVoidrent;II[J)I"⟩
abbrev cL_billByDays : ByteArray := method_17_code
def yL_billByDays : MethodName := ⟨RL, "billByDays", "(LVoidrent;II[J)I"⟩
abbrev cL_bills : ByteArray := method_18_code
def yL_bills : MethodName := ⟨RL, "bills", "(LVoidrent;III[J)I"⟩
abbrev cL_nextChange : ByteArray := method_19_code
def yL_nextChange : MethodName := ⟨RL, "nextChange", "(LVoidrent;II[J)I"⟩
abbrev cL_voids : ByteArray := method_20_code
def yL_voids : MethodName := ⟨RL, "voids", "(LVoidrent;II[J)I"⟩
abbrev cL_part : ByteArray := method_21_code
def yL_part : MethodName := ⟨RL, "part", "(LVoidrent;II[J)I"⟩
abbrev cL_owners : ByteArray := method_22_code
def yL_owners : MethodName := ⟨RL, "owners", "(LVoidrent;I[J)I"⟩
abbrev cL_balance : ByteArray := method_23_code
def yL_balance : MethodName := ⟨RL, "balance", "(LVoidrent;II[J)I"⟩
abbrev cL_share : ByteArray := method_24_code
def yL_share : MethodName := ⟨RL, "share", "(LVoidrent;I[D)I"⟩
abbrev cL_law : ByteArray := code
def yL_law : MethodName := ⟨RL, "law", "([I)Z"⟩
def wsX0_init : List Cond := .code yX0_init cX0_init 5 none :: ([.methodLink RX0 3 objectInit, .instanceMethod objectInit, .code objectInit ⟨#[0xb1]⟩ 1 none, .fieldLink RX0 9 "Voidrent$Lease" "free" "I", .fieldLink RX0 15 "Voidrent$Lease" "every" "I", .fieldLink RX0 18 "Voidrent$Lease" "cap" "I", .fieldLink RX0 21 "Voidrent$Lease" "prepaid" "I", .fieldLink RX0 24 "Voidrent$Lease" "deposit" "I", .arrayClass .int, .fieldLink RX0 27 "Voidrent$Lease" "stepDays" "[I", .fieldLink RX0 31 "Voidrent$Lease" "stepRents" "[I", .fieldLink RX0 34 "Voidrent$Lease" "steps" "I", .fieldLink RX0 37 "Voidrent$Lease" "unit" "I", .fieldLink RX0 40 "Voidrent$Lease" "from" "I", .fieldLink RX0 43 "Voidrent$Lease" "to" "I", .fieldLink RX0 46 "Voidrent$Lease" "firstRent" "I"] ++ wsX00)
def wsX0_runsOn : List Cond := .code yX0_runsOn cX0_runsOn 2 (some .boolean) :: ([.fieldLink RX0 40 "Voidrent$Lease" "from" "I", .fieldLink RX0 43 "Voidrent$Lease" "to" "I"] ++ wsX00)
def wsX0_isFreeOn : List Cond := .code yX0_isFreeOn cX0_isFreeOn 2 (some .boolean) :: ([.fieldLink RX0 40 "Voidrent$Lease" "from" "I", .fieldLink RX0 9 "Voidrent$Lease" "free" "I"] ++ wsX00)
def wsX0_daysWithin : List Cond := .code yX0_daysWithin cX0_daysWithin 3 (some .int) :: ([.fieldLink RX0 43 "Voidrent$Lease" "to" "I", .methodLink RX0 49 Lib.Math.min.name, .static Lib.Math.min.name, .initialized "java/lang/Math", .code Lib.Math.min.name Lib.Math.min.code 2 (some .int), .fieldLink RX0 40 "Voidrent$Lease" "from" "I", .methodLink RX0 55 Lib.Math.max.name, .static Lib.Math.max.name, .code Lib.Math.max.name Lib.Math.max.code 2 (some .int)] ++ wsX00)
def wsX0_daysIn : List Cond := .code yX0_daysIn cX0_daysIn 3 (some .int) :: ([.methodLink RX0 58 yX0_daysWithin, .instanceMethod yX0_daysWithin, .selects RX0 yX0_daysWithin yX0_daysWithin, .initialized RX0, .code yX0_daysWithin cX0_daysWithin 3 (some .int), .fieldLink RX0 43 "Voidrent$Lease" "to" "I", .methodLink RX0 49 Lib.Math.min.name, .static Lib.Math.min.name, .initialized "java/lang/Math", .code Lib.Math.min.name Lib.Math.min.code 2 (some .int), .fieldLink RX0 40 "Voidrent$Lease" "from" "I", .methodLink RX0 55 Lib.Math.max.name, .static Lib.Math.max.name, .code Lib.Math.max.name Lib.Math.max.code 2 (some .int)] ++ wsX00)
def wsX0_putStep : List Cond := .code yX0_putStep cX0_putStep 4 (some .boolean) :: ([.fieldLink RX0 34 "Voidrent$Lease" "steps" "I", .fieldLink RX0 27 "Voidrent$Lease" "stepDays" "[I", .fieldLink RX0 31 "Voidrent$Lease" "stepRents" "[I", .methodLink RX0 55 Lib.Math.max.name, .static Lib.Math.max.name, .initialized "java/lang/Math", .code Lib.Math.max.name Lib.Math.max.code 2 (some .int)] ++ wsX00)
def wsX0_agreedOn : List Cond := .code yX0_agreedOn cX0_agreedOn 5 (some .int) :: ([.fieldLink RX0 40 "Voidrent$Lease" "from" "I", .fieldLink RX0 46 "Voidrent$Lease" "firstRent" "I", .fieldLink RX0 34 "Voidrent$Lease" "steps" "I", .fieldLink RX0 27 "Voidrent$Lease" "stepDays" "[I", .fieldLink RX0 31 "Voidrent$Lease" "stepRents" "[I"] ++ wsX00)
def wsX0_reviewsUpTo : List Cond := .code yX0_reviewsUpTo cX0_reviewsUpTo 2 (some .int) :: ([.fieldLink RX0 15 "Voidrent$Lease" "every" "I", .fieldLink RX0 40 "Voidrent$Lease" "from" "I"] ++ wsX00)
def wsX0_sooner : List Cond := .code yX0_sooner cX0_sooner 3 (some .int) :: ([])
def wsX0_nextTurn : List Cond := .code yX0_nextTurn cX0_nextTurn 4 (some .int) :: ([.fieldLink RX0 40 "Voidrent$Lease" "from" "I", .fieldLink RX0 9 "Voidrent$Lease" "free" "I", .fieldLink RX0 43 "Voidrent$Lease" "to" "I", .fieldLink RX0 34 "Voidrent$Lease" "steps" "I", .fieldLink RX0 27 "Voidrent$Lease" "stepDays" "[I", .fieldLink RX0 15 "Voidrent$Lease" "every" "I", .methodLink RX0 61 yX0_sooner, .static yX0_sooner, .initialized RX0, .code yX0_sooner cX0_sooner 3 (some .int), .methodLink RX0 65 yX0_reviewsUpTo, .instanceMethod yX0_reviewsUpTo, .selects RX0 yX0_reviewsUpTo yX0_reviewsUpTo, .code yX0_reviewsUpTo cX0_reviewsUpTo 2 (some .int)] ++ wsX00)
def wsX1_init : List Cond := .code yX1_init cX1_init 2 none :: ([.methodLink RX1 1 objectInit, .instanceMethod objectInit, .code objectInit ⟨#[0xb1]⟩ 1 none, .arrayClass .int, .fieldLink RX1 9 "Voidrent" "areas" "[I", .fieldLink RX1 13 "Voidrent" "indices" "[I", .fieldLink RX1 16 "Voidrent" "costs" "[I", .classLink RX1 19 RX0, .fieldLink RX1 21 "Voidrent" "roll" "[LVoidrent$Lease;", .fieldLink RX1 25 "Voidrent" "count" "I"] ++ wsX10)
def wsX1_checkNumber : List Cond := .code yX1_checkNumber cX1_checkNumber 2 none :: ([.classLink RX1 126 "java/lang/IndexOutOfBoundsException", .initialized "java/lang/IndexOutOfBoundsException"] ++ (vx_atS RX1 130 "java/lang/IndexOutOfBoundsException" ["java/lang/RuntimeException", "java/lang/Exception"]).filter goodWord)
def wsX1_checkRange : List Cond := .code yX1_checkRange cX1_checkRange 3 none :: ([.classLink RX1 131 "java/lang/IllegalArgumentException", .initialized "java/lang/IllegalArgumentException"] ++ (vx_atS RX1 135 "java/lang/IllegalArgumentException" ["java/lang/RuntimeException", "java/lang/Exception"]).filter goodWord)
def wsX1_setArea : List Cond := .code yX1_setArea cX1_setArea 4 (some .int) :: ([.fieldLink RX1 9 "Voidrent" "areas" "[I", .methodLink RX1 29 yX1_checkNumber, .static yX1_checkNumber, .initialized RX1, .code yX1_checkNumber cX1_checkNumber 2 none, .classLink RX1 126 "java/lang/IndexOutOfBoundsException", .initialized "java/lang/IndexOutOfBoundsException", .methodLink RX1 33 yX1_checkRange, .static yX1_checkRange, .code yX1_checkRange cX1_checkRange 3 none, .classLink RX1 131 "java/lang/IllegalArgumentException", .initialized "java/lang/IllegalArgumentException"] ++ wsX10 ++ (vx_atS RX1 130 "java/lang/IndexOutOfBoundsException" ["java/lang/RuntimeException", "java/lang/Exception"]).filter goodWord ++ (vx_atS RX1 135 "java/lang/IllegalArgumentException" ["java/lang/RuntimeException", "java/lang/Exception"]).filter goodWord)
def wsX1_setIndex : List Cond := .code yX1_setIndex cX1_setIndex 4 (some .int) :: ([.fieldLink RX1 13 "Voidrent" "indices" "[I", .methodLink RX1 29 yX1_checkNumber, .static yX1_checkNumber, .initialized RX1, .code yX1_checkNumber cX1_checkNumber 2 none, .classLink RX1 126 "java/lang/IndexOutOfBoundsException", .initialized "java/lang/IndexOutOfBoundsException", .methodLink RX1 33 yX1_checkRange, .static yX1_checkRange, .code yX1_checkRange cX1_checkRange 3 none, .classLink RX1 131 "java/lang/IllegalArgumentException", .initialized "java/lang/IllegalArgumentException"] ++ wsX10 ++ (vx_atS RX1 130 "java/lang/IndexOutOfBoundsException" ["java/lang/RuntimeException", "java/lang/Exception"]).filter goodWord ++ (vx_atS RX1 135 "java/lang/IllegalArgumentException" ["java/lang/RuntimeException", "java/lang/Exception"]).filter goodWord)
def wsX1_setCost : List Cond := .code yX1_setCost cX1_setCost 4 (some .int) :: ([.fieldLink RX1 16 "Voidrent" "costs" "[I", .constant RX1 37 (999999), .methodLink RX1 29 yX1_checkNumber, .static yX1_checkNumber, .initialized RX1, .code yX1_checkNumber cX1_checkNumber 2 none, .classLink RX1 126 "java/lang/IndexOutOfBoundsException", .initialized "java/lang/IndexOutOfBoundsException", .methodLink RX1 33 yX1_checkRange, .static yX1_checkRange, .code yX1_checkRange cX1_checkRange 3 none, .classLink RX1 131 "java/lang/IllegalArgumentException", .initialized "java/lang/IllegalArgumentException"] ++ wsX10 ++ (vx_atS RX1 130 "java/lang/IndexOutOfBoundsException" ["java/lang/RuntimeException", "java/lang/Exception"]).filter goodWord ++ (vx_atS RX1 135 "java/lang/IllegalArgumentException" ["java/lang/RuntimeException", "java/lang/Exception"]).filter goodWord)
def wsX1_daysLet : List Cond := .code yX1_daysLet cX1_daysLet 9 (some .int) :: ([.fieldLink RX1 21 "Voidrent" "roll" "[LVoidrent$Lease;", .methodLink RX1 138 yX0_daysWithin, .instanceMethod yX0_daysWithin, .selects RX0 yX0_daysWithin yX0_daysWithin, .initialized RX0, .code yX0_daysWithin cX0_daysWithin 3 (some .int), .fieldLink RX0 43 "Voidrent$Lease" "to" "I", .methodLink RX0 49 Lib.Math.min.name, .static Lib.Math.min.name, .initialized "java/lang/Math", .code Lib.Math.min.name Lib.Math.min.code 2 (some .int), .fieldLink RX0 40 "Voidrent$Lease" "from" "I", .methodLink RX0 55 Lib.Math.max.name, .static Lib.Math.max.name, .code Lib.Math.max.name Lib.Math.max.code 2 (some .int)] ++ wsX10 ++ wsX00)
def wsX1_let_r1 : List Cond := [Cond.classLink RX1 39 "java/lang/IllegalStateException", Cond.initialized "java/lang/IllegalStateException", Cond.fieldLink RX1 9 "Voidrent" "areas" "[I", Cond.constant RX1 38 (99999), Cond.fieldLink RX1 25 "Voidrent" "count" "I", Cond.fieldLink RX1 21 "Voidrent" "roll" "[LVoidrent$Lease;", Cond.classLink RX1 19 RX0, Cond.instantiable RX0 12, Cond.initialized RX0, Cond.methodLink RX1 29 yX1_checkNumber, Cond.static yX1_checkNumber, Cond.initialized RX1, Cond.code yX1_checkNumber cX1_checkNumber 2 none, Cond.classLink RX1 126 "java/lang/IndexOutOfBoundsException", Cond.initialized "java/lang/IndexOutOfBoundsException", Cond.methodLink RX1 33 yX1_checkRange, Cond.static yX1_checkRange, Cond.code yX1_checkRange cX1_checkRange 3 none, Cond.classLink RX1 131 "java/lang/IllegalArgumentException", Cond.initialized "java/lang/IllegalArgumentException", Cond.methodLink RX1 46 yX1_daysLet, Cond.instanceMethod yX1_daysLet, Cond.selects RX1 yX1_daysLet yX1_daysLet, Cond.code yX1_daysLet cX1_daysLet 9 (some .int)]
def wsX1_let_r2 : List Cond := [Cond.methodLink RX1 138 yX0_daysWithin, Cond.instanceMethod yX0_daysWithin, Cond.selects RX0 yX0_daysWithin yX0_daysWithin, Cond.code yX0_daysWithin cX0_daysWithin 3 (some .int), Cond.fieldLink RX0 43 "Voidrent$Lease" "to" "I", Cond.methodLink RX0 49 Lib.Math.min.name, Cond.static Lib.Math.min.name, Cond.initialized "java/lang/Math", Cond.code Lib.Math.min.name Lib.Math.min.code 2 (some .int), Cond.fieldLink RX0 40 "Voidrent$Lease" "from" "I", Cond.methodLink RX0 55 Lib.Math.max.name, Cond.static Lib.Math.max.name, Cond.code Lib.Math.max.name Lib.Math.max.code 2 (some .int), Cond.methodLink RX1 52 yX0_init, Cond.instanceMethod yX0_init, Cond.code yX0_init cX0_init 5 none, Cond.methodLink RX0 3 objectInit, Cond.instanceMethod objectInit, Cond.code objectInit ⟨#[0xb1]⟩ 1 none, Cond.fieldLink RX0 9 "Voidrent$Lease" "free" "I", Cond.fieldLink RX0 15 "Voidrent$Lease" "every" "I", Cond.fieldLink RX0 18 "Voidrent$Lease" "cap" "I", Cond.fieldLink RX0 21 "Voidrent$Lease" "prepaid" "I", Cond.fieldLink RX0 24 "Voidrent$Lease" "deposit" "I"]
def wsX1_let_r3 : List Cond := [Cond.arrayClass .int, Cond.fieldLink RX0 27 "Voidrent$Lease" "stepDays" "[I", Cond.fieldLink RX0 31 "Voidrent$Lease" "stepRents" "[I", Cond.fieldLink RX0 34 "Voidrent$Lease" "steps" "I", Cond.fieldLink RX0 37 "Voidrent$Lease" "unit" "I", Cond.fieldLink RX0 46 "Voidrent$Lease" "firstRent" "I"]
def wsX1_let : List Cond := .code yX1_let cX1_let 6 (some .int) :: ((wsX1_let_r1 ++ (wsX1_let_r2 ++ wsX1_let_r3)) ++ wsX10 ++ wsX00 ++ (vx_atS RX1 43 "java/lang/IllegalStateException" ["java/lang/RuntimeException", "java/lang/Exception"]).filter goodWord ++ (vx_atS RX1 130 "java/lang/IndexOutOfBoundsException" ["java/lang/RuntimeException", "java/lang/Exception"]).filter goodWord ++ (vx_atS RX1 135 "java/lang/IllegalArgumentException" ["java/lang/RuntimeException", "java/lang/Exception"]).filter goodWord)
def wsX1_find : List Cond := .code yX1_find cX1_find 3 (some (.object "Voidrent$Lease")) :: ([.classLink RX1 126 "java/lang/IndexOutOfBoundsException", .initialized "java/lang/IndexOutOfBoundsException", .fieldLink RX1 21 "Voidrent" "roll" "[LVoidrent$Lease;", .methodLink RX1 29 yX1_checkNumber, .static yX1_checkNumber, .initialized RX1, .code yX1_checkNumber cX1_checkNumber 2 none] ++ wsX10 ++ (vx_atS RX1 130 "java/lang/IndexOutOfBoundsException" ["java/lang/RuntimeException", "java/lang/Exception"]).filter goodWord)
def wsX1_end : List Cond := .code yX1_end cX1_end 5 (some .int) :: ([.methodLink RX1 55 yX1_find, .instanceMethod yX1_find, .selects RX1 yX1_find yX1_find, .initialized RX1, .code yX1_find cX1_find 3 (some (.object "Voidrent$Lease")), .classLink RX1 126 "java/lang/IndexOutOfBoundsException", .initialized "java/lang/IndexOutOfBoundsException", .fieldLink RX1 21 "Voidrent" "roll" "[LVoidrent$Lease;", .methodLink RX1 29 yX1_checkNumber, .static yX1_checkNumber, .code yX1_checkNumber cX1_checkNumber 2 none, .methodLink RX1 33 yX1_checkRange, .static yX1_checkRange, .code yX1_checkRange cX1_checkRange 3 none, .classLink RX1 131 "java/lang/IllegalArgumentException", .initialized "java/lang/IllegalArgumentException"] ++ wsX00 ++ wsX10 ++ (vx_atS RX1 130 "java/lang/IndexOutOfBoundsException" ["java/lang/RuntimeException", "java/lang/Exception"]).filter goodWord ++ (vx_atS RX1 135 "java/lang/IllegalArgumentException" ["java/lang/RuntimeException", "java/lang/Exception"]).filter goodWord)
def wsX1_step_r1 : List Cond := [Cond.classLink RX1 39 "java/lang/IllegalStateException", Cond.initialized "java/lang/IllegalStateException", Cond.constant RX1 38 (99999), Cond.methodLink RX1 55 yX1_find, Cond.instanceMethod yX1_find, Cond.selects RX1 yX1_find yX1_find, Cond.initialized RX1, Cond.code yX1_find cX1_find 3 (some (.object "Voidrent$Lease")), Cond.classLink RX1 126 "java/lang/IndexOutOfBoundsException", Cond.initialized "java/lang/IndexOutOfBoundsException", Cond.fieldLink RX1 21 "Voidrent" "roll" "[LVoidrent$Lease;", Cond.methodLink RX1 29 yX1_checkNumber, Cond.static yX1_checkNumber, Cond.code yX1_checkNumber cX1_checkNumber 2 none, Cond.methodLink RX1 33 yX1_checkRange, Cond.static yX1_checkRange, Cond.code yX1_checkRange cX1_checkRange 3 none, Cond.classLink RX1 131 "java/lang/IllegalArgumentException", Cond.initialized "java/lang/IllegalArgumentException", Cond.methodLink RX1 65 yX0_putStep, Cond.instanceMethod yX0_putStep, Cond.selects RX0 yX0_putStep yX0_putStep, Cond.initialized RX0, Cond.code yX0_putStep cX0_putStep 4 (some .boolean)]
def wsX1_step_r2 : List Cond := [Cond.fieldLink RX0 34 "Voidrent$Lease" "steps" "I", Cond.fieldLink RX0 27 "Voidrent$Lease" "stepDays" "[I", Cond.fieldLink RX0 31 "Voidrent$Lease" "stepRents" "[I", Cond.methodLink RX0 55 Lib.Math.max.name, Cond.static Lib.Math.max.name, Cond.initialized "java/lang/Math", Cond.code Lib.Math.max.name Lib.Math.max.code 2 (some .int)]
def wsX1_step : List Cond := .code yX1_step cX1_step 5 (some .int) :: ((wsX1_step_r1 ++ wsX1_step_r2) ++ wsX00 ++ wsX10 ++ (vx_atS RX1 43 "java/lang/IllegalStateException" ["java/lang/RuntimeException", "java/lang/Exception"]).filter goodWord ++ (vx_atS RX1 130 "java/lang/IndexOutOfBoundsException" ["java/lang/RuntimeException", "java/lang/Exception"]).filter goodWord ++ (vx_atS RX1 135 "java/lang/IllegalArgumentException" ["java/lang/RuntimeException", "java/lang/Exception"]).filter goodWord)
def wsX1_setTerms : List Cond := .code yX1_setTerms cX1_setTerms 5 none :: ([.methodLink RX1 55 yX1_find, .instanceMethod yX1_find, .selects RX1 yX1_find yX1_find, .initialized RX1, .code yX1_find cX1_find 3 (some (.object "Voidrent$Lease")), .classLink RX1 126 "java/lang/IndexOutOfBoundsException", .initialized "java/lang/IndexOutOfBoundsException", .fieldLink RX1 21 "Voidrent" "roll" "[LVoidrent$Lease;", .methodLink RX1 29 yX1_checkNumber, .static yX1_checkNumber, .code yX1_checkNumber cX1_checkNumber 2 none, .methodLink RX1 33 yX1_checkRange, .static yX1_checkRange, .code yX1_checkRange cX1_checkRange 3 none, .classLink RX1 131 "java/lang/IllegalArgumentException", .initialized "java/lang/IllegalArgumentException"] ++ wsX00 ++ wsX10 ++ (vx_atS RX1 130 "java/lang/IndexOutOfBoundsException" ["java/lang/RuntimeException", "java/lang/Exception"]).filter goodWord ++ (vx_atS RX1 135 "java/lang/IllegalArgumentException" ["java/lang/RuntimeException", "java/lang/Exception"]).filter goodWord)
def wsX1_setService : List Cond := .code yX1_setService cX1_setService 5 none :: ([.constant RX1 37 (999999), .methodLink RX1 55 yX1_find, .instanceMethod yX1_find, .selects RX1 yX1_find yX1_find, .initialized RX1, .code yX1_find cX1_find 3 (some (.object "Voidrent$Lease")), .classLink RX1 126 "java/lang/IndexOutOfBoundsException", .initialized "java/lang/IndexOutOfBoundsException", .fieldLink RX1 21 "Voidrent" "roll" "[LVoidrent$Lease;", .methodLink RX1 29 yX1_checkNumber, .static yX1_checkNumber, .code yX1_checkNumber cX1_checkNumber 2 none, .methodLink RX1 33 yX1_checkRange, .static yX1_checkRange, .code yX1_checkRange cX1_checkRange 3 none, .classLink RX1 131 "java/lang/IllegalArgumentException", .initialized "java/lang/IllegalArgumentException"] ++ wsX00 ++ wsX10 ++ (vx_atS RX1 130 "java/lang/IndexOutOfBoundsException" ["java/lang/RuntimeException", "java/lang/Exception"]).filter goodWord ++ (vx_atS RX1 135 "java/lang/IllegalArgumentException" ["java/lang/RuntimeException", "java/lang/Exception"]).filter goodWord)
def wsX1_valueAt : List Cond := .code yX1_valueAt cX1_valueAt 2 (some .int) :: ([])
def wsX1_highestIndex : List Cond := .code yX1_highestIndex cX1_highestIndex 7 (some .int) :: ([.fieldLink RX1 13 "Voidrent" "indices" "[I", .methodLink RX1 93 Lib.Math.max.name, .static Lib.Math.max.name, .initialized "java/lang/Math", .code Lib.Math.max.name Lib.Math.max.code 2 (some .int), .methodLink RX1 154 yX0_reviewsUpTo, .instanceMethod yX0_reviewsUpTo, .selects RX0 yX0_reviewsUpTo yX0_reviewsUpTo, .initialized RX0, .code yX0_reviewsUpTo cX0_reviewsUpTo 2 (some .int), .fieldLink RX0 15 "Voidrent$Lease" "every" "I", .fieldLink RX0 40 "Voidrent$Lease" "from" "I", .methodLink RX1 147 yX1_valueAt, .static yX1_valueAt, .initialized RX1, .code yX1_valueAt cX1_valueAt 2 (some .int)] ++ wsX00 ++ wsX10)
def wsX1_rentFor_r1 : List Cond := [Cond.fieldLink RX1 13 "Voidrent" "indices" "[I", Cond.methodLink RX1 93 Lib.Math.max.name, Cond.static Lib.Math.max.name, Cond.initialized "java/lang/Math", Cond.code Lib.Math.max.name Lib.Math.max.code 2 (some .int), Cond.methodLink RX1 104 yX0_runsOn, Cond.instanceMethod yX0_runsOn, Cond.selects RX0 yX0_runsOn yX0_runsOn, Cond.initialized RX0, Cond.code yX0_runsOn cX0_runsOn 2 (some .boolean), Cond.fieldLink RX0 40 "Voidrent$Lease" "from" "I", Cond.fieldLink RX0 43 "Voidrent$Lease" "to" "I", Cond.methodLink RX1 141 yX0_isFreeOn, Cond.instanceMethod yX0_isFreeOn, Cond.selects RX0 yX0_isFreeOn yX0_isFreeOn, Cond.code yX0_isFreeOn cX0_isFreeOn 2 (some .boolean), Cond.fieldLink RX0 9 "Voidrent$Lease" "free" "I", Cond.methodLink RX1 144 yX0_agreedOn, Cond.instanceMethod yX0_agreedOn, Cond.selects RX0 yX0_agreedOn yX0_agreedOn, Cond.code yX0_agreedOn cX0_agreedOn 5 (some .int), Cond.fieldLink RX0 46 "Voidrent$Lease" "firstRent" "I", Cond.fieldLink RX0 34 "Voidrent$Lease" "steps" "I", Cond.fieldLink RX0 27 "Voidrent$Lease" "stepDays" "[I"]
def wsX1_rentFor_r2 : List Cond := [Cond.fieldLink RX0 31 "Voidrent$Lease" "stepRents" "[I", Cond.methodLink RX1 147 yX1_valueAt, Cond.static yX1_valueAt, Cond.initialized RX1, Cond.code yX1_valueAt cX1_valueAt 2 (some .int), Cond.methodLink RX1 151 yX1_highestIndex, Cond.instanceMethod yX1_highestIndex, Cond.selects RX1 yX1_highestIndex yX1_highestIndex, Cond.code yX1_highestIndex cX1_highestIndex 7 (some .int), Cond.methodLink RX1 154 yX0_reviewsUpTo, Cond.instanceMethod yX0_reviewsUpTo, Cond.selects RX0 yX0_reviewsUpTo yX0_reviewsUpTo, Cond.code yX0_reviewsUpTo cX0_reviewsUpTo 2 (some .int), Cond.fieldLink RX0 15 "Voidrent$Lease" "every" "I"]
def wsX1_rentFor : List Cond := .code yX1_rentFor cX1_rentFor 5 (some .int) :: ((wsX1_rentFor_r1 ++ wsX1_rentFor_r2) ++ wsX10 ++ wsX00)
def wsX1_topUp_r1 : List Cond := [Cond.methodLink RX1 93 Lib.Math.max.name, Cond.static Lib.Math.max.name, Cond.initialized "java/lang/Math", Cond.code Lib.Math.max.name Lib.Math.max.code 2 (some .int), Cond.methodLink RX1 55 yX1_find, Cond.instanceMethod yX1_find, Cond.selects RX1 yX1_find yX1_find, Cond.initialized RX1, Cond.code yX1_find cX1_find 3 (some (.object "Voidrent$Lease")), Cond.classLink RX1 126 "java/lang/IndexOutOfBoundsException", Cond.initialized "java/lang/IndexOutOfBoundsException", Cond.fieldLink RX1 21 "Voidrent" "roll" "[LVoidrent$Lease;", Cond.methodLink RX1 29 yX1_checkNumber, Cond.static yX1_checkNumber, Cond.code yX1_checkNumber cX1_checkNumber 2 none, Cond.methodLink RX1 33 yX1_checkRange, Cond.static yX1_checkRange, Cond.code yX1_checkRange cX1_checkRange 3 none, Cond.classLink RX1 131 "java/lang/IllegalArgumentException", Cond.initialized "java/lang/IllegalArgumentException", Cond.methodLink RX1 86 yX1_rentFor, Cond.instanceMethod yX1_rentFor, Cond.selects RX1 yX1_rentFor yX1_rentFor, Cond.code yX1_rentFor cX1_rentFor 5 (some .int)]
def wsX1_topUp_r2 : List Cond := [Cond.fieldLink RX1 13 "Voidrent" "indices" "[I", Cond.methodLink RX1 104 yX0_runsOn, Cond.instanceMethod yX0_runsOn, Cond.selects RX0 yX0_runsOn yX0_runsOn, Cond.initialized RX0, Cond.code yX0_runsOn cX0_runsOn 2 (some .boolean), Cond.fieldLink RX0 40 "Voidrent$Lease" "from" "I", Cond.fieldLink RX0 43 "Voidrent$Lease" "to" "I", Cond.methodLink RX1 141 yX0_isFreeOn, Cond.instanceMethod yX0_isFreeOn, Cond.selects RX0 yX0_isFreeOn yX0_isFreeOn, Cond.code yX0_isFreeOn cX0_isFreeOn 2 (some .boolean), Cond.fieldLink RX0 9 "Voidrent$Lease" "free" "I", Cond.methodLink RX1 144 yX0_agreedOn, Cond.instanceMethod yX0_agreedOn, Cond.selects RX0 yX0_agreedOn yX0_agreedOn, Cond.code yX0_agreedOn cX0_agreedOn 5 (some .int), Cond.fieldLink RX0 46 "Voidrent$Lease" "firstRent" "I", Cond.fieldLink RX0 34 "Voidrent$Lease" "steps" "I", Cond.fieldLink RX0 27 "Voidrent$Lease" "stepDays" "[I", Cond.fieldLink RX0 31 "Voidrent$Lease" "stepRents" "[I", Cond.methodLink RX1 147 yX1_valueAt, Cond.static yX1_valueAt, Cond.code yX1_valueAt cX1_valueAt 2 (some .int)]
def wsX1_topUp_r3 : List Cond := [Cond.methodLink RX1 151 yX1_highestIndex, Cond.instanceMethod yX1_highestIndex, Cond.selects RX1 yX1_highestIndex yX1_highestIndex, Cond.code yX1_highestIndex cX1_highestIndex 7 (some .int), Cond.methodLink RX1 154 yX0_reviewsUpTo, Cond.instanceMethod yX0_reviewsUpTo, Cond.selects RX0 yX0_reviewsUpTo yX0_reviewsUpTo, Cond.code yX0_reviewsUpTo cX0_reviewsUpTo 2 (some .int), Cond.fieldLink RX0 15 "Voidrent$Lease" "every" "I"]
def wsX1_topUp : List Cond := .code yX1_topUp cX1_topUp 6 (some .int) :: ((wsX1_topUp_r1 ++ (wsX1_topUp_r2 ++ wsX1_topUp_r3)) ++ wsX00 ++ wsX10 ++ (vx_atS RX1 130 "java/lang/IndexOutOfBoundsException" ["java/lang/RuntimeException", "java/lang/Exception"]).filter goodWord ++ (vx_atS RX1 135 "java/lang/IllegalArgumentException" ["java/lang/RuntimeException", "java/lang/Exception"]).filter goodWord)
def wsX1_draw : List Cond := .code yX1_draw cX1_draw 4 (some .int) :: ([.classLink RX1 39 "java/lang/IllegalStateException", .initialized "java/lang/IllegalStateException", .constant RX1 37 (999999), .methodLink RX1 55 yX1_find, .instanceMethod yX1_find, .selects RX1 yX1_find yX1_find, .initialized RX1, .code yX1_find cX1_find 3 (some (.object "Voidrent$Lease")), .classLink RX1 126 "java/lang/IndexOutOfBoundsException", .initialized "java/lang/IndexOutOfBoundsException", .fieldLink RX1 21 "Voidrent" "roll" "[LVoidrent$Lease;", .methodLink RX1 29 yX1_checkNumber, .static yX1_checkNumber, .code yX1_checkNumber cX1_checkNumber 2 none, .methodLink RX1 33 yX1_checkRange, .static yX1_checkRange, .code yX1_checkRange cX1_checkRange 3 none, .classLink RX1 131 "java/lang/IllegalArgumentException", .initialized "java/lang/IllegalArgumentException"] ++ wsX00 ++ wsX10 ++ (vx_atS RX1 43 "java/lang/IllegalStateException" ["java/lang/RuntimeException", "java/lang/Exception"]).filter goodWord ++ (vx_atS RX1 130 "java/lang/IndexOutOfBoundsException" ["java/lang/RuntimeException", "java/lang/Exception"]).filter goodWord ++ (vx_atS RX1 135 "java/lang/IllegalArgumentException" ["java/lang/RuntimeException", "java/lang/Exception"]).filter goodWord)
def wsX1_held : List Cond := .code yX1_held cX1_held 2 (some .int) :: ([.methodLink RX1 55 yX1_find, .instanceMethod yX1_find, .selects RX1 yX1_find yX1_find, .initialized RX1, .code yX1_find cX1_find 3 (some (.object "Voidrent$Lease")), .classLink RX1 126 "java/lang/IndexOutOfBoundsException", .initialized "java/lang/IndexOutOfBoundsException", .fieldLink RX1 21 "Voidrent" "roll" "[LVoidrent$Lease;", .methodLink RX1 29 yX1_checkNumber, .static yX1_checkNumber, .code yX1_checkNumber cX1_checkNumber 2 none] ++ wsX00 ++ wsX10 ++ (vx_atS RX1 130 "java/lang/IndexOutOfBoundsException" ["java/lang/RuntimeException", "java/lang/Exception"]).filter goodWord)
def wsX1_leases : List Cond := .code yX1_leases cX1_leases 1 (some .int) :: ([.fieldLink RX1 25 "Voidrent" "count" "I"] ++ wsX10)
def wsX1_leaseOn : List Cond := .code yX1_leaseOn cX1_leaseOn 5 (some .int) :: ([.fieldLink RX1 9 "Voidrent" "areas" "[I", .fieldLink RX1 21 "Voidrent" "roll" "[LVoidrent$Lease;", .methodLink RX1 29 yX1_checkNumber, .static yX1_checkNumber, .initialized RX1, .code yX1_checkNumber cX1_checkNumber 2 none, .classLink RX1 126 "java/lang/IndexOutOfBoundsException", .initialized "java/lang/IndexOutOfBoundsException", .methodLink RX1 104 yX0_runsOn, .instanceMethod yX0_runsOn, .selects RX0 yX0_runsOn yX0_runsOn, .initialized RX0, .code yX0_runsOn cX0_runsOn 2 (some .boolean), .fieldLink RX0 40 "Voidrent$Lease" "from" "I", .fieldLink RX0 43 "Voidrent$Lease" "to" "I"] ++ wsX10 ++ wsX00 ++ (vx_atS RX1 130 "java/lang/IndexOutOfBoundsException" ["java/lang/RuntimeException", "java/lang/Exception"]).filter goodWord)
def wsX1_rentOn_r1 : List Cond := [Cond.methodLink RX1 55 yX1_find, Cond.instanceMethod yX1_find, Cond.selects RX1 yX1_find yX1_find, Cond.initialized RX1, Cond.code yX1_find cX1_find 3 (some (.object "Voidrent$Lease")), Cond.classLink RX1 126 "java/lang/IndexOutOfBoundsException", Cond.initialized "java/lang/IndexOutOfBoundsException", Cond.fieldLink RX1 21 "Voidrent" "roll" "[LVoidrent$Lease;", Cond.methodLink RX1 29 yX1_checkNumber, Cond.static yX1_checkNumber, Cond.code yX1_checkNumber cX1_checkNumber 2 none, Cond.methodLink RX1 86 yX1_rentFor, Cond.instanceMethod yX1_rentFor, Cond.selects RX1 yX1_rentFor yX1_rentFor, Cond.code yX1_rentFor cX1_rentFor 5 (some .int), Cond.fieldLink RX1 13 "Voidrent" "indices" "[I", Cond.methodLink RX1 93 Lib.Math.max.name, Cond.static Lib.Math.max.name, Cond.initialized "java/lang/Math", Cond.code Lib.Math.max.name Lib.Math.max.code 2 (some .int), Cond.methodLink RX1 104 yX0_runsOn, Cond.instanceMethod yX0_runsOn, Cond.selects RX0 yX0_runsOn yX0_runsOn, Cond.initialized RX0]
def wsX1_rentOn_r2 : List Cond := [Cond.code yX0_runsOn cX0_runsOn 2 (some .boolean), Cond.fieldLink RX0 40 "Voidrent$Lease" "from" "I", Cond.fieldLink RX0 43 "Voidrent$Lease" "to" "I", Cond.methodLink RX1 141 yX0_isFreeOn, Cond.instanceMethod yX0_isFreeOn, Cond.selects RX0 yX0_isFreeOn yX0_isFreeOn, Cond.code yX0_isFreeOn cX0_isFreeOn 2 (some .boolean), Cond.fieldLink RX0 9 "Voidrent$Lease" "free" "I", Cond.methodLink RX1 144 yX0_agreedOn, Cond.instanceMethod yX0_agreedOn, Cond.selects RX0 yX0_agreedOn yX0_agreedOn, Cond.code yX0_agreedOn cX0_agreedOn 5 (some .int), Cond.fieldLink RX0 46 "Voidrent$Lease" "firstRent" "I", Cond.fieldLink RX0 34 "Voidrent$Lease" "steps" "I", Cond.fieldLink RX0 27 "Voidrent$Lease" "stepDays" "[I", Cond.fieldLink RX0 31 "Voidrent$Lease" "stepRents" "[I", Cond.methodLink RX1 147 yX1_valueAt, Cond.static yX1_valueAt, Cond.code yX1_valueAt cX1_valueAt 2 (some .int), Cond.methodLink RX1 151 yX1_highestIndex, Cond.instanceMethod yX1_highestIndex, Cond.selects RX1 yX1_highestIndex yX1_highestIndex, Cond.code yX1_highestIndex cX1_highestIndex 7 (some .int), Cond.methodLink RX1 154 yX0_reviewsUpTo]
def wsX1_rentOn_r3 : List Cond := [Cond.instanceMethod yX0_reviewsUpTo, Cond.selects RX0 yX0_reviewsUpTo yX0_reviewsUpTo, Cond.code yX0_reviewsUpTo cX0_reviewsUpTo 2 (some .int), Cond.fieldLink RX0 15 "Voidrent$Lease" "every" "I"]
def wsX1_rentOn : List Cond := .code yX1_rentOn cX1_rentOn 4 (some .int) :: ((wsX1_rentOn_r1 ++ (wsX1_rentOn_r2 ++ wsX1_rentOn_r3)) ++ wsX10 ++ wsX00 ++ (vx_atS RX1 130 "java/lang/IndexOutOfBoundsException" ["java/lang/RuntimeException", "java/lang/Exception"]).filter goodWord)
def wsX1_billFor_r1 : List Cond := [Cond.methodLink RX1 157 Lib.Math.min.name, Cond.static Lib.Math.min.name, Cond.initialized "java/lang/Math", Cond.code Lib.Math.min.name Lib.Math.min.code 2 (some .int), Cond.methodLink RX1 111 yX0_nextTurn, Cond.instanceMethod yX0_nextTurn, Cond.selects RX0 yX0_nextTurn yX0_nextTurn, Cond.initialized RX0, Cond.code yX0_nextTurn cX0_nextTurn 4 (some .int), Cond.fieldLink RX0 40 "Voidrent$Lease" "from" "I", Cond.fieldLink RX0 9 "Voidrent$Lease" "free" "I", Cond.fieldLink RX0 43 "Voidrent$Lease" "to" "I", Cond.fieldLink RX0 34 "Voidrent$Lease" "steps" "I", Cond.fieldLink RX0 27 "Voidrent$Lease" "stepDays" "[I", Cond.fieldLink RX0 15 "Voidrent$Lease" "every" "I", Cond.methodLink RX0 61 yX0_sooner, Cond.static yX0_sooner, Cond.code yX0_sooner cX0_sooner 3 (some .int), Cond.methodLink RX0 65 yX0_reviewsUpTo, Cond.instanceMethod yX0_reviewsUpTo, Cond.selects RX0 yX0_reviewsUpTo yX0_reviewsUpTo, Cond.code yX0_reviewsUpTo cX0_reviewsUpTo 2 (some .int), Cond.methodLink RX1 86 yX1_rentFor, Cond.instanceMethod yX1_rentFor]
def wsX1_billFor_r2 : List Cond := [Cond.selects RX1 yX1_rentFor yX1_rentFor, Cond.initialized RX1, Cond.code yX1_rentFor cX1_rentFor 5 (some .int), Cond.fieldLink RX1 13 "Voidrent" "indices" "[I", Cond.methodLink RX1 93 Lib.Math.max.name, Cond.static Lib.Math.max.name, Cond.code Lib.Math.max.name Lib.Math.max.code 2 (some .int), Cond.methodLink RX1 104 yX0_runsOn, Cond.instanceMethod yX0_runsOn, Cond.selects RX0 yX0_runsOn yX0_runsOn, Cond.code yX0_runsOn cX0_runsOn 2 (some .boolean), Cond.methodLink RX1 141 yX0_isFreeOn, Cond.instanceMethod yX0_isFreeOn, Cond.selects RX0 yX0_isFreeOn yX0_isFreeOn, Cond.code yX0_isFreeOn cX0_isFreeOn 2 (some .boolean), Cond.methodLink RX1 144 yX0_agreedOn, Cond.instanceMethod yX0_agreedOn, Cond.selects RX0 yX0_agreedOn yX0_agreedOn, Cond.code yX0_agreedOn cX0_agreedOn 5 (some .int), Cond.fieldLink RX0 46 "Voidrent$Lease" "firstRent" "I", Cond.fieldLink RX0 31 "Voidrent$Lease" "stepRents" "[I", Cond.methodLink RX1 147 yX1_valueAt, Cond.static yX1_valueAt, Cond.code yX1_valueAt cX1_valueAt 2 (some .int)]
def wsX1_billFor_r3 : List Cond := [Cond.methodLink RX1 151 yX1_highestIndex, Cond.instanceMethod yX1_highestIndex, Cond.selects RX1 yX1_highestIndex yX1_highestIndex, Cond.code yX1_highestIndex cX1_highestIndex 7 (some .int), Cond.methodLink RX1 154 yX0_reviewsUpTo]
def wsX1_billFor : List Cond := .code yX1_billFor cX1_billFor 8 (some .int) :: ((wsX1_billFor_r1 ++ (wsX1_billFor_r2 ++ wsX1_billFor_r3)) ++ wsX00 ++ wsX10)
def wsX1_bill_r1 : List Cond := [Cond.methodLink RX1 55 yX1_find, Cond.instanceMethod yX1_find, Cond.selects RX1 yX1_find yX1_find, Cond.initialized RX1, Cond.code yX1_find cX1_find 3 (some (.object "Voidrent$Lease")), Cond.classLink RX1 126 "java/lang/IndexOutOfBoundsException", Cond.initialized "java/lang/IndexOutOfBoundsException", Cond.fieldLink RX1 21 "Voidrent" "roll" "[LVoidrent$Lease;", Cond.methodLink RX1 29 yX1_checkNumber, Cond.static yX1_checkNumber, Cond.code yX1_checkNumber cX1_checkNumber 2 none, Cond.methodLink RX1 108 yX1_billFor, Cond.instanceMethod yX1_billFor, Cond.selects RX1 yX1_billFor yX1_billFor, Cond.code yX1_billFor cX1_billFor 8 (some .int), Cond.methodLink RX1 157 Lib.Math.min.name, Cond.static Lib.Math.min.name, Cond.initialized "java/lang/Math", Cond.code Lib.Math.min.name Lib.Math.min.code 2 (some .int), Cond.methodLink RX1 111 yX0_nextTurn, Cond.instanceMethod yX0_nextTurn, Cond.selects RX0 yX0_nextTurn yX0_nextTurn, Cond.initialized RX0, Cond.code yX0_nextTurn cX0_nextTurn 4 (some .int)]
def wsX1_bill_r2 : List Cond := [Cond.fieldLink RX0 40 "Voidrent$Lease" "from" "I", Cond.fieldLink RX0 9 "Voidrent$Lease" "free" "I", Cond.fieldLink RX0 43 "Voidrent$Lease" "to" "I", Cond.fieldLink RX0 34 "Voidrent$Lease" "steps" "I", Cond.fieldLink RX0 27 "Voidrent$Lease" "stepDays" "[I", Cond.fieldLink RX0 15 "Voidrent$Lease" "every" "I", Cond.methodLink RX0 61 yX0_sooner, Cond.static yX0_sooner, Cond.code yX0_sooner cX0_sooner 3 (some .int), Cond.methodLink RX0 65 yX0_reviewsUpTo, Cond.instanceMethod yX0_reviewsUpTo, Cond.selects RX0 yX0_reviewsUpTo yX0_reviewsUpTo, Cond.code yX0_reviewsUpTo cX0_reviewsUpTo 2 (some .int), Cond.methodLink RX1 86 yX1_rentFor, Cond.instanceMethod yX1_rentFor, Cond.selects RX1 yX1_rentFor yX1_rentFor, Cond.code yX1_rentFor cX1_rentFor 5 (some .int), Cond.fieldLink RX1 13 "Voidrent" "indices" "[I", Cond.methodLink RX1 93 Lib.Math.max.name, Cond.static Lib.Math.max.name, Cond.code Lib.Math.max.name Lib.Math.max.code 2 (some .int), Cond.methodLink RX1 104 yX0_runsOn, Cond.instanceMethod yX0_runsOn, Cond.selects RX0 yX0_runsOn yX0_runsOn]
def wsX1_bill_r3 : List Cond := [Cond.code yX0_runsOn cX0_runsOn 2 (some .boolean), Cond.methodLink RX1 141 yX0_isFreeOn, Cond.instanceMethod yX0_isFreeOn, Cond.selects RX0 yX0_isFreeOn yX0_isFreeOn, Cond.code yX0_isFreeOn cX0_isFreeOn 2 (some .boolean), Cond.methodLink RX1 144 yX0_agreedOn, Cond.instanceMethod yX0_agreedOn, Cond.selects RX0 yX0_agreedOn yX0_agreedOn, Cond.code yX0_agreedOn cX0_agreedOn 5 (some .int), Cond.fieldLink RX0 46 "Voidrent$Lease" "firstRent" "I", Cond.fieldLink RX0 31 "Voidrent$Lease" "stepRents" "[I", Cond.methodLink RX1 147 yX1_valueAt, Cond.static yX1_valueAt, Cond.code yX1_valueAt cX1_valueAt 2 (some .int), Cond.methodLink RX1 151 yX1_highestIndex, Cond.instanceMethod yX1_highestIndex, Cond.selects RX1 yX1_highestIndex yX1_highestIndex, Cond.code yX1_highestIndex cX1_highestIndex 7 (some .int), Cond.methodLink RX1 154 yX0_reviewsUpTo]
def wsX1_bill : List Cond := .code yX1_bill cX1_bill 4 (some .int) :: ((wsX1_bill_r1 ++ (wsX1_bill_r2 ++ wsX1_bill_r3)) ++ wsX10 ++ wsX00 ++ (vx_atS RX1 130 "java/lang/IndexOutOfBoundsException" ["java/lang/RuntimeException", "java/lang/Exception"]).filter goodWord)
def wsX1_billByDays_r1 : List Cond := [Cond.methodLink RX1 55 yX1_find, Cond.instanceMethod yX1_find, Cond.selects RX1 yX1_find yX1_find, Cond.initialized RX1, Cond.code yX1_find cX1_find 3 (some (.object "Voidrent$Lease")), Cond.classLink RX1 126 "java/lang/IndexOutOfBoundsException", Cond.initialized "java/lang/IndexOutOfBoundsException", Cond.fieldLink RX1 21 "Voidrent" "roll" "[LVoidrent$Lease;", Cond.methodLink RX1 29 yX1_checkNumber, Cond.static yX1_checkNumber, Cond.code yX1_checkNumber cX1_checkNumber 2 none, Cond.methodLink RX1 86 yX1_rentFor, Cond.instanceMethod yX1_rentFor, Cond.selects RX1 yX1_rentFor yX1_rentFor, Cond.code yX1_rentFor cX1_rentFor 5 (some .int), Cond.fieldLink RX1 13 "Voidrent" "indices" "[I", Cond.methodLink RX1 93 Lib.Math.max.name, Cond.static Lib.Math.max.name, Cond.initialized "java/lang/Math", Cond.code Lib.Math.max.name Lib.Math.max.code 2 (some .int), Cond.methodLink RX1 104 yX0_runsOn, Cond.instanceMethod yX0_runsOn, Cond.selects RX0 yX0_runsOn yX0_runsOn, Cond.initialized RX0]
def wsX1_billByDays_r2 : List Cond := [Cond.code yX0_runsOn cX0_runsOn 2 (some .boolean), Cond.fieldLink RX0 40 "Voidrent$Lease" "from" "I", Cond.fieldLink RX0 43 "Voidrent$Lease" "to" "I", Cond.methodLink RX1 141 yX0_isFreeOn, Cond.instanceMethod yX0_isFreeOn, Cond.selects RX0 yX0_isFreeOn yX0_isFreeOn, Cond.code yX0_isFreeOn cX0_isFreeOn 2 (some .boolean), Cond.fieldLink RX0 9 "Voidrent$Lease" "free" "I", Cond.methodLink RX1 144 yX0_agreedOn, Cond.instanceMethod yX0_agreedOn, Cond.selects RX0 yX0_agreedOn yX0_agreedOn, Cond.code yX0_agreedOn cX0_agreedOn 5 (some .int), Cond.fieldLink RX0 46 "Voidrent$Lease" "firstRent" "I", Cond.fieldLink RX0 34 "Voidrent$Lease" "steps" "I", Cond.fieldLink RX0 27 "Voidrent$Lease" "stepDays" "[I", Cond.fieldLink RX0 31 "Voidrent$Lease" "stepRents" "[I", Cond.methodLink RX1 147 yX1_valueAt, Cond.static yX1_valueAt, Cond.code yX1_valueAt cX1_valueAt 2 (some .int), Cond.methodLink RX1 151 yX1_highestIndex, Cond.instanceMethod yX1_highestIndex, Cond.selects RX1 yX1_highestIndex yX1_highestIndex, Cond.code yX1_highestIndex cX1_highestIndex 7 (some .int), Cond.methodLink RX1 154 yX0_reviewsUpTo]
def wsX1_billByDays_r3 : List Cond := [Cond.instanceMethod yX0_reviewsUpTo, Cond.selects RX0 yX0_reviewsUpTo yX0_reviewsUpTo, Cond.code yX0_reviewsUpTo cX0_reviewsUpTo 2 (some .int), Cond.fieldLink RX0 15 "Voidrent$Lease" "every" "I"]
def wsX1_billByDays : List Cond := .code yX1_billByDays cX1_billByDays 7 (some .int) :: ((wsX1_billByDays_r1 ++ (wsX1_billByDays_r2 ++ wsX1_billByDays_r3)) ++ wsX10 ++ wsX00 ++ (vx_atS RX1 130 "java/lang/IndexOutOfBoundsException" ["java/lang/RuntimeException", "java/lang/Exception"]).filter goodWord)
def wsX1_bills_r1 : List Cond := [Cond.methodLink RX1 55 yX1_find, Cond.instanceMethod yX1_find, Cond.selects RX1 yX1_find yX1_find, Cond.initialized RX1, Cond.code yX1_find cX1_find 3 (some (.object "Voidrent$Lease")), Cond.classLink RX1 126 "java/lang/IndexOutOfBoundsException", Cond.initialized "java/lang/IndexOutOfBoundsException", Cond.fieldLink RX1 21 "Voidrent" "roll" "[LVoidrent$Lease;", Cond.methodLink RX1 29 yX1_checkNumber, Cond.static yX1_checkNumber, Cond.code yX1_checkNumber cX1_checkNumber 2 none, Cond.methodLink RX1 33 yX1_checkRange, Cond.static yX1_checkRange, Cond.code yX1_checkRange cX1_checkRange 3 none, Cond.classLink RX1 131 "java/lang/IllegalArgumentException", Cond.initialized "java/lang/IllegalArgumentException", Cond.methodLink RX1 108 yX1_billFor, Cond.instanceMethod yX1_billFor, Cond.selects RX1 yX1_billFor yX1_billFor, Cond.code yX1_billFor cX1_billFor 8 (some .int), Cond.methodLink RX1 157 Lib.Math.min.name, Cond.static Lib.Math.min.name, Cond.initialized "java/lang/Math", Cond.code Lib.Math.min.name Lib.Math.min.code 2 (some .int)]
def wsX1_bills_r2 : List Cond := [Cond.methodLink RX1 111 yX0_nextTurn, Cond.instanceMethod yX0_nextTurn, Cond.selects RX0 yX0_nextTurn yX0_nextTurn, Cond.initialized RX0, Cond.code yX0_nextTurn cX0_nextTurn 4 (some .int), Cond.fieldLink RX0 40 "Voidrent$Lease" "from" "I", Cond.fieldLink RX0 9 "Voidrent$Lease" "free" "I", Cond.fieldLink RX0 43 "Voidrent$Lease" "to" "I", Cond.fieldLink RX0 34 "Voidrent$Lease" "steps" "I", Cond.fieldLink RX0 27 "Voidrent$Lease" "stepDays" "[I", Cond.fieldLink RX0 15 "Voidrent$Lease" "every" "I", Cond.methodLink RX0 61 yX0_sooner, Cond.static yX0_sooner, Cond.code yX0_sooner cX0_sooner 3 (some .int), Cond.methodLink RX0 65 yX0_reviewsUpTo, Cond.instanceMethod yX0_reviewsUpTo, Cond.selects RX0 yX0_reviewsUpTo yX0_reviewsUpTo, Cond.code yX0_reviewsUpTo cX0_reviewsUpTo 2 (some .int), Cond.methodLink RX1 86 yX1_rentFor, Cond.instanceMethod yX1_rentFor, Cond.selects RX1 yX1_rentFor yX1_rentFor, Cond.code yX1_rentFor cX1_rentFor 5 (some .int), Cond.fieldLink RX1 13 "Voidrent" "indices" "[I", Cond.methodLink RX1 93 Lib.Math.max.name]
def wsX1_bills_r3 : List Cond := [Cond.static Lib.Math.max.name, Cond.code Lib.Math.max.name Lib.Math.max.code 2 (some .int), Cond.methodLink RX1 104 yX0_runsOn, Cond.instanceMethod yX0_runsOn, Cond.selects RX0 yX0_runsOn yX0_runsOn, Cond.code yX0_runsOn cX0_runsOn 2 (some .boolean), Cond.methodLink RX1 141 yX0_isFreeOn, Cond.instanceMethod yX0_isFreeOn, Cond.selects RX0 yX0_isFreeOn yX0_isFreeOn, Cond.code yX0_isFreeOn cX0_isFreeOn 2 (some .boolean), Cond.methodLink RX1 144 yX0_agreedOn, Cond.instanceMethod yX0_agreedOn, Cond.selects RX0 yX0_agreedOn yX0_agreedOn, Cond.code yX0_agreedOn cX0_agreedOn 5 (some .int), Cond.fieldLink RX0 46 "Voidrent$Lease" "firstRent" "I", Cond.fieldLink RX0 31 "Voidrent$Lease" "stepRents" "[I", Cond.methodLink RX1 147 yX1_valueAt, Cond.static yX1_valueAt, Cond.code yX1_valueAt cX1_valueAt 2 (some .int), Cond.methodLink RX1 151 yX1_highestIndex, Cond.instanceMethod yX1_highestIndex, Cond.selects RX1 yX1_highestIndex yX1_highestIndex, Cond.code yX1_highestIndex cX1_highestIndex 7 (some .int), Cond.methodLink RX1 154 yX0_reviewsUpTo]
def wsX1_bills : List Cond := .code yX1_bills cX1_bills 8 (some .long) :: ((wsX1_bills_r1 ++ (wsX1_bills_r2 ++ wsX1_bills_r3)) ++ wsX10 ++ wsX00 ++ (vx_atS RX1 130 "java/lang/IndexOutOfBoundsException" ["java/lang/RuntimeException", "java/lang/Exception"]).filter goodWord ++ (vx_atS RX1 135 "java/lang/IllegalArgumentException" ["java/lang/RuntimeException", "java/lang/Exception"]).filter goodWord)
def wsX1_nextChange_r1 : List Cond := [Cond.methodLink RX1 55 yX1_find, Cond.instanceMethod yX1_find, Cond.selects RX1 yX1_find yX1_find, Cond.initialized RX1, Cond.code yX1_find cX1_find 3 (some (.object "Voidrent$Lease")), Cond.classLink RX1 126 "java/lang/IndexOutOfBoundsException", Cond.initialized "java/lang/IndexOutOfBoundsException", Cond.fieldLink RX1 21 "Voidrent" "roll" "[LVoidrent$Lease;", Cond.methodLink RX1 29 yX1_checkNumber, Cond.static yX1_checkNumber, Cond.code yX1_checkNumber cX1_checkNumber 2 none, Cond.methodLink RX1 111 yX0_nextTurn, Cond.instanceMethod yX0_nextTurn, Cond.selects RX0 yX0_nextTurn yX0_nextTurn, Cond.initialized RX0, Cond.code yX0_nextTurn cX0_nextTurn 4 (some .int), Cond.fieldLink RX0 40 "Voidrent$Lease" "from" "I", Cond.fieldLink RX0 9 "Voidrent$Lease" "free" "I", Cond.fieldLink RX0 43 "Voidrent$Lease" "to" "I", Cond.fieldLink RX0 34 "Voidrent$Lease" "steps" "I", Cond.fieldLink RX0 27 "Voidrent$Lease" "stepDays" "[I", Cond.fieldLink RX0 15 "Voidrent$Lease" "every" "I", Cond.methodLink RX0 61 yX0_sooner, Cond.static yX0_sooner]
def wsX1_nextChange_r2 : List Cond := [Cond.code yX0_sooner cX0_sooner 3 (some .int), Cond.methodLink RX0 65 yX0_reviewsUpTo, Cond.instanceMethod yX0_reviewsUpTo, Cond.selects RX0 yX0_reviewsUpTo yX0_reviewsUpTo, Cond.code yX0_reviewsUpTo cX0_reviewsUpTo 2 (some .int), Cond.methodLink RX1 86 yX1_rentFor, Cond.instanceMethod yX1_rentFor, Cond.selects RX1 yX1_rentFor yX1_rentFor, Cond.code yX1_rentFor cX1_rentFor 5 (some .int), Cond.fieldLink RX1 13 "Voidrent" "indices" "[I", Cond.methodLink RX1 93 Lib.Math.max.name, Cond.static Lib.Math.max.name, Cond.initialized "java/lang/Math", Cond.code Lib.Math.max.name Lib.Math.max.code 2 (some .int), Cond.methodLink RX1 104 yX0_runsOn, Cond.instanceMethod yX0_runsOn, Cond.selects RX0 yX0_runsOn yX0_runsOn, Cond.code yX0_runsOn cX0_runsOn 2 (some .boolean), Cond.methodLink RX1 141 yX0_isFreeOn, Cond.instanceMethod yX0_isFreeOn, Cond.selects RX0 yX0_isFreeOn yX0_isFreeOn, Cond.code yX0_isFreeOn cX0_isFreeOn 2 (some .boolean), Cond.methodLink RX1 144 yX0_agreedOn, Cond.instanceMethod yX0_agreedOn]
def wsX1_nextChange_r3 : List Cond := [Cond.selects RX0 yX0_agreedOn yX0_agreedOn, Cond.code yX0_agreedOn cX0_agreedOn 5 (some .int), Cond.fieldLink RX0 46 "Voidrent$Lease" "firstRent" "I", Cond.fieldLink RX0 31 "Voidrent$Lease" "stepRents" "[I", Cond.methodLink RX1 147 yX1_valueAt, Cond.static yX1_valueAt, Cond.code yX1_valueAt cX1_valueAt 2 (some .int), Cond.methodLink RX1 151 yX1_highestIndex, Cond.instanceMethod yX1_highestIndex, Cond.selects RX1 yX1_highestIndex yX1_highestIndex, Cond.code yX1_highestIndex cX1_highestIndex 7 (some .int), Cond.methodLink RX1 154 yX0_reviewsUpTo]
def wsX1_nextChange : List Cond := .code yX1_nextChange cX1_nextChange 6 (some .int) :: ((wsX1_nextChange_r1 ++ (wsX1_nextChange_r2 ++ wsX1_nextChange_r3)) ++ wsX10 ++ wsX00 ++ (vx_atS RX1 130 "java/lang/IndexOutOfBoundsException" ["java/lang/RuntimeException", "java/lang/Exception"]).filter goodWord)
def wsX1_voids_r1 : List Cond := [Cond.fieldLink RX1 9 "Voidrent" "areas" "[I", Cond.methodLink RX1 29 yX1_checkNumber, Cond.static yX1_checkNumber, Cond.initialized RX1, Cond.code yX1_checkNumber cX1_checkNumber 2 none, Cond.classLink RX1 126 "java/lang/IndexOutOfBoundsException", Cond.initialized "java/lang/IndexOutOfBoundsException", Cond.methodLink RX1 46 yX1_daysLet, Cond.instanceMethod yX1_daysLet, Cond.selects RX1 yX1_daysLet yX1_daysLet, Cond.code yX1_daysLet cX1_daysLet 9 (some .int), Cond.fieldLink RX1 21 "Voidrent" "roll" "[LVoidrent$Lease;", Cond.methodLink RX1 138 yX0_daysWithin, Cond.instanceMethod yX0_daysWithin, Cond.selects RX0 yX0_daysWithin yX0_daysWithin, Cond.initialized RX0, Cond.code yX0_daysWithin cX0_daysWithin 3 (some .int), Cond.fieldLink RX0 43 "Voidrent$Lease" "to" "I", Cond.methodLink RX0 49 Lib.Math.min.name, Cond.static Lib.Math.min.name, Cond.initialized "java/lang/Math", Cond.code Lib.Math.min.name Lib.Math.min.code 2 (some .int), Cond.fieldLink RX0 40 "Voidrent$Lease" "from" "I", Cond.methodLink RX0 55 Lib.Math.max.name]
def wsX1_voids_r2 : List Cond := [Cond.static Lib.Math.max.name, Cond.code Lib.Math.max.name Lib.Math.max.code 2 (some .int)]
def wsX1_voids : List Cond := .code yX1_voids cX1_voids 4 (some .int) :: ((wsX1_voids_r1 ++ wsX1_voids_r2) ++ wsX10 ++ wsX00 ++ (vx_atS RX1 130 "java/lang/IndexOutOfBoundsException" ["java/lang/RuntimeException", "java/lang/Exception"]).filter goodWord)
def wsX1_allAreas : List Cond := .code yX1_allAreas cX1_allAreas 6 (some .int) :: ([.fieldLink RX1 9 "Voidrent" "areas" "[I"] ++ wsX10)
def wsX1_partOf_r1 : List Cond := [Cond.fieldLink RX1 9 "Voidrent" "areas" "[I", Cond.constantLong RX1 160 (360), Cond.methodLink RX1 157 Lib.Math.min.name, Cond.static Lib.Math.min.name, Cond.initialized "java/lang/Math", Cond.code Lib.Math.min.name Lib.Math.min.code 2 (some .int), Cond.methodLink RX1 122 yX1_allAreas, Cond.instanceMethod yX1_allAreas, Cond.selects RX1 yX1_allAreas yX1_allAreas, Cond.initialized RX1, Cond.code yX1_allAreas cX1_allAreas 6 (some .int), Cond.methodLink RX1 119 yX0_daysIn, Cond.instanceMethod yX0_daysIn, Cond.selects RX0 yX0_daysIn yX0_daysIn, Cond.initialized RX0, Cond.code yX0_daysIn cX0_daysIn 3 (some .int), Cond.methodLink RX0 58 yX0_daysWithin, Cond.instanceMethod yX0_daysWithin, Cond.selects RX0 yX0_daysWithin yX0_daysWithin, Cond.code yX0_daysWithin cX0_daysWithin 3 (some .int), Cond.fieldLink RX0 43 "Voidrent$Lease" "to" "I", Cond.methodLink RX0 49 Lib.Math.min.name, Cond.fieldLink RX0 40 "Voidrent$Lease" "from" "I", Cond.methodLink RX0 55 Lib.Math.max.name]
def wsX1_partOf_r2 : List Cond := [Cond.static Lib.Math.max.name, Cond.code Lib.Math.max.name Lib.Math.max.code 2 (some .int), Cond.methodLink RX1 147 yX1_valueAt, Cond.static yX1_valueAt, Cond.code yX1_valueAt cX1_valueAt 2 (some .int)]
def wsX1_partOf : List Cond := .code yX1_partOf cX1_partOf 8 (some .int) :: ((wsX1_partOf_r1 ++ wsX1_partOf_r2) ++ wsX10 ++ wsX00)
def wsX1_part_r1 : List Cond := [Cond.fieldLink RX1 16 "Voidrent" "costs" "[I", Cond.methodLink RX1 55 yX1_find, Cond.instanceMethod yX1_find, Cond.selects RX1 yX1_find yX1_find, Cond.initialized RX1, Cond.code yX1_find cX1_find 3 (some (.object "Voidrent$Lease")), Cond.classLink RX1 126 "java/lang/IndexOutOfBoundsException", Cond.initialized "java/lang/IndexOutOfBoundsException", Cond.fieldLink RX1 21 "Voidrent" "roll" "[LVoidrent$Lease;", Cond.methodLink RX1 29 yX1_checkNumber, Cond.static yX1_checkNumber, Cond.code yX1_checkNumber cX1_checkNumber 2 none, Cond.methodLink RX1 115 yX1_partOf, Cond.instanceMethod yX1_partOf, Cond.selects RX1 yX1_partOf yX1_partOf, Cond.code yX1_partOf cX1_partOf 8 (some .int), Cond.fieldLink RX1 9 "Voidrent" "areas" "[I", Cond.constantLong RX1 160 (360), Cond.methodLink RX1 157 Lib.Math.min.name, Cond.static Lib.Math.min.name, Cond.initialized "java/lang/Math", Cond.code Lib.Math.min.name Lib.Math.min.code 2 (some .int), Cond.methodLink RX1 122 yX1_allAreas, Cond.instanceMethod yX1_allAreas]
def wsX1_part_r2 : List Cond := [Cond.selects RX1 yX1_allAreas yX1_allAreas, Cond.code yX1_allAreas cX1_allAreas 6 (some .int), Cond.methodLink RX1 119 yX0_daysIn, Cond.instanceMethod yX0_daysIn, Cond.selects RX0 yX0_daysIn yX0_daysIn, Cond.initialized RX0, Cond.code yX0_daysIn cX0_daysIn 3 (some .int), Cond.methodLink RX0 58 yX0_daysWithin, Cond.instanceMethod yX0_daysWithin, Cond.selects RX0 yX0_daysWithin yX0_daysWithin, Cond.code yX0_daysWithin cX0_daysWithin 3 (some .int), Cond.fieldLink RX0 43 "Voidrent$Lease" "to" "I", Cond.methodLink RX0 49 Lib.Math.min.name, Cond.fieldLink RX0 40 "Voidrent$Lease" "from" "I", Cond.methodLink RX0 55 Lib.Math.max.name, Cond.static Lib.Math.max.name, Cond.code Lib.Math.max.name Lib.Math.max.code 2 (some .int), Cond.methodLink RX1 147 yX1_valueAt, Cond.static yX1_valueAt, Cond.code yX1_valueAt cX1_valueAt 2 (some .int)]
def wsX1_part : List Cond := .code yX1_part cX1_part 4 (some .int) :: ((wsX1_part_r1 ++ wsX1_part_r2) ++ wsX10 ++ wsX00 ++ (vx_atS RX1 130 "java/lang/IndexOutOfBoundsException" ["java/lang/RuntimeException", "java/lang/Exception"]).filter goodWord)
def wsX1_owners_r1 : List Cond := [Cond.fieldLink RX1 16 "Voidrent" "costs" "[I", Cond.fieldLink RX1 21 "Voidrent" "roll" "[LVoidrent$Lease;", Cond.methodLink RX1 29 yX1_checkNumber, Cond.static yX1_checkNumber, Cond.initialized RX1, Cond.code yX1_checkNumber cX1_checkNumber 2 none, Cond.classLink RX1 126 "java/lang/IndexOutOfBoundsException", Cond.initialized "java/lang/IndexOutOfBoundsException", Cond.methodLink RX1 115 yX1_partOf, Cond.instanceMethod yX1_partOf, Cond.selects RX1 yX1_partOf yX1_partOf, Cond.code yX1_partOf cX1_partOf 8 (some .int), Cond.fieldLink RX1 9 "Voidrent" "areas" "[I", Cond.constantLong RX1 160 (360), Cond.methodLink RX1 157 Lib.Math.min.name, Cond.static Lib.Math.min.name, Cond.initialized "java/lang/Math", Cond.code Lib.Math.min.name Lib.Math.min.code 2 (some .int), Cond.methodLink RX1 122 yX1_allAreas, Cond.instanceMethod yX1_allAreas, Cond.selects RX1 yX1_allAreas yX1_allAreas, Cond.code yX1_allAreas cX1_allAreas 6 (some .int), Cond.methodLink RX1 119 yX0_daysIn, Cond.instanceMethod yX0_daysIn]
def wsX1_owners_r2 : List Cond := [Cond.selects RX0 yX0_daysIn yX0_daysIn, Cond.initialized RX0, Cond.code yX0_daysIn cX0_daysIn 3 (some .int), Cond.methodLink RX0 58 yX0_daysWithin, Cond.instanceMethod yX0_daysWithin, Cond.selects RX0 yX0_daysWithin yX0_daysWithin, Cond.code yX0_daysWithin cX0_daysWithin 3 (some .int), Cond.fieldLink RX0 43 "Voidrent$Lease" "to" "I", Cond.methodLink RX0 49 Lib.Math.min.name, Cond.fieldLink RX0 40 "Voidrent$Lease" "from" "I", Cond.methodLink RX0 55 Lib.Math.max.name, Cond.static Lib.Math.max.name, Cond.code Lib.Math.max.name Lib.Math.max.code 2 (some .int), Cond.methodLink RX1 147 yX1_valueAt, Cond.static yX1_valueAt, Cond.code yX1_valueAt cX1_valueAt 2 (some .int)]
def wsX1_owners : List Cond := .code yX1_owners cX1_owners 7 (some .int) :: ((wsX1_owners_r1 ++ wsX1_owners_r2) ++ wsX10 ++ wsX00 ++ (vx_atS RX1 130 "java/lang/IndexOutOfBoundsException" ["java/lang/RuntimeException", "java/lang/Exception"]).filter goodWord)
def wsX1_balance_r1 : List Cond := [Cond.fieldLink RX1 16 "Voidrent" "costs" "[I", Cond.methodLink RX1 55 yX1_find, Cond.instanceMethod yX1_find, Cond.selects RX1 yX1_find yX1_find, Cond.initialized RX1, Cond.code yX1_find cX1_find 3 (some (.object "Voidrent$Lease")), Cond.classLink RX1 126 "java/lang/IndexOutOfBoundsException", Cond.initialized "java/lang/IndexOutOfBoundsException", Cond.fieldLink RX1 21 "Voidrent" "roll" "[LVoidrent$Lease;", Cond.methodLink RX1 29 yX1_checkNumber, Cond.static yX1_checkNumber, Cond.code yX1_checkNumber cX1_checkNumber 2 none, Cond.methodLink RX1 119 yX0_daysIn, Cond.instanceMethod yX0_daysIn, Cond.selects RX0 yX0_daysIn yX0_daysIn, Cond.initialized RX0, Cond.code yX0_daysIn cX0_daysIn 3 (some .int), Cond.methodLink RX0 58 yX0_daysWithin, Cond.instanceMethod yX0_daysWithin, Cond.selects RX0 yX0_daysWithin yX0_daysWithin, Cond.code yX0_daysWithin cX0_daysWithin 3 (some .int), Cond.fieldLink RX0 43 "Voidrent$Lease" "to" "I", Cond.methodLink RX0 49 Lib.Math.min.name, Cond.static Lib.Math.min.name]
def wsX1_balance_r2 : List Cond := [Cond.initialized "java/lang/Math", Cond.code Lib.Math.min.name Lib.Math.min.code 2 (some .int), Cond.fieldLink RX0 40 "Voidrent$Lease" "from" "I", Cond.methodLink RX0 55 Lib.Math.max.name, Cond.static Lib.Math.max.name, Cond.code Lib.Math.max.name Lib.Math.max.code 2 (some .int), Cond.methodLink RX1 115 yX1_partOf, Cond.instanceMethod yX1_partOf, Cond.selects RX1 yX1_partOf yX1_partOf, Cond.code yX1_partOf cX1_partOf 8 (some .int), Cond.fieldLink RX1 9 "Voidrent" "areas" "[I", Cond.constantLong RX1 160 (360), Cond.methodLink RX1 157 Lib.Math.min.name, Cond.methodLink RX1 122 yX1_allAreas, Cond.instanceMethod yX1_allAreas, Cond.selects RX1 yX1_allAreas yX1_allAreas, Cond.code yX1_allAreas cX1_allAreas 6 (some .int), Cond.methodLink RX1 147 yX1_valueAt, Cond.static yX1_valueAt, Cond.code yX1_valueAt cX1_valueAt 2 (some .int)]
def wsX1_balance : List Cond := .code yX1_balance cX1_balance 5 (some .int) :: ((wsX1_balance_r1 ++ wsX1_balance_r2) ++ wsX10 ++ wsX00 ++ (vx_atS RX1 130 "java/lang/IndexOutOfBoundsException" ["java/lang/RuntimeException", "java/lang/Exception"]).filter goodWord)
def wsX1_share : List Cond := .code yX1_share cX1_share 3 (some .double) :: ([.fieldLink RX1 9 "Voidrent" "areas" "[I", .methodLink RX1 29 yX1_checkNumber, .static yX1_checkNumber, .initialized RX1, .code yX1_checkNumber cX1_checkNumber 2 none, .classLink RX1 126 "java/lang/IndexOutOfBoundsException", .initialized "java/lang/IndexOutOfBoundsException", .methodLink RX1 122 yX1_allAreas, .instanceMethod yX1_allAreas, .selects RX1 yX1_allAreas yX1_allAreas, .code yX1_allAreas cX1_allAreas 6 (some .int)] ++ wsX10 ++ (vx_atS RX1 130 "java/lang/IndexOutOfBoundsException" ["java/lang/RuntimeException", "java/lang/Exception"]).filter goodWord)
def wsX2_init : List Cond := .code yX2_init cX2_init 2 none :: ([.methodLink RX2 1 objectInit, .instanceMethod objectInit, .code objectInit ⟨#[0xb1]⟩ 1 none, .arrayClass .int, .fieldLink RX2 7 "VoidrentModel" "areas" "[I", .fieldLink RX2 13 "VoidrentModel" "indices" "[I", .fieldLink RX2 16 "VoidrentModel" "costs" "[I", .fieldLink RX2 19 "VoidrentModel" "units" "[I", .fieldLink RX2 22 "VoidrentModel" "froms" "[I", .fieldLink RX2 25 "VoidrentModel" "tos" "[I", .fieldLink RX2 28 "VoidrentModel" "rents" "[I", .fieldLink RX2 31 "VoidrentModel" "frees" "[I", .fieldLink RX2 34 "VoidrentModel" "everies" "[I", .fieldLink RX2 37 "VoidrentModel" "caps" "[I", .fieldLink RX2 40 "VoidrentModel" "prepaids" "[I", .fieldLink RX2 43 "VoidrentModel" "deposits" "[I", .fieldLink RX2 46 "VoidrentModel" "steps" "[I", .fieldLink RX2 49 "VoidrentModel" "stepDays" "[I", .fieldLink RX2 52 "VoidrentModel" "stepRents" "[I"] ++ wsX20)
def wsX2_thrown : List Cond := .code yX2_thrown cX2_thrown 1 (some .int) :: ([.fieldLink RX2 55 "VoidrentModel" "thrown" "I"] ++ wsX20)
def wsX2_holds : List Cond := .code yX2_holds cX2_holds 2 (some .boolean) :: ([.fieldLink RX2 55 "VoidrentModel" "thrown" "I"] ++ wsX20)
def wsX2_isIn : List Cond := .code yX2_isIn cX2_isIn 3 (some .boolean) :: ([])
def wsX2_isLease : List Cond := .code yX2_isLease cX2_isLease 2 (some .boolean) :: ([.fieldLink RX2 59 "VoidrentModel" "leases" "I", .methodLink RX2 62 yX2_isIn, .static yX2_isIn, .initialized RX2, .code yX2_isIn cX2_isIn 3 (some .boolean)] ++ wsX20)
def wsX2_setArea : List Cond := .code yX2_setArea cX2_setArea 4 (some .int) :: ([.fieldLink RX2 7 "VoidrentModel" "areas" "[I", .methodLink RX2 62 yX2_isIn, .static yX2_isIn, .initialized RX2, .code yX2_isIn cX2_isIn 3 (some .boolean), .methodLink RX2 66 yX2_holds, .instanceMethod yX2_holds, .selects RX2 yX2_holds yX2_holds, .code yX2_holds cX2_holds 2 (some .boolean), .fieldLink RX2 55 "VoidrentModel" "thrown" "I"] ++ wsX20)
def wsX2_setIndex : List Cond := .code yX2_setIndex cX2_setIndex 4 (some .int) :: ([.fieldLink RX2 13 "VoidrentModel" "indices" "[I", .methodLink RX2 62 yX2_isIn, .static yX2_isIn, .initialized RX2, .code yX2_isIn cX2_isIn 3 (some .boolean), .methodLink RX2 66 yX2_holds, .instanceMethod yX2_holds, .selects RX2 yX2_holds yX2_holds, .code yX2_holds cX2_holds 2 (some .boolean), .fieldLink RX2 55 "VoidrentModel" "thrown" "I"] ++ wsX20)
def wsX2_setCost : List Cond := .code yX2_setCost cX2_setCost 4 (some .int) :: ([.constant RX2 70 (999999), .fieldLink RX2 16 "VoidrentModel" "costs" "[I", .methodLink RX2 62 yX2_isIn, .static yX2_isIn, .initialized RX2, .code yX2_isIn cX2_isIn 3 (some .boolean), .methodLink RX2 66 yX2_holds, .instanceMethod yX2_holds, .selects RX2 yX2_holds yX2_holds, .code yX2_holds cX2_holds 2 (some .boolean), .fieldLink RX2 55 "VoidrentModel" "thrown" "I"] ++ wsX20)
def wsX2_isLet : List Cond := .code yX2_isLet cX2_isLet 6 (some .boolean) :: ([.fieldLink RX2 59 "VoidrentModel" "leases" "I", .fieldLink RX2 19 "VoidrentModel" "units" "[I", .fieldLink RX2 22 "VoidrentModel" "froms" "[I", .fieldLink RX2 25 "VoidrentModel" "tos" "[I"] ++ wsX20)
def wsX2_let : List Cond := .code yX2_let cX2_let 7 (some .int) :: ([.constant RX2 71 (99999), .fieldLink RX2 59 "VoidrentModel" "leases" "I", .fieldLink RX2 19 "VoidrentModel" "units" "[I", .fieldLink RX2 22 "VoidrentModel" "froms" "[I", .fieldLink RX2 25 "VoidrentModel" "tos" "[I", .fieldLink RX2 28 "VoidrentModel" "rents" "[I", .fieldLink RX2 37 "VoidrentModel" "caps" "[I", .methodLink RX2 62 yX2_isIn, .static yX2_isIn, .initialized RX2, .code yX2_isIn cX2_isIn 3 (some .boolean), .methodLink RX2 72 yX2_isLet, .instanceMethod yX2_isLet, .selects RX2 yX2_isLet yX2_isLet, .code yX2_isLet cX2_isLet 6 (some .boolean), .methodLink RX2 66 yX2_holds, .instanceMethod yX2_holds, .selects RX2 yX2_holds yX2_holds, .code yX2_holds cX2_holds 2 (some .boolean), .fieldLink RX2 55 "VoidrentModel" "thrown" "I"] ++ wsX20)
def wsX2_end : List Cond := .code yX2_end cX2_end 5 (some .int) :: ([.fieldLink RX2 22 "VoidrentModel" "froms" "[I", .fieldLink RX2 25 "VoidrentModel" "tos" "[I", .methodLink RX2 75 yX2_isLease, .instanceMethod yX2_isLease, .selects RX2 yX2_isLease yX2_isLease, .initialized RX2, .code yX2_isLease cX2_isLease 2 (some .boolean), .fieldLink RX2 59 "VoidrentModel" "leases" "I", .methodLink RX2 62 yX2_isIn, .static yX2_isIn, .code yX2_isIn cX2_isIn 3 (some .boolean), .methodLink RX2 66 yX2_holds, .instanceMethod yX2_holds, .selects RX2 yX2_holds yX2_holds, .code yX2_holds cX2_holds 2 (some .boolean), .fieldLink RX2 55 "VoidrentModel" "thrown" "I"] ++ wsX20)
def wsX2_placeOf : List Cond := .code yX2_placeOf cX2_placeOf 4 (some .int) :: ([.fieldLink RX2 46 "VoidrentModel" "steps" "[I", .fieldLink RX2 49 "VoidrentModel" "stepDays" "[I"] ++ wsX20)
def wsX2_step : List Cond := .code yX2_step cX2_step 7 (some .int) :: ([.fieldLink RX2 22 "VoidrentModel" "froms" "[I", .fieldLink RX2 25 "VoidrentModel" "tos" "[I", .constant RX2 71 (99999), .fieldLink RX2 49 "VoidrentModel" "stepDays" "[I", .fieldLink RX2 52 "VoidrentModel" "stepRents" "[I", .fieldLink RX2 46 "VoidrentModel" "steps" "[I", .methodLink RX2 75 yX2_isLease, .instanceMethod yX2_isLease, .selects RX2 yX2_isLease yX2_isLease, .initialized RX2, .code yX2_isLease cX2_isLease 2 (some .boolean), .fieldLink RX2 59 "VoidrentModel" "leases" "I", .methodLink RX2 62 yX2_isIn, .static yX2_isIn, .code yX2_isIn cX2_isIn 3 (some .boolean), .methodLink RX2 78 yX2_placeOf, .instanceMethod yX2_placeOf, .selects RX2 yX2_placeOf yX2_placeOf, .code yX2_placeOf cX2_placeOf 4 (some .int), .methodLink RX2 66 yX2_holds, .instanceMethod yX2_holds, .selects RX2 yX2_holds yX2_holds, .code yX2_holds cX2_holds 2 (some .boolean), .fieldLink RX2 55 "VoidrentModel" "thrown" "I"] ++ wsX20)
def wsX2_setTerms : List Cond := .code yX2_setTerms cX2_setTerms 5 none :: ([.fieldLink RX2 31 "VoidrentModel" "frees" "[I", .fieldLink RX2 34 "VoidrentModel" "everies" "[I", .methodLink RX2 62 yX2_isIn, .static yX2_isIn, .initialized RX2, .code yX2_isIn cX2_isIn 3 (some .boolean), .methodLink RX2 75 yX2_isLease, .instanceMethod yX2_isLease, .selects RX2 yX2_isLease yX2_isLease, .code yX2_isLease cX2_isLease 2 (some .boolean), .fieldLink RX2 59 "VoidrentModel" "leases" "I", .methodLink RX2 66 yX2_holds, .instanceMethod yX2_holds, .selects RX2 yX2_holds yX2_holds, .code yX2_holds cX2_holds 2 (some .boolean), .fieldLink RX2 55 "VoidrentModel" "thrown" "I"] ++ wsX20)
def wsX2_setService : List Cond := .code yX2_setService cX2_setService 5 none :: ([.constant RX2 70 (999999), .fieldLink RX2 37 "VoidrentModel" "caps" "[I", .fieldLink RX2 40 "VoidrentModel" "prepaids" "[I", .methodLink RX2 62 yX2_isIn, .static yX2_isIn, .initialized RX2, .code yX2_isIn cX2_isIn 3 (some .boolean), .methodLink RX2 75 yX2_isLease, .instanceMethod yX2_isLease, .selects RX2 yX2_isLease yX2_isLease, .code yX2_isLease cX2_isLease 2 (some .boolean), .fieldLink RX2 59 "VoidrentModel" "leases" "I", .methodLink RX2 66 yX2_holds, .instanceMethod yX2_holds, .selects RX2 yX2_holds yX2_holds, .code yX2_holds cX2_holds 2 (some .boolean), .fieldLink RX2 55 "VoidrentModel" "thrown" "I"] ++ wsX20)
def wsX2_agreed : List Cond := .code yX2_agreed cX2_agreed 7 (some .int) :: ([.fieldLink RX2 28 "VoidrentModel" "rents" "[I", .fieldLink RX2 46 "VoidrentModel" "steps" "[I", .fieldLink RX2 49 "VoidrentModel" "stepDays" "[I", .fieldLink RX2 52 "VoidrentModel" "stepRents" "[I"] ++ wsX20)
def wsX2_greatestIndex : List Cond := .code yX2_greatestIndex cX2_greatestIndex 6 (some .int) :: ([.fieldLink RX2 22 "VoidrentModel" "froms" "[I", .fieldLink RX2 34 "VoidrentModel" "everies" "[I", .fieldLink RX2 13 "VoidrentModel" "indices" "[I"] ++ wsX20)
def wsX2_isDayOf : List Cond := .code yX2_isDayOf cX2_isDayOf 3 (some .boolean) :: ([.fieldLink RX2 22 "VoidrentModel" "froms" "[I", .fieldLink RX2 25 "VoidrentModel" "tos" "[I"] ++ wsX20)
def wsX2_rentAt : List Cond := .code yX2_rentAt cX2_rentAt 5 (some .int) :: ([.fieldLink RX2 22 "VoidrentModel" "froms" "[I", .fieldLink RX2 31 "VoidrentModel" "frees" "[I", .fieldLink RX2 13 "VoidrentModel" "indices" "[I", .methodLink RX2 82 yX2_isDayOf, .instanceMethod yX2_isDayOf, .selects RX2 yX2_isDayOf yX2_isDayOf, .initialized RX2, .code yX2_isDayOf cX2_isDayOf 3 (some .boolean), .fieldLink RX2 25 "VoidrentModel" "tos" "[I", .methodLink RX2 86 yX2_agreed, .instanceMethod yX2_agreed, .selects RX2 yX2_agreed yX2_agreed, .code yX2_agreed cX2_agreed 7 (some .int), .fieldLink RX2 28 "VoidrentModel" "rents" "[I", .fieldLink RX2 46 "VoidrentModel" "steps" "[I", .fieldLink RX2 49 "VoidrentModel" "stepDays" "[I", .fieldLink RX2 52 "VoidrentModel" "stepRents" "[I", .methodLink RX2 89 yX2_greatestIndex, .instanceMethod yX2_greatestIndex, .selects RX2 yX2_greatestIndex yX2_greatestIndex, .code yX2_greatestIndex cX2_greatestIndex 6 (some .int), .fieldLink RX2 34 "VoidrentModel" "everies" "[I"] ++ wsX20)
def wsX2_billOf_r1 : List Cond := [Cond.methodLink RX2 92 yX2_rentAt, Cond.instanceMethod yX2_rentAt, Cond.selects RX2 yX2_rentAt yX2_rentAt, Cond.initialized RX2, Cond.code yX2_rentAt cX2_rentAt 5 (some .int), Cond.fieldLink RX2 22 "VoidrentModel" "froms" "[I", Cond.fieldLink RX2 31 "VoidrentModel" "frees" "[I", Cond.fieldLink RX2 13 "VoidrentModel" "indices" "[I", Cond.methodLink RX2 82 yX2_isDayOf, Cond.instanceMethod yX2_isDayOf, Cond.selects RX2 yX2_isDayOf yX2_isDayOf, Cond.code yX2_isDayOf cX2_isDayOf 3 (some .boolean), Cond.fieldLink RX2 25 "VoidrentModel" "tos" "[I", Cond.methodLink RX2 86 yX2_agreed, Cond.instanceMethod yX2_agreed, Cond.selects RX2 yX2_agreed yX2_agreed, Cond.code yX2_agreed cX2_agreed 7 (some .int), Cond.fieldLink RX2 28 "VoidrentModel" "rents" "[I", Cond.fieldLink RX2 46 "VoidrentModel" "steps" "[I", Cond.fieldLink RX2 49 "VoidrentModel" "stepDays" "[I", Cond.fieldLink RX2 52 "VoidrentModel" "stepRents" "[I", Cond.methodLink RX2 89 yX2_greatestIndex, Cond.instanceMethod yX2_greatestIndex, Cond.selects RX2 yX2_greatestIndex yX2_greatestIndex]
def wsX2_billOf_r2 : List Cond := [Cond.code yX2_greatestIndex cX2_greatestIndex 6 (some .int), Cond.fieldLink RX2 34 "VoidrentModel" "everies" "[I"]
def wsX2_billOf : List Cond := .code yX2_billOf cX2_billOf 5 (some .int) :: ((wsX2_billOf_r1 ++ wsX2_billOf_r2) ++ wsX20)
def wsX2_topUp_r1 : List Cond := [Cond.fieldLink RX2 43 "VoidrentModel" "deposits" "[I", Cond.methodLink RX2 75 yX2_isLease, Cond.instanceMethod yX2_isLease, Cond.selects RX2 yX2_isLease yX2_isLease, Cond.initialized RX2, Cond.code yX2_isLease cX2_isLease 2 (some .boolean), Cond.fieldLink RX2 59 "VoidrentModel" "leases" "I", Cond.methodLink RX2 62 yX2_isIn, Cond.static yX2_isIn, Cond.code yX2_isIn cX2_isIn 3 (some .boolean), Cond.methodLink RX2 82 yX2_isDayOf, Cond.instanceMethod yX2_isDayOf, Cond.selects RX2 yX2_isDayOf yX2_isDayOf, Cond.code yX2_isDayOf cX2_isDayOf 3 (some .boolean), Cond.fieldLink RX2 22 "VoidrentModel" "froms" "[I", Cond.fieldLink RX2 25 "VoidrentModel" "tos" "[I", Cond.methodLink RX2 66 yX2_holds, Cond.instanceMethod yX2_holds, Cond.selects RX2 yX2_holds yX2_holds, Cond.code yX2_holds cX2_holds 2 (some .boolean), Cond.fieldLink RX2 55 "VoidrentModel" "thrown" "I", Cond.methodLink RX2 92 yX2_rentAt, Cond.instanceMethod yX2_rentAt, Cond.selects RX2 yX2_rentAt yX2_rentAt]
def wsX2_topUp_r2 : List Cond := [Cond.code yX2_rentAt cX2_rentAt 5 (some .int), Cond.fieldLink RX2 31 "VoidrentModel" "frees" "[I", Cond.fieldLink RX2 13 "VoidrentModel" "indices" "[I", Cond.methodLink RX2 86 yX2_agreed, Cond.instanceMethod yX2_agreed, Cond.selects RX2 yX2_agreed yX2_agreed, Cond.code yX2_agreed cX2_agreed 7 (some .int), Cond.fieldLink RX2 28 "VoidrentModel" "rents" "[I", Cond.fieldLink RX2 46 "VoidrentModel" "steps" "[I", Cond.fieldLink RX2 49 "VoidrentModel" "stepDays" "[I", Cond.fieldLink RX2 52 "VoidrentModel" "stepRents" "[I", Cond.methodLink RX2 89 yX2_greatestIndex, Cond.instanceMethod yX2_greatestIndex, Cond.selects RX2 yX2_greatestIndex yX2_greatestIndex, Cond.code yX2_greatestIndex cX2_greatestIndex 6 (some .int), Cond.fieldLink RX2 34 "VoidrentModel" "everies" "[I"]
def wsX2_topUp : List Cond := .code yX2_topUp cX2_topUp 6 (some .int) :: ((wsX2_topUp_r1 ++ wsX2_topUp_r2) ++ wsX20)
def wsX2_draw : List Cond := .code yX2_draw cX2_draw 4 (some .int) :: ([.constant RX2 70 (999999), .fieldLink RX2 43 "VoidrentModel" "deposits" "[I", .methodLink RX2 75 yX2_isLease, .instanceMethod yX2_isLease, .selects RX2 yX2_isLease yX2_isLease, .initialized RX2, .code yX2_isLease cX2_isLease 2 (some .boolean), .fieldLink RX2 59 "VoidrentModel" "leases" "I", .methodLink RX2 62 yX2_isIn, .static yX2_isIn, .code yX2_isIn cX2_isIn 3 (some .boolean), .methodLink RX2 66 yX2_holds, .instanceMethod yX2_holds, .selects RX2 yX2_holds yX2_holds, .code yX2_holds cX2_holds 2 (some .boolean), .fieldLink RX2 55 "VoidrentModel" "thrown" "I"] ++ wsX20)
def wsX2_held : List Cond := .code yX2_held cX2_held 2 (some .int) :: ([.fieldLink RX2 43 "VoidrentModel" "deposits" "[I", .methodLink RX2 75 yX2_isLease, .instanceMethod yX2_isLease, .selects RX2 yX2_isLease yX2_isLease, .initialized RX2, .code yX2_isLease cX2_isLease 2 (some .boolean), .fieldLink RX2 59 "VoidrentModel" "leases" "I", .methodLink RX2 62 yX2_isIn, .static yX2_isIn, .code yX2_isIn cX2_isIn 3 (some .boolean), .methodLink RX2 66 yX2_holds, .instanceMethod yX2_holds, .selects RX2 yX2_holds yX2_holds, .code yX2_holds cX2_holds 2 (some .boolean), .fieldLink RX2 55 "VoidrentModel" "thrown" "I"] ++ wsX20)
def wsX2_leases : List Cond := .code yX2_leases cX2_leases 1 (some .int) :: ([.fieldLink RX2 55 "VoidrentModel" "thrown" "I", .fieldLink RX2 59 "VoidrentModel" "leases" "I"] ++ wsX20)
def wsX2_leaseOn : List Cond := .code yX2_leaseOn cX2_leaseOn 5 (some .int) :: ([.fieldLink RX2 59 "VoidrentModel" "leases" "I", .fieldLink RX2 19 "VoidrentModel" "units" "[I", .methodLink RX2 62 yX2_isIn, .static yX2_isIn, .initialized RX2, .code yX2_isIn cX2_isIn 3 (some .boolean), .methodLink RX2 66 yX2_holds, .instanceMethod yX2_holds, .selects RX2 yX2_holds yX2_holds, .code yX2_holds cX2_holds 2 (some .boolean), .fieldLink RX2 55 "VoidrentModel" "thrown" "I", .methodLink RX2 82 yX2_isDayOf, .instanceMethod yX2_isDayOf, .selects RX2 yX2_isDayOf yX2_isDayOf, .code yX2_isDayOf cX2_isDayOf 3 (some .boolean), .fieldLink RX2 22 "VoidrentModel" "froms" "[I", .fieldLink RX2 25 "VoidrentModel" "tos" "[I"] ++ wsX20)
def wsX2_rentOn_r1 : List Cond := [Cond.methodLink RX2 75 yX2_isLease, Cond.instanceMethod yX2_isLease, Cond.selects RX2 yX2_isLease yX2_isLease, Cond.initialized RX2, Cond.code yX2_isLease cX2_isLease 2 (some .boolean), Cond.fieldLink RX2 59 "VoidrentModel" "leases" "I", Cond.methodLink RX2 62 yX2_isIn, Cond.static yX2_isIn, Cond.code yX2_isIn cX2_isIn 3 (some .boolean), Cond.methodLink RX2 66 yX2_holds, Cond.instanceMethod yX2_holds, Cond.selects RX2 yX2_holds yX2_holds, Cond.code yX2_holds cX2_holds 2 (some .boolean), Cond.fieldLink RX2 55 "VoidrentModel" "thrown" "I", Cond.methodLink RX2 92 yX2_rentAt, Cond.instanceMethod yX2_rentAt, Cond.selects RX2 yX2_rentAt yX2_rentAt, Cond.code yX2_rentAt cX2_rentAt 5 (some .int), Cond.fieldLink RX2 22 "VoidrentModel" "froms" "[I", Cond.fieldLink RX2 31 "VoidrentModel" "frees" "[I", Cond.fieldLink RX2 13 "VoidrentModel" "indices" "[I", Cond.methodLink RX2 82 yX2_isDayOf, Cond.instanceMethod yX2_isDayOf, Cond.selects RX2 yX2_isDayOf yX2_isDayOf]
def wsX2_rentOn_r2 : List Cond := [Cond.code yX2_isDayOf cX2_isDayOf 3 (some .boolean), Cond.fieldLink RX2 25 "VoidrentModel" "tos" "[I", Cond.methodLink RX2 86 yX2_agreed, Cond.instanceMethod yX2_agreed, Cond.selects RX2 yX2_agreed yX2_agreed, Cond.code yX2_agreed cX2_agreed 7 (some .int), Cond.fieldLink RX2 28 "VoidrentModel" "rents" "[I", Cond.fieldLink RX2 46 "VoidrentModel" "steps" "[I", Cond.fieldLink RX2 49 "VoidrentModel" "stepDays" "[I", Cond.fieldLink RX2 52 "VoidrentModel" "stepRents" "[I", Cond.methodLink RX2 89 yX2_greatestIndex, Cond.instanceMethod yX2_greatestIndex, Cond.selects RX2 yX2_greatestIndex yX2_greatestIndex, Cond.code yX2_greatestIndex cX2_greatestIndex 6 (some .int), Cond.fieldLink RX2 34 "VoidrentModel" "everies" "[I"]
def wsX2_rentOn : List Cond := .code yX2_rentOn cX2_rentOn 3 (some .int) :: ((wsX2_rentOn_r1 ++ wsX2_rentOn_r2) ++ wsX20)
def wsX2_bill_r1 : List Cond := [Cond.methodLink RX2 75 yX2_isLease, Cond.instanceMethod yX2_isLease, Cond.selects RX2 yX2_isLease yX2_isLease, Cond.initialized RX2, Cond.code yX2_isLease cX2_isLease 2 (some .boolean), Cond.fieldLink RX2 59 "VoidrentModel" "leases" "I", Cond.methodLink RX2 62 yX2_isIn, Cond.static yX2_isIn, Cond.code yX2_isIn cX2_isIn 3 (some .boolean), Cond.methodLink RX2 66 yX2_holds, Cond.instanceMethod yX2_holds, Cond.selects RX2 yX2_holds yX2_holds, Cond.code yX2_holds cX2_holds 2 (some .boolean), Cond.fieldLink RX2 55 "VoidrentModel" "thrown" "I", Cond.methodLink RX2 95 yX2_billOf, Cond.instanceMethod yX2_billOf, Cond.selects RX2 yX2_billOf yX2_billOf, Cond.code yX2_billOf cX2_billOf 5 (some .int), Cond.methodLink RX2 92 yX2_rentAt, Cond.instanceMethod yX2_rentAt, Cond.selects RX2 yX2_rentAt yX2_rentAt, Cond.code yX2_rentAt cX2_rentAt 5 (some .int), Cond.fieldLink RX2 22 "VoidrentModel" "froms" "[I", Cond.fieldLink RX2 31 "VoidrentModel" "frees" "[I"]
def wsX2_bill_r2 : List Cond := [Cond.fieldLink RX2 13 "VoidrentModel" "indices" "[I", Cond.methodLink RX2 82 yX2_isDayOf, Cond.instanceMethod yX2_isDayOf, Cond.selects RX2 yX2_isDayOf yX2_isDayOf, Cond.code yX2_isDayOf cX2_isDayOf 3 (some .boolean), Cond.fieldLink RX2 25 "VoidrentModel" "tos" "[I", Cond.methodLink RX2 86 yX2_agreed, Cond.instanceMethod yX2_agreed, Cond.selects RX2 yX2_agreed yX2_agreed, Cond.code yX2_agreed cX2_agreed 7 (some .int), Cond.fieldLink RX2 28 "VoidrentModel" "rents" "[I", Cond.fieldLink RX2 46 "VoidrentModel" "steps" "[I", Cond.fieldLink RX2 49 "VoidrentModel" "stepDays" "[I", Cond.fieldLink RX2 52 "VoidrentModel" "stepRents" "[I", Cond.methodLink RX2 89 yX2_greatestIndex, Cond.instanceMethod yX2_greatestIndex, Cond.selects RX2 yX2_greatestIndex yX2_greatestIndex, Cond.code yX2_greatestIndex cX2_greatestIndex 6 (some .int), Cond.fieldLink RX2 34 "VoidrentModel" "everies" "[I"]
def wsX2_bill : List Cond := .code yX2_bill cX2_bill 3 (some .int) :: ((wsX2_bill_r1 ++ wsX2_bill_r2) ++ wsX20)
def wsX2_billByDays_r1 : List Cond := [Cond.methodLink RX2 75 yX2_isLease, Cond.instanceMethod yX2_isLease, Cond.selects RX2 yX2_isLease yX2_isLease, Cond.initialized RX2, Cond.code yX2_isLease cX2_isLease 2 (some .boolean), Cond.fieldLink RX2 59 "VoidrentModel" "leases" "I", Cond.methodLink RX2 62 yX2_isIn, Cond.static yX2_isIn, Cond.code yX2_isIn cX2_isIn 3 (some .boolean), Cond.methodLink RX2 66 yX2_holds, Cond.instanceMethod yX2_holds, Cond.selects RX2 yX2_holds yX2_holds, Cond.code yX2_holds cX2_holds 2 (some .boolean), Cond.fieldLink RX2 55 "VoidrentModel" "thrown" "I", Cond.methodLink RX2 95 yX2_billOf, Cond.instanceMethod yX2_billOf, Cond.selects RX2 yX2_billOf yX2_billOf, Cond.code yX2_billOf cX2_billOf 5 (some .int), Cond.methodLink RX2 92 yX2_rentAt, Cond.instanceMethod yX2_rentAt, Cond.selects RX2 yX2_rentAt yX2_rentAt, Cond.code yX2_rentAt cX2_rentAt 5 (some .int), Cond.fieldLink RX2 22 "VoidrentModel" "froms" "[I", Cond.fieldLink RX2 31 "VoidrentModel" "frees" "[I"]
def wsX2_billByDays_r2 : List Cond := [Cond.fieldLink RX2 13 "VoidrentModel" "indices" "[I", Cond.methodLink RX2 82 yX2_isDayOf, Cond.instanceMethod yX2_isDayOf, Cond.selects RX2 yX2_isDayOf yX2_isDayOf, Cond.code yX2_isDayOf cX2_isDayOf 3 (some .boolean), Cond.fieldLink RX2 25 "VoidrentModel" "tos" "[I", Cond.methodLink RX2 86 yX2_agreed, Cond.instanceMethod yX2_agreed, Cond.selects RX2 yX2_agreed yX2_agreed, Cond.code yX2_agreed cX2_agreed 7 (some .int), Cond.fieldLink RX2 28 "VoidrentModel" "rents" "[I", Cond.fieldLink RX2 46 "VoidrentModel" "steps" "[I", Cond.fieldLink RX2 49 "VoidrentModel" "stepDays" "[I", Cond.fieldLink RX2 52 "VoidrentModel" "stepRents" "[I", Cond.methodLink RX2 89 yX2_greatestIndex, Cond.instanceMethod yX2_greatestIndex, Cond.selects RX2 yX2_greatestIndex yX2_greatestIndex, Cond.code yX2_greatestIndex cX2_greatestIndex 6 (some .int), Cond.fieldLink RX2 34 "VoidrentModel" "everies" "[I"]
def wsX2_billByDays : List Cond := .code yX2_billByDays cX2_billByDays 3 (some .int) :: ((wsX2_billByDays_r1 ++ wsX2_billByDays_r2) ++ wsX20)
def wsX2_bills_r1 : List Cond := [Cond.methodLink RX2 75 yX2_isLease, Cond.instanceMethod yX2_isLease, Cond.selects RX2 yX2_isLease yX2_isLease, Cond.initialized RX2, Cond.code yX2_isLease cX2_isLease 2 (some .boolean), Cond.fieldLink RX2 59 "VoidrentModel" "leases" "I", Cond.methodLink RX2 62 yX2_isIn, Cond.static yX2_isIn, Cond.code yX2_isIn cX2_isIn 3 (some .boolean), Cond.methodLink RX2 66 yX2_holds, Cond.instanceMethod yX2_holds, Cond.selects RX2 yX2_holds yX2_holds, Cond.code yX2_holds cX2_holds 2 (some .boolean), Cond.fieldLink RX2 55 "VoidrentModel" "thrown" "I", Cond.methodLink RX2 95 yX2_billOf, Cond.instanceMethod yX2_billOf, Cond.selects RX2 yX2_billOf yX2_billOf, Cond.code yX2_billOf cX2_billOf 5 (some .int), Cond.methodLink RX2 92 yX2_rentAt, Cond.instanceMethod yX2_rentAt, Cond.selects RX2 yX2_rentAt yX2_rentAt, Cond.code yX2_rentAt cX2_rentAt 5 (some .int), Cond.fieldLink RX2 22 "VoidrentModel" "froms" "[I", Cond.fieldLink RX2 31 "VoidrentModel" "frees" "[I"]
def wsX2_bills_r2 : List Cond := [Cond.fieldLink RX2 13 "VoidrentModel" "indices" "[I", Cond.methodLink RX2 82 yX2_isDayOf, Cond.instanceMethod yX2_isDayOf, Cond.selects RX2 yX2_isDayOf yX2_isDayOf, Cond.code yX2_isDayOf cX2_isDayOf 3 (some .boolean), Cond.fieldLink RX2 25 "VoidrentModel" "tos" "[I", Cond.methodLink RX2 86 yX2_agreed, Cond.instanceMethod yX2_agreed, Cond.selects RX2 yX2_agreed yX2_agreed, Cond.code yX2_agreed cX2_agreed 7 (some .int), Cond.fieldLink RX2 28 "VoidrentModel" "rents" "[I", Cond.fieldLink RX2 46 "VoidrentModel" "steps" "[I", Cond.fieldLink RX2 49 "VoidrentModel" "stepDays" "[I", Cond.fieldLink RX2 52 "VoidrentModel" "stepRents" "[I", Cond.methodLink RX2 89 yX2_greatestIndex, Cond.instanceMethod yX2_greatestIndex, Cond.selects RX2 yX2_greatestIndex yX2_greatestIndex, Cond.code yX2_greatestIndex cX2_greatestIndex 6 (some .int), Cond.fieldLink RX2 34 "VoidrentModel" "everies" "[I"]
def wsX2_bills : List Cond := .code yX2_bills cX2_bills 8 (some .long) :: ((wsX2_bills_r1 ++ wsX2_bills_r2) ++ wsX20)
def wsX2_nextChange_r1 : List Cond := [Cond.fieldLink RX2 25 "VoidrentModel" "tos" "[I", Cond.methodLink RX2 75 yX2_isLease, Cond.instanceMethod yX2_isLease, Cond.selects RX2 yX2_isLease yX2_isLease, Cond.initialized RX2, Cond.code yX2_isLease cX2_isLease 2 (some .boolean), Cond.fieldLink RX2 59 "VoidrentModel" "leases" "I", Cond.methodLink RX2 62 yX2_isIn, Cond.static yX2_isIn, Cond.code yX2_isIn cX2_isIn 3 (some .boolean), Cond.methodLink RX2 66 yX2_holds, Cond.instanceMethod yX2_holds, Cond.selects RX2 yX2_holds yX2_holds, Cond.code yX2_holds cX2_holds 2 (some .boolean), Cond.fieldLink RX2 55 "VoidrentModel" "thrown" "I", Cond.methodLink RX2 92 yX2_rentAt, Cond.instanceMethod yX2_rentAt, Cond.selects RX2 yX2_rentAt yX2_rentAt, Cond.code yX2_rentAt cX2_rentAt 5 (some .int), Cond.fieldLink RX2 22 "VoidrentModel" "froms" "[I", Cond.fieldLink RX2 31 "VoidrentModel" "frees" "[I", Cond.fieldLink RX2 13 "VoidrentModel" "indices" "[I", Cond.methodLink RX2 82 yX2_isDayOf, Cond.instanceMethod yX2_isDayOf]
def wsX2_nextChange_r2 : List Cond := [Cond.selects RX2 yX2_isDayOf yX2_isDayOf, Cond.code yX2_isDayOf cX2_isDayOf 3 (some .boolean), Cond.methodLink RX2 86 yX2_agreed, Cond.instanceMethod yX2_agreed, Cond.selects RX2 yX2_agreed yX2_agreed, Cond.code yX2_agreed cX2_agreed 7 (some .int), Cond.fieldLink RX2 28 "VoidrentModel" "rents" "[I", Cond.fieldLink RX2 46 "VoidrentModel" "steps" "[I", Cond.fieldLink RX2 49 "VoidrentModel" "stepDays" "[I", Cond.fieldLink RX2 52 "VoidrentModel" "stepRents" "[I", Cond.methodLink RX2 89 yX2_greatestIndex, Cond.instanceMethod yX2_greatestIndex, Cond.selects RX2 yX2_greatestIndex yX2_greatestIndex, Cond.code yX2_greatestIndex cX2_greatestIndex 6 (some .int), Cond.fieldLink RX2 34 "VoidrentModel" "everies" "[I"]
def wsX2_nextChange : List Cond := .code yX2_nextChange cX2_nextChange 6 (some .int) :: ((wsX2_nextChange_r1 ++ wsX2_nextChange_r2) ++ wsX20)
def wsX2_daysIn : List Cond := .code yX2_daysIn cX2_daysIn 5 (some .int) :: ([.fieldLink RX2 22 "VoidrentModel" "froms" "[I", .fieldLink RX2 25 "VoidrentModel" "tos" "[I"] ++ wsX20)
def wsX2_allAreas : List Cond := .code yX2_allAreas cX2_allAreas 3 (some .int) :: ([.fieldLink RX2 7 "VoidrentModel" "areas" "[I"] ++ wsX20)
def wsX2_partOf : List Cond := .code yX2_partOf cX2_partOf 7 (some .int) :: ([.fieldLink RX2 16 "VoidrentModel" "costs" "[I", .fieldLink RX2 7 "VoidrentModel" "areas" "[I", .fieldLink RX2 19 "VoidrentModel" "units" "[I", .constantLong RX2 105 (360), .fieldLink RX2 37 "VoidrentModel" "caps" "[I", .methodLink RX2 98 yX2_allAreas, .instanceMethod yX2_allAreas, .selects RX2 yX2_allAreas yX2_allAreas, .initialized RX2, .code yX2_allAreas cX2_allAreas 3 (some .int), .methodLink RX2 102 yX2_daysIn, .instanceMethod yX2_daysIn, .selects RX2 yX2_daysIn yX2_daysIn, .code yX2_daysIn cX2_daysIn 5 (some .int), .fieldLink RX2 22 "VoidrentModel" "froms" "[I", .fieldLink RX2 25 "VoidrentModel" "tos" "[I"] ++ wsX20)
def wsX2_voids : List Cond := .code yX2_voids cX2_voids 5 (some .int) :: ([.fieldLink RX2 59 "VoidrentModel" "leases" "I", .fieldLink RX2 19 "VoidrentModel" "units" "[I", .methodLink RX2 62 yX2_isIn, .static yX2_isIn, .initialized RX2, .code yX2_isIn cX2_isIn 3 (some .boolean), .methodLink RX2 66 yX2_holds, .instanceMethod yX2_holds, .selects RX2 yX2_holds yX2_holds, .code yX2_holds cX2_holds 2 (some .boolean), .fieldLink RX2 55 "VoidrentModel" "thrown" "I", .methodLink RX2 102 yX2_daysIn, .instanceMethod yX2_daysIn, .selects RX2 yX2_daysIn yX2_daysIn, .code yX2_daysIn cX2_daysIn 5 (some .int), .fieldLink RX2 22 "VoidrentModel" "froms" "[I", .fieldLink RX2 25 "VoidrentModel" "tos" "[I"] ++ wsX20)
def wsX2_part_r1 : List Cond := [Cond.methodLink RX2 75 yX2_isLease, Cond.instanceMethod yX2_isLease, Cond.selects RX2 yX2_isLease yX2_isLease, Cond.initialized RX2, Cond.code yX2_isLease cX2_isLease 2 (some .boolean), Cond.fieldLink RX2 59 "VoidrentModel" "leases" "I", Cond.methodLink RX2 62 yX2_isIn, Cond.static yX2_isIn, Cond.code yX2_isIn cX2_isIn 3 (some .boolean), Cond.methodLink RX2 66 yX2_holds, Cond.instanceMethod yX2_holds, Cond.selects RX2 yX2_holds yX2_holds, Cond.code yX2_holds cX2_holds 2 (some .boolean), Cond.fieldLink RX2 55 "VoidrentModel" "thrown" "I", Cond.methodLink RX2 107 yX2_partOf, Cond.instanceMethod yX2_partOf, Cond.selects RX2 yX2_partOf yX2_partOf, Cond.code yX2_partOf cX2_partOf 7 (some .int), Cond.fieldLink RX2 16 "VoidrentModel" "costs" "[I", Cond.fieldLink RX2 7 "VoidrentModel" "areas" "[I", Cond.fieldLink RX2 19 "VoidrentModel" "units" "[I", Cond.constantLong RX2 105 (360), Cond.fieldLink RX2 37 "VoidrentModel" "caps" "[I", Cond.methodLink RX2 98 yX2_allAreas]
def wsX2_part_r2 : List Cond := [Cond.instanceMethod yX2_allAreas, Cond.selects RX2 yX2_allAreas yX2_allAreas, Cond.code yX2_allAreas cX2_allAreas 3 (some .int), Cond.methodLink RX2 102 yX2_daysIn, Cond.instanceMethod yX2_daysIn, Cond.selects RX2 yX2_daysIn yX2_daysIn, Cond.code yX2_daysIn cX2_daysIn 5 (some .int), Cond.fieldLink RX2 22 "VoidrentModel" "froms" "[I", Cond.fieldLink RX2 25 "VoidrentModel" "tos" "[I"]
def wsX2_part : List Cond := .code yX2_part cX2_part 3 (some .int) :: ((wsX2_part_r1 ++ wsX2_part_r2) ++ wsX20)
def wsX2_owners_r1 : List Cond := [Cond.fieldLink RX2 16 "VoidrentModel" "costs" "[I", Cond.fieldLink RX2 59 "VoidrentModel" "leases" "I", Cond.methodLink RX2 62 yX2_isIn, Cond.static yX2_isIn, Cond.initialized RX2, Cond.code yX2_isIn cX2_isIn 3 (some .boolean), Cond.methodLink RX2 66 yX2_holds, Cond.instanceMethod yX2_holds, Cond.selects RX2 yX2_holds yX2_holds, Cond.code yX2_holds cX2_holds 2 (some .boolean), Cond.fieldLink RX2 55 "VoidrentModel" "thrown" "I", Cond.methodLink RX2 107 yX2_partOf, Cond.instanceMethod yX2_partOf, Cond.selects RX2 yX2_partOf yX2_partOf, Cond.code yX2_partOf cX2_partOf 7 (some .int), Cond.fieldLink RX2 7 "VoidrentModel" "areas" "[I", Cond.fieldLink RX2 19 "VoidrentModel" "units" "[I", Cond.constantLong RX2 105 (360), Cond.fieldLink RX2 37 "VoidrentModel" "caps" "[I", Cond.methodLink RX2 98 yX2_allAreas, Cond.instanceMethod yX2_allAreas, Cond.selects RX2 yX2_allAreas yX2_allAreas, Cond.code yX2_allAreas cX2_allAreas 3 (some .int), Cond.methodLink RX2 102 yX2_daysIn]
def wsX2_owners_r2 : List Cond := [Cond.instanceMethod yX2_daysIn, Cond.selects RX2 yX2_daysIn yX2_daysIn, Cond.code yX2_daysIn cX2_daysIn 5 (some .int), Cond.fieldLink RX2 22 "VoidrentModel" "froms" "[I", Cond.fieldLink RX2 25 "VoidrentModel" "tos" "[I"]
def wsX2_owners : List Cond := .code yX2_owners cX2_owners 4 (some .int) :: ((wsX2_owners_r1 ++ wsX2_owners_r2) ++ wsX20)
def wsX2_balance_r1 : List Cond := [Cond.fieldLink RX2 40 "VoidrentModel" "prepaids" "[I", Cond.methodLink RX2 75 yX2_isLease, Cond.instanceMethod yX2_isLease, Cond.selects RX2 yX2_isLease yX2_isLease, Cond.initialized RX2, Cond.code yX2_isLease cX2_isLease 2 (some .boolean), Cond.fieldLink RX2 59 "VoidrentModel" "leases" "I", Cond.methodLink RX2 62 yX2_isIn, Cond.static yX2_isIn, Cond.code yX2_isIn cX2_isIn 3 (some .boolean), Cond.methodLink RX2 66 yX2_holds, Cond.instanceMethod yX2_holds, Cond.selects RX2 yX2_holds yX2_holds, Cond.code yX2_holds cX2_holds 2 (some .boolean), Cond.fieldLink RX2 55 "VoidrentModel" "thrown" "I", Cond.methodLink RX2 107 yX2_partOf, Cond.instanceMethod yX2_partOf, Cond.selects RX2 yX2_partOf yX2_partOf, Cond.code yX2_partOf cX2_partOf 7 (some .int), Cond.fieldLink RX2 16 "VoidrentModel" "costs" "[I", Cond.fieldLink RX2 7 "VoidrentModel" "areas" "[I", Cond.fieldLink RX2 19 "VoidrentModel" "units" "[I", Cond.constantLong RX2 105 (360), Cond.fieldLink RX2 37 "VoidrentModel" "caps" "[I"]
def wsX2_balance_r2 : List Cond := [Cond.methodLink RX2 98 yX2_allAreas, Cond.instanceMethod yX2_allAreas, Cond.selects RX2 yX2_allAreas yX2_allAreas, Cond.code yX2_allAreas cX2_allAreas 3 (some .int), Cond.methodLink RX2 102 yX2_daysIn, Cond.instanceMethod yX2_daysIn, Cond.selects RX2 yX2_daysIn yX2_daysIn, Cond.code yX2_daysIn cX2_daysIn 5 (some .int), Cond.fieldLink RX2 22 "VoidrentModel" "froms" "[I", Cond.fieldLink RX2 25 "VoidrentModel" "tos" "[I"]
def wsX2_balance : List Cond := .code yX2_balance cX2_balance 3 (some .int) :: ((wsX2_balance_r1 ++ wsX2_balance_r2) ++ wsX20)
def wsX2_share : List Cond := .code yX2_share cX2_share 2 (some .double) :: ([.fieldLink RX2 7 "VoidrentModel" "areas" "[I", .methodLink RX2 62 yX2_isIn, .static yX2_isIn, .initialized RX2, .code yX2_isIn cX2_isIn 3 (some .boolean), .methodLink RX2 66 yX2_holds, .instanceMethod yX2_holds, .selects RX2 yX2_holds yX2_holds, .code yX2_holds cX2_holds 2 (some .boolean), .fieldLink RX2 55 "VoidrentModel" "thrown" "I", .methodLink RX2 98 yX2_allAreas, .instanceMethod yX2_allAreas, .selects RX2 yX2_allAreas yX2_allAreas, .code yX2_allAreas cX2_allAreas 3 (some .int)] ++ wsX20)
def wsJ9_max_7cf53 : List Cond := .code yJ9_max_7cf53 cJ9_max_7cf53 2 (some .int) :: ([])
def wsJ9_min_7cf53 : List Cond := .code yJ9_min_7cf53 cJ9_min_7cf53 2 (some .int) :: ([])
def wsL_setArea : List Cond := .codeWith yL_setArea cL_setArea 5 (some .int) [(0, 10, 13, 13), (0, 10, 17, 15)] :: ([.classLink RL 13 "java/lang/IndexOutOfBoundsException", .classLink RL 15 "java/lang/IllegalArgumentException", .methodLink RL 7 yX1_setArea, .instanceMethod yX1_setArea, .selects RX1 yX1_setArea yX1_setArea, .initialized RX1, .code yX1_setArea cX1_setArea 4 (some .int), .fieldLink RX1 9 "Voidrent" "areas" "[I", .methodLink RX1 29 yX1_checkNumber, .static yX1_checkNumber, .code yX1_checkNumber cX1_checkNumber 2 none, .classLink RX1 126 "java/lang/IndexOutOfBoundsException", .initialized "java/lang/IndexOutOfBoundsException", .methodLink RX1 33 yX1_checkRange, .static yX1_checkRange, .code yX1_checkRange cX1_checkRange 3 none, .classLink RX1 131 "java/lang/IllegalArgumentException", .initialized "java/lang/IllegalArgumentException"] ++ wsX10 ++ (vx_atS RX1 130 "java/lang/IndexOutOfBoundsException" ["java/lang/RuntimeException", "java/lang/Exception"]).filter goodWord ++ (vx_atS RX1 135 "java/lang/IllegalArgumentException" ["java/lang/RuntimeException", "java/lang/Exception"]).filter goodWord)
def wsL_setIndex : List Cond := .codeWith yL_setIndex cL_setIndex 5 (some .int) [(0, 10, 13, 13), (0, 10, 17, 15)] :: ([.classLink RL 13 "java/lang/IndexOutOfBoundsException", .classLink RL 15 "java/lang/IllegalArgumentException", .methodLink RL 17 yX1_setIndex, .instanceMethod yX1_setIndex, .selects RX1 yX1_setIndex yX1_setIndex, .initialized RX1, .code yX1_setIndex cX1_setIndex 4 (some .int), .fieldLink RX1 13 "Voidrent" "indices" "[I", .methodLink RX1 29 yX1_checkNumber, .static yX1_checkNumber, .code yX1_checkNumber cX1_checkNumber 2 none, .classLink RX1 126 "java/lang/IndexOutOfBoundsException", .initialized "java/lang/IndexOutOfBoundsException", .methodLink RX1 33 yX1_checkRange, .static yX1_checkRange, .code yX1_checkRange cX1_checkRange 3 none, .classLink RX1 131 "java/lang/IllegalArgumentException", .initialized "java/lang/IllegalArgumentException"] ++ wsX10 ++ (vx_atS RX1 130 "java/lang/IndexOutOfBoundsException" ["java/lang/RuntimeException", "java/lang/Exception"]).filter goodWord ++ (vx_atS RX1 135 "java/lang/IllegalArgumentException" ["java/lang/RuntimeException", "java/lang/Exception"]).filter goodWord)
def wsL_setCost : List Cond := .codeWith yL_setCost cL_setCost 5 (some .int) [(0, 10, 13, 13), (0, 10, 17, 15)] :: ([.classLink RL 13 "java/lang/IndexOutOfBoundsException", .classLink RL 15 "java/lang/IllegalArgumentException", .methodLink RL 20 yX1_setCost, .instanceMethod yX1_setCost, .selects RX1 yX1_setCost yX1_setCost, .initialized RX1, .code yX1_setCost cX1_setCost 4 (some .int), .fieldLink RX1 16 "Voidrent" "costs" "[I", .constant RX1 37 (999999), .methodLink RX1 29 yX1_checkNumber, .static yX1_checkNumber, .code yX1_checkNumber cX1_checkNumber 2 none, .classLink RX1 126 "java/lang/IndexOutOfBoundsException", .initialized "java/lang/IndexOutOfBoundsException", .methodLink RX1 33 yX1_checkRange, .static yX1_checkRange, .code yX1_checkRange cX1_checkRange 3 none, .classLink RX1 131 "java/lang/IllegalArgumentException", .initialized "java/lang/IllegalArgumentException"] ++ wsX10 ++ (vx_atS RX1 130 "java/lang/IndexOutOfBoundsException" ["java/lang/RuntimeException", "java/lang/Exception"]).filter goodWord ++ (vx_atS RX1 135 "java/lang/IllegalArgumentException" ["java/lang/RuntimeException", "java/lang/Exception"]).filter goodWord)
def wsL_let_r1 : List Cond := [Cond.classLink RL 13 "java/lang/IndexOutOfBoundsException", Cond.classLink RL 15 "java/lang/IllegalArgumentException", Cond.classLink RL 27 "java/lang/IllegalStateException", Cond.methodLink RL 23 yX1_let, Cond.instanceMethod yX1_let, Cond.selects RX1 yX1_let yX1_let, Cond.initialized RX1, Cond.code yX1_let cX1_let 6 (some .int), Cond.classLink RX1 39 "java/lang/IllegalStateException", Cond.initialized "java/lang/IllegalStateException", Cond.fieldLink RX1 9 "Voidrent" "areas" "[I", Cond.constant RX1 38 (99999), Cond.fieldLink RX1 25 "Voidrent" "count" "I", Cond.fieldLink RX1 21 "Voidrent" "roll" "[LVoidrent$Lease;", Cond.classLink RX1 19 RX0, Cond.instantiable RX0 12, Cond.initialized RX0, Cond.methodLink RX1 29 yX1_checkNumber, Cond.static yX1_checkNumber, Cond.code yX1_checkNumber cX1_checkNumber 2 none, Cond.classLink RX1 126 "java/lang/IndexOutOfBoundsException", Cond.initialized "java/lang/IndexOutOfBoundsException", Cond.methodLink RX1 33 yX1_checkRange, Cond.static yX1_checkRange]
def wsL_let_r2 : List Cond := [Cond.code yX1_checkRange cX1_checkRange 3 none, Cond.classLink RX1 131 "java/lang/IllegalArgumentException", Cond.initialized "java/lang/IllegalArgumentException", Cond.methodLink RX1 46 yX1_daysLet, Cond.instanceMethod yX1_daysLet, Cond.selects RX1 yX1_daysLet yX1_daysLet, Cond.code yX1_daysLet cX1_daysLet 9 (some .int), Cond.methodLink RX1 138 yX0_daysWithin, Cond.instanceMethod yX0_daysWithin, Cond.selects RX0 yX0_daysWithin yX0_daysWithin, Cond.code yX0_daysWithin cX0_daysWithin 3 (some .int), Cond.fieldLink RX0 43 "Voidrent$Lease" "to" "I", Cond.methodLink RX0 49 Lib.Math.min.name, Cond.static Lib.Math.min.name, Cond.initialized "java/lang/Math", Cond.code Lib.Math.min.name Lib.Math.min.code 2 (some .int), Cond.fieldLink RX0 40 "Voidrent$Lease" "from" "I", Cond.methodLink RX0 55 Lib.Math.max.name, Cond.static Lib.Math.max.name, Cond.code Lib.Math.max.name Lib.Math.max.code 2 (some .int), Cond.methodLink RX1 52 yX0_init, Cond.instanceMethod yX0_init, Cond.code yX0_init cX0_init 5 none, Cond.methodLink RX0 3 objectInit]
def wsL_let_r3 : List Cond := [Cond.instanceMethod objectInit, Cond.code objectInit ⟨#[0xb1]⟩ 1 none, Cond.fieldLink RX0 9 "Voidrent$Lease" "free" "I", Cond.fieldLink RX0 15 "Voidrent$Lease" "every" "I", Cond.fieldLink RX0 18 "Voidrent$Lease" "cap" "I", Cond.fieldLink RX0 21 "Voidrent$Lease" "prepaid" "I", Cond.fieldLink RX0 24 "Voidrent$Lease" "deposit" "I", Cond.arrayClass .int, Cond.fieldLink RX0 27 "Voidrent$Lease" "stepDays" "[I", Cond.fieldLink RX0 31 "Voidrent$Lease" "stepRents" "[I", Cond.fieldLink RX0 34 "Voidrent$Lease" "steps" "I", Cond.fieldLink RX0 37 "Voidrent$Lease" "unit" "I", Cond.fieldLink RX0 46 "Voidrent$Lease" "firstRent" "I"]
def wsL_let : List Cond := .codeWith yL_let cL_let 7 (some .int) [(0, 14, 17, 13), (0, 14, 21, 15), (0, 14, 25, 27)] :: ((wsL_let_r1 ++ (wsL_let_r2 ++ wsL_let_r3)) ++ wsX10 ++ wsX00 ++ (vx_atS RX1 43 "java/lang/IllegalStateException" ["java/lang/RuntimeException", "java/lang/Exception"]).filter goodWord ++ (vx_atS RX1 130 "java/lang/IndexOutOfBoundsException" ["java/lang/RuntimeException", "java/lang/Exception"]).filter goodWord ++ (vx_atS RX1 135 "java/lang/IllegalArgumentException" ["java/lang/RuntimeException", "java/lang/Exception"]).filter goodWord)
def wsL_end : List Cond := .codeWith yL_end cL_end 5 (some .int) [(0, 10, 13, 13), (0, 10, 17, 15)] :: ([.classLink RL 13 "java/lang/IndexOutOfBoundsException", .classLink RL 15 "java/lang/IllegalArgumentException", .methodLink RL 29 yX1_end, .instanceMethod yX1_end, .selects RX1 yX1_end yX1_end, .initialized RX1, .code yX1_end cX1_end 5 (some .int), .methodLink RX1 55 yX1_find, .instanceMethod yX1_find, .selects RX1 yX1_find yX1_find, .code yX1_find cX1_find 3 (some (.object "Voidrent$Lease")), .classLink RX1 126 "java/lang/IndexOutOfBoundsException", .initialized "java/lang/IndexOutOfBoundsException", .fieldLink RX1 21 "Voidrent" "roll" "[LVoidrent$Lease;", .methodLink RX1 29 yX1_checkNumber, .static yX1_checkNumber, .code yX1_checkNumber cX1_checkNumber 2 none, .methodLink RX1 33 yX1_checkRange, .static yX1_checkRange, .code yX1_checkRange cX1_checkRange 3 none, .classLink RX1 131 "java/lang/IllegalArgumentException", .initialized "java/lang/IllegalArgumentException"] ++ wsX00 ++ wsX10 ++ (vx_atS RX1 130 "java/lang/IndexOutOfBoundsException" ["java/lang/RuntimeException", "java/lang/Exception"]).filter goodWord ++ (vx_atS RX1 135 "java/lang/IllegalArgumentException" ["java/lang/RuntimeException", "java/lang/Exception"]).filter goodWord)
def wsL_step_r1 : List Cond := [Cond.classLink RL 13 "java/lang/IndexOutOfBoundsException", Cond.classLink RL 15 "java/lang/IllegalArgumentException", Cond.classLink RL 27 "java/lang/IllegalStateException", Cond.methodLink RL 32 yX1_step, Cond.instanceMethod yX1_step, Cond.selects RX1 yX1_step yX1_step, Cond.initialized RX1, Cond.code yX1_step cX1_step 5 (some .int), Cond.classLink RX1 39 "java/lang/IllegalStateException", Cond.initialized "java/lang/IllegalStateException", Cond.constant RX1 38 (99999), Cond.methodLink RX1 55 yX1_find, Cond.instanceMethod yX1_find, Cond.selects RX1 yX1_find yX1_find, Cond.code yX1_find cX1_find 3 (some (.object "Voidrent$Lease")), Cond.classLink RX1 126 "java/lang/IndexOutOfBoundsException", Cond.initialized "java/lang/IndexOutOfBoundsException", Cond.fieldLink RX1 21 "Voidrent" "roll" "[LVoidrent$Lease;", Cond.methodLink RX1 29 yX1_checkNumber, Cond.static yX1_checkNumber, Cond.code yX1_checkNumber cX1_checkNumber 2 none, Cond.methodLink RX1 33 yX1_checkRange, Cond.static yX1_checkRange, Cond.code yX1_checkRange cX1_checkRange 3 none]
def wsL_step_r2 : List Cond := [Cond.classLink RX1 131 "java/lang/IllegalArgumentException", Cond.initialized "java/lang/IllegalArgumentException", Cond.methodLink RX1 65 yX0_putStep, Cond.instanceMethod yX0_putStep, Cond.selects RX0 yX0_putStep yX0_putStep, Cond.initialized RX0, Cond.code yX0_putStep cX0_putStep 4 (some .boolean), Cond.fieldLink RX0 34 "Voidrent$Lease" "steps" "I", Cond.fieldLink RX0 27 "Voidrent$Lease" "stepDays" "[I", Cond.fieldLink RX0 31 "Voidrent$Lease" "stepRents" "[I", Cond.methodLink RX0 55 Lib.Math.max.name, Cond.static Lib.Math.max.name, Cond.initialized "java/lang/Math", Cond.code Lib.Math.max.name Lib.Math.max.code 2 (some .int)]
def wsL_step : List Cond := .codeWith yL_step cL_step 6 (some .int) [(0, 12, 15, 13), (0, 12, 19, 15), (0, 12, 23, 27)] :: ((wsL_step_r1 ++ wsL_step_r2) ++ wsX00 ++ wsX10 ++ (vx_atS RX1 43 "java/lang/IllegalStateException" ["java/lang/RuntimeException", "java/lang/Exception"]).filter goodWord ++ (vx_atS RX1 130 "java/lang/IndexOutOfBoundsException" ["java/lang/RuntimeException", "java/lang/Exception"]).filter goodWord ++ (vx_atS RX1 135 "java/lang/IllegalArgumentException" ["java/lang/RuntimeException", "java/lang/Exception"]).filter goodWord)
def wsL_setTerms : List Cond := .codeWith yL_setTerms cL_setTerms 5 (some .int) [(0, 7, 10, 13), (0, 7, 14, 15)] :: ([.classLink RL 13 "java/lang/IndexOutOfBoundsException", .classLink RL 15 "java/lang/IllegalArgumentException", .methodLink RL 36 yX1_setTerms, .instanceMethod yX1_setTerms, .selects RX1 yX1_setTerms yX1_setTerms, .initialized RX1, .code yX1_setTerms cX1_setTerms 5 none, .methodLink RX1 55 yX1_find, .instanceMethod yX1_find, .selects RX1 yX1_find yX1_find, .code yX1_find cX1_find 3 (some (.object "Voidrent$Lease")), .classLink RX1 126 "java/lang/IndexOutOfBoundsException", .initialized "java/lang/IndexOutOfBoundsException", .fieldLink RX1 21 "Voidrent" "roll" "[LVoidrent$Lease;", .methodLink RX1 29 yX1_checkNumber, .static yX1_checkNumber, .code yX1_checkNumber cX1_checkNumber 2 none, .methodLink RX1 33 yX1_checkRange, .static yX1_checkRange, .code yX1_checkRange cX1_checkRange 3 none, .classLink RX1 131 "java/lang/IllegalArgumentException", .initialized "java/lang/IllegalArgumentException"] ++ wsX00 ++ wsX10 ++ (vx_atS RX1 130 "java/lang/IndexOutOfBoundsException" ["java/lang/RuntimeException", "java/lang/Exception"]).filter goodWord ++ (vx_atS RX1 135 "java/lang/IllegalArgumentException" ["java/lang/RuntimeException", "java/lang/Exception"]).filter goodWord)
def wsL_setService : List Cond := .codeWith yL_setService cL_setService 5 (some .int) [(0, 7, 10, 13), (0, 7, 14, 15)] :: ([.classLink RL 13 "java/lang/IndexOutOfBoundsException", .classLink RL 15 "java/lang/IllegalArgumentException", .methodLink RL 40 yX1_setService, .instanceMethod yX1_setService, .selects RX1 yX1_setService yX1_setService, .initialized RX1, .code yX1_setService cX1_setService 5 none, .constant RX1 37 (999999), .methodLink RX1 55 yX1_find, .instanceMethod yX1_find, .selects RX1 yX1_find yX1_find, .code yX1_find cX1_find 3 (some (.object "Voidrent$Lease")), .classLink RX1 126 "java/lang/IndexOutOfBoundsException", .initialized "java/lang/IndexOutOfBoundsException", .fieldLink RX1 21 "Voidrent" "roll" "[LVoidrent$Lease;", .methodLink RX1 29 yX1_checkNumber, .static yX1_checkNumber, .code yX1_checkNumber cX1_checkNumber 2 none, .methodLink RX1 33 yX1_checkRange, .static yX1_checkRange, .code yX1_checkRange cX1_checkRange 3 none, .classLink RX1 131 "java/lang/IllegalArgumentException", .initialized "java/lang/IllegalArgumentException"] ++ wsX00 ++ wsX10 ++ (vx_atS RX1 130 "java/lang/IndexOutOfBoundsException" ["java/lang/RuntimeException", "java/lang/Exception"]).filter goodWord ++ (vx_atS RX1 135 "java/lang/IllegalArgumentException" ["java/lang/RuntimeException", "java/lang/Exception"]).filter goodWord)
def wsL_topUp_r1 : List Cond := [Cond.classLink RL 13 "java/lang/IndexOutOfBoundsException", Cond.classLink RL 15 "java/lang/IllegalArgumentException", Cond.methodLink RL 43 yX1_topUp, Cond.instanceMethod yX1_topUp, Cond.selects RX1 yX1_topUp yX1_topUp, Cond.initialized RX1, Cond.code yX1_topUp cX1_topUp 6 (some .int), Cond.methodLink RX1 93 Lib.Math.max.name, Cond.static Lib.Math.max.name, Cond.initialized "java/lang/Math", Cond.code Lib.Math.max.name Lib.Math.max.code 2 (some .int), Cond.methodLink RX1 55 yX1_find, Cond.instanceMethod yX1_find, Cond.selects RX1 yX1_find yX1_find, Cond.code yX1_find cX1_find 3 (some (.object "Voidrent$Lease")), Cond.classLink RX1 126 "java/lang/IndexOutOfBoundsException", Cond.initialized "java/lang/IndexOutOfBoundsException", Cond.fieldLink RX1 21 "Voidrent" "roll" "[LVoidrent$Lease;", Cond.methodLink RX1 29 yX1_checkNumber, Cond.static yX1_checkNumber, Cond.code yX1_checkNumber cX1_checkNumber 2 none, Cond.methodLink RX1 33 yX1_checkRange, Cond.static yX1_checkRange, Cond.code yX1_checkRange cX1_checkRange 3 none]
def wsL_topUp_r2 : List Cond := [Cond.classLink RX1 131 "java/lang/IllegalArgumentException", Cond.initialized "java/lang/IllegalArgumentException", Cond.methodLink RX1 86 yX1_rentFor, Cond.instanceMethod yX1_rentFor, Cond.selects RX1 yX1_rentFor yX1_rentFor, Cond.code yX1_rentFor cX1_rentFor 5 (some .int), Cond.fieldLink RX1 13 "Voidrent" "indices" "[I", Cond.methodLink RX1 104 yX0_runsOn, Cond.instanceMethod yX0_runsOn, Cond.selects RX0 yX0_runsOn yX0_runsOn, Cond.initialized RX0, Cond.code yX0_runsOn cX0_runsOn 2 (some .boolean), Cond.fieldLink RX0 40 "Voidrent$Lease" "from" "I", Cond.fieldLink RX0 43 "Voidrent$Lease" "to" "I", Cond.methodLink RX1 141 yX0_isFreeOn, Cond.instanceMethod yX0_isFreeOn, Cond.selects RX0 yX0_isFreeOn yX0_isFreeOn, Cond.code yX0_isFreeOn cX0_isFreeOn 2 (some .boolean), Cond.fieldLink RX0 9 "Voidrent$Lease" "free" "I", Cond.methodLink RX1 144 yX0_agreedOn, Cond.instanceMethod yX0_agreedOn, Cond.selects RX0 yX0_agreedOn yX0_agreedOn, Cond.code yX0_agreedOn cX0_agreedOn 5 (some .int), Cond.fieldLink RX0 46 "Voidrent$Lease" "firstRent" "I"]
def wsL_topUp_r3 : List Cond := [Cond.fieldLink RX0 34 "Voidrent$Lease" "steps" "I", Cond.fieldLink RX0 27 "Voidrent$Lease" "stepDays" "[I", Cond.fieldLink RX0 31 "Voidrent$Lease" "stepRents" "[I", Cond.methodLink RX1 147 yX1_valueAt, Cond.static yX1_valueAt, Cond.code yX1_valueAt cX1_valueAt 2 (some .int), Cond.methodLink RX1 151 yX1_highestIndex, Cond.instanceMethod yX1_highestIndex, Cond.selects RX1 yX1_highestIndex yX1_highestIndex, Cond.code yX1_highestIndex cX1_highestIndex 7 (some .int), Cond.methodLink RX1 154 yX0_reviewsUpTo, Cond.instanceMethod yX0_reviewsUpTo, Cond.selects RX0 yX0_reviewsUpTo yX0_reviewsUpTo, Cond.code yX0_reviewsUpTo cX0_reviewsUpTo 2 (some .int), Cond.fieldLink RX0 15 "Voidrent$Lease" "every" "I"]
def wsL_topUp : List Cond := .codeWith yL_topUp cL_topUp 6 (some .int) [(0, 12, 15, 13), (0, 12, 19, 15)] :: ((wsL_topUp_r1 ++ (wsL_topUp_r2 ++ wsL_topUp_r3)) ++ wsX00 ++ wsX10 ++ (vx_atS RX1 130 "java/lang/IndexOutOfBoundsException" ["java/lang/RuntimeException", "java/lang/Exception"]).filter goodWord ++ (vx_atS RX1 135 "java/lang/IllegalArgumentException" ["java/lang/RuntimeException", "java/lang/Exception"]).filter goodWord)
def wsL_draw_r1 : List Cond := [Cond.classLink RL 13 "java/lang/IndexOutOfBoundsException", Cond.classLink RL 15 "java/lang/IllegalArgumentException", Cond.classLink RL 27 "java/lang/IllegalStateException", Cond.methodLink RL 46 yX1_draw, Cond.instanceMethod yX1_draw, Cond.selects RX1 yX1_draw yX1_draw, Cond.initialized RX1, Cond.code yX1_draw cX1_draw 4 (some .int), Cond.classLink RX1 39 "java/lang/IllegalStateException", Cond.initialized "java/lang/IllegalStateException", Cond.constant RX1 37 (999999), Cond.methodLink RX1 55 yX1_find, Cond.instanceMethod yX1_find, Cond.selects RX1 yX1_find yX1_find, Cond.code yX1_find cX1_find 3 (some (.object "Voidrent$Lease")), Cond.classLink RX1 126 "java/lang/IndexOutOfBoundsException", Cond.initialized "java/lang/IndexOutOfBoundsException", Cond.fieldLink RX1 21 "Voidrent" "roll" "[LVoidrent$Lease;", Cond.methodLink RX1 29 yX1_checkNumber, Cond.static yX1_checkNumber, Cond.code yX1_checkNumber cX1_checkNumber 2 none, Cond.methodLink RX1 33 yX1_checkRange, Cond.static yX1_checkRange, Cond.code yX1_checkRange cX1_checkRange 3 none]
def wsL_draw_r2 : List Cond := [Cond.classLink RX1 131 "java/lang/IllegalArgumentException", Cond.initialized "java/lang/IllegalArgumentException"]
def wsL_draw : List Cond := .codeWith yL_draw cL_draw 5 (some .int) [(0, 10, 13, 13), (0, 10, 17, 15), (0, 10, 21, 27)] :: ((wsL_draw_r1 ++ wsL_draw_r2) ++ wsX00 ++ wsX10 ++ (vx_atS RX1 43 "java/lang/IllegalStateException" ["java/lang/RuntimeException", "java/lang/Exception"]).filter goodWord ++ (vx_atS RX1 130 "java/lang/IndexOutOfBoundsException" ["java/lang/RuntimeException", "java/lang/Exception"]).filter goodWord ++ (vx_atS RX1 135 "java/lang/IllegalArgumentException" ["java/lang/RuntimeException", "java/lang/Exception"]).filter goodWord)
def wsL_held : List Cond := .codeWith yL_held cL_held 4 (some .int) [(0, 9, 12, 13)] :: ([.classLink RL 13 "java/lang/IndexOutOfBoundsException", .methodLink RL 49 yX1_held, .instanceMethod yX1_held, .selects RX1 yX1_held yX1_held, .initialized RX1, .code yX1_held cX1_held 2 (some .int), .methodLink RX1 55 yX1_find, .instanceMethod yX1_find, .selects RX1 yX1_find yX1_find, .code yX1_find cX1_find 3 (some (.object "Voidrent$Lease")), .classLink RX1 126 "java/lang/IndexOutOfBoundsException", .initialized "java/lang/IndexOutOfBoundsException", .fieldLink RX1 21 "Voidrent" "roll" "[LVoidrent$Lease;", .methodLink RX1 29 yX1_checkNumber, .static yX1_checkNumber, .code yX1_checkNumber cX1_checkNumber 2 none] ++ wsX00 ++ wsX10 ++ (vx_atS RX1 130 "java/lang/IndexOutOfBoundsException" ["java/lang/RuntimeException", "java/lang/Exception"]).filter goodWord)
def wsL_leaseOn : List Cond := .codeWith yL_leaseOn cL_leaseOn 5 (some .int) [(0, 10, 13, 13)] :: ([.classLink RL 13 "java/lang/IndexOutOfBoundsException", .methodLink RL 53 yX1_leaseOn, .instanceMethod yX1_leaseOn, .selects RX1 yX1_leaseOn yX1_leaseOn, .initialized RX1, .code yX1_leaseOn cX1_leaseOn 5 (some .int), .fieldLink RX1 9 "Voidrent" "areas" "[I", .fieldLink RX1 21 "Voidrent" "roll" "[LVoidrent$Lease;", .methodLink RX1 29 yX1_checkNumber, .static yX1_checkNumber, .code yX1_checkNumber cX1_checkNumber 2 none, .classLink RX1 126 "java/lang/IndexOutOfBoundsException", .initialized "java/lang/IndexOutOfBoundsException", .methodLink RX1 104 yX0_runsOn, .instanceMethod yX0_runsOn, .selects RX0 yX0_runsOn yX0_runsOn, .initialized RX0, .code yX0_runsOn cX0_runsOn 2 (some .boolean), .fieldLink RX0 40 "Voidrent$Lease" "from" "I", .fieldLink RX0 43 "Voidrent$Lease" "to" "I"] ++ wsX10 ++ wsX00 ++ (vx_atS RX1 130 "java/lang/IndexOutOfBoundsException" ["java/lang/RuntimeException", "java/lang/Exception"]).filter goodWord)
def wsL_rentOn_r1 : List Cond := [Cond.classLink RL 13 "java/lang/IndexOutOfBoundsException", Cond.methodLink RL 56 yX1_rentOn, Cond.instanceMethod yX1_rentOn, Cond.selects RX1 yX1_rentOn yX1_rentOn, Cond.initialized RX1, Cond.code yX1_rentOn cX1_rentOn 4 (some .int), Cond.methodLink RX1 55 yX1_find, Cond.instanceMethod yX1_find, Cond.selects RX1 yX1_find yX1_find, Cond.code yX1_find cX1_find 3 (some (.object "Voidrent$Lease")), Cond.classLink RX1 126 "java/lang/IndexOutOfBoundsException", Cond.initialized "java/lang/IndexOutOfBoundsException", Cond.fieldLink RX1 21 "Voidrent" "roll" "[LVoidrent$Lease;", Cond.methodLink RX1 29 yX1_checkNumber, Cond.static yX1_checkNumber, Cond.code yX1_checkNumber cX1_checkNumber 2 none, Cond.methodLink RX1 86 yX1_rentFor, Cond.instanceMethod yX1_rentFor, Cond.selects RX1 yX1_rentFor yX1_rentFor, Cond.code yX1_rentFor cX1_rentFor 5 (some .int), Cond.fieldLink RX1 13 "Voidrent" "indices" "[I", Cond.methodLink RX1 93 Lib.Math.max.name, Cond.static Lib.Math.max.name, Cond.initialized "java/lang/Math"]
def wsL_rentOn_r2 : List Cond := [Cond.code Lib.Math.max.name Lib.Math.max.code 2 (some .int), Cond.methodLink RX1 104 yX0_runsOn, Cond.instanceMethod yX0_runsOn, Cond.selects RX0 yX0_runsOn yX0_runsOn, Cond.initialized RX0, Cond.code yX0_runsOn cX0_runsOn 2 (some .boolean), Cond.fieldLink RX0 40 "Voidrent$Lease" "from" "I", Cond.fieldLink RX0 43 "Voidrent$Lease" "to" "I", Cond.methodLink RX1 141 yX0_isFreeOn, Cond.instanceMethod yX0_isFreeOn, Cond.selects RX0 yX0_isFreeOn yX0_isFreeOn, Cond.code yX0_isFreeOn cX0_isFreeOn 2 (some .boolean), Cond.fieldLink RX0 9 "Voidrent$Lease" "free" "I", Cond.methodLink RX1 144 yX0_agreedOn, Cond.instanceMethod yX0_agreedOn, Cond.selects RX0 yX0_agreedOn yX0_agreedOn, Cond.code yX0_agreedOn cX0_agreedOn 5 (some .int), Cond.fieldLink RX0 46 "Voidrent$Lease" "firstRent" "I", Cond.fieldLink RX0 34 "Voidrent$Lease" "steps" "I", Cond.fieldLink RX0 27 "Voidrent$Lease" "stepDays" "[I", Cond.fieldLink RX0 31 "Voidrent$Lease" "stepRents" "[I", Cond.methodLink RX1 147 yX1_valueAt, Cond.static yX1_valueAt, Cond.code yX1_valueAt cX1_valueAt 2 (some .int)]
def wsL_rentOn_r3 : List Cond := [Cond.methodLink RX1 151 yX1_highestIndex, Cond.instanceMethod yX1_highestIndex, Cond.selects RX1 yX1_highestIndex yX1_highestIndex, Cond.code yX1_highestIndex cX1_highestIndex 7 (some .int), Cond.methodLink RX1 154 yX0_reviewsUpTo, Cond.instanceMethod yX0_reviewsUpTo, Cond.selects RX0 yX0_reviewsUpTo yX0_reviewsUpTo, Cond.code yX0_reviewsUpTo cX0_reviewsUpTo 2 (some .int), Cond.fieldLink RX0 15 "Voidrent$Lease" "every" "I"]
def wsL_rentOn : List Cond := .codeWith yL_rentOn cL_rentOn 5 (some .int) [(0, 10, 13, 13)] :: ((wsL_rentOn_r1 ++ (wsL_rentOn_r2 ++ wsL_rentOn_r3)) ++ wsX10 ++ wsX00 ++ (vx_atS RX1 130 "java/lang/IndexOutOfBoundsException" ["java/lang/RuntimeException", "java/lang/Exception"]).filter goodWord)
def wsL_bill_r1 : List Cond := [Cond.classLink RL 13 "java/lang/IndexOutOfBoundsException", Cond.methodLink RL 59 yX1_bill, Cond.instanceMethod yX1_bill, Cond.selects RX1 yX1_bill yX1_bill, Cond.initialized RX1, Cond.code yX1_bill cX1_bill 4 (some .int), Cond.methodLink RX1 55 yX1_find, Cond.instanceMethod yX1_find, Cond.selects RX1 yX1_find yX1_find, Cond.code yX1_find cX1_find 3 (some (.object "Voidrent$Lease")), Cond.classLink RX1 126 "java/lang/IndexOutOfBoundsException", Cond.initialized "java/lang/IndexOutOfBoundsException", Cond.fieldLink RX1 21 "Voidrent" "roll" "[LVoidrent$Lease;", Cond.methodLink RX1 29 yX1_checkNumber, Cond.static yX1_checkNumber, Cond.code yX1_checkNumber cX1_checkNumber 2 none, Cond.methodLink RX1 108 yX1_billFor, Cond.instanceMethod yX1_billFor, Cond.selects RX1 yX1_billFor yX1_billFor, Cond.code yX1_billFor cX1_billFor 8 (some .int), Cond.methodLink RX1 157 Lib.Math.min.name, Cond.static Lib.Math.min.name, Cond.initialized "java/lang/Math", Cond.code Lib.Math.min.name Lib.Math.min.code 2 (some .int)]
def wsL_bill_r2 : List Cond := [Cond.methodLink RX1 111 yX0_nextTurn, Cond.instanceMethod yX0_nextTurn, Cond.selects RX0 yX0_nextTurn yX0_nextTurn, Cond.initialized RX0, Cond.code yX0_nextTurn cX0_nextTurn 4 (some .int), Cond.fieldLink RX0 40 "Voidrent$Lease" "from" "I", Cond.fieldLink RX0 9 "Voidrent$Lease" "free" "I", Cond.fieldLink RX0 43 "Voidrent$Lease" "to" "I", Cond.fieldLink RX0 34 "Voidrent$Lease" "steps" "I", Cond.fieldLink RX0 27 "Voidrent$Lease" "stepDays" "[I", Cond.fieldLink RX0 15 "Voidrent$Lease" "every" "I", Cond.methodLink RX0 61 yX0_sooner, Cond.static yX0_sooner, Cond.code yX0_sooner cX0_sooner 3 (some .int), Cond.methodLink RX0 65 yX0_reviewsUpTo, Cond.instanceMethod yX0_reviewsUpTo, Cond.selects RX0 yX0_reviewsUpTo yX0_reviewsUpTo, Cond.code yX0_reviewsUpTo cX0_reviewsUpTo 2 (some .int), Cond.methodLink RX1 86 yX1_rentFor, Cond.instanceMethod yX1_rentFor, Cond.selects RX1 yX1_rentFor yX1_rentFor, Cond.code yX1_rentFor cX1_rentFor 5 (some .int), Cond.fieldLink RX1 13 "Voidrent" "indices" "[I", Cond.methodLink RX1 93 Lib.Math.max.name]
def wsL_bill_r3 : List Cond := [Cond.static Lib.Math.max.name, Cond.code Lib.Math.max.name Lib.Math.max.code 2 (some .int), Cond.methodLink RX1 104 yX0_runsOn, Cond.instanceMethod yX0_runsOn, Cond.selects RX0 yX0_runsOn yX0_runsOn, Cond.code yX0_runsOn cX0_runsOn 2 (some .boolean), Cond.methodLink RX1 141 yX0_isFreeOn, Cond.instanceMethod yX0_isFreeOn, Cond.selects RX0 yX0_isFreeOn yX0_isFreeOn, Cond.code yX0_isFreeOn cX0_isFreeOn 2 (some .boolean), Cond.methodLink RX1 144 yX0_agreedOn, Cond.instanceMethod yX0_agreedOn, Cond.selects RX0 yX0_agreedOn yX0_agreedOn, Cond.code yX0_agreedOn cX0_agreedOn 5 (some .int), Cond.fieldLink RX0 46 "Voidrent$Lease" "firstRent" "I", Cond.fieldLink RX0 31 "Voidrent$Lease" "stepRents" "[I", Cond.methodLink RX1 147 yX1_valueAt, Cond.static yX1_valueAt, Cond.code yX1_valueAt cX1_valueAt 2 (some .int), Cond.methodLink RX1 151 yX1_highestIndex, Cond.instanceMethod yX1_highestIndex, Cond.selects RX1 yX1_highestIndex yX1_highestIndex, Cond.code yX1_highestIndex cX1_highestIndex 7 (some .int), Cond.methodLink RX1 154 yX0_reviewsUpTo]
def wsL_bill : List Cond := .codeWith yL_bill cL_bill 5 (some .int) [(0, 10, 13, 13)] :: ((wsL_bill_r1 ++ (wsL_bill_r2 ++ wsL_bill_r3)) ++ wsX10 ++ wsX00 ++ (vx_atS RX1 130 "java/lang/IndexOutOfBoundsException" ["java/lang/RuntimeException", "java/lang/Exception"]).filter goodWord)
def wsL_billByDays_r1 : List Cond := [Cond.classLink RL 13 "java/lang/IndexOutOfBoundsException", Cond.methodLink RL 62 yX1_billByDays, Cond.instanceMethod yX1_billByDays, Cond.selects RX1 yX1_billByDays yX1_billByDays, Cond.initialized RX1, Cond.code yX1_billByDays cX1_billByDays 7 (some .int), Cond.methodLink RX1 55 yX1_find, Cond.instanceMethod yX1_find, Cond.selects RX1 yX1_find yX1_find, Cond.code yX1_find cX1_find 3 (some (.object "Voidrent$Lease")), Cond.classLink RX1 126 "java/lang/IndexOutOfBoundsException", Cond.initialized "java/lang/IndexOutOfBoundsException", Cond.fieldLink RX1 21 "Voidrent" "roll" "[LVoidrent$Lease;", Cond.methodLink RX1 29 yX1_checkNumber, Cond.static yX1_checkNumber, Cond.code yX1_checkNumber cX1_checkNumber 2 none, Cond.methodLink RX1 86 yX1_rentFor, Cond.instanceMethod yX1_rentFor, Cond.selects RX1 yX1_rentFor yX1_rentFor, Cond.code yX1_rentFor cX1_rentFor 5 (some .int), Cond.fieldLink RX1 13 "Voidrent" "indices" "[I", Cond.methodLink RX1 93 Lib.Math.max.name, Cond.static Lib.Math.max.name, Cond.initialized "java/lang/Math"]
def wsL_billByDays_r2 : List Cond := [Cond.code Lib.Math.max.name Lib.Math.max.code 2 (some .int), Cond.methodLink RX1 104 yX0_runsOn, Cond.instanceMethod yX0_runsOn, Cond.selects RX0 yX0_runsOn yX0_runsOn, Cond.initialized RX0, Cond.code yX0_runsOn cX0_runsOn 2 (some .boolean), Cond.fieldLink RX0 40 "Voidrent$Lease" "from" "I", Cond.fieldLink RX0 43 "Voidrent$Lease" "to" "I", Cond.methodLink RX1 141 yX0_isFreeOn, Cond.instanceMethod yX0_isFreeOn, Cond.selects RX0 yX0_isFreeOn yX0_isFreeOn, Cond.code yX0_isFreeOn cX0_isFreeOn 2 (some .boolean), Cond.fieldLink RX0 9 "Voidrent$Lease" "free" "I", Cond.methodLink RX1 144 yX0_agreedOn, Cond.instanceMethod yX0_agreedOn, Cond.selects RX0 yX0_agreedOn yX0_agreedOn, Cond.code yX0_agreedOn cX0_agreedOn 5 (some .int), Cond.fieldLink RX0 46 "Voidrent$Lease" "firstRent" "I", Cond.fieldLink RX0 34 "Voidrent$Lease" "steps" "I", Cond.fieldLink RX0 27 "Voidrent$Lease" "stepDays" "[I", Cond.fieldLink RX0 31 "Voidrent$Lease" "stepRents" "[I", Cond.methodLink RX1 147 yX1_valueAt, Cond.static yX1_valueAt, Cond.code yX1_valueAt cX1_valueAt 2 (some .int)]
def wsL_billByDays_r3 : List Cond := [Cond.methodLink RX1 151 yX1_highestIndex, Cond.instanceMethod yX1_highestIndex, Cond.selects RX1 yX1_highestIndex yX1_highestIndex, Cond.code yX1_highestIndex cX1_highestIndex 7 (some .int), Cond.methodLink RX1 154 yX0_reviewsUpTo, Cond.instanceMethod yX0_reviewsUpTo, Cond.selects RX0 yX0_reviewsUpTo yX0_reviewsUpTo, Cond.code yX0_reviewsUpTo cX0_reviewsUpTo 2 (some .int), Cond.fieldLink RX0 15 "Voidrent$Lease" "every" "I"]
def wsL_billByDays : List Cond := .codeWith yL_billByDays cL_billByDays 5 (some .int) [(0, 10, 13, 13)] :: ((wsL_billByDays_r1 ++ (wsL_billByDays_r2 ++ wsL_billByDays_r3)) ++ wsX10 ++ wsX00 ++ (vx_atS RX1 130 "java/lang/IndexOutOfBoundsException" ["java/lang/RuntimeException", "java/lang/Exception"]).filter goodWord)
def wsL_bills_r1 : List Cond := [Cond.classLink RL 13 "java/lang/IndexOutOfBoundsException", Cond.classLink RL 15 "java/lang/IllegalArgumentException", Cond.methodLink RL 65 yX1_bills, Cond.instanceMethod yX1_bills, Cond.selects RX1 yX1_bills yX1_bills, Cond.initialized RX1, Cond.code yX1_bills cX1_bills 8 (some .long), Cond.methodLink RX1 55 yX1_find, Cond.instanceMethod yX1_find, Cond.selects RX1 yX1_find yX1_find, Cond.code yX1_find cX1_find 3 (some (.object "Voidrent$Lease")), Cond.classLink RX1 126 "java/lang/IndexOutOfBoundsException", Cond.initialized "java/lang/IndexOutOfBoundsException", Cond.fieldLink RX1 21 "Voidrent" "roll" "[LVoidrent$Lease;", Cond.methodLink RX1 29 yX1_checkNumber, Cond.static yX1_checkNumber, Cond.code yX1_checkNumber cX1_checkNumber 2 none, Cond.methodLink RX1 33 yX1_checkRange, Cond.static yX1_checkRange, Cond.code yX1_checkRange cX1_checkRange 3 none, Cond.classLink RX1 131 "java/lang/IllegalArgumentException", Cond.initialized "java/lang/IllegalArgumentException", Cond.methodLink RX1 108 yX1_billFor, Cond.instanceMethod yX1_billFor]
def wsL_bills_r2 : List Cond := [Cond.selects RX1 yX1_billFor yX1_billFor, Cond.code yX1_billFor cX1_billFor 8 (some .int), Cond.methodLink RX1 157 Lib.Math.min.name, Cond.static Lib.Math.min.name, Cond.initialized "java/lang/Math", Cond.code Lib.Math.min.name Lib.Math.min.code 2 (some .int), Cond.methodLink RX1 111 yX0_nextTurn, Cond.instanceMethod yX0_nextTurn, Cond.selects RX0 yX0_nextTurn yX0_nextTurn, Cond.initialized RX0, Cond.code yX0_nextTurn cX0_nextTurn 4 (some .int), Cond.fieldLink RX0 40 "Voidrent$Lease" "from" "I", Cond.fieldLink RX0 9 "Voidrent$Lease" "free" "I", Cond.fieldLink RX0 43 "Voidrent$Lease" "to" "I", Cond.fieldLink RX0 34 "Voidrent$Lease" "steps" "I", Cond.fieldLink RX0 27 "Voidrent$Lease" "stepDays" "[I", Cond.fieldLink RX0 15 "Voidrent$Lease" "every" "I", Cond.methodLink RX0 61 yX0_sooner, Cond.static yX0_sooner, Cond.code yX0_sooner cX0_sooner 3 (some .int), Cond.methodLink RX0 65 yX0_reviewsUpTo, Cond.instanceMethod yX0_reviewsUpTo, Cond.selects RX0 yX0_reviewsUpTo yX0_reviewsUpTo, Cond.code yX0_reviewsUpTo cX0_reviewsUpTo 2 (some .int)]
def wsL_bills_r3 : List Cond := [Cond.methodLink RX1 86 yX1_rentFor, Cond.instanceMethod yX1_rentFor, Cond.selects RX1 yX1_rentFor yX1_rentFor, Cond.code yX1_rentFor cX1_rentFor 5 (some .int), Cond.fieldLink RX1 13 "Voidrent" "indices" "[I", Cond.methodLink RX1 93 Lib.Math.max.name, Cond.static Lib.Math.max.name, Cond.code Lib.Math.max.name Lib.Math.max.code 2 (some .int), Cond.methodLink RX1 104 yX0_runsOn, Cond.instanceMethod yX0_runsOn, Cond.selects RX0 yX0_runsOn yX0_runsOn, Cond.code yX0_runsOn cX0_runsOn 2 (some .boolean), Cond.methodLink RX1 141 yX0_isFreeOn, Cond.instanceMethod yX0_isFreeOn, Cond.selects RX0 yX0_isFreeOn yX0_isFreeOn, Cond.code yX0_isFreeOn cX0_isFreeOn 2 (some .boolean), Cond.methodLink RX1 144 yX0_agreedOn, Cond.instanceMethod yX0_agreedOn, Cond.selects RX0 yX0_agreedOn yX0_agreedOn, Cond.code yX0_agreedOn cX0_agreedOn 5 (some .int), Cond.fieldLink RX0 46 "Voidrent$Lease" "firstRent" "I", Cond.fieldLink RX0 31 "Voidrent$Lease" "stepRents" "[I", Cond.methodLink RX1 147 yX1_valueAt, Cond.static yX1_valueAt]
def wsL_bills_r4 : List Cond := [Cond.code yX1_valueAt cX1_valueAt 2 (some .int), Cond.methodLink RX1 151 yX1_highestIndex, Cond.instanceMethod yX1_highestIndex, Cond.selects RX1 yX1_highestIndex yX1_highestIndex, Cond.code yX1_highestIndex cX1_highestIndex 7 (some .int), Cond.methodLink RX1 154 yX0_reviewsUpTo]
def wsL_bills : List Cond := .codeWith yL_bills cL_bills 6 (some .int) [(0, 11, 14, 13), (0, 11, 18, 15)] :: ((wsL_bills_r1 ++ (wsL_bills_r2 ++ (wsL_bills_r3 ++ wsL_bills_r4))) ++ wsX10 ++ wsX00 ++ (vx_atS RX1 130 "java/lang/IndexOutOfBoundsException" ["java/lang/RuntimeException", "java/lang/Exception"]).filter goodWord ++ (vx_atS RX1 135 "java/lang/IllegalArgumentException" ["java/lang/RuntimeException", "java/lang/Exception"]).filter goodWord)
def wsL_nextChange_r1 : List Cond := [Cond.classLink RL 13 "java/lang/IndexOutOfBoundsException", Cond.methodLink RL 69 yX1_nextChange, Cond.instanceMethod yX1_nextChange, Cond.selects RX1 yX1_nextChange yX1_nextChange, Cond.initialized RX1, Cond.code yX1_nextChange cX1_nextChange 6 (some .int), Cond.methodLink RX1 55 yX1_find, Cond.instanceMethod yX1_find, Cond.selects RX1 yX1_find yX1_find, Cond.code yX1_find cX1_find 3 (some (.object "Voidrent$Lease")), Cond.classLink RX1 126 "java/lang/IndexOutOfBoundsException", Cond.initialized "java/lang/IndexOutOfBoundsException", Cond.fieldLink RX1 21 "Voidrent" "roll" "[LVoidrent$Lease;", Cond.methodLink RX1 29 yX1_checkNumber, Cond.static yX1_checkNumber, Cond.code yX1_checkNumber cX1_checkNumber 2 none, Cond.methodLink RX1 111 yX0_nextTurn, Cond.instanceMethod yX0_nextTurn, Cond.selects RX0 yX0_nextTurn yX0_nextTurn, Cond.initialized RX0, Cond.code yX0_nextTurn cX0_nextTurn 4 (some .int), Cond.fieldLink RX0 40 "Voidrent$Lease" "from" "I", Cond.fieldLink RX0 9 "Voidrent$Lease" "free" "I", Cond.fieldLink RX0 43 "Voidrent$Lease" "to" "I"]
def wsL_nextChange_r2 : List Cond := [Cond.fieldLink RX0 34 "Voidrent$Lease" "steps" "I", Cond.fieldLink RX0 27 "Voidrent$Lease" "stepDays" "[I", Cond.fieldLink RX0 15 "Voidrent$Lease" "every" "I", Cond.methodLink RX0 61 yX0_sooner, Cond.static yX0_sooner, Cond.code yX0_sooner cX0_sooner 3 (some .int), Cond.methodLink RX0 65 yX0_reviewsUpTo, Cond.instanceMethod yX0_reviewsUpTo, Cond.selects RX0 yX0_reviewsUpTo yX0_reviewsUpTo, Cond.code yX0_reviewsUpTo cX0_reviewsUpTo 2 (some .int), Cond.methodLink RX1 86 yX1_rentFor, Cond.instanceMethod yX1_rentFor, Cond.selects RX1 yX1_rentFor yX1_rentFor, Cond.code yX1_rentFor cX1_rentFor 5 (some .int), Cond.fieldLink RX1 13 "Voidrent" "indices" "[I", Cond.methodLink RX1 93 Lib.Math.max.name, Cond.static Lib.Math.max.name, Cond.initialized "java/lang/Math", Cond.code Lib.Math.max.name Lib.Math.max.code 2 (some .int), Cond.methodLink RX1 104 yX0_runsOn, Cond.instanceMethod yX0_runsOn, Cond.selects RX0 yX0_runsOn yX0_runsOn, Cond.code yX0_runsOn cX0_runsOn 2 (some .boolean), Cond.methodLink RX1 141 yX0_isFreeOn]
def wsL_nextChange_r3 : List Cond := [Cond.instanceMethod yX0_isFreeOn, Cond.selects RX0 yX0_isFreeOn yX0_isFreeOn, Cond.code yX0_isFreeOn cX0_isFreeOn 2 (some .boolean), Cond.methodLink RX1 144 yX0_agreedOn, Cond.instanceMethod yX0_agreedOn, Cond.selects RX0 yX0_agreedOn yX0_agreedOn, Cond.code yX0_agreedOn cX0_agreedOn 5 (some .int), Cond.fieldLink RX0 46 "Voidrent$Lease" "firstRent" "I", Cond.fieldLink RX0 31 "Voidrent$Lease" "stepRents" "[I", Cond.methodLink RX1 147 yX1_valueAt, Cond.static yX1_valueAt, Cond.code yX1_valueAt cX1_valueAt 2 (some .int), Cond.methodLink RX1 151 yX1_highestIndex, Cond.instanceMethod yX1_highestIndex, Cond.selects RX1 yX1_highestIndex yX1_highestIndex, Cond.code yX1_highestIndex cX1_highestIndex 7 (some .int), Cond.methodLink RX1 154 yX0_reviewsUpTo]
def wsL_nextChange : List Cond := .codeWith yL_nextChange cL_nextChange 5 (some .int) [(0, 10, 13, 13)] :: ((wsL_nextChange_r1 ++ (wsL_nextChange_r2 ++ wsL_nextChange_r3)) ++ wsX10 ++ wsX00 ++ (vx_atS RX1 130 "java/lang/IndexOutOfBoundsException" ["java/lang/RuntimeException", "java/lang/Exception"]).filter goodWord)
def wsL_voids_r1 : List Cond := [Cond.classLink RL 13 "java/lang/IndexOutOfBoundsException", Cond.methodLink RL 72 yX1_voids, Cond.instanceMethod yX1_voids, Cond.selects RX1 yX1_voids yX1_voids, Cond.initialized RX1, Cond.code yX1_voids cX1_voids 4 (some .int), Cond.fieldLink RX1 9 "Voidrent" "areas" "[I", Cond.methodLink RX1 29 yX1_checkNumber, Cond.static yX1_checkNumber, Cond.code yX1_checkNumber cX1_checkNumber 2 none, Cond.classLink RX1 126 "java/lang/IndexOutOfBoundsException", Cond.initialized "java/lang/IndexOutOfBoundsException", Cond.methodLink RX1 46 yX1_daysLet, Cond.instanceMethod yX1_daysLet, Cond.selects RX1 yX1_daysLet yX1_daysLet, Cond.code yX1_daysLet cX1_daysLet 9 (some .int), Cond.fieldLink RX1 21 "Voidrent" "roll" "[LVoidrent$Lease;", Cond.methodLink RX1 138 yX0_daysWithin, Cond.instanceMethod yX0_daysWithin, Cond.selects RX0 yX0_daysWithin yX0_daysWithin, Cond.initialized RX0, Cond.code yX0_daysWithin cX0_daysWithin 3 (some .int), Cond.fieldLink RX0 43 "Voidrent$Lease" "to" "I", Cond.methodLink RX0 49 Lib.Math.min.name]
def wsL_voids_r2 : List Cond := [Cond.static Lib.Math.min.name, Cond.initialized "java/lang/Math", Cond.code Lib.Math.min.name Lib.Math.min.code 2 (some .int), Cond.fieldLink RX0 40 "Voidrent$Lease" "from" "I", Cond.methodLink RX0 55 Lib.Math.max.name, Cond.static Lib.Math.max.name, Cond.code Lib.Math.max.name Lib.Math.max.code 2 (some .int)]
def wsL_voids : List Cond := .codeWith yL_voids cL_voids 5 (some .int) [(0, 10, 13, 13)] :: ((wsL_voids_r1 ++ wsL_voids_r2) ++ wsX10 ++ wsX00 ++ (vx_atS RX1 130 "java/lang/IndexOutOfBoundsException" ["java/lang/RuntimeException", "java/lang/Exception"]).filter goodWord)
def wsL_part_r1 : List Cond := [Cond.classLink RL 13 "java/lang/IndexOutOfBoundsException", Cond.methodLink RL 75 yX1_part, Cond.instanceMethod yX1_part, Cond.selects RX1 yX1_part yX1_part, Cond.initialized RX1, Cond.code yX1_part cX1_part 4 (some .int), Cond.fieldLink RX1 16 "Voidrent" "costs" "[I", Cond.methodLink RX1 55 yX1_find, Cond.instanceMethod yX1_find, Cond.selects RX1 yX1_find yX1_find, Cond.code yX1_find cX1_find 3 (some (.object "Voidrent$Lease")), Cond.classLink RX1 126 "java/lang/IndexOutOfBoundsException", Cond.initialized "java/lang/IndexOutOfBoundsException", Cond.fieldLink RX1 21 "Voidrent" "roll" "[LVoidrent$Lease;", Cond.methodLink RX1 29 yX1_checkNumber, Cond.static yX1_checkNumber, Cond.code yX1_checkNumber cX1_checkNumber 2 none, Cond.methodLink RX1 115 yX1_partOf, Cond.instanceMethod yX1_partOf, Cond.selects RX1 yX1_partOf yX1_partOf, Cond.code yX1_partOf cX1_partOf 8 (some .int), Cond.fieldLink RX1 9 "Voidrent" "areas" "[I", Cond.constantLong RX1 160 (360), Cond.methodLink RX1 157 Lib.Math.min.name]
def wsL_part_r2 : List Cond := [Cond.static Lib.Math.min.name, Cond.initialized "java/lang/Math", Cond.code Lib.Math.min.name Lib.Math.min.code 2 (some .int), Cond.methodLink RX1 122 yX1_allAreas, Cond.instanceMethod yX1_allAreas, Cond.selects RX1 yX1_allAreas yX1_allAreas, Cond.code yX1_allAreas cX1_allAreas 6 (some .int), Cond.methodLink RX1 119 yX0_daysIn, Cond.instanceMethod yX0_daysIn, Cond.selects RX0 yX0_daysIn yX0_daysIn, Cond.initialized RX0, Cond.code yX0_daysIn cX0_daysIn 3 (some .int), Cond.methodLink RX0 58 yX0_daysWithin, Cond.instanceMethod yX0_daysWithin, Cond.selects RX0 yX0_daysWithin yX0_daysWithin, Cond.code yX0_daysWithin cX0_daysWithin 3 (some .int), Cond.fieldLink RX0 43 "Voidrent$Lease" "to" "I", Cond.methodLink RX0 49 Lib.Math.min.name, Cond.fieldLink RX0 40 "Voidrent$Lease" "from" "I", Cond.methodLink RX0 55 Lib.Math.max.name, Cond.static Lib.Math.max.name, Cond.code Lib.Math.max.name Lib.Math.max.code 2 (some .int), Cond.methodLink RX1 147 yX1_valueAt, Cond.static yX1_valueAt]
def wsL_part_r3 : List Cond := [Cond.code yX1_valueAt cX1_valueAt 2 (some .int)]
def wsL_part : List Cond := .codeWith yL_part cL_part 5 (some .int) [(0, 10, 13, 13)] :: ((wsL_part_r1 ++ (wsL_part_r2 ++ wsL_part_r3)) ++ wsX10 ++ wsX00 ++ (vx_atS RX1 130 "java/lang/IndexOutOfBoundsException" ["java/lang/RuntimeException", "java/lang/Exception"]).filter goodWord)
def wsL_owners_r1 : List Cond := [Cond.classLink RL 13 "java/lang/IndexOutOfBoundsException", Cond.methodLink RL 78 yX1_owners, Cond.instanceMethod yX1_owners, Cond.selects RX1 yX1_owners yX1_owners, Cond.initialized RX1, Cond.code yX1_owners cX1_owners 7 (some .int), Cond.fieldLink RX1 16 "Voidrent" "costs" "[I", Cond.fieldLink RX1 21 "Voidrent" "roll" "[LVoidrent$Lease;", Cond.methodLink RX1 29 yX1_checkNumber, Cond.static yX1_checkNumber, Cond.code yX1_checkNumber cX1_checkNumber 2 none, Cond.classLink RX1 126 "java/lang/IndexOutOfBoundsException", Cond.initialized "java/lang/IndexOutOfBoundsException", Cond.methodLink RX1 115 yX1_partOf, Cond.instanceMethod yX1_partOf, Cond.selects RX1 yX1_partOf yX1_partOf, Cond.code yX1_partOf cX1_partOf 8 (some .int), Cond.fieldLink RX1 9 "Voidrent" "areas" "[I", Cond.constantLong RX1 160 (360), Cond.methodLink RX1 157 Lib.Math.min.name, Cond.static Lib.Math.min.name, Cond.initialized "java/lang/Math", Cond.code Lib.Math.min.name Lib.Math.min.code 2 (some .int), Cond.methodLink RX1 122 yX1_allAreas]
def wsL_owners_r2 : List Cond := [Cond.instanceMethod yX1_allAreas, Cond.selects RX1 yX1_allAreas yX1_allAreas, Cond.code yX1_allAreas cX1_allAreas 6 (some .int), Cond.methodLink RX1 119 yX0_daysIn, Cond.instanceMethod yX0_daysIn, Cond.selects RX0 yX0_daysIn yX0_daysIn, Cond.initialized RX0, Cond.code yX0_daysIn cX0_daysIn 3 (some .int), Cond.methodLink RX0 58 yX0_daysWithin, Cond.instanceMethod yX0_daysWithin, Cond.selects RX0 yX0_daysWithin yX0_daysWithin, Cond.code yX0_daysWithin cX0_daysWithin 3 (some .int), Cond.fieldLink RX0 43 "Voidrent$Lease" "to" "I", Cond.methodLink RX0 49 Lib.Math.min.name, Cond.fieldLink RX0 40 "Voidrent$Lease" "from" "I", Cond.methodLink RX0 55 Lib.Math.max.name, Cond.static Lib.Math.max.name, Cond.code Lib.Math.max.name Lib.Math.max.code 2 (some .int), Cond.methodLink RX1 147 yX1_valueAt, Cond.static yX1_valueAt, Cond.code yX1_valueAt cX1_valueAt 2 (some .int)]
def wsL_owners : List Cond := .codeWith yL_owners cL_owners 4 (some .int) [(0, 9, 12, 13)] :: ((wsL_owners_r1 ++ wsL_owners_r2) ++ wsX10 ++ wsX00 ++ (vx_atS RX1 130 "java/lang/IndexOutOfBoundsException" ["java/lang/RuntimeException", "java/lang/Exception"]).filter goodWord)
def wsL_balance_r1 : List Cond := [Cond.classLink RL 13 "java/lang/IndexOutOfBoundsException", Cond.methodLink RL 81 yX1_balance, Cond.instanceMethod yX1_balance, Cond.selects RX1 yX1_balance yX1_balance, Cond.initialized RX1, Cond.code yX1_balance cX1_balance 5 (some .int), Cond.fieldLink RX1 16 "Voidrent" "costs" "[I", Cond.methodLink RX1 55 yX1_find, Cond.instanceMethod yX1_find, Cond.selects RX1 yX1_find yX1_find, Cond.code yX1_find cX1_find 3 (some (.object "Voidrent$Lease")), Cond.classLink RX1 126 "java/lang/IndexOutOfBoundsException", Cond.initialized "java/lang/IndexOutOfBoundsException", Cond.fieldLink RX1 21 "Voidrent" "roll" "[LVoidrent$Lease;", Cond.methodLink RX1 29 yX1_checkNumber, Cond.static yX1_checkNumber, Cond.code yX1_checkNumber cX1_checkNumber 2 none, Cond.methodLink RX1 119 yX0_daysIn, Cond.instanceMethod yX0_daysIn, Cond.selects RX0 yX0_daysIn yX0_daysIn, Cond.initialized RX0, Cond.code yX0_daysIn cX0_daysIn 3 (some .int), Cond.methodLink RX0 58 yX0_daysWithin, Cond.instanceMethod yX0_daysWithin]
def wsL_balance_r2 : List Cond := [Cond.selects RX0 yX0_daysWithin yX0_daysWithin, Cond.code yX0_daysWithin cX0_daysWithin 3 (some .int), Cond.fieldLink RX0 43 "Voidrent$Lease" "to" "I", Cond.methodLink RX0 49 Lib.Math.min.name, Cond.static Lib.Math.min.name, Cond.initialized "java/lang/Math", Cond.code Lib.Math.min.name Lib.Math.min.code 2 (some .int), Cond.fieldLink RX0 40 "Voidrent$Lease" "from" "I", Cond.methodLink RX0 55 Lib.Math.max.name, Cond.static Lib.Math.max.name, Cond.code Lib.Math.max.name Lib.Math.max.code 2 (some .int), Cond.methodLink RX1 115 yX1_partOf, Cond.instanceMethod yX1_partOf, Cond.selects RX1 yX1_partOf yX1_partOf, Cond.code yX1_partOf cX1_partOf 8 (some .int), Cond.fieldLink RX1 9 "Voidrent" "areas" "[I", Cond.constantLong RX1 160 (360), Cond.methodLink RX1 157 Lib.Math.min.name, Cond.methodLink RX1 122 yX1_allAreas, Cond.instanceMethod yX1_allAreas, Cond.selects RX1 yX1_allAreas yX1_allAreas, Cond.code yX1_allAreas cX1_allAreas 6 (some .int), Cond.methodLink RX1 147 yX1_valueAt, Cond.static yX1_valueAt]
def wsL_balance_r3 : List Cond := [Cond.code yX1_valueAt cX1_valueAt 2 (some .int)]
def wsL_balance : List Cond := .codeWith yL_balance cL_balance 5 (some .int) [(0, 10, 13, 13)] :: ((wsL_balance_r1 ++ (wsL_balance_r2 ++ wsL_balance_r3)) ++ wsX10 ++ wsX00 ++ (vx_atS RX1 130 "java/lang/IndexOutOfBoundsException" ["java/lang/RuntimeException", "java/lang/Exception"]).filter goodWord)
def wsL_share : List Cond := .codeWith yL_share cL_share 4 (some .int) [(0, 8, 11, 13)] :: ([.classLink RL 13 "java/lang/IndexOutOfBoundsException", .methodLink RL 84 yX1_share, .instanceMethod yX1_share, .selects RX1 yX1_share yX1_share, .initialized RX1, .code yX1_share cX1_share 3 (some .double), .fieldLink RX1 9 "Voidrent" "areas" "[I", .methodLink RX1 29 yX1_checkNumber, .static yX1_checkNumber, .code yX1_checkNumber cX1_checkNumber 2 none, .classLink RX1 126 "java/lang/IndexOutOfBoundsException", .initialized "java/lang/IndexOutOfBoundsException", .methodLink RX1 122 yX1_allAreas, .instanceMethod yX1_allAreas, .selects RX1 yX1_allAreas yX1_allAreas, .code yX1_allAreas cX1_allAreas 6 (some .int)] ++ wsX10 ++ (vx_atS RX1 130 "java/lang/IndexOutOfBoundsException" ["java/lang/RuntimeException", "java/lang/Exception"]).filter goodWord)
def wsL_law0_r1 : List Cond := [Cond.classLink RL 8 RX1, Cond.instantiable RX1 5, Cond.initialized RX1, Cond.classLink RL 89 RX2, Cond.instantiable RX2 17, Cond.initialized RX2, Cond.arrayClass .long, Cond.arrayClass .double, Cond.methodLink RL 88 yX1_init, Cond.instanceMethod yX1_init, Cond.code yX1_init cX1_init 2 none, Cond.methodLink RX1 1 objectInit, Cond.instanceMethod objectInit, Cond.code objectInit ⟨#[0xb1]⟩ 1 none, Cond.arrayClass .int, Cond.fieldLink RX1 9 "Voidrent" "areas" "[I", Cond.fieldLink RX1 13 "Voidrent" "indices" "[I", Cond.fieldLink RX1 16 "Voidrent" "costs" "[I", Cond.classLink RX1 19 RX0, Cond.fieldLink RX1 21 "Voidrent" "roll" "[LVoidrent$Lease;", Cond.fieldLink RX1 25 "Voidrent" "count" "I", Cond.methodLink RL 91 yX2_init, Cond.instanceMethod yX2_init, Cond.code yX2_init cX2_init 2 none]
def wsL_law0_r2 : List Cond := [Cond.methodLink RX2 1 objectInit, Cond.fieldLink RX2 7 "VoidrentModel" "areas" "[I", Cond.fieldLink RX2 13 "VoidrentModel" "indices" "[I", Cond.fieldLink RX2 16 "VoidrentModel" "costs" "[I", Cond.fieldLink RX2 19 "VoidrentModel" "units" "[I", Cond.fieldLink RX2 22 "VoidrentModel" "froms" "[I", Cond.fieldLink RX2 25 "VoidrentModel" "tos" "[I", Cond.fieldLink RX2 28 "VoidrentModel" "rents" "[I", Cond.fieldLink RX2 31 "VoidrentModel" "frees" "[I", Cond.fieldLink RX2 34 "VoidrentModel" "everies" "[I", Cond.fieldLink RX2 37 "VoidrentModel" "caps" "[I", Cond.fieldLink RX2 40 "VoidrentModel" "prepaids" "[I", Cond.fieldLink RX2 43 "VoidrentModel" "deposits" "[I", Cond.fieldLink RX2 46 "VoidrentModel" "steps" "[I", Cond.fieldLink RX2 49 "VoidrentModel" "stepDays" "[I", Cond.fieldLink RX2 52 "VoidrentModel" "stepRents" "[I", Cond.methodLink RL 92 yL_setArea, Cond.static yL_setArea, Cond.initialized RL, Cond.codeWith yL_setArea cL_setArea 5 (some .int) [(0, 10, 13, 13), (0, 10, 17, 15)], Cond.classLink RL 13 "java/lang/IndexOutOfBoundsException", Cond.classLink RL 15 "java/lang/IllegalArgumentException", Cond.methodLink RL 7 yX1_setArea, Cond.instanceMethod yX1_setArea]
def wsL_law0_r3 : List Cond := [Cond.selects RX1 yX1_setArea yX1_setArea, Cond.code yX1_setArea cX1_setArea 4 (some .int), Cond.methodLink RX1 29 yX1_checkNumber, Cond.static yX1_checkNumber, Cond.code yX1_checkNumber cX1_checkNumber 2 none, Cond.classLink RX1 126 "java/lang/IndexOutOfBoundsException", Cond.initialized "java/lang/IndexOutOfBoundsException", Cond.methodLink RX1 33 yX1_checkRange, Cond.static yX1_checkRange, Cond.code yX1_checkRange cX1_checkRange 3 none, Cond.classLink RX1 131 "java/lang/IllegalArgumentException", Cond.initialized "java/lang/IllegalArgumentException", Cond.methodLink RL 97 yX2_setArea, Cond.instanceMethod yX2_setArea, Cond.selects RX2 yX2_setArea yX2_setArea, Cond.code yX2_setArea cX2_setArea 4 (some .int), Cond.methodLink RX2 62 yX2_isIn, Cond.static yX2_isIn, Cond.code yX2_isIn cX2_isIn 3 (some .boolean), Cond.methodLink RX2 66 yX2_holds, Cond.instanceMethod yX2_holds, Cond.selects RX2 yX2_holds yX2_holds, Cond.code yX2_holds cX2_holds 2 (some .boolean), Cond.fieldLink RX2 55 "VoidrentModel" "thrown" "I"]
def wsL_law0_r4 : List Cond := [Cond.methodLink RL 98 yX2_thrown, Cond.instanceMethod yX2_thrown, Cond.selects RX2 yX2_thrown yX2_thrown, Cond.code yX2_thrown cX2_thrown 1 (some .int), Cond.methodLink RL 102 yL_setIndex, Cond.static yL_setIndex, Cond.codeWith yL_setIndex cL_setIndex 5 (some .int) [(0, 10, 13, 13), (0, 10, 17, 15)], Cond.methodLink RL 17 yX1_setIndex, Cond.instanceMethod yX1_setIndex, Cond.selects RX1 yX1_setIndex yX1_setIndex, Cond.code yX1_setIndex cX1_setIndex 4 (some .int), Cond.methodLink RL 104 yX2_setIndex, Cond.instanceMethod yX2_setIndex, Cond.selects RX2 yX2_setIndex yX2_setIndex, Cond.code yX2_setIndex cX2_setIndex 4 (some .int), Cond.methodLink RL 105 yL_setCost, Cond.static yL_setCost, Cond.codeWith yL_setCost cL_setCost 5 (some .int) [(0, 10, 13, 13), (0, 10, 17, 15)], Cond.methodLink RL 20 yX1_setCost, Cond.instanceMethod yX1_setCost, Cond.selects RX1 yX1_setCost yX1_setCost, Cond.code yX1_setCost cX1_setCost 4 (some .int), Cond.constant RX1 37 (999999), Cond.methodLink RL 107 yX2_setCost]
def wsL_law0_r5 : List Cond := [Cond.instanceMethod yX2_setCost, Cond.selects RX2 yX2_setCost yX2_setCost, Cond.code yX2_setCost cX2_setCost 4 (some .int), Cond.constant RX2 70 (999999), Cond.methodLink RL 108 yL_let, Cond.static yL_let, Cond.codeWith yL_let cL_let 7 (some .int) [(0, 14, 17, 13), (0, 14, 21, 15), (0, 14, 25, 27)], Cond.classLink RL 27 "java/lang/IllegalStateException", Cond.methodLink RL 23 yX1_let, Cond.instanceMethod yX1_let, Cond.selects RX1 yX1_let yX1_let, Cond.code yX1_let cX1_let 6 (some .int), Cond.classLink RX1 39 "java/lang/IllegalStateException", Cond.initialized "java/lang/IllegalStateException", Cond.constant RX1 38 (99999), Cond.instantiable RX0 12, Cond.initialized RX0, Cond.methodLink RX1 46 yX1_daysLet, Cond.instanceMethod yX1_daysLet, Cond.selects RX1 yX1_daysLet yX1_daysLet, Cond.code yX1_daysLet cX1_daysLet 9 (some .int), Cond.methodLink RX1 138 yX0_daysWithin, Cond.instanceMethod yX0_daysWithin, Cond.selects RX0 yX0_daysWithin yX0_daysWithin]
def wsL_law0_r6 : List Cond := [Cond.code yX0_daysWithin cX0_daysWithin 3 (some .int), Cond.fieldLink RX0 43 "Voidrent$Lease" "to" "I", Cond.methodLink RX0 49 Lib.Math.min.name, Cond.static Lib.Math.min.name, Cond.initialized "java/lang/Math", Cond.code Lib.Math.min.name Lib.Math.min.code 2 (some .int), Cond.fieldLink RX0 40 "Voidrent$Lease" "from" "I", Cond.methodLink RX0 55 Lib.Math.max.name, Cond.static Lib.Math.max.name, Cond.code Lib.Math.max.name Lib.Math.max.code 2 (some .int), Cond.methodLink RX1 52 yX0_init, Cond.instanceMethod yX0_init, Cond.code yX0_init cX0_init 5 none, Cond.methodLink RX0 3 objectInit, Cond.fieldLink RX0 9 "Voidrent$Lease" "free" "I", Cond.fieldLink RX0 15 "Voidrent$Lease" "every" "I", Cond.fieldLink RX0 18 "Voidrent$Lease" "cap" "I", Cond.fieldLink RX0 21 "Voidrent$Lease" "prepaid" "I", Cond.fieldLink RX0 24 "Voidrent$Lease" "deposit" "I", Cond.fieldLink RX0 27 "Voidrent$Lease" "stepDays" "[I", Cond.fieldLink RX0 31 "Voidrent$Lease" "stepRents" "[I", Cond.fieldLink RX0 34 "Voidrent$Lease" "steps" "I", Cond.fieldLink RX0 37 "Voidrent$Lease" "unit" "I", Cond.fieldLink RX0 46 "Voidrent$Lease" "firstRent" "I"]
def wsL_law0_r7 : List Cond := [Cond.methodLink RL 111 yX2_let, Cond.instanceMethod yX2_let, Cond.selects RX2 yX2_let yX2_let, Cond.code yX2_let cX2_let 7 (some .int), Cond.constant RX2 71 (99999), Cond.fieldLink RX2 59 "VoidrentModel" "leases" "I", Cond.methodLink RX2 72 yX2_isLet, Cond.instanceMethod yX2_isLet, Cond.selects RX2 yX2_isLet yX2_isLet, Cond.code yX2_isLet cX2_isLet 6 (some .boolean), Cond.methodLink RL 112 yL_end, Cond.static yL_end, Cond.codeWith yL_end cL_end 5 (some .int) [(0, 10, 13, 13), (0, 10, 17, 15)], Cond.methodLink RL 29 yX1_end, Cond.instanceMethod yX1_end, Cond.selects RX1 yX1_end yX1_end, Cond.code yX1_end cX1_end 5 (some .int), Cond.methodLink RX1 55 yX1_find, Cond.instanceMethod yX1_find, Cond.selects RX1 yX1_find yX1_find, Cond.code yX1_find cX1_find 3 (some (.object "Voidrent$Lease")), Cond.methodLink RL 114 yX2_end, Cond.instanceMethod yX2_end, Cond.selects RX2 yX2_end yX2_end]
def wsL_law0_r8 : List Cond := [Cond.code yX2_end cX2_end 5 (some .int), Cond.methodLink RX2 75 yX2_isLease, Cond.instanceMethod yX2_isLease, Cond.selects RX2 yX2_isLease yX2_isLease, Cond.code yX2_isLease cX2_isLease 2 (some .boolean), Cond.methodLink RL 115 yL_step, Cond.static yL_step, Cond.codeWith yL_step cL_step 6 (some .int) [(0, 12, 15, 13), (0, 12, 19, 15), (0, 12, 23, 27)], Cond.methodLink RL 32 yX1_step, Cond.instanceMethod yX1_step, Cond.selects RX1 yX1_step yX1_step, Cond.code yX1_step cX1_step 5 (some .int), Cond.methodLink RX1 65 yX0_putStep, Cond.instanceMethod yX0_putStep, Cond.selects RX0 yX0_putStep yX0_putStep, Cond.code yX0_putStep cX0_putStep 4 (some .boolean), Cond.methodLink RL 118 yX2_step, Cond.instanceMethod yX2_step, Cond.selects RX2 yX2_step yX2_step, Cond.code yX2_step cX2_step 7 (some .int), Cond.methodLink RX2 78 yX2_placeOf, Cond.instanceMethod yX2_placeOf, Cond.selects RX2 yX2_placeOf yX2_placeOf, Cond.code yX2_placeOf cX2_placeOf 4 (some .int)]
def wsL_law0_r9 : List Cond := [Cond.methodLink RL 119 yL_setTerms, Cond.static yL_setTerms, Cond.codeWith yL_setTerms cL_setTerms 5 (some .int) [(0, 7, 10, 13), (0, 7, 14, 15)], Cond.methodLink RL 36 yX1_setTerms, Cond.instanceMethod yX1_setTerms, Cond.selects RX1 yX1_setTerms yX1_setTerms, Cond.code yX1_setTerms cX1_setTerms 5 none, Cond.methodLink RL 122 yX2_setTerms, Cond.instanceMethod yX2_setTerms, Cond.selects RX2 yX2_setTerms yX2_setTerms, Cond.code yX2_setTerms cX2_setTerms 5 none, Cond.methodLink RL 123 yL_setService, Cond.static yL_setService, Cond.codeWith yL_setService cL_setService 5 (some .int) [(0, 7, 10, 13), (0, 7, 14, 15)], Cond.methodLink RL 40 yX1_setService, Cond.instanceMethod yX1_setService, Cond.selects RX1 yX1_setService yX1_setService, Cond.code yX1_setService cX1_setService 5 none, Cond.methodLink RL 125 yX2_setService, Cond.instanceMethod yX2_setService, Cond.selects RX2 yX2_setService yX2_setService, Cond.code yX2_setService cX2_setService 5 none, Cond.methodLink RL 126 yL_topUp, Cond.static yL_topUp]
def wsL_law0_r10 : List Cond := [Cond.codeWith yL_topUp cL_topUp 6 (some .int) [(0, 12, 15, 13), (0, 12, 19, 15)], Cond.methodLink RL 43 yX1_topUp, Cond.instanceMethod yX1_topUp, Cond.selects RX1 yX1_topUp yX1_topUp, Cond.code yX1_topUp cX1_topUp 6 (some .int), Cond.methodLink RX1 93 Lib.Math.max.name, Cond.methodLink RX1 86 yX1_rentFor, Cond.instanceMethod yX1_rentFor, Cond.selects RX1 yX1_rentFor yX1_rentFor, Cond.code yX1_rentFor cX1_rentFor 5 (some .int), Cond.methodLink RX1 104 yX0_runsOn, Cond.instanceMethod yX0_runsOn, Cond.selects RX0 yX0_runsOn yX0_runsOn, Cond.code yX0_runsOn cX0_runsOn 2 (some .boolean), Cond.methodLink RX1 141 yX0_isFreeOn, Cond.instanceMethod yX0_isFreeOn, Cond.selects RX0 yX0_isFreeOn yX0_isFreeOn, Cond.code yX0_isFreeOn cX0_isFreeOn 2 (some .boolean), Cond.methodLink RX1 144 yX0_agreedOn, Cond.instanceMethod yX0_agreedOn, Cond.selects RX0 yX0_agreedOn yX0_agreedOn, Cond.code yX0_agreedOn cX0_agreedOn 5 (some .int), Cond.methodLink RX1 147 yX1_valueAt, Cond.static yX1_valueAt]
def wsL_law0_r11 : List Cond := [Cond.code yX1_valueAt cX1_valueAt 2 (some .int), Cond.methodLink RX1 151 yX1_highestIndex, Cond.instanceMethod yX1_highestIndex, Cond.selects RX1 yX1_highestIndex yX1_highestIndex, Cond.code yX1_highestIndex cX1_highestIndex 7 (some .int), Cond.methodLink RX1 154 yX0_reviewsUpTo, Cond.instanceMethod yX0_reviewsUpTo, Cond.selects RX0 yX0_reviewsUpTo yX0_reviewsUpTo, Cond.code yX0_reviewsUpTo cX0_reviewsUpTo 2 (some .int), Cond.methodLink RL 128 yX2_topUp, Cond.instanceMethod yX2_topUp, Cond.selects RX2 yX2_topUp yX2_topUp, Cond.code yX2_topUp cX2_topUp 6 (some .int), Cond.methodLink RX2 82 yX2_isDayOf, Cond.instanceMethod yX2_isDayOf, Cond.selects RX2 yX2_isDayOf yX2_isDayOf, Cond.code yX2_isDayOf cX2_isDayOf 3 (some .boolean), Cond.methodLink RX2 92 yX2_rentAt, Cond.instanceMethod yX2_rentAt, Cond.selects RX2 yX2_rentAt yX2_rentAt, Cond.code yX2_rentAt cX2_rentAt 5 (some .int), Cond.methodLink RX2 86 yX2_agreed, Cond.instanceMethod yX2_agreed, Cond.selects RX2 yX2_agreed yX2_agreed]
def wsL_law0_r12 : List Cond := [Cond.code yX2_agreed cX2_agreed 7 (some .int), Cond.methodLink RX2 89 yX2_greatestIndex, Cond.instanceMethod yX2_greatestIndex, Cond.selects RX2 yX2_greatestIndex yX2_greatestIndex, Cond.code yX2_greatestIndex cX2_greatestIndex 6 (some .int), Cond.methodLink RL 129 yL_draw, Cond.static yL_draw, Cond.codeWith yL_draw cL_draw 5 (some .int) [(0, 10, 13, 13), (0, 10, 17, 15), (0, 10, 21, 27)], Cond.methodLink RL 46 yX1_draw, Cond.instanceMethod yX1_draw, Cond.selects RX1 yX1_draw yX1_draw, Cond.code yX1_draw cX1_draw 4 (some .int), Cond.methodLink RL 131 yX2_draw, Cond.instanceMethod yX2_draw, Cond.selects RX2 yX2_draw yX2_draw, Cond.code yX2_draw cX2_draw 4 (some .int), Cond.methodLink RL 132 yL_held, Cond.static yL_held, Cond.codeWith yL_held cL_held 4 (some .int) [(0, 9, 12, 13)], Cond.methodLink RL 49 yX1_held, Cond.instanceMethod yX1_held, Cond.selects RX1 yX1_held yX1_held, Cond.code yX1_held cX1_held 2 (some .int), Cond.methodLink RL 135 yX2_held]
def wsL_law0_r13 : List Cond := [Cond.instanceMethod yX2_held, Cond.selects RX2 yX2_held yX2_held, Cond.code yX2_held cX2_held 2 (some .int), Cond.methodLink RL 136 yX1_leases, Cond.instanceMethod yX1_leases, Cond.selects RX1 yX1_leases yX1_leases, Cond.code yX1_leases cX1_leases 1 (some .int), Cond.methodLink RL 139 yX2_leases, Cond.instanceMethod yX2_leases, Cond.selects RX2 yX2_leases yX2_leases, Cond.code yX2_leases cX2_leases 1 (some .int), Cond.methodLink RL 140 yL_leaseOn, Cond.static yL_leaseOn, Cond.codeWith yL_leaseOn cL_leaseOn 5 (some .int) [(0, 10, 13, 13)], Cond.methodLink RL 53 yX1_leaseOn, Cond.instanceMethod yX1_leaseOn, Cond.selects RX1 yX1_leaseOn yX1_leaseOn, Cond.code yX1_leaseOn cX1_leaseOn 5 (some .int), Cond.methodLink RL 142 yX2_leaseOn, Cond.instanceMethod yX2_leaseOn, Cond.selects RX2 yX2_leaseOn yX2_leaseOn, Cond.code yX2_leaseOn cX2_leaseOn 5 (some .int), Cond.methodLink RL 143 yL_rentOn, Cond.static yL_rentOn]
def wsL_law0_r14 : List Cond := [Cond.codeWith yL_rentOn cL_rentOn 5 (some .int) [(0, 10, 13, 13)], Cond.methodLink RL 56 yX1_rentOn, Cond.instanceMethod yX1_rentOn, Cond.selects RX1 yX1_rentOn yX1_rentOn, Cond.code yX1_rentOn cX1_rentOn 4 (some .int), Cond.methodLink RL 145 yX2_rentOn, Cond.instanceMethod yX2_rentOn, Cond.selects RX2 yX2_rentOn yX2_rentOn, Cond.code yX2_rentOn cX2_rentOn 3 (some .int), Cond.methodLink RL 146 yL_bill, Cond.static yL_bill, Cond.codeWith yL_bill cL_bill 5 (some .int) [(0, 10, 13, 13)], Cond.methodLink RL 59 yX1_bill, Cond.instanceMethod yX1_bill, Cond.selects RX1 yX1_bill yX1_bill, Cond.code yX1_bill cX1_bill 4 (some .int), Cond.methodLink RX1 108 yX1_billFor, Cond.instanceMethod yX1_billFor, Cond.selects RX1 yX1_billFor yX1_billFor, Cond.code yX1_billFor cX1_billFor 8 (some .int), Cond.methodLink RX1 157 Lib.Math.min.name, Cond.methodLink RX1 111 yX0_nextTurn, Cond.instanceMethod yX0_nextTurn, Cond.selects RX0 yX0_nextTurn yX0_nextTurn]
def wsL_law0_r15 : List Cond := [Cond.code yX0_nextTurn cX0_nextTurn 4 (some .int), Cond.methodLink RX0 61 yX0_sooner, Cond.static yX0_sooner, Cond.code yX0_sooner cX0_sooner 3 (some .int), Cond.methodLink RX0 65 yX0_reviewsUpTo, Cond.methodLink RL 148 yX2_bill, Cond.instanceMethod yX2_bill, Cond.selects RX2 yX2_bill yX2_bill, Cond.code yX2_bill cX2_bill 3 (some .int), Cond.methodLink RX2 95 yX2_billOf, Cond.instanceMethod yX2_billOf, Cond.selects RX2 yX2_billOf yX2_billOf, Cond.code yX2_billOf cX2_billOf 5 (some .int), Cond.methodLink RL 149 yL_billByDays, Cond.static yL_billByDays, Cond.codeWith yL_billByDays cL_billByDays 5 (some .int) [(0, 10, 13, 13)], Cond.methodLink RL 62 yX1_billByDays, Cond.instanceMethod yX1_billByDays, Cond.selects RX1 yX1_billByDays yX1_billByDays, Cond.code yX1_billByDays cX1_billByDays 7 (some .int), Cond.methodLink RL 151 yX2_billByDays, Cond.instanceMethod yX2_billByDays, Cond.selects RX2 yX2_billByDays yX2_billByDays, Cond.code yX2_billByDays cX2_billByDays 3 (some .int)]
def wsL_law0_r16 : List Cond := [Cond.methodLink RL 152 yL_bills, Cond.static yL_bills, Cond.codeWith yL_bills cL_bills 6 (some .int) [(0, 11, 14, 13), (0, 11, 18, 15)], Cond.methodLink RL 65 yX1_bills, Cond.instanceMethod yX1_bills, Cond.selects RX1 yX1_bills yX1_bills, Cond.code yX1_bills cX1_bills 8 (some .long), Cond.methodLink RL 154 yX2_bills, Cond.instanceMethod yX2_bills, Cond.selects RX2 yX2_bills yX2_bills, Cond.code yX2_bills cX2_bills 8 (some .long), Cond.methodLink RL 155 yL_nextChange, Cond.static yL_nextChange, Cond.codeWith yL_nextChange cL_nextChange 5 (some .int) [(0, 10, 13, 13)], Cond.methodLink RL 69 yX1_nextChange, Cond.instanceMethod yX1_nextChange, Cond.selects RX1 yX1_nextChange yX1_nextChange, Cond.code yX1_nextChange cX1_nextChange 6 (some .int), Cond.methodLink RL 157 yX2_nextChange, Cond.instanceMethod yX2_nextChange, Cond.selects RX2 yX2_nextChange yX2_nextChange, Cond.code yX2_nextChange cX2_nextChange 6 (some .int), Cond.methodLink RL 158 yL_voids, Cond.static yL_voids]
def wsL_law0_r17 : List Cond := [Cond.codeWith yL_voids cL_voids 5 (some .int) [(0, 10, 13, 13)], Cond.methodLink RL 72 yX1_voids, Cond.instanceMethod yX1_voids, Cond.selects RX1 yX1_voids yX1_voids, Cond.code yX1_voids cX1_voids 4 (some .int), Cond.methodLink RL 160 yX2_voids, Cond.instanceMethod yX2_voids, Cond.selects RX2 yX2_voids yX2_voids, Cond.code yX2_voids cX2_voids 5 (some .int), Cond.methodLink RX2 102 yX2_daysIn, Cond.instanceMethod yX2_daysIn, Cond.selects RX2 yX2_daysIn yX2_daysIn, Cond.code yX2_daysIn cX2_daysIn 5 (some .int), Cond.methodLink RL 161 yL_part, Cond.static yL_part, Cond.codeWith yL_part cL_part 5 (some .int) [(0, 10, 13, 13)], Cond.methodLink RL 75 yX1_part, Cond.instanceMethod yX1_part, Cond.selects RX1 yX1_part yX1_part, Cond.code yX1_part cX1_part 4 (some .int), Cond.methodLink RX1 115 yX1_partOf, Cond.instanceMethod yX1_partOf, Cond.selects RX1 yX1_partOf yX1_partOf, Cond.code yX1_partOf cX1_partOf 8 (some .int)]
def wsL_law0_r18 : List Cond := [Cond.constantLong RX1 160 (360), Cond.methodLink RX1 122 yX1_allAreas, Cond.instanceMethod yX1_allAreas, Cond.selects RX1 yX1_allAreas yX1_allAreas, Cond.code yX1_allAreas cX1_allAreas 6 (some .int), Cond.methodLink RX1 119 yX0_daysIn, Cond.instanceMethod yX0_daysIn, Cond.selects RX0 yX0_daysIn yX0_daysIn, Cond.code yX0_daysIn cX0_daysIn 3 (some .int), Cond.methodLink RX0 58 yX0_daysWithin, Cond.methodLink RL 163 yX2_part, Cond.instanceMethod yX2_part, Cond.selects RX2 yX2_part yX2_part, Cond.code yX2_part cX2_part 3 (some .int), Cond.methodLink RX2 107 yX2_partOf, Cond.instanceMethod yX2_partOf, Cond.selects RX2 yX2_partOf yX2_partOf, Cond.code yX2_partOf cX2_partOf 7 (some .int), Cond.constantLong RX2 105 (360), Cond.methodLink RX2 98 yX2_allAreas, Cond.instanceMethod yX2_allAreas, Cond.selects RX2 yX2_allAreas yX2_allAreas, Cond.code yX2_allAreas cX2_allAreas 3 (some .int), Cond.methodLink RL 164 yL_owners]
def wsL_law0_r19 : List Cond := [Cond.static yL_owners, Cond.codeWith yL_owners cL_owners 4 (some .int) [(0, 9, 12, 13)], Cond.methodLink RL 78 yX1_owners, Cond.instanceMethod yX1_owners, Cond.selects RX1 yX1_owners yX1_owners, Cond.code yX1_owners cX1_owners 7 (some .int), Cond.methodLink RL 166 yX2_owners, Cond.instanceMethod yX2_owners, Cond.selects RX2 yX2_owners yX2_owners, Cond.code yX2_owners cX2_owners 4 (some .int), Cond.methodLink RL 167 yL_balance, Cond.static yL_balance, Cond.codeWith yL_balance cL_balance 5 (some .int) [(0, 10, 13, 13)], Cond.methodLink RL 81 yX1_balance, Cond.instanceMethod yX1_balance, Cond.selects RX1 yX1_balance yX1_balance, Cond.code yX1_balance cX1_balance 5 (some .int), Cond.methodLink RL 169 yX2_balance, Cond.instanceMethod yX2_balance, Cond.selects RX2 yX2_balance yX2_balance, Cond.code yX2_balance cX2_balance 3 (some .int), Cond.methodLink RL 170 yL_share, Cond.static yL_share, Cond.codeWith yL_share cL_share 4 (some .int) [(0, 8, 11, 13)]]
def wsL_law0_r20 : List Cond := [Cond.methodLink RL 84 yX1_share, Cond.instanceMethod yX1_share, Cond.selects RX1 yX1_share yX1_share, Cond.code yX1_share cX1_share 3 (some .double), Cond.methodLink RL 173 yX2_share, Cond.instanceMethod yX2_share, Cond.selects RX2 yX2_share yX2_share, Cond.code yX2_share cX2_share 2 (some .double)]
def wsL_law0 : List Cond := (wsL_law0_r1 ++ (wsL_law0_r2 ++ (wsL_law0_r3 ++ (wsL_law0_r4 ++ (wsL_law0_r5 ++ (wsL_law0_r6 ++ (wsL_law0_r7 ++ (wsL_law0_r8 ++ (wsL_law0_r9 ++ (wsL_law0_r10 ++ (wsL_law0_r11 ++ (wsL_law0_r12 ++ (wsL_law0_r13 ++ (wsL_law0_r14 ++ (wsL_law0_r15 ++ (wsL_law0_r16 ++ (wsL_law0_r17 ++ (wsL_law0_r18 ++ (wsL_law0_r19 ++ wsL_law0_r20))))))))))))))))))) ++ wsX10 ++ wsX20 ++ wsX00 ++ ([] : List Cond)
def wsL_law : List Cond := wsL_law0 ++ (vx_atS RX1 130 "java/lang/IndexOutOfBoundsException" ["java/lang/RuntimeException", "java/lang/Exception"]).filter goodWord ++ (vx_atS RX1 135 "java/lang/IllegalArgumentException" ["java/lang/RuntimeException", "java/lang/Exception"]).filter goodWord ++ (vx_atS RX1 43 "java/lang/IllegalStateException" ["java/lang/RuntimeException", "java/lang/Exception"]).filter goodWord
end
section
set_option maxRecDepth 20000 in
theorem in0_wsL_law0_r1 : ∀ w ∈ wsL_law0_r1, w ∈ lw_tbl := fun w h => (goodIn_p wsL_law0_r1 [35, 38, 463] (by decide +kernel) (by decide +kernel) w h).1
set_option maxRecDepth 20000 in
theorem in0_wsL_law0_r2 : ∀ w ∈ wsL_law0_r2, w ∈ lw_tbl := fun w h => (goodIn_p wsL_law0_r2 [] (by decide +kernel) (by decide +kernel) w h).1
set_option maxRecDepth 20000 in
theorem in0_wsL_law0_r3 : ∀ w ∈ wsL_law0_r3, w ∈ lw_tbl := fun w h => (goodIn_p wsL_law0_r3 [70, 73, 144, 524, 527, 531] (by decide +kernel) (by decide +kernel) w h).1
set_option maxRecDepth 20000 in
theorem in0_wsL_law0_r4 : ∀ w ∈ wsL_law0_r4, w ∈ lw_tbl := fun w h => (goodIn_p wsL_law0_r4 [520, 167, 535, 174] (by decide +kernel) (by decide +kernel) w h).1
set_option maxRecDepth 20000 in
theorem in0_wsL_law0_r5 : ∀ w ∈ wsL_law0_r5, w ∈ lw_tbl := fun w h => (goodIn_p wsL_law0_r5 [539, 183, 204] (by decide +kernel) (by decide +kernel) w h).1
set_option maxRecDepth 20000 in
theorem in0_wsL_law0_r6 : ∀ w ∈ wsL_law0_r6, w ∈ lw_tbl := fun w h => (goodIn_p wsL_law0_r6 [208, 211, 214, 219] (by decide +kernel) (by decide +kernel) w h).1
set_option maxRecDepth 20000 in
theorem in0_wsL_law0_r7 : ∀ w ∈ wsL_law0_r7, w ∈ lw_tbl := fun w h => (goodIn_p wsL_law0_r7 [544, 549, 273, 277] (by decide +kernel) (by decide +kernel) w h).1
set_option maxRecDepth 20000 in
theorem in0_wsL_law0_r8 : ∀ w ∈ wsL_law0_r8, w ∈ lw_tbl := fun w h => (goodIn_p wsL_law0_r8 [553, 557, 285, 289, 561, 565] (by decide +kernel) (by decide +kernel) w h).1
set_option maxRecDepth 20000 in
theorem in0_wsL_law0_r9 : ∀ w ∈ wsL_law0_r9, w ∈ lw_tbl := fun w h => (goodIn_p wsL_law0_r9 [297, 569, 304, 573] (by decide +kernel) (by decide +kernel) w h).1
set_option maxRecDepth 20000 in
theorem in0_wsL_law0_r10 : ∀ w ∈ wsL_law0_r10, w ∈ lw_tbl := fun w h => (goodIn_p wsL_law0_r10 [311, 315, 319, 323, 327] (by decide +kernel) (by decide +kernel) w h).1
set_option maxRecDepth 20000 in
theorem in0_wsL_law0_r11 : ∀ w ∈ wsL_law0_r11, w ∈ lw_tbl := fun w h => (goodIn_p wsL_law0_r11 [330, 334, 338, 577, 581, 585] (by decide +kernel) (by decide +kernel) w h).1
set_option maxRecDepth 20000 in
theorem in0_wsL_law0_r12 : ∀ w ∈ wsL_law0_r12, w ∈ lw_tbl := fun w h => (goodIn_p wsL_law0_r12 [589, 593, 346, 597, 354] (by decide +kernel) (by decide +kernel) w h).1
set_option maxRecDepth 20000 in
theorem in0_wsL_law0_r13 : ∀ w ∈ wsL_law0_r13, w ∈ lw_tbl := fun w h => (goodIn_p wsL_law0_r13 [601, 61, 605, 361, 609] (by decide +kernel) (by decide +kernel) w h).1
set_option maxRecDepth 20000 in
theorem in0_wsL_law0_r14 : ∀ w ∈ wsL_law0_r14, w ∈ lw_tbl := fun w h => (goodIn_p wsL_law0_r14 [368, 613, 375, 379] (by decide +kernel) (by decide +kernel) w h).1
set_option maxRecDepth 20000 in
theorem in0_wsL_law0_r15 : ∀ w ∈ wsL_law0_r15, w ∈ lw_tbl := fun w h => (goodIn_p wsL_law0_r15 [383, 386, 617, 621, 395, 625] (by decide +kernel) (by decide +kernel) w h).1
set_option maxRecDepth 20000 in
theorem in0_wsL_law0_r16 : ∀ w ∈ wsL_law0_r16, w ∈ lw_tbl := fun w h => (goodIn_p wsL_law0_r16 [402, 629, 409, 633] (by decide +kernel) (by decide +kernel) w h).1
set_option maxRecDepth 20000 in
theorem in0_wsL_law0_r17 : ∀ w ∈ wsL_law0_r17, w ∈ lw_tbl := fun w h => (goodIn_p wsL_law0_r17 [416, 637, 641, 423, 427] (by decide +kernel) (by decide +kernel) w h).1
set_option maxRecDepth 20000 in
theorem in0_wsL_law0_r18 : ∀ w ∈ wsL_law0_r18, w ∈ lw_tbl := fun w h => (goodIn_p wsL_law0_r18 [431, 435, 645, 649, 653] (by decide +kernel) (by decide +kernel) w h).1
set_option maxRecDepth 20000 in
theorem in0_wsL_law0_r19 : ∀ w ∈ wsL_law0_r19, w ∈ lw_tbl := fun w h => (goodIn_p wsL_law0_r19 [444, 658, 451, 662] (by decide +kernel) (by decide +kernel) w h).1
set_option maxRecDepth 20000 in
theorem in0_wsL_law0_r20 : ∀ w ∈ wsL_law0_r20, w ∈ lw_tbl := fun w h => (goodIn_p wsL_law0_r20 [458, 666] (by decide +kernel) (by decide +kernel) w h).1
set_option maxRecDepth 20000 in
theorem in0_wsX10 : ∀ w ∈ wsX10, w ∈ lw_tbl := fun w h => (goodIn_p wsX10 [] (by decide +kernel) (by decide +kernel) w h).1
set_option maxRecDepth 20000 in
theorem in0_wsX20 : ∀ w ∈ wsX20, w ∈ lw_tbl := fun w h => (goodIn_p wsX20 [] (by decide +kernel) (by decide +kernel) w h).1
set_option maxRecDepth 20000 in
theorem in0_wsX00 : ∀ w ∈ wsX00, w ∈ lw_tbl := fun w h => (goodIn_p wsX00 [] (by decide +kernel) (by decide +kernel) w h).1
theorem wsL_law_in0 : ∀ w ∈ wsL_law0, w ∈ lw_tbl := by
  intro w h
  rcases List.mem_append.mp h with h | h
  · rcases List.mem_append.mp h with h | h
    · rcases List.mem_append.mp h with h | h
      · rcases List.mem_append.mp h with h | h
        rcases List.mem_append.mp h with h | h
        · exact in0_wsL_law0_r1 w h
        rcases List.mem_append.mp h with h | h
        · exact in0_wsL_law0_r2 w h
        rcases List.mem_append.mp h with h | h
        · exact in0_wsL_law0_r3 w h
        rcases List.mem_append.mp h with h | h
        · exact in0_wsL_law0_r4 w h
        rcases List.mem_append.mp h with h | h
        · exact in0_wsL_law0_r5 w h
        rcases List.mem_append.mp h with h | h
        · exact in0_wsL_law0_r6 w h
        rcases List.mem_append.mp h with h | h
        · exact in0_wsL_law0_r7 w h
        rcases List.mem_append.mp h with h | h
        · exact in0_wsL_law0_r8 w h
        rcases List.mem_append.mp h with h | h
        · exact in0_wsL_law0_r9 w h
        rcases List.mem_append.mp h with h | h
        · exact in0_wsL_law0_r10 w h
        rcases List.mem_append.mp h with h | h
        · exact in0_wsL_law0_r11 w h
        rcases List.mem_append.mp h with h | h
        · exact in0_wsL_law0_r12 w h
        rcases List.mem_append.mp h with h | h
        · exact in0_wsL_law0_r13 w h
        rcases List.mem_append.mp h with h | h
        · exact in0_wsL_law0_r14 w h
        rcases List.mem_append.mp h with h | h
        · exact in0_wsL_law0_r15 w h
        rcases List.mem_append.mp h with h | h
        · exact in0_wsL_law0_r16 w h
        rcases List.mem_append.mp h with h | h
        · exact in0_wsL_law0_r17 w h
        rcases List.mem_append.mp h with h | h
        · exact in0_wsL_law0_r18 w h
        rcases List.mem_append.mp h with h | h
        · exact in0_wsL_law0_r19 w h
        exact in0_wsL_law0_r20 w h
        · exact in0_wsX10 w h
      · exact in0_wsX20 w h
    · exact in0_wsX00 w h
  · exact absurd h List.not_mem_nil
theorem wsL_law_x0 : ∀ w ∈ (vx_atS RX1 130 "java/lang/IndexOutOfBoundsException" ["java/lang/RuntimeException", "java/lang/Exception"]).filter goodWord, w ∈ lw_tbl := by decide +kernel
theorem wsL_law_x1 : ∀ w ∈ (vx_atS RX1 135 "java/lang/IllegalArgumentException" ["java/lang/RuntimeException", "java/lang/Exception"]).filter goodWord, w ∈ lw_tbl := by decide +kernel
theorem wsL_law_x2 : ∀ w ∈ (vx_atS RX1 43 "java/lang/IllegalStateException" ["java/lang/RuntimeException", "java/lang/Exception"]).filter goodWord, w ∈ lw_tbl := by decide +kernel
theorem wsL_law_in : ∀ w ∈ wsL_law, w ∈ lw_tbl := fun w h => (List.mem_append.mp h).elim (fun h => (List.mem_append.mp h).elim (fun h => (List.mem_append.mp h).elim (fun h => wsL_law_in0 w h) (fun h => wsL_law_x0 w h)) (fun h => wsL_law_x1 w h)) (fun h => wsL_law_x2 w h)
theorem inlX0 : ∀ w ∈ wsX00, w ∈ wsL_law := fun _ h => List.mem_append_left _ (List.mem_append_left _ (List.mem_append_left _ (List.mem_append_left _ (List.mem_append_right _ h))))
theorem inX0 : ∀ w ∈ wsX00, w ∈ lw_tbl := fun w h => wsL_law_in w (inlX0 w h)
theorem inlX1 : ∀ w ∈ wsX10, w ∈ wsL_law := fun _ h => List.mem_append_left _ (List.mem_append_left _ (List.mem_append_left _ (List.mem_append_left _ (List.mem_append_left _ (List.mem_append_left _ (List.mem_append_right _ h))))))
theorem inX1 : ∀ w ∈ wsX10, w ∈ lw_tbl := fun w h => wsL_law_in w (inlX1 w h)
theorem inlX2 : ∀ w ∈ wsX20, w ∈ wsL_law := fun _ h => List.mem_append_left _ (List.mem_append_left _ (List.mem_append_left _ (List.mem_append_left _ (List.mem_append_left _ (List.mem_append_right _ h)))))
theorem inX2 : ∀ w ∈ wsX20, w ∈ lw_tbl := fun w h => wsL_law_in w (inlX2 w h)
theorem inJ9 : ∀ w ∈ wsJ90, w ∈ lw_tbl := by decide +kernel
theorem inJ0 : ∀ w ∈ wsJ00, w ∈ lw_tbl := by decide +kernel
end
section
theorem dX0_init_0 : decode cX0_init 0 = .ok (.aload_n 0, 1) := by decide +kernel
theorem dX0_init_1 : decode cX0_init 1 = .ok (.invokespecial 3, 3) := by decide +kernel
theorem dX0_init_4 : decode cX0_init 4 = .ok (.aload_n 0, 1) := by decide +kernel
theorem dX0_init_5 : decode cX0_init 5 = .ok (.iconst 0, 1) := by decide +kernel
theorem dX0_init_6 : decode cX0_init 6 = .ok (.putfield 9, 3) := by decide +kernel
theorem dX0_init_9 : decode cX0_init 9 = .ok (.aload_n 0, 1) := by decide +kernel
theorem dX0_init_10 : decode cX0_init 10 = .ok (.iconst 0, 1) := by decide +kernel
theorem dX0_init_11 : decode cX0_init 11 = .ok (.putfield 15, 3) := by decide +kernel
theorem dX0_init_14 : decode cX0_init 14 = .ok (.aload_n 0, 1) := by decide +kernel
theorem dX0_init_15 : decode cX0_init 15 = .ok (.iconst (-1), 1) := by decide +kernel
theorem dX0_init_16 : decode cX0_init 16 = .ok (.putfield 18, 3) := by decide +kernel
theorem dX0_init_19 : decode cX0_init 19 = .ok (.aload_n 0, 1) := by decide +kernel
theorem dX0_init_20 : decode cX0_init 20 = .ok (.iconst 0, 1) := by decide +kernel
theorem dX0_init_21 : decode cX0_init 21 = .ok (.putfield 21, 3) := by decide +kernel
theorem dX0_init_24 : decode cX0_init 24 = .ok (.aload_n 0, 1) := by decide +kernel
theorem dX0_init_25 : decode cX0_init 25 = .ok (.iconst 0, 1) := by decide +kernel
theorem dX0_init_26 : decode cX0_init 26 = .ok (.putfield 24, 3) := by decide +kernel
theorem dX0_init_29 : decode cX0_init 29 = .ok (.aload_n 0, 1) := by decide +kernel
theorem dX0_init_30 : decode cX0_init 30 = .ok (.bipush 6, 2) := by decide +kernel
theorem dX0_init_32 : decode cX0_init 32 = .ok (.newarray .int, 2) := by decide +kernel
theorem dX0_init_34 : decode cX0_init 34 = .ok (.putfield 27, 3) := by decide +kernel
theorem dX0_init_37 : decode cX0_init 37 = .ok (.aload_n 0, 1) := by decide +kernel
theorem dX0_init_38 : decode cX0_init 38 = .ok (.bipush 6, 2) := by decide +kernel
theorem dX0_init_40 : decode cX0_init 40 = .ok (.newarray .int, 2) := by decide +kernel
theorem dX0_init_42 : decode cX0_init 42 = .ok (.putfield 31, 3) := by decide +kernel
theorem dX0_init_45 : decode cX0_init 45 = .ok (.aload_n 0, 1) := by decide +kernel
theorem dX0_init_46 : decode cX0_init 46 = .ok (.iconst 0, 1) := by decide +kernel
theorem dX0_init_47 : decode cX0_init 47 = .ok (.putfield 34, 3) := by decide +kernel
theorem dX0_init_50 : decode cX0_init 50 = .ok (.aload_n 0, 1) := by decide +kernel
theorem dX0_init_51 : decode cX0_init 51 = .ok (.iload_n 1, 1) := by decide +kernel
theorem dX0_init_52 : decode cX0_init 52 = .ok (.putfield 37, 3) := by decide +kernel
theorem dX0_init_55 : decode cX0_init 55 = .ok (.aload_n 0, 1) := by decide +kernel
theorem dX0_init_56 : decode cX0_init 56 = .ok (.iload_n 2, 1) := by decide +kernel
theorem dX0_init_57 : decode cX0_init 57 = .ok (.putfield 40, 3) := by decide +kernel
theorem dX0_init_60 : decode cX0_init 60 = .ok (.aload_n 0, 1) := by decide +kernel
theorem dX0_init_61 : decode cX0_init 61 = .ok (.iload_n 3, 1) := by decide +kernel
theorem dX0_init_62 : decode cX0_init 62 = .ok (.putfield 43, 3) := by decide +kernel
theorem dX0_init_65 : decode cX0_init 65 = .ok (.aload_n 0, 1) := by decide +kernel
theorem dX0_init_66 : decode cX0_init 66 = .ok (.iload 4, 2) := by decide +kernel
theorem dX0_init_68 : decode cX0_init 68 = .ok (.putfield 46, 3) := by decide +kernel
theorem dX0_init_71 : decode cX0_init 71 = .ok (.return_, 1) := by decide +kernel
theorem dX0_runsOn_0 : decode cX0_runsOn 0 = .ok (.iload_n 1, 1) := by decide +kernel
theorem dX0_runsOn_1 : decode cX0_runsOn 1 = .ok (.aload_n 0, 1) := by decide +kernel
theorem dX0_runsOn_2 : decode cX0_runsOn 2 = .ok (.getfield 40, 3) := by decide +kernel
theorem dX0_runsOn_5 : decode cX0_runsOn 5 = .ok (.if_icmp .lt 15, 3) := by decide +kernel
theorem dX0_runsOn_8 : decode cX0_runsOn 8 = .ok (.iload_n 1, 1) := by decide +kernel
theorem dX0_runsOn_9 : decode cX0_runsOn 9 = .ok (.aload_n 0, 1) := by decide +kernel
theorem dX0_runsOn_10 : decode cX0_runsOn 10 = .ok (.getfield 43, 3) := by decide +kernel
theorem dX0_runsOn_13 : decode cX0_runsOn 13 = .ok (.if_icmp .ge 7, 3) := by decide +kernel
theorem dX0_runsOn_16 : decode cX0_runsOn 16 = .ok (.iconst 1, 1) := by decide +kernel
theorem dX0_runsOn_17 : decode cX0_runsOn 17 = .ok (.goto 4, 3) := by decide +kernel
theorem dX0_runsOn_20 : decode cX0_runsOn 20 = .ok (.iconst 0, 1) := by decide +kernel
theorem dX0_runsOn_21 : decode cX0_runsOn 21 = .ok (.ireturn, 1) := by decide +kernel
theorem dX0_isFreeOn_0 : decode cX0_isFreeOn 0 = .ok (.iload_n 1, 1) := by decide +kernel
theorem dX0_isFreeOn_1 : decode cX0_isFreeOn 1 = .ok (.aload_n 0, 1) := by decide +kernel
theorem dX0_isFreeOn_2 : decode cX0_isFreeOn 2 = .ok (.getfield 40, 3) := by decide +kernel
theorem dX0_isFreeOn_5 : decode cX0_isFreeOn 5 = .ok (.aload_n 0, 1) := by decide +kernel
theorem dX0_isFreeOn_6 : decode cX0_isFreeOn 6 = .ok (.getfield 9, 3) := by decide +kernel
theorem dX0_isFreeOn_9 : decode cX0_isFreeOn 9 = .ok (.iadd, 1) := by decide +kernel
theorem dX0_isFreeOn_10 : decode cX0_isFreeOn 10 = .ok (.if_icmp .ge 7, 3) := by decide +kernel
theorem dX0_isFreeOn_13 : decode cX0_isFreeOn 13 = .ok (.iconst 1, 1) := by decide +kernel
theorem dX0_isFreeOn_14 : decode cX0_isFreeOn 14 = .ok (.goto 4, 3) := by decide +kernel
theorem dX0_isFreeOn_17 : decode cX0_isFreeOn 17 = .ok (.iconst 0, 1) := by decide +kernel
theorem dX0_isFreeOn_18 : decode cX0_isFreeOn 18 = .ok (.ireturn, 1) := by decide +kernel
theorem dX0_daysWithin_0 : decode cX0_daysWithin 0 = .ok (.iconst 0, 1) := by decide +kernel
theorem dX0_daysWithin_1 : decode cX0_daysWithin 1 = .ok (.aload_n 0, 1) := by decide +kernel
theorem dX0_daysWithin_2 : decode cX0_daysWithin 2 = .ok (.getfield 43, 3) := by decide +kernel
theorem dX0_daysWithin_5 : decode cX0_daysWithin 5 = .ok (.iload_n 2, 1) := by decide +kernel
theorem dX0_daysWithin_6 : decode cX0_daysWithin 6 = .ok (.invokestatic 49, 3) := by decide +kernel
theorem dX0_daysWithin_9 : decode cX0_daysWithin 9 = .ok (.aload_n 0, 1) := by decide +kernel
theorem dX0_daysWithin_10 : decode cX0_daysWithin 10 = .ok (.getfield 40, 3) := by decide +kernel
theorem dX0_daysWithin_13 : decode cX0_daysWithin 13 = .ok (.iload_n 1, 1) := by decide +kernel
theorem dX0_daysWithin_14 : decode cX0_daysWithin 14 = .ok (.invokestatic 55, 3) := by decide +kernel
theorem dX0_daysWithin_17 : decode cX0_daysWithin 17 = .ok (.isub, 1) := by decide +kernel
theorem dX0_daysWithin_18 : decode cX0_daysWithin 18 = .ok (.invokestatic 55, 3) := by decide +kernel
theorem dX0_daysWithin_21 : decode cX0_daysWithin 21 = .ok (.ireturn, 1) := by decide +kernel
set_option maxRecDepth 20000 in
theorem ggX0_daysIn_X0_daysWithin : GoodIn wsX0_daysIn wsX0_daysWithin := goodIn_r _ [5, 6, 7, 8, 9, 10, 11, 12, 13, 14, 15, 16, 17, 18, 19, 20, 21, 22, 23, 24, 25, 26] (by decide +kernel) (by decide +kernel)
set_option maxRecDepth 20000 in
theorem gX0_daysIn_X0_daysWithin : GoodIn wsX0_daysIn (wsV RX0 58 RX0 yX0_daysWithin wsX0_daysWithin) := goodIn_app (goodIn_of _ (by decide +kernel)) ggX0_daysIn_X0_daysWithin
theorem dX0_daysIn_0 : decode cX0_daysIn 0 = .ok (.iload_n 1, 1) := by decide +kernel
theorem dX0_daysIn_1 : decode cX0_daysIn 1 = .ok (.sipush 360, 3) := by decide +kernel
theorem dX0_daysIn_4 : decode cX0_daysIn 4 = .ok (.imul, 1) := by decide +kernel
theorem dX0_daysIn_5 : decode cX0_daysIn 5 = .ok (.istore_n 2, 1) := by decide +kernel
theorem dX0_daysIn_6 : decode cX0_daysIn 6 = .ok (.aload_n 0, 1) := by decide +kernel
theorem dX0_daysIn_7 : decode cX0_daysIn 7 = .ok (.iload_n 2, 1) := by decide +kernel
theorem dX0_daysIn_8 : decode cX0_daysIn 8 = .ok (.iload_n 2, 1) := by decide +kernel
theorem dX0_daysIn_9 : decode cX0_daysIn 9 = .ok (.sipush 360, 3) := by decide +kernel
theorem dX0_daysIn_12 : decode cX0_daysIn 12 = .ok (.iadd, 1) := by decide +kernel
theorem dX0_daysIn_13 : decode cX0_daysIn 13 = .ok (.invokevirtual 58, 3) := by decide +kernel
theorem dX0_daysIn_16 : decode cX0_daysIn 16 = .ok (.ireturn, 1) := by decide +kernel
theorem dX0_putStep_0 : decode cX0_putStep 0 = .ok (.iconst 0, 1) := by decide +kernel
theorem dX0_putStep_1 : decode cX0_putStep 1 = .ok (.istore_n 3, 1) := by decide +kernel
theorem dX0_putStep_2 : decode cX0_putStep 2 = .ok (.iload_n 3, 1) := by decide +kernel
theorem dX0_putStep_3 : decode cX0_putStep 3 = .ok (.aload_n 0, 1) := by decide +kernel
theorem dX0_putStep_4 : decode cX0_putStep 4 = .ok (.getfield 34, 3) := by decide +kernel
theorem dX0_putStep_7 : decode cX0_putStep 7 = .ok (.if_icmp .ge 25, 3) := by decide +kernel
theorem dX0_putStep_10 : decode cX0_putStep 10 = .ok (.iload_n 3, 1) := by decide +kernel
theorem dX0_putStep_11 : decode cX0_putStep 11 = .ok (.bipush 6, 2) := by decide +kernel
theorem dX0_putStep_13 : decode cX0_putStep 13 = .ok (.if_icmp .ge 19, 3) := by decide +kernel
theorem dX0_putStep_16 : decode cX0_putStep 16 = .ok (.aload_n 0, 1) := by decide +kernel
theorem dX0_putStep_17 : decode cX0_putStep 17 = .ok (.getfield 27, 3) := by decide +kernel
theorem dX0_putStep_20 : decode cX0_putStep 20 = .ok (.iload_n 3, 1) := by decide +kernel
theorem dX0_putStep_21 : decode cX0_putStep 21 = .ok (.iaload, 1) := by decide +kernel
theorem dX0_putStep_22 : decode cX0_putStep 22 = .ok (.iload_n 1, 1) := by decide +kernel
theorem dX0_putStep_23 : decode cX0_putStep 23 = .ok (.if_icmp .eq 9, 3) := by decide +kernel
theorem dX0_putStep_26 : decode cX0_putStep 26 = .ok (.iinc 3 1, 3) := by decide +kernel
theorem dX0_putStep_29 : decode cX0_putStep 29 = .ok (.goto (-27), 3) := by decide +kernel
theorem dX0_putStep_32 : decode cX0_putStep 32 = .ok (.iload_n 3, 1) := by decide +kernel
theorem dX0_putStep_33 : decode cX0_putStep 33 = .ok (.bipush 6, 2) := by decide +kernel
theorem dX0_putStep_35 : decode cX0_putStep 35 = .ok (.if_icmp .lt 5, 3) := by decide +kernel
theorem dX0_putStep_38 : decode cX0_putStep 38 = .ok (.iconst 0, 1) := by decide +kernel
theorem dX0_putStep_39 : decode cX0_putStep 39 = .ok (.ireturn, 1) := by decide +kernel
theorem dX0_putStep_40 : decode cX0_putStep 40 = .ok (.aload_n 0, 1) := by decide +kernel
theorem dX0_putStep_41 : decode cX0_putStep 41 = .ok (.getfield 27, 3) := by decide +kernel
theorem dX0_putStep_44 : decode cX0_putStep 44 = .ok (.iload_n 3, 1) := by decide +kernel
theorem dX0_putStep_45 : decode cX0_putStep 45 = .ok (.iload_n 1, 1) := by decide +kernel
theorem dX0_putStep_46 : decode cX0_putStep 46 = .ok (.iastore, 1) := by decide +kernel
theorem dX0_putStep_47 : decode cX0_putStep 47 = .ok (.aload_n 0, 1) := by decide +kernel
theorem dX0_putStep_48 : decode cX0_putStep 48 = .ok (.getfield 31, 3) := by decide +kernel
theorem dX0_putStep_51 : decode cX0_putStep 51 = .ok (.iload_n 3, 1) := by decide +kernel
theorem dX0_putStep_52 : decode cX0_putStep 52 = .ok (.iload_n 2, 1) := by decide +kernel
theorem dX0_putStep_53 : decode cX0_putStep 53 = .ok (.iastore, 1) := by decide +kernel
theorem dX0_putStep_54 : decode cX0_putStep 54 = .ok (.aload_n 0, 1) := by decide +kernel
theorem dX0_putStep_55 : decode cX0_putStep 55 = .ok (.aload_n 0, 1) := by decide +kernel
theorem dX0_putStep_56 : decode cX0_putStep 56 = .ok (.getfield 34, 3) := by decide +kernel
theorem dX0_putStep_59 : decode cX0_putStep 59 = .ok (.iload_n 3, 1) := by decide +kernel
theorem dX0_putStep_60 : decode cX0_putStep 60 = .ok (.iconst 1, 1) := by decide +kernel
theorem dX0_putStep_61 : decode cX0_putStep 61 = .ok (.iadd, 1) := by decide +kernel
theorem dX0_putStep_62 : decode cX0_putStep 62 = .ok (.invokestatic 55, 3) := by decide +kernel
theorem dX0_putStep_65 : decode cX0_putStep 65 = .ok (.putfield 34, 3) := by decide +kernel
theorem dX0_putStep_68 : decode cX0_putStep 68 = .ok (.iconst 1, 1) := by decide +kernel
theorem dX0_putStep_69 : decode cX0_putStep 69 = .ok (.ireturn, 1) := by decide +kernel
theorem dX0_agreedOn_0 : decode cX0_agreedOn 0 = .ok (.aload_n 0, 1) := by decide +kernel
theorem dX0_agreedOn_1 : decode cX0_agreedOn 1 = .ok (.getfield 40, 3) := by decide +kernel
theorem dX0_agreedOn_4 : decode cX0_agreedOn 4 = .ok (.istore_n 2, 1) := by decide +kernel
theorem dX0_agreedOn_5 : decode cX0_agreedOn 5 = .ok (.aload_n 0, 1) := by decide +kernel
theorem dX0_agreedOn_6 : decode cX0_agreedOn 6 = .ok (.getfield 46, 3) := by decide +kernel
theorem dX0_agreedOn_9 : decode cX0_agreedOn 9 = .ok (.istore_n 3, 1) := by decide +kernel
theorem dX0_agreedOn_10 : decode cX0_agreedOn 10 = .ok (.iconst 0, 1) := by decide +kernel
theorem dX0_agreedOn_11 : decode cX0_agreedOn 11 = .ok (.istore 4, 2) := by decide +kernel
theorem dX0_agreedOn_13 : decode cX0_agreedOn 13 = .ok (.iload 4, 2) := by decide +kernel
theorem dX0_agreedOn_15 : decode cX0_agreedOn 15 = .ok (.aload_n 0, 1) := by decide +kernel
theorem dX0_agreedOn_16 : decode cX0_agreedOn 16 = .ok (.getfield 34, 3) := by decide +kernel
theorem dX0_agreedOn_19 : decode cX0_agreedOn 19 = .ok (.if_icmp .ge 54, 3) := by decide +kernel
theorem dX0_agreedOn_22 : decode cX0_agreedOn 22 = .ok (.iload 4, 2) := by decide +kernel
theorem dX0_agreedOn_24 : decode cX0_agreedOn 24 = .ok (.bipush 6, 2) := by decide +kernel
theorem dX0_agreedOn_26 : decode cX0_agreedOn 26 = .ok (.if_icmp .ge 47, 3) := by decide +kernel
theorem dX0_agreedOn_29 : decode cX0_agreedOn 29 = .ok (.aload_n 0, 1) := by decide +kernel
theorem dX0_agreedOn_30 : decode cX0_agreedOn 30 = .ok (.getfield 27, 3) := by decide +kernel
theorem dX0_agreedOn_33 : decode cX0_agreedOn 33 = .ok (.iload 4, 2) := by decide +kernel
theorem dX0_agreedOn_35 : decode cX0_agreedOn 35 = .ok (.iaload, 1) := by decide +kernel
theorem dX0_agreedOn_36 : decode cX0_agreedOn 36 = .ok (.iload_n 1, 1) := by decide +kernel
theorem dX0_agreedOn_37 : decode cX0_agreedOn 37 = .ok (.if_icmp .gt 30, 3) := by decide +kernel
theorem dX0_agreedOn_40 : decode cX0_agreedOn 40 = .ok (.aload_n 0, 1) := by decide +kernel
theorem dX0_agreedOn_41 : decode cX0_agreedOn 41 = .ok (.getfield 27, 3) := by decide +kernel
theorem dX0_agreedOn_44 : decode cX0_agreedOn 44 = .ok (.iload 4, 2) := by decide +kernel
theorem dX0_agreedOn_46 : decode cX0_agreedOn 46 = .ok (.iaload, 1) := by decide +kernel
theorem dX0_agreedOn_47 : decode cX0_agreedOn 47 = .ok (.iload_n 2, 1) := by decide +kernel
theorem dX0_agreedOn_48 : decode cX0_agreedOn 48 = .ok (.if_icmp .le 19, 3) := by decide +kernel
theorem dX0_agreedOn_51 : decode cX0_agreedOn 51 = .ok (.aload_n 0, 1) := by decide +kernel
theorem dX0_agreedOn_52 : decode cX0_agreedOn 52 = .ok (.getfield 27, 3) := by decide +kernel
theorem dX0_agreedOn_55 : decode cX0_agreedOn 55 = .ok (.iload 4, 2) := by decide +kernel
theorem dX0_agreedOn_57 : decode cX0_agreedOn 57 = .ok (.iaload, 1) := by decide +kernel
theorem dX0_agreedOn_58 : decode cX0_agreedOn 58 = .ok (.istore_n 2, 1) := by decide +kernel
theorem dX0_agreedOn_59 : decode cX0_agreedOn 59 = .ok (.aload_n 0, 1) := by decide +kernel
theorem dX0_agreedOn_60 : decode cX0_agreedOn 60 = .ok (.getfield 31, 3) := by decide +kernel
theorem dX0_agreedOn_63 : decode cX0_agreedOn 63 = .ok (.iload 4, 2) := by decide +kernel
theorem dX0_agreedOn_65 : decode cX0_agreedOn 65 = .ok (.iaload, 1) := by decide +kernel
theorem dX0_agreedOn_66 : decode cX0_agreedOn 66 = .ok (.istore_n 3, 1) := by decide +kernel
theorem dX0_agreedOn_67 : decode cX0_agreedOn 67 = .ok (.iinc 4 1, 3) := by decide +kernel
theorem dX0_agreedOn_70 : decode cX0_agreedOn 70 = .ok (.goto (-57), 3) := by decide +kernel
theorem dX0_agreedOn_73 : decode cX0_agreedOn 73 = .ok (.iload_n 3, 1) := by decide +kernel
theorem dX0_agreedOn_74 : decode cX0_agreedOn 74 = .ok (.ireturn, 1) := by decide +kernel
theorem dX0_reviewsUpTo_0 : decode cX0_reviewsUpTo 0 = .ok (.aload_n 0, 1) := by decide +kernel
theorem dX0_reviewsUpTo_1 : decode cX0_reviewsUpTo 1 = .ok (.getfield 15, 3) := by decide +kernel
theorem dX0_reviewsUpTo_4 : decode cX0_reviewsUpTo 4 = .ok (.ifCond .le 25, 3) := by decide +kernel
theorem dX0_reviewsUpTo_7 : decode cX0_reviewsUpTo 7 = .ok (.iload_n 1, 1) := by decide +kernel
theorem dX0_reviewsUpTo_8 : decode cX0_reviewsUpTo 8 = .ok (.aload_n 0, 1) := by decide +kernel
theorem dX0_reviewsUpTo_9 : decode cX0_reviewsUpTo 9 = .ok (.getfield 40, 3) := by decide +kernel
theorem dX0_reviewsUpTo_12 : decode cX0_reviewsUpTo 12 = .ok (.if_icmp .le 17, 3) := by decide +kernel
theorem dX0_reviewsUpTo_15 : decode cX0_reviewsUpTo 15 = .ok (.iload_n 1, 1) := by decide +kernel
theorem dX0_reviewsUpTo_16 : decode cX0_reviewsUpTo 16 = .ok (.aload_n 0, 1) := by decide +kernel
theorem dX0_reviewsUpTo_17 : decode cX0_reviewsUpTo 17 = .ok (.getfield 40, 3) := by decide +kernel
theorem dX0_reviewsUpTo_20 : decode cX0_reviewsUpTo 20 = .ok (.isub, 1) := by decide +kernel
theorem dX0_reviewsUpTo_21 : decode cX0_reviewsUpTo 21 = .ok (.aload_n 0, 1) := by decide +kernel
theorem dX0_reviewsUpTo_22 : decode cX0_reviewsUpTo 22 = .ok (.getfield 15, 3) := by decide +kernel
theorem dX0_reviewsUpTo_25 : decode cX0_reviewsUpTo 25 = .ok (.idiv, 1) := by decide +kernel
theorem dX0_reviewsUpTo_26 : decode cX0_reviewsUpTo 26 = .ok (.goto 4, 3) := by decide +kernel
theorem dX0_reviewsUpTo_29 : decode cX0_reviewsUpTo 29 = .ok (.iconst 0, 1) := by decide +kernel
theorem dX0_reviewsUpTo_30 : decode cX0_reviewsUpTo 30 = .ok (.ireturn, 1) := by decide +kernel
set_option maxRecDepth 20000 in
theorem ggX0_nextTurn_X0_sooner : GoodIn wsX0_nextTurn wsX0_sooner := goodIn_r _ [10] (by decide +kernel) (by decide +kernel)
set_option maxRecDepth 20000 in
theorem gX0_nextTurn_X0_sooner : GoodIn wsX0_nextTurn (va_wsS RX0 61 yX0_sooner wsX0_sooner) := goodIn_app (goodIn_of _ (by decide +kernel)) ggX0_nextTurn_X0_sooner
set_option maxRecDepth 20000 in
theorem ggX0_nextTurn_X0_reviewsUpTo : GoodIn wsX0_nextTurn wsX0_reviewsUpTo := goodIn_r _ [14, 6, 1, 15, 16, 17, 18, 19, 20, 21, 22, 23, 24, 25, 26] (by decide +kernel) (by decide +kernel)
set_option maxRecDepth 20000 in
theorem gX0_nextTurn_X0_reviewsUpTo : GoodIn wsX0_nextTurn (wsV RX0 65 RX0 yX0_reviewsUpTo wsX0_reviewsUpTo) := goodIn_app (goodIn_of _ (by decide +kernel)) ggX0_nextTurn_X0_reviewsUpTo
theorem dX0_nextTurn_0 : decode cX0_nextTurn 0 = .ok (.iload_n 1, 1) := by decide +kernel
theorem dX0_nextTurn_1 : decode cX0_nextTurn 1 = .ok (.aload_n 0, 1) := by decide +kernel
theorem dX0_nextTurn_2 : decode cX0_nextTurn 2 = .ok (.getfield 40, 3) := by decide +kernel
theorem dX0_nextTurn_5 : decode cX0_nextTurn 5 = .ok (.sipush 7200, 3) := by decide +kernel
theorem dX0_nextTurn_8 : decode cX0_nextTurn 8 = .ok (.invokestatic 61, 3) := by decide +kernel
theorem dX0_nextTurn_11 : decode cX0_nextTurn 11 = .ok (.istore_n 2, 1) := by decide +kernel
theorem dX0_nextTurn_12 : decode cX0_nextTurn 12 = .ok (.iload_n 1, 1) := by decide +kernel
theorem dX0_nextTurn_13 : decode cX0_nextTurn 13 = .ok (.aload_n 0, 1) := by decide +kernel
theorem dX0_nextTurn_14 : decode cX0_nextTurn 14 = .ok (.getfield 40, 3) := by decide +kernel
theorem dX0_nextTurn_17 : decode cX0_nextTurn 17 = .ok (.aload_n 0, 1) := by decide +kernel
theorem dX0_nextTurn_18 : decode cX0_nextTurn 18 = .ok (.getfield 9, 3) := by decide +kernel
theorem dX0_nextTurn_21 : decode cX0_nextTurn 21 = .ok (.iadd, 1) := by decide +kernel
theorem dX0_nextTurn_22 : decode cX0_nextTurn 22 = .ok (.iload_n 2, 1) := by decide +kernel
theorem dX0_nextTurn_23 : decode cX0_nextTurn 23 = .ok (.invokestatic 61, 3) := by decide +kernel
theorem dX0_nextTurn_26 : decode cX0_nextTurn 26 = .ok (.istore_n 2, 1) := by decide +kernel
theorem dX0_nextTurn_27 : decode cX0_nextTurn 27 = .ok (.iload_n 1, 1) := by decide +kernel
theorem dX0_nextTurn_28 : decode cX0_nextTurn 28 = .ok (.aload_n 0, 1) := by decide +kernel
theorem dX0_nextTurn_29 : decode cX0_nextTurn 29 = .ok (.getfield 43, 3) := by decide +kernel
theorem dX0_nextTurn_32 : decode cX0_nextTurn 32 = .ok (.iload_n 2, 1) := by decide +kernel
theorem dX0_nextTurn_33 : decode cX0_nextTurn 33 = .ok (.invokestatic 61, 3) := by decide +kernel
theorem dX0_nextTurn_36 : decode cX0_nextTurn 36 = .ok (.istore_n 2, 1) := by decide +kernel
theorem dX0_nextTurn_37 : decode cX0_nextTurn 37 = .ok (.iconst 0, 1) := by decide +kernel
theorem dX0_nextTurn_38 : decode cX0_nextTurn 38 = .ok (.istore_n 3, 1) := by decide +kernel
theorem dX0_nextTurn_39 : decode cX0_nextTurn 39 = .ok (.iload_n 3, 1) := by decide +kernel
theorem dX0_nextTurn_40 : decode cX0_nextTurn 40 = .ok (.aload_n 0, 1) := by decide +kernel
theorem dX0_nextTurn_41 : decode cX0_nextTurn 41 = .ok (.getfield 34, 3) := by decide +kernel
theorem dX0_nextTurn_44 : decode cX0_nextTurn 44 = .ok (.if_icmp .ge 27, 3) := by decide +kernel
theorem dX0_nextTurn_47 : decode cX0_nextTurn 47 = .ok (.iload_n 3, 1) := by decide +kernel
theorem dX0_nextTurn_48 : decode cX0_nextTurn 48 = .ok (.bipush 6, 2) := by decide +kernel
theorem dX0_nextTurn_50 : decode cX0_nextTurn 50 = .ok (.if_icmp .ge 21, 3) := by decide +kernel
theorem dX0_nextTurn_53 : decode cX0_nextTurn 53 = .ok (.iload_n 1, 1) := by decide +kernel
theorem dX0_nextTurn_54 : decode cX0_nextTurn 54 = .ok (.aload_n 0, 1) := by decide +kernel
theorem dX0_nextTurn_55 : decode cX0_nextTurn 55 = .ok (.getfield 27, 3) := by decide +kernel
theorem dX0_nextTurn_58 : decode cX0_nextTurn 58 = .ok (.iload_n 3, 1) := by decide +kernel
theorem dX0_nextTurn_59 : decode cX0_nextTurn 59 = .ok (.iaload, 1) := by decide +kernel
theorem dX0_nextTurn_60 : decode cX0_nextTurn 60 = .ok (.iload_n 2, 1) := by decide +kernel
theorem dX0_nextTurn_61 : decode cX0_nextTurn 61 = .ok (.invokestatic 61, 3) := by decide +kernel
theorem dX0_nextTurn_64 : decode cX0_nextTurn 64 = .ok (.istore_n 2, 1) := by decide +kernel
theorem dX0_nextTurn_65 : decode cX0_nextTurn 65 = .ok (.iinc 3 1, 3) := by decide +kernel
theorem dX0_nextTurn_68 : decode cX0_nextTurn 68 = .ok (.goto (-29), 3) := by decide +kernel
theorem dX0_nextTurn_71 : decode cX0_nextTurn 71 = .ok (.aload_n 0, 1) := by decide +kernel
theorem dX0_nextTurn_72 : decode cX0_nextTurn 72 = .ok (.getfield 15, 3) := by decide +kernel
theorem dX0_nextTurn_75 : decode cX0_nextTurn 75 = .ok (.ifCond .le 26, 3) := by decide +kernel
theorem dX0_nextTurn_78 : decode cX0_nextTurn 78 = .ok (.iload_n 1, 1) := by decide +kernel
theorem dX0_nextTurn_79 : decode cX0_nextTurn 79 = .ok (.aload_n 0, 1) := by decide +kernel
theorem dX0_nextTurn_80 : decode cX0_nextTurn 80 = .ok (.getfield 40, 3) := by decide +kernel
theorem dX0_nextTurn_83 : decode cX0_nextTurn 83 = .ok (.aload_n 0, 1) := by decide +kernel
theorem dX0_nextTurn_84 : decode cX0_nextTurn 84 = .ok (.iload_n 1, 1) := by decide +kernel
theorem dX0_nextTurn_85 : decode cX0_nextTurn 85 = .ok (.invokevirtual 65, 3) := by decide +kernel
theorem dX0_nextTurn_88 : decode cX0_nextTurn 88 = .ok (.iconst 1, 1) := by decide +kernel
theorem dX0_nextTurn_89 : decode cX0_nextTurn 89 = .ok (.iadd, 1) := by decide +kernel
theorem dX0_nextTurn_90 : decode cX0_nextTurn 90 = .ok (.aload_n 0, 1) := by decide +kernel
theorem dX0_nextTurn_91 : decode cX0_nextTurn 91 = .ok (.getfield 15, 3) := by decide +kernel
theorem dX0_nextTurn_94 : decode cX0_nextTurn 94 = .ok (.imul, 1) := by decide +kernel
theorem dX0_nextTurn_95 : decode cX0_nextTurn 95 = .ok (.iadd, 1) := by decide +kernel
theorem dX0_nextTurn_96 : decode cX0_nextTurn 96 = .ok (.iload_n 2, 1) := by decide +kernel
theorem dX0_nextTurn_97 : decode cX0_nextTurn 97 = .ok (.invokestatic 61, 3) := by decide +kernel
theorem dX0_nextTurn_100 : decode cX0_nextTurn 100 = .ok (.istore_n 2, 1) := by decide +kernel
theorem dX0_nextTurn_101 : decode cX0_nextTurn 101 = .ok (.iload_n 2, 1) := by decide +kernel
theorem dX0_nextTurn_102 : decode cX0_nextTurn 102 = .ok (.ireturn, 1) := by decide +kernel
theorem dX0_sooner_0 : decode cX0_sooner 0 = .ok (.iload_n 1, 1) := by decide +kernel
theorem dX0_sooner_1 : decode cX0_sooner 1 = .ok (.iload_n 0, 1) := by decide +kernel
theorem dX0_sooner_2 : decode cX0_sooner 2 = .ok (.if_icmp .le 12, 3) := by decide +kernel
theorem dX0_sooner_5 : decode cX0_sooner 5 = .ok (.iload_n 1, 1) := by decide +kernel
theorem dX0_sooner_6 : decode cX0_sooner 6 = .ok (.iload_n 2, 1) := by decide +kernel
theorem dX0_sooner_7 : decode cX0_sooner 7 = .ok (.if_icmp .ge 7, 3) := by decide +kernel
theorem dX0_sooner_10 : decode cX0_sooner 10 = .ok (.iload_n 1, 1) := by decide +kernel
theorem dX0_sooner_11 : decode cX0_sooner 11 = .ok (.goto 4, 3) := by decide +kernel
theorem dX0_sooner_14 : decode cX0_sooner 14 = .ok (.iload_n 2, 1) := by decide +kernel
theorem dX0_sooner_15 : decode cX0_sooner 15 = .ok (.ireturn, 1) := by decide +kernel
theorem dX1_init_0 : decode cX1_init 0 = .ok (.aload_n 0, 1) := by decide +kernel
theorem dX1_init_1 : decode cX1_init 1 = .ok (.invokespecial 1, 3) := by decide +kernel
theorem dX1_init_4 : decode cX1_init 4 = .ok (.aload_n 0, 1) := by decide +kernel
theorem dX1_init_5 : decode cX1_init 5 = .ok (.bipush 6, 2) := by decide +kernel
theorem dX1_init_7 : decode cX1_init 7 = .ok (.newarray .int, 2) := by decide +kernel
theorem dX1_init_9 : decode cX1_init 9 = .ok (.putfield 9, 3) := by decide +kernel
theorem dX1_init_12 : decode cX1_init 12 = .ok (.aload_n 0, 1) := by decide +kernel
theorem dX1_init_13 : decode cX1_init 13 = .ok (.sipush 240, 3) := by decide +kernel
theorem dX1_init_16 : decode cX1_init 16 = .ok (.newarray .int, 2) := by decide +kernel
theorem dX1_init_18 : decode cX1_init 18 = .ok (.putfield 13, 3) := by decide +kernel
theorem dX1_init_21 : decode cX1_init 21 = .ok (.aload_n 0, 1) := by decide +kernel
theorem dX1_init_22 : decode cX1_init 22 = .ok (.bipush 20, 2) := by decide +kernel
theorem dX1_init_24 : decode cX1_init 24 = .ok (.newarray .int, 2) := by decide +kernel
theorem dX1_init_26 : decode cX1_init 26 = .ok (.putfield 16, 3) := by decide +kernel
theorem dX1_init_29 : decode cX1_init 29 = .ok (.aload_n 0, 1) := by decide +kernel
theorem dX1_init_30 : decode cX1_init 30 = .ok (.bipush 24, 2) := by decide +kernel
theorem dX1_init_32 : decode cX1_init 32 = .ok (.anewarray 19, 3) := by decide +kernel
theorem dX1_init_35 : decode cX1_init 35 = .ok (.putfield 21, 3) := by decide +kernel
theorem dX1_init_38 : decode cX1_init 38 = .ok (.aload_n 0, 1) := by decide +kernel
theorem dX1_init_39 : decode cX1_init 39 = .ok (.iconst 0, 1) := by decide +kernel
theorem dX1_init_40 : decode cX1_init 40 = .ok (.putfield 25, 3) := by decide +kernel
theorem dX1_init_43 : decode cX1_init 43 = .ok (.iconst 0, 1) := by decide +kernel
theorem dX1_init_44 : decode cX1_init 44 = .ok (.istore_n 1, 1) := by decide +kernel
theorem dX1_init_45 : decode cX1_init 45 = .ok (.iload_n 1, 1) := by decide +kernel
theorem dX1_init_46 : decode cX1_init 46 = .ok (.aload_n 0, 1) := by decide +kernel
theorem dX1_init_47 : decode cX1_init 47 = .ok (.getfield 13, 3) := by decide +kernel
theorem dX1_init_50 : decode cX1_init 50 = .ok (.arraylength, 1) := by decide +kernel
theorem dX1_init_51 : decode cX1_init 51 = .ok (.if_icmp .ge 17, 3) := by decide +kernel
theorem dX1_init_54 : decode cX1_init 54 = .ok (.aload_n 0, 1) := by decide +kernel
theorem dX1_init_55 : decode cX1_init 55 = .ok (.getfield 13, 3) := by decide +kernel
theorem dX1_init_58 : decode cX1_init 58 = .ok (.iload_n 1, 1) := by decide +kernel
theorem dX1_init_59 : decode cX1_init 59 = .ok (.bipush 100, 2) := by decide +kernel
theorem dX1_init_61 : decode cX1_init 61 = .ok (.iastore, 1) := by decide +kernel
theorem dX1_init_62 : decode cX1_init 62 = .ok (.iinc 1 1, 3) := by decide +kernel
theorem dX1_init_65 : decode cX1_init 65 = .ok (.goto (-20), 3) := by decide +kernel
theorem dX1_init_68 : decode cX1_init 68 = .ok (.return_, 1) := by decide +kernel
set_option maxRecDepth 20000 in
theorem ggX1_setArea_X1_checkNumber : GoodIn wsX1_setArea wsX1_checkNumber := goodIn_ca (goodIn_r _ [5, 6, 7] (by decide +kernel) (by decide +kernel)) (goodIn_sub (fun _ h => List.mem_cons_of_mem _ (List.mem_append_left _ (List.mem_append_right _ h))) (by decide +kernel))
set_option maxRecDepth 20000 in
theorem gX1_setArea_X1_checkNumber : GoodIn wsX1_setArea (va_wsS RX1 29 yX1_checkNumber wsX1_checkNumber) := goodIn_app (goodIn_of _ (by decide +kernel)) ggX1_setArea_X1_checkNumber
set_option maxRecDepth 20000 in
theorem ggX1_setArea_X1_checkRange : GoodIn wsX1_setArea wsX1_checkRange := goodIn_ca (goodIn_r _ [10, 11, 12] (by decide +kernel) (by decide +kernel)) (goodIn_sub (fun _ h => List.mem_cons_of_mem _ (List.mem_append_right _ h)) (by decide +kernel))
set_option maxRecDepth 20000 in
theorem gX1_setArea_X1_checkRange : GoodIn wsX1_setArea (va_wsS RX1 33 yX1_checkRange wsX1_checkRange) := goodIn_app (goodIn_of _ (by decide +kernel)) ggX1_setArea_X1_checkRange
theorem dX1_setArea_0 : decode cX1_setArea 0 = .ok (.iload_n 1, 1) := by decide +kernel
theorem dX1_setArea_1 : decode cX1_setArea 1 = .ok (.aload_n 0, 1) := by decide +kernel
theorem dX1_setArea_2 : decode cX1_setArea 2 = .ok (.getfield 9, 3) := by decide +kernel
theorem dX1_setArea_5 : decode cX1_setArea 5 = .ok (.arraylength, 1) := by decide +kernel
theorem dX1_setArea_6 : decode cX1_setArea 6 = .ok (.invokestatic 29, 3) := by decide +kernel
theorem dX1_setArea_9 : decode cX1_setArea 9 = .ok (.iload_n 2, 1) := by decide +kernel
theorem dX1_setArea_10 : decode cX1_setArea 10 = .ok (.iconst 0, 1) := by decide +kernel
theorem dX1_setArea_11 : decode cX1_setArea 11 = .ok (.sipush 999, 3) := by decide +kernel
theorem dX1_setArea_14 : decode cX1_setArea 14 = .ok (.invokestatic 33, 3) := by decide +kernel
theorem dX1_setArea_17 : decode cX1_setArea 17 = .ok (.aload_n 0, 1) := by decide +kernel
theorem dX1_setArea_18 : decode cX1_setArea 18 = .ok (.getfield 9, 3) := by decide +kernel
theorem dX1_setArea_21 : decode cX1_setArea 21 = .ok (.iload_n 1, 1) := by decide +kernel
theorem dX1_setArea_22 : decode cX1_setArea 22 = .ok (.iaload, 1) := by decide +kernel
theorem dX1_setArea_23 : decode cX1_setArea 23 = .ok (.istore_n 3, 1) := by decide +kernel
theorem dX1_setArea_24 : decode cX1_setArea 24 = .ok (.aload_n 0, 1) := by decide +kernel
theorem dX1_setArea_25 : decode cX1_setArea 25 = .ok (.getfield 9, 3) := by decide +kernel
theorem dX1_setArea_28 : decode cX1_setArea 28 = .ok (.iload_n 1, 1) := by decide +kernel
theorem dX1_setArea_29 : decode cX1_setArea 29 = .ok (.iload_n 2, 1) := by decide +kernel
theorem dX1_setArea_30 : decode cX1_setArea 30 = .ok (.iastore, 1) := by decide +kernel
theorem dX1_setArea_31 : decode cX1_setArea 31 = .ok (.iload_n 3, 1) := by decide +kernel
theorem dX1_setArea_32 : decode cX1_setArea 32 = .ok (.ireturn, 1) := by decide +kernel
set_option maxRecDepth 20000 in
theorem ggX1_setIndex_X1_checkNumber : GoodIn wsX1_setIndex wsX1_checkNumber := goodIn_ca (goodIn_r _ [5, 6, 7] (by decide +kernel) (by decide +kernel)) (goodIn_sub (fun _ h => List.mem_cons_of_mem _ (List.mem_append_left _ (List.mem_append_right _ h))) (by decide +kernel))
set_option maxRecDepth 20000 in
theorem gX1_setIndex_X1_checkNumber : GoodIn wsX1_setIndex (va_wsS RX1 29 yX1_checkNumber wsX1_checkNumber) := goodIn_app (goodIn_of _ (by decide +kernel)) ggX1_setIndex_X1_checkNumber
set_option maxRecDepth 20000 in
theorem ggX1_setIndex_X1_checkRange : GoodIn wsX1_setIndex wsX1_checkRange := goodIn_ca (goodIn_r _ [10, 11, 12] (by decide +kernel) (by decide +kernel)) (goodIn_sub (fun _ h => List.mem_cons_of_mem _ (List.mem_append_right _ h)) (by decide +kernel))
set_option maxRecDepth 20000 in
theorem gX1_setIndex_X1_checkRange : GoodIn wsX1_setIndex (va_wsS RX1 33 yX1_checkRange wsX1_checkRange) := goodIn_app (goodIn_of _ (by decide +kernel)) ggX1_setIndex_X1_checkRange
theorem dX1_setIndex_0 : decode cX1_setIndex 0 = .ok (.iload_n 1, 1) := by decide +kernel
theorem dX1_setIndex_1 : decode cX1_setIndex 1 = .ok (.aload_n 0, 1) := by decide +kernel
theorem dX1_setIndex_2 : decode cX1_setIndex 2 = .ok (.getfield 13, 3) := by decide +kernel
theorem dX1_setIndex_5 : decode cX1_setIndex 5 = .ok (.arraylength, 1) := by decide +kernel
theorem dX1_setIndex_6 : decode cX1_setIndex 6 = .ok (.invokestatic 29, 3) := by decide +kernel
theorem dX1_setIndex_9 : decode cX1_setIndex 9 = .ok (.iload_n 2, 1) := by decide +kernel
theorem dX1_setIndex_10 : decode cX1_setIndex 10 = .ok (.bipush 10, 2) := by decide +kernel
theorem dX1_setIndex_12 : decode cX1_setIndex 12 = .ok (.sipush 999, 3) := by decide +kernel
theorem dX1_setIndex_15 : decode cX1_setIndex 15 = .ok (.invokestatic 33, 3) := by decide +kernel
theorem dX1_setIndex_18 : decode cX1_setIndex 18 = .ok (.aload_n 0, 1) := by decide +kernel
theorem dX1_setIndex_19 : decode cX1_setIndex 19 = .ok (.getfield 13, 3) := by decide +kernel
theorem dX1_setIndex_22 : decode cX1_setIndex 22 = .ok (.iload_n 1, 1) := by decide +kernel
theorem dX1_setIndex_23 : decode cX1_setIndex 23 = .ok (.iaload, 1) := by decide +kernel
theorem dX1_setIndex_24 : decode cX1_setIndex 24 = .ok (.istore_n 3, 1) := by decide +kernel
theorem dX1_setIndex_25 : decode cX1_setIndex 25 = .ok (.aload_n 0, 1) := by decide +kernel
theorem dX1_setIndex_26 : decode cX1_setIndex 26 = .ok (.getfield 13, 3) := by decide +kernel
theorem dX1_setIndex_29 : decode cX1_setIndex 29 = .ok (.iload_n 1, 1) := by decide +kernel
theorem dX1_setIndex_30 : decode cX1_setIndex 30 = .ok (.iload_n 2, 1) := by decide +kernel
theorem dX1_setIndex_31 : decode cX1_setIndex 31 = .ok (.iastore, 1) := by decide +kernel
theorem dX1_setIndex_32 : decode cX1_setIndex 32 = .ok (.iload_n 3, 1) := by decide +kernel
theorem dX1_setIndex_33 : decode cX1_setIndex 33 = .ok (.ireturn, 1) := by decide +kernel
set_option maxRecDepth 20000 in
theorem ggX1_setCost_X1_checkNumber : GoodIn wsX1_setCost wsX1_checkNumber := goodIn_ca (goodIn_r _ [6, 7, 8] (by decide +kernel) (by decide +kernel)) (goodIn_sub (fun _ h => List.mem_cons_of_mem _ (List.mem_append_left _ (List.mem_append_right _ h))) (by decide +kernel))
set_option maxRecDepth 20000 in
theorem gX1_setCost_X1_checkNumber : GoodIn wsX1_setCost (va_wsS RX1 29 yX1_checkNumber wsX1_checkNumber) := goodIn_app (goodIn_of _ (by decide +kernel)) ggX1_setCost_X1_checkNumber
set_option maxRecDepth 20000 in
theorem ggX1_setCost_X1_checkRange : GoodIn wsX1_setCost wsX1_checkRange := goodIn_ca (goodIn_r _ [11, 12, 13] (by decide +kernel) (by decide +kernel)) (goodIn_sub (fun _ h => List.mem_cons_of_mem _ (List.mem_append_right _ h)) (by decide +kernel))
set_option maxRecDepth 20000 in
theorem gX1_setCost_X1_checkRange : GoodIn wsX1_setCost (va_wsS RX1 33 yX1_checkRange wsX1_checkRange) := goodIn_app (goodIn_of _ (by decide +kernel)) ggX1_setCost_X1_checkRange
theorem dX1_setCost_0 : decode cX1_setCost 0 = .ok (.iload_n 1, 1) := by decide +kernel
theorem dX1_setCost_1 : decode cX1_setCost 1 = .ok (.aload_n 0, 1) := by decide +kernel
theorem dX1_setCost_2 : decode cX1_setCost 2 = .ok (.getfield 16, 3) := by decide +kernel
theorem dX1_setCost_5 : decode cX1_setCost 5 = .ok (.arraylength, 1) := by decide +kernel
theorem dX1_setCost_6 : decode cX1_setCost 6 = .ok (.invokestatic 29, 3) := by decide +kernel
theorem dX1_setCost_9 : decode cX1_setCost 9 = .ok (.iload_n 2, 1) := by decide +kernel
theorem dX1_setCost_10 : decode cX1_setCost 10 = .ok (.iconst 0, 1) := by decide +kernel
theorem dX1_setCost_11 : decode cX1_setCost 11 = .ok (.ldc 37, 2) := by decide +kernel
theorem dX1_setCost_13 : decode cX1_setCost 13 = .ok (.invokestatic 33, 3) := by decide +kernel
theorem dX1_setCost_16 : decode cX1_setCost 16 = .ok (.aload_n 0, 1) := by decide +kernel
theorem dX1_setCost_17 : decode cX1_setCost 17 = .ok (.getfield 16, 3) := by decide +kernel
theorem dX1_setCost_20 : decode cX1_setCost 20 = .ok (.iload_n 1, 1) := by decide +kernel
theorem dX1_setCost_21 : decode cX1_setCost 21 = .ok (.iaload, 1) := by decide +kernel
theorem dX1_setCost_22 : decode cX1_setCost 22 = .ok (.istore_n 3, 1) := by decide +kernel
theorem dX1_setCost_23 : decode cX1_setCost 23 = .ok (.aload_n 0, 1) := by decide +kernel
theorem dX1_setCost_24 : decode cX1_setCost 24 = .ok (.getfield 16, 3) := by decide +kernel
theorem dX1_setCost_27 : decode cX1_setCost 27 = .ok (.iload_n 1, 1) := by decide +kernel
theorem dX1_setCost_28 : decode cX1_setCost 28 = .ok (.iload_n 2, 1) := by decide +kernel
theorem dX1_setCost_29 : decode cX1_setCost 29 = .ok (.iastore, 1) := by decide +kernel
theorem dX1_setCost_30 : decode cX1_setCost 30 = .ok (.iload_n 3, 1) := by decide +kernel
theorem dX1_setCost_31 : decode cX1_setCost 31 = .ok (.ireturn, 1) := by decide +kernel
set_option maxRecDepth 20000 in
theorem ggX1_let_X1_checkNumber : GoodIn wsX1_let wsX1_checkNumber := goodIn_ca (goodIn_r _ [13, 14, 15] (by decide +kernel) (by decide +kernel)) (goodIn_sub (fun _ h => List.mem_cons_of_mem _ (List.mem_append_left _ (List.mem_append_right _ h))) (by decide +kernel))
set_option maxRecDepth 20000 in
theorem gX1_let_X1_checkNumber : GoodIn wsX1_let (va_wsS RX1 29 yX1_checkNumber wsX1_checkNumber) := goodIn_app (goodIn_of _ (by decide +kernel)) ggX1_let_X1_checkNumber
set_option maxRecDepth 20000 in
theorem ggX1_let_X1_checkRange : GoodIn wsX1_let wsX1_checkRange := goodIn_ca (goodIn_r _ [18, 19, 20] (by decide +kernel) (by decide +kernel)) (goodIn_sub (fun _ h => List.mem_cons_of_mem _ (List.mem_append_right _ h)) (by decide +kernel))
set_option maxRecDepth 20000 in
theorem gX1_let_X1_checkRange : GoodIn wsX1_let (va_wsS RX1 33 yX1_checkRange wsX1_checkRange) := goodIn_app (goodIn_of _ (by decide +kernel)) ggX1_let_X1_checkRange
set_option maxRecDepth 20000 in
theorem ggX1_let_X1_daysLet : GoodIn wsX1_let wsX1_daysLet := goodIn_r _ [24, 6, 25, 26, 27, 9, 28, 29, 30, 31, 32, 33, 34, 35, 36, 37, 55, 56, 57, 58, 59, 60, 61, 62, 63, 64, 65, 66, 67, 68, 69, 70, 71] (by decide +kernel) (by decide +kernel)
set_option maxRecDepth 20000 in
theorem gX1_let_X1_daysLet : GoodIn wsX1_let (wsV RX1 46 RX1 yX1_daysLet wsX1_daysLet) := goodIn_app (goodIn_of _ (by decide +kernel)) ggX1_let_X1_daysLet
set_option maxRecDepth 20000 in
theorem ggX1_let_X0_init : GoodIn wsX1_let wsX0_init := goodIn_r _ [40, 41, 42, 43, 44, 45, 46, 47, 48, 49, 50, 51, 52, 53, 34, 29, 54, 60, 61, 62, 63, 64, 65, 66, 67, 68, 69, 70, 71] (by decide +kernel) (by decide +kernel)
set_option maxRecDepth 20000 in
theorem gX1_let_X0_init : GoodIn wsX1_let (wsX0_init) := ggX1_let_X0_init
theorem dX1_let_0 : decode cX1_let 0 = .ok (.iload_n 1, 1) := by decide +kernel
theorem dX1_let_1 : decode cX1_let 1 = .ok (.aload_n 0, 1) := by decide +kernel
theorem dX1_let_2 : decode cX1_let 2 = .ok (.getfield 9, 3) := by decide +kernel
theorem dX1_let_5 : decode cX1_let 5 = .ok (.arraylength, 1) := by decide +kernel
theorem dX1_let_6 : decode cX1_let 6 = .ok (.invokestatic 29, 3) := by decide +kernel
theorem dX1_let_9 : decode cX1_let 9 = .ok (.iload_n 2, 1) := by decide +kernel
theorem dX1_let_10 : decode cX1_let 10 = .ok (.iconst 0, 1) := by decide +kernel
theorem dX1_let_11 : decode cX1_let 11 = .ok (.sipush 7199, 3) := by decide +kernel
theorem dX1_let_14 : decode cX1_let 14 = .ok (.invokestatic 33, 3) := by decide +kernel
theorem dX1_let_17 : decode cX1_let 17 = .ok (.iload_n 3, 1) := by decide +kernel
theorem dX1_let_18 : decode cX1_let 18 = .ok (.iload_n 2, 1) := by decide +kernel
theorem dX1_let_19 : decode cX1_let 19 = .ok (.iconst 1, 1) := by decide +kernel
theorem dX1_let_20 : decode cX1_let 20 = .ok (.iadd, 1) := by decide +kernel
theorem dX1_let_21 : decode cX1_let 21 = .ok (.sipush 7200, 3) := by decide +kernel
theorem dX1_let_24 : decode cX1_let 24 = .ok (.invokestatic 33, 3) := by decide +kernel
theorem dX1_let_27 : decode cX1_let 27 = .ok (.iload 4, 2) := by decide +kernel
theorem dX1_let_29 : decode cX1_let 29 = .ok (.iconst 1, 1) := by decide +kernel
theorem dX1_let_30 : decode cX1_let 30 = .ok (.ldc 38, 2) := by decide +kernel
theorem dX1_let_32 : decode cX1_let 32 = .ok (.invokestatic 33, 3) := by decide +kernel
theorem dX1_let_35 : decode cX1_let 35 = .ok (.aload_n 0, 1) := by decide +kernel
theorem dX1_let_36 : decode cX1_let 36 = .ok (.getfield 25, 3) := by decide +kernel
theorem dX1_let_39 : decode cX1_let 39 = .ok (.aload_n 0, 1) := by decide +kernel
theorem dX1_let_40 : decode cX1_let 40 = .ok (.getfield 21, 3) := by decide +kernel
theorem dX1_let_43 : decode cX1_let 43 = .ok (.arraylength, 1) := by decide +kernel
theorem dX1_let_44 : decode cX1_let 44 = .ok (.if_icmp .lt 13, 3) := by decide +kernel
theorem dX1_let_47 : decode cX1_let 47 = .ok (.new 39, 3) := by decide +kernel
theorem dX1_let_50 : decode cX1_let 50 = .ok (.dup, 1) := by decide +kernel
theorem dX1_let_51 : decode cX1_let 51 = .ok (.ldc 41, 2) := by decide +kernel
theorem dX1_let_53 : decode cX1_let 53 = .ok (.invokespecial 43, 3) := by decide +kernel
theorem dX1_let_56 : decode cX1_let 56 = .ok (.athrow, 1) := by decide +kernel
theorem dX1_let_57 : decode cX1_let 57 = .ok (.aload_n 0, 1) := by decide +kernel
theorem dX1_let_58 : decode cX1_let 58 = .ok (.iload_n 1, 1) := by decide +kernel
theorem dX1_let_59 : decode cX1_let 59 = .ok (.iload_n 2, 1) := by decide +kernel
theorem dX1_let_60 : decode cX1_let 60 = .ok (.iload_n 3, 1) := by decide +kernel
theorem dX1_let_61 : decode cX1_let 61 = .ok (.invokevirtual 46, 3) := by decide +kernel
theorem dX1_let_64 : decode cX1_let 64 = .ok (.ifCond .le 13, 3) := by decide +kernel
theorem dX1_let_67 : decode cX1_let 67 = .ok (.new 39, 3) := by decide +kernel
theorem dX1_let_70 : decode cX1_let 70 = .ok (.dup, 1) := by decide +kernel
theorem dX1_let_71 : decode cX1_let 71 = .ok (.ldc 50, 2) := by decide +kernel
theorem dX1_let_73 : decode cX1_let 73 = .ok (.invokespecial 43, 3) := by decide +kernel
theorem dX1_let_76 : decode cX1_let 76 = .ok (.athrow, 1) := by decide +kernel
theorem dX1_let_77 : decode cX1_let 77 = .ok (.aload_n 0, 1) := by decide +kernel
theorem dX1_let_78 : decode cX1_let 78 = .ok (.getfield 25, 3) := by decide +kernel
theorem dX1_let_81 : decode cX1_let 81 = .ok (.istore 5, 2) := by decide +kernel
theorem dX1_let_83 : decode cX1_let 83 = .ok (.aload_n 0, 1) := by decide +kernel
theorem dX1_let_84 : decode cX1_let 84 = .ok (.getfield 21, 3) := by decide +kernel
theorem dX1_let_87 : decode cX1_let 87 = .ok (.iload 5, 2) := by decide +kernel
theorem dX1_let_89 : decode cX1_let 89 = .ok (.new 19, 3) := by decide +kernel
theorem dX1_let_92 : decode cX1_let 92 = .ok (.dup, 1) := by decide +kernel
theorem dX1_let_93 : decode cX1_let 93 = .ok (.iload_n 1, 1) := by decide +kernel
theorem dX1_let_94 : decode cX1_let 94 = .ok (.iload_n 2, 1) := by decide +kernel
theorem dX1_let_95 : decode cX1_let 95 = .ok (.iload_n 3, 1) := by decide +kernel
theorem dX1_let_96 : decode cX1_let 96 = .ok (.iload 4, 2) := by decide +kernel
theorem dX1_let_98 : decode cX1_let 98 = .ok (.invokespecial 52, 3) := by decide +kernel
theorem dX1_let_101 : decode cX1_let 101 = .ok (.aastore, 1) := by decide +kernel
theorem dX1_let_102 : decode cX1_let 102 = .ok (.aload_n 0, 1) := by decide +kernel
theorem dX1_let_103 : decode cX1_let 103 = .ok (.iload 5, 2) := by decide +kernel
theorem dX1_let_105 : decode cX1_let 105 = .ok (.iconst 1, 1) := by decide +kernel
theorem dX1_let_106 : decode cX1_let 106 = .ok (.iadd, 1) := by decide +kernel
theorem dX1_let_107 : decode cX1_let 107 = .ok (.putfield 25, 3) := by decide +kernel
theorem dX1_let_110 : decode cX1_let 110 = .ok (.iload 5, 2) := by decide +kernel
theorem dX1_let_112 : decode cX1_let 112 = .ok (.ireturn, 1) := by decide +kernel
set_option maxRecDepth 20000 in
theorem ggX1_end_X1_find : GoodIn wsX1_end wsX1_find := goodIn_ca (goodIn_r _ [5, 6, 7, 8, 9, 10, 4, 11, 29, 30, 31, 32, 33] (by decide +kernel) (by decide +kernel)) (goodIn_sub (fun _ h => List.mem_cons_of_mem _ (List.mem_append_left _ (List.mem_append_right _ h))) (by decide +kernel))
set_option maxRecDepth 20000 in
theorem gX1_end_X1_find : GoodIn wsX1_end (wsV RX1 55 RX1 yX1_find wsX1_find) := goodIn_app (goodIn_of _ (by decide +kernel)) ggX1_end_X1_find
set_option maxRecDepth 20000 in
theorem ggX1_end_X1_checkRange : GoodIn wsX1_end wsX1_checkRange := goodIn_ca (goodIn_r _ [14, 15, 16] (by decide +kernel) (by decide +kernel)) (goodIn_sub (fun _ h => List.mem_cons_of_mem _ (List.mem_append_right _ h)) (by decide +kernel))
set_option maxRecDepth 20000 in
theorem gX1_end_X1_checkRange : GoodIn wsX1_end (va_wsS RX1 33 yX1_checkRange wsX1_checkRange) := goodIn_app (goodIn_of _ (by decide +kernel)) ggX1_end_X1_checkRange
theorem dX1_end_0 : decode cX1_end 0 = .ok (.aload_n 0, 1) := by decide +kernel
theorem dX1_end_1 : decode cX1_end 1 = .ok (.iload_n 1, 1) := by decide +kernel
theorem dX1_end_2 : decode cX1_end 2 = .ok (.invokevirtual 55, 3) := by decide +kernel
theorem dX1_end_5 : decode cX1_end 5 = .ok (.astore_n 3, 1) := by decide +kernel
theorem dX1_end_6 : decode cX1_end 6 = .ok (.iload_n 2, 1) := by decide +kernel
theorem dX1_end_7 : decode cX1_end 7 = .ok (.aload_n 3, 1) := by decide +kernel
theorem dX1_end_8 : decode cX1_end 8 = .ok (.getfield 59, 3) := by decide +kernel
theorem dX1_end_11 : decode cX1_end 11 = .ok (.iconst 1, 1) := by decide +kernel
theorem dX1_end_12 : decode cX1_end 12 = .ok (.iadd, 1) := by decide +kernel
theorem dX1_end_13 : decode cX1_end 13 = .ok (.aload_n 3, 1) := by decide +kernel
theorem dX1_end_14 : decode cX1_end 14 = .ok (.getfield 62, 3) := by decide +kernel
theorem dX1_end_17 : decode cX1_end 17 = .ok (.iconst 1, 1) := by decide +kernel
theorem dX1_end_18 : decode cX1_end 18 = .ok (.isub, 1) := by decide +kernel
theorem dX1_end_19 : decode cX1_end 19 = .ok (.invokestatic 33, 3) := by decide +kernel
theorem dX1_end_22 : decode cX1_end 22 = .ok (.aload_n 3, 1) := by decide +kernel
theorem dX1_end_23 : decode cX1_end 23 = .ok (.getfield 62, 3) := by decide +kernel
theorem dX1_end_26 : decode cX1_end 26 = .ok (.istore 4, 2) := by decide +kernel
theorem dX1_end_28 : decode cX1_end 28 = .ok (.aload_n 3, 1) := by decide +kernel
theorem dX1_end_29 : decode cX1_end 29 = .ok (.iload_n 2, 1) := by decide +kernel
theorem dX1_end_30 : decode cX1_end 30 = .ok (.putfield 62, 3) := by decide +kernel
theorem dX1_end_33 : decode cX1_end 33 = .ok (.iload 4, 2) := by decide +kernel
theorem dX1_end_35 : decode cX1_end 35 = .ok (.ireturn, 1) := by decide +kernel
set_option maxRecDepth 20000 in
theorem ggX1_step_X1_find : GoodIn wsX1_step wsX1_find := goodIn_ca (goodIn_r _ [8, 9, 10, 11, 12, 13, 7, 14, 44, 45, 46, 47, 48] (by decide +kernel) (by decide +kernel)) (goodIn_sub (fun _ h => List.mem_cons_of_mem _ (List.mem_append_left _ (List.mem_append_right _ h))) (by decide +kernel))
set_option maxRecDepth 20000 in
theorem gX1_step_X1_find : GoodIn wsX1_step (wsV RX1 55 RX1 yX1_find wsX1_find) := goodIn_app (goodIn_of _ (by decide +kernel)) ggX1_step_X1_find
set_option maxRecDepth 20000 in
theorem ggX1_step_X1_checkRange : GoodIn wsX1_step wsX1_checkRange := goodIn_ca (goodIn_r _ [17, 18, 19] (by decide +kernel) (by decide +kernel)) (goodIn_sub (fun _ h => List.mem_cons_of_mem _ (List.mem_append_right _ h)) (by decide +kernel))
set_option maxRecDepth 20000 in
theorem gX1_step_X1_checkRange : GoodIn wsX1_step (va_wsS RX1 33 yX1_checkRange wsX1_checkRange) := goodIn_app (goodIn_of _ (by decide +kernel)) ggX1_step_X1_checkRange
set_option maxRecDepth 20000 in
theorem ggX1_step_X0_putStep : GoodIn wsX1_step wsX0_putStep := goodIn_r _ [24, 25, 26, 27, 28, 29, 30, 31, 32, 33, 34, 35, 36, 37, 38, 39, 40, 41, 42, 43] (by decide +kernel) (by decide +kernel)
set_option maxRecDepth 20000 in
theorem gX1_step_X0_putStep : GoodIn wsX1_step (wsV RX1 65 RX0 yX0_putStep wsX0_putStep) := goodIn_app (goodIn_of _ (by decide +kernel)) ggX1_step_X0_putStep
theorem dX1_step_0 : decode cX1_step 0 = .ok (.aload_n 0, 1) := by decide +kernel
theorem dX1_step_1 : decode cX1_step 1 = .ok (.iload_n 1, 1) := by decide +kernel
theorem dX1_step_2 : decode cX1_step 2 = .ok (.invokevirtual 55, 3) := by decide +kernel
theorem dX1_step_5 : decode cX1_step 5 = .ok (.astore 4, 2) := by decide +kernel
theorem dX1_step_7 : decode cX1_step 7 = .ok (.iload_n 2, 1) := by decide +kernel
theorem dX1_step_8 : decode cX1_step 8 = .ok (.aload 4, 2) := by decide +kernel
theorem dX1_step_10 : decode cX1_step 10 = .ok (.getfield 59, 3) := by decide +kernel
theorem dX1_step_13 : decode cX1_step 13 = .ok (.iconst 1, 1) := by decide +kernel
theorem dX1_step_14 : decode cX1_step 14 = .ok (.iadd, 1) := by decide +kernel
theorem dX1_step_15 : decode cX1_step 15 = .ok (.aload 4, 2) := by decide +kernel
theorem dX1_step_17 : decode cX1_step 17 = .ok (.getfield 62, 3) := by decide +kernel
theorem dX1_step_20 : decode cX1_step 20 = .ok (.iconst 1, 1) := by decide +kernel
theorem dX1_step_21 : decode cX1_step 21 = .ok (.isub, 1) := by decide +kernel
theorem dX1_step_22 : decode cX1_step 22 = .ok (.invokestatic 33, 3) := by decide +kernel
theorem dX1_step_25 : decode cX1_step 25 = .ok (.iload_n 3, 1) := by decide +kernel
theorem dX1_step_26 : decode cX1_step 26 = .ok (.iconst 1, 1) := by decide +kernel
theorem dX1_step_27 : decode cX1_step 27 = .ok (.ldc 38, 2) := by decide +kernel
theorem dX1_step_29 : decode cX1_step 29 = .ok (.invokestatic 33, 3) := by decide +kernel
theorem dX1_step_32 : decode cX1_step 32 = .ok (.aload 4, 2) := by decide +kernel
theorem dX1_step_34 : decode cX1_step 34 = .ok (.iload_n 2, 1) := by decide +kernel
theorem dX1_step_35 : decode cX1_step 35 = .ok (.iload_n 3, 1) := by decide +kernel
theorem dX1_step_36 : decode cX1_step 36 = .ok (.invokevirtual 65, 3) := by decide +kernel
theorem dX1_step_39 : decode cX1_step 39 = .ok (.ifCond .ne 13, 3) := by decide +kernel
theorem dX1_step_42 : decode cX1_step 42 = .ok (.new 39, 3) := by decide +kernel
theorem dX1_step_45 : decode cX1_step 45 = .ok (.dup, 1) := by decide +kernel
theorem dX1_step_46 : decode cX1_step 46 = .ok (.ldc 69, 2) := by decide +kernel
theorem dX1_step_48 : decode cX1_step 48 = .ok (.invokespecial 43, 3) := by decide +kernel
theorem dX1_step_51 : decode cX1_step 51 = .ok (.athrow, 1) := by decide +kernel
theorem dX1_step_52 : decode cX1_step 52 = .ok (.aload 4, 2) := by decide +kernel
theorem dX1_step_54 : decode cX1_step 54 = .ok (.getfield 71, 3) := by decide +kernel
theorem dX1_step_57 : decode cX1_step 57 = .ok (.ireturn, 1) := by decide +kernel
set_option maxRecDepth 20000 in
theorem ggX1_setTerms_X1_find : GoodIn wsX1_setTerms wsX1_find := goodIn_ca (goodIn_r _ [5, 6, 7, 8, 9, 10, 4, 11, 29, 30, 31, 32, 33] (by decide +kernel) (by decide +kernel)) (goodIn_sub (fun _ h => List.mem_cons_of_mem _ (List.mem_append_left _ (List.mem_append_right _ h))) (by decide +kernel))
set_option maxRecDepth 20000 in
theorem gX1_setTerms_X1_find : GoodIn wsX1_setTerms (wsV RX1 55 RX1 yX1_find wsX1_find) := goodIn_app (goodIn_of _ (by decide +kernel)) ggX1_setTerms_X1_find
set_option maxRecDepth 20000 in
theorem ggX1_setTerms_X1_checkRange : GoodIn wsX1_setTerms wsX1_checkRange := goodIn_ca (goodIn_r _ [14, 15, 16] (by decide +kernel) (by decide +kernel)) (goodIn_sub (fun _ h => List.mem_cons_of_mem _ (List.mem_append_right _ h)) (by decide +kernel))
set_option maxRecDepth 20000 in
theorem gX1_setTerms_X1_checkRange : GoodIn wsX1_setTerms (va_wsS RX1 33 yX1_checkRange wsX1_checkRange) := goodIn_app (goodIn_of _ (by decide +kernel)) ggX1_setTerms_X1_checkRange
theorem dX1_setTerms_0 : decode cX1_setTerms 0 = .ok (.aload_n 0, 1) := by decide +kernel
theorem dX1_setTerms_1 : decode cX1_setTerms 1 = .ok (.iload_n 1, 1) := by decide +kernel
theorem dX1_setTerms_2 : decode cX1_setTerms 2 = .ok (.invokevirtual 55, 3) := by decide +kernel
theorem dX1_setTerms_5 : decode cX1_setTerms 5 = .ok (.astore 4, 2) := by decide +kernel
theorem dX1_setTerms_7 : decode cX1_setTerms 7 = .ok (.iload_n 2, 1) := by decide +kernel
theorem dX1_setTerms_8 : decode cX1_setTerms 8 = .ok (.iconst 0, 1) := by decide +kernel
theorem dX1_setTerms_9 : decode cX1_setTerms 9 = .ok (.sipush 720, 3) := by decide +kernel
theorem dX1_setTerms_12 : decode cX1_setTerms 12 = .ok (.invokestatic 33, 3) := by decide +kernel
theorem dX1_setTerms_15 : decode cX1_setTerms 15 = .ok (.iload_n 3, 1) := by decide +kernel
theorem dX1_setTerms_16 : decode cX1_setTerms 16 = .ok (.ifCond .eq 12, 3) := by decide +kernel
theorem dX1_setTerms_19 : decode cX1_setTerms 19 = .ok (.iload_n 3, 1) := by decide +kernel
theorem dX1_setTerms_20 : decode cX1_setTerms 20 = .ok (.bipush 30, 2) := by decide +kernel
theorem dX1_setTerms_22 : decode cX1_setTerms 22 = .ok (.sipush 1800, 3) := by decide +kernel
theorem dX1_setTerms_25 : decode cX1_setTerms 25 = .ok (.invokestatic 33, 3) := by decide +kernel
theorem dX1_setTerms_28 : decode cX1_setTerms 28 = .ok (.aload 4, 2) := by decide +kernel
theorem dX1_setTerms_30 : decode cX1_setTerms 30 = .ok (.iload_n 2, 1) := by decide +kernel
theorem dX1_setTerms_31 : decode cX1_setTerms 31 = .ok (.putfield 74, 3) := by decide +kernel
theorem dX1_setTerms_34 : decode cX1_setTerms 34 = .ok (.aload 4, 2) := by decide +kernel
theorem dX1_setTerms_36 : decode cX1_setTerms 36 = .ok (.iload_n 3, 1) := by decide +kernel
theorem dX1_setTerms_37 : decode cX1_setTerms 37 = .ok (.putfield 77, 3) := by decide +kernel
theorem dX1_setTerms_40 : decode cX1_setTerms 40 = .ok (.return_, 1) := by decide +kernel
set_option maxRecDepth 20000 in
theorem ggX1_setService_X1_find : GoodIn wsX1_setService wsX1_find := goodIn_ca (goodIn_r _ [6, 7, 8, 9, 10, 11, 5, 12, 30, 31, 32, 33, 34] (by decide +kernel) (by decide +kernel)) (goodIn_sub (fun _ h => List.mem_cons_of_mem _ (List.mem_append_left _ (List.mem_append_right _ h))) (by decide +kernel))
set_option maxRecDepth 20000 in
theorem gX1_setService_X1_find : GoodIn wsX1_setService (wsV RX1 55 RX1 yX1_find wsX1_find) := goodIn_app (goodIn_of _ (by decide +kernel)) ggX1_setService_X1_find
set_option maxRecDepth 20000 in
theorem ggX1_setService_X1_checkRange : GoodIn wsX1_setService wsX1_checkRange := goodIn_ca (goodIn_r _ [15, 16, 17] (by decide +kernel) (by decide +kernel)) (goodIn_sub (fun _ h => List.mem_cons_of_mem _ (List.mem_append_right _ h)) (by decide +kernel))
set_option maxRecDepth 20000 in
theorem gX1_setService_X1_checkRange : GoodIn wsX1_setService (va_wsS RX1 33 yX1_checkRange wsX1_checkRange) := goodIn_app (goodIn_of _ (by decide +kernel)) ggX1_setService_X1_checkRange
theorem dX1_setService_0 : decode cX1_setService 0 = .ok (.aload_n 0, 1) := by decide +kernel
theorem dX1_setService_1 : decode cX1_setService 1 = .ok (.iload_n 1, 1) := by decide +kernel
theorem dX1_setService_2 : decode cX1_setService 2 = .ok (.invokevirtual 55, 3) := by decide +kernel
theorem dX1_setService_5 : decode cX1_setService 5 = .ok (.astore 4, 2) := by decide +kernel
theorem dX1_setService_7 : decode cX1_setService 7 = .ok (.iload_n 2, 1) := by decide +kernel
theorem dX1_setService_8 : decode cX1_setService 8 = .ok (.iconst (-1), 1) := by decide +kernel
theorem dX1_setService_9 : decode cX1_setService 9 = .ok (.if_icmp .eq 10, 3) := by decide +kernel
theorem dX1_setService_12 : decode cX1_setService 12 = .ok (.iload_n 2, 1) := by decide +kernel
theorem dX1_setService_13 : decode cX1_setService 13 = .ok (.iconst 0, 1) := by decide +kernel
theorem dX1_setService_14 : decode cX1_setService 14 = .ok (.ldc 37, 2) := by decide +kernel
theorem dX1_setService_16 : decode cX1_setService 16 = .ok (.invokestatic 33, 3) := by decide +kernel
theorem dX1_setService_19 : decode cX1_setService 19 = .ok (.iload_n 3, 1) := by decide +kernel
theorem dX1_setService_20 : decode cX1_setService 20 = .ok (.iconst 0, 1) := by decide +kernel
theorem dX1_setService_21 : decode cX1_setService 21 = .ok (.sipush 9999, 3) := by decide +kernel
theorem dX1_setService_24 : decode cX1_setService 24 = .ok (.invokestatic 33, 3) := by decide +kernel
theorem dX1_setService_27 : decode cX1_setService 27 = .ok (.aload 4, 2) := by decide +kernel
theorem dX1_setService_29 : decode cX1_setService 29 = .ok (.iload_n 2, 1) := by decide +kernel
theorem dX1_setService_30 : decode cX1_setService 30 = .ok (.putfield 80, 3) := by decide +kernel
theorem dX1_setService_33 : decode cX1_setService 33 = .ok (.aload 4, 2) := by decide +kernel
theorem dX1_setService_35 : decode cX1_setService 35 = .ok (.iload_n 3, 1) := by decide +kernel
theorem dX1_setService_36 : decode cX1_setService 36 = .ok (.putfield 83, 3) := by decide +kernel
theorem dX1_setService_39 : decode cX1_setService 39 = .ok (.return_, 1) := by decide +kernel
set_option maxRecDepth 20000 in
theorem ggX1_topUp_X1_find : GoodIn wsX1_topUp wsX1_find := goodIn_ca (goodIn_r _ [9, 10, 11, 12, 13, 14, 8, 15, 70, 71, 72, 73, 74] (by decide +kernel) (by decide +kernel)) (goodIn_sub (fun _ h => List.mem_cons_of_mem _ (List.mem_append_left _ (List.mem_append_right _ h))) (by decide +kernel))
set_option maxRecDepth 20000 in
theorem gX1_topUp_X1_find : GoodIn wsX1_topUp (wsV RX1 55 RX1 yX1_find wsX1_find) := goodIn_app (goodIn_of _ (by decide +kernel)) ggX1_topUp_X1_find
set_option maxRecDepth 20000 in
theorem ggX1_topUp_X1_checkRange : GoodIn wsX1_topUp wsX1_checkRange := goodIn_ca (goodIn_r _ [18, 19, 20] (by decide +kernel) (by decide +kernel)) (goodIn_sub (fun _ h => List.mem_cons_of_mem _ (List.mem_append_right _ h)) (by decide +kernel))
set_option maxRecDepth 20000 in
theorem gX1_topUp_X1_checkRange : GoodIn wsX1_topUp (va_wsS RX1 33 yX1_checkRange wsX1_checkRange) := goodIn_app (goodIn_of _ (by decide +kernel)) ggX1_topUp_X1_checkRange
set_option maxRecDepth 20000 in
theorem ggX1_topUp_X1_rentFor : GoodIn wsX1_topUp wsX1_rentFor := goodIn_r _ [24, 25, 1, 2, 3, 4, 26, 27, 28, 29, 30, 31, 32, 33, 34, 35, 36, 37, 38, 39, 40, 41, 42, 43, 44, 45, 46, 47, 8, 48, 49, 50, 51, 52, 53, 54, 55, 56, 57, 70, 71, 72, 73, 74, 58, 59, 60, 61, 62, 63, 64, 65, 66, 67, 68, 69] (by decide +kernel) (by decide +kernel)
set_option maxRecDepth 20000 in
theorem gX1_topUp_X1_rentFor : GoodIn wsX1_topUp (wsV RX1 86 RX1 yX1_rentFor wsX1_rentFor) := goodIn_app (goodIn_of _ (by decide +kernel)) ggX1_topUp_X1_rentFor
theorem dX1_topUp_0 : decode cX1_topUp 0 = .ok (.aload_n 0, 1) := by decide +kernel
theorem dX1_topUp_1 : decode cX1_topUp 1 = .ok (.iload_n 1, 1) := by decide +kernel
theorem dX1_topUp_2 : decode cX1_topUp 2 = .ok (.invokevirtual 55, 3) := by decide +kernel
theorem dX1_topUp_5 : decode cX1_topUp 5 = .ok (.astore 4, 2) := by decide +kernel
theorem dX1_topUp_7 : decode cX1_topUp 7 = .ok (.iload_n 2, 1) := by decide +kernel
theorem dX1_topUp_8 : decode cX1_topUp 8 = .ok (.aload 4, 2) := by decide +kernel
theorem dX1_topUp_10 : decode cX1_topUp 10 = .ok (.getfield 59, 3) := by decide +kernel
theorem dX1_topUp_13 : decode cX1_topUp 13 = .ok (.aload 4, 2) := by decide +kernel
theorem dX1_topUp_15 : decode cX1_topUp 15 = .ok (.getfield 62, 3) := by decide +kernel
theorem dX1_topUp_18 : decode cX1_topUp 18 = .ok (.iconst 1, 1) := by decide +kernel
theorem dX1_topUp_19 : decode cX1_topUp 19 = .ok (.isub, 1) := by decide +kernel
theorem dX1_topUp_20 : decode cX1_topUp 20 = .ok (.invokestatic 33, 3) := by decide +kernel
theorem dX1_topUp_23 : decode cX1_topUp 23 = .ok (.iload_n 3, 1) := by decide +kernel
theorem dX1_topUp_24 : decode cX1_topUp 24 = .ok (.iconst 1, 1) := by decide +kernel
theorem dX1_topUp_25 : decode cX1_topUp 25 = .ok (.bipush 6, 2) := by decide +kernel
theorem dX1_topUp_27 : decode cX1_topUp 27 = .ok (.invokestatic 33, 3) := by decide +kernel
theorem dX1_topUp_30 : decode cX1_topUp 30 = .ok (.iconst 0, 1) := by decide +kernel
theorem dX1_topUp_31 : decode cX1_topUp 31 = .ok (.iload_n 3, 1) := by decide +kernel
theorem dX1_topUp_32 : decode cX1_topUp 32 = .ok (.aload_n 0, 1) := by decide +kernel
theorem dX1_topUp_33 : decode cX1_topUp 33 = .ok (.aload 4, 2) := by decide +kernel
theorem dX1_topUp_35 : decode cX1_topUp 35 = .ok (.iload_n 2, 1) := by decide +kernel
theorem dX1_topUp_36 : decode cX1_topUp 36 = .ok (.invokevirtual 86, 3) := by decide +kernel
theorem dX1_topUp_39 : decode cX1_topUp 39 = .ok (.imul, 1) := by decide +kernel
theorem dX1_topUp_40 : decode cX1_topUp 40 = .ok (.aload 4, 2) := by decide +kernel
theorem dX1_topUp_42 : decode cX1_topUp 42 = .ok (.getfield 90, 3) := by decide +kernel
theorem dX1_topUp_45 : decode cX1_topUp 45 = .ok (.isub, 1) := by decide +kernel
theorem dX1_topUp_46 : decode cX1_topUp 46 = .ok (.invokestatic 93, 3) := by decide +kernel
theorem dX1_topUp_49 : decode cX1_topUp 49 = .ok (.istore 5, 2) := by decide +kernel
theorem dX1_topUp_51 : decode cX1_topUp 51 = .ok (.aload 4, 2) := by decide +kernel
theorem dX1_topUp_53 : decode cX1_topUp 53 = .ok (.dup, 1) := by decide +kernel
theorem dX1_topUp_54 : decode cX1_topUp 54 = .ok (.getfield 90, 3) := by decide +kernel
theorem dX1_topUp_57 : decode cX1_topUp 57 = .ok (.iload 5, 2) := by decide +kernel
theorem dX1_topUp_59 : decode cX1_topUp 59 = .ok (.iadd, 1) := by decide +kernel
theorem dX1_topUp_60 : decode cX1_topUp 60 = .ok (.putfield 90, 3) := by decide +kernel
theorem dX1_topUp_63 : decode cX1_topUp 63 = .ok (.iload 5, 2) := by decide +kernel
theorem dX1_topUp_65 : decode cX1_topUp 65 = .ok (.ireturn, 1) := by decide +kernel
set_option maxRecDepth 20000 in
theorem ggX1_draw_X1_find : GoodIn wsX1_draw wsX1_find := goodIn_ca (goodIn_r _ [8, 9, 10, 11, 12, 13, 7, 14, 32, 33, 34, 35, 36] (by decide +kernel) (by decide +kernel)) (goodIn_sub (fun _ h => List.mem_cons_of_mem _ (List.mem_append_left _ (List.mem_append_right _ h))) (by decide +kernel))
set_option maxRecDepth 20000 in
theorem gX1_draw_X1_find : GoodIn wsX1_draw (wsV RX1 55 RX1 yX1_find wsX1_find) := goodIn_app (goodIn_of _ (by decide +kernel)) ggX1_draw_X1_find
set_option maxRecDepth 20000 in
theorem ggX1_draw_X1_checkRange : GoodIn wsX1_draw wsX1_checkRange := goodIn_ca (goodIn_r _ [17, 18, 19] (by decide +kernel) (by decide +kernel)) (goodIn_sub (fun _ h => List.mem_cons_of_mem _ (List.mem_append_right _ h)) (by decide +kernel))
set_option maxRecDepth 20000 in
theorem gX1_draw_X1_checkRange : GoodIn wsX1_draw (va_wsS RX1 33 yX1_checkRange wsX1_checkRange) := goodIn_app (goodIn_of _ (by decide +kernel)) ggX1_draw_X1_checkRange
theorem dX1_draw_0 : decode cX1_draw 0 = .ok (.aload_n 0, 1) := by decide +kernel
theorem dX1_draw_1 : decode cX1_draw 1 = .ok (.iload_n 1, 1) := by decide +kernel
theorem dX1_draw_2 : decode cX1_draw 2 = .ok (.invokevirtual 55, 3) := by decide +kernel
theorem dX1_draw_5 : decode cX1_draw 5 = .ok (.astore_n 3, 1) := by decide +kernel
theorem dX1_draw_6 : decode cX1_draw 6 = .ok (.iload_n 2, 1) := by decide +kernel
theorem dX1_draw_7 : decode cX1_draw 7 = .ok (.iconst 1, 1) := by decide +kernel
theorem dX1_draw_8 : decode cX1_draw 8 = .ok (.ldc 37, 2) := by decide +kernel
theorem dX1_draw_10 : decode cX1_draw 10 = .ok (.invokestatic 33, 3) := by decide +kernel
theorem dX1_draw_13 : decode cX1_draw 13 = .ok (.aload_n 3, 1) := by decide +kernel
theorem dX1_draw_14 : decode cX1_draw 14 = .ok (.getfield 90, 3) := by decide +kernel
theorem dX1_draw_17 : decode cX1_draw 17 = .ok (.iload_n 2, 1) := by decide +kernel
theorem dX1_draw_18 : decode cX1_draw 18 = .ok (.if_icmp .ge 13, 3) := by decide +kernel
theorem dX1_draw_21 : decode cX1_draw 21 = .ok (.new 39, 3) := by decide +kernel
theorem dX1_draw_24 : decode cX1_draw 24 = .ok (.dup, 1) := by decide +kernel
theorem dX1_draw_25 : decode cX1_draw 25 = .ok (.ldc 99, 2) := by decide +kernel
theorem dX1_draw_27 : decode cX1_draw 27 = .ok (.invokespecial 43, 3) := by decide +kernel
theorem dX1_draw_30 : decode cX1_draw 30 = .ok (.athrow, 1) := by decide +kernel
theorem dX1_draw_31 : decode cX1_draw 31 = .ok (.aload_n 3, 1) := by decide +kernel
theorem dX1_draw_32 : decode cX1_draw 32 = .ok (.dup, 1) := by decide +kernel
theorem dX1_draw_33 : decode cX1_draw 33 = .ok (.getfield 90, 3) := by decide +kernel
theorem dX1_draw_36 : decode cX1_draw 36 = .ok (.iload_n 2, 1) := by decide +kernel
theorem dX1_draw_37 : decode cX1_draw 37 = .ok (.isub, 1) := by decide +kernel
theorem dX1_draw_38 : decode cX1_draw 38 = .ok (.putfield 90, 3) := by decide +kernel
theorem dX1_draw_41 : decode cX1_draw 41 = .ok (.aload_n 3, 1) := by decide +kernel
theorem dX1_draw_42 : decode cX1_draw 42 = .ok (.getfield 90, 3) := by decide +kernel
theorem dX1_draw_45 : decode cX1_draw 45 = .ok (.ireturn, 1) := by decide +kernel
set_option maxRecDepth 20000 in
theorem ggX1_held_X1_find : GoodIn wsX1_held wsX1_find := goodIn_ca (goodIn_r _ [5, 6, 7, 8, 9, 10, 4, 11, 24, 25, 26, 27, 28] (by decide +kernel) (by decide +kernel)) (goodIn_sub (fun _ h => List.mem_cons_of_mem _ (List.mem_append_right _ h)) (by decide +kernel))
set_option maxRecDepth 20000 in
theorem gX1_held_X1_find : GoodIn wsX1_held (wsV RX1 55 RX1 yX1_find wsX1_find) := goodIn_app (goodIn_of _ (by decide +kernel)) ggX1_held_X1_find
theorem dX1_held_0 : decode cX1_held 0 = .ok (.aload_n 0, 1) := by decide +kernel
theorem dX1_held_1 : decode cX1_held 1 = .ok (.iload_n 1, 1) := by decide +kernel
theorem dX1_held_2 : decode cX1_held 2 = .ok (.invokevirtual 55, 3) := by decide +kernel
theorem dX1_held_5 : decode cX1_held 5 = .ok (.getfield 90, 3) := by decide +kernel
theorem dX1_held_8 : decode cX1_held 8 = .ok (.ireturn, 1) := by decide +kernel
theorem dX1_leases_0 : decode cX1_leases 0 = .ok (.aload_n 0, 1) := by decide +kernel
theorem dX1_leases_1 : decode cX1_leases 1 = .ok (.getfield 25, 3) := by decide +kernel
theorem dX1_leases_4 : decode cX1_leases 4 = .ok (.ireturn, 1) := by decide +kernel
set_option maxRecDepth 20000 in
theorem ggX1_leaseOn_X1_checkNumber : GoodIn wsX1_leaseOn wsX1_checkNumber := goodIn_ca (goodIn_r _ [6, 7, 8] (by decide +kernel) (by decide +kernel)) (goodIn_sub (fun _ h => List.mem_cons_of_mem _ (List.mem_append_right _ h)) (by decide +kernel))
set_option maxRecDepth 20000 in
theorem gX1_leaseOn_X1_checkNumber : GoodIn wsX1_leaseOn (va_wsS RX1 29 yX1_checkNumber wsX1_checkNumber) := goodIn_app (goodIn_of _ (by decide +kernel)) ggX1_leaseOn_X1_checkNumber
set_option maxRecDepth 20000 in
theorem ggX1_leaseOn_X0_runsOn : GoodIn wsX1_leaseOn wsX0_runsOn := goodIn_r _ [13, 14, 15, 21, 22, 23, 24, 25, 26, 27, 28, 29, 30, 31, 32] (by decide +kernel) (by decide +kernel)
set_option maxRecDepth 20000 in
theorem gX1_leaseOn_X0_runsOn : GoodIn wsX1_leaseOn (wsV RX1 104 RX0 yX0_runsOn wsX0_runsOn) := goodIn_app (goodIn_of _ (by decide +kernel)) ggX1_leaseOn_X0_runsOn
theorem dX1_leaseOn_0 : decode cX1_leaseOn 0 = .ok (.iload_n 1, 1) := by decide +kernel
theorem dX1_leaseOn_1 : decode cX1_leaseOn 1 = .ok (.aload_n 0, 1) := by decide +kernel
theorem dX1_leaseOn_2 : decode cX1_leaseOn 2 = .ok (.getfield 9, 3) := by decide +kernel
theorem dX1_leaseOn_5 : decode cX1_leaseOn 5 = .ok (.arraylength, 1) := by decide +kernel
theorem dX1_leaseOn_6 : decode cX1_leaseOn 6 = .ok (.invokestatic 29, 3) := by decide +kernel
theorem dX1_leaseOn_9 : decode cX1_leaseOn 9 = .ok (.iload_n 2, 1) := by decide +kernel
theorem dX1_leaseOn_10 : decode cX1_leaseOn 10 = .ok (.sipush 7200, 3) := by decide +kernel
theorem dX1_leaseOn_13 : decode cX1_leaseOn 13 = .ok (.invokestatic 29, 3) := by decide +kernel
theorem dX1_leaseOn_16 : decode cX1_leaseOn 16 = .ok (.iconst 0, 1) := by decide +kernel
theorem dX1_leaseOn_17 : decode cX1_leaseOn 17 = .ok (.istore_n 3, 1) := by decide +kernel
theorem dX1_leaseOn_18 : decode cX1_leaseOn 18 = .ok (.iload_n 3, 1) := by decide +kernel
theorem dX1_leaseOn_19 : decode cX1_leaseOn 19 = .ok (.aload_n 0, 1) := by decide +kernel
theorem dX1_leaseOn_20 : decode cX1_leaseOn 20 = .ok (.getfield 21, 3) := by decide +kernel
theorem dX1_leaseOn_23 : decode cX1_leaseOn 23 = .ok (.arraylength, 1) := by decide +kernel
theorem dX1_leaseOn_24 : decode cX1_leaseOn 24 = .ok (.if_icmp .ge 42, 3) := by decide +kernel
theorem dX1_leaseOn_27 : decode cX1_leaseOn 27 = .ok (.aload_n 0, 1) := by decide +kernel
theorem dX1_leaseOn_28 : decode cX1_leaseOn 28 = .ok (.getfield 21, 3) := by decide +kernel
theorem dX1_leaseOn_31 : decode cX1_leaseOn 31 = .ok (.iload_n 3, 1) := by decide +kernel
theorem dX1_leaseOn_32 : decode cX1_leaseOn 32 = .ok (.aaload, 1) := by decide +kernel
theorem dX1_leaseOn_33 : decode cX1_leaseOn 33 = .ok (.astore 4, 2) := by decide +kernel
theorem dX1_leaseOn_35 : decode cX1_leaseOn 35 = .ok (.aload 4, 2) := by decide +kernel
theorem dX1_leaseOn_37 : decode cX1_leaseOn 37 = .ok (.ifnull 23, 3) := by decide +kernel
theorem dX1_leaseOn_40 : decode cX1_leaseOn 40 = .ok (.aload 4, 2) := by decide +kernel
theorem dX1_leaseOn_42 : decode cX1_leaseOn 42 = .ok (.getfield 101, 3) := by decide +kernel
theorem dX1_leaseOn_45 : decode cX1_leaseOn 45 = .ok (.iload_n 1, 1) := by decide +kernel
theorem dX1_leaseOn_46 : decode cX1_leaseOn 46 = .ok (.if_icmp .ne 14, 3) := by decide +kernel
theorem dX1_leaseOn_49 : decode cX1_leaseOn 49 = .ok (.aload 4, 2) := by decide +kernel
theorem dX1_leaseOn_51 : decode cX1_leaseOn 51 = .ok (.iload_n 2, 1) := by decide +kernel
theorem dX1_leaseOn_52 : decode cX1_leaseOn 52 = .ok (.invokevirtual 104, 3) := by decide +kernel
theorem dX1_leaseOn_55 : decode cX1_leaseOn 55 = .ok (.ifCond .eq 5, 3) := by decide +kernel
theorem dX1_leaseOn_58 : decode cX1_leaseOn 58 = .ok (.iload_n 3, 1) := by decide +kernel
theorem dX1_leaseOn_59 : decode cX1_leaseOn 59 = .ok (.ireturn, 1) := by decide +kernel
theorem dX1_leaseOn_60 : decode cX1_leaseOn 60 = .ok (.iinc 3 1, 3) := by decide +kernel
theorem dX1_leaseOn_63 : decode cX1_leaseOn 63 = .ok (.goto (-45), 3) := by decide +kernel
theorem dX1_leaseOn_66 : decode cX1_leaseOn 66 = .ok (.iconst (-1), 1) := by decide +kernel
theorem dX1_leaseOn_67 : decode cX1_leaseOn 67 = .ok (.ireturn, 1) := by decide +kernel
set_option maxRecDepth 20000 in
theorem ggX1_rentOn_X1_find : GoodIn wsX1_rentOn wsX1_find := goodIn_ca (goodIn_r _ [5, 6, 7, 8, 9, 10, 4, 11, 53, 54, 55, 56, 57] (by decide +kernel) (by decide +kernel)) (goodIn_sub (fun _ h => List.mem_cons_of_mem _ (List.mem_append_right _ h)) (by decide +kernel))
set_option maxRecDepth 20000 in
theorem gX1_rentOn_X1_find : GoodIn wsX1_rentOn (wsV RX1 55 RX1 yX1_find wsX1_find) := goodIn_app (goodIn_of _ (by decide +kernel)) ggX1_rentOn_X1_find
set_option maxRecDepth 20000 in
theorem ggX1_rentOn_X1_checkNumber : GoodIn wsX1_rentOn wsX1_checkNumber := goodIn_ca (goodIn_r _ [11, 6, 7] (by decide +kernel) (by decide +kernel)) (goodIn_sub (fun _ h => List.mem_cons_of_mem _ (List.mem_append_right _ h)) (by decide +kernel))
set_option maxRecDepth 20000 in
theorem gX1_rentOn_X1_checkNumber : GoodIn wsX1_rentOn (va_wsS RX1 29 yX1_checkNumber wsX1_checkNumber) := goodIn_app (goodIn_of _ (by decide +kernel)) ggX1_rentOn_X1_checkNumber
set_option maxRecDepth 20000 in
theorem ggX1_rentOn_X1_rentFor : GoodIn wsX1_rentOn wsX1_rentFor := goodIn_r _ [15, 16, 17, 18, 19, 20, 21, 22, 23, 24, 25, 26, 27, 28, 29, 30, 31, 32, 33, 34, 35, 36, 37, 38, 39, 40, 41, 42, 4, 43, 44, 45, 46, 47, 48, 49, 50, 51, 52, 53, 54, 55, 56, 57, 58, 59, 60, 61, 62, 63, 64, 65, 66, 67, 68, 69] (by decide +kernel) (by decide +kernel)
set_option maxRecDepth 20000 in
theorem gX1_rentOn_X1_rentFor : GoodIn wsX1_rentOn (wsV RX1 86 RX1 yX1_rentFor wsX1_rentFor) := goodIn_app (goodIn_of _ (by decide +kernel)) ggX1_rentOn_X1_rentFor
theorem dX1_rentOn_0 : decode cX1_rentOn 0 = .ok (.aload_n 0, 1) := by decide +kernel
theorem dX1_rentOn_1 : decode cX1_rentOn 1 = .ok (.iload_n 1, 1) := by decide +kernel
theorem dX1_rentOn_2 : decode cX1_rentOn 2 = .ok (.invokevirtual 55, 3) := by decide +kernel
theorem dX1_rentOn_5 : decode cX1_rentOn 5 = .ok (.astore_n 3, 1) := by decide +kernel
theorem dX1_rentOn_6 : decode cX1_rentOn 6 = .ok (.iload_n 2, 1) := by decide +kernel
theorem dX1_rentOn_7 : decode cX1_rentOn 7 = .ok (.sipush 7200, 3) := by decide +kernel
theorem dX1_rentOn_10 : decode cX1_rentOn 10 = .ok (.invokestatic 29, 3) := by decide +kernel
theorem dX1_rentOn_13 : decode cX1_rentOn 13 = .ok (.aload_n 0, 1) := by decide +kernel
theorem dX1_rentOn_14 : decode cX1_rentOn 14 = .ok (.aload_n 3, 1) := by decide +kernel
theorem dX1_rentOn_15 : decode cX1_rentOn 15 = .ok (.iload_n 2, 1) := by decide +kernel
theorem dX1_rentOn_16 : decode cX1_rentOn 16 = .ok (.invokevirtual 86, 3) := by decide +kernel
theorem dX1_rentOn_19 : decode cX1_rentOn 19 = .ok (.ireturn, 1) := by decide +kernel
set_option maxRecDepth 20000 in
theorem ggX1_bill_X1_find : GoodIn wsX1_bill wsX1_find := goodIn_ca (goodIn_r _ [5, 6, 7, 8, 9, 10, 4, 11, 68, 69, 70, 71, 72] (by decide +kernel) (by decide +kernel)) (goodIn_sub (fun _ h => List.mem_cons_of_mem _ (List.mem_append_right _ h)) (by decide +kernel))
set_option maxRecDepth 20000 in
theorem gX1_bill_X1_find : GoodIn wsX1_bill (wsV RX1 55 RX1 yX1_find wsX1_find) := goodIn_app (goodIn_of _ (by decide +kernel)) ggX1_bill_X1_find
set_option maxRecDepth 20000 in
theorem ggX1_bill_X1_checkNumber : GoodIn wsX1_bill wsX1_checkNumber := goodIn_ca (goodIn_r _ [11, 6, 7] (by decide +kernel) (by decide +kernel)) (goodIn_sub (fun _ h => List.mem_cons_of_mem _ (List.mem_append_right _ h)) (by decide +kernel))
set_option maxRecDepth 20000 in
theorem gX1_bill_X1_checkNumber : GoodIn wsX1_bill (va_wsS RX1 29 yX1_checkNumber wsX1_checkNumber) := goodIn_app (goodIn_of _ (by decide +kernel)) ggX1_bill_X1_checkNumber
set_option maxRecDepth 20000 in
theorem ggX1_bill_X1_billFor : GoodIn wsX1_bill wsX1_billFor := goodIn_r _ [15, 16, 17, 18, 19, 20, 21, 22, 23, 24, 25, 26, 27, 28, 29, 30, 31, 32, 33, 34, 35, 36, 37, 38, 39, 40, 4, 41, 42, 43, 44, 45, 46, 47, 48, 49, 50, 51, 52, 53, 54, 55, 56, 57, 58, 59, 60, 61, 62, 63, 64, 65, 66, 67, 73, 74, 75, 76, 77, 78, 79, 80, 81, 82, 83, 84, 68, 69, 70, 71, 72] (by decide +kernel) (by decide +kernel)
set_option maxRecDepth 20000 in
theorem gX1_bill_X1_billFor : GoodIn wsX1_bill (wsV RX1 108 RX1 yX1_billFor wsX1_billFor) := goodIn_app (goodIn_of _ (by decide +kernel)) ggX1_bill_X1_billFor
theorem dX1_bill_0 : decode cX1_bill 0 = .ok (.aload_n 0, 1) := by decide +kernel
theorem dX1_bill_1 : decode cX1_bill 1 = .ok (.iload_n 1, 1) := by decide +kernel
theorem dX1_bill_2 : decode cX1_bill 2 = .ok (.invokevirtual 55, 3) := by decide +kernel
theorem dX1_bill_5 : decode cX1_bill 5 = .ok (.astore_n 3, 1) := by decide +kernel
theorem dX1_bill_6 : decode cX1_bill 6 = .ok (.iload_n 2, 1) := by decide +kernel
theorem dX1_bill_7 : decode cX1_bill 7 = .ok (.sipush 240, 3) := by decide +kernel
theorem dX1_bill_10 : decode cX1_bill 10 = .ok (.invokestatic 29, 3) := by decide +kernel
theorem dX1_bill_13 : decode cX1_bill 13 = .ok (.aload_n 0, 1) := by decide +kernel
theorem dX1_bill_14 : decode cX1_bill 14 = .ok (.aload_n 3, 1) := by decide +kernel
theorem dX1_bill_15 : decode cX1_bill 15 = .ok (.iload_n 2, 1) := by decide +kernel
theorem dX1_bill_16 : decode cX1_bill 16 = .ok (.invokevirtual 108, 3) := by decide +kernel
theorem dX1_bill_19 : decode cX1_bill 19 = .ok (.ireturn, 1) := by decide +kernel
set_option maxRecDepth 20000 in
theorem ggX1_billByDays_X1_find : GoodIn wsX1_billByDays wsX1_find := goodIn_ca (goodIn_r _ [5, 6, 7, 8, 9, 10, 4, 11, 53, 54, 55, 56, 57] (by decide +kernel) (by decide +kernel)) (goodIn_sub (fun _ h => List.mem_cons_of_mem _ (List.mem_append_right _ h)) (by decide +kernel))
set_option maxRecDepth 20000 in
theorem gX1_billByDays_X1_find : GoodIn wsX1_billByDays (wsV RX1 55 RX1 yX1_find wsX1_find) := goodIn_app (goodIn_of _ (by decide +kernel)) ggX1_billByDays_X1_find
set_option maxRecDepth 20000 in
theorem ggX1_billByDays_X1_checkNumber : GoodIn wsX1_billByDays wsX1_checkNumber := goodIn_ca (goodIn_r _ [11, 6, 7] (by decide +kernel) (by decide +kernel)) (goodIn_sub (fun _ h => List.mem_cons_of_mem _ (List.mem_append_right _ h)) (by decide +kernel))
set_option maxRecDepth 20000 in
theorem gX1_billByDays_X1_checkNumber : GoodIn wsX1_billByDays (va_wsS RX1 29 yX1_checkNumber wsX1_checkNumber) := goodIn_app (goodIn_of _ (by decide +kernel)) ggX1_billByDays_X1_checkNumber
set_option maxRecDepth 20000 in
theorem ggX1_billByDays_X1_rentFor : GoodIn wsX1_billByDays wsX1_rentFor := goodIn_r _ [15, 16, 17, 18, 19, 20, 21, 22, 23, 24, 25, 26, 27, 28, 29, 30, 31, 32, 33, 34, 35, 36, 37, 38, 39, 40, 41, 42, 4, 43, 44, 45, 46, 47, 48, 49, 50, 51, 52, 53, 54, 55, 56, 57, 58, 59, 60, 61, 62, 63, 64, 65, 66, 67, 68, 69] (by decide +kernel) (by decide +kernel)
set_option maxRecDepth 20000 in
theorem gX1_billByDays_X1_rentFor : GoodIn wsX1_billByDays (wsV RX1 86 RX1 yX1_rentFor wsX1_rentFor) := goodIn_app (goodIn_of _ (by decide +kernel)) ggX1_billByDays_X1_rentFor
theorem dX1_billByDays_0 : decode cX1_billByDays 0 = .ok (.aload_n 0, 1) := by decide +kernel
theorem dX1_billByDays_1 : decode cX1_billByDays 1 = .ok (.iload_n 1, 1) := by decide +kernel
theorem dX1_billByDays_2 : decode cX1_billByDays 2 = .ok (.invokevirtual 55, 3) := by decide +kernel
theorem dX1_billByDays_5 : decode cX1_billByDays 5 = .ok (.astore_n 3, 1) := by decide +kernel
theorem dX1_billByDays_6 : decode cX1_billByDays 6 = .ok (.iload_n 2, 1) := by decide +kernel
theorem dX1_billByDays_7 : decode cX1_billByDays 7 = .ok (.sipush 240, 3) := by decide +kernel
theorem dX1_billByDays_10 : decode cX1_billByDays 10 = .ok (.invokestatic 29, 3) := by decide +kernel
theorem dX1_billByDays_13 : decode cX1_billByDays 13 = .ok (.iload_n 2, 1) := by decide +kernel
theorem dX1_billByDays_14 : decode cX1_billByDays 14 = .ok (.bipush 30, 2) := by decide +kernel
theorem dX1_billByDays_16 : decode cX1_billByDays 16 = .ok (.imul, 1) := by decide +kernel
theorem dX1_billByDays_17 : decode cX1_billByDays 17 = .ok (.istore 4, 2) := by decide +kernel
theorem dX1_billByDays_19 : decode cX1_billByDays 19 = .ok (.iconst 0, 1) := by decide +kernel
theorem dX1_billByDays_20 : decode cX1_billByDays 20 = .ok (.istore 5, 2) := by decide +kernel
theorem dX1_billByDays_22 : decode cX1_billByDays 22 = .ok (.iload 4, 2) := by decide +kernel
theorem dX1_billByDays_24 : decode cX1_billByDays 24 = .ok (.istore 6, 2) := by decide +kernel
theorem dX1_billByDays_26 : decode cX1_billByDays 26 = .ok (.iload 6, 2) := by decide +kernel
theorem dX1_billByDays_28 : decode cX1_billByDays 28 = .ok (.iload 4, 2) := by decide +kernel
theorem dX1_billByDays_30 : decode cX1_billByDays 30 = .ok (.bipush 30, 2) := by decide +kernel
theorem dX1_billByDays_32 : decode cX1_billByDays 32 = .ok (.iadd, 1) := by decide +kernel
theorem dX1_billByDays_33 : decode cX1_billByDays 33 = .ok (.if_icmp .ge 21, 3) := by decide +kernel
theorem dX1_billByDays_36 : decode cX1_billByDays 36 = .ok (.iload 5, 2) := by decide +kernel
theorem dX1_billByDays_38 : decode cX1_billByDays 38 = .ok (.aload_n 0, 1) := by decide +kernel
theorem dX1_billByDays_39 : decode cX1_billByDays 39 = .ok (.aload_n 3, 1) := by decide +kernel
theorem dX1_billByDays_40 : decode cX1_billByDays 40 = .ok (.iload 6, 2) := by decide +kernel
theorem dX1_billByDays_42 : decode cX1_billByDays 42 = .ok (.invokevirtual 86, 3) := by decide +kernel
theorem dX1_billByDays_45 : decode cX1_billByDays 45 = .ok (.iadd, 1) := by decide +kernel
theorem dX1_billByDays_46 : decode cX1_billByDays 46 = .ok (.istore 5, 2) := by decide +kernel
theorem dX1_billByDays_48 : decode cX1_billByDays 48 = .ok (.iinc 6 1, 3) := by decide +kernel
theorem dX1_billByDays_51 : decode cX1_billByDays 51 = .ok (.goto (-25), 3) := by decide +kernel
theorem dX1_billByDays_54 : decode cX1_billByDays 54 = .ok (.iload 5, 2) := by decide +kernel
theorem dX1_billByDays_56 : decode cX1_billByDays 56 = .ok (.bipush 30, 2) := by decide +kernel
theorem dX1_billByDays_58 : decode cX1_billByDays 58 = .ok (.idiv, 1) := by decide +kernel
theorem dX1_billByDays_59 : decode cX1_billByDays 59 = .ok (.ireturn, 1) := by decide +kernel
set_option maxRecDepth 20000 in
theorem ggX1_bills_X1_find : GoodIn wsX1_bills wsX1_find := goodIn_ca (goodIn_r _ [5, 6, 7, 8, 9, 10, 4, 11, 73, 74, 75, 76, 77] (by decide +kernel) (by decide +kernel)) (goodIn_sub (fun _ h => List.mem_cons_of_mem _ (List.mem_append_left _ (List.mem_append_right _ h))) (by decide +kernel))
set_option maxRecDepth 20000 in
theorem gX1_bills_X1_find : GoodIn wsX1_bills (wsV RX1 55 RX1 yX1_find wsX1_find) := goodIn_app (goodIn_of _ (by decide +kernel)) ggX1_bills_X1_find
set_option maxRecDepth 20000 in
theorem ggX1_bills_X1_checkNumber : GoodIn wsX1_bills wsX1_checkNumber := goodIn_ca (goodIn_r _ [11, 6, 7] (by decide +kernel) (by decide +kernel)) (goodIn_sub (fun _ h => List.mem_cons_of_mem _ (List.mem_append_left _ (List.mem_append_right _ h))) (by decide +kernel))
set_option maxRecDepth 20000 in
theorem gX1_bills_X1_checkNumber : GoodIn wsX1_bills (va_wsS RX1 29 yX1_checkNumber wsX1_checkNumber) := goodIn_app (goodIn_of _ (by decide +kernel)) ggX1_bills_X1_checkNumber
set_option maxRecDepth 20000 in
theorem ggX1_bills_X1_checkRange : GoodIn wsX1_bills wsX1_checkRange := goodIn_ca (goodIn_r _ [14, 15, 16] (by decide +kernel) (by decide +kernel)) (goodIn_sub (fun _ h => List.mem_cons_of_mem _ (List.mem_append_right _ h)) (by decide +kernel))
set_option maxRecDepth 20000 in
theorem gX1_bills_X1_checkRange : GoodIn wsX1_bills (va_wsS RX1 33 yX1_checkRange wsX1_checkRange) := goodIn_app (goodIn_of _ (by decide +kernel)) ggX1_bills_X1_checkRange
set_option maxRecDepth 20000 in
theorem ggX1_bills_X1_billFor : GoodIn wsX1_bills wsX1_billFor := goodIn_r _ [20, 21, 22, 23, 24, 25, 26, 27, 28, 29, 30, 31, 32, 33, 34, 35, 36, 37, 38, 39, 40, 41, 42, 43, 44, 45, 4, 46, 47, 48, 49, 50, 51, 52, 53, 54, 55, 56, 57, 58, 59, 60, 61, 62, 63, 64, 65, 66, 67, 68, 69, 70, 71, 72, 78, 79, 80, 81, 82, 83, 84, 85, 86, 87, 88, 89, 73, 74, 75, 76, 77] (by decide +kernel) (by decide +kernel)
set_option maxRecDepth 20000 in
theorem gX1_bills_X1_billFor : GoodIn wsX1_bills (wsV RX1 108 RX1 yX1_billFor wsX1_billFor) := goodIn_app (goodIn_of _ (by decide +kernel)) ggX1_bills_X1_billFor
theorem dX1_bills_0 : decode cX1_bills 0 = .ok (.aload_n 0, 1) := by decide +kernel
theorem dX1_bills_1 : decode cX1_bills 1 = .ok (.iload_n 1, 1) := by decide +kernel
theorem dX1_bills_2 : decode cX1_bills 2 = .ok (.invokevirtual 55, 3) := by decide +kernel
theorem dX1_bills_5 : decode cX1_bills 5 = .ok (.astore 4, 2) := by decide +kernel
theorem dX1_bills_7 : decode cX1_bills 7 = .ok (.iload_n 2, 1) := by decide +kernel
theorem dX1_bills_8 : decode cX1_bills 8 = .ok (.sipush 240, 3) := by decide +kernel
theorem dX1_bills_11 : decode cX1_bills 11 = .ok (.invokestatic 29, 3) := by decide +kernel
theorem dX1_bills_14 : decode cX1_bills 14 = .ok (.iload_n 3, 1) := by decide +kernel
theorem dX1_bills_15 : decode cX1_bills 15 = .ok (.sipush 240, 3) := by decide +kernel
theorem dX1_bills_18 : decode cX1_bills 18 = .ok (.invokestatic 29, 3) := by decide +kernel
theorem dX1_bills_21 : decode cX1_bills 21 = .ok (.iload_n 3, 1) := by decide +kernel
theorem dX1_bills_22 : decode cX1_bills 22 = .ok (.iload_n 2, 1) := by decide +kernel
theorem dX1_bills_23 : decode cX1_bills 23 = .ok (.sipush 239, 3) := by decide +kernel
theorem dX1_bills_26 : decode cX1_bills 26 = .ok (.invokestatic 33, 3) := by decide +kernel
theorem dX1_bills_29 : decode cX1_bills 29 = .ok (.lconst 0, 1) := by decide +kernel
theorem dX1_bills_30 : decode cX1_bills 30 = .ok (.lstore 5, 2) := by decide +kernel
theorem dX1_bills_32 : decode cX1_bills 32 = .ok (.iload_n 2, 1) := by decide +kernel
theorem dX1_bills_33 : decode cX1_bills 33 = .ok (.istore 7, 2) := by decide +kernel
theorem dX1_bills_35 : decode cX1_bills 35 = .ok (.iload 7, 2) := by decide +kernel
theorem dX1_bills_37 : decode cX1_bills 37 = .ok (.iload_n 3, 1) := by decide +kernel
theorem dX1_bills_38 : decode cX1_bills 38 = .ok (.if_icmp .gt 23, 3) := by decide +kernel
theorem dX1_bills_41 : decode cX1_bills 41 = .ok (.lload 5, 2) := by decide +kernel
theorem dX1_bills_43 : decode cX1_bills 43 = .ok (.aload_n 0, 1) := by decide +kernel
theorem dX1_bills_44 : decode cX1_bills 44 = .ok (.aload 4, 2) := by decide +kernel
theorem dX1_bills_46 : decode cX1_bills 46 = .ok (.iload 7, 2) := by decide +kernel
theorem dX1_bills_48 : decode cX1_bills 48 = .ok (.invokevirtual 108, 3) := by decide +kernel
theorem dX1_bills_51 : decode cX1_bills 51 = .ok (.i2l, 1) := by decide +kernel
theorem dX1_bills_52 : decode cX1_bills 52 = .ok (.ladd, 1) := by decide +kernel
theorem dX1_bills_53 : decode cX1_bills 53 = .ok (.lstore 5, 2) := by decide +kernel
theorem dX1_bills_55 : decode cX1_bills 55 = .ok (.iinc 7 1, 3) := by decide +kernel
theorem dX1_bills_58 : decode cX1_bills 58 = .ok (.goto (-23), 3) := by decide +kernel
theorem dX1_bills_61 : decode cX1_bills 61 = .ok (.lload 5, 2) := by decide +kernel
theorem dX1_bills_63 : decode cX1_bills 63 = .ok (.lreturn, 1) := by decide +kernel
set_option maxRecDepth 20000 in
theorem ggX1_nextChange_X1_find : GoodIn wsX1_nextChange wsX1_find := goodIn_ca (goodIn_r _ [5, 6, 7, 8, 9, 10, 4, 11, 61, 62, 63, 64, 65] (by decide +kernel) (by decide +kernel)) (goodIn_sub (fun _ h => List.mem_cons_of_mem _ (List.mem_append_right _ h)) (by decide +kernel))
set_option maxRecDepth 20000 in
theorem gX1_nextChange_X1_find : GoodIn wsX1_nextChange (wsV RX1 55 RX1 yX1_find wsX1_find) := goodIn_app (goodIn_of _ (by decide +kernel)) ggX1_nextChange_X1_find
set_option maxRecDepth 20000 in
theorem ggX1_nextChange_X1_checkNumber : GoodIn wsX1_nextChange wsX1_checkNumber := goodIn_ca (goodIn_r _ [11, 6, 7] (by decide +kernel) (by decide +kernel)) (goodIn_sub (fun _ h => List.mem_cons_of_mem _ (List.mem_append_right _ h)) (by decide +kernel))
set_option maxRecDepth 20000 in
theorem gX1_nextChange_X1_checkNumber : GoodIn wsX1_nextChange (va_wsS RX1 29 yX1_checkNumber wsX1_checkNumber) := goodIn_app (goodIn_of _ (by decide +kernel)) ggX1_nextChange_X1_checkNumber
set_option maxRecDepth 20000 in
theorem ggX1_nextChange_X0_nextTurn : GoodIn wsX1_nextChange wsX0_nextTurn := goodIn_r _ [16, 17, 18, 19, 20, 21, 22, 23, 24, 15, 25, 26, 27, 28, 29, 66, 67, 68, 69, 70, 71, 72, 73, 74, 75, 76, 77] (by decide +kernel) (by decide +kernel)
set_option maxRecDepth 20000 in
theorem gX1_nextChange_X0_nextTurn : GoodIn wsX1_nextChange (wsV RX1 111 RX0 yX0_nextTurn wsX0_nextTurn) := goodIn_app (goodIn_of _ (by decide +kernel)) ggX1_nextChange_X0_nextTurn
set_option maxRecDepth 20000 in
theorem ggX1_nextChange_X1_rentFor : GoodIn wsX1_nextChange wsX1_rentFor := goodIn_r _ [33, 34, 35, 36, 37, 38, 39, 40, 41, 15, 42, 17, 19, 43, 44, 45, 46, 18, 47, 48, 49, 50, 51, 20, 21, 52, 53, 54, 4, 55, 56, 57, 58, 59, 60, 27, 28, 29, 22, 61, 62, 63, 64, 65, 66, 67, 68, 69, 70, 71, 72, 73, 74, 75, 76, 77] (by decide +kernel) (by decide +kernel)
set_option maxRecDepth 20000 in
theorem gX1_nextChange_X1_rentFor : GoodIn wsX1_nextChange (wsV RX1 86 RX1 yX1_rentFor wsX1_rentFor) := goodIn_app (goodIn_of _ (by decide +kernel)) ggX1_nextChange_X1_rentFor
theorem dX1_nextChange_0 : decode cX1_nextChange 0 = .ok (.aload_n 0, 1) := by decide +kernel
theorem dX1_nextChange_1 : decode cX1_nextChange 1 = .ok (.iload_n 1, 1) := by decide +kernel
theorem dX1_nextChange_2 : decode cX1_nextChange 2 = .ok (.invokevirtual 55, 3) := by decide +kernel
theorem dX1_nextChange_5 : decode cX1_nextChange 5 = .ok (.astore_n 3, 1) := by decide +kernel
theorem dX1_nextChange_6 : decode cX1_nextChange 6 = .ok (.iload_n 2, 1) := by decide +kernel
theorem dX1_nextChange_7 : decode cX1_nextChange 7 = .ok (.sipush 7200, 3) := by decide +kernel
theorem dX1_nextChange_10 : decode cX1_nextChange 10 = .ok (.invokestatic 29, 3) := by decide +kernel
theorem dX1_nextChange_13 : decode cX1_nextChange 13 = .ok (.aload_n 3, 1) := by decide +kernel
theorem dX1_nextChange_14 : decode cX1_nextChange 14 = .ok (.iload_n 2, 1) := by decide +kernel
theorem dX1_nextChange_15 : decode cX1_nextChange 15 = .ok (.invokevirtual 111, 3) := by decide +kernel
theorem dX1_nextChange_18 : decode cX1_nextChange 18 = .ok (.istore 4, 2) := by decide +kernel
theorem dX1_nextChange_20 : decode cX1_nextChange 20 = .ok (.iconst 0, 1) := by decide +kernel
theorem dX1_nextChange_21 : decode cX1_nextChange 21 = .ok (.istore 5, 2) := by decide +kernel
theorem dX1_nextChange_23 : decode cX1_nextChange 23 = .ok (.iload 5, 2) := by decide +kernel
theorem dX1_nextChange_25 : decode cX1_nextChange 25 = .ok (.sipush 7200, 3) := by decide +kernel
theorem dX1_nextChange_28 : decode cX1_nextChange 28 = .ok (.if_icmp .ge 47, 3) := by decide +kernel
theorem dX1_nextChange_31 : decode cX1_nextChange 31 = .ok (.iload 4, 2) := by decide +kernel
theorem dX1_nextChange_33 : decode cX1_nextChange 33 = .ok (.sipush 7200, 3) := by decide +kernel
theorem dX1_nextChange_36 : decode cX1_nextChange 36 = .ok (.if_icmp .ge 39, 3) := by decide +kernel
theorem dX1_nextChange_39 : decode cX1_nextChange 39 = .ok (.aload_n 0, 1) := by decide +kernel
theorem dX1_nextChange_40 : decode cX1_nextChange 40 = .ok (.aload_n 3, 1) := by decide +kernel
theorem dX1_nextChange_41 : decode cX1_nextChange 41 = .ok (.iload 4, 2) := by decide +kernel
theorem dX1_nextChange_43 : decode cX1_nextChange 43 = .ok (.invokevirtual 86, 3) := by decide +kernel
theorem dX1_nextChange_46 : decode cX1_nextChange 46 = .ok (.aload_n 0, 1) := by decide +kernel
theorem dX1_nextChange_47 : decode cX1_nextChange 47 = .ok (.aload_n 3, 1) := by decide +kernel
theorem dX1_nextChange_48 : decode cX1_nextChange 48 = .ok (.iload 4, 2) := by decide +kernel
theorem dX1_nextChange_50 : decode cX1_nextChange 50 = .ok (.iconst 1, 1) := by decide +kernel
theorem dX1_nextChange_51 : decode cX1_nextChange 51 = .ok (.isub, 1) := by decide +kernel
theorem dX1_nextChange_52 : decode cX1_nextChange 52 = .ok (.invokevirtual 86, 3) := by decide +kernel
theorem dX1_nextChange_55 : decode cX1_nextChange 55 = .ok (.if_icmp .eq 6, 3) := by decide +kernel
theorem dX1_nextChange_58 : decode cX1_nextChange 58 = .ok (.iload 4, 2) := by decide +kernel
theorem dX1_nextChange_60 : decode cX1_nextChange 60 = .ok (.ireturn, 1) := by decide +kernel
theorem dX1_nextChange_61 : decode cX1_nextChange 61 = .ok (.aload_n 3, 1) := by decide +kernel
theorem dX1_nextChange_62 : decode cX1_nextChange 62 = .ok (.iload 4, 2) := by decide +kernel
theorem dX1_nextChange_64 : decode cX1_nextChange 64 = .ok (.invokevirtual 111, 3) := by decide +kernel
theorem dX1_nextChange_67 : decode cX1_nextChange 67 = .ok (.istore 4, 2) := by decide +kernel
theorem dX1_nextChange_69 : decode cX1_nextChange 69 = .ok (.iinc 5 1, 3) := by decide +kernel
theorem dX1_nextChange_72 : decode cX1_nextChange 72 = .ok (.goto (-49), 3) := by decide +kernel
theorem dX1_nextChange_75 : decode cX1_nextChange 75 = .ok (.iconst (-1), 1) := by decide +kernel
theorem dX1_nextChange_76 : decode cX1_nextChange 76 = .ok (.ireturn, 1) := by decide +kernel
set_option maxRecDepth 20000 in
theorem ggX1_voids_X1_checkNumber : GoodIn wsX1_voids wsX1_checkNumber := goodIn_ca (goodIn_r _ [5, 6, 7] (by decide +kernel) (by decide +kernel)) (goodIn_sub (fun _ h => List.mem_cons_of_mem _ (List.mem_append_right _ h)) (by decide +kernel))
set_option maxRecDepth 20000 in
theorem gX1_voids_X1_checkNumber : GoodIn wsX1_voids (va_wsS RX1 29 yX1_checkNumber wsX1_checkNumber) := goodIn_app (goodIn_of _ (by decide +kernel)) ggX1_voids_X1_checkNumber
set_option maxRecDepth 20000 in
theorem ggX1_voids_X1_daysLet : GoodIn wsX1_voids wsX1_daysLet := goodIn_r _ [11, 12, 13, 14, 15, 16, 17, 18, 19, 20, 21, 22, 23, 24, 25, 26, 27, 28, 29, 30, 31, 32, 33, 34, 35, 36, 37, 38, 39, 40, 41, 42, 43] (by decide +kernel) (by decide +kernel)
set_option maxRecDepth 20000 in
theorem gX1_voids_X1_daysLet : GoodIn wsX1_voids (wsV RX1 46 RX1 yX1_daysLet wsX1_daysLet) := goodIn_app (goodIn_of _ (by decide +kernel)) ggX1_voids_X1_daysLet
theorem dX1_voids_0 : decode cX1_voids 0 = .ok (.iload_n 1, 1) := by decide +kernel
theorem dX1_voids_1 : decode cX1_voids 1 = .ok (.aload_n 0, 1) := by decide +kernel
theorem dX1_voids_2 : decode cX1_voids 2 = .ok (.getfield 9, 3) := by decide +kernel
theorem dX1_voids_5 : decode cX1_voids 5 = .ok (.arraylength, 1) := by decide +kernel
theorem dX1_voids_6 : decode cX1_voids 6 = .ok (.invokestatic 29, 3) := by decide +kernel
theorem dX1_voids_9 : decode cX1_voids 9 = .ok (.iload_n 2, 1) := by decide +kernel
theorem dX1_voids_10 : decode cX1_voids 10 = .ok (.bipush 20, 2) := by decide +kernel
theorem dX1_voids_12 : decode cX1_voids 12 = .ok (.invokestatic 29, 3) := by decide +kernel
theorem dX1_voids_15 : decode cX1_voids 15 = .ok (.iload_n 2, 1) := by decide +kernel
theorem dX1_voids_16 : decode cX1_voids 16 = .ok (.sipush 360, 3) := by decide +kernel
theorem dX1_voids_19 : decode cX1_voids 19 = .ok (.imul, 1) := by decide +kernel
theorem dX1_voids_20 : decode cX1_voids 20 = .ok (.istore_n 3, 1) := by decide +kernel
theorem dX1_voids_21 : decode cX1_voids 21 = .ok (.sipush 360, 3) := by decide +kernel
theorem dX1_voids_24 : decode cX1_voids 24 = .ok (.aload_n 0, 1) := by decide +kernel
theorem dX1_voids_25 : decode cX1_voids 25 = .ok (.iload_n 1, 1) := by decide +kernel
theorem dX1_voids_26 : decode cX1_voids 26 = .ok (.iload_n 3, 1) := by decide +kernel
theorem dX1_voids_27 : decode cX1_voids 27 = .ok (.iload_n 3, 1) := by decide +kernel
theorem dX1_voids_28 : decode cX1_voids 28 = .ok (.sipush 360, 3) := by decide +kernel
theorem dX1_voids_31 : decode cX1_voids 31 = .ok (.iadd, 1) := by decide +kernel
theorem dX1_voids_32 : decode cX1_voids 32 = .ok (.invokevirtual 46, 3) := by decide +kernel
theorem dX1_voids_35 : decode cX1_voids 35 = .ok (.isub, 1) := by decide +kernel
theorem dX1_voids_36 : decode cX1_voids 36 = .ok (.ireturn, 1) := by decide +kernel
set_option maxRecDepth 20000 in
theorem ggX1_part_X1_find : GoodIn wsX1_part wsX1_find := goodIn_ca (goodIn_r _ [6, 7, 8, 9, 10, 11, 5, 12, 45, 46, 47, 48, 49] (by decide +kernel) (by decide +kernel)) (goodIn_sub (fun _ h => List.mem_cons_of_mem _ (List.mem_append_right _ h)) (by decide +kernel))
set_option maxRecDepth 20000 in
theorem gX1_part_X1_find : GoodIn wsX1_part (wsV RX1 55 RX1 yX1_find wsX1_find) := goodIn_app (goodIn_of _ (by decide +kernel)) ggX1_part_X1_find
set_option maxRecDepth 20000 in
theorem ggX1_part_X1_checkNumber : GoodIn wsX1_part wsX1_checkNumber := goodIn_ca (goodIn_r _ [12, 7, 8] (by decide +kernel) (by decide +kernel)) (goodIn_sub (fun _ h => List.mem_cons_of_mem _ (List.mem_append_right _ h)) (by decide +kernel))
set_option maxRecDepth 20000 in
theorem gX1_part_X1_checkNumber : GoodIn wsX1_part (va_wsS RX1 29 yX1_checkNumber wsX1_checkNumber) := goodIn_app (goodIn_of _ (by decide +kernel)) ggX1_part_X1_checkNumber
set_option maxRecDepth 20000 in
theorem ggX1_part_X1_partOf : GoodIn wsX1_part wsX1_partOf := goodIn_r _ [16, 17, 18, 19, 20, 21, 22, 23, 24, 25, 5, 26, 27, 28, 29, 30, 31, 32, 33, 34, 35, 36, 37, 38, 39, 40, 41, 42, 43, 44, 45, 46, 47, 48, 49, 50, 51, 52, 53, 54, 55, 56, 57, 58, 59, 60, 61] (by decide +kernel) (by decide +kernel)
set_option maxRecDepth 20000 in
theorem gX1_part_X1_partOf : GoodIn wsX1_part (wsV RX1 115 RX1 yX1_partOf wsX1_partOf) := goodIn_app (goodIn_of _ (by decide +kernel)) ggX1_part_X1_partOf
theorem dX1_part_0 : decode cX1_part 0 = .ok (.aload_n 0, 1) := by decide +kernel
theorem dX1_part_1 : decode cX1_part 1 = .ok (.iload_n 1, 1) := by decide +kernel
theorem dX1_part_2 : decode cX1_part 2 = .ok (.invokevirtual 55, 3) := by decide +kernel
theorem dX1_part_5 : decode cX1_part 5 = .ok (.astore_n 3, 1) := by decide +kernel
theorem dX1_part_6 : decode cX1_part 6 = .ok (.iload_n 2, 1) := by decide +kernel
theorem dX1_part_7 : decode cX1_part 7 = .ok (.aload_n 0, 1) := by decide +kernel
theorem dX1_part_8 : decode cX1_part 8 = .ok (.getfield 16, 3) := by decide +kernel
theorem dX1_part_11 : decode cX1_part 11 = .ok (.arraylength, 1) := by decide +kernel
theorem dX1_part_12 : decode cX1_part 12 = .ok (.invokestatic 29, 3) := by decide +kernel
theorem dX1_part_15 : decode cX1_part 15 = .ok (.aload_n 0, 1) := by decide +kernel
theorem dX1_part_16 : decode cX1_part 16 = .ok (.aload_n 3, 1) := by decide +kernel
theorem dX1_part_17 : decode cX1_part 17 = .ok (.iload_n 2, 1) := by decide +kernel
theorem dX1_part_18 : decode cX1_part 18 = .ok (.aload_n 0, 1) := by decide +kernel
theorem dX1_part_19 : decode cX1_part 19 = .ok (.getfield 16, 3) := by decide +kernel
theorem dX1_part_22 : decode cX1_part 22 = .ok (.iload_n 2, 1) := by decide +kernel
theorem dX1_part_23 : decode cX1_part 23 = .ok (.iaload, 1) := by decide +kernel
theorem dX1_part_24 : decode cX1_part 24 = .ok (.invokevirtual 115, 3) := by decide +kernel
theorem dX1_part_27 : decode cX1_part 27 = .ok (.ireturn, 1) := by decide +kernel
set_option maxRecDepth 20000 in
theorem ggX1_owners_X1_checkNumber : GoodIn wsX1_owners wsX1_checkNumber := goodIn_ca (goodIn_r _ [6, 7, 8] (by decide +kernel) (by decide +kernel)) (goodIn_sub (fun _ h => List.mem_cons_of_mem _ (List.mem_append_right _ h)) (by decide +kernel))
set_option maxRecDepth 20000 in
theorem gX1_owners_X1_checkNumber : GoodIn wsX1_owners (va_wsS RX1 29 yX1_checkNumber wsX1_checkNumber) := goodIn_app (goodIn_of _ (by decide +kernel)) ggX1_owners_X1_checkNumber
set_option maxRecDepth 20000 in
theorem ggX1_owners_X1_partOf : GoodIn wsX1_owners wsX1_partOf := goodIn_r _ [12, 13, 14, 15, 16, 17, 18, 19, 20, 21, 5, 22, 23, 24, 25, 26, 27, 28, 29, 30, 31, 32, 33, 34, 35, 36, 37, 38, 39, 40, 41, 42, 43, 44, 45, 46, 47, 48, 49, 50, 51, 52, 53, 54, 55, 56, 57] (by decide +kernel) (by decide +kernel)
set_option maxRecDepth 20000 in
theorem gX1_owners_X1_partOf : GoodIn wsX1_owners (wsV RX1 115 RX1 yX1_partOf wsX1_partOf) := goodIn_app (goodIn_of _ (by decide +kernel)) ggX1_owners_X1_partOf
theorem dX1_owners_0 : decode cX1_owners 0 = .ok (.iload_n 1, 1) := by decide +kernel
theorem dX1_owners_1 : decode cX1_owners 1 = .ok (.aload_n 0, 1) := by decide +kernel
theorem dX1_owners_2 : decode cX1_owners 2 = .ok (.getfield 16, 3) := by decide +kernel
theorem dX1_owners_5 : decode cX1_owners 5 = .ok (.arraylength, 1) := by decide +kernel
theorem dX1_owners_6 : decode cX1_owners 6 = .ok (.invokestatic 29, 3) := by decide +kernel
theorem dX1_owners_9 : decode cX1_owners 9 = .ok (.aload_n 0, 1) := by decide +kernel
theorem dX1_owners_10 : decode cX1_owners 10 = .ok (.getfield 16, 3) := by decide +kernel
theorem dX1_owners_13 : decode cX1_owners 13 = .ok (.iload_n 1, 1) := by decide +kernel
theorem dX1_owners_14 : decode cX1_owners 14 = .ok (.iaload, 1) := by decide +kernel
theorem dX1_owners_15 : decode cX1_owners 15 = .ok (.istore_n 2, 1) := by decide +kernel
theorem dX1_owners_16 : decode cX1_owners 16 = .ok (.aload_n 0, 1) := by decide +kernel
theorem dX1_owners_17 : decode cX1_owners 17 = .ok (.getfield 21, 3) := by decide +kernel
theorem dX1_owners_20 : decode cX1_owners 20 = .ok (.astore_n 3, 1) := by decide +kernel
theorem dX1_owners_21 : decode cX1_owners 21 = .ok (.aload_n 3, 1) := by decide +kernel
theorem dX1_owners_22 : decode cX1_owners 22 = .ok (.arraylength, 1) := by decide +kernel
theorem dX1_owners_23 : decode cX1_owners 23 = .ok (.istore 4, 2) := by decide +kernel
theorem dX1_owners_25 : decode cX1_owners 25 = .ok (.iconst 0, 1) := by decide +kernel
theorem dX1_owners_26 : decode cX1_owners 26 = .ok (.istore 5, 2) := by decide +kernel
theorem dX1_owners_28 : decode cX1_owners 28 = .ok (.iload 5, 2) := by decide +kernel
theorem dX1_owners_30 : decode cX1_owners 30 = .ok (.iload 4, 2) := by decide +kernel
theorem dX1_owners_32 : decode cX1_owners 32 = .ok (.if_icmp .ge 36, 3) := by decide +kernel
theorem dX1_owners_35 : decode cX1_owners 35 = .ok (.aload_n 3, 1) := by decide +kernel
theorem dX1_owners_36 : decode cX1_owners 36 = .ok (.iload 5, 2) := by decide +kernel
theorem dX1_owners_38 : decode cX1_owners 38 = .ok (.aaload, 1) := by decide +kernel
theorem dX1_owners_39 : decode cX1_owners 39 = .ok (.astore 6, 2) := by decide +kernel
theorem dX1_owners_41 : decode cX1_owners 41 = .ok (.aload 6, 2) := by decide +kernel
theorem dX1_owners_43 : decode cX1_owners 43 = .ok (.ifnull 19, 3) := by decide +kernel
theorem dX1_owners_46 : decode cX1_owners 46 = .ok (.iload_n 2, 1) := by decide +kernel
theorem dX1_owners_47 : decode cX1_owners 47 = .ok (.aload_n 0, 1) := by decide +kernel
theorem dX1_owners_48 : decode cX1_owners 48 = .ok (.aload 6, 2) := by decide +kernel
theorem dX1_owners_50 : decode cX1_owners 50 = .ok (.iload_n 1, 1) := by decide +kernel
theorem dX1_owners_51 : decode cX1_owners 51 = .ok (.aload_n 0, 1) := by decide +kernel
theorem dX1_owners_52 : decode cX1_owners 52 = .ok (.getfield 16, 3) := by decide +kernel
theorem dX1_owners_55 : decode cX1_owners 55 = .ok (.iload_n 1, 1) := by decide +kernel
theorem dX1_owners_56 : decode cX1_owners 56 = .ok (.iaload, 1) := by decide +kernel
theorem dX1_owners_57 : decode cX1_owners 57 = .ok (.invokevirtual 115, 3) := by decide +kernel
theorem dX1_owners_60 : decode cX1_owners 60 = .ok (.isub, 1) := by decide +kernel
theorem dX1_owners_61 : decode cX1_owners 61 = .ok (.istore_n 2, 1) := by decide +kernel
theorem dX1_owners_62 : decode cX1_owners 62 = .ok (.iinc 5 1, 3) := by decide +kernel
theorem dX1_owners_65 : decode cX1_owners 65 = .ok (.goto (-37), 3) := by decide +kernel
theorem dX1_owners_68 : decode cX1_owners 68 = .ok (.iload_n 2, 1) := by decide +kernel
theorem dX1_owners_69 : decode cX1_owners 69 = .ok (.ireturn, 1) := by decide +kernel
set_option maxRecDepth 20000 in
theorem ggX1_balance_X1_find : GoodIn wsX1_balance wsX1_find := goodIn_ca (goodIn_r _ [6, 7, 8, 9, 10, 11, 5, 12, 45, 46, 47, 48, 49] (by decide +kernel) (by decide +kernel)) (goodIn_sub (fun _ h => List.mem_cons_of_mem _ (List.mem_append_right _ h)) (by decide +kernel))
set_option maxRecDepth 20000 in
theorem gX1_balance_X1_find : GoodIn wsX1_balance (wsV RX1 55 RX1 yX1_find wsX1_find) := goodIn_app (goodIn_of _ (by decide +kernel)) ggX1_balance_X1_find
set_option maxRecDepth 20000 in
theorem ggX1_balance_X1_checkNumber : GoodIn wsX1_balance wsX1_checkNumber := goodIn_ca (goodIn_r _ [12, 7, 8] (by decide +kernel) (by decide +kernel)) (goodIn_sub (fun _ h => List.mem_cons_of_mem _ (List.mem_append_right _ h)) (by decide +kernel))
set_option maxRecDepth 20000 in
theorem gX1_balance_X1_checkNumber : GoodIn wsX1_balance (va_wsS RX1 29 yX1_checkNumber wsX1_checkNumber) := goodIn_app (goodIn_of _ (by decide +kernel)) ggX1_balance_X1_checkNumber
set_option maxRecDepth 20000 in
theorem ggX1_balance_X0_daysIn : GoodIn wsX1_balance wsX0_daysIn := goodIn_r _ [17, 18, 19, 20, 16, 21, 22, 23, 24, 25, 26, 27, 28, 29, 30, 50, 51, 52, 53, 54, 55, 56, 57, 58, 59, 60, 61] (by decide +kernel) (by decide +kernel)
set_option maxRecDepth 20000 in
theorem gX1_balance_X0_daysIn : GoodIn wsX1_balance (wsV RX1 119 RX0 yX0_daysIn wsX0_daysIn) := goodIn_app (goodIn_of _ (by decide +kernel)) ggX1_balance_X0_daysIn
set_option maxRecDepth 20000 in
theorem ggX1_balance_X1_partOf : GoodIn wsX1_balance wsX1_partOf := goodIn_r _ [34, 35, 36, 37, 24, 25, 26, 38, 39, 40, 5, 41, 13, 14, 15, 16, 17, 18, 19, 20, 21, 22, 23, 27, 28, 29, 30, 42, 43, 44, 45, 46, 47, 48, 49, 50, 51, 52, 53, 54, 55, 56, 57, 58, 59, 60, 61] (by decide +kernel) (by decide +kernel)
set_option maxRecDepth 20000 in
theorem gX1_balance_X1_partOf : GoodIn wsX1_balance (wsV RX1 115 RX1 yX1_partOf wsX1_partOf) := goodIn_app (goodIn_of _ (by decide +kernel)) ggX1_balance_X1_partOf
theorem dX1_balance_0 : decode cX1_balance 0 = .ok (.aload_n 0, 1) := by decide +kernel
theorem dX1_balance_1 : decode cX1_balance 1 = .ok (.iload_n 1, 1) := by decide +kernel
theorem dX1_balance_2 : decode cX1_balance 2 = .ok (.invokevirtual 55, 3) := by decide +kernel
theorem dX1_balance_5 : decode cX1_balance 5 = .ok (.astore_n 3, 1) := by decide +kernel
theorem dX1_balance_6 : decode cX1_balance 6 = .ok (.iload_n 2, 1) := by decide +kernel
theorem dX1_balance_7 : decode cX1_balance 7 = .ok (.aload_n 0, 1) := by decide +kernel
theorem dX1_balance_8 : decode cX1_balance 8 = .ok (.getfield 16, 3) := by decide +kernel
theorem dX1_balance_11 : decode cX1_balance 11 = .ok (.arraylength, 1) := by decide +kernel
theorem dX1_balance_12 : decode cX1_balance 12 = .ok (.invokestatic 29, 3) := by decide +kernel
theorem dX1_balance_15 : decode cX1_balance 15 = .ok (.aload_n 3, 1) := by decide +kernel
theorem dX1_balance_16 : decode cX1_balance 16 = .ok (.getfield 83, 3) := by decide +kernel
theorem dX1_balance_19 : decode cX1_balance 19 = .ok (.aload_n 3, 1) := by decide +kernel
theorem dX1_balance_20 : decode cX1_balance 20 = .ok (.iload_n 2, 1) := by decide +kernel
theorem dX1_balance_21 : decode cX1_balance 21 = .ok (.invokevirtual 119, 3) := by decide +kernel
theorem dX1_balance_24 : decode cX1_balance 24 = .ok (.imul, 1) := by decide +kernel
theorem dX1_balance_25 : decode cX1_balance 25 = .ok (.bipush 30, 2) := by decide +kernel
theorem dX1_balance_27 : decode cX1_balance 27 = .ok (.idiv, 1) := by decide +kernel
theorem dX1_balance_28 : decode cX1_balance 28 = .ok (.istore 4, 2) := by decide +kernel
theorem dX1_balance_30 : decode cX1_balance 30 = .ok (.aload_n 0, 1) := by decide +kernel
theorem dX1_balance_31 : decode cX1_balance 31 = .ok (.aload_n 3, 1) := by decide +kernel
theorem dX1_balance_32 : decode cX1_balance 32 = .ok (.iload_n 2, 1) := by decide +kernel
theorem dX1_balance_33 : decode cX1_balance 33 = .ok (.aload_n 0, 1) := by decide +kernel
theorem dX1_balance_34 : decode cX1_balance 34 = .ok (.getfield 16, 3) := by decide +kernel
theorem dX1_balance_37 : decode cX1_balance 37 = .ok (.iload_n 2, 1) := by decide +kernel
theorem dX1_balance_38 : decode cX1_balance 38 = .ok (.iaload, 1) := by decide +kernel
theorem dX1_balance_39 : decode cX1_balance 39 = .ok (.invokevirtual 115, 3) := by decide +kernel
theorem dX1_balance_42 : decode cX1_balance 42 = .ok (.iload 4, 2) := by decide +kernel
theorem dX1_balance_44 : decode cX1_balance 44 = .ok (.isub, 1) := by decide +kernel
theorem dX1_balance_45 : decode cX1_balance 45 = .ok (.ireturn, 1) := by decide +kernel
set_option maxRecDepth 20000 in
theorem ggX1_share_X1_checkNumber : GoodIn wsX1_share wsX1_checkNumber := goodIn_ca (goodIn_r _ [5, 6, 7] (by decide +kernel) (by decide +kernel)) (goodIn_sub (fun _ h => List.mem_cons_of_mem _ (List.mem_append_right _ h)) (by decide +kernel))
set_option maxRecDepth 20000 in
theorem gX1_share_X1_checkNumber : GoodIn wsX1_share (va_wsS RX1 29 yX1_checkNumber wsX1_checkNumber) := goodIn_app (goodIn_of _ (by decide +kernel)) ggX1_share_X1_checkNumber
set_option maxRecDepth 20000 in
theorem ggX1_share_X1_allAreas : GoodIn wsX1_share wsX1_allAreas := goodIn_r _ [11, 1, 12, 13, 14, 15, 16] (by decide +kernel) (by decide +kernel)
set_option maxRecDepth 20000 in
theorem gX1_share_X1_allAreas : GoodIn wsX1_share (wsV RX1 122 RX1 yX1_allAreas wsX1_allAreas) := goodIn_app (goodIn_of _ (by decide +kernel)) ggX1_share_X1_allAreas
theorem dX1_share_0 : decode cX1_share 0 = .ok (.iload_n 1, 1) := by decide +kernel
theorem dX1_share_1 : decode cX1_share 1 = .ok (.aload_n 0, 1) := by decide +kernel
theorem dX1_share_2 : decode cX1_share 2 = .ok (.getfield 9, 3) := by decide +kernel
theorem dX1_share_5 : decode cX1_share 5 = .ok (.arraylength, 1) := by decide +kernel
theorem dX1_share_6 : decode cX1_share 6 = .ok (.invokestatic 29, 3) := by decide +kernel
theorem dX1_share_9 : decode cX1_share 9 = .ok (.aload_n 0, 1) := by decide +kernel
theorem dX1_share_10 : decode cX1_share 10 = .ok (.invokevirtual 122, 3) := by decide +kernel
theorem dX1_share_13 : decode cX1_share 13 = .ok (.istore_n 2, 1) := by decide +kernel
theorem dX1_share_14 : decode cX1_share 14 = .ok (.iload_n 2, 1) := by decide +kernel
theorem dX1_share_15 : decode cX1_share 15 = .ok (.ifCond .le 16, 3) := by decide +kernel
theorem dX1_share_18 : decode cX1_share 18 = .ok (.aload_n 0, 1) := by decide +kernel
theorem dX1_share_19 : decode cX1_share 19 = .ok (.getfield 9, 3) := by decide +kernel
theorem dX1_share_22 : decode cX1_share 22 = .ok (.iload_n 1, 1) := by decide +kernel
theorem dX1_share_23 : decode cX1_share 23 = .ok (.iaload, 1) := by decide +kernel
theorem dX1_share_24 : decode cX1_share 24 = .ok (.i2d, 1) := by decide +kernel
theorem dX1_share_25 : decode cX1_share 25 = .ok (.iload_n 2, 1) := by decide +kernel
theorem dX1_share_26 : decode cX1_share 26 = .ok (.i2d, 1) := by decide +kernel
theorem dX1_share_27 : decode cX1_share 27 = .ok (.ddiv, 1) := by decide +kernel
theorem dX1_share_28 : decode cX1_share 28 = .ok (.goto 4, 3) := by decide +kernel
theorem dX1_share_31 : decode cX1_share 31 = .ok (.dconst 0, 1) := by decide +kernel
theorem dX1_share_32 : decode cX1_share 32 = .ok (.dreturn, 1) := by decide +kernel
theorem dX1_checkNumber_0 : decode cX1_checkNumber 0 = .ok (.iload_n 0, 1) := by decide +kernel
theorem dX1_checkNumber_1 : decode cX1_checkNumber 1 = .ok (.ifCond .lt 8, 3) := by decide +kernel
theorem dX1_checkNumber_4 : decode cX1_checkNumber 4 = .ok (.iload_n 0, 1) := by decide +kernel
theorem dX1_checkNumber_5 : decode cX1_checkNumber 5 = .ok (.iload_n 1, 1) := by decide +kernel
theorem dX1_checkNumber_6 : decode cX1_checkNumber 6 = .ok (.if_icmp .lt 13, 3) := by decide +kernel
theorem dX1_checkNumber_9 : decode cX1_checkNumber 9 = .ok (.new 126, 3) := by decide +kernel
theorem dX1_checkNumber_12 : decode cX1_checkNumber 12 = .ok (.dup, 1) := by decide +kernel
theorem dX1_checkNumber_13 : decode cX1_checkNumber 13 = .ok (.ldc 128, 2) := by decide +kernel
theorem dX1_checkNumber_15 : decode cX1_checkNumber 15 = .ok (.invokespecial 130, 3) := by decide +kernel
theorem dX1_checkNumber_18 : decode cX1_checkNumber 18 = .ok (.athrow, 1) := by decide +kernel
theorem dX1_checkNumber_19 : decode cX1_checkNumber 19 = .ok (.return_, 1) := by decide +kernel
theorem dX1_checkRange_0 : decode cX1_checkRange 0 = .ok (.iload_n 0, 1) := by decide +kernel
theorem dX1_checkRange_1 : decode cX1_checkRange 1 = .ok (.iload_n 1, 1) := by decide +kernel
theorem dX1_checkRange_2 : decode cX1_checkRange 2 = .ok (.if_icmp .lt 8, 3) := by decide +kernel
theorem dX1_checkRange_5 : decode cX1_checkRange 5 = .ok (.iload_n 0, 1) := by decide +kernel
theorem dX1_checkRange_6 : decode cX1_checkRange 6 = .ok (.iload_n 2, 1) := by decide +kernel
theorem dX1_checkRange_7 : decode cX1_checkRange 7 = .ok (.if_icmp .le 13, 3) := by decide +kernel
theorem dX1_checkRange_10 : decode cX1_checkRange 10 = .ok (.new 131, 3) := by decide +kernel
theorem dX1_checkRange_13 : decode cX1_checkRange 13 = .ok (.dup, 1) := by decide +kernel
theorem dX1_checkRange_14 : decode cX1_checkRange 14 = .ok (.ldc 133, 2) := by decide +kernel
theorem dX1_checkRange_16 : decode cX1_checkRange 16 = .ok (.invokespecial 135, 3) := by decide +kernel
theorem dX1_checkRange_19 : decode cX1_checkRange 19 = .ok (.athrow, 1) := by decide +kernel
theorem dX1_checkRange_20 : decode cX1_checkRange 20 = .ok (.return_, 1) := by decide +kernel
set_option maxRecDepth 20000 in
theorem ggX1_find_X1_checkNumber : GoodIn wsX1_find wsX1_checkNumber := goodIn_ca (goodIn_r _ [7, 1, 2] (by decide +kernel) (by decide +kernel)) (goodIn_sub (fun _ h => List.mem_cons_of_mem _ (List.mem_append_right _ h)) (by decide +kernel))
set_option maxRecDepth 20000 in
theorem gX1_find_X1_checkNumber : GoodIn wsX1_find (va_wsS RX1 29 yX1_checkNumber wsX1_checkNumber) := goodIn_app (goodIn_of _ (by decide +kernel)) ggX1_find_X1_checkNumber
theorem dX1_find_0 : decode cX1_find 0 = .ok (.iload_n 1, 1) := by decide +kernel
theorem dX1_find_1 : decode cX1_find 1 = .ok (.aload_n 0, 1) := by decide +kernel
theorem dX1_find_2 : decode cX1_find 2 = .ok (.getfield 21, 3) := by decide +kernel
theorem dX1_find_5 : decode cX1_find 5 = .ok (.arraylength, 1) := by decide +kernel
theorem dX1_find_6 : decode cX1_find 6 = .ok (.invokestatic 29, 3) := by decide +kernel
theorem dX1_find_9 : decode cX1_find 9 = .ok (.aload_n 0, 1) := by decide +kernel
theorem dX1_find_10 : decode cX1_find 10 = .ok (.getfield 21, 3) := by decide +kernel
theorem dX1_find_13 : decode cX1_find 13 = .ok (.iload_n 1, 1) := by decide +kernel
theorem dX1_find_14 : decode cX1_find 14 = .ok (.aaload, 1) := by decide +kernel
theorem dX1_find_15 : decode cX1_find 15 = .ok (.astore_n 2, 1) := by decide +kernel
theorem dX1_find_16 : decode cX1_find 16 = .ok (.aload_n 2, 1) := by decide +kernel
theorem dX1_find_17 : decode cX1_find 17 = .ok (.ifnonnull 13, 3) := by decide +kernel
theorem dX1_find_20 : decode cX1_find 20 = .ok (.new 126, 3) := by decide +kernel
theorem dX1_find_23 : decode cX1_find 23 = .ok (.dup, 1) := by decide +kernel
theorem dX1_find_24 : decode cX1_find 24 = .ok (.ldc 136, 2) := by decide +kernel
theorem dX1_find_26 : decode cX1_find 26 = .ok (.invokespecial 130, 3) := by decide +kernel
theorem dX1_find_29 : decode cX1_find 29 = .ok (.athrow, 1) := by decide +kernel
theorem dX1_find_30 : decode cX1_find 30 = .ok (.aload_n 2, 1) := by decide +kernel
theorem dX1_find_31 : decode cX1_find 31 = .ok (.areturn, 1) := by decide +kernel
set_option maxRecDepth 20000 in
theorem ggX1_daysLet_X0_daysWithin : GoodIn wsX1_daysLet wsX0_daysWithin := goodIn_r _ [6, 7, 8, 9, 10, 11, 12, 13, 14, 15, 21, 22, 23, 24, 25, 26, 27, 28, 29, 30, 31, 32] (by decide +kernel) (by decide +kernel)
set_option maxRecDepth 20000 in
theorem gX1_daysLet_X0_daysWithin : GoodIn wsX1_daysLet (wsV RX1 138 RX0 yX0_daysWithin wsX0_daysWithin) := goodIn_app (goodIn_of _ (by decide +kernel)) ggX1_daysLet_X0_daysWithin
theorem dX1_daysLet_0 : decode cX1_daysLet 0 = .ok (.iconst 0, 1) := by decide +kernel
theorem dX1_daysLet_1 : decode cX1_daysLet 1 = .ok (.istore 4, 2) := by decide +kernel
theorem dX1_daysLet_3 : decode cX1_daysLet 3 = .ok (.aload_n 0, 1) := by decide +kernel
theorem dX1_daysLet_4 : decode cX1_daysLet 4 = .ok (.getfield 21, 3) := by decide +kernel
theorem dX1_daysLet_7 : decode cX1_daysLet 7 = .ok (.astore 5, 2) := by decide +kernel
theorem dX1_daysLet_9 : decode cX1_daysLet 9 = .ok (.aload 5, 2) := by decide +kernel
theorem dX1_daysLet_11 : decode cX1_daysLet 11 = .ok (.arraylength, 1) := by decide +kernel
theorem dX1_daysLet_12 : decode cX1_daysLet 12 = .ok (.istore 6, 2) := by decide +kernel
theorem dX1_daysLet_14 : decode cX1_daysLet 14 = .ok (.iconst 0, 1) := by decide +kernel
theorem dX1_daysLet_15 : decode cX1_daysLet 15 = .ok (.istore 7, 2) := by decide +kernel
theorem dX1_daysLet_17 : decode cX1_daysLet 17 = .ok (.iload 7, 2) := by decide +kernel
theorem dX1_daysLet_19 : decode cX1_daysLet 19 = .ok (.iload 6, 2) := by decide +kernel
theorem dX1_daysLet_21 : decode cX1_daysLet 21 = .ok (.if_icmp .ge 42, 3) := by decide +kernel
theorem dX1_daysLet_24 : decode cX1_daysLet 24 = .ok (.aload 5, 2) := by decide +kernel
theorem dX1_daysLet_26 : decode cX1_daysLet 26 = .ok (.iload 7, 2) := by decide +kernel
theorem dX1_daysLet_28 : decode cX1_daysLet 28 = .ok (.aaload, 1) := by decide +kernel
theorem dX1_daysLet_29 : decode cX1_daysLet 29 = .ok (.astore 8, 2) := by decide +kernel
theorem dX1_daysLet_31 : decode cX1_daysLet 31 = .ok (.aload 8, 2) := by decide +kernel
theorem dX1_daysLet_33 : decode cX1_daysLet 33 = .ok (.ifnull 24, 3) := by decide +kernel
theorem dX1_daysLet_36 : decode cX1_daysLet 36 = .ok (.aload 8, 2) := by decide +kernel
theorem dX1_daysLet_38 : decode cX1_daysLet 38 = .ok (.getfield 101, 3) := by decide +kernel
theorem dX1_daysLet_41 : decode cX1_daysLet 41 = .ok (.iload_n 1, 1) := by decide +kernel
theorem dX1_daysLet_42 : decode cX1_daysLet 42 = .ok (.if_icmp .ne 15, 3) := by decide +kernel
theorem dX1_daysLet_45 : decode cX1_daysLet 45 = .ok (.iload 4, 2) := by decide +kernel
theorem dX1_daysLet_47 : decode cX1_daysLet 47 = .ok (.aload 8, 2) := by decide +kernel
theorem dX1_daysLet_49 : decode cX1_daysLet 49 = .ok (.iload_n 2, 1) := by decide +kernel
theorem dX1_daysLet_50 : decode cX1_daysLet 50 = .ok (.iload_n 3, 1) := by decide +kernel
theorem dX1_daysLet_51 : decode cX1_daysLet 51 = .ok (.invokevirtual 138, 3) := by decide +kernel
theorem dX1_daysLet_54 : decode cX1_daysLet 54 = .ok (.iadd, 1) := by decide +kernel
theorem dX1_daysLet_55 : decode cX1_daysLet 55 = .ok (.istore 4, 2) := by decide +kernel
theorem dX1_daysLet_57 : decode cX1_daysLet 57 = .ok (.iinc 7 1, 3) := by decide +kernel
theorem dX1_daysLet_60 : decode cX1_daysLet 60 = .ok (.goto (-43), 3) := by decide +kernel
theorem dX1_daysLet_63 : decode cX1_daysLet 63 = .ok (.iload 4, 2) := by decide +kernel
theorem dX1_daysLet_65 : decode cX1_daysLet 65 = .ok (.ireturn, 1) := by decide +kernel
theorem dX1_allAreas_0 : decode cX1_allAreas 0 = .ok (.iconst 0, 1) := by decide +kernel
theorem dX1_allAreas_1 : decode cX1_allAreas 1 = .ok (.istore_n 1, 1) := by decide +kernel
theorem dX1_allAreas_2 : decode cX1_allAreas 2 = .ok (.aload_n 0, 1) := by decide +kernel
theorem dX1_allAreas_3 : decode cX1_allAreas 3 = .ok (.getfield 9, 3) := by decide +kernel
theorem dX1_allAreas_6 : decode cX1_allAreas 6 = .ok (.astore_n 2, 1) := by decide +kernel
theorem dX1_allAreas_7 : decode cX1_allAreas 7 = .ok (.aload_n 2, 1) := by decide +kernel
theorem dX1_allAreas_8 : decode cX1_allAreas 8 = .ok (.arraylength, 1) := by decide +kernel
theorem dX1_allAreas_9 : decode cX1_allAreas 9 = .ok (.istore_n 3, 1) := by decide +kernel
theorem dX1_allAreas_10 : decode cX1_allAreas 10 = .ok (.iconst 0, 1) := by decide +kernel
theorem dX1_allAreas_11 : decode cX1_allAreas 11 = .ok (.istore 4, 2) := by decide +kernel
theorem dX1_allAreas_13 : decode cX1_allAreas 13 = .ok (.iload 4, 2) := by decide +kernel
theorem dX1_allAreas_15 : decode cX1_allAreas 15 = .ok (.iload_n 3, 1) := by decide +kernel
theorem dX1_allAreas_16 : decode cX1_allAreas 16 = .ok (.if_icmp .ge 20, 3) := by decide +kernel
theorem dX1_allAreas_19 : decode cX1_allAreas 19 = .ok (.aload_n 2, 1) := by decide +kernel
theorem dX1_allAreas_20 : decode cX1_allAreas 20 = .ok (.iload 4, 2) := by decide +kernel
theorem dX1_allAreas_22 : decode cX1_allAreas 22 = .ok (.iaload, 1) := by decide +kernel
theorem dX1_allAreas_23 : decode cX1_allAreas 23 = .ok (.istore 5, 2) := by decide +kernel
theorem dX1_allAreas_25 : decode cX1_allAreas 25 = .ok (.iload_n 1, 1) := by decide +kernel
theorem dX1_allAreas_26 : decode cX1_allAreas 26 = .ok (.iload 5, 2) := by decide +kernel
theorem dX1_allAreas_28 : decode cX1_allAreas 28 = .ok (.iadd, 1) := by decide +kernel
theorem dX1_allAreas_29 : decode cX1_allAreas 29 = .ok (.istore_n 1, 1) := by decide +kernel
theorem dX1_allAreas_30 : decode cX1_allAreas 30 = .ok (.iinc 4 1, 3) := by decide +kernel
theorem dX1_allAreas_33 : decode cX1_allAreas 33 = .ok (.goto (-20), 3) := by decide +kernel
theorem dX1_allAreas_36 : decode cX1_allAreas 36 = .ok (.iload_n 1, 1) := by decide +kernel
theorem dX1_allAreas_37 : decode cX1_allAreas 37 = .ok (.ireturn, 1) := by decide +kernel
theorem dX1_valueAt_0 : decode cX1_valueAt 0 = .ok (.iload_n 1, 1) := by decide +kernel
theorem dX1_valueAt_1 : decode cX1_valueAt 1 = .ok (.ifCond .lt 15, 3) := by decide +kernel
theorem dX1_valueAt_4 : decode cX1_valueAt 4 = .ok (.iload_n 1, 1) := by decide +kernel
theorem dX1_valueAt_5 : decode cX1_valueAt 5 = .ok (.aload_n 0, 1) := by decide +kernel
theorem dX1_valueAt_6 : decode cX1_valueAt 6 = .ok (.arraylength, 1) := by decide +kernel
theorem dX1_valueAt_7 : decode cX1_valueAt 7 = .ok (.if_icmp .ge 9, 3) := by decide +kernel
theorem dX1_valueAt_10 : decode cX1_valueAt 10 = .ok (.aload_n 0, 1) := by decide +kernel
theorem dX1_valueAt_11 : decode cX1_valueAt 11 = .ok (.iload_n 1, 1) := by decide +kernel
theorem dX1_valueAt_12 : decode cX1_valueAt 12 = .ok (.iaload, 1) := by decide +kernel
theorem dX1_valueAt_13 : decode cX1_valueAt 13 = .ok (.goto 4, 3) := by decide +kernel
theorem dX1_valueAt_16 : decode cX1_valueAt 16 = .ok (.iconst 0, 1) := by decide +kernel
theorem dX1_valueAt_17 : decode cX1_valueAt 17 = .ok (.ireturn, 1) := by decide +kernel
set_option maxRecDepth 20000 in
theorem ggX1_rentFor_X0_runsOn : GoodIn wsX1_rentFor wsX0_runsOn := goodIn_r _ [10, 11, 12, 44, 45, 46, 47, 48, 49, 50, 51, 52, 53, 54, 55] (by decide +kernel) (by decide +kernel)
set_option maxRecDepth 20000 in
theorem gX1_rentFor_X0_runsOn : GoodIn wsX1_rentFor (wsV RX1 104 RX0 yX0_runsOn wsX0_runsOn) := goodIn_app (goodIn_of _ (by decide +kernel)) ggX1_rentFor_X0_runsOn
set_option maxRecDepth 20000 in
theorem ggX1_rentFor_X0_isFreeOn : GoodIn wsX1_rentFor wsX0_isFreeOn := goodIn_r _ [16, 11, 17, 44, 45, 46, 47, 48, 49, 50, 51, 52, 53, 54, 55] (by decide +kernel) (by decide +kernel)
set_option maxRecDepth 20000 in
theorem gX1_rentFor_X0_isFreeOn : GoodIn wsX1_rentFor (wsV RX1 141 RX0 yX0_isFreeOn wsX0_isFreeOn) := goodIn_app (goodIn_of _ (by decide +kernel)) ggX1_rentFor_X0_isFreeOn
set_option maxRecDepth 20000 in
theorem ggX1_rentFor_X0_agreedOn : GoodIn wsX1_rentFor wsX0_agreedOn := goodIn_r _ [21, 11, 22, 23, 24, 25, 44, 45, 46, 47, 48, 49, 50, 51, 52, 53, 54, 55] (by decide +kernel) (by decide +kernel)
set_option maxRecDepth 20000 in
theorem gX1_rentFor_X0_agreedOn : GoodIn wsX1_rentFor (wsV RX1 144 RX0 yX0_agreedOn wsX0_agreedOn) := goodIn_app (goodIn_of _ (by decide +kernel)) ggX1_rentFor_X0_agreedOn
set_option maxRecDepth 20000 in
theorem ggX1_rentFor_X1_valueAt : GoodIn wsX1_rentFor wsX1_valueAt := goodIn_r _ [29] (by decide +kernel) (by decide +kernel)
set_option maxRecDepth 20000 in
theorem gX1_rentFor_X1_valueAt : GoodIn wsX1_rentFor (va_wsS RX1 147 yX1_valueAt wsX1_valueAt) := goodIn_app (goodIn_of _ (by decide +kernel)) ggX1_rentFor_X1_valueAt
set_option maxRecDepth 20000 in
theorem ggX1_rentFor_X1_highestIndex : GoodIn wsX1_rentFor wsX1_highestIndex := goodIn_r _ [33, 1, 2, 3, 4, 5, 34, 35, 36, 9, 37, 38, 11, 26, 27, 28, 29, 44, 45, 46, 47, 48, 49, 50, 51, 52, 53, 54, 55, 39, 40, 41, 42, 43] (by decide +kernel) (by decide +kernel)
set_option maxRecDepth 20000 in
theorem gX1_rentFor_X1_highestIndex : GoodIn wsX1_rentFor (wsV RX1 151 RX1 yX1_highestIndex wsX1_highestIndex) := goodIn_app (goodIn_of _ (by decide +kernel)) ggX1_rentFor_X1_highestIndex
theorem dX1_rentFor_0 : decode cX1_rentFor 0 = .ok (.aload_n 1, 1) := by decide +kernel
theorem dX1_rentFor_1 : decode cX1_rentFor 1 = .ok (.iload_n 2, 1) := by decide +kernel
theorem dX1_rentFor_2 : decode cX1_rentFor 2 = .ok (.invokevirtual 104, 3) := by decide +kernel
theorem dX1_rentFor_5 : decode cX1_rentFor 5 = .ok (.ifCond .eq 11, 3) := by decide +kernel
theorem dX1_rentFor_8 : decode cX1_rentFor 8 = .ok (.aload_n 1, 1) := by decide +kernel
theorem dX1_rentFor_9 : decode cX1_rentFor 9 = .ok (.iload_n 2, 1) := by decide +kernel
theorem dX1_rentFor_10 : decode cX1_rentFor 10 = .ok (.invokevirtual 141, 3) := by decide +kernel
theorem dX1_rentFor_13 : decode cX1_rentFor 13 = .ok (.ifCond .eq 5, 3) := by decide +kernel
theorem dX1_rentFor_16 : decode cX1_rentFor 16 = .ok (.iconst 0, 1) := by decide +kernel
theorem dX1_rentFor_17 : decode cX1_rentFor 17 = .ok (.ireturn, 1) := by decide +kernel
theorem dX1_rentFor_18 : decode cX1_rentFor 18 = .ok (.aload_n 1, 1) := by decide +kernel
theorem dX1_rentFor_19 : decode cX1_rentFor 19 = .ok (.iload_n 2, 1) := by decide +kernel
theorem dX1_rentFor_20 : decode cX1_rentFor 20 = .ok (.invokevirtual 144, 3) := by decide +kernel
theorem dX1_rentFor_23 : decode cX1_rentFor 23 = .ok (.istore_n 3, 1) := by decide +kernel
theorem dX1_rentFor_24 : decode cX1_rentFor 24 = .ok (.aload_n 0, 1) := by decide +kernel
theorem dX1_rentFor_25 : decode cX1_rentFor 25 = .ok (.getfield 13, 3) := by decide +kernel
theorem dX1_rentFor_28 : decode cX1_rentFor 28 = .ok (.aload_n 1, 1) := by decide +kernel
theorem dX1_rentFor_29 : decode cX1_rentFor 29 = .ok (.getfield 59, 3) := by decide +kernel
theorem dX1_rentFor_32 : decode cX1_rentFor 32 = .ok (.bipush 30, 2) := by decide +kernel
theorem dX1_rentFor_34 : decode cX1_rentFor 34 = .ok (.idiv, 1) := by decide +kernel
theorem dX1_rentFor_35 : decode cX1_rentFor 35 = .ok (.invokestatic 147, 3) := by decide +kernel
theorem dX1_rentFor_38 : decode cX1_rentFor 38 = .ok (.istore 4, 2) := by decide +kernel
theorem dX1_rentFor_40 : decode cX1_rentFor 40 = .ok (.iload 4, 2) := by decide +kernel
theorem dX1_rentFor_42 : decode cX1_rentFor 42 = .ok (.ifCond .gt 5, 3) := by decide +kernel
theorem dX1_rentFor_45 : decode cX1_rentFor 45 = .ok (.iload_n 3, 1) := by decide +kernel
theorem dX1_rentFor_46 : decode cX1_rentFor 46 = .ok (.ireturn, 1) := by decide +kernel
theorem dX1_rentFor_47 : decode cX1_rentFor 47 = .ok (.iload_n 3, 1) := by decide +kernel
theorem dX1_rentFor_48 : decode cX1_rentFor 48 = .ok (.iload_n 3, 1) := by decide +kernel
theorem dX1_rentFor_49 : decode cX1_rentFor 49 = .ok (.aload_n 0, 1) := by decide +kernel
theorem dX1_rentFor_50 : decode cX1_rentFor 50 = .ok (.aload_n 1, 1) := by decide +kernel
theorem dX1_rentFor_51 : decode cX1_rentFor 51 = .ok (.iload_n 2, 1) := by decide +kernel
theorem dX1_rentFor_52 : decode cX1_rentFor 52 = .ok (.invokevirtual 151, 3) := by decide +kernel
theorem dX1_rentFor_55 : decode cX1_rentFor 55 = .ok (.imul, 1) := by decide +kernel
theorem dX1_rentFor_56 : decode cX1_rentFor 56 = .ok (.iload 4, 2) := by decide +kernel
theorem dX1_rentFor_58 : decode cX1_rentFor 58 = .ok (.idiv, 1) := by decide +kernel
theorem dX1_rentFor_59 : decode cX1_rentFor 59 = .ok (.invokestatic 93, 3) := by decide +kernel
theorem dX1_rentFor_62 : decode cX1_rentFor 62 = .ok (.ireturn, 1) := by decide +kernel
set_option maxRecDepth 20000 in
theorem ggX1_highestIndex_X0_reviewsUpTo : GoodIn wsX1_highestIndex wsX0_reviewsUpTo := goodIn_r _ [10, 11, 12, 17, 18, 19, 20, 21, 22, 23, 24, 25, 26, 27, 28] (by decide +kernel) (by decide +kernel)
set_option maxRecDepth 20000 in
theorem gX1_highestIndex_X0_reviewsUpTo : GoodIn wsX1_highestIndex (wsV RX1 154 RX0 yX0_reviewsUpTo wsX0_reviewsUpTo) := goodIn_app (goodIn_of _ (by decide +kernel)) ggX1_highestIndex_X0_reviewsUpTo
set_option maxRecDepth 20000 in
theorem ggX1_highestIndex_X1_valueAt : GoodIn wsX1_highestIndex wsX1_valueAt := goodIn_r _ [16] (by decide +kernel) (by decide +kernel)
set_option maxRecDepth 20000 in
theorem gX1_highestIndex_X1_valueAt : GoodIn wsX1_highestIndex (va_wsS RX1 147 yX1_valueAt wsX1_valueAt) := goodIn_app (goodIn_of _ (by decide +kernel)) ggX1_highestIndex_X1_valueAt
theorem dX1_highestIndex_0 : decode cX1_highestIndex 0 = .ok (.iconst 0, 1) := by decide +kernel
theorem dX1_highestIndex_1 : decode cX1_highestIndex 1 = .ok (.istore_n 3, 1) := by decide +kernel
theorem dX1_highestIndex_2 : decode cX1_highestIndex 2 = .ok (.aload_n 1, 1) := by decide +kernel
theorem dX1_highestIndex_3 : decode cX1_highestIndex 3 = .ok (.iload_n 2, 1) := by decide +kernel
theorem dX1_highestIndex_4 : decode cX1_highestIndex 4 = .ok (.invokevirtual 154, 3) := by decide +kernel
theorem dX1_highestIndex_7 : decode cX1_highestIndex 7 = .ok (.istore 4, 2) := by decide +kernel
theorem dX1_highestIndex_9 : decode cX1_highestIndex 9 = .ok (.iconst 1, 1) := by decide +kernel
theorem dX1_highestIndex_10 : decode cX1_highestIndex 10 = .ok (.istore 5, 2) := by decide +kernel
theorem dX1_highestIndex_12 : decode cX1_highestIndex 12 = .ok (.iload 5, 2) := by decide +kernel
theorem dX1_highestIndex_14 : decode cX1_highestIndex 14 = .ok (.iload 4, 2) := by decide +kernel
theorem dX1_highestIndex_16 : decode cX1_highestIndex 16 = .ok (.if_icmp .gt 40, 3) := by decide +kernel
theorem dX1_highestIndex_19 : decode cX1_highestIndex 19 = .ok (.aload_n 1, 1) := by decide +kernel
theorem dX1_highestIndex_20 : decode cX1_highestIndex 20 = .ok (.getfield 59, 3) := by decide +kernel
theorem dX1_highestIndex_23 : decode cX1_highestIndex 23 = .ok (.iload 5, 2) := by decide +kernel
theorem dX1_highestIndex_25 : decode cX1_highestIndex 25 = .ok (.aload_n 1, 1) := by decide +kernel
theorem dX1_highestIndex_26 : decode cX1_highestIndex 26 = .ok (.getfield 77, 3) := by decide +kernel
theorem dX1_highestIndex_29 : decode cX1_highestIndex 29 = .ok (.imul, 1) := by decide +kernel
theorem dX1_highestIndex_30 : decode cX1_highestIndex 30 = .ok (.iadd, 1) := by decide +kernel
theorem dX1_highestIndex_31 : decode cX1_highestIndex 31 = .ok (.bipush 30, 2) := by decide +kernel
theorem dX1_highestIndex_33 : decode cX1_highestIndex 33 = .ok (.idiv, 1) := by decide +kernel
theorem dX1_highestIndex_34 : decode cX1_highestIndex 34 = .ok (.istore 6, 2) := by decide +kernel
theorem dX1_highestIndex_36 : decode cX1_highestIndex 36 = .ok (.iload_n 3, 1) := by decide +kernel
theorem dX1_highestIndex_37 : decode cX1_highestIndex 37 = .ok (.aload_n 0, 1) := by decide +kernel
theorem dX1_highestIndex_38 : decode cX1_highestIndex 38 = .ok (.getfield 13, 3) := by decide +kernel
theorem dX1_highestIndex_41 : decode cX1_highestIndex 41 = .ok (.iload 6, 2) := by decide +kernel
theorem dX1_highestIndex_43 : decode cX1_highestIndex 43 = .ok (.invokestatic 147, 3) := by decide +kernel
theorem dX1_highestIndex_46 : decode cX1_highestIndex 46 = .ok (.invokestatic 93, 3) := by decide +kernel
theorem dX1_highestIndex_49 : decode cX1_highestIndex 49 = .ok (.istore_n 3, 1) := by decide +kernel
theorem dX1_highestIndex_50 : decode cX1_highestIndex 50 = .ok (.iinc 5 1, 3) := by decide +kernel
theorem dX1_highestIndex_53 : decode cX1_highestIndex 53 = .ok (.goto (-41), 3) := by decide +kernel
theorem dX1_highestIndex_56 : decode cX1_highestIndex 56 = .ok (.iload_n 3, 1) := by decide +kernel
theorem dX1_highestIndex_57 : decode cX1_highestIndex 57 = .ok (.ireturn, 1) := by decide +kernel
set_option maxRecDepth 20000 in
theorem ggX1_billFor_X0_nextTurn : GoodIn wsX1_billFor wsX0_nextTurn := goodIn_r _ [9, 10, 11, 12, 13, 14, 15, 16, 17, 8, 18, 19, 20, 21, 22, 54, 55, 56, 57, 58, 59, 60, 61, 62, 63, 64, 65] (by decide +kernel) (by decide +kernel)
set_option maxRecDepth 20000 in
theorem gX1_billFor_X0_nextTurn : GoodIn wsX1_billFor (wsV RX1 111 RX0 yX0_nextTurn wsX0_nextTurn) := goodIn_app (goodIn_of _ (by decide +kernel)) ggX1_billFor_X0_nextTurn
set_option maxRecDepth 20000 in
theorem ggX1_billFor_X1_rentFor : GoodIn wsX1_billFor wsX1_rentFor := goodIn_r _ [27, 28, 29, 30, 3, 31, 32, 33, 34, 8, 35, 10, 12, 36, 37, 38, 39, 11, 40, 41, 42, 43, 44, 13, 14, 45, 46, 47, 26, 48, 49, 50, 51, 52, 53, 20, 21, 22, 15, 66, 67, 68, 69, 70, 54, 55, 56, 57, 58, 59, 60, 61, 62, 63, 64, 65] (by decide +kernel) (by decide +kernel)
set_option maxRecDepth 20000 in
theorem gX1_billFor_X1_rentFor : GoodIn wsX1_billFor (wsV RX1 86 RX1 yX1_rentFor wsX1_rentFor) := goodIn_app (goodIn_of _ (by decide +kernel)) ggX1_billFor_X1_rentFor
theorem dX1_billFor_0 : decode cX1_billFor 0 = .ok (.iload_n 2, 1) := by decide +kernel
theorem dX1_billFor_1 : decode cX1_billFor 1 = .ok (.bipush 30, 2) := by decide +kernel
theorem dX1_billFor_3 : decode cX1_billFor 3 = .ok (.imul, 1) := by decide +kernel
theorem dX1_billFor_4 : decode cX1_billFor 4 = .ok (.istore_n 3, 1) := by decide +kernel
theorem dX1_billFor_5 : decode cX1_billFor 5 = .ok (.iload_n 3, 1) := by decide +kernel
theorem dX1_billFor_6 : decode cX1_billFor 6 = .ok (.bipush 30, 2) := by decide +kernel
theorem dX1_billFor_8 : decode cX1_billFor 8 = .ok (.iadd, 1) := by decide +kernel
theorem dX1_billFor_9 : decode cX1_billFor 9 = .ok (.istore 4, 2) := by decide +kernel
theorem dX1_billFor_11 : decode cX1_billFor 11 = .ok (.iconst 0, 1) := by decide +kernel
theorem dX1_billFor_12 : decode cX1_billFor 12 = .ok (.istore 5, 2) := by decide +kernel
theorem dX1_billFor_14 : decode cX1_billFor 14 = .ok (.iconst 0, 1) := by decide +kernel
theorem dX1_billFor_15 : decode cX1_billFor 15 = .ok (.istore 6, 2) := by decide +kernel
theorem dX1_billFor_17 : decode cX1_billFor 17 = .ok (.iload 6, 2) := by decide +kernel
theorem dX1_billFor_19 : decode cX1_billFor 19 = .ok (.bipush 30, 2) := by decide +kernel
theorem dX1_billFor_21 : decode cX1_billFor 21 = .ok (.if_icmp .ge 46, 3) := by decide +kernel
theorem dX1_billFor_24 : decode cX1_billFor 24 = .ok (.iload_n 3, 1) := by decide +kernel
theorem dX1_billFor_25 : decode cX1_billFor 25 = .ok (.iload 4, 2) := by decide +kernel
theorem dX1_billFor_27 : decode cX1_billFor 27 = .ok (.if_icmp .ge 40, 3) := by decide +kernel
theorem dX1_billFor_30 : decode cX1_billFor 30 = .ok (.aload_n 1, 1) := by decide +kernel
theorem dX1_billFor_31 : decode cX1_billFor 31 = .ok (.iload_n 3, 1) := by decide +kernel
theorem dX1_billFor_32 : decode cX1_billFor 32 = .ok (.invokevirtual 111, 3) := by decide +kernel
theorem dX1_billFor_35 : decode cX1_billFor 35 = .ok (.iload 4, 2) := by decide +kernel
theorem dX1_billFor_37 : decode cX1_billFor 37 = .ok (.invokestatic 157, 3) := by decide +kernel
theorem dX1_billFor_40 : decode cX1_billFor 40 = .ok (.istore 7, 2) := by decide +kernel
theorem dX1_billFor_42 : decode cX1_billFor 42 = .ok (.iload 5, 2) := by decide +kernel
theorem dX1_billFor_44 : decode cX1_billFor 44 = .ok (.iload 7, 2) := by decide +kernel
theorem dX1_billFor_46 : decode cX1_billFor 46 = .ok (.iload_n 3, 1) := by decide +kernel
theorem dX1_billFor_47 : decode cX1_billFor 47 = .ok (.isub, 1) := by decide +kernel
theorem dX1_billFor_48 : decode cX1_billFor 48 = .ok (.aload_n 0, 1) := by decide +kernel
theorem dX1_billFor_49 : decode cX1_billFor 49 = .ok (.aload_n 1, 1) := by decide +kernel
theorem dX1_billFor_50 : decode cX1_billFor 50 = .ok (.iload_n 3, 1) := by decide +kernel
theorem dX1_billFor_51 : decode cX1_billFor 51 = .ok (.invokevirtual 86, 3) := by decide +kernel
theorem dX1_billFor_54 : decode cX1_billFor 54 = .ok (.imul, 1) := by decide +kernel
theorem dX1_billFor_55 : decode cX1_billFor 55 = .ok (.iadd, 1) := by decide +kernel
theorem dX1_billFor_56 : decode cX1_billFor 56 = .ok (.istore 5, 2) := by decide +kernel
theorem dX1_billFor_58 : decode cX1_billFor 58 = .ok (.iload 7, 2) := by decide +kernel
theorem dX1_billFor_60 : decode cX1_billFor 60 = .ok (.istore_n 3, 1) := by decide +kernel
theorem dX1_billFor_61 : decode cX1_billFor 61 = .ok (.iinc 6 1, 3) := by decide +kernel
theorem dX1_billFor_64 : decode cX1_billFor 64 = .ok (.goto (-47), 3) := by decide +kernel
theorem dX1_billFor_67 : decode cX1_billFor 67 = .ok (.iload 5, 2) := by decide +kernel
theorem dX1_billFor_69 : decode cX1_billFor 69 = .ok (.bipush 30, 2) := by decide +kernel
theorem dX1_billFor_71 : decode cX1_billFor 71 = .ok (.idiv, 1) := by decide +kernel
theorem dX1_billFor_72 : decode cX1_billFor 72 = .ok (.ireturn, 1) := by decide +kernel
set_option maxRecDepth 20000 in
theorem ggX1_partOf_X1_allAreas : GoodIn wsX1_partOf wsX1_allAreas := goodIn_r _ [11, 1, 30, 31, 32, 33, 34] (by decide +kernel) (by decide +kernel)
set_option maxRecDepth 20000 in
theorem gX1_partOf_X1_allAreas : GoodIn wsX1_partOf (wsV RX1 122 RX1 yX1_allAreas wsX1_allAreas) := goodIn_app (goodIn_of _ (by decide +kernel)) ggX1_partOf_X1_allAreas
set_option maxRecDepth 20000 in
theorem ggX1_partOf_X0_daysIn : GoodIn wsX1_partOf wsX0_daysIn := goodIn_r _ [16, 17, 18, 19, 15, 20, 21, 22, 4, 5, 6, 23, 24, 25, 26, 35, 36, 37, 38, 39, 40, 41, 42, 43, 44, 45, 46] (by decide +kernel) (by decide +kernel)
set_option maxRecDepth 20000 in
theorem gX1_partOf_X0_daysIn : GoodIn wsX1_partOf (wsV RX1 119 RX0 yX0_daysIn wsX0_daysIn) := goodIn_app (goodIn_of _ (by decide +kernel)) ggX1_partOf_X0_daysIn
set_option maxRecDepth 20000 in
theorem ggX1_partOf_X1_valueAt : GoodIn wsX1_partOf wsX1_valueAt := goodIn_r _ [29] (by decide +kernel) (by decide +kernel)
set_option maxRecDepth 20000 in
theorem gX1_partOf_X1_valueAt : GoodIn wsX1_partOf (va_wsS RX1 147 yX1_valueAt wsX1_valueAt) := goodIn_app (goodIn_of _ (by decide +kernel)) ggX1_partOf_X1_valueAt
theorem dX1_partOf_0 : decode cX1_partOf 0 = .ok (.aload_n 0, 1) := by decide +kernel
theorem dX1_partOf_1 : decode cX1_partOf 1 = .ok (.invokevirtual 122, 3) := by decide +kernel
theorem dX1_partOf_4 : decode cX1_partOf 4 = .ok (.istore 4, 2) := by decide +kernel
theorem dX1_partOf_6 : decode cX1_partOf 6 = .ok (.iload 4, 2) := by decide +kernel
theorem dX1_partOf_8 : decode cX1_partOf 8 = .ok (.ifCond .gt 5, 3) := by decide +kernel
theorem dX1_partOf_11 : decode cX1_partOf 11 = .ok (.iconst 0, 1) := by decide +kernel
theorem dX1_partOf_12 : decode cX1_partOf 12 = .ok (.ireturn, 1) := by decide +kernel
theorem dX1_partOf_13 : decode cX1_partOf 13 = .ok (.aload_n 1, 1) := by decide +kernel
theorem dX1_partOf_14 : decode cX1_partOf 14 = .ok (.iload_n 2, 1) := by decide +kernel
theorem dX1_partOf_15 : decode cX1_partOf 15 = .ok (.invokevirtual 119, 3) := by decide +kernel
theorem dX1_partOf_18 : decode cX1_partOf 18 = .ok (.istore 5, 2) := by decide +kernel
theorem dX1_partOf_20 : decode cX1_partOf 20 = .ok (.iload_n 3, 1) := by decide +kernel
theorem dX1_partOf_21 : decode cX1_partOf 21 = .ok (.i2l, 1) := by decide +kernel
theorem dX1_partOf_22 : decode cX1_partOf 22 = .ok (.aload_n 0, 1) := by decide +kernel
theorem dX1_partOf_23 : decode cX1_partOf 23 = .ok (.getfield 9, 3) := by decide +kernel
theorem dX1_partOf_26 : decode cX1_partOf 26 = .ok (.aload_n 1, 1) := by decide +kernel
theorem dX1_partOf_27 : decode cX1_partOf 27 = .ok (.getfield 101, 3) := by decide +kernel
theorem dX1_partOf_30 : decode cX1_partOf 30 = .ok (.invokestatic 147, 3) := by decide +kernel
theorem dX1_partOf_33 : decode cX1_partOf 33 = .ok (.i2l, 1) := by decide +kernel
theorem dX1_partOf_34 : decode cX1_partOf 34 = .ok (.lmul, 1) := by decide +kernel
theorem dX1_partOf_35 : decode cX1_partOf 35 = .ok (.iload 5, 2) := by decide +kernel
theorem dX1_partOf_37 : decode cX1_partOf 37 = .ok (.i2l, 1) := by decide +kernel
theorem dX1_partOf_38 : decode cX1_partOf 38 = .ok (.lmul, 1) := by decide +kernel
theorem dX1_partOf_39 : decode cX1_partOf 39 = .ok (.iload 4, 2) := by decide +kernel
theorem dX1_partOf_41 : decode cX1_partOf 41 = .ok (.i2l, 1) := by decide +kernel
theorem dX1_partOf_42 : decode cX1_partOf 42 = .ok (.ldc2_w 160, 3) := by decide +kernel
theorem dX1_partOf_45 : decode cX1_partOf 45 = .ok (.lmul, 1) := by decide +kernel
theorem dX1_partOf_46 : decode cX1_partOf 46 = .ok (.ldiv, 1) := by decide +kernel
theorem dX1_partOf_47 : decode cX1_partOf 47 = .ok (.lstore 6, 2) := by decide +kernel
theorem dX1_partOf_49 : decode cX1_partOf 49 = .ok (.aload_n 1, 1) := by decide +kernel
theorem dX1_partOf_50 : decode cX1_partOf 50 = .ok (.getfield 80, 3) := by decide +kernel
theorem dX1_partOf_53 : decode cX1_partOf 53 = .ok (.iconst (-1), 1) := by decide +kernel
theorem dX1_partOf_54 : decode cX1_partOf 54 = .ok (.if_icmp .ne 7, 3) := by decide +kernel
theorem dX1_partOf_57 : decode cX1_partOf 57 = .ok (.lload 6, 2) := by decide +kernel
theorem dX1_partOf_59 : decode cX1_partOf 59 = .ok (.l2i, 1) := by decide +kernel
theorem dX1_partOf_60 : decode cX1_partOf 60 = .ok (.ireturn, 1) := by decide +kernel
theorem dX1_partOf_61 : decode cX1_partOf 61 = .ok (.lload 6, 2) := by decide +kernel
theorem dX1_partOf_63 : decode cX1_partOf 63 = .ok (.l2i, 1) := by decide +kernel
theorem dX1_partOf_64 : decode cX1_partOf 64 = .ok (.aload_n 1, 1) := by decide +kernel
theorem dX1_partOf_65 : decode cX1_partOf 65 = .ok (.getfield 80, 3) := by decide +kernel
theorem dX1_partOf_68 : decode cX1_partOf 68 = .ok (.iload 5, 2) := by decide +kernel
theorem dX1_partOf_70 : decode cX1_partOf 70 = .ok (.imul, 1) := by decide +kernel
theorem dX1_partOf_71 : decode cX1_partOf 71 = .ok (.sipush 360, 3) := by decide +kernel
theorem dX1_partOf_74 : decode cX1_partOf 74 = .ok (.idiv, 1) := by decide +kernel
theorem dX1_partOf_75 : decode cX1_partOf 75 = .ok (.invokestatic 157, 3) := by decide +kernel
theorem dX1_partOf_78 : decode cX1_partOf 78 = .ok (.ireturn, 1) := by decide +kernel
end
section
theorem dX2_init_0 : decode cX2_init 0 = .ok (.aload_n 0, 1) := by decide +kernel
theorem dX2_init_1 : decode cX2_init 1 = .ok (.invokespecial 1, 3) := by decide +kernel
theorem dX2_init_4 : decode cX2_init 4 = .ok (.aload_n 0, 1) := by decide +kernel
theorem dX2_init_5 : decode cX2_init 5 = .ok (.bipush 6, 2) := by decide +kernel
theorem dX2_init_7 : decode cX2_init 7 = .ok (.newarray .int, 2) := by decide +kernel
theorem dX2_init_9 : decode cX2_init 9 = .ok (.putfield 7, 3) := by decide +kernel
theorem dX2_init_12 : decode cX2_init 12 = .ok (.aload_n 0, 1) := by decide +kernel
theorem dX2_init_13 : decode cX2_init 13 = .ok (.sipush 240, 3) := by decide +kernel
theorem dX2_init_16 : decode cX2_init 16 = .ok (.newarray .int, 2) := by decide +kernel
theorem dX2_init_18 : decode cX2_init 18 = .ok (.putfield 13, 3) := by decide +kernel
theorem dX2_init_21 : decode cX2_init 21 = .ok (.aload_n 0, 1) := by decide +kernel
theorem dX2_init_22 : decode cX2_init 22 = .ok (.bipush 20, 2) := by decide +kernel
theorem dX2_init_24 : decode cX2_init 24 = .ok (.newarray .int, 2) := by decide +kernel
theorem dX2_init_26 : decode cX2_init 26 = .ok (.putfield 16, 3) := by decide +kernel
theorem dX2_init_29 : decode cX2_init 29 = .ok (.aload_n 0, 1) := by decide +kernel
theorem dX2_init_30 : decode cX2_init 30 = .ok (.bipush 24, 2) := by decide +kernel
theorem dX2_init_32 : decode cX2_init 32 = .ok (.newarray .int, 2) := by decide +kernel
theorem dX2_init_34 : decode cX2_init 34 = .ok (.putfield 19, 3) := by decide +kernel
theorem dX2_init_37 : decode cX2_init 37 = .ok (.aload_n 0, 1) := by decide +kernel
theorem dX2_init_38 : decode cX2_init 38 = .ok (.bipush 24, 2) := by decide +kernel
theorem dX2_init_40 : decode cX2_init 40 = .ok (.newarray .int, 2) := by decide +kernel
theorem dX2_init_42 : decode cX2_init 42 = .ok (.putfield 22, 3) := by decide +kernel
theorem dX2_init_45 : decode cX2_init 45 = .ok (.aload_n 0, 1) := by decide +kernel
theorem dX2_init_46 : decode cX2_init 46 = .ok (.bipush 24, 2) := by decide +kernel
theorem dX2_init_48 : decode cX2_init 48 = .ok (.newarray .int, 2) := by decide +kernel
theorem dX2_init_50 : decode cX2_init 50 = .ok (.putfield 25, 3) := by decide +kernel
theorem dX2_init_53 : decode cX2_init 53 = .ok (.aload_n 0, 1) := by decide +kernel
theorem dX2_init_54 : decode cX2_init 54 = .ok (.bipush 24, 2) := by decide +kernel
theorem dX2_init_56 : decode cX2_init 56 = .ok (.newarray .int, 2) := by decide +kernel
theorem dX2_init_58 : decode cX2_init 58 = .ok (.putfield 28, 3) := by decide +kernel
theorem dX2_init_61 : decode cX2_init 61 = .ok (.aload_n 0, 1) := by decide +kernel
theorem dX2_init_62 : decode cX2_init 62 = .ok (.bipush 24, 2) := by decide +kernel
theorem dX2_init_64 : decode cX2_init 64 = .ok (.newarray .int, 2) := by decide +kernel
theorem dX2_init_66 : decode cX2_init 66 = .ok (.putfield 31, 3) := by decide +kernel
theorem dX2_init_69 : decode cX2_init 69 = .ok (.aload_n 0, 1) := by decide +kernel
theorem dX2_init_70 : decode cX2_init 70 = .ok (.bipush 24, 2) := by decide +kernel
theorem dX2_init_72 : decode cX2_init 72 = .ok (.newarray .int, 2) := by decide +kernel
theorem dX2_init_74 : decode cX2_init 74 = .ok (.putfield 34, 3) := by decide +kernel
theorem dX2_init_77 : decode cX2_init 77 = .ok (.aload_n 0, 1) := by decide +kernel
theorem dX2_init_78 : decode cX2_init 78 = .ok (.bipush 24, 2) := by decide +kernel
theorem dX2_init_80 : decode cX2_init 80 = .ok (.newarray .int, 2) := by decide +kernel
theorem dX2_init_82 : decode cX2_init 82 = .ok (.putfield 37, 3) := by decide +kernel
theorem dX2_init_85 : decode cX2_init 85 = .ok (.aload_n 0, 1) := by decide +kernel
theorem dX2_init_86 : decode cX2_init 86 = .ok (.bipush 24, 2) := by decide +kernel
theorem dX2_init_88 : decode cX2_init 88 = .ok (.newarray .int, 2) := by decide +kernel
theorem dX2_init_90 : decode cX2_init 90 = .ok (.putfield 40, 3) := by decide +kernel
theorem dX2_init_93 : decode cX2_init 93 = .ok (.aload_n 0, 1) := by decide +kernel
theorem dX2_init_94 : decode cX2_init 94 = .ok (.bipush 24, 2) := by decide +kernel
theorem dX2_init_96 : decode cX2_init 96 = .ok (.newarray .int, 2) := by decide +kernel
theorem dX2_init_98 : decode cX2_init 98 = .ok (.putfield 43, 3) := by decide +kernel
theorem dX2_init_101 : decode cX2_init 101 = .ok (.aload_n 0, 1) := by decide +kernel
theorem dX2_init_102 : decode cX2_init 102 = .ok (.bipush 24, 2) := by decide +kernel
theorem dX2_init_104 : decode cX2_init 104 = .ok (.newarray .int, 2) := by decide +kernel
theorem dX2_init_106 : decode cX2_init 106 = .ok (.putfield 46, 3) := by decide +kernel
theorem dX2_init_109 : decode cX2_init 109 = .ok (.aload_n 0, 1) := by decide +kernel
theorem dX2_init_110 : decode cX2_init 110 = .ok (.sipush 144, 3) := by decide +kernel
theorem dX2_init_113 : decode cX2_init 113 = .ok (.newarray .int, 2) := by decide +kernel
theorem dX2_init_115 : decode cX2_init 115 = .ok (.putfield 49, 3) := by decide +kernel
theorem dX2_init_118 : decode cX2_init 118 = .ok (.aload_n 0, 1) := by decide +kernel
theorem dX2_init_119 : decode cX2_init 119 = .ok (.sipush 144, 3) := by decide +kernel
theorem dX2_init_122 : decode cX2_init 122 = .ok (.newarray .int, 2) := by decide +kernel
theorem dX2_init_124 : decode cX2_init 124 = .ok (.putfield 52, 3) := by decide +kernel
theorem dX2_init_127 : decode cX2_init 127 = .ok (.iconst 0, 1) := by decide +kernel
theorem dX2_init_128 : decode cX2_init 128 = .ok (.istore_n 1, 1) := by decide +kernel
theorem dX2_init_129 : decode cX2_init 129 = .ok (.iload_n 1, 1) := by decide +kernel
theorem dX2_init_130 : decode cX2_init 130 = .ok (.sipush 240, 3) := by decide +kernel
theorem dX2_init_133 : decode cX2_init 133 = .ok (.if_icmp .ge 17, 3) := by decide +kernel
theorem dX2_init_136 : decode cX2_init 136 = .ok (.aload_n 0, 1) := by decide +kernel
theorem dX2_init_137 : decode cX2_init 137 = .ok (.getfield 13, 3) := by decide +kernel
theorem dX2_init_140 : decode cX2_init 140 = .ok (.iload_n 1, 1) := by decide +kernel
theorem dX2_init_141 : decode cX2_init 141 = .ok (.bipush 100, 2) := by decide +kernel
theorem dX2_init_143 : decode cX2_init 143 = .ok (.iastore, 1) := by decide +kernel
theorem dX2_init_144 : decode cX2_init 144 = .ok (.iinc 1 1, 3) := by decide +kernel
theorem dX2_init_147 : decode cX2_init 147 = .ok (.goto (-18), 3) := by decide +kernel
theorem dX2_init_150 : decode cX2_init 150 = .ok (.return_, 1) := by decide +kernel
theorem dX2_thrown_0 : decode cX2_thrown 0 = .ok (.aload_n 0, 1) := by decide +kernel
theorem dX2_thrown_1 : decode cX2_thrown 1 = .ok (.getfield 55, 3) := by decide +kernel
theorem dX2_thrown_4 : decode cX2_thrown 4 = .ok (.ireturn, 1) := by decide +kernel
theorem dX2_holds_0 : decode cX2_holds 0 = .ok (.aload_n 0, 1) := by decide +kernel
theorem dX2_holds_1 : decode cX2_holds 1 = .ok (.iload_n 1, 1) := by decide +kernel
theorem dX2_holds_2 : decode cX2_holds 2 = .ok (.putfield 55, 3) := by decide +kernel
theorem dX2_holds_5 : decode cX2_holds 5 = .ok (.iload_n 1, 1) := by decide +kernel
theorem dX2_holds_6 : decode cX2_holds 6 = .ok (.ifCond .ne 7, 3) := by decide +kernel
theorem dX2_holds_9 : decode cX2_holds 9 = .ok (.iconst 1, 1) := by decide +kernel
theorem dX2_holds_10 : decode cX2_holds 10 = .ok (.goto 4, 3) := by decide +kernel
theorem dX2_holds_13 : decode cX2_holds 13 = .ok (.iconst 0, 1) := by decide +kernel
theorem dX2_holds_14 : decode cX2_holds 14 = .ok (.ireturn, 1) := by decide +kernel
theorem dX2_isIn_0 : decode cX2_isIn 0 = .ok (.iload_n 0, 1) := by decide +kernel
theorem dX2_isIn_1 : decode cX2_isIn 1 = .ok (.iload_n 1, 1) := by decide +kernel
theorem dX2_isIn_2 : decode cX2_isIn 2 = .ok (.if_icmp .lt 12, 3) := by decide +kernel
theorem dX2_isIn_5 : decode cX2_isIn 5 = .ok (.iload_n 0, 1) := by decide +kernel
theorem dX2_isIn_6 : decode cX2_isIn 6 = .ok (.iload_n 2, 1) := by decide +kernel
theorem dX2_isIn_7 : decode cX2_isIn 7 = .ok (.if_icmp .gt 7, 3) := by decide +kernel
theorem dX2_isIn_10 : decode cX2_isIn 10 = .ok (.iconst 1, 1) := by decide +kernel
theorem dX2_isIn_11 : decode cX2_isIn 11 = .ok (.goto 4, 3) := by decide +kernel
theorem dX2_isIn_14 : decode cX2_isIn 14 = .ok (.iconst 0, 1) := by decide +kernel
theorem dX2_isIn_15 : decode cX2_isIn 15 = .ok (.ireturn, 1) := by decide +kernel
set_option maxRecDepth 20000 in
theorem ggX2_isLease_X2_isIn : GoodIn wsX2_isLease wsX2_isIn := goodIn_r _ [5] (by decide +kernel) (by decide +kernel)
set_option maxRecDepth 20000 in
theorem gX2_isLease_X2_isIn : GoodIn wsX2_isLease (va_wsS RX2 62 yX2_isIn wsX2_isIn) := goodIn_app (goodIn_of _ (by decide +kernel)) ggX2_isLease_X2_isIn
theorem dX2_isLease_0 : decode cX2_isLease 0 = .ok (.iload_n 1, 1) := by decide +kernel
theorem dX2_isLease_1 : decode cX2_isLease 1 = .ok (.iconst 0, 1) := by decide +kernel
theorem dX2_isLease_2 : decode cX2_isLease 2 = .ok (.aload_n 0, 1) := by decide +kernel
theorem dX2_isLease_3 : decode cX2_isLease 3 = .ok (.getfield 59, 3) := by decide +kernel
theorem dX2_isLease_6 : decode cX2_isLease 6 = .ok (.iconst 1, 1) := by decide +kernel
theorem dX2_isLease_7 : decode cX2_isLease 7 = .ok (.isub, 1) := by decide +kernel
theorem dX2_isLease_8 : decode cX2_isLease 8 = .ok (.invokestatic 62, 3) := by decide +kernel
theorem dX2_isLease_11 : decode cX2_isLease 11 = .ok (.ireturn, 1) := by decide +kernel
set_option maxRecDepth 20000 in
theorem ggX2_setArea_X2_isIn : GoodIn wsX2_setArea wsX2_isIn := goodIn_r _ [5] (by decide +kernel) (by decide +kernel)
set_option maxRecDepth 20000 in
theorem gX2_setArea_X2_isIn : GoodIn wsX2_setArea (va_wsS RX2 62 yX2_isIn wsX2_isIn) := goodIn_app (goodIn_of _ (by decide +kernel)) ggX2_setArea_X2_isIn
set_option maxRecDepth 20000 in
theorem ggX2_setArea_X2_holds : GoodIn wsX2_setArea wsX2_holds := goodIn_r _ [9, 10, 11, 12, 13, 14, 15, 16, 17, 18, 19, 20, 21, 22, 23, 24, 25, 26, 27] (by decide +kernel) (by decide +kernel)
set_option maxRecDepth 20000 in
theorem gX2_setArea_X2_holds : GoodIn wsX2_setArea (wsV RX2 66 RX2 yX2_holds wsX2_holds) := goodIn_app (goodIn_of _ (by decide +kernel)) ggX2_setArea_X2_holds
theorem dX2_setArea_0 : decode cX2_setArea 0 = .ok (.aload_n 0, 1) := by decide +kernel
theorem dX2_setArea_1 : decode cX2_setArea 1 = .ok (.iload_n 1, 1) := by decide +kernel
theorem dX2_setArea_2 : decode cX2_setArea 2 = .ok (.iconst 0, 1) := by decide +kernel
theorem dX2_setArea_3 : decode cX2_setArea 3 = .ok (.iconst 5, 1) := by decide +kernel
theorem dX2_setArea_4 : decode cX2_setArea 4 = .ok (.invokestatic 62, 3) := by decide +kernel
theorem dX2_setArea_7 : decode cX2_setArea 7 = .ok (.ifCond .ne 7, 3) := by decide +kernel
theorem dX2_setArea_10 : decode cX2_setArea 10 = .ok (.iconst 1, 1) := by decide +kernel
theorem dX2_setArea_11 : decode cX2_setArea 11 = .ok (.goto 19, 3) := by decide +kernel
theorem dX2_setArea_14 : decode cX2_setArea 14 = .ok (.iload_n 2, 1) := by decide +kernel
theorem dX2_setArea_15 : decode cX2_setArea 15 = .ok (.iconst 0, 1) := by decide +kernel
theorem dX2_setArea_16 : decode cX2_setArea 16 = .ok (.sipush 999, 3) := by decide +kernel
theorem dX2_setArea_19 : decode cX2_setArea 19 = .ok (.invokestatic 62, 3) := by decide +kernel
theorem dX2_setArea_22 : decode cX2_setArea 22 = .ok (.ifCond .eq 7, 3) := by decide +kernel
theorem dX2_setArea_25 : decode cX2_setArea 25 = .ok (.iconst 0, 1) := by decide +kernel
theorem dX2_setArea_26 : decode cX2_setArea 26 = .ok (.goto 4, 3) := by decide +kernel
theorem dX2_setArea_29 : decode cX2_setArea 29 = .ok (.iconst 2, 1) := by decide +kernel
theorem dX2_setArea_30 : decode cX2_setArea 30 = .ok (.invokevirtual 66, 3) := by decide +kernel
theorem dX2_setArea_33 : decode cX2_setArea 33 = .ok (.ifCond .ne 5, 3) := by decide +kernel
theorem dX2_setArea_36 : decode cX2_setArea 36 = .ok (.iconst 0, 1) := by decide +kernel
theorem dX2_setArea_37 : decode cX2_setArea 37 = .ok (.ireturn, 1) := by decide +kernel
theorem dX2_setArea_38 : decode cX2_setArea 38 = .ok (.aload_n 0, 1) := by decide +kernel
theorem dX2_setArea_39 : decode cX2_setArea 39 = .ok (.getfield 7, 3) := by decide +kernel
theorem dX2_setArea_42 : decode cX2_setArea 42 = .ok (.iload_n 1, 1) := by decide +kernel
theorem dX2_setArea_43 : decode cX2_setArea 43 = .ok (.iaload, 1) := by decide +kernel
theorem dX2_setArea_44 : decode cX2_setArea 44 = .ok (.istore_n 3, 1) := by decide +kernel
theorem dX2_setArea_45 : decode cX2_setArea 45 = .ok (.aload_n 0, 1) := by decide +kernel
theorem dX2_setArea_46 : decode cX2_setArea 46 = .ok (.getfield 7, 3) := by decide +kernel
theorem dX2_setArea_49 : decode cX2_setArea 49 = .ok (.iload_n 1, 1) := by decide +kernel
theorem dX2_setArea_50 : decode cX2_setArea 50 = .ok (.iload_n 2, 1) := by decide +kernel
theorem dX2_setArea_51 : decode cX2_setArea 51 = .ok (.iastore, 1) := by decide +kernel
theorem dX2_setArea_52 : decode cX2_setArea 52 = .ok (.iload_n 3, 1) := by decide +kernel
theorem dX2_setArea_53 : decode cX2_setArea 53 = .ok (.ireturn, 1) := by decide +kernel
set_option maxRecDepth 20000 in
theorem ggX2_setIndex_X2_isIn : GoodIn wsX2_setIndex wsX2_isIn := goodIn_r _ [5] (by decide +kernel) (by decide +kernel)
set_option maxRecDepth 20000 in
theorem gX2_setIndex_X2_isIn : GoodIn wsX2_setIndex (va_wsS RX2 62 yX2_isIn wsX2_isIn) := goodIn_app (goodIn_of _ (by decide +kernel)) ggX2_setIndex_X2_isIn
set_option maxRecDepth 20000 in
theorem ggX2_setIndex_X2_holds : GoodIn wsX2_setIndex wsX2_holds := goodIn_r _ [9, 10, 11, 12, 13, 14, 15, 16, 17, 18, 19, 20, 21, 22, 23, 24, 25, 26, 27] (by decide +kernel) (by decide +kernel)
set_option maxRecDepth 20000 in
theorem gX2_setIndex_X2_holds : GoodIn wsX2_setIndex (wsV RX2 66 RX2 yX2_holds wsX2_holds) := goodIn_app (goodIn_of _ (by decide +kernel)) ggX2_setIndex_X2_holds
theorem dX2_setIndex_0 : decode cX2_setIndex 0 = .ok (.aload_n 0, 1) := by decide +kernel
theorem dX2_setIndex_1 : decode cX2_setIndex 1 = .ok (.iload_n 1, 1) := by decide +kernel
theorem dX2_setIndex_2 : decode cX2_setIndex 2 = .ok (.iconst 0, 1) := by decide +kernel
theorem dX2_setIndex_3 : decode cX2_setIndex 3 = .ok (.sipush 239, 3) := by decide +kernel
theorem dX2_setIndex_6 : decode cX2_setIndex 6 = .ok (.invokestatic 62, 3) := by decide +kernel
theorem dX2_setIndex_9 : decode cX2_setIndex 9 = .ok (.ifCond .ne 7, 3) := by decide +kernel
theorem dX2_setIndex_12 : decode cX2_setIndex 12 = .ok (.iconst 1, 1) := by decide +kernel
theorem dX2_setIndex_13 : decode cX2_setIndex 13 = .ok (.goto 20, 3) := by decide +kernel
theorem dX2_setIndex_16 : decode cX2_setIndex 16 = .ok (.iload_n 2, 1) := by decide +kernel
theorem dX2_setIndex_17 : decode cX2_setIndex 17 = .ok (.bipush 10, 2) := by decide +kernel
theorem dX2_setIndex_19 : decode cX2_setIndex 19 = .ok (.sipush 999, 3) := by decide +kernel
theorem dX2_setIndex_22 : decode cX2_setIndex 22 = .ok (.invokestatic 62, 3) := by decide +kernel
theorem dX2_setIndex_25 : decode cX2_setIndex 25 = .ok (.ifCond .eq 7, 3) := by decide +kernel
theorem dX2_setIndex_28 : decode cX2_setIndex 28 = .ok (.iconst 0, 1) := by decide +kernel
theorem dX2_setIndex_29 : decode cX2_setIndex 29 = .ok (.goto 4, 3) := by decide +kernel
theorem dX2_setIndex_32 : decode cX2_setIndex 32 = .ok (.iconst 2, 1) := by decide +kernel
theorem dX2_setIndex_33 : decode cX2_setIndex 33 = .ok (.invokevirtual 66, 3) := by decide +kernel
theorem dX2_setIndex_36 : decode cX2_setIndex 36 = .ok (.ifCond .ne 5, 3) := by decide +kernel
theorem dX2_setIndex_39 : decode cX2_setIndex 39 = .ok (.iconst 0, 1) := by decide +kernel
theorem dX2_setIndex_40 : decode cX2_setIndex 40 = .ok (.ireturn, 1) := by decide +kernel
theorem dX2_setIndex_41 : decode cX2_setIndex 41 = .ok (.aload_n 0, 1) := by decide +kernel
theorem dX2_setIndex_42 : decode cX2_setIndex 42 = .ok (.getfield 13, 3) := by decide +kernel
theorem dX2_setIndex_45 : decode cX2_setIndex 45 = .ok (.iload_n 1, 1) := by decide +kernel
theorem dX2_setIndex_46 : decode cX2_setIndex 46 = .ok (.iaload, 1) := by decide +kernel
theorem dX2_setIndex_47 : decode cX2_setIndex 47 = .ok (.istore_n 3, 1) := by decide +kernel
theorem dX2_setIndex_48 : decode cX2_setIndex 48 = .ok (.aload_n 0, 1) := by decide +kernel
theorem dX2_setIndex_49 : decode cX2_setIndex 49 = .ok (.getfield 13, 3) := by decide +kernel
theorem dX2_setIndex_52 : decode cX2_setIndex 52 = .ok (.iload_n 1, 1) := by decide +kernel
theorem dX2_setIndex_53 : decode cX2_setIndex 53 = .ok (.iload_n 2, 1) := by decide +kernel
theorem dX2_setIndex_54 : decode cX2_setIndex 54 = .ok (.iastore, 1) := by decide +kernel
theorem dX2_setIndex_55 : decode cX2_setIndex 55 = .ok (.iload_n 3, 1) := by decide +kernel
theorem dX2_setIndex_56 : decode cX2_setIndex 56 = .ok (.ireturn, 1) := by decide +kernel
set_option maxRecDepth 20000 in
theorem ggX2_setCost_X2_isIn : GoodIn wsX2_setCost wsX2_isIn := goodIn_r _ [6] (by decide +kernel) (by decide +kernel)
set_option maxRecDepth 20000 in
theorem gX2_setCost_X2_isIn : GoodIn wsX2_setCost (va_wsS RX2 62 yX2_isIn wsX2_isIn) := goodIn_app (goodIn_of _ (by decide +kernel)) ggX2_setCost_X2_isIn
set_option maxRecDepth 20000 in
theorem ggX2_setCost_X2_holds : GoodIn wsX2_setCost wsX2_holds := goodIn_r _ [10, 11, 12, 13, 14, 15, 16, 17, 18, 19, 20, 21, 22, 23, 24, 25, 26, 27, 28] (by decide +kernel) (by decide +kernel)
set_option maxRecDepth 20000 in
theorem gX2_setCost_X2_holds : GoodIn wsX2_setCost (wsV RX2 66 RX2 yX2_holds wsX2_holds) := goodIn_app (goodIn_of _ (by decide +kernel)) ggX2_setCost_X2_holds
theorem dX2_setCost_0 : decode cX2_setCost 0 = .ok (.aload_n 0, 1) := by decide +kernel
theorem dX2_setCost_1 : decode cX2_setCost 1 = .ok (.iload_n 1, 1) := by decide +kernel
theorem dX2_setCost_2 : decode cX2_setCost 2 = .ok (.iconst 0, 1) := by decide +kernel
theorem dX2_setCost_3 : decode cX2_setCost 3 = .ok (.bipush 19, 2) := by decide +kernel
theorem dX2_setCost_5 : decode cX2_setCost 5 = .ok (.invokestatic 62, 3) := by decide +kernel
theorem dX2_setCost_8 : decode cX2_setCost 8 = .ok (.ifCond .ne 7, 3) := by decide +kernel
theorem dX2_setCost_11 : decode cX2_setCost 11 = .ok (.iconst 1, 1) := by decide +kernel
theorem dX2_setCost_12 : decode cX2_setCost 12 = .ok (.goto 18, 3) := by decide +kernel
theorem dX2_setCost_15 : decode cX2_setCost 15 = .ok (.iload_n 2, 1) := by decide +kernel
theorem dX2_setCost_16 : decode cX2_setCost 16 = .ok (.iconst 0, 1) := by decide +kernel
theorem dX2_setCost_17 : decode cX2_setCost 17 = .ok (.ldc 70, 2) := by decide +kernel
theorem dX2_setCost_19 : decode cX2_setCost 19 = .ok (.invokestatic 62, 3) := by decide +kernel
theorem dX2_setCost_22 : decode cX2_setCost 22 = .ok (.ifCond .eq 7, 3) := by decide +kernel
theorem dX2_setCost_25 : decode cX2_setCost 25 = .ok (.iconst 0, 1) := by decide +kernel
theorem dX2_setCost_26 : decode cX2_setCost 26 = .ok (.goto 4, 3) := by decide +kernel
theorem dX2_setCost_29 : decode cX2_setCost 29 = .ok (.iconst 2, 1) := by decide +kernel
theorem dX2_setCost_30 : decode cX2_setCost 30 = .ok (.invokevirtual 66, 3) := by decide +kernel
theorem dX2_setCost_33 : decode cX2_setCost 33 = .ok (.ifCond .ne 5, 3) := by decide +kernel
theorem dX2_setCost_36 : decode cX2_setCost 36 = .ok (.iconst 0, 1) := by decide +kernel
theorem dX2_setCost_37 : decode cX2_setCost 37 = .ok (.ireturn, 1) := by decide +kernel
theorem dX2_setCost_38 : decode cX2_setCost 38 = .ok (.aload_n 0, 1) := by decide +kernel
theorem dX2_setCost_39 : decode cX2_setCost 39 = .ok (.getfield 16, 3) := by decide +kernel
theorem dX2_setCost_42 : decode cX2_setCost 42 = .ok (.iload_n 1, 1) := by decide +kernel
theorem dX2_setCost_43 : decode cX2_setCost 43 = .ok (.iaload, 1) := by decide +kernel
theorem dX2_setCost_44 : decode cX2_setCost 44 = .ok (.istore_n 3, 1) := by decide +kernel
theorem dX2_setCost_45 : decode cX2_setCost 45 = .ok (.aload_n 0, 1) := by decide +kernel
theorem dX2_setCost_46 : decode cX2_setCost 46 = .ok (.getfield 16, 3) := by decide +kernel
theorem dX2_setCost_49 : decode cX2_setCost 49 = .ok (.iload_n 1, 1) := by decide +kernel
theorem dX2_setCost_50 : decode cX2_setCost 50 = .ok (.iload_n 2, 1) := by decide +kernel
theorem dX2_setCost_51 : decode cX2_setCost 51 = .ok (.iastore, 1) := by decide +kernel
theorem dX2_setCost_52 : decode cX2_setCost 52 = .ok (.iload_n 3, 1) := by decide +kernel
theorem dX2_setCost_53 : decode cX2_setCost 53 = .ok (.ireturn, 1) := by decide +kernel
theorem dX2_isLet_0 : decode cX2_isLet 0 = .ok (.iconst 0, 1) := by decide +kernel
theorem dX2_isLet_1 : decode cX2_isLet 1 = .ok (.istore 4, 2) := by decide +kernel
theorem dX2_isLet_3 : decode cX2_isLet 3 = .ok (.iconst 0, 1) := by decide +kernel
theorem dX2_isLet_4 : decode cX2_isLet 4 = .ok (.istore 5, 2) := by decide +kernel
theorem dX2_isLet_6 : decode cX2_isLet 6 = .ok (.iload 5, 2) := by decide +kernel
theorem dX2_isLet_8 : decode cX2_isLet 8 = .ok (.aload_n 0, 1) := by decide +kernel
theorem dX2_isLet_9 : decode cX2_isLet 9 = .ok (.getfield 59, 3) := by decide +kernel
theorem dX2_isLet_12 : decode cX2_isLet 12 = .ok (.if_icmp .ge 54, 3) := by decide +kernel
theorem dX2_isLet_15 : decode cX2_isLet 15 = .ok (.iload 4, 2) := by decide +kernel
theorem dX2_isLet_17 : decode cX2_isLet 17 = .ok (.ifCond .ne 36, 3) := by decide +kernel
theorem dX2_isLet_20 : decode cX2_isLet 20 = .ok (.aload_n 0, 1) := by decide +kernel
theorem dX2_isLet_21 : decode cX2_isLet 21 = .ok (.getfield 19, 3) := by decide +kernel
theorem dX2_isLet_24 : decode cX2_isLet 24 = .ok (.iload 5, 2) := by decide +kernel
theorem dX2_isLet_26 : decode cX2_isLet 26 = .ok (.iaload, 1) := by decide +kernel
theorem dX2_isLet_27 : decode cX2_isLet 27 = .ok (.iload_n 1, 1) := by decide +kernel
theorem dX2_isLet_28 : decode cX2_isLet 28 = .ok (.if_icmp .ne 29, 3) := by decide +kernel
theorem dX2_isLet_31 : decode cX2_isLet 31 = .ok (.aload_n 0, 1) := by decide +kernel
theorem dX2_isLet_32 : decode cX2_isLet 32 = .ok (.getfield 22, 3) := by decide +kernel
theorem dX2_isLet_35 : decode cX2_isLet 35 = .ok (.iload 5, 2) := by decide +kernel
theorem dX2_isLet_37 : decode cX2_isLet 37 = .ok (.iaload, 1) := by decide +kernel
theorem dX2_isLet_38 : decode cX2_isLet 38 = .ok (.iload_n 3, 1) := by decide +kernel
theorem dX2_isLet_39 : decode cX2_isLet 39 = .ok (.if_icmp .ge 18, 3) := by decide +kernel
theorem dX2_isLet_42 : decode cX2_isLet 42 = .ok (.iload_n 2, 1) := by decide +kernel
theorem dX2_isLet_43 : decode cX2_isLet 43 = .ok (.aload_n 0, 1) := by decide +kernel
theorem dX2_isLet_44 : decode cX2_isLet 44 = .ok (.getfield 25, 3) := by decide +kernel
theorem dX2_isLet_47 : decode cX2_isLet 47 = .ok (.iload 5, 2) := by decide +kernel
theorem dX2_isLet_49 : decode cX2_isLet 49 = .ok (.iaload, 1) := by decide +kernel
theorem dX2_isLet_50 : decode cX2_isLet 50 = .ok (.if_icmp .ge 7, 3) := by decide +kernel
theorem dX2_isLet_53 : decode cX2_isLet 53 = .ok (.iconst 1, 1) := by decide +kernel
theorem dX2_isLet_54 : decode cX2_isLet 54 = .ok (.goto 4, 3) := by decide +kernel
theorem dX2_isLet_57 : decode cX2_isLet 57 = .ok (.iconst 0, 1) := by decide +kernel
theorem dX2_isLet_58 : decode cX2_isLet 58 = .ok (.istore 4, 2) := by decide +kernel
theorem dX2_isLet_60 : decode cX2_isLet 60 = .ok (.iinc 5 1, 3) := by decide +kernel
theorem dX2_isLet_63 : decode cX2_isLet 63 = .ok (.goto (-57), 3) := by decide +kernel
theorem dX2_isLet_66 : decode cX2_isLet 66 = .ok (.iload 4, 2) := by decide +kernel
theorem dX2_isLet_68 : decode cX2_isLet 68 = .ok (.ireturn, 1) := by decide +kernel
set_option maxRecDepth 20000 in
theorem ggX2_let_X2_isIn : GoodIn wsX2_let wsX2_isIn := goodIn_r _ [11] (by decide +kernel) (by decide +kernel)
set_option maxRecDepth 20000 in
theorem gX2_let_X2_isIn : GoodIn wsX2_let (va_wsS RX2 62 yX2_isIn wsX2_isIn) := goodIn_app (goodIn_of _ (by decide +kernel)) ggX2_let_X2_isIn
set_option maxRecDepth 20000 in
theorem ggX2_let_X2_isLet : GoodIn wsX2_let wsX2_isLet := goodIn_r _ [15, 2, 3, 4, 5, 21, 22, 23, 24, 25, 26, 27, 28, 29, 30, 31, 32, 33, 34, 35, 36, 37] (by decide +kernel) (by decide +kernel)
set_option maxRecDepth 20000 in
theorem gX2_let_X2_isLet : GoodIn wsX2_let (wsV RX2 72 RX2 yX2_isLet wsX2_isLet) := goodIn_app (goodIn_of _ (by decide +kernel)) ggX2_let_X2_isLet
set_option maxRecDepth 20000 in
theorem ggX2_let_X2_holds : GoodIn wsX2_let wsX2_holds := goodIn_r _ [19, 20, 21, 22, 23, 24, 25, 26, 27, 28, 29, 30, 31, 32, 33, 34, 35, 36, 37] (by decide +kernel) (by decide +kernel)
set_option maxRecDepth 20000 in
theorem gX2_let_X2_holds : GoodIn wsX2_let (wsV RX2 66 RX2 yX2_holds wsX2_holds) := goodIn_app (goodIn_of _ (by decide +kernel)) ggX2_let_X2_holds
theorem dX2_let_0 : decode cX2_let 0 = .ok (.iload_n 1, 1) := by decide +kernel
theorem dX2_let_1 : decode cX2_let 1 = .ok (.iconst 0, 1) := by decide +kernel
theorem dX2_let_2 : decode cX2_let 2 = .ok (.iconst 5, 1) := by decide +kernel
theorem dX2_let_3 : decode cX2_let 3 = .ok (.invokestatic 62, 3) := by decide +kernel
theorem dX2_let_6 : decode cX2_let 6 = .ok (.istore 5, 2) := by decide +kernel
theorem dX2_let_8 : decode cX2_let 8 = .ok (.iload_n 2, 1) := by decide +kernel
theorem dX2_let_9 : decode cX2_let 9 = .ok (.iconst 0, 1) := by decide +kernel
theorem dX2_let_10 : decode cX2_let 10 = .ok (.sipush 7199, 3) := by decide +kernel
theorem dX2_let_13 : decode cX2_let 13 = .ok (.invokestatic 62, 3) := by decide +kernel
theorem dX2_let_16 : decode cX2_let 16 = .ok (.ifCond .eq 30, 3) := by decide +kernel
theorem dX2_let_19 : decode cX2_let 19 = .ok (.iload_n 3, 1) := by decide +kernel
theorem dX2_let_20 : decode cX2_let 20 = .ok (.iload_n 2, 1) := by decide +kernel
theorem dX2_let_21 : decode cX2_let 21 = .ok (.if_icmp .le 25, 3) := by decide +kernel
theorem dX2_let_24 : decode cX2_let 24 = .ok (.iload_n 3, 1) := by decide +kernel
theorem dX2_let_25 : decode cX2_let 25 = .ok (.sipush 7200, 3) := by decide +kernel
theorem dX2_let_28 : decode cX2_let 28 = .ok (.if_icmp .gt 18, 3) := by decide +kernel
theorem dX2_let_31 : decode cX2_let 31 = .ok (.iload 4, 2) := by decide +kernel
theorem dX2_let_33 : decode cX2_let 33 = .ok (.iconst 1, 1) := by decide +kernel
theorem dX2_let_34 : decode cX2_let 34 = .ok (.ldc 71, 2) := by decide +kernel
theorem dX2_let_36 : decode cX2_let 36 = .ok (.invokestatic 62, 3) := by decide +kernel
theorem dX2_let_39 : decode cX2_let 39 = .ok (.ifCond .eq 7, 3) := by decide +kernel
theorem dX2_let_42 : decode cX2_let 42 = .ok (.iconst 1, 1) := by decide +kernel
theorem dX2_let_43 : decode cX2_let 43 = .ok (.goto 4, 3) := by decide +kernel
theorem dX2_let_46 : decode cX2_let 46 = .ok (.iconst 0, 1) := by decide +kernel
theorem dX2_let_47 : decode cX2_let 47 = .ok (.istore 6, 2) := by decide +kernel
theorem dX2_let_49 : decode cX2_let 49 = .ok (.aload_n 0, 1) := by decide +kernel
theorem dX2_let_50 : decode cX2_let 50 = .ok (.iload 5, 2) := by decide +kernel
theorem dX2_let_52 : decode cX2_let 52 = .ok (.ifCond .ne 7, 3) := by decide +kernel
theorem dX2_let_55 : decode cX2_let 55 = .ok (.iconst 1, 1) := by decide +kernel
theorem dX2_let_56 : decode cX2_let 56 = .ok (.goto 36, 3) := by decide +kernel
theorem dX2_let_59 : decode cX2_let 59 = .ok (.iload 6, 2) := by decide +kernel
theorem dX2_let_61 : decode cX2_let 61 = .ok (.ifCond .ne 7, 3) := by decide +kernel
theorem dX2_let_64 : decode cX2_let 64 = .ok (.iconst 2, 1) := by decide +kernel
theorem dX2_let_65 : decode cX2_let 65 = .ok (.goto 27, 3) := by decide +kernel
theorem dX2_let_68 : decode cX2_let 68 = .ok (.aload_n 0, 1) := by decide +kernel
theorem dX2_let_69 : decode cX2_let 69 = .ok (.getfield 59, 3) := by decide +kernel
theorem dX2_let_72 : decode cX2_let 72 = .ok (.bipush 24, 2) := by decide +kernel
theorem dX2_let_74 : decode cX2_let 74 = .ok (.if_icmp .eq 13, 3) := by decide +kernel
theorem dX2_let_77 : decode cX2_let 77 = .ok (.aload_n 0, 1) := by decide +kernel
theorem dX2_let_78 : decode cX2_let 78 = .ok (.iload_n 1, 1) := by decide +kernel
theorem dX2_let_79 : decode cX2_let 79 = .ok (.iload_n 2, 1) := by decide +kernel
theorem dX2_let_80 : decode cX2_let 80 = .ok (.iload_n 3, 1) := by decide +kernel
theorem dX2_let_81 : decode cX2_let 81 = .ok (.invokevirtual 72, 3) := by decide +kernel
theorem dX2_let_84 : decode cX2_let 84 = .ok (.ifCond .eq 7, 3) := by decide +kernel
theorem dX2_let_87 : decode cX2_let 87 = .ok (.iconst 3, 1) := by decide +kernel
theorem dX2_let_88 : decode cX2_let 88 = .ok (.goto 4, 3) := by decide +kernel
theorem dX2_let_91 : decode cX2_let 91 = .ok (.iconst 0, 1) := by decide +kernel
theorem dX2_let_92 : decode cX2_let 92 = .ok (.invokevirtual 66, 3) := by decide +kernel
theorem dX2_let_95 : decode cX2_let 95 = .ok (.ifCond .ne 5, 3) := by decide +kernel
theorem dX2_let_98 : decode cX2_let 98 = .ok (.iconst 0, 1) := by decide +kernel
theorem dX2_let_99 : decode cX2_let 99 = .ok (.ireturn, 1) := by decide +kernel
theorem dX2_let_100 : decode cX2_let 100 = .ok (.aload_n 0, 1) := by decide +kernel
theorem dX2_let_101 : decode cX2_let 101 = .ok (.getfield 19, 3) := by decide +kernel
theorem dX2_let_104 : decode cX2_let 104 = .ok (.aload_n 0, 1) := by decide +kernel
theorem dX2_let_105 : decode cX2_let 105 = .ok (.getfield 59, 3) := by decide +kernel
theorem dX2_let_108 : decode cX2_let 108 = .ok (.iload_n 1, 1) := by decide +kernel
theorem dX2_let_109 : decode cX2_let 109 = .ok (.iastore, 1) := by decide +kernel
theorem dX2_let_110 : decode cX2_let 110 = .ok (.aload_n 0, 1) := by decide +kernel
theorem dX2_let_111 : decode cX2_let 111 = .ok (.getfield 22, 3) := by decide +kernel
theorem dX2_let_114 : decode cX2_let 114 = .ok (.aload_n 0, 1) := by decide +kernel
theorem dX2_let_115 : decode cX2_let 115 = .ok (.getfield 59, 3) := by decide +kernel
theorem dX2_let_118 : decode cX2_let 118 = .ok (.iload_n 2, 1) := by decide +kernel
theorem dX2_let_119 : decode cX2_let 119 = .ok (.iastore, 1) := by decide +kernel
theorem dX2_let_120 : decode cX2_let 120 = .ok (.aload_n 0, 1) := by decide +kernel
theorem dX2_let_121 : decode cX2_let 121 = .ok (.getfield 25, 3) := by decide +kernel
theorem dX2_let_124 : decode cX2_let 124 = .ok (.aload_n 0, 1) := by decide +kernel
theorem dX2_let_125 : decode cX2_let 125 = .ok (.getfield 59, 3) := by decide +kernel
theorem dX2_let_128 : decode cX2_let 128 = .ok (.iload_n 3, 1) := by decide +kernel
theorem dX2_let_129 : decode cX2_let 129 = .ok (.iastore, 1) := by decide +kernel
theorem dX2_let_130 : decode cX2_let 130 = .ok (.aload_n 0, 1) := by decide +kernel
theorem dX2_let_131 : decode cX2_let 131 = .ok (.getfield 28, 3) := by decide +kernel
theorem dX2_let_134 : decode cX2_let 134 = .ok (.aload_n 0, 1) := by decide +kernel
theorem dX2_let_135 : decode cX2_let 135 = .ok (.getfield 59, 3) := by decide +kernel
theorem dX2_let_138 : decode cX2_let 138 = .ok (.iload 4, 2) := by decide +kernel
theorem dX2_let_140 : decode cX2_let 140 = .ok (.iastore, 1) := by decide +kernel
theorem dX2_let_141 : decode cX2_let 141 = .ok (.aload_n 0, 1) := by decide +kernel
theorem dX2_let_142 : decode cX2_let 142 = .ok (.getfield 37, 3) := by decide +kernel
theorem dX2_let_145 : decode cX2_let 145 = .ok (.aload_n 0, 1) := by decide +kernel
theorem dX2_let_146 : decode cX2_let 146 = .ok (.getfield 59, 3) := by decide +kernel
theorem dX2_let_149 : decode cX2_let 149 = .ok (.iconst (-1), 1) := by decide +kernel
theorem dX2_let_150 : decode cX2_let 150 = .ok (.iastore, 1) := by decide +kernel
theorem dX2_let_151 : decode cX2_let 151 = .ok (.aload_n 0, 1) := by decide +kernel
theorem dX2_let_152 : decode cX2_let 152 = .ok (.dup, 1) := by decide +kernel
theorem dX2_let_153 : decode cX2_let 153 = .ok (.getfield 59, 3) := by decide +kernel
theorem dX2_let_156 : decode cX2_let 156 = .ok (.iconst 1, 1) := by decide +kernel
theorem dX2_let_157 : decode cX2_let 157 = .ok (.iadd, 1) := by decide +kernel
theorem dX2_let_158 : decode cX2_let 158 = .ok (.putfield 59, 3) := by decide +kernel
theorem dX2_let_161 : decode cX2_let 161 = .ok (.aload_n 0, 1) := by decide +kernel
theorem dX2_let_162 : decode cX2_let 162 = .ok (.getfield 59, 3) := by decide +kernel
theorem dX2_let_165 : decode cX2_let 165 = .ok (.iconst 1, 1) := by decide +kernel
theorem dX2_let_166 : decode cX2_let 166 = .ok (.isub, 1) := by decide +kernel
theorem dX2_let_167 : decode cX2_let 167 = .ok (.ireturn, 1) := by decide +kernel
set_option maxRecDepth 20000 in
theorem ggX2_end_X2_isLease : GoodIn wsX2_end wsX2_isLease := goodIn_r _ [7, 8, 9, 10, 6, 11, 17, 18, 19, 20, 21, 22, 23, 24, 25, 26, 27, 28, 29, 30, 31, 32, 33] (by decide +kernel) (by decide +kernel)
set_option maxRecDepth 20000 in
theorem gX2_end_X2_isLease : GoodIn wsX2_end (wsV RX2 75 RX2 yX2_isLease wsX2_isLease) := goodIn_app (goodIn_of _ (by decide +kernel)) ggX2_end_X2_isLease
set_option maxRecDepth 20000 in
theorem ggX2_end_X2_holds : GoodIn wsX2_end wsX2_holds := goodIn_r _ [15, 16, 17, 18, 19, 20, 21, 22, 23, 24, 25, 26, 27, 28, 29, 30, 31, 32, 33] (by decide +kernel) (by decide +kernel)
set_option maxRecDepth 20000 in
theorem gX2_end_X2_holds : GoodIn wsX2_end (wsV RX2 66 RX2 yX2_holds wsX2_holds) := goodIn_app (goodIn_of _ (by decide +kernel)) ggX2_end_X2_holds
theorem dX2_end_0 : decode cX2_end 0 = .ok (.aload_n 0, 1) := by decide +kernel
theorem dX2_end_1 : decode cX2_end 1 = .ok (.iload_n 1, 1) := by decide +kernel
theorem dX2_end_2 : decode cX2_end 2 = .ok (.invokevirtual 75, 3) := by decide +kernel
theorem dX2_end_5 : decode cX2_end 5 = .ok (.istore_n 3, 1) := by decide +kernel
theorem dX2_end_6 : decode cX2_end 6 = .ok (.aload_n 0, 1) := by decide +kernel
theorem dX2_end_7 : decode cX2_end 7 = .ok (.iload_n 3, 1) := by decide +kernel
theorem dX2_end_8 : decode cX2_end 8 = .ok (.ifCond .ne 7, 3) := by decide +kernel
theorem dX2_end_11 : decode cX2_end 11 = .ok (.iconst 1, 1) := by decide +kernel
theorem dX2_end_12 : decode cX2_end 12 = .ok (.goto 28, 3) := by decide +kernel
theorem dX2_end_15 : decode cX2_end 15 = .ok (.iload_n 2, 1) := by decide +kernel
theorem dX2_end_16 : decode cX2_end 16 = .ok (.aload_n 0, 1) := by decide +kernel
theorem dX2_end_17 : decode cX2_end 17 = .ok (.getfield 22, 3) := by decide +kernel
theorem dX2_end_20 : decode cX2_end 20 = .ok (.iload_n 1, 1) := by decide +kernel
theorem dX2_end_21 : decode cX2_end 21 = .ok (.iaload, 1) := by decide +kernel
theorem dX2_end_22 : decode cX2_end 22 = .ok (.if_icmp .le 17, 3) := by decide +kernel
theorem dX2_end_25 : decode cX2_end 25 = .ok (.iload_n 2, 1) := by decide +kernel
theorem dX2_end_26 : decode cX2_end 26 = .ok (.aload_n 0, 1) := by decide +kernel
theorem dX2_end_27 : decode cX2_end 27 = .ok (.getfield 25, 3) := by decide +kernel
theorem dX2_end_30 : decode cX2_end 30 = .ok (.iload_n 1, 1) := by decide +kernel
theorem dX2_end_31 : decode cX2_end 31 = .ok (.iaload, 1) := by decide +kernel
theorem dX2_end_32 : decode cX2_end 32 = .ok (.if_icmp .ge 7, 3) := by decide +kernel
theorem dX2_end_35 : decode cX2_end 35 = .ok (.iconst 0, 1) := by decide +kernel
theorem dX2_end_36 : decode cX2_end 36 = .ok (.goto 4, 3) := by decide +kernel
theorem dX2_end_39 : decode cX2_end 39 = .ok (.iconst 2, 1) := by decide +kernel
theorem dX2_end_40 : decode cX2_end 40 = .ok (.invokevirtual 66, 3) := by decide +kernel
theorem dX2_end_43 : decode cX2_end 43 = .ok (.ifCond .ne 5, 3) := by decide +kernel
theorem dX2_end_46 : decode cX2_end 46 = .ok (.iconst 0, 1) := by decide +kernel
theorem dX2_end_47 : decode cX2_end 47 = .ok (.ireturn, 1) := by decide +kernel
theorem dX2_end_48 : decode cX2_end 48 = .ok (.aload_n 0, 1) := by decide +kernel
theorem dX2_end_49 : decode cX2_end 49 = .ok (.getfield 25, 3) := by decide +kernel
theorem dX2_end_52 : decode cX2_end 52 = .ok (.iload_n 1, 1) := by decide +kernel
theorem dX2_end_53 : decode cX2_end 53 = .ok (.iaload, 1) := by decide +kernel
theorem dX2_end_54 : decode cX2_end 54 = .ok (.istore 4, 2) := by decide +kernel
theorem dX2_end_56 : decode cX2_end 56 = .ok (.aload_n 0, 1) := by decide +kernel
theorem dX2_end_57 : decode cX2_end 57 = .ok (.getfield 25, 3) := by decide +kernel
theorem dX2_end_60 : decode cX2_end 60 = .ok (.iload_n 1, 1) := by decide +kernel
theorem dX2_end_61 : decode cX2_end 61 = .ok (.iload_n 2, 1) := by decide +kernel
theorem dX2_end_62 : decode cX2_end 62 = .ok (.iastore, 1) := by decide +kernel
theorem dX2_end_63 : decode cX2_end 63 = .ok (.iload 4, 2) := by decide +kernel
theorem dX2_end_65 : decode cX2_end 65 = .ok (.ireturn, 1) := by decide +kernel
theorem dX2_placeOf_0 : decode cX2_placeOf 0 = .ok (.iconst 0, 1) := by decide +kernel
theorem dX2_placeOf_1 : decode cX2_placeOf 1 = .ok (.istore_n 3, 1) := by decide +kernel
theorem dX2_placeOf_2 : decode cX2_placeOf 2 = .ok (.iload_n 3, 1) := by decide +kernel
theorem dX2_placeOf_3 : decode cX2_placeOf 3 = .ok (.aload_n 0, 1) := by decide +kernel
theorem dX2_placeOf_4 : decode cX2_placeOf 4 = .ok (.getfield 46, 3) := by decide +kernel
theorem dX2_placeOf_7 : decode cX2_placeOf 7 = .ok (.iload_n 1, 1) := by decide +kernel
theorem dX2_placeOf_8 : decode cX2_placeOf 8 = .ok (.iaload, 1) := by decide +kernel
theorem dX2_placeOf_9 : decode cX2_placeOf 9 = .ok (.if_icmp .ge 24, 3) := by decide +kernel
theorem dX2_placeOf_12 : decode cX2_placeOf 12 = .ok (.aload_n 0, 1) := by decide +kernel
theorem dX2_placeOf_13 : decode cX2_placeOf 13 = .ok (.getfield 49, 3) := by decide +kernel
theorem dX2_placeOf_16 : decode cX2_placeOf 16 = .ok (.bipush 6, 2) := by decide +kernel
theorem dX2_placeOf_18 : decode cX2_placeOf 18 = .ok (.iload_n 1, 1) := by decide +kernel
theorem dX2_placeOf_19 : decode cX2_placeOf 19 = .ok (.imul, 1) := by decide +kernel
theorem dX2_placeOf_20 : decode cX2_placeOf 20 = .ok (.iload_n 3, 1) := by decide +kernel
theorem dX2_placeOf_21 : decode cX2_placeOf 21 = .ok (.iadd, 1) := by decide +kernel
theorem dX2_placeOf_22 : decode cX2_placeOf 22 = .ok (.iaload, 1) := by decide +kernel
theorem dX2_placeOf_23 : decode cX2_placeOf 23 = .ok (.iload_n 2, 1) := by decide +kernel
theorem dX2_placeOf_24 : decode cX2_placeOf 24 = .ok (.if_icmp .eq 9, 3) := by decide +kernel
theorem dX2_placeOf_27 : decode cX2_placeOf 27 = .ok (.iinc 3 1, 3) := by decide +kernel
theorem dX2_placeOf_30 : decode cX2_placeOf 30 = .ok (.goto (-28), 3) := by decide +kernel
theorem dX2_placeOf_33 : decode cX2_placeOf 33 = .ok (.iload_n 3, 1) := by decide +kernel
theorem dX2_placeOf_34 : decode cX2_placeOf 34 = .ok (.ireturn, 1) := by decide +kernel
set_option maxRecDepth 20000 in
theorem ggX2_step_X2_isLease : GoodIn wsX2_step wsX2_isLease := goodIn_r _ [11, 12, 13, 14, 10, 15, 25, 26, 27, 28, 29, 30, 31, 32, 33, 34, 35, 36, 37, 38, 39, 40, 41] (by decide +kernel) (by decide +kernel)
set_option maxRecDepth 20000 in
theorem gX2_step_X2_isLease : GoodIn wsX2_step (wsV RX2 75 RX2 yX2_isLease wsX2_isLease) := goodIn_app (goodIn_of _ (by decide +kernel)) ggX2_step_X2_isLease
set_option maxRecDepth 20000 in
theorem ggX2_step_X2_isIn : GoodIn wsX2_step wsX2_isIn := goodIn_r _ [15] (by decide +kernel) (by decide +kernel)
set_option maxRecDepth 20000 in
theorem gX2_step_X2_isIn : GoodIn wsX2_step (va_wsS RX2 62 yX2_isIn wsX2_isIn) := goodIn_app (goodIn_of _ (by decide +kernel)) ggX2_step_X2_isIn
set_option maxRecDepth 20000 in
theorem ggX2_step_X2_placeOf : GoodIn wsX2_step wsX2_placeOf := goodIn_r _ [19, 6, 4, 25, 26, 27, 28, 29, 30, 31, 32, 33, 34, 35, 36, 37, 38, 39, 40, 41] (by decide +kernel) (by decide +kernel)
set_option maxRecDepth 20000 in
theorem gX2_step_X2_placeOf : GoodIn wsX2_step (wsV RX2 78 RX2 yX2_placeOf wsX2_placeOf) := goodIn_app (goodIn_of _ (by decide +kernel)) ggX2_step_X2_placeOf
set_option maxRecDepth 20000 in
theorem ggX2_step_X2_holds : GoodIn wsX2_step wsX2_holds := goodIn_r _ [23, 24, 25, 26, 27, 28, 29, 30, 31, 32, 33, 34, 35, 36, 37, 38, 39, 40, 41] (by decide +kernel) (by decide +kernel)
set_option maxRecDepth 20000 in
theorem gX2_step_X2_holds : GoodIn wsX2_step (wsV RX2 66 RX2 yX2_holds wsX2_holds) := goodIn_app (goodIn_of _ (by decide +kernel)) ggX2_step_X2_holds
theorem dX2_step_0 : decode cX2_step 0 = .ok (.aload_n 0, 1) := by decide +kernel
theorem dX2_step_1 : decode cX2_step 1 = .ok (.iload_n 1, 1) := by decide +kernel
theorem dX2_step_2 : decode cX2_step 2 = .ok (.invokevirtual 75, 3) := by decide +kernel
theorem dX2_step_5 : decode cX2_step 5 = .ok (.istore 4, 2) := by decide +kernel
theorem dX2_step_7 : decode cX2_step 7 = .ok (.iload 4, 2) := by decide +kernel
theorem dX2_step_9 : decode cX2_step 9 = .ok (.ifCond .eq 37, 3) := by decide +kernel
theorem dX2_step_12 : decode cX2_step 12 = .ok (.iload_n 2, 1) := by decide +kernel
theorem dX2_step_13 : decode cX2_step 13 = .ok (.aload_n 0, 1) := by decide +kernel
theorem dX2_step_14 : decode cX2_step 14 = .ok (.getfield 22, 3) := by decide +kernel
theorem dX2_step_17 : decode cX2_step 17 = .ok (.iload_n 1, 1) := by decide +kernel
theorem dX2_step_18 : decode cX2_step 18 = .ok (.iaload, 1) := by decide +kernel
theorem dX2_step_19 : decode cX2_step 19 = .ok (.if_icmp .le 27, 3) := by decide +kernel
theorem dX2_step_22 : decode cX2_step 22 = .ok (.iload_n 2, 1) := by decide +kernel
theorem dX2_step_23 : decode cX2_step 23 = .ok (.aload_n 0, 1) := by decide +kernel
theorem dX2_step_24 : decode cX2_step 24 = .ok (.getfield 25, 3) := by decide +kernel
theorem dX2_step_27 : decode cX2_step 27 = .ok (.iload_n 1, 1) := by decide +kernel
theorem dX2_step_28 : decode cX2_step 28 = .ok (.iaload, 1) := by decide +kernel
theorem dX2_step_29 : decode cX2_step 29 = .ok (.if_icmp .ge 17, 3) := by decide +kernel
theorem dX2_step_32 : decode cX2_step 32 = .ok (.iload_n 3, 1) := by decide +kernel
theorem dX2_step_33 : decode cX2_step 33 = .ok (.iconst 1, 1) := by decide +kernel
theorem dX2_step_34 : decode cX2_step 34 = .ok (.ldc 71, 2) := by decide +kernel
theorem dX2_step_36 : decode cX2_step 36 = .ok (.invokestatic 62, 3) := by decide +kernel
theorem dX2_step_39 : decode cX2_step 39 = .ok (.ifCond .eq 7, 3) := by decide +kernel
theorem dX2_step_42 : decode cX2_step 42 = .ok (.iconst 1, 1) := by decide +kernel
theorem dX2_step_43 : decode cX2_step 43 = .ok (.goto 4, 3) := by decide +kernel
theorem dX2_step_46 : decode cX2_step 46 = .ok (.iconst 0, 1) := by decide +kernel
theorem dX2_step_47 : decode cX2_step 47 = .ok (.istore 5, 2) := by decide +kernel
theorem dX2_step_49 : decode cX2_step 49 = .ok (.aload_n 0, 1) := by decide +kernel
theorem dX2_step_50 : decode cX2_step 50 = .ok (.iload 4, 2) := by decide +kernel
theorem dX2_step_52 : decode cX2_step 52 = .ok (.ifCond .ne 7, 3) := by decide +kernel
theorem dX2_step_55 : decode cX2_step 55 = .ok (.iconst 1, 1) := by decide +kernel
theorem dX2_step_56 : decode cX2_step 56 = .ok (.goto 28, 3) := by decide +kernel
theorem dX2_step_59 : decode cX2_step 59 = .ok (.iload 5, 2) := by decide +kernel
theorem dX2_step_61 : decode cX2_step 61 = .ok (.ifCond .ne 7, 3) := by decide +kernel
theorem dX2_step_64 : decode cX2_step 64 = .ok (.iconst 2, 1) := by decide +kernel
theorem dX2_step_65 : decode cX2_step 65 = .ok (.goto 19, 3) := by decide +kernel
theorem dX2_step_68 : decode cX2_step 68 = .ok (.aload_n 0, 1) := by decide +kernel
theorem dX2_step_69 : decode cX2_step 69 = .ok (.iload_n 1, 1) := by decide +kernel
theorem dX2_step_70 : decode cX2_step 70 = .ok (.iload_n 2, 1) := by decide +kernel
theorem dX2_step_71 : decode cX2_step 71 = .ok (.invokevirtual 78, 3) := by decide +kernel
theorem dX2_step_74 : decode cX2_step 74 = .ok (.bipush 6, 2) := by decide +kernel
theorem dX2_step_76 : decode cX2_step 76 = .ok (.if_icmp .ne 7, 3) := by decide +kernel
theorem dX2_step_79 : decode cX2_step 79 = .ok (.iconst 3, 1) := by decide +kernel
theorem dX2_step_80 : decode cX2_step 80 = .ok (.goto 4, 3) := by decide +kernel
theorem dX2_step_83 : decode cX2_step 83 = .ok (.iconst 0, 1) := by decide +kernel
theorem dX2_step_84 : decode cX2_step 84 = .ok (.invokevirtual 66, 3) := by decide +kernel
theorem dX2_step_87 : decode cX2_step 87 = .ok (.ifCond .ne 5, 3) := by decide +kernel
theorem dX2_step_90 : decode cX2_step 90 = .ok (.iconst 0, 1) := by decide +kernel
theorem dX2_step_91 : decode cX2_step 91 = .ok (.ireturn, 1) := by decide +kernel
theorem dX2_step_92 : decode cX2_step 92 = .ok (.aload_n 0, 1) := by decide +kernel
theorem dX2_step_93 : decode cX2_step 93 = .ok (.iload_n 1, 1) := by decide +kernel
theorem dX2_step_94 : decode cX2_step 94 = .ok (.iload_n 2, 1) := by decide +kernel
theorem dX2_step_95 : decode cX2_step 95 = .ok (.invokevirtual 78, 3) := by decide +kernel
theorem dX2_step_98 : decode cX2_step 98 = .ok (.istore 6, 2) := by decide +kernel
theorem dX2_step_100 : decode cX2_step 100 = .ok (.aload_n 0, 1) := by decide +kernel
theorem dX2_step_101 : decode cX2_step 101 = .ok (.getfield 49, 3) := by decide +kernel
theorem dX2_step_104 : decode cX2_step 104 = .ok (.bipush 6, 2) := by decide +kernel
theorem dX2_step_106 : decode cX2_step 106 = .ok (.iload_n 1, 1) := by decide +kernel
theorem dX2_step_107 : decode cX2_step 107 = .ok (.imul, 1) := by decide +kernel
theorem dX2_step_108 : decode cX2_step 108 = .ok (.iload 6, 2) := by decide +kernel
theorem dX2_step_110 : decode cX2_step 110 = .ok (.iadd, 1) := by decide +kernel
theorem dX2_step_111 : decode cX2_step 111 = .ok (.iload_n 2, 1) := by decide +kernel
theorem dX2_step_112 : decode cX2_step 112 = .ok (.iastore, 1) := by decide +kernel
theorem dX2_step_113 : decode cX2_step 113 = .ok (.aload_n 0, 1) := by decide +kernel
theorem dX2_step_114 : decode cX2_step 114 = .ok (.getfield 52, 3) := by decide +kernel
theorem dX2_step_117 : decode cX2_step 117 = .ok (.bipush 6, 2) := by decide +kernel
theorem dX2_step_119 : decode cX2_step 119 = .ok (.iload_n 1, 1) := by decide +kernel
theorem dX2_step_120 : decode cX2_step 120 = .ok (.imul, 1) := by decide +kernel
theorem dX2_step_121 : decode cX2_step 121 = .ok (.iload 6, 2) := by decide +kernel
theorem dX2_step_123 : decode cX2_step 123 = .ok (.iadd, 1) := by decide +kernel
theorem dX2_step_124 : decode cX2_step 124 = .ok (.iload_n 3, 1) := by decide +kernel
theorem dX2_step_125 : decode cX2_step 125 = .ok (.iastore, 1) := by decide +kernel
theorem dX2_step_126 : decode cX2_step 126 = .ok (.aload_n 0, 1) := by decide +kernel
theorem dX2_step_127 : decode cX2_step 127 = .ok (.getfield 46, 3) := by decide +kernel
theorem dX2_step_130 : decode cX2_step 130 = .ok (.iload_n 1, 1) := by decide +kernel
theorem dX2_step_131 : decode cX2_step 131 = .ok (.dup2, 1) := by decide +kernel
theorem dX2_step_132 : decode cX2_step 132 = .ok (.iaload, 1) := by decide +kernel
theorem dX2_step_133 : decode cX2_step 133 = .ok (.iload 6, 2) := by decide +kernel
theorem dX2_step_135 : decode cX2_step 135 = .ok (.aload_n 0, 1) := by decide +kernel
theorem dX2_step_136 : decode cX2_step 136 = .ok (.getfield 46, 3) := by decide +kernel
theorem dX2_step_139 : decode cX2_step 139 = .ok (.iload_n 1, 1) := by decide +kernel
theorem dX2_step_140 : decode cX2_step 140 = .ok (.iaload, 1) := by decide +kernel
theorem dX2_step_141 : decode cX2_step 141 = .ok (.if_icmp .ne 7, 3) := by decide +kernel
theorem dX2_step_144 : decode cX2_step 144 = .ok (.iconst 1, 1) := by decide +kernel
theorem dX2_step_145 : decode cX2_step 145 = .ok (.goto 4, 3) := by decide +kernel
theorem dX2_step_148 : decode cX2_step 148 = .ok (.iconst 0, 1) := by decide +kernel
theorem dX2_step_149 : decode cX2_step 149 = .ok (.iadd, 1) := by decide +kernel
theorem dX2_step_150 : decode cX2_step 150 = .ok (.iastore, 1) := by decide +kernel
theorem dX2_step_151 : decode cX2_step 151 = .ok (.aload_n 0, 1) := by decide +kernel
theorem dX2_step_152 : decode cX2_step 152 = .ok (.getfield 46, 3) := by decide +kernel
theorem dX2_step_155 : decode cX2_step 155 = .ok (.iload_n 1, 1) := by decide +kernel
theorem dX2_step_156 : decode cX2_step 156 = .ok (.iaload, 1) := by decide +kernel
theorem dX2_step_157 : decode cX2_step 157 = .ok (.ireturn, 1) := by decide +kernel
set_option maxRecDepth 20000 in
theorem ggX2_setTerms_X2_isIn : GoodIn wsX2_setTerms wsX2_isIn := goodIn_r _ [6] (by decide +kernel) (by decide +kernel)
set_option maxRecDepth 20000 in
theorem gX2_setTerms_X2_isIn : GoodIn wsX2_setTerms (va_wsS RX2 62 yX2_isIn wsX2_isIn) := goodIn_app (goodIn_of _ (by decide +kernel)) ggX2_setTerms_X2_isIn
set_option maxRecDepth 20000 in
theorem ggX2_setTerms_X2_isLease : GoodIn wsX2_setTerms wsX2_isLease := goodIn_r _ [10, 11, 3, 4, 5, 6, 17, 18, 19, 20, 21, 22, 23, 24, 25, 26, 27, 28, 29, 30, 31, 32, 33] (by decide +kernel) (by decide +kernel)
set_option maxRecDepth 20000 in
theorem gX2_setTerms_X2_isLease : GoodIn wsX2_setTerms (wsV RX2 75 RX2 yX2_isLease wsX2_isLease) := goodIn_app (goodIn_of _ (by decide +kernel)) ggX2_setTerms_X2_isLease
set_option maxRecDepth 20000 in
theorem ggX2_setTerms_X2_holds : GoodIn wsX2_setTerms wsX2_holds := goodIn_r _ [15, 16, 17, 18, 19, 20, 21, 22, 23, 24, 25, 26, 27, 28, 29, 30, 31, 32, 33] (by decide +kernel) (by decide +kernel)
set_option maxRecDepth 20000 in
theorem gX2_setTerms_X2_holds : GoodIn wsX2_setTerms (wsV RX2 66 RX2 yX2_holds wsX2_holds) := goodIn_app (goodIn_of _ (by decide +kernel)) ggX2_setTerms_X2_holds
theorem dX2_setTerms_0 : decode cX2_setTerms 0 = .ok (.iload_n 2, 1) := by decide +kernel
theorem dX2_setTerms_1 : decode cX2_setTerms 1 = .ok (.iconst 0, 1) := by decide +kernel
theorem dX2_setTerms_2 : decode cX2_setTerms 2 = .ok (.sipush 720, 3) := by decide +kernel
theorem dX2_setTerms_5 : decode cX2_setTerms 5 = .ok (.invokestatic 62, 3) := by decide +kernel
theorem dX2_setTerms_8 : decode cX2_setTerms 8 = .ok (.ifCond .eq 23, 3) := by decide +kernel
theorem dX2_setTerms_11 : decode cX2_setTerms 11 = .ok (.iload_n 3, 1) := by decide +kernel
theorem dX2_setTerms_12 : decode cX2_setTerms 12 = .ok (.ifCond .eq 15, 3) := by decide +kernel
theorem dX2_setTerms_15 : decode cX2_setTerms 15 = .ok (.iload_n 3, 1) := by decide +kernel
theorem dX2_setTerms_16 : decode cX2_setTerms 16 = .ok (.bipush 30, 2) := by decide +kernel
theorem dX2_setTerms_18 : decode cX2_setTerms 18 = .ok (.sipush 1800, 3) := by decide +kernel
theorem dX2_setTerms_21 : decode cX2_setTerms 21 = .ok (.invokestatic 62, 3) := by decide +kernel
theorem dX2_setTerms_24 : decode cX2_setTerms 24 = .ok (.ifCond .eq 7, 3) := by decide +kernel
theorem dX2_setTerms_27 : decode cX2_setTerms 27 = .ok (.iconst 1, 1) := by decide +kernel
theorem dX2_setTerms_28 : decode cX2_setTerms 28 = .ok (.goto 4, 3) := by decide +kernel
theorem dX2_setTerms_31 : decode cX2_setTerms 31 = .ok (.iconst 0, 1) := by decide +kernel
theorem dX2_setTerms_32 : decode cX2_setTerms 32 = .ok (.istore 4, 2) := by decide +kernel
theorem dX2_setTerms_34 : decode cX2_setTerms 34 = .ok (.aload_n 0, 1) := by decide +kernel
theorem dX2_setTerms_35 : decode cX2_setTerms 35 = .ok (.aload_n 0, 1) := by decide +kernel
theorem dX2_setTerms_36 : decode cX2_setTerms 36 = .ok (.iload_n 1, 1) := by decide +kernel
theorem dX2_setTerms_37 : decode cX2_setTerms 37 = .ok (.invokevirtual 75, 3) := by decide +kernel
theorem dX2_setTerms_40 : decode cX2_setTerms 40 = .ok (.ifCond .ne 7, 3) := by decide +kernel
theorem dX2_setTerms_43 : decode cX2_setTerms 43 = .ok (.iconst 1, 1) := by decide +kernel
theorem dX2_setTerms_44 : decode cX2_setTerms 44 = .ok (.goto 13, 3) := by decide +kernel
theorem dX2_setTerms_47 : decode cX2_setTerms 47 = .ok (.iload 4, 2) := by decide +kernel
theorem dX2_setTerms_49 : decode cX2_setTerms 49 = .ok (.ifCond .eq 7, 3) := by decide +kernel
theorem dX2_setTerms_52 : decode cX2_setTerms 52 = .ok (.iconst 0, 1) := by decide +kernel
theorem dX2_setTerms_53 : decode cX2_setTerms 53 = .ok (.goto 4, 3) := by decide +kernel
theorem dX2_setTerms_56 : decode cX2_setTerms 56 = .ok (.iconst 2, 1) := by decide +kernel
theorem dX2_setTerms_57 : decode cX2_setTerms 57 = .ok (.invokevirtual 66, 3) := by decide +kernel
theorem dX2_setTerms_60 : decode cX2_setTerms 60 = .ok (.ifCond .eq 17, 3) := by decide +kernel
theorem dX2_setTerms_63 : decode cX2_setTerms 63 = .ok (.aload_n 0, 1) := by decide +kernel
theorem dX2_setTerms_64 : decode cX2_setTerms 64 = .ok (.getfield 31, 3) := by decide +kernel
theorem dX2_setTerms_67 : decode cX2_setTerms 67 = .ok (.iload_n 1, 1) := by decide +kernel
theorem dX2_setTerms_68 : decode cX2_setTerms 68 = .ok (.iload_n 2, 1) := by decide +kernel
theorem dX2_setTerms_69 : decode cX2_setTerms 69 = .ok (.iastore, 1) := by decide +kernel
theorem dX2_setTerms_70 : decode cX2_setTerms 70 = .ok (.aload_n 0, 1) := by decide +kernel
theorem dX2_setTerms_71 : decode cX2_setTerms 71 = .ok (.getfield 34, 3) := by decide +kernel
theorem dX2_setTerms_74 : decode cX2_setTerms 74 = .ok (.iload_n 1, 1) := by decide +kernel
theorem dX2_setTerms_75 : decode cX2_setTerms 75 = .ok (.iload_n 3, 1) := by decide +kernel
theorem dX2_setTerms_76 : decode cX2_setTerms 76 = .ok (.iastore, 1) := by decide +kernel
theorem dX2_setTerms_77 : decode cX2_setTerms 77 = .ok (.return_, 1) := by decide +kernel
set_option maxRecDepth 20000 in
theorem ggX2_setService_X2_isIn : GoodIn wsX2_setService wsX2_isIn := goodIn_r _ [7] (by decide +kernel) (by decide +kernel)
set_option maxRecDepth 20000 in
theorem gX2_setService_X2_isIn : GoodIn wsX2_setService (va_wsS RX2 62 yX2_isIn wsX2_isIn) := goodIn_app (goodIn_of _ (by decide +kernel)) ggX2_setService_X2_isIn
set_option maxRecDepth 20000 in
theorem ggX2_setService_X2_isLease : GoodIn wsX2_setService wsX2_isLease := goodIn_r _ [11, 12, 4, 5, 6, 7, 18, 19, 20, 21, 22, 23, 24, 25, 26, 27, 28, 29, 30, 31, 32, 33, 34] (by decide +kernel) (by decide +kernel)
set_option maxRecDepth 20000 in
theorem gX2_setService_X2_isLease : GoodIn wsX2_setService (wsV RX2 75 RX2 yX2_isLease wsX2_isLease) := goodIn_app (goodIn_of _ (by decide +kernel)) ggX2_setService_X2_isLease
set_option maxRecDepth 20000 in
theorem ggX2_setService_X2_holds : GoodIn wsX2_setService wsX2_holds := goodIn_r _ [16, 17, 18, 19, 20, 21, 22, 23, 24, 25, 26, 27, 28, 29, 30, 31, 32, 33, 34] (by decide +kernel) (by decide +kernel)
set_option maxRecDepth 20000 in
theorem gX2_setService_X2_holds : GoodIn wsX2_setService (wsV RX2 66 RX2 yX2_holds wsX2_holds) := goodIn_app (goodIn_of _ (by decide +kernel)) ggX2_setService_X2_holds
theorem dX2_setService_0 : decode cX2_setService 0 = .ok (.iload_n 2, 1) := by decide +kernel
theorem dX2_setService_1 : decode cX2_setService 1 = .ok (.iconst (-1), 1) := by decide +kernel
theorem dX2_setService_2 : decode cX2_setService 2 = .ok (.ldc 70, 2) := by decide +kernel
theorem dX2_setService_4 : decode cX2_setService 4 = .ok (.invokestatic 62, 3) := by decide +kernel
theorem dX2_setService_7 : decode cX2_setService 7 = .ok (.ifCond .eq 18, 3) := by decide +kernel
theorem dX2_setService_10 : decode cX2_setService 10 = .ok (.iload_n 3, 1) := by decide +kernel
theorem dX2_setService_11 : decode cX2_setService 11 = .ok (.iconst 0, 1) := by decide +kernel
theorem dX2_setService_12 : decode cX2_setService 12 = .ok (.sipush 9999, 3) := by decide +kernel
theorem dX2_setService_15 : decode cX2_setService 15 = .ok (.invokestatic 62, 3) := by decide +kernel
theorem dX2_setService_18 : decode cX2_setService 18 = .ok (.ifCond .eq 7, 3) := by decide +kernel
theorem dX2_setService_21 : decode cX2_setService 21 = .ok (.iconst 1, 1) := by decide +kernel
theorem dX2_setService_22 : decode cX2_setService 22 = .ok (.goto 4, 3) := by decide +kernel
theorem dX2_setService_25 : decode cX2_setService 25 = .ok (.iconst 0, 1) := by decide +kernel
theorem dX2_setService_26 : decode cX2_setService 26 = .ok (.istore 4, 2) := by decide +kernel
theorem dX2_setService_28 : decode cX2_setService 28 = .ok (.aload_n 0, 1) := by decide +kernel
theorem dX2_setService_29 : decode cX2_setService 29 = .ok (.aload_n 0, 1) := by decide +kernel
theorem dX2_setService_30 : decode cX2_setService 30 = .ok (.iload_n 1, 1) := by decide +kernel
theorem dX2_setService_31 : decode cX2_setService 31 = .ok (.invokevirtual 75, 3) := by decide +kernel
theorem dX2_setService_34 : decode cX2_setService 34 = .ok (.ifCond .ne 7, 3) := by decide +kernel
theorem dX2_setService_37 : decode cX2_setService 37 = .ok (.iconst 1, 1) := by decide +kernel
theorem dX2_setService_38 : decode cX2_setService 38 = .ok (.goto 13, 3) := by decide +kernel
theorem dX2_setService_41 : decode cX2_setService 41 = .ok (.iload 4, 2) := by decide +kernel
theorem dX2_setService_43 : decode cX2_setService 43 = .ok (.ifCond .eq 7, 3) := by decide +kernel
theorem dX2_setService_46 : decode cX2_setService 46 = .ok (.iconst 0, 1) := by decide +kernel
theorem dX2_setService_47 : decode cX2_setService 47 = .ok (.goto 4, 3) := by decide +kernel
theorem dX2_setService_50 : decode cX2_setService 50 = .ok (.iconst 2, 1) := by decide +kernel
theorem dX2_setService_51 : decode cX2_setService 51 = .ok (.invokevirtual 66, 3) := by decide +kernel
theorem dX2_setService_54 : decode cX2_setService 54 = .ok (.ifCond .eq 17, 3) := by decide +kernel
theorem dX2_setService_57 : decode cX2_setService 57 = .ok (.aload_n 0, 1) := by decide +kernel
theorem dX2_setService_58 : decode cX2_setService 58 = .ok (.getfield 37, 3) := by decide +kernel
theorem dX2_setService_61 : decode cX2_setService 61 = .ok (.iload_n 1, 1) := by decide +kernel
theorem dX2_setService_62 : decode cX2_setService 62 = .ok (.iload_n 2, 1) := by decide +kernel
theorem dX2_setService_63 : decode cX2_setService 63 = .ok (.iastore, 1) := by decide +kernel
theorem dX2_setService_64 : decode cX2_setService 64 = .ok (.aload_n 0, 1) := by decide +kernel
theorem dX2_setService_65 : decode cX2_setService 65 = .ok (.getfield 40, 3) := by decide +kernel
theorem dX2_setService_68 : decode cX2_setService 68 = .ok (.iload_n 1, 1) := by decide +kernel
theorem dX2_setService_69 : decode cX2_setService 69 = .ok (.iload_n 3, 1) := by decide +kernel
theorem dX2_setService_70 : decode cX2_setService 70 = .ok (.iastore, 1) := by decide +kernel
theorem dX2_setService_71 : decode cX2_setService 71 = .ok (.return_, 1) := by decide +kernel
theorem dX2_agreed_0 : decode cX2_agreed 0 = .ok (.aload_n 0, 1) := by decide +kernel
theorem dX2_agreed_1 : decode cX2_agreed 1 = .ok (.getfield 28, 3) := by decide +kernel
theorem dX2_agreed_4 : decode cX2_agreed 4 = .ok (.iload_n 1, 1) := by decide +kernel
theorem dX2_agreed_5 : decode cX2_agreed 5 = .ok (.iaload, 1) := by decide +kernel
theorem dX2_agreed_6 : decode cX2_agreed 6 = .ok (.istore_n 3, 1) := by decide +kernel
theorem dX2_agreed_7 : decode cX2_agreed 7 = .ok (.iconst (-1), 1) := by decide +kernel
theorem dX2_agreed_8 : decode cX2_agreed 8 = .ok (.istore 4, 2) := by decide +kernel
theorem dX2_agreed_10 : decode cX2_agreed 10 = .ok (.bipush 6, 2) := by decide +kernel
theorem dX2_agreed_12 : decode cX2_agreed 12 = .ok (.iload_n 1, 1) := by decide +kernel
theorem dX2_agreed_13 : decode cX2_agreed 13 = .ok (.imul, 1) := by decide +kernel
theorem dX2_agreed_14 : decode cX2_agreed 14 = .ok (.istore 5, 2) := by decide +kernel
theorem dX2_agreed_16 : decode cX2_agreed 16 = .ok (.iload 5, 2) := by decide +kernel
theorem dX2_agreed_18 : decode cX2_agreed 18 = .ok (.bipush 6, 2) := by decide +kernel
theorem dX2_agreed_20 : decode cX2_agreed 20 = .ok (.iload_n 1, 1) := by decide +kernel
theorem dX2_agreed_21 : decode cX2_agreed 21 = .ok (.imul, 1) := by decide +kernel
theorem dX2_agreed_22 : decode cX2_agreed 22 = .ok (.aload_n 0, 1) := by decide +kernel
theorem dX2_agreed_23 : decode cX2_agreed 23 = .ok (.getfield 46, 3) := by decide +kernel
theorem dX2_agreed_26 : decode cX2_agreed 26 = .ok (.iload_n 1, 1) := by decide +kernel
theorem dX2_agreed_27 : decode cX2_agreed 27 = .ok (.iaload, 1) := by decide +kernel
theorem dX2_agreed_28 : decode cX2_agreed 28 = .ok (.iadd, 1) := by decide +kernel
theorem dX2_agreed_29 : decode cX2_agreed 29 = .ok (.if_icmp .ge 75, 3) := by decide +kernel
theorem dX2_agreed_32 : decode cX2_agreed 32 = .ok (.aload_n 0, 1) := by decide +kernel
theorem dX2_agreed_33 : decode cX2_agreed 33 = .ok (.getfield 49, 3) := by decide +kernel
theorem dX2_agreed_36 : decode cX2_agreed 36 = .ok (.iload 5, 2) := by decide +kernel
theorem dX2_agreed_38 : decode cX2_agreed 38 = .ok (.iaload, 1) := by decide +kernel
theorem dX2_agreed_39 : decode cX2_agreed 39 = .ok (.iload_n 2, 1) := by decide +kernel
theorem dX2_agreed_40 : decode cX2_agreed 40 = .ok (.if_icmp .gt 19, 3) := by decide +kernel
theorem dX2_agreed_43 : decode cX2_agreed 43 = .ok (.aload_n 0, 1) := by decide +kernel
theorem dX2_agreed_44 : decode cX2_agreed 44 = .ok (.getfield 49, 3) := by decide +kernel
theorem dX2_agreed_47 : decode cX2_agreed 47 = .ok (.iload 5, 2) := by decide +kernel
theorem dX2_agreed_49 : decode cX2_agreed 49 = .ok (.iaload, 1) := by decide +kernel
theorem dX2_agreed_50 : decode cX2_agreed 50 = .ok (.iload 4, 2) := by decide +kernel
theorem dX2_agreed_52 : decode cX2_agreed 52 = .ok (.if_icmp .le 7, 3) := by decide +kernel
theorem dX2_agreed_55 : decode cX2_agreed 55 = .ok (.iconst 1, 1) := by decide +kernel
theorem dX2_agreed_56 : decode cX2_agreed 56 = .ok (.goto 4, 3) := by decide +kernel
theorem dX2_agreed_59 : decode cX2_agreed 59 = .ok (.iconst 0, 1) := by decide +kernel
theorem dX2_agreed_60 : decode cX2_agreed 60 = .ok (.istore 6, 2) := by decide +kernel
theorem dX2_agreed_62 : decode cX2_agreed 62 = .ok (.iload 6, 2) := by decide +kernel
theorem dX2_agreed_64 : decode cX2_agreed 64 = .ok (.ifCond .eq 13, 3) := by decide +kernel
theorem dX2_agreed_67 : decode cX2_agreed 67 = .ok (.aload_n 0, 1) := by decide +kernel
theorem dX2_agreed_68 : decode cX2_agreed 68 = .ok (.getfield 52, 3) := by decide +kernel
theorem dX2_agreed_71 : decode cX2_agreed 71 = .ok (.iload 5, 2) := by decide +kernel
theorem dX2_agreed_73 : decode cX2_agreed 73 = .ok (.iaload, 1) := by decide +kernel
theorem dX2_agreed_74 : decode cX2_agreed 74 = .ok (.goto 4, 3) := by decide +kernel
theorem dX2_agreed_77 : decode cX2_agreed 77 = .ok (.iload_n 3, 1) := by decide +kernel
theorem dX2_agreed_78 : decode cX2_agreed 78 = .ok (.istore_n 3, 1) := by decide +kernel
theorem dX2_agreed_79 : decode cX2_agreed 79 = .ok (.iload 6, 2) := by decide +kernel
theorem dX2_agreed_81 : decode cX2_agreed 81 = .ok (.ifCond .eq 13, 3) := by decide +kernel
theorem dX2_agreed_84 : decode cX2_agreed 84 = .ok (.aload_n 0, 1) := by decide +kernel
theorem dX2_agreed_85 : decode cX2_agreed 85 = .ok (.getfield 49, 3) := by decide +kernel
theorem dX2_agreed_88 : decode cX2_agreed 88 = .ok (.iload 5, 2) := by decide +kernel
theorem dX2_agreed_90 : decode cX2_agreed 90 = .ok (.iaload, 1) := by decide +kernel
theorem dX2_agreed_91 : decode cX2_agreed 91 = .ok (.goto 5, 3) := by decide +kernel
theorem dX2_agreed_94 : decode cX2_agreed 94 = .ok (.iload 4, 2) := by decide +kernel
theorem dX2_agreed_96 : decode cX2_agreed 96 = .ok (.istore 4, 2) := by decide +kernel
theorem dX2_agreed_98 : decode cX2_agreed 98 = .ok (.iinc 5 1, 3) := by decide +kernel
theorem dX2_agreed_101 : decode cX2_agreed 101 = .ok (.goto (-85), 3) := by decide +kernel
theorem dX2_agreed_104 : decode cX2_agreed 104 = .ok (.iload_n 3, 1) := by decide +kernel
theorem dX2_agreed_105 : decode cX2_agreed 105 = .ok (.ireturn, 1) := by decide +kernel
theorem dX2_greatestIndex_0 : decode cX2_greatestIndex 0 = .ok (.iconst 0, 1) := by decide +kernel
theorem dX2_greatestIndex_1 : decode cX2_greatestIndex 1 = .ok (.istore_n 3, 1) := by decide +kernel
theorem dX2_greatestIndex_2 : decode cX2_greatestIndex 2 = .ok (.aload_n 0, 1) := by decide +kernel
theorem dX2_greatestIndex_3 : decode cX2_greatestIndex 3 = .ok (.getfield 22, 3) := by decide +kernel
theorem dX2_greatestIndex_6 : decode cX2_greatestIndex 6 = .ok (.iload_n 1, 1) := by decide +kernel
theorem dX2_greatestIndex_7 : decode cX2_greatestIndex 7 = .ok (.iaload, 1) := by decide +kernel
theorem dX2_greatestIndex_8 : decode cX2_greatestIndex 8 = .ok (.aload_n 0, 1) := by decide +kernel
theorem dX2_greatestIndex_9 : decode cX2_greatestIndex 9 = .ok (.getfield 34, 3) := by decide +kernel
theorem dX2_greatestIndex_12 : decode cX2_greatestIndex 12 = .ok (.iload_n 1, 1) := by decide +kernel
theorem dX2_greatestIndex_13 : decode cX2_greatestIndex 13 = .ok (.iaload, 1) := by decide +kernel
theorem dX2_greatestIndex_14 : decode cX2_greatestIndex 14 = .ok (.iadd, 1) := by decide +kernel
theorem dX2_greatestIndex_15 : decode cX2_greatestIndex 15 = .ok (.istore 4, 2) := by decide +kernel
theorem dX2_greatestIndex_17 : decode cX2_greatestIndex 17 = .ok (.iload 4, 2) := by decide +kernel
theorem dX2_greatestIndex_19 : decode cX2_greatestIndex 19 = .ok (.iload_n 2, 1) := by decide +kernel
theorem dX2_greatestIndex_20 : decode cX2_greatestIndex 20 = .ok (.if_icmp .gt 51, 3) := by decide +kernel
theorem dX2_greatestIndex_23 : decode cX2_greatestIndex 23 = .ok (.aload_n 0, 1) := by decide +kernel
theorem dX2_greatestIndex_24 : decode cX2_greatestIndex 24 = .ok (.getfield 34, 3) := by decide +kernel
theorem dX2_greatestIndex_27 : decode cX2_greatestIndex 27 = .ok (.iload_n 1, 1) := by decide +kernel
theorem dX2_greatestIndex_28 : decode cX2_greatestIndex 28 = .ok (.iaload, 1) := by decide +kernel
theorem dX2_greatestIndex_29 : decode cX2_greatestIndex 29 = .ok (.ifCond .le 42, 3) := by decide +kernel
theorem dX2_greatestIndex_32 : decode cX2_greatestIndex 32 = .ok (.aload_n 0, 1) := by decide +kernel
theorem dX2_greatestIndex_33 : decode cX2_greatestIndex 33 = .ok (.getfield 13, 3) := by decide +kernel
theorem dX2_greatestIndex_36 : decode cX2_greatestIndex 36 = .ok (.iload 4, 2) := by decide +kernel
theorem dX2_greatestIndex_38 : decode cX2_greatestIndex 38 = .ok (.bipush 30, 2) := by decide +kernel
theorem dX2_greatestIndex_40 : decode cX2_greatestIndex 40 = .ok (.idiv, 1) := by decide +kernel
theorem dX2_greatestIndex_41 : decode cX2_greatestIndex 41 = .ok (.iaload, 1) := by decide +kernel
theorem dX2_greatestIndex_42 : decode cX2_greatestIndex 42 = .ok (.istore 5, 2) := by decide +kernel
theorem dX2_greatestIndex_44 : decode cX2_greatestIndex 44 = .ok (.iload 5, 2) := by decide +kernel
theorem dX2_greatestIndex_46 : decode cX2_greatestIndex 46 = .ok (.iload_n 3, 1) := by decide +kernel
theorem dX2_greatestIndex_47 : decode cX2_greatestIndex 47 = .ok (.if_icmp .le 8, 3) := by decide +kernel
theorem dX2_greatestIndex_50 : decode cX2_greatestIndex 50 = .ok (.iload 5, 2) := by decide +kernel
theorem dX2_greatestIndex_52 : decode cX2_greatestIndex 52 = .ok (.goto 4, 3) := by decide +kernel
theorem dX2_greatestIndex_55 : decode cX2_greatestIndex 55 = .ok (.iload_n 3, 1) := by decide +kernel
theorem dX2_greatestIndex_56 : decode cX2_greatestIndex 56 = .ok (.istore_n 3, 1) := by decide +kernel
theorem dX2_greatestIndex_57 : decode cX2_greatestIndex 57 = .ok (.iload 4, 2) := by decide +kernel
theorem dX2_greatestIndex_59 : decode cX2_greatestIndex 59 = .ok (.aload_n 0, 1) := by decide +kernel
theorem dX2_greatestIndex_60 : decode cX2_greatestIndex 60 = .ok (.getfield 34, 3) := by decide +kernel
theorem dX2_greatestIndex_63 : decode cX2_greatestIndex 63 = .ok (.iload_n 1, 1) := by decide +kernel
theorem dX2_greatestIndex_64 : decode cX2_greatestIndex 64 = .ok (.iaload, 1) := by decide +kernel
theorem dX2_greatestIndex_65 : decode cX2_greatestIndex 65 = .ok (.iadd, 1) := by decide +kernel
theorem dX2_greatestIndex_66 : decode cX2_greatestIndex 66 = .ok (.istore 4, 2) := by decide +kernel
theorem dX2_greatestIndex_68 : decode cX2_greatestIndex 68 = .ok (.goto (-51), 3) := by decide +kernel
theorem dX2_greatestIndex_71 : decode cX2_greatestIndex 71 = .ok (.iload_n 3, 1) := by decide +kernel
theorem dX2_greatestIndex_72 : decode cX2_greatestIndex 72 = .ok (.ireturn, 1) := by decide +kernel
theorem dX2_isDayOf_0 : decode cX2_isDayOf 0 = .ok (.iload_n 2, 1) := by decide +kernel
theorem dX2_isDayOf_1 : decode cX2_isDayOf 1 = .ok (.aload_n 0, 1) := by decide +kernel
theorem dX2_isDayOf_2 : decode cX2_isDayOf 2 = .ok (.getfield 22, 3) := by decide +kernel
theorem dX2_isDayOf_5 : decode cX2_isDayOf 5 = .ok (.iload_n 1, 1) := by decide +kernel
theorem dX2_isDayOf_6 : decode cX2_isDayOf 6 = .ok (.iaload, 1) := by decide +kernel
theorem dX2_isDayOf_7 : decode cX2_isDayOf 7 = .ok (.if_icmp .lt 17, 3) := by decide +kernel
theorem dX2_isDayOf_10 : decode cX2_isDayOf 10 = .ok (.iload_n 2, 1) := by decide +kernel
theorem dX2_isDayOf_11 : decode cX2_isDayOf 11 = .ok (.aload_n 0, 1) := by decide +kernel
theorem dX2_isDayOf_12 : decode cX2_isDayOf 12 = .ok (.getfield 25, 3) := by decide +kernel
theorem dX2_isDayOf_15 : decode cX2_isDayOf 15 = .ok (.iload_n 1, 1) := by decide +kernel
theorem dX2_isDayOf_16 : decode cX2_isDayOf 16 = .ok (.iaload, 1) := by decide +kernel
theorem dX2_isDayOf_17 : decode cX2_isDayOf 17 = .ok (.if_icmp .ge 7, 3) := by decide +kernel
theorem dX2_isDayOf_20 : decode cX2_isDayOf 20 = .ok (.iconst 1, 1) := by decide +kernel
theorem dX2_isDayOf_21 : decode cX2_isDayOf 21 = .ok (.goto 4, 3) := by decide +kernel
theorem dX2_isDayOf_24 : decode cX2_isDayOf 24 = .ok (.iconst 0, 1) := by decide +kernel
theorem dX2_isDayOf_25 : decode cX2_isDayOf 25 = .ok (.ireturn, 1) := by decide +kernel
set_option maxRecDepth 20000 in
theorem ggX2_rentAt_X2_isDayOf : GoodIn wsX2_rentAt wsX2_isDayOf := goodIn_r _ [8, 1, 9, 23, 24, 25, 26, 27, 28, 29, 30, 31, 32, 33, 34, 35, 36, 37, 38, 39] (by decide +kernel) (by decide +kernel)
set_option maxRecDepth 20000 in
theorem gX2_rentAt_X2_isDayOf : GoodIn wsX2_rentAt (wsV RX2 82 RX2 yX2_isDayOf wsX2_isDayOf) := goodIn_app (goodIn_of _ (by decide +kernel)) ggX2_rentAt_X2_isDayOf
set_option maxRecDepth 20000 in
theorem ggX2_rentAt_X2_agreed : GoodIn wsX2_rentAt wsX2_agreed := goodIn_r _ [13, 14, 15, 16, 17, 23, 24, 25, 26, 27, 28, 29, 30, 31, 32, 33, 34, 35, 36, 37, 38, 39] (by decide +kernel) (by decide +kernel)
set_option maxRecDepth 20000 in
theorem gX2_rentAt_X2_agreed : GoodIn wsX2_rentAt (wsV RX2 86 RX2 yX2_agreed wsX2_agreed) := goodIn_app (goodIn_of _ (by decide +kernel)) ggX2_rentAt_X2_agreed
set_option maxRecDepth 20000 in
theorem ggX2_rentAt_X2_greatestIndex : GoodIn wsX2_rentAt wsX2_greatestIndex := goodIn_r _ [21, 1, 22, 3, 23, 24, 25, 26, 27, 28, 29, 30, 31, 32, 33, 34, 35, 36, 37, 38, 39] (by decide +kernel) (by decide +kernel)
set_option maxRecDepth 20000 in
theorem gX2_rentAt_X2_greatestIndex : GoodIn wsX2_rentAt (wsV RX2 89 RX2 yX2_greatestIndex wsX2_greatestIndex) := goodIn_app (goodIn_of _ (by decide +kernel)) ggX2_rentAt_X2_greatestIndex
theorem dX2_rentAt_0 : decode cX2_rentAt 0 = .ok (.aload_n 0, 1) := by decide +kernel
theorem dX2_rentAt_1 : decode cX2_rentAt 1 = .ok (.iload_n 1, 1) := by decide +kernel
theorem dX2_rentAt_2 : decode cX2_rentAt 2 = .ok (.iload_n 2, 1) := by decide +kernel
theorem dX2_rentAt_3 : decode cX2_rentAt 3 = .ok (.invokevirtual 82, 3) := by decide +kernel
theorem dX2_rentAt_6 : decode cX2_rentAt 6 = .ok (.ifCond .eq 20, 3) := by decide +kernel
theorem dX2_rentAt_9 : decode cX2_rentAt 9 = .ok (.iload_n 2, 1) := by decide +kernel
theorem dX2_rentAt_10 : decode cX2_rentAt 10 = .ok (.aload_n 0, 1) := by decide +kernel
theorem dX2_rentAt_11 : decode cX2_rentAt 11 = .ok (.getfield 22, 3) := by decide +kernel
theorem dX2_rentAt_14 : decode cX2_rentAt 14 = .ok (.iload_n 1, 1) := by decide +kernel
theorem dX2_rentAt_15 : decode cX2_rentAt 15 = .ok (.iaload, 1) := by decide +kernel
theorem dX2_rentAt_16 : decode cX2_rentAt 16 = .ok (.aload_n 0, 1) := by decide +kernel
theorem dX2_rentAt_17 : decode cX2_rentAt 17 = .ok (.getfield 31, 3) := by decide +kernel
theorem dX2_rentAt_20 : decode cX2_rentAt 20 = .ok (.iload_n 1, 1) := by decide +kernel
theorem dX2_rentAt_21 : decode cX2_rentAt 21 = .ok (.iaload, 1) := by decide +kernel
theorem dX2_rentAt_22 : decode cX2_rentAt 22 = .ok (.iadd, 1) := by decide +kernel
theorem dX2_rentAt_23 : decode cX2_rentAt 23 = .ok (.if_icmp .ge 5, 3) := by decide +kernel
theorem dX2_rentAt_26 : decode cX2_rentAt 26 = .ok (.iconst 0, 1) := by decide +kernel
theorem dX2_rentAt_27 : decode cX2_rentAt 27 = .ok (.ireturn, 1) := by decide +kernel
theorem dX2_rentAt_28 : decode cX2_rentAt 28 = .ok (.aload_n 0, 1) := by decide +kernel
theorem dX2_rentAt_29 : decode cX2_rentAt 29 = .ok (.iload_n 1, 1) := by decide +kernel
theorem dX2_rentAt_30 : decode cX2_rentAt 30 = .ok (.iload_n 2, 1) := by decide +kernel
theorem dX2_rentAt_31 : decode cX2_rentAt 31 = .ok (.invokevirtual 86, 3) := by decide +kernel
theorem dX2_rentAt_34 : decode cX2_rentAt 34 = .ok (.istore_n 3, 1) := by decide +kernel
theorem dX2_rentAt_35 : decode cX2_rentAt 35 = .ok (.iload_n 3, 1) := by decide +kernel
theorem dX2_rentAt_36 : decode cX2_rentAt 36 = .ok (.aload_n 0, 1) := by decide +kernel
theorem dX2_rentAt_37 : decode cX2_rentAt 37 = .ok (.iload_n 1, 1) := by decide +kernel
theorem dX2_rentAt_38 : decode cX2_rentAt 38 = .ok (.iload_n 2, 1) := by decide +kernel
theorem dX2_rentAt_39 : decode cX2_rentAt 39 = .ok (.invokevirtual 89, 3) := by decide +kernel
theorem dX2_rentAt_42 : decode cX2_rentAt 42 = .ok (.imul, 1) := by decide +kernel
theorem dX2_rentAt_43 : decode cX2_rentAt 43 = .ok (.aload_n 0, 1) := by decide +kernel
theorem dX2_rentAt_44 : decode cX2_rentAt 44 = .ok (.getfield 13, 3) := by decide +kernel
theorem dX2_rentAt_47 : decode cX2_rentAt 47 = .ok (.aload_n 0, 1) := by decide +kernel
theorem dX2_rentAt_48 : decode cX2_rentAt 48 = .ok (.getfield 22, 3) := by decide +kernel
theorem dX2_rentAt_51 : decode cX2_rentAt 51 = .ok (.iload_n 1, 1) := by decide +kernel
theorem dX2_rentAt_52 : decode cX2_rentAt 52 = .ok (.iaload, 1) := by decide +kernel
theorem dX2_rentAt_53 : decode cX2_rentAt 53 = .ok (.bipush 30, 2) := by decide +kernel
theorem dX2_rentAt_55 : decode cX2_rentAt 55 = .ok (.idiv, 1) := by decide +kernel
theorem dX2_rentAt_56 : decode cX2_rentAt 56 = .ok (.iaload, 1) := by decide +kernel
theorem dX2_rentAt_57 : decode cX2_rentAt 57 = .ok (.idiv, 1) := by decide +kernel
theorem dX2_rentAt_58 : decode cX2_rentAt 58 = .ok (.istore 4, 2) := by decide +kernel
theorem dX2_rentAt_60 : decode cX2_rentAt 60 = .ok (.iload 4, 2) := by decide +kernel
theorem dX2_rentAt_62 : decode cX2_rentAt 62 = .ok (.iload_n 3, 1) := by decide +kernel
theorem dX2_rentAt_63 : decode cX2_rentAt 63 = .ok (.if_icmp .le 8, 3) := by decide +kernel
theorem dX2_rentAt_66 : decode cX2_rentAt 66 = .ok (.iload 4, 2) := by decide +kernel
theorem dX2_rentAt_68 : decode cX2_rentAt 68 = .ok (.goto 4, 3) := by decide +kernel
theorem dX2_rentAt_71 : decode cX2_rentAt 71 = .ok (.iload_n 3, 1) := by decide +kernel
theorem dX2_rentAt_72 : decode cX2_rentAt 72 = .ok (.ireturn, 1) := by decide +kernel
set_option maxRecDepth 20000 in
theorem ggX2_billOf_X2_rentAt : GoodIn wsX2_billOf wsX2_rentAt := goodIn_r _ [5, 6, 7, 8, 9, 10, 11, 4, 12, 13, 14, 15, 16, 17, 18, 19, 20, 21, 22, 23, 24, 25, 26, 27, 28, 29, 30, 31, 32, 33, 34, 35, 36, 37, 38, 39, 40, 41, 42, 43] (by decide +kernel) (by decide +kernel)
set_option maxRecDepth 20000 in
theorem gX2_billOf_X2_rentAt : GoodIn wsX2_billOf (wsV RX2 92 RX2 yX2_rentAt wsX2_rentAt) := goodIn_app (goodIn_of _ (by decide +kernel)) ggX2_billOf_X2_rentAt
theorem dX2_billOf_0 : decode cX2_billOf 0 = .ok (.iconst 0, 1) := by decide +kernel
theorem dX2_billOf_1 : decode cX2_billOf 1 = .ok (.istore_n 3, 1) := by decide +kernel
theorem dX2_billOf_2 : decode cX2_billOf 2 = .ok (.bipush 30, 2) := by decide +kernel
theorem dX2_billOf_4 : decode cX2_billOf 4 = .ok (.iload_n 2, 1) := by decide +kernel
theorem dX2_billOf_5 : decode cX2_billOf 5 = .ok (.imul, 1) := by decide +kernel
theorem dX2_billOf_6 : decode cX2_billOf 6 = .ok (.istore 4, 2) := by decide +kernel
theorem dX2_billOf_8 : decode cX2_billOf 8 = .ok (.iload 4, 2) := by decide +kernel
theorem dX2_billOf_10 : decode cX2_billOf 10 = .ok (.bipush 30, 2) := by decide +kernel
theorem dX2_billOf_12 : decode cX2_billOf 12 = .ok (.iload_n 2, 1) := by decide +kernel
theorem dX2_billOf_13 : decode cX2_billOf 13 = .ok (.imul, 1) := by decide +kernel
theorem dX2_billOf_14 : decode cX2_billOf 14 = .ok (.bipush 30, 2) := by decide +kernel
theorem dX2_billOf_16 : decode cX2_billOf 16 = .ok (.iadd, 1) := by decide +kernel
theorem dX2_billOf_17 : decode cX2_billOf 17 = .ok (.if_icmp .ge 19, 3) := by decide +kernel
theorem dX2_billOf_20 : decode cX2_billOf 20 = .ok (.iload_n 3, 1) := by decide +kernel
theorem dX2_billOf_21 : decode cX2_billOf 21 = .ok (.aload_n 0, 1) := by decide +kernel
theorem dX2_billOf_22 : decode cX2_billOf 22 = .ok (.iload_n 1, 1) := by decide +kernel
theorem dX2_billOf_23 : decode cX2_billOf 23 = .ok (.iload 4, 2) := by decide +kernel
theorem dX2_billOf_25 : decode cX2_billOf 25 = .ok (.invokevirtual 92, 3) := by decide +kernel
theorem dX2_billOf_28 : decode cX2_billOf 28 = .ok (.iadd, 1) := by decide +kernel
theorem dX2_billOf_29 : decode cX2_billOf 29 = .ok (.istore_n 3, 1) := by decide +kernel
theorem dX2_billOf_30 : decode cX2_billOf 30 = .ok (.iinc 4 1, 3) := by decide +kernel
theorem dX2_billOf_33 : decode cX2_billOf 33 = .ok (.goto (-25), 3) := by decide +kernel
theorem dX2_billOf_36 : decode cX2_billOf 36 = .ok (.iload_n 3, 1) := by decide +kernel
theorem dX2_billOf_37 : decode cX2_billOf 37 = .ok (.bipush 30, 2) := by decide +kernel
theorem dX2_billOf_39 : decode cX2_billOf 39 = .ok (.idiv, 1) := by decide +kernel
theorem dX2_billOf_40 : decode cX2_billOf 40 = .ok (.ireturn, 1) := by decide +kernel
set_option maxRecDepth 20000 in
theorem ggX2_topUp_X2_isLease : GoodIn wsX2_topUp wsX2_isLease := goodIn_r _ [6, 7, 8, 9, 5, 10, 41, 42, 43, 44, 45, 46, 47, 48, 49, 50, 51, 52, 53, 54, 55, 56, 57] (by decide +kernel) (by decide +kernel)
set_option maxRecDepth 20000 in
theorem gX2_topUp_X2_isLease : GoodIn wsX2_topUp (wsV RX2 75 RX2 yX2_isLease wsX2_isLease) := goodIn_app (goodIn_of _ (by decide +kernel)) ggX2_topUp_X2_isLease
set_option maxRecDepth 20000 in
theorem ggX2_topUp_X2_isDayOf : GoodIn wsX2_topUp wsX2_isDayOf := goodIn_r _ [14, 15, 16, 41, 42, 43, 44, 45, 46, 47, 48, 49, 50, 51, 52, 53, 54, 55, 56, 57] (by decide +kernel) (by decide +kernel)
set_option maxRecDepth 20000 in
theorem gX2_topUp_X2_isDayOf : GoodIn wsX2_topUp (wsV RX2 82 RX2 yX2_isDayOf wsX2_isDayOf) := goodIn_app (goodIn_of _ (by decide +kernel)) ggX2_topUp_X2_isDayOf
set_option maxRecDepth 20000 in
theorem ggX2_topUp_X2_isIn : GoodIn wsX2_topUp wsX2_isIn := goodIn_r _ [10] (by decide +kernel) (by decide +kernel)
set_option maxRecDepth 20000 in
theorem gX2_topUp_X2_isIn : GoodIn wsX2_topUp (va_wsS RX2 62 yX2_isIn wsX2_isIn) := goodIn_app (goodIn_of _ (by decide +kernel)) ggX2_topUp_X2_isIn
set_option maxRecDepth 20000 in
theorem ggX2_topUp_X2_holds : GoodIn wsX2_topUp wsX2_holds := goodIn_r _ [20, 21, 41, 42, 43, 44, 45, 46, 47, 48, 49, 50, 51, 52, 53, 54, 55, 56, 57] (by decide +kernel) (by decide +kernel)
set_option maxRecDepth 20000 in
theorem gX2_topUp_X2_holds : GoodIn wsX2_topUp (wsV RX2 66 RX2 yX2_holds wsX2_holds) := goodIn_app (goodIn_of _ (by decide +kernel)) ggX2_topUp_X2_holds
set_option maxRecDepth 20000 in
theorem ggX2_topUp_X2_rentAt : GoodIn wsX2_topUp wsX2_rentAt := goodIn_r _ [25, 15, 26, 27, 11, 12, 13, 5, 14, 16, 28, 29, 30, 31, 32, 33, 34, 35, 36, 37, 38, 39, 40, 41, 42, 43, 44, 45, 46, 47, 48, 49, 50, 51, 52, 53, 54, 55, 56, 57] (by decide +kernel) (by decide +kernel)
set_option maxRecDepth 20000 in
theorem gX2_topUp_X2_rentAt : GoodIn wsX2_topUp (wsV RX2 92 RX2 yX2_rentAt wsX2_rentAt) := goodIn_app (goodIn_of _ (by decide +kernel)) ggX2_topUp_X2_rentAt
theorem dX2_topUp_0 : decode cX2_topUp 0 = .ok (.aload_n 0, 1) := by decide +kernel
theorem dX2_topUp_1 : decode cX2_topUp 1 = .ok (.iload_n 1, 1) := by decide +kernel
theorem dX2_topUp_2 : decode cX2_topUp 2 = .ok (.invokevirtual 75, 3) := by decide +kernel
theorem dX2_topUp_5 : decode cX2_topUp 5 = .ok (.istore 4, 2) := by decide +kernel
theorem dX2_topUp_7 : decode cX2_topUp 7 = .ok (.aload_n 0, 1) := by decide +kernel
theorem dX2_topUp_8 : decode cX2_topUp 8 = .ok (.iload 4, 2) := by decide +kernel
theorem dX2_topUp_10 : decode cX2_topUp 10 = .ok (.ifCond .ne 7, 3) := by decide +kernel
theorem dX2_topUp_13 : decode cX2_topUp 13 = .ok (.iconst 1, 1) := by decide +kernel
theorem dX2_topUp_14 : decode cX2_topUp 14 = .ok (.goto 27, 3) := by decide +kernel
theorem dX2_topUp_17 : decode cX2_topUp 17 = .ok (.aload_n 0, 1) := by decide +kernel
theorem dX2_topUp_18 : decode cX2_topUp 18 = .ok (.iload_n 1, 1) := by decide +kernel
theorem dX2_topUp_19 : decode cX2_topUp 19 = .ok (.iload_n 2, 1) := by decide +kernel
theorem dX2_topUp_20 : decode cX2_topUp 20 = .ok (.invokevirtual 82, 3) := by decide +kernel
theorem dX2_topUp_23 : decode cX2_topUp 23 = .ok (.ifCond .eq 17, 3) := by decide +kernel
theorem dX2_topUp_26 : decode cX2_topUp 26 = .ok (.iload_n 3, 1) := by decide +kernel
theorem dX2_topUp_27 : decode cX2_topUp 27 = .ok (.iconst 1, 1) := by decide +kernel
theorem dX2_topUp_28 : decode cX2_topUp 28 = .ok (.bipush 6, 2) := by decide +kernel
theorem dX2_topUp_30 : decode cX2_topUp 30 = .ok (.invokestatic 62, 3) := by decide +kernel
theorem dX2_topUp_33 : decode cX2_topUp 33 = .ok (.ifCond .eq 7, 3) := by decide +kernel
theorem dX2_topUp_36 : decode cX2_topUp 36 = .ok (.iconst 0, 1) := by decide +kernel
theorem dX2_topUp_37 : decode cX2_topUp 37 = .ok (.goto 4, 3) := by decide +kernel
theorem dX2_topUp_40 : decode cX2_topUp 40 = .ok (.iconst 2, 1) := by decide +kernel
theorem dX2_topUp_41 : decode cX2_topUp 41 = .ok (.invokevirtual 66, 3) := by decide +kernel
theorem dX2_topUp_44 : decode cX2_topUp 44 = .ok (.ifCond .ne 5, 3) := by decide +kernel
theorem dX2_topUp_47 : decode cX2_topUp 47 = .ok (.iconst 0, 1) := by decide +kernel
theorem dX2_topUp_48 : decode cX2_topUp 48 = .ok (.ireturn, 1) := by decide +kernel
theorem dX2_topUp_49 : decode cX2_topUp 49 = .ok (.iload_n 3, 1) := by decide +kernel
theorem dX2_topUp_50 : decode cX2_topUp 50 = .ok (.aload_n 0, 1) := by decide +kernel
theorem dX2_topUp_51 : decode cX2_topUp 51 = .ok (.iload_n 1, 1) := by decide +kernel
theorem dX2_topUp_52 : decode cX2_topUp 52 = .ok (.iload_n 2, 1) := by decide +kernel
theorem dX2_topUp_53 : decode cX2_topUp 53 = .ok (.invokevirtual 92, 3) := by decide +kernel
theorem dX2_topUp_56 : decode cX2_topUp 56 = .ok (.imul, 1) := by decide +kernel
theorem dX2_topUp_57 : decode cX2_topUp 57 = .ok (.aload_n 0, 1) := by decide +kernel
theorem dX2_topUp_58 : decode cX2_topUp 58 = .ok (.getfield 43, 3) := by decide +kernel
theorem dX2_topUp_61 : decode cX2_topUp 61 = .ok (.iload_n 1, 1) := by decide +kernel
theorem dX2_topUp_62 : decode cX2_topUp 62 = .ok (.iaload, 1) := by decide +kernel
theorem dX2_topUp_63 : decode cX2_topUp 63 = .ok (.isub, 1) := by decide +kernel
theorem dX2_topUp_64 : decode cX2_topUp 64 = .ok (.istore 5, 2) := by decide +kernel
theorem dX2_topUp_66 : decode cX2_topUp 66 = .ok (.aload_n 0, 1) := by decide +kernel
theorem dX2_topUp_67 : decode cX2_topUp 67 = .ok (.getfield 43, 3) := by decide +kernel
theorem dX2_topUp_70 : decode cX2_topUp 70 = .ok (.iload_n 1, 1) := by decide +kernel
theorem dX2_topUp_71 : decode cX2_topUp 71 = .ok (.dup2, 1) := by decide +kernel
theorem dX2_topUp_72 : decode cX2_topUp 72 = .ok (.iaload, 1) := by decide +kernel
theorem dX2_topUp_73 : decode cX2_topUp 73 = .ok (.iload 5, 2) := by decide +kernel
theorem dX2_topUp_75 : decode cX2_topUp 75 = .ok (.ifCond .le 8, 3) := by decide +kernel
theorem dX2_topUp_78 : decode cX2_topUp 78 = .ok (.iload 5, 2) := by decide +kernel
theorem dX2_topUp_80 : decode cX2_topUp 80 = .ok (.goto 4, 3) := by decide +kernel
theorem dX2_topUp_83 : decode cX2_topUp 83 = .ok (.iconst 0, 1) := by decide +kernel
theorem dX2_topUp_84 : decode cX2_topUp 84 = .ok (.iadd, 1) := by decide +kernel
theorem dX2_topUp_85 : decode cX2_topUp 85 = .ok (.iastore, 1) := by decide +kernel
theorem dX2_topUp_86 : decode cX2_topUp 86 = .ok (.iload 5, 2) := by decide +kernel
theorem dX2_topUp_88 : decode cX2_topUp 88 = .ok (.ifCond .le 8, 3) := by decide +kernel
theorem dX2_topUp_91 : decode cX2_topUp 91 = .ok (.iload 5, 2) := by decide +kernel
theorem dX2_topUp_93 : decode cX2_topUp 93 = .ok (.goto 4, 3) := by decide +kernel
theorem dX2_topUp_96 : decode cX2_topUp 96 = .ok (.iconst 0, 1) := by decide +kernel
theorem dX2_topUp_97 : decode cX2_topUp 97 = .ok (.ireturn, 1) := by decide +kernel
set_option maxRecDepth 20000 in
theorem ggX2_draw_X2_isLease : GoodIn wsX2_draw wsX2_isLease := goodIn_r _ [7, 8, 9, 10, 6, 11, 17, 18, 19, 20, 21, 22, 23, 24, 25, 26, 27, 28, 29, 30, 31, 32, 33] (by decide +kernel) (by decide +kernel)
set_option maxRecDepth 20000 in
theorem gX2_draw_X2_isLease : GoodIn wsX2_draw (wsV RX2 75 RX2 yX2_isLease wsX2_isLease) := goodIn_app (goodIn_of _ (by decide +kernel)) ggX2_draw_X2_isLease
set_option maxRecDepth 20000 in
theorem ggX2_draw_X2_isIn : GoodIn wsX2_draw wsX2_isIn := goodIn_r _ [11] (by decide +kernel) (by decide +kernel)
set_option maxRecDepth 20000 in
theorem gX2_draw_X2_isIn : GoodIn wsX2_draw (va_wsS RX2 62 yX2_isIn wsX2_isIn) := goodIn_app (goodIn_of _ (by decide +kernel)) ggX2_draw_X2_isIn
set_option maxRecDepth 20000 in
theorem ggX2_draw_X2_holds : GoodIn wsX2_draw wsX2_holds := goodIn_r _ [15, 16, 17, 18, 19, 20, 21, 22, 23, 24, 25, 26, 27, 28, 29, 30, 31, 32, 33] (by decide +kernel) (by decide +kernel)
set_option maxRecDepth 20000 in
theorem gX2_draw_X2_holds : GoodIn wsX2_draw (wsV RX2 66 RX2 yX2_holds wsX2_holds) := goodIn_app (goodIn_of _ (by decide +kernel)) ggX2_draw_X2_holds
theorem dX2_draw_0 : decode cX2_draw 0 = .ok (.aload_n 0, 1) := by decide +kernel
theorem dX2_draw_1 : decode cX2_draw 1 = .ok (.iload_n 1, 1) := by decide +kernel
theorem dX2_draw_2 : decode cX2_draw 2 = .ok (.invokevirtual 75, 3) := by decide +kernel
theorem dX2_draw_5 : decode cX2_draw 5 = .ok (.istore_n 3, 1) := by decide +kernel
theorem dX2_draw_6 : decode cX2_draw 6 = .ok (.aload_n 0, 1) := by decide +kernel
theorem dX2_draw_7 : decode cX2_draw 7 = .ok (.iload_n 3, 1) := by decide +kernel
theorem dX2_draw_8 : decode cX2_draw 8 = .ok (.ifCond .ne 7, 3) := by decide +kernel
theorem dX2_draw_11 : decode cX2_draw 11 = .ok (.iconst 1, 1) := by decide +kernel
theorem dX2_draw_12 : decode cX2_draw 12 = .ok (.goto 32, 3) := by decide +kernel
theorem dX2_draw_15 : decode cX2_draw 15 = .ok (.iload_n 2, 1) := by decide +kernel
theorem dX2_draw_16 : decode cX2_draw 16 = .ok (.iconst 1, 1) := by decide +kernel
theorem dX2_draw_17 : decode cX2_draw 17 = .ok (.ldc 70, 2) := by decide +kernel
theorem dX2_draw_19 : decode cX2_draw 19 = .ok (.invokestatic 62, 3) := by decide +kernel
theorem dX2_draw_22 : decode cX2_draw 22 = .ok (.ifCond .ne 7, 3) := by decide +kernel
theorem dX2_draw_25 : decode cX2_draw 25 = .ok (.iconst 2, 1) := by decide +kernel
theorem dX2_draw_26 : decode cX2_draw 26 = .ok (.goto 18, 3) := by decide +kernel
theorem dX2_draw_29 : decode cX2_draw 29 = .ok (.aload_n 0, 1) := by decide +kernel
theorem dX2_draw_30 : decode cX2_draw 30 = .ok (.getfield 43, 3) := by decide +kernel
theorem dX2_draw_33 : decode cX2_draw 33 = .ok (.iload_n 1, 1) := by decide +kernel
theorem dX2_draw_34 : decode cX2_draw 34 = .ok (.iaload, 1) := by decide +kernel
theorem dX2_draw_35 : decode cX2_draw 35 = .ok (.iload_n 2, 1) := by decide +kernel
theorem dX2_draw_36 : decode cX2_draw 36 = .ok (.if_icmp .ge 7, 3) := by decide +kernel
theorem dX2_draw_39 : decode cX2_draw 39 = .ok (.iconst 3, 1) := by decide +kernel
theorem dX2_draw_40 : decode cX2_draw 40 = .ok (.goto 4, 3) := by decide +kernel
theorem dX2_draw_43 : decode cX2_draw 43 = .ok (.iconst 0, 1) := by decide +kernel
theorem dX2_draw_44 : decode cX2_draw 44 = .ok (.invokevirtual 66, 3) := by decide +kernel
theorem dX2_draw_47 : decode cX2_draw 47 = .ok (.ifCond .ne 5, 3) := by decide +kernel
theorem dX2_draw_50 : decode cX2_draw 50 = .ok (.iconst 0, 1) := by decide +kernel
theorem dX2_draw_51 : decode cX2_draw 51 = .ok (.ireturn, 1) := by decide +kernel
theorem dX2_draw_52 : decode cX2_draw 52 = .ok (.aload_n 0, 1) := by decide +kernel
theorem dX2_draw_53 : decode cX2_draw 53 = .ok (.getfield 43, 3) := by decide +kernel
theorem dX2_draw_56 : decode cX2_draw 56 = .ok (.iload_n 1, 1) := by decide +kernel
theorem dX2_draw_57 : decode cX2_draw 57 = .ok (.dup2, 1) := by decide +kernel
theorem dX2_draw_58 : decode cX2_draw 58 = .ok (.iaload, 1) := by decide +kernel
theorem dX2_draw_59 : decode cX2_draw 59 = .ok (.iload_n 2, 1) := by decide +kernel
theorem dX2_draw_60 : decode cX2_draw 60 = .ok (.isub, 1) := by decide +kernel
theorem dX2_draw_61 : decode cX2_draw 61 = .ok (.iastore, 1) := by decide +kernel
theorem dX2_draw_62 : decode cX2_draw 62 = .ok (.aload_n 0, 1) := by decide +kernel
theorem dX2_draw_63 : decode cX2_draw 63 = .ok (.getfield 43, 3) := by decide +kernel
theorem dX2_draw_66 : decode cX2_draw 66 = .ok (.iload_n 1, 1) := by decide +kernel
theorem dX2_draw_67 : decode cX2_draw 67 = .ok (.iaload, 1) := by decide +kernel
theorem dX2_draw_68 : decode cX2_draw 68 = .ok (.ireturn, 1) := by decide +kernel
set_option maxRecDepth 20000 in
theorem ggX2_held_X2_isLease : GoodIn wsX2_held wsX2_isLease := goodIn_r _ [6, 7, 8, 9, 5, 10, 16, 17, 18, 19, 20, 21, 22, 23, 24, 25, 26, 27, 28, 29, 30, 31, 32] (by decide +kernel) (by decide +kernel)
set_option maxRecDepth 20000 in
theorem gX2_held_X2_isLease : GoodIn wsX2_held (wsV RX2 75 RX2 yX2_isLease wsX2_isLease) := goodIn_app (goodIn_of _ (by decide +kernel)) ggX2_held_X2_isLease
set_option maxRecDepth 20000 in
theorem ggX2_held_X2_holds : GoodIn wsX2_held wsX2_holds := goodIn_r _ [14, 15, 16, 17, 18, 19, 20, 21, 22, 23, 24, 25, 26, 27, 28, 29, 30, 31, 32] (by decide +kernel) (by decide +kernel)
set_option maxRecDepth 20000 in
theorem gX2_held_X2_holds : GoodIn wsX2_held (wsV RX2 66 RX2 yX2_holds wsX2_holds) := goodIn_app (goodIn_of _ (by decide +kernel)) ggX2_held_X2_holds
theorem dX2_held_0 : decode cX2_held 0 = .ok (.aload_n 0, 1) := by decide +kernel
theorem dX2_held_1 : decode cX2_held 1 = .ok (.aload_n 0, 1) := by decide +kernel
theorem dX2_held_2 : decode cX2_held 2 = .ok (.iload_n 1, 1) := by decide +kernel
theorem dX2_held_3 : decode cX2_held 3 = .ok (.invokevirtual 75, 3) := by decide +kernel
theorem dX2_held_6 : decode cX2_held 6 = .ok (.ifCond .eq 7, 3) := by decide +kernel
theorem dX2_held_9 : decode cX2_held 9 = .ok (.iconst 0, 1) := by decide +kernel
theorem dX2_held_10 : decode cX2_held 10 = .ok (.goto 4, 3) := by decide +kernel
theorem dX2_held_13 : decode cX2_held 13 = .ok (.iconst 1, 1) := by decide +kernel
theorem dX2_held_14 : decode cX2_held 14 = .ok (.invokevirtual 66, 3) := by decide +kernel
theorem dX2_held_17 : decode cX2_held 17 = .ok (.ifCond .eq 12, 3) := by decide +kernel
theorem dX2_held_20 : decode cX2_held 20 = .ok (.aload_n 0, 1) := by decide +kernel
theorem dX2_held_21 : decode cX2_held 21 = .ok (.getfield 43, 3) := by decide +kernel
theorem dX2_held_24 : decode cX2_held 24 = .ok (.iload_n 1, 1) := by decide +kernel
theorem dX2_held_25 : decode cX2_held 25 = .ok (.iaload, 1) := by decide +kernel
theorem dX2_held_26 : decode cX2_held 26 = .ok (.goto 4, 3) := by decide +kernel
theorem dX2_held_29 : decode cX2_held 29 = .ok (.iconst 0, 1) := by decide +kernel
theorem dX2_held_30 : decode cX2_held 30 = .ok (.ireturn, 1) := by decide +kernel
theorem dX2_leases_0 : decode cX2_leases 0 = .ok (.aload_n 0, 1) := by decide +kernel
theorem dX2_leases_1 : decode cX2_leases 1 = .ok (.iconst 0, 1) := by decide +kernel
theorem dX2_leases_2 : decode cX2_leases 2 = .ok (.putfield 55, 3) := by decide +kernel
theorem dX2_leases_5 : decode cX2_leases 5 = .ok (.aload_n 0, 1) := by decide +kernel
theorem dX2_leases_6 : decode cX2_leases 6 = .ok (.getfield 59, 3) := by decide +kernel
theorem dX2_leases_9 : decode cX2_leases 9 = .ok (.ireturn, 1) := by decide +kernel
set_option maxRecDepth 20000 in
theorem ggX2_leaseOn_X2_isIn : GoodIn wsX2_leaseOn wsX2_isIn := goodIn_r _ [6] (by decide +kernel) (by decide +kernel)
set_option maxRecDepth 20000 in
theorem gX2_leaseOn_X2_isIn : GoodIn wsX2_leaseOn (va_wsS RX2 62 yX2_isIn wsX2_isIn) := goodIn_app (goodIn_of _ (by decide +kernel)) ggX2_leaseOn_X2_isIn
set_option maxRecDepth 20000 in
theorem ggX2_leaseOn_X2_holds : GoodIn wsX2_leaseOn wsX2_holds := goodIn_r _ [10, 11, 18, 19, 20, 21, 22, 23, 24, 25, 26, 27, 28, 29, 30, 31, 32, 33, 34] (by decide +kernel) (by decide +kernel)
set_option maxRecDepth 20000 in
theorem gX2_leaseOn_X2_holds : GoodIn wsX2_leaseOn (wsV RX2 66 RX2 yX2_holds wsX2_holds) := goodIn_app (goodIn_of _ (by decide +kernel)) ggX2_leaseOn_X2_holds
set_option maxRecDepth 20000 in
theorem ggX2_leaseOn_X2_isDayOf : GoodIn wsX2_leaseOn wsX2_isDayOf := goodIn_r _ [15, 16, 17, 18, 19, 20, 21, 22, 23, 24, 25, 26, 27, 28, 29, 30, 31, 32, 33, 34] (by decide +kernel) (by decide +kernel)
set_option maxRecDepth 20000 in
theorem gX2_leaseOn_X2_isDayOf : GoodIn wsX2_leaseOn (wsV RX2 82 RX2 yX2_isDayOf wsX2_isDayOf) := goodIn_app (goodIn_of _ (by decide +kernel)) ggX2_leaseOn_X2_isDayOf
theorem dX2_leaseOn_0 : decode cX2_leaseOn 0 = .ok (.aload_n 0, 1) := by decide +kernel
theorem dX2_leaseOn_1 : decode cX2_leaseOn 1 = .ok (.iload_n 1, 1) := by decide +kernel
theorem dX2_leaseOn_2 : decode cX2_leaseOn 2 = .ok (.iconst 0, 1) := by decide +kernel
theorem dX2_leaseOn_3 : decode cX2_leaseOn 3 = .ok (.iconst 5, 1) := by decide +kernel
theorem dX2_leaseOn_4 : decode cX2_leaseOn 4 = .ok (.invokestatic 62, 3) := by decide +kernel
theorem dX2_leaseOn_7 : decode cX2_leaseOn 7 = .ok (.ifCond .eq 18, 3) := by decide +kernel
theorem dX2_leaseOn_10 : decode cX2_leaseOn 10 = .ok (.iload_n 2, 1) := by decide +kernel
theorem dX2_leaseOn_11 : decode cX2_leaseOn 11 = .ok (.iconst 0, 1) := by decide +kernel
theorem dX2_leaseOn_12 : decode cX2_leaseOn 12 = .ok (.sipush 7199, 3) := by decide +kernel
theorem dX2_leaseOn_15 : decode cX2_leaseOn 15 = .ok (.invokestatic 62, 3) := by decide +kernel
theorem dX2_leaseOn_18 : decode cX2_leaseOn 18 = .ok (.ifCond .eq 7, 3) := by decide +kernel
theorem dX2_leaseOn_21 : decode cX2_leaseOn 21 = .ok (.iconst 0, 1) := by decide +kernel
theorem dX2_leaseOn_22 : decode cX2_leaseOn 22 = .ok (.goto 4, 3) := by decide +kernel
theorem dX2_leaseOn_25 : decode cX2_leaseOn 25 = .ok (.iconst 1, 1) := by decide +kernel
theorem dX2_leaseOn_26 : decode cX2_leaseOn 26 = .ok (.invokevirtual 66, 3) := by decide +kernel
theorem dX2_leaseOn_29 : decode cX2_leaseOn 29 = .ok (.ifCond .ne 5, 3) := by decide +kernel
theorem dX2_leaseOn_32 : decode cX2_leaseOn 32 = .ok (.iconst 0, 1) := by decide +kernel
theorem dX2_leaseOn_33 : decode cX2_leaseOn 33 = .ok (.ireturn, 1) := by decide +kernel
theorem dX2_leaseOn_34 : decode cX2_leaseOn 34 = .ok (.iconst (-1), 1) := by decide +kernel
theorem dX2_leaseOn_35 : decode cX2_leaseOn 35 = .ok (.istore_n 3, 1) := by decide +kernel
theorem dX2_leaseOn_36 : decode cX2_leaseOn 36 = .ok (.iconst 0, 1) := by decide +kernel
theorem dX2_leaseOn_37 : decode cX2_leaseOn 37 = .ok (.istore 4, 2) := by decide +kernel
theorem dX2_leaseOn_39 : decode cX2_leaseOn 39 = .ok (.iload 4, 2) := by decide +kernel
theorem dX2_leaseOn_41 : decode cX2_leaseOn 41 = .ok (.aload_n 0, 1) := by decide +kernel
theorem dX2_leaseOn_42 : decode cX2_leaseOn 42 = .ok (.getfield 59, 3) := by decide +kernel
theorem dX2_leaseOn_45 : decode cX2_leaseOn 45 = .ok (.if_icmp .ge 37, 3) := by decide +kernel
theorem dX2_leaseOn_48 : decode cX2_leaseOn 48 = .ok (.aload_n 0, 1) := by decide +kernel
theorem dX2_leaseOn_49 : decode cX2_leaseOn 49 = .ok (.getfield 19, 3) := by decide +kernel
theorem dX2_leaseOn_52 : decode cX2_leaseOn 52 = .ok (.iload 4, 2) := by decide +kernel
theorem dX2_leaseOn_54 : decode cX2_leaseOn 54 = .ok (.iaload, 1) := by decide +kernel
theorem dX2_leaseOn_55 : decode cX2_leaseOn 55 = .ok (.iload_n 1, 1) := by decide +kernel
theorem dX2_leaseOn_56 : decode cX2_leaseOn 56 = .ok (.if_icmp .ne 18, 3) := by decide +kernel
theorem dX2_leaseOn_59 : decode cX2_leaseOn 59 = .ok (.aload_n 0, 1) := by decide +kernel
theorem dX2_leaseOn_60 : decode cX2_leaseOn 60 = .ok (.iload 4, 2) := by decide +kernel
theorem dX2_leaseOn_62 : decode cX2_leaseOn 62 = .ok (.iload_n 2, 1) := by decide +kernel
theorem dX2_leaseOn_63 : decode cX2_leaseOn 63 = .ok (.invokevirtual 82, 3) := by decide +kernel
theorem dX2_leaseOn_66 : decode cX2_leaseOn 66 = .ok (.ifCond .eq 8, 3) := by decide +kernel
theorem dX2_leaseOn_69 : decode cX2_leaseOn 69 = .ok (.iload 4, 2) := by decide +kernel
theorem dX2_leaseOn_71 : decode cX2_leaseOn 71 = .ok (.goto 4, 3) := by decide +kernel
theorem dX2_leaseOn_74 : decode cX2_leaseOn 74 = .ok (.iload_n 3, 1) := by decide +kernel
theorem dX2_leaseOn_75 : decode cX2_leaseOn 75 = .ok (.istore_n 3, 1) := by decide +kernel
theorem dX2_leaseOn_76 : decode cX2_leaseOn 76 = .ok (.iinc 4 1, 3) := by decide +kernel
theorem dX2_leaseOn_79 : decode cX2_leaseOn 79 = .ok (.goto (-40), 3) := by decide +kernel
theorem dX2_leaseOn_82 : decode cX2_leaseOn 82 = .ok (.iload_n 3, 1) := by decide +kernel
theorem dX2_leaseOn_83 : decode cX2_leaseOn 83 = .ok (.ireturn, 1) := by decide +kernel
set_option maxRecDepth 20000 in
theorem ggX2_rentOn_X2_isLease : GoodIn wsX2_rentOn wsX2_isLease := goodIn_r _ [5, 6, 7, 8, 4, 9, 40, 41, 42, 43, 44, 45, 46, 47, 48, 49, 50, 51, 52, 53, 54, 55, 56] (by decide +kernel) (by decide +kernel)
set_option maxRecDepth 20000 in
theorem gX2_rentOn_X2_isLease : GoodIn wsX2_rentOn (wsV RX2 75 RX2 yX2_isLease wsX2_isLease) := goodIn_app (goodIn_of _ (by decide +kernel)) ggX2_rentOn_X2_isLease
set_option maxRecDepth 20000 in
theorem ggX2_rentOn_X2_isIn : GoodIn wsX2_rentOn wsX2_isIn := goodIn_r _ [9] (by decide +kernel) (by decide +kernel)
set_option maxRecDepth 20000 in
theorem gX2_rentOn_X2_isIn : GoodIn wsX2_rentOn (va_wsS RX2 62 yX2_isIn wsX2_isIn) := goodIn_app (goodIn_of _ (by decide +kernel)) ggX2_rentOn_X2_isIn
set_option maxRecDepth 20000 in
theorem ggX2_rentOn_X2_holds : GoodIn wsX2_rentOn wsX2_holds := goodIn_r _ [13, 14, 40, 41, 42, 43, 44, 45, 46, 47, 48, 49, 50, 51, 52, 53, 54, 55, 56] (by decide +kernel) (by decide +kernel)
set_option maxRecDepth 20000 in
theorem gX2_rentOn_X2_holds : GoodIn wsX2_rentOn (wsV RX2 66 RX2 yX2_holds wsX2_holds) := goodIn_app (goodIn_of _ (by decide +kernel)) ggX2_rentOn_X2_holds
set_option maxRecDepth 20000 in
theorem ggX2_rentOn_X2_rentAt : GoodIn wsX2_rentOn wsX2_rentAt := goodIn_r _ [18, 19, 20, 21, 22, 23, 24, 4, 25, 26, 27, 28, 29, 30, 31, 32, 33, 34, 35, 36, 37, 38, 39, 40, 41, 42, 43, 44, 45, 46, 47, 48, 49, 50, 51, 52, 53, 54, 55, 56] (by decide +kernel) (by decide +kernel)
set_option maxRecDepth 20000 in
theorem gX2_rentOn_X2_rentAt : GoodIn wsX2_rentOn (wsV RX2 92 RX2 yX2_rentAt wsX2_rentAt) := goodIn_app (goodIn_of _ (by decide +kernel)) ggX2_rentOn_X2_rentAt
theorem dX2_rentOn_0 : decode cX2_rentOn 0 = .ok (.aload_n 0, 1) := by decide +kernel
theorem dX2_rentOn_1 : decode cX2_rentOn 1 = .ok (.aload_n 0, 1) := by decide +kernel
theorem dX2_rentOn_2 : decode cX2_rentOn 2 = .ok (.iload_n 1, 1) := by decide +kernel
theorem dX2_rentOn_3 : decode cX2_rentOn 3 = .ok (.invokevirtual 75, 3) := by decide +kernel
theorem dX2_rentOn_6 : decode cX2_rentOn 6 = .ok (.ifCond .eq 18, 3) := by decide +kernel
theorem dX2_rentOn_9 : decode cX2_rentOn 9 = .ok (.iload_n 2, 1) := by decide +kernel
theorem dX2_rentOn_10 : decode cX2_rentOn 10 = .ok (.iconst 0, 1) := by decide +kernel
theorem dX2_rentOn_11 : decode cX2_rentOn 11 = .ok (.sipush 7199, 3) := by decide +kernel
theorem dX2_rentOn_14 : decode cX2_rentOn 14 = .ok (.invokestatic 62, 3) := by decide +kernel
theorem dX2_rentOn_17 : decode cX2_rentOn 17 = .ok (.ifCond .eq 7, 3) := by decide +kernel
theorem dX2_rentOn_20 : decode cX2_rentOn 20 = .ok (.iconst 0, 1) := by decide +kernel
theorem dX2_rentOn_21 : decode cX2_rentOn 21 = .ok (.goto 4, 3) := by decide +kernel
theorem dX2_rentOn_24 : decode cX2_rentOn 24 = .ok (.iconst 1, 1) := by decide +kernel
theorem dX2_rentOn_25 : decode cX2_rentOn 25 = .ok (.invokevirtual 66, 3) := by decide +kernel
theorem dX2_rentOn_28 : decode cX2_rentOn 28 = .ok (.ifCond .eq 12, 3) := by decide +kernel
theorem dX2_rentOn_31 : decode cX2_rentOn 31 = .ok (.aload_n 0, 1) := by decide +kernel
theorem dX2_rentOn_32 : decode cX2_rentOn 32 = .ok (.iload_n 1, 1) := by decide +kernel
theorem dX2_rentOn_33 : decode cX2_rentOn 33 = .ok (.iload_n 2, 1) := by decide +kernel
theorem dX2_rentOn_34 : decode cX2_rentOn 34 = .ok (.invokevirtual 92, 3) := by decide +kernel
theorem dX2_rentOn_37 : decode cX2_rentOn 37 = .ok (.goto 4, 3) := by decide +kernel
theorem dX2_rentOn_40 : decode cX2_rentOn 40 = .ok (.iconst 0, 1) := by decide +kernel
theorem dX2_rentOn_41 : decode cX2_rentOn 41 = .ok (.ireturn, 1) := by decide +kernel
set_option maxRecDepth 20000 in
theorem ggX2_bill_X2_isLease : GoodIn wsX2_bill wsX2_isLease := goodIn_r _ [5, 6, 7, 8, 4, 9, 44, 45, 46, 47, 48, 49, 50, 51, 52, 53, 54, 55, 56, 57, 58, 59, 60] (by decide +kernel) (by decide +kernel)
set_option maxRecDepth 20000 in
theorem gX2_bill_X2_isLease : GoodIn wsX2_bill (wsV RX2 75 RX2 yX2_isLease wsX2_isLease) := goodIn_app (goodIn_of _ (by decide +kernel)) ggX2_bill_X2_isLease
set_option maxRecDepth 20000 in
theorem ggX2_bill_X2_isIn : GoodIn wsX2_bill wsX2_isIn := goodIn_r _ [9] (by decide +kernel) (by decide +kernel)
set_option maxRecDepth 20000 in
theorem gX2_bill_X2_isIn : GoodIn wsX2_bill (va_wsS RX2 62 yX2_isIn wsX2_isIn) := goodIn_app (goodIn_of _ (by decide +kernel)) ggX2_bill_X2_isIn
set_option maxRecDepth 20000 in
theorem ggX2_bill_X2_holds : GoodIn wsX2_bill wsX2_holds := goodIn_r _ [13, 14, 44, 45, 46, 47, 48, 49, 50, 51, 52, 53, 54, 55, 56, 57, 58, 59, 60] (by decide +kernel) (by decide +kernel)
set_option maxRecDepth 20000 in
theorem gX2_bill_X2_holds : GoodIn wsX2_bill (wsV RX2 66 RX2 yX2_holds wsX2_holds) := goodIn_app (goodIn_of _ (by decide +kernel)) ggX2_bill_X2_holds
set_option maxRecDepth 20000 in
theorem ggX2_bill_X2_billOf : GoodIn wsX2_bill wsX2_billOf := goodIn_r _ [18, 19, 20, 21, 4, 22, 23, 24, 25, 26, 27, 28, 29, 30, 31, 32, 33, 34, 35, 36, 37, 38, 39, 40, 41, 42, 43, 44, 45, 46, 47, 48, 49, 50, 51, 52, 53, 54, 55, 56, 57, 58, 59, 60] (by decide +kernel) (by decide +kernel)
set_option maxRecDepth 20000 in
theorem gX2_bill_X2_billOf : GoodIn wsX2_bill (wsV RX2 95 RX2 yX2_billOf wsX2_billOf) := goodIn_app (goodIn_of _ (by decide +kernel)) ggX2_bill_X2_billOf
theorem dX2_bill_0 : decode cX2_bill 0 = .ok (.aload_n 0, 1) := by decide +kernel
theorem dX2_bill_1 : decode cX2_bill 1 = .ok (.aload_n 0, 1) := by decide +kernel
theorem dX2_bill_2 : decode cX2_bill 2 = .ok (.iload_n 1, 1) := by decide +kernel
theorem dX2_bill_3 : decode cX2_bill 3 = .ok (.invokevirtual 75, 3) := by decide +kernel
theorem dX2_bill_6 : decode cX2_bill 6 = .ok (.ifCond .eq 18, 3) := by decide +kernel
theorem dX2_bill_9 : decode cX2_bill 9 = .ok (.iload_n 2, 1) := by decide +kernel
theorem dX2_bill_10 : decode cX2_bill 10 = .ok (.iconst 0, 1) := by decide +kernel
theorem dX2_bill_11 : decode cX2_bill 11 = .ok (.sipush 239, 3) := by decide +kernel
theorem dX2_bill_14 : decode cX2_bill 14 = .ok (.invokestatic 62, 3) := by decide +kernel
theorem dX2_bill_17 : decode cX2_bill 17 = .ok (.ifCond .eq 7, 3) := by decide +kernel
theorem dX2_bill_20 : decode cX2_bill 20 = .ok (.iconst 0, 1) := by decide +kernel
theorem dX2_bill_21 : decode cX2_bill 21 = .ok (.goto 4, 3) := by decide +kernel
theorem dX2_bill_24 : decode cX2_bill 24 = .ok (.iconst 1, 1) := by decide +kernel
theorem dX2_bill_25 : decode cX2_bill 25 = .ok (.invokevirtual 66, 3) := by decide +kernel
theorem dX2_bill_28 : decode cX2_bill 28 = .ok (.ifCond .eq 12, 3) := by decide +kernel
theorem dX2_bill_31 : decode cX2_bill 31 = .ok (.aload_n 0, 1) := by decide +kernel
theorem dX2_bill_32 : decode cX2_bill 32 = .ok (.iload_n 1, 1) := by decide +kernel
theorem dX2_bill_33 : decode cX2_bill 33 = .ok (.iload_n 2, 1) := by decide +kernel
theorem dX2_bill_34 : decode cX2_bill 34 = .ok (.invokevirtual 95, 3) := by decide +kernel
theorem dX2_bill_37 : decode cX2_bill 37 = .ok (.goto 4, 3) := by decide +kernel
theorem dX2_bill_40 : decode cX2_bill 40 = .ok (.iconst 0, 1) := by decide +kernel
theorem dX2_bill_41 : decode cX2_bill 41 = .ok (.ireturn, 1) := by decide +kernel
set_option maxRecDepth 20000 in
theorem ggX2_billByDays_X2_isLease : GoodIn wsX2_billByDays wsX2_isLease := goodIn_r _ [5, 6, 7, 8, 4, 9, 44, 45, 46, 47, 48, 49, 50, 51, 52, 53, 54, 55, 56, 57, 58, 59, 60] (by decide +kernel) (by decide +kernel)
set_option maxRecDepth 20000 in
theorem gX2_billByDays_X2_isLease : GoodIn wsX2_billByDays (wsV RX2 75 RX2 yX2_isLease wsX2_isLease) := goodIn_app (goodIn_of _ (by decide +kernel)) ggX2_billByDays_X2_isLease
set_option maxRecDepth 20000 in
theorem ggX2_billByDays_X2_isIn : GoodIn wsX2_billByDays wsX2_isIn := goodIn_r _ [9] (by decide +kernel) (by decide +kernel)
set_option maxRecDepth 20000 in
theorem gX2_billByDays_X2_isIn : GoodIn wsX2_billByDays (va_wsS RX2 62 yX2_isIn wsX2_isIn) := goodIn_app (goodIn_of _ (by decide +kernel)) ggX2_billByDays_X2_isIn
set_option maxRecDepth 20000 in
theorem ggX2_billByDays_X2_holds : GoodIn wsX2_billByDays wsX2_holds := goodIn_r _ [13, 14, 44, 45, 46, 47, 48, 49, 50, 51, 52, 53, 54, 55, 56, 57, 58, 59, 60] (by decide +kernel) (by decide +kernel)
set_option maxRecDepth 20000 in
theorem gX2_billByDays_X2_holds : GoodIn wsX2_billByDays (wsV RX2 66 RX2 yX2_holds wsX2_holds) := goodIn_app (goodIn_of _ (by decide +kernel)) ggX2_billByDays_X2_holds
set_option maxRecDepth 20000 in
theorem ggX2_billByDays_X2_billOf : GoodIn wsX2_billByDays wsX2_billOf := goodIn_r _ [18, 19, 20, 21, 4, 22, 23, 24, 25, 26, 27, 28, 29, 30, 31, 32, 33, 34, 35, 36, 37, 38, 39, 40, 41, 42, 43, 44, 45, 46, 47, 48, 49, 50, 51, 52, 53, 54, 55, 56, 57, 58, 59, 60] (by decide +kernel) (by decide +kernel)
set_option maxRecDepth 20000 in
theorem gX2_billByDays_X2_billOf : GoodIn wsX2_billByDays (wsV RX2 95 RX2 yX2_billOf wsX2_billOf) := goodIn_app (goodIn_of _ (by decide +kernel)) ggX2_billByDays_X2_billOf
theorem dX2_billByDays_0 : decode cX2_billByDays 0 = .ok (.aload_n 0, 1) := by decide +kernel
theorem dX2_billByDays_1 : decode cX2_billByDays 1 = .ok (.aload_n 0, 1) := by decide +kernel
theorem dX2_billByDays_2 : decode cX2_billByDays 2 = .ok (.iload_n 1, 1) := by decide +kernel
theorem dX2_billByDays_3 : decode cX2_billByDays 3 = .ok (.invokevirtual 75, 3) := by decide +kernel
theorem dX2_billByDays_6 : decode cX2_billByDays 6 = .ok (.ifCond .eq 18, 3) := by decide +kernel
theorem dX2_billByDays_9 : decode cX2_billByDays 9 = .ok (.iload_n 2, 1) := by decide +kernel
theorem dX2_billByDays_10 : decode cX2_billByDays 10 = .ok (.iconst 0, 1) := by decide +kernel
theorem dX2_billByDays_11 : decode cX2_billByDays 11 = .ok (.sipush 239, 3) := by decide +kernel
theorem dX2_billByDays_14 : decode cX2_billByDays 14 = .ok (.invokestatic 62, 3) := by decide +kernel
theorem dX2_billByDays_17 : decode cX2_billByDays 17 = .ok (.ifCond .eq 7, 3) := by decide +kernel
theorem dX2_billByDays_20 : decode cX2_billByDays 20 = .ok (.iconst 0, 1) := by decide +kernel
theorem dX2_billByDays_21 : decode cX2_billByDays 21 = .ok (.goto 4, 3) := by decide +kernel
theorem dX2_billByDays_24 : decode cX2_billByDays 24 = .ok (.iconst 1, 1) := by decide +kernel
theorem dX2_billByDays_25 : decode cX2_billByDays 25 = .ok (.invokevirtual 66, 3) := by decide +kernel
theorem dX2_billByDays_28 : decode cX2_billByDays 28 = .ok (.ifCond .eq 12, 3) := by decide +kernel
theorem dX2_billByDays_31 : decode cX2_billByDays 31 = .ok (.aload_n 0, 1) := by decide +kernel
theorem dX2_billByDays_32 : decode cX2_billByDays 32 = .ok (.iload_n 1, 1) := by decide +kernel
theorem dX2_billByDays_33 : decode cX2_billByDays 33 = .ok (.iload_n 2, 1) := by decide +kernel
theorem dX2_billByDays_34 : decode cX2_billByDays 34 = .ok (.invokevirtual 95, 3) := by decide +kernel
theorem dX2_billByDays_37 : decode cX2_billByDays 37 = .ok (.goto 4, 3) := by decide +kernel
theorem dX2_billByDays_40 : decode cX2_billByDays 40 = .ok (.iconst 0, 1) := by decide +kernel
theorem dX2_billByDays_41 : decode cX2_billByDays 41 = .ok (.ireturn, 1) := by decide +kernel
set_option maxRecDepth 20000 in
theorem ggX2_bills_X2_isLease : GoodIn wsX2_bills wsX2_isLease := goodIn_r _ [5, 6, 7, 8, 4, 9, 44, 45, 46, 47, 48, 49, 50, 51, 52, 53, 54, 55, 56, 57, 58, 59, 60] (by decide +kernel) (by decide +kernel)
set_option maxRecDepth 20000 in
theorem gX2_bills_X2_isLease : GoodIn wsX2_bills (wsV RX2 75 RX2 yX2_isLease wsX2_isLease) := goodIn_app (goodIn_of _ (by decide +kernel)) ggX2_bills_X2_isLease
set_option maxRecDepth 20000 in
theorem ggX2_bills_X2_isIn : GoodIn wsX2_bills wsX2_isIn := goodIn_r _ [9] (by decide +kernel) (by decide +kernel)
set_option maxRecDepth 20000 in
theorem gX2_bills_X2_isIn : GoodIn wsX2_bills (va_wsS RX2 62 yX2_isIn wsX2_isIn) := goodIn_app (goodIn_of _ (by decide +kernel)) ggX2_bills_X2_isIn
set_option maxRecDepth 20000 in
theorem ggX2_bills_X2_holds : GoodIn wsX2_bills wsX2_holds := goodIn_r _ [13, 14, 44, 45, 46, 47, 48, 49, 50, 51, 52, 53, 54, 55, 56, 57, 58, 59, 60] (by decide +kernel) (by decide +kernel)
set_option maxRecDepth 20000 in
theorem gX2_bills_X2_holds : GoodIn wsX2_bills (wsV RX2 66 RX2 yX2_holds wsX2_holds) := goodIn_app (goodIn_of _ (by decide +kernel)) ggX2_bills_X2_holds
set_option maxRecDepth 20000 in
theorem ggX2_bills_X2_billOf : GoodIn wsX2_bills wsX2_billOf := goodIn_r _ [18, 19, 20, 21, 4, 22, 23, 24, 25, 26, 27, 28, 29, 30, 31, 32, 33, 34, 35, 36, 37, 38, 39, 40, 41, 42, 43, 44, 45, 46, 47, 48, 49, 50, 51, 52, 53, 54, 55, 56, 57, 58, 59, 60] (by decide +kernel) (by decide +kernel)
set_option maxRecDepth 20000 in
theorem gX2_bills_X2_billOf : GoodIn wsX2_bills (wsV RX2 95 RX2 yX2_billOf wsX2_billOf) := goodIn_app (goodIn_of _ (by decide +kernel)) ggX2_bills_X2_billOf
theorem dX2_bills_0 : decode cX2_bills 0 = .ok (.aload_n 0, 1) := by decide +kernel
theorem dX2_bills_1 : decode cX2_bills 1 = .ok (.iload_n 1, 1) := by decide +kernel
theorem dX2_bills_2 : decode cX2_bills 2 = .ok (.invokevirtual 75, 3) := by decide +kernel
theorem dX2_bills_5 : decode cX2_bills 5 = .ok (.ifCond .eq 29, 3) := by decide +kernel
theorem dX2_bills_8 : decode cX2_bills 8 = .ok (.iload_n 2, 1) := by decide +kernel
theorem dX2_bills_9 : decode cX2_bills 9 = .ok (.iconst 0, 1) := by decide +kernel
theorem dX2_bills_10 : decode cX2_bills 10 = .ok (.sipush 239, 3) := by decide +kernel
theorem dX2_bills_13 : decode cX2_bills 13 = .ok (.invokestatic 62, 3) := by decide +kernel
theorem dX2_bills_16 : decode cX2_bills 16 = .ok (.ifCond .eq 18, 3) := by decide +kernel
theorem dX2_bills_19 : decode cX2_bills 19 = .ok (.iload_n 3, 1) := by decide +kernel
theorem dX2_bills_20 : decode cX2_bills 20 = .ok (.iconst 0, 1) := by decide +kernel
theorem dX2_bills_21 : decode cX2_bills 21 = .ok (.sipush 239, 3) := by decide +kernel
theorem dX2_bills_24 : decode cX2_bills 24 = .ok (.invokestatic 62, 3) := by decide +kernel
theorem dX2_bills_27 : decode cX2_bills 27 = .ok (.ifCond .eq 7, 3) := by decide +kernel
theorem dX2_bills_30 : decode cX2_bills 30 = .ok (.iconst 1, 1) := by decide +kernel
theorem dX2_bills_31 : decode cX2_bills 31 = .ok (.goto 4, 3) := by decide +kernel
theorem dX2_bills_34 : decode cX2_bills 34 = .ok (.iconst 0, 1) := by decide +kernel
theorem dX2_bills_35 : decode cX2_bills 35 = .ok (.istore 4, 2) := by decide +kernel
theorem dX2_bills_37 : decode cX2_bills 37 = .ok (.aload_n 0, 1) := by decide +kernel
theorem dX2_bills_38 : decode cX2_bills 38 = .ok (.iload 4, 2) := by decide +kernel
theorem dX2_bills_40 : decode cX2_bills 40 = .ok (.ifCond .ne 7, 3) := by decide +kernel
theorem dX2_bills_43 : decode cX2_bills 43 = .ok (.iconst 1, 1) := by decide +kernel
theorem dX2_bills_44 : decode cX2_bills 44 = .ok (.goto 13, 3) := by decide +kernel
theorem dX2_bills_47 : decode cX2_bills 47 = .ok (.iload_n 3, 1) := by decide +kernel
theorem dX2_bills_48 : decode cX2_bills 48 = .ok (.iload_n 2, 1) := by decide +kernel
theorem dX2_bills_49 : decode cX2_bills 49 = .ok (.if_icmp .ge 7, 3) := by decide +kernel
theorem dX2_bills_52 : decode cX2_bills 52 = .ok (.iconst 2, 1) := by decide +kernel
theorem dX2_bills_53 : decode cX2_bills 53 = .ok (.goto 4, 3) := by decide +kernel
theorem dX2_bills_56 : decode cX2_bills 56 = .ok (.iconst 0, 1) := by decide +kernel
theorem dX2_bills_57 : decode cX2_bills 57 = .ok (.invokevirtual 66, 3) := by decide +kernel
theorem dX2_bills_60 : decode cX2_bills 60 = .ok (.ifCond .ne 5, 3) := by decide +kernel
theorem dX2_bills_63 : decode cX2_bills 63 = .ok (.lconst 0, 1) := by decide +kernel
theorem dX2_bills_64 : decode cX2_bills 64 = .ok (.lreturn, 1) := by decide +kernel
theorem dX2_bills_65 : decode cX2_bills 65 = .ok (.lconst 0, 1) := by decide +kernel
theorem dX2_bills_66 : decode cX2_bills 66 = .ok (.lstore 5, 2) := by decide +kernel
theorem dX2_bills_68 : decode cX2_bills 68 = .ok (.iload_n 2, 1) := by decide +kernel
theorem dX2_bills_69 : decode cX2_bills 69 = .ok (.istore 7, 2) := by decide +kernel
theorem dX2_bills_71 : decode cX2_bills 71 = .ok (.iload 7, 2) := by decide +kernel
theorem dX2_bills_73 : decode cX2_bills 73 = .ok (.iload_n 3, 1) := by decide +kernel
theorem dX2_bills_74 : decode cX2_bills 74 = .ok (.if_icmp .gt 22, 3) := by decide +kernel
theorem dX2_bills_77 : decode cX2_bills 77 = .ok (.lload 5, 2) := by decide +kernel
theorem dX2_bills_79 : decode cX2_bills 79 = .ok (.aload_n 0, 1) := by decide +kernel
theorem dX2_bills_80 : decode cX2_bills 80 = .ok (.iload_n 1, 1) := by decide +kernel
theorem dX2_bills_81 : decode cX2_bills 81 = .ok (.iload 7, 2) := by decide +kernel
theorem dX2_bills_83 : decode cX2_bills 83 = .ok (.invokevirtual 95, 3) := by decide +kernel
theorem dX2_bills_86 : decode cX2_bills 86 = .ok (.i2l, 1) := by decide +kernel
theorem dX2_bills_87 : decode cX2_bills 87 = .ok (.ladd, 1) := by decide +kernel
theorem dX2_bills_88 : decode cX2_bills 88 = .ok (.lstore 5, 2) := by decide +kernel
theorem dX2_bills_90 : decode cX2_bills 90 = .ok (.iinc 7 1, 3) := by decide +kernel
theorem dX2_bills_93 : decode cX2_bills 93 = .ok (.goto (-22), 3) := by decide +kernel
theorem dX2_bills_96 : decode cX2_bills 96 = .ok (.lload 5, 2) := by decide +kernel
theorem dX2_bills_98 : decode cX2_bills 98 = .ok (.lreturn, 1) := by decide +kernel
set_option maxRecDepth 20000 in
theorem ggX2_nextChange_X2_isLease : GoodIn wsX2_nextChange wsX2_isLease := goodIn_r _ [6, 7, 8, 9, 5, 10, 40, 41, 42, 43, 44, 45, 46, 47, 48, 49, 50, 51, 52, 53, 54, 55, 56] (by decide +kernel) (by decide +kernel)
set_option maxRecDepth 20000 in
theorem gX2_nextChange_X2_isLease : GoodIn wsX2_nextChange (wsV RX2 75 RX2 yX2_isLease wsX2_isLease) := goodIn_app (goodIn_of _ (by decide +kernel)) ggX2_nextChange_X2_isLease
set_option maxRecDepth 20000 in
theorem ggX2_nextChange_X2_isIn : GoodIn wsX2_nextChange wsX2_isIn := goodIn_r _ [10] (by decide +kernel) (by decide +kernel)
set_option maxRecDepth 20000 in
theorem gX2_nextChange_X2_isIn : GoodIn wsX2_nextChange (va_wsS RX2 62 yX2_isIn wsX2_isIn) := goodIn_app (goodIn_of _ (by decide +kernel)) ggX2_nextChange_X2_isIn
set_option maxRecDepth 20000 in
theorem ggX2_nextChange_X2_holds : GoodIn wsX2_nextChange wsX2_holds := goodIn_r _ [14, 15, 40, 41, 42, 43, 44, 45, 46, 47, 48, 49, 50, 51, 52, 53, 54, 55, 56] (by decide +kernel) (by decide +kernel)
set_option maxRecDepth 20000 in
theorem gX2_nextChange_X2_holds : GoodIn wsX2_nextChange (wsV RX2 66 RX2 yX2_holds wsX2_holds) := goodIn_app (goodIn_of _ (by decide +kernel)) ggX2_nextChange_X2_holds
set_option maxRecDepth 20000 in
theorem ggX2_nextChange_X2_rentAt : GoodIn wsX2_nextChange wsX2_rentAt := goodIn_r _ [19, 20, 21, 22, 23, 24, 25, 5, 26, 1, 27, 28, 29, 30, 31, 32, 33, 34, 35, 36, 37, 38, 39, 40, 41, 42, 43, 44, 45, 46, 47, 48, 49, 50, 51, 52, 53, 54, 55, 56] (by decide +kernel) (by decide +kernel)
set_option maxRecDepth 20000 in
theorem gX2_nextChange_X2_rentAt : GoodIn wsX2_nextChange (wsV RX2 92 RX2 yX2_rentAt wsX2_rentAt) := goodIn_app (goodIn_of _ (by decide +kernel)) ggX2_nextChange_X2_rentAt
theorem dX2_nextChange_0 : decode cX2_nextChange 0 = .ok (.aload_n 0, 1) := by decide +kernel
theorem dX2_nextChange_1 : decode cX2_nextChange 1 = .ok (.aload_n 0, 1) := by decide +kernel
theorem dX2_nextChange_2 : decode cX2_nextChange 2 = .ok (.iload_n 1, 1) := by decide +kernel
theorem dX2_nextChange_3 : decode cX2_nextChange 3 = .ok (.invokevirtual 75, 3) := by decide +kernel
theorem dX2_nextChange_6 : decode cX2_nextChange 6 = .ok (.ifCond .eq 18, 3) := by decide +kernel
theorem dX2_nextChange_9 : decode cX2_nextChange 9 = .ok (.iload_n 2, 1) := by decide +kernel
theorem dX2_nextChange_10 : decode cX2_nextChange 10 = .ok (.iconst 0, 1) := by decide +kernel
theorem dX2_nextChange_11 : decode cX2_nextChange 11 = .ok (.sipush 7199, 3) := by decide +kernel
theorem dX2_nextChange_14 : decode cX2_nextChange 14 = .ok (.invokestatic 62, 3) := by decide +kernel
theorem dX2_nextChange_17 : decode cX2_nextChange 17 = .ok (.ifCond .eq 7, 3) := by decide +kernel
theorem dX2_nextChange_20 : decode cX2_nextChange 20 = .ok (.iconst 0, 1) := by decide +kernel
theorem dX2_nextChange_21 : decode cX2_nextChange 21 = .ok (.goto 4, 3) := by decide +kernel
theorem dX2_nextChange_24 : decode cX2_nextChange 24 = .ok (.iconst 1, 1) := by decide +kernel
theorem dX2_nextChange_25 : decode cX2_nextChange 25 = .ok (.invokevirtual 66, 3) := by decide +kernel
theorem dX2_nextChange_28 : decode cX2_nextChange 28 = .ok (.ifCond .ne 5, 3) := by decide +kernel
theorem dX2_nextChange_31 : decode cX2_nextChange 31 = .ok (.iconst 0, 1) := by decide +kernel
theorem dX2_nextChange_32 : decode cX2_nextChange 32 = .ok (.ireturn, 1) := by decide +kernel
theorem dX2_nextChange_33 : decode cX2_nextChange 33 = .ok (.aload_n 0, 1) := by decide +kernel
theorem dX2_nextChange_34 : decode cX2_nextChange 34 = .ok (.iload_n 1, 1) := by decide +kernel
theorem dX2_nextChange_35 : decode cX2_nextChange 35 = .ok (.iload_n 2, 1) := by decide +kernel
theorem dX2_nextChange_36 : decode cX2_nextChange 36 = .ok (.invokevirtual 92, 3) := by decide +kernel
theorem dX2_nextChange_39 : decode cX2_nextChange 39 = .ok (.istore_n 3, 1) := by decide +kernel
theorem dX2_nextChange_40 : decode cX2_nextChange 40 = .ok (.iload_n 2, 1) := by decide +kernel
theorem dX2_nextChange_41 : decode cX2_nextChange 41 = .ok (.iconst 1, 1) := by decide +kernel
theorem dX2_nextChange_42 : decode cX2_nextChange 42 = .ok (.iadd, 1) := by decide +kernel
theorem dX2_nextChange_43 : decode cX2_nextChange 43 = .ok (.istore 4, 2) := by decide +kernel
theorem dX2_nextChange_45 : decode cX2_nextChange 45 = .ok (.iload 4, 2) := by decide +kernel
theorem dX2_nextChange_47 : decode cX2_nextChange 47 = .ok (.sipush 7200, 3) := by decide +kernel
theorem dX2_nextChange_50 : decode cX2_nextChange 50 = .ok (.if_icmp .ge 38, 3) := by decide +kernel
theorem dX2_nextChange_53 : decode cX2_nextChange 53 = .ok (.iload 4, 2) := by decide +kernel
theorem dX2_nextChange_55 : decode cX2_nextChange 55 = .ok (.aload_n 0, 1) := by decide +kernel
theorem dX2_nextChange_56 : decode cX2_nextChange 56 = .ok (.getfield 25, 3) := by decide +kernel
theorem dX2_nextChange_59 : decode cX2_nextChange 59 = .ok (.iload_n 1, 1) := by decide +kernel
theorem dX2_nextChange_60 : decode cX2_nextChange 60 = .ok (.iaload, 1) := by decide +kernel
theorem dX2_nextChange_61 : decode cX2_nextChange 61 = .ok (.if_icmp .gt 27, 3) := by decide +kernel
theorem dX2_nextChange_64 : decode cX2_nextChange 64 = .ok (.aload_n 0, 1) := by decide +kernel
theorem dX2_nextChange_65 : decode cX2_nextChange 65 = .ok (.iload_n 1, 1) := by decide +kernel
theorem dX2_nextChange_66 : decode cX2_nextChange 66 = .ok (.iload 4, 2) := by decide +kernel
theorem dX2_nextChange_68 : decode cX2_nextChange 68 = .ok (.invokevirtual 92, 3) := by decide +kernel
theorem dX2_nextChange_71 : decode cX2_nextChange 71 = .ok (.istore 5, 2) := by decide +kernel
theorem dX2_nextChange_73 : decode cX2_nextChange 73 = .ok (.iload 5, 2) := by decide +kernel
theorem dX2_nextChange_75 : decode cX2_nextChange 75 = .ok (.iload_n 3, 1) := by decide +kernel
theorem dX2_nextChange_76 : decode cX2_nextChange 76 = .ok (.if_icmp .eq 6, 3) := by decide +kernel
theorem dX2_nextChange_79 : decode cX2_nextChange 79 = .ok (.iload 4, 2) := by decide +kernel
theorem dX2_nextChange_81 : decode cX2_nextChange 81 = .ok (.ireturn, 1) := by decide +kernel
theorem dX2_nextChange_82 : decode cX2_nextChange 82 = .ok (.iinc 4 1, 3) := by decide +kernel
theorem dX2_nextChange_85 : decode cX2_nextChange 85 = .ok (.goto (-40), 3) := by decide +kernel
theorem dX2_nextChange_88 : decode cX2_nextChange 88 = .ok (.iconst (-1), 1) := by decide +kernel
theorem dX2_nextChange_89 : decode cX2_nextChange 89 = .ok (.ireturn, 1) := by decide +kernel
theorem dX2_daysIn_0 : decode cX2_daysIn 0 = .ok (.aload_n 0, 1) := by decide +kernel
theorem dX2_daysIn_1 : decode cX2_daysIn 1 = .ok (.getfield 22, 3) := by decide +kernel
theorem dX2_daysIn_4 : decode cX2_daysIn 4 = .ok (.iload_n 1, 1) := by decide +kernel
theorem dX2_daysIn_5 : decode cX2_daysIn 5 = .ok (.iaload, 1) := by decide +kernel
theorem dX2_daysIn_6 : decode cX2_daysIn 6 = .ok (.sipush 360, 3) := by decide +kernel
theorem dX2_daysIn_9 : decode cX2_daysIn 9 = .ok (.iload_n 2, 1) := by decide +kernel
theorem dX2_daysIn_10 : decode cX2_daysIn 10 = .ok (.imul, 1) := by decide +kernel
theorem dX2_daysIn_11 : decode cX2_daysIn 11 = .ok (.if_icmp .le 12, 3) := by decide +kernel
theorem dX2_daysIn_14 : decode cX2_daysIn 14 = .ok (.aload_n 0, 1) := by decide +kernel
theorem dX2_daysIn_15 : decode cX2_daysIn 15 = .ok (.getfield 22, 3) := by decide +kernel
theorem dX2_daysIn_18 : decode cX2_daysIn 18 = .ok (.iload_n 1, 1) := by decide +kernel
theorem dX2_daysIn_19 : decode cX2_daysIn 19 = .ok (.iaload, 1) := by decide +kernel
theorem dX2_daysIn_20 : decode cX2_daysIn 20 = .ok (.goto 8, 3) := by decide +kernel
theorem dX2_daysIn_23 : decode cX2_daysIn 23 = .ok (.sipush 360, 3) := by decide +kernel
theorem dX2_daysIn_26 : decode cX2_daysIn 26 = .ok (.iload_n 2, 1) := by decide +kernel
theorem dX2_daysIn_27 : decode cX2_daysIn 27 = .ok (.imul, 1) := by decide +kernel
theorem dX2_daysIn_28 : decode cX2_daysIn 28 = .ok (.istore_n 3, 1) := by decide +kernel
theorem dX2_daysIn_29 : decode cX2_daysIn 29 = .ok (.aload_n 0, 1) := by decide +kernel
theorem dX2_daysIn_30 : decode cX2_daysIn 30 = .ok (.getfield 25, 3) := by decide +kernel
theorem dX2_daysIn_33 : decode cX2_daysIn 33 = .ok (.iload_n 1, 1) := by decide +kernel
theorem dX2_daysIn_34 : decode cX2_daysIn 34 = .ok (.iaload, 1) := by decide +kernel
theorem dX2_daysIn_35 : decode cX2_daysIn 35 = .ok (.sipush 360, 3) := by decide +kernel
theorem dX2_daysIn_38 : decode cX2_daysIn 38 = .ok (.iload_n 2, 1) := by decide +kernel
theorem dX2_daysIn_39 : decode cX2_daysIn 39 = .ok (.imul, 1) := by decide +kernel
theorem dX2_daysIn_40 : decode cX2_daysIn 40 = .ok (.sipush 360, 3) := by decide +kernel
theorem dX2_daysIn_43 : decode cX2_daysIn 43 = .ok (.iadd, 1) := by decide +kernel
theorem dX2_daysIn_44 : decode cX2_daysIn 44 = .ok (.if_icmp .ge 12, 3) := by decide +kernel
theorem dX2_daysIn_47 : decode cX2_daysIn 47 = .ok (.aload_n 0, 1) := by decide +kernel
theorem dX2_daysIn_48 : decode cX2_daysIn 48 = .ok (.getfield 25, 3) := by decide +kernel
theorem dX2_daysIn_51 : decode cX2_daysIn 51 = .ok (.iload_n 1, 1) := by decide +kernel
theorem dX2_daysIn_52 : decode cX2_daysIn 52 = .ok (.iaload, 1) := by decide +kernel
theorem dX2_daysIn_53 : decode cX2_daysIn 53 = .ok (.goto 12, 3) := by decide +kernel
theorem dX2_daysIn_56 : decode cX2_daysIn 56 = .ok (.sipush 360, 3) := by decide +kernel
theorem dX2_daysIn_59 : decode cX2_daysIn 59 = .ok (.iload_n 2, 1) := by decide +kernel
theorem dX2_daysIn_60 : decode cX2_daysIn 60 = .ok (.imul, 1) := by decide +kernel
theorem dX2_daysIn_61 : decode cX2_daysIn 61 = .ok (.sipush 360, 3) := by decide +kernel
theorem dX2_daysIn_64 : decode cX2_daysIn 64 = .ok (.iadd, 1) := by decide +kernel
theorem dX2_daysIn_65 : decode cX2_daysIn 65 = .ok (.istore 4, 2) := by decide +kernel
theorem dX2_daysIn_67 : decode cX2_daysIn 67 = .ok (.iload 4, 2) := by decide +kernel
theorem dX2_daysIn_69 : decode cX2_daysIn 69 = .ok (.iload_n 3, 1) := by decide +kernel
theorem dX2_daysIn_70 : decode cX2_daysIn 70 = .ok (.if_icmp .le 10, 3) := by decide +kernel
theorem dX2_daysIn_73 : decode cX2_daysIn 73 = .ok (.iload 4, 2) := by decide +kernel
theorem dX2_daysIn_75 : decode cX2_daysIn 75 = .ok (.iload_n 3, 1) := by decide +kernel
theorem dX2_daysIn_76 : decode cX2_daysIn 76 = .ok (.isub, 1) := by decide +kernel
theorem dX2_daysIn_77 : decode cX2_daysIn 77 = .ok (.goto 4, 3) := by decide +kernel
theorem dX2_daysIn_80 : decode cX2_daysIn 80 = .ok (.iconst 0, 1) := by decide +kernel
theorem dX2_daysIn_81 : decode cX2_daysIn 81 = .ok (.ireturn, 1) := by decide +kernel
theorem dX2_allAreas_0 : decode cX2_allAreas 0 = .ok (.iconst 0, 1) := by decide +kernel
theorem dX2_allAreas_1 : decode cX2_allAreas 1 = .ok (.istore_n 1, 1) := by decide +kernel
theorem dX2_allAreas_2 : decode cX2_allAreas 2 = .ok (.iconst 0, 1) := by decide +kernel
theorem dX2_allAreas_3 : decode cX2_allAreas 3 = .ok (.istore_n 2, 1) := by decide +kernel
theorem dX2_allAreas_4 : decode cX2_allAreas 4 = .ok (.iload_n 2, 1) := by decide +kernel
theorem dX2_allAreas_5 : decode cX2_allAreas 5 = .ok (.bipush 6, 2) := by decide +kernel
theorem dX2_allAreas_7 : decode cX2_allAreas 7 = .ok (.if_icmp .ge 18, 3) := by decide +kernel
theorem dX2_allAreas_10 : decode cX2_allAreas 10 = .ok (.iload_n 1, 1) := by decide +kernel
theorem dX2_allAreas_11 : decode cX2_allAreas 11 = .ok (.aload_n 0, 1) := by decide +kernel
theorem dX2_allAreas_12 : decode cX2_allAreas 12 = .ok (.getfield 7, 3) := by decide +kernel
theorem dX2_allAreas_15 : decode cX2_allAreas 15 = .ok (.iload_n 2, 1) := by decide +kernel
theorem dX2_allAreas_16 : decode cX2_allAreas 16 = .ok (.iaload, 1) := by decide +kernel
theorem dX2_allAreas_17 : decode cX2_allAreas 17 = .ok (.iadd, 1) := by decide +kernel
theorem dX2_allAreas_18 : decode cX2_allAreas 18 = .ok (.istore_n 1, 1) := by decide +kernel
theorem dX2_allAreas_19 : decode cX2_allAreas 19 = .ok (.iinc 2 1, 3) := by decide +kernel
theorem dX2_allAreas_22 : decode cX2_allAreas 22 = .ok (.goto (-18), 3) := by decide +kernel
theorem dX2_allAreas_25 : decode cX2_allAreas 25 = .ok (.iload_n 1, 1) := by decide +kernel
theorem dX2_allAreas_26 : decode cX2_allAreas 26 = .ok (.ireturn, 1) := by decide +kernel
set_option maxRecDepth 20000 in
theorem ggX2_partOf_X2_allAreas : GoodIn wsX2_partOf wsX2_allAreas := goodIn_r _ [10, 2, 17, 18, 19, 20, 21, 22, 23, 24, 25, 26, 27, 28, 29, 30, 31, 32, 33] (by decide +kernel) (by decide +kernel)
set_option maxRecDepth 20000 in
theorem gX2_partOf_X2_allAreas : GoodIn wsX2_partOf (wsV RX2 98 RX2 yX2_allAreas wsX2_allAreas) := goodIn_app (goodIn_of _ (by decide +kernel)) ggX2_partOf_X2_allAreas
set_option maxRecDepth 20000 in
theorem ggX2_partOf_X2_daysIn : GoodIn wsX2_partOf wsX2_daysIn := goodIn_r _ [14, 15, 16, 17, 18, 19, 20, 21, 22, 23, 24, 25, 26, 27, 28, 29, 30, 31, 32, 33] (by decide +kernel) (by decide +kernel)
set_option maxRecDepth 20000 in
theorem gX2_partOf_X2_daysIn : GoodIn wsX2_partOf (wsV RX2 102 RX2 yX2_daysIn wsX2_daysIn) := goodIn_app (goodIn_of _ (by decide +kernel)) ggX2_partOf_X2_daysIn
theorem dX2_partOf_0 : decode cX2_partOf 0 = .ok (.aload_n 0, 1) := by decide +kernel
theorem dX2_partOf_1 : decode cX2_partOf 1 = .ok (.invokevirtual 98, 3) := by decide +kernel
theorem dX2_partOf_4 : decode cX2_partOf 4 = .ok (.istore_n 3, 1) := by decide +kernel
theorem dX2_partOf_5 : decode cX2_partOf 5 = .ok (.iload_n 3, 1) := by decide +kernel
theorem dX2_partOf_6 : decode cX2_partOf 6 = .ok (.ifCond .ne 5, 3) := by decide +kernel
theorem dX2_partOf_9 : decode cX2_partOf 9 = .ok (.iconst 0, 1) := by decide +kernel
theorem dX2_partOf_10 : decode cX2_partOf 10 = .ok (.ireturn, 1) := by decide +kernel
theorem dX2_partOf_11 : decode cX2_partOf 11 = .ok (.aload_n 0, 1) := by decide +kernel
theorem dX2_partOf_12 : decode cX2_partOf 12 = .ok (.iload_n 1, 1) := by decide +kernel
theorem dX2_partOf_13 : decode cX2_partOf 13 = .ok (.iload_n 2, 1) := by decide +kernel
theorem dX2_partOf_14 : decode cX2_partOf 14 = .ok (.invokevirtual 102, 3) := by decide +kernel
theorem dX2_partOf_17 : decode cX2_partOf 17 = .ok (.istore 4, 2) := by decide +kernel
theorem dX2_partOf_19 : decode cX2_partOf 19 = .ok (.aload_n 0, 1) := by decide +kernel
theorem dX2_partOf_20 : decode cX2_partOf 20 = .ok (.getfield 16, 3) := by decide +kernel
theorem dX2_partOf_23 : decode cX2_partOf 23 = .ok (.iload_n 2, 1) := by decide +kernel
theorem dX2_partOf_24 : decode cX2_partOf 24 = .ok (.iaload, 1) := by decide +kernel
theorem dX2_partOf_25 : decode cX2_partOf 25 = .ok (.i2l, 1) := by decide +kernel
theorem dX2_partOf_26 : decode cX2_partOf 26 = .ok (.aload_n 0, 1) := by decide +kernel
theorem dX2_partOf_27 : decode cX2_partOf 27 = .ok (.getfield 7, 3) := by decide +kernel
theorem dX2_partOf_30 : decode cX2_partOf 30 = .ok (.aload_n 0, 1) := by decide +kernel
theorem dX2_partOf_31 : decode cX2_partOf 31 = .ok (.getfield 19, 3) := by decide +kernel
theorem dX2_partOf_34 : decode cX2_partOf 34 = .ok (.iload_n 1, 1) := by decide +kernel
theorem dX2_partOf_35 : decode cX2_partOf 35 = .ok (.iaload, 1) := by decide +kernel
theorem dX2_partOf_36 : decode cX2_partOf 36 = .ok (.iaload, 1) := by decide +kernel
theorem dX2_partOf_37 : decode cX2_partOf 37 = .ok (.i2l, 1) := by decide +kernel
theorem dX2_partOf_38 : decode cX2_partOf 38 = .ok (.lmul, 1) := by decide +kernel
theorem dX2_partOf_39 : decode cX2_partOf 39 = .ok (.iload 4, 2) := by decide +kernel
theorem dX2_partOf_41 : decode cX2_partOf 41 = .ok (.i2l, 1) := by decide +kernel
theorem dX2_partOf_42 : decode cX2_partOf 42 = .ok (.lmul, 1) := by decide +kernel
theorem dX2_partOf_43 : decode cX2_partOf 43 = .ok (.iload_n 3, 1) := by decide +kernel
theorem dX2_partOf_44 : decode cX2_partOf 44 = .ok (.i2l, 1) := by decide +kernel
theorem dX2_partOf_45 : decode cX2_partOf 45 = .ok (.ldc2_w 105, 3) := by decide +kernel
theorem dX2_partOf_48 : decode cX2_partOf 48 = .ok (.lmul, 1) := by decide +kernel
theorem dX2_partOf_49 : decode cX2_partOf 49 = .ok (.ldiv, 1) := by decide +kernel
theorem dX2_partOf_50 : decode cX2_partOf 50 = .ok (.l2i, 1) := by decide +kernel
theorem dX2_partOf_51 : decode cX2_partOf 51 = .ok (.istore 5, 2) := by decide +kernel
theorem dX2_partOf_53 : decode cX2_partOf 53 = .ok (.aload_n 0, 1) := by decide +kernel
theorem dX2_partOf_54 : decode cX2_partOf 54 = .ok (.getfield 37, 3) := by decide +kernel
theorem dX2_partOf_57 : decode cX2_partOf 57 = .ok (.iload_n 1, 1) := by decide +kernel
theorem dX2_partOf_58 : decode cX2_partOf 58 = .ok (.iaload, 1) := by decide +kernel
theorem dX2_partOf_59 : decode cX2_partOf 59 = .ok (.iconst (-1), 1) := by decide +kernel
theorem dX2_partOf_60 : decode cX2_partOf 60 = .ok (.if_icmp .ne 8, 3) := by decide +kernel
theorem dX2_partOf_63 : decode cX2_partOf 63 = .ok (.iload 5, 2) := by decide +kernel
theorem dX2_partOf_65 : decode cX2_partOf 65 = .ok (.goto 16, 3) := by decide +kernel
theorem dX2_partOf_68 : decode cX2_partOf 68 = .ok (.aload_n 0, 1) := by decide +kernel
theorem dX2_partOf_69 : decode cX2_partOf 69 = .ok (.getfield 37, 3) := by decide +kernel
theorem dX2_partOf_72 : decode cX2_partOf 72 = .ok (.iload_n 1, 1) := by decide +kernel
theorem dX2_partOf_73 : decode cX2_partOf 73 = .ok (.iaload, 1) := by decide +kernel
theorem dX2_partOf_74 : decode cX2_partOf 74 = .ok (.iload 4, 2) := by decide +kernel
theorem dX2_partOf_76 : decode cX2_partOf 76 = .ok (.imul, 1) := by decide +kernel
theorem dX2_partOf_77 : decode cX2_partOf 77 = .ok (.sipush 360, 3) := by decide +kernel
theorem dX2_partOf_80 : decode cX2_partOf 80 = .ok (.idiv, 1) := by decide +kernel
theorem dX2_partOf_81 : decode cX2_partOf 81 = .ok (.istore 6, 2) := by decide +kernel
theorem dX2_partOf_83 : decode cX2_partOf 83 = .ok (.iload 5, 2) := by decide +kernel
theorem dX2_partOf_85 : decode cX2_partOf 85 = .ok (.iload 6, 2) := by decide +kernel
theorem dX2_partOf_87 : decode cX2_partOf 87 = .ok (.if_icmp .ge 8, 3) := by decide +kernel
theorem dX2_partOf_90 : decode cX2_partOf 90 = .ok (.iload 5, 2) := by decide +kernel
theorem dX2_partOf_92 : decode cX2_partOf 92 = .ok (.goto 5, 3) := by decide +kernel
theorem dX2_partOf_95 : decode cX2_partOf 95 = .ok (.iload 6, 2) := by decide +kernel
theorem dX2_partOf_97 : decode cX2_partOf 97 = .ok (.ireturn, 1) := by decide +kernel
set_option maxRecDepth 20000 in
theorem ggX2_voids_X2_isIn : GoodIn wsX2_voids wsX2_isIn := goodIn_r _ [6] (by decide +kernel) (by decide +kernel)
set_option maxRecDepth 20000 in
theorem gX2_voids_X2_isIn : GoodIn wsX2_voids (va_wsS RX2 62 yX2_isIn wsX2_isIn) := goodIn_app (goodIn_of _ (by decide +kernel)) ggX2_voids_X2_isIn
set_option maxRecDepth 20000 in
theorem ggX2_voids_X2_holds : GoodIn wsX2_voids wsX2_holds := goodIn_r _ [10, 11, 18, 19, 20, 21, 22, 23, 24, 25, 26, 27, 28, 29, 30, 31, 32, 33, 34] (by decide +kernel) (by decide +kernel)
set_option maxRecDepth 20000 in
theorem gX2_voids_X2_holds : GoodIn wsX2_voids (wsV RX2 66 RX2 yX2_holds wsX2_holds) := goodIn_app (goodIn_of _ (by decide +kernel)) ggX2_voids_X2_holds
set_option maxRecDepth 20000 in
theorem ggX2_voids_X2_daysIn : GoodIn wsX2_voids wsX2_daysIn := goodIn_r _ [15, 16, 17, 18, 19, 20, 21, 22, 23, 24, 25, 26, 27, 28, 29, 30, 31, 32, 33, 34] (by decide +kernel) (by decide +kernel)
set_option maxRecDepth 20000 in
theorem gX2_voids_X2_daysIn : GoodIn wsX2_voids (wsV RX2 102 RX2 yX2_daysIn wsX2_daysIn) := goodIn_app (goodIn_of _ (by decide +kernel)) ggX2_voids_X2_daysIn
theorem dX2_voids_0 : decode cX2_voids 0 = .ok (.aload_n 0, 1) := by decide +kernel
theorem dX2_voids_1 : decode cX2_voids 1 = .ok (.iload_n 1, 1) := by decide +kernel
theorem dX2_voids_2 : decode cX2_voids 2 = .ok (.iconst 0, 1) := by decide +kernel
theorem dX2_voids_3 : decode cX2_voids 3 = .ok (.iconst 5, 1) := by decide +kernel
theorem dX2_voids_4 : decode cX2_voids 4 = .ok (.invokestatic 62, 3) := by decide +kernel
theorem dX2_voids_7 : decode cX2_voids 7 = .ok (.ifCond .eq 17, 3) := by decide +kernel
theorem dX2_voids_10 : decode cX2_voids 10 = .ok (.iload_n 2, 1) := by decide +kernel
theorem dX2_voids_11 : decode cX2_voids 11 = .ok (.iconst 0, 1) := by decide +kernel
theorem dX2_voids_12 : decode cX2_voids 12 = .ok (.bipush 19, 2) := by decide +kernel
theorem dX2_voids_14 : decode cX2_voids 14 = .ok (.invokestatic 62, 3) := by decide +kernel
theorem dX2_voids_17 : decode cX2_voids 17 = .ok (.ifCond .eq 7, 3) := by decide +kernel
theorem dX2_voids_20 : decode cX2_voids 20 = .ok (.iconst 0, 1) := by decide +kernel
theorem dX2_voids_21 : decode cX2_voids 21 = .ok (.goto 4, 3) := by decide +kernel
theorem dX2_voids_24 : decode cX2_voids 24 = .ok (.iconst 1, 1) := by decide +kernel
theorem dX2_voids_25 : decode cX2_voids 25 = .ok (.invokevirtual 66, 3) := by decide +kernel
theorem dX2_voids_28 : decode cX2_voids 28 = .ok (.ifCond .ne 5, 3) := by decide +kernel
theorem dX2_voids_31 : decode cX2_voids 31 = .ok (.iconst 0, 1) := by decide +kernel
theorem dX2_voids_32 : decode cX2_voids 32 = .ok (.ireturn, 1) := by decide +kernel
theorem dX2_voids_33 : decode cX2_voids 33 = .ok (.sipush 360, 3) := by decide +kernel
theorem dX2_voids_36 : decode cX2_voids 36 = .ok (.istore_n 3, 1) := by decide +kernel
theorem dX2_voids_37 : decode cX2_voids 37 = .ok (.iconst 0, 1) := by decide +kernel
theorem dX2_voids_38 : decode cX2_voids 38 = .ok (.istore 4, 2) := by decide +kernel
theorem dX2_voids_40 : decode cX2_voids 40 = .ok (.iload 4, 2) := by decide +kernel
theorem dX2_voids_42 : decode cX2_voids 42 = .ok (.aload_n 0, 1) := by decide +kernel
theorem dX2_voids_43 : decode cX2_voids 43 = .ok (.getfield 59, 3) := by decide +kernel
theorem dX2_voids_46 : decode cX2_voids 46 = .ok (.if_icmp .ge 34, 3) := by decide +kernel
theorem dX2_voids_49 : decode cX2_voids 49 = .ok (.iload_n 3, 1) := by decide +kernel
theorem dX2_voids_50 : decode cX2_voids 50 = .ok (.aload_n 0, 1) := by decide +kernel
theorem dX2_voids_51 : decode cX2_voids 51 = .ok (.getfield 19, 3) := by decide +kernel
theorem dX2_voids_54 : decode cX2_voids 54 = .ok (.iload 4, 2) := by decide +kernel
theorem dX2_voids_56 : decode cX2_voids 56 = .ok (.iaload, 1) := by decide +kernel
theorem dX2_voids_57 : decode cX2_voids 57 = .ok (.iload_n 1, 1) := by decide +kernel
theorem dX2_voids_58 : decode cX2_voids 58 = .ok (.if_icmp .ne 13, 3) := by decide +kernel
theorem dX2_voids_61 : decode cX2_voids 61 = .ok (.aload_n 0, 1) := by decide +kernel
theorem dX2_voids_62 : decode cX2_voids 62 = .ok (.iload 4, 2) := by decide +kernel
theorem dX2_voids_64 : decode cX2_voids 64 = .ok (.iload_n 2, 1) := by decide +kernel
theorem dX2_voids_65 : decode cX2_voids 65 = .ok (.invokevirtual 102, 3) := by decide +kernel
theorem dX2_voids_68 : decode cX2_voids 68 = .ok (.goto 4, 3) := by decide +kernel
theorem dX2_voids_71 : decode cX2_voids 71 = .ok (.iconst 0, 1) := by decide +kernel
theorem dX2_voids_72 : decode cX2_voids 72 = .ok (.isub, 1) := by decide +kernel
theorem dX2_voids_73 : decode cX2_voids 73 = .ok (.istore_n 3, 1) := by decide +kernel
theorem dX2_voids_74 : decode cX2_voids 74 = .ok (.iinc 4 1, 3) := by decide +kernel
theorem dX2_voids_77 : decode cX2_voids 77 = .ok (.goto (-37), 3) := by decide +kernel
theorem dX2_voids_80 : decode cX2_voids 80 = .ok (.iload_n 3, 1) := by decide +kernel
theorem dX2_voids_81 : decode cX2_voids 81 = .ok (.ireturn, 1) := by decide +kernel
set_option maxRecDepth 20000 in
theorem ggX2_part_X2_isLease : GoodIn wsX2_part wsX2_isLease := goodIn_r _ [5, 6, 7, 8, 4, 9, 34, 35, 36, 37, 38, 39, 40, 41, 42, 43, 44, 45, 46, 47, 48, 49, 50] (by decide +kernel) (by decide +kernel)
set_option maxRecDepth 20000 in
theorem gX2_part_X2_isLease : GoodIn wsX2_part (wsV RX2 75 RX2 yX2_isLease wsX2_isLease) := goodIn_app (goodIn_of _ (by decide +kernel)) ggX2_part_X2_isLease
set_option maxRecDepth 20000 in
theorem ggX2_part_X2_isIn : GoodIn wsX2_part wsX2_isIn := goodIn_r _ [9] (by decide +kernel) (by decide +kernel)
set_option maxRecDepth 20000 in
theorem gX2_part_X2_isIn : GoodIn wsX2_part (va_wsS RX2 62 yX2_isIn wsX2_isIn) := goodIn_app (goodIn_of _ (by decide +kernel)) ggX2_part_X2_isIn
set_option maxRecDepth 20000 in
theorem ggX2_part_X2_holds : GoodIn wsX2_part wsX2_holds := goodIn_r _ [13, 14, 34, 35, 36, 37, 38, 39, 40, 41, 42, 43, 44, 45, 46, 47, 48, 49, 50] (by decide +kernel) (by decide +kernel)
set_option maxRecDepth 20000 in
theorem gX2_part_X2_holds : GoodIn wsX2_part (wsV RX2 66 RX2 yX2_holds wsX2_holds) := goodIn_app (goodIn_of _ (by decide +kernel)) ggX2_part_X2_holds
set_option maxRecDepth 20000 in
theorem ggX2_part_X2_partOf : GoodIn wsX2_part wsX2_partOf := goodIn_r _ [18, 19, 20, 21, 22, 23, 24, 25, 26, 4, 27, 28, 29, 30, 31, 32, 33, 34, 35, 36, 37, 38, 39, 40, 41, 42, 43, 44, 45, 46, 47, 48, 49, 50] (by decide +kernel) (by decide +kernel)
set_option maxRecDepth 20000 in
theorem gX2_part_X2_partOf : GoodIn wsX2_part (wsV RX2 107 RX2 yX2_partOf wsX2_partOf) := goodIn_app (goodIn_of _ (by decide +kernel)) ggX2_part_X2_partOf
theorem dX2_part_0 : decode cX2_part 0 = .ok (.aload_n 0, 1) := by decide +kernel
theorem dX2_part_1 : decode cX2_part 1 = .ok (.aload_n 0, 1) := by decide +kernel
theorem dX2_part_2 : decode cX2_part 2 = .ok (.iload_n 1, 1) := by decide +kernel
theorem dX2_part_3 : decode cX2_part 3 = .ok (.invokevirtual 75, 3) := by decide +kernel
theorem dX2_part_6 : decode cX2_part 6 = .ok (.ifCond .eq 17, 3) := by decide +kernel
theorem dX2_part_9 : decode cX2_part 9 = .ok (.iload_n 2, 1) := by decide +kernel
theorem dX2_part_10 : decode cX2_part 10 = .ok (.iconst 0, 1) := by decide +kernel
theorem dX2_part_11 : decode cX2_part 11 = .ok (.bipush 19, 2) := by decide +kernel
theorem dX2_part_13 : decode cX2_part 13 = .ok (.invokestatic 62, 3) := by decide +kernel
theorem dX2_part_16 : decode cX2_part 16 = .ok (.ifCond .eq 7, 3) := by decide +kernel
theorem dX2_part_19 : decode cX2_part 19 = .ok (.iconst 0, 1) := by decide +kernel
theorem dX2_part_20 : decode cX2_part 20 = .ok (.goto 4, 3) := by decide +kernel
theorem dX2_part_23 : decode cX2_part 23 = .ok (.iconst 1, 1) := by decide +kernel
theorem dX2_part_24 : decode cX2_part 24 = .ok (.invokevirtual 66, 3) := by decide +kernel
theorem dX2_part_27 : decode cX2_part 27 = .ok (.ifCond .eq 12, 3) := by decide +kernel
theorem dX2_part_30 : decode cX2_part 30 = .ok (.aload_n 0, 1) := by decide +kernel
theorem dX2_part_31 : decode cX2_part 31 = .ok (.iload_n 1, 1) := by decide +kernel
theorem dX2_part_32 : decode cX2_part 32 = .ok (.iload_n 2, 1) := by decide +kernel
theorem dX2_part_33 : decode cX2_part 33 = .ok (.invokevirtual 107, 3) := by decide +kernel
theorem dX2_part_36 : decode cX2_part 36 = .ok (.goto 4, 3) := by decide +kernel
theorem dX2_part_39 : decode cX2_part 39 = .ok (.iconst 0, 1) := by decide +kernel
theorem dX2_part_40 : decode cX2_part 40 = .ok (.ireturn, 1) := by decide +kernel
set_option maxRecDepth 20000 in
theorem ggX2_owners_X2_isIn : GoodIn wsX2_owners wsX2_isIn := goodIn_r _ [6] (by decide +kernel) (by decide +kernel)
set_option maxRecDepth 20000 in
theorem gX2_owners_X2_isIn : GoodIn wsX2_owners (va_wsS RX2 62 yX2_isIn wsX2_isIn) := goodIn_app (goodIn_of _ (by decide +kernel)) ggX2_owners_X2_isIn
set_option maxRecDepth 20000 in
theorem ggX2_owners_X2_holds : GoodIn wsX2_owners wsX2_holds := goodIn_r _ [10, 11, 30, 31, 32, 33, 34, 35, 36, 37, 38, 39, 40, 41, 42, 43, 44, 45, 46] (by decide +kernel) (by decide +kernel)
set_option maxRecDepth 20000 in
theorem gX2_owners_X2_holds : GoodIn wsX2_owners (wsV RX2 66 RX2 yX2_holds wsX2_holds) := goodIn_app (goodIn_of _ (by decide +kernel)) ggX2_owners_X2_holds
set_option maxRecDepth 20000 in
theorem ggX2_owners_X2_partOf : GoodIn wsX2_owners wsX2_partOf := goodIn_r _ [15, 1, 16, 17, 18, 19, 20, 21, 22, 5, 23, 24, 25, 26, 27, 28, 29, 30, 31, 32, 33, 34, 35, 36, 37, 38, 39, 40, 41, 42, 43, 44, 45, 46] (by decide +kernel) (by decide +kernel)
set_option maxRecDepth 20000 in
theorem gX2_owners_X2_partOf : GoodIn wsX2_owners (wsV RX2 107 RX2 yX2_partOf wsX2_partOf) := goodIn_app (goodIn_of _ (by decide +kernel)) ggX2_owners_X2_partOf
theorem dX2_owners_0 : decode cX2_owners 0 = .ok (.aload_n 0, 1) := by decide +kernel
theorem dX2_owners_1 : decode cX2_owners 1 = .ok (.iload_n 1, 1) := by decide +kernel
theorem dX2_owners_2 : decode cX2_owners 2 = .ok (.iconst 0, 1) := by decide +kernel
theorem dX2_owners_3 : decode cX2_owners 3 = .ok (.bipush 19, 2) := by decide +kernel
theorem dX2_owners_5 : decode cX2_owners 5 = .ok (.invokestatic 62, 3) := by decide +kernel
theorem dX2_owners_8 : decode cX2_owners 8 = .ok (.ifCond .eq 7, 3) := by decide +kernel
theorem dX2_owners_11 : decode cX2_owners 11 = .ok (.iconst 0, 1) := by decide +kernel
theorem dX2_owners_12 : decode cX2_owners 12 = .ok (.goto 4, 3) := by decide +kernel
theorem dX2_owners_15 : decode cX2_owners 15 = .ok (.iconst 1, 1) := by decide +kernel
theorem dX2_owners_16 : decode cX2_owners 16 = .ok (.invokevirtual 66, 3) := by decide +kernel
theorem dX2_owners_19 : decode cX2_owners 19 = .ok (.ifCond .ne 5, 3) := by decide +kernel
theorem dX2_owners_22 : decode cX2_owners 22 = .ok (.iconst 0, 1) := by decide +kernel
theorem dX2_owners_23 : decode cX2_owners 23 = .ok (.ireturn, 1) := by decide +kernel
theorem dX2_owners_24 : decode cX2_owners 24 = .ok (.aload_n 0, 1) := by decide +kernel
theorem dX2_owners_25 : decode cX2_owners 25 = .ok (.getfield 16, 3) := by decide +kernel
theorem dX2_owners_28 : decode cX2_owners 28 = .ok (.iload_n 1, 1) := by decide +kernel
theorem dX2_owners_29 : decode cX2_owners 29 = .ok (.iaload, 1) := by decide +kernel
theorem dX2_owners_30 : decode cX2_owners 30 = .ok (.istore_n 2, 1) := by decide +kernel
theorem dX2_owners_31 : decode cX2_owners 31 = .ok (.iconst 0, 1) := by decide +kernel
theorem dX2_owners_32 : decode cX2_owners 32 = .ok (.istore_n 3, 1) := by decide +kernel
theorem dX2_owners_33 : decode cX2_owners 33 = .ok (.iload_n 3, 1) := by decide +kernel
theorem dX2_owners_34 : decode cX2_owners 34 = .ok (.aload_n 0, 1) := by decide +kernel
theorem dX2_owners_35 : decode cX2_owners 35 = .ok (.getfield 59, 3) := by decide +kernel
theorem dX2_owners_38 : decode cX2_owners 38 = .ok (.if_icmp .ge 18, 3) := by decide +kernel
theorem dX2_owners_41 : decode cX2_owners 41 = .ok (.iload_n 2, 1) := by decide +kernel
theorem dX2_owners_42 : decode cX2_owners 42 = .ok (.aload_n 0, 1) := by decide +kernel
theorem dX2_owners_43 : decode cX2_owners 43 = .ok (.iload_n 3, 1) := by decide +kernel
theorem dX2_owners_44 : decode cX2_owners 44 = .ok (.iload_n 1, 1) := by decide +kernel
theorem dX2_owners_45 : decode cX2_owners 45 = .ok (.invokevirtual 107, 3) := by decide +kernel
theorem dX2_owners_48 : decode cX2_owners 48 = .ok (.isub, 1) := by decide +kernel
theorem dX2_owners_49 : decode cX2_owners 49 = .ok (.istore_n 2, 1) := by decide +kernel
theorem dX2_owners_50 : decode cX2_owners 50 = .ok (.iinc 3 1, 3) := by decide +kernel
theorem dX2_owners_53 : decode cX2_owners 53 = .ok (.goto (-20), 3) := by decide +kernel
theorem dX2_owners_56 : decode cX2_owners 56 = .ok (.iload_n 2, 1) := by decide +kernel
theorem dX2_owners_57 : decode cX2_owners 57 = .ok (.ireturn, 1) := by decide +kernel
set_option maxRecDepth 20000 in
theorem ggX2_balance_X2_isLease : GoodIn wsX2_balance wsX2_isLease := goodIn_r _ [6, 7, 8, 9, 5, 10, 35, 36, 37, 38, 39, 40, 41, 42, 43, 44, 45, 46, 47, 48, 49, 50, 51] (by decide +kernel) (by decide +kernel)
set_option maxRecDepth 20000 in
theorem gX2_balance_X2_isLease : GoodIn wsX2_balance (wsV RX2 75 RX2 yX2_isLease wsX2_isLease) := goodIn_app (goodIn_of _ (by decide +kernel)) ggX2_balance_X2_isLease
set_option maxRecDepth 20000 in
theorem ggX2_balance_X2_isIn : GoodIn wsX2_balance wsX2_isIn := goodIn_r _ [10] (by decide +kernel) (by decide +kernel)
set_option maxRecDepth 20000 in
theorem gX2_balance_X2_isIn : GoodIn wsX2_balance (va_wsS RX2 62 yX2_isIn wsX2_isIn) := goodIn_app (goodIn_of _ (by decide +kernel)) ggX2_balance_X2_isIn
set_option maxRecDepth 20000 in
theorem ggX2_balance_X2_holds : GoodIn wsX2_balance wsX2_holds := goodIn_r _ [14, 15, 35, 36, 37, 38, 39, 40, 41, 42, 43, 44, 45, 46, 47, 48, 49, 50, 51] (by decide +kernel) (by decide +kernel)
set_option maxRecDepth 20000 in
theorem gX2_balance_X2_holds : GoodIn wsX2_balance (wsV RX2 66 RX2 yX2_holds wsX2_holds) := goodIn_app (goodIn_of _ (by decide +kernel)) ggX2_balance_X2_holds
set_option maxRecDepth 20000 in
theorem ggX2_balance_X2_partOf : GoodIn wsX2_balance wsX2_partOf := goodIn_r _ [19, 20, 21, 22, 23, 24, 25, 26, 27, 5, 28, 29, 30, 31, 32, 33, 34, 35, 36, 37, 38, 39, 40, 41, 42, 43, 44, 45, 46, 47, 48, 49, 50, 51] (by decide +kernel) (by decide +kernel)
set_option maxRecDepth 20000 in
theorem gX2_balance_X2_partOf : GoodIn wsX2_balance (wsV RX2 107 RX2 yX2_partOf wsX2_partOf) := goodIn_app (goodIn_of _ (by decide +kernel)) ggX2_balance_X2_partOf
set_option maxRecDepth 20000 in
theorem ggX2_balance_X2_daysIn : GoodIn wsX2_balance wsX2_daysIn := goodIn_r _ [32, 33, 34, 35, 36, 37, 38, 39, 40, 41, 42, 43, 44, 45, 46, 47, 48, 49, 50, 51] (by decide +kernel) (by decide +kernel)
set_option maxRecDepth 20000 in
theorem gX2_balance_X2_daysIn : GoodIn wsX2_balance (wsV RX2 102 RX2 yX2_daysIn wsX2_daysIn) := goodIn_app (goodIn_of _ (by decide +kernel)) ggX2_balance_X2_daysIn
theorem dX2_balance_0 : decode cX2_balance 0 = .ok (.aload_n 0, 1) := by decide +kernel
theorem dX2_balance_1 : decode cX2_balance 1 = .ok (.aload_n 0, 1) := by decide +kernel
theorem dX2_balance_2 : decode cX2_balance 2 = .ok (.iload_n 1, 1) := by decide +kernel
theorem dX2_balance_3 : decode cX2_balance 3 = .ok (.invokevirtual 75, 3) := by decide +kernel
theorem dX2_balance_6 : decode cX2_balance 6 = .ok (.ifCond .eq 17, 3) := by decide +kernel
theorem dX2_balance_9 : decode cX2_balance 9 = .ok (.iload_n 2, 1) := by decide +kernel
theorem dX2_balance_10 : decode cX2_balance 10 = .ok (.iconst 0, 1) := by decide +kernel
theorem dX2_balance_11 : decode cX2_balance 11 = .ok (.bipush 19, 2) := by decide +kernel
theorem dX2_balance_13 : decode cX2_balance 13 = .ok (.invokestatic 62, 3) := by decide +kernel
theorem dX2_balance_16 : decode cX2_balance 16 = .ok (.ifCond .eq 7, 3) := by decide +kernel
theorem dX2_balance_19 : decode cX2_balance 19 = .ok (.iconst 0, 1) := by decide +kernel
theorem dX2_balance_20 : decode cX2_balance 20 = .ok (.goto 4, 3) := by decide +kernel
theorem dX2_balance_23 : decode cX2_balance 23 = .ok (.iconst 1, 1) := by decide +kernel
theorem dX2_balance_24 : decode cX2_balance 24 = .ok (.invokevirtual 66, 3) := by decide +kernel
theorem dX2_balance_27 : decode cX2_balance 27 = .ok (.ifCond .ne 5, 3) := by decide +kernel
theorem dX2_balance_30 : decode cX2_balance 30 = .ok (.iconst 0, 1) := by decide +kernel
theorem dX2_balance_31 : decode cX2_balance 31 = .ok (.ireturn, 1) := by decide +kernel
theorem dX2_balance_32 : decode cX2_balance 32 = .ok (.aload_n 0, 1) := by decide +kernel
theorem dX2_balance_33 : decode cX2_balance 33 = .ok (.iload_n 1, 1) := by decide +kernel
theorem dX2_balance_34 : decode cX2_balance 34 = .ok (.iload_n 2, 1) := by decide +kernel
theorem dX2_balance_35 : decode cX2_balance 35 = .ok (.invokevirtual 107, 3) := by decide +kernel
theorem dX2_balance_38 : decode cX2_balance 38 = .ok (.aload_n 0, 1) := by decide +kernel
theorem dX2_balance_39 : decode cX2_balance 39 = .ok (.getfield 40, 3) := by decide +kernel
theorem dX2_balance_42 : decode cX2_balance 42 = .ok (.iload_n 1, 1) := by decide +kernel
theorem dX2_balance_43 : decode cX2_balance 43 = .ok (.iaload, 1) := by decide +kernel
theorem dX2_balance_44 : decode cX2_balance 44 = .ok (.aload_n 0, 1) := by decide +kernel
theorem dX2_balance_45 : decode cX2_balance 45 = .ok (.iload_n 1, 1) := by decide +kernel
theorem dX2_balance_46 : decode cX2_balance 46 = .ok (.iload_n 2, 1) := by decide +kernel
theorem dX2_balance_47 : decode cX2_balance 47 = .ok (.invokevirtual 102, 3) := by decide +kernel
theorem dX2_balance_50 : decode cX2_balance 50 = .ok (.imul, 1) := by decide +kernel
theorem dX2_balance_51 : decode cX2_balance 51 = .ok (.bipush 30, 2) := by decide +kernel
theorem dX2_balance_53 : decode cX2_balance 53 = .ok (.idiv, 1) := by decide +kernel
theorem dX2_balance_54 : decode cX2_balance 54 = .ok (.isub, 1) := by decide +kernel
theorem dX2_balance_55 : decode cX2_balance 55 = .ok (.ireturn, 1) := by decide +kernel
set_option maxRecDepth 20000 in
theorem ggX2_share_X2_isIn : GoodIn wsX2_share wsX2_isIn := goodIn_r _ [5] (by decide +kernel) (by decide +kernel)
set_option maxRecDepth 20000 in
theorem gX2_share_X2_isIn : GoodIn wsX2_share (va_wsS RX2 62 yX2_isIn wsX2_isIn) := goodIn_app (goodIn_of _ (by decide +kernel)) ggX2_share_X2_isIn
set_option maxRecDepth 20000 in
theorem ggX2_share_X2_holds : GoodIn wsX2_share wsX2_holds := goodIn_r _ [9, 10, 15, 16, 17, 18, 19, 20, 21, 22, 23, 24, 25, 26, 27, 28, 29, 30, 31] (by decide +kernel) (by decide +kernel)
set_option maxRecDepth 20000 in
theorem gX2_share_X2_holds : GoodIn wsX2_share (wsV RX2 66 RX2 yX2_holds wsX2_holds) := goodIn_app (goodIn_of _ (by decide +kernel)) ggX2_share_X2_holds
set_option maxRecDepth 20000 in
theorem ggX2_share_X2_allAreas : GoodIn wsX2_share wsX2_allAreas := goodIn_r _ [14, 1, 15, 16, 17, 18, 19, 20, 21, 22, 23, 24, 25, 26, 27, 28, 29, 30, 31] (by decide +kernel) (by decide +kernel)
set_option maxRecDepth 20000 in
theorem gX2_share_X2_allAreas : GoodIn wsX2_share (wsV RX2 98 RX2 yX2_allAreas wsX2_allAreas) := goodIn_app (goodIn_of _ (by decide +kernel)) ggX2_share_X2_allAreas
theorem dX2_share_0 : decode cX2_share 0 = .ok (.aload_n 0, 1) := by decide +kernel
theorem dX2_share_1 : decode cX2_share 1 = .ok (.iload_n 1, 1) := by decide +kernel
theorem dX2_share_2 : decode cX2_share 2 = .ok (.iconst 0, 1) := by decide +kernel
theorem dX2_share_3 : decode cX2_share 3 = .ok (.iconst 5, 1) := by decide +kernel
theorem dX2_share_4 : decode cX2_share 4 = .ok (.invokestatic 62, 3) := by decide +kernel
theorem dX2_share_7 : decode cX2_share 7 = .ok (.ifCond .eq 7, 3) := by decide +kernel
theorem dX2_share_10 : decode cX2_share 10 = .ok (.iconst 0, 1) := by decide +kernel
theorem dX2_share_11 : decode cX2_share 11 = .ok (.goto 4, 3) := by decide +kernel
theorem dX2_share_14 : decode cX2_share 14 = .ok (.iconst 1, 1) := by decide +kernel
theorem dX2_share_15 : decode cX2_share 15 = .ok (.invokevirtual 66, 3) := by decide +kernel
theorem dX2_share_18 : decode cX2_share 18 = .ok (.ifCond .eq 10, 3) := by decide +kernel
theorem dX2_share_21 : decode cX2_share 21 = .ok (.aload_n 0, 1) := by decide +kernel
theorem dX2_share_22 : decode cX2_share 22 = .ok (.invokevirtual 98, 3) := by decide +kernel
theorem dX2_share_25 : decode cX2_share 25 = .ok (.ifCond .ne 5, 3) := by decide +kernel
theorem dX2_share_28 : decode cX2_share 28 = .ok (.dconst 0, 1) := by decide +kernel
theorem dX2_share_29 : decode cX2_share 29 = .ok (.dreturn, 1) := by decide +kernel
theorem dX2_share_30 : decode cX2_share 30 = .ok (.aload_n 0, 1) := by decide +kernel
theorem dX2_share_31 : decode cX2_share 31 = .ok (.getfield 7, 3) := by decide +kernel
theorem dX2_share_34 : decode cX2_share 34 = .ok (.iload_n 1, 1) := by decide +kernel
theorem dX2_share_35 : decode cX2_share 35 = .ok (.iaload, 1) := by decide +kernel
theorem dX2_share_36 : decode cX2_share 36 = .ok (.i2d, 1) := by decide +kernel
theorem dX2_share_37 : decode cX2_share 37 = .ok (.aload_n 0, 1) := by decide +kernel
theorem dX2_share_38 : decode cX2_share 38 = .ok (.invokevirtual 98, 3) := by decide +kernel
theorem dX2_share_41 : decode cX2_share 41 = .ok (.i2d, 1) := by decide +kernel
theorem dX2_share_42 : decode cX2_share 42 = .ok (.ddiv, 1) := by decide +kernel
theorem dX2_share_43 : decode cX2_share 43 = .ok (.dreturn, 1) := by decide +kernel
end
section
theorem dJ9_max_7cf53_0 : decode cJ9_max_7cf53 0 = .ok (.iload_n 0, 1) := by decide +kernel
theorem dJ9_max_7cf53_1 : decode cJ9_max_7cf53 1 = .ok (.iload_n 1, 1) := by decide +kernel
theorem dJ9_max_7cf53_2 : decode cJ9_max_7cf53 2 = .ok (.if_icmp .lt 7, 3) := by decide +kernel
theorem dJ9_max_7cf53_5 : decode cJ9_max_7cf53 5 = .ok (.iload_n 0, 1) := by decide +kernel
theorem dJ9_max_7cf53_6 : decode cJ9_max_7cf53 6 = .ok (.goto 4, 3) := by decide +kernel
theorem dJ9_max_7cf53_9 : decode cJ9_max_7cf53 9 = .ok (.iload_n 1, 1) := by decide +kernel
theorem dJ9_max_7cf53_10 : decode cJ9_max_7cf53 10 = .ok (.ireturn, 1) := by decide +kernel
theorem dJ9_min_7cf53_0 : decode cJ9_min_7cf53 0 = .ok (.iload_n 0, 1) := by decide +kernel
theorem dJ9_min_7cf53_1 : decode cJ9_min_7cf53 1 = .ok (.iload_n 1, 1) := by decide +kernel
theorem dJ9_min_7cf53_2 : decode cJ9_min_7cf53 2 = .ok (.if_icmp .gt 7, 3) := by decide +kernel
theorem dJ9_min_7cf53_5 : decode cJ9_min_7cf53 5 = .ok (.iload_n 0, 1) := by decide +kernel
theorem dJ9_min_7cf53_6 : decode cJ9_min_7cf53 6 = .ok (.goto 4, 3) := by decide +kernel
theorem dJ9_min_7cf53_9 : decode cJ9_min_7cf53 9 = .ok (.iload_n 1, 1) := by decide +kernel
theorem dJ9_min_7cf53_10 : decode cJ9_min_7cf53 10 = .ok (.ireturn, 1) := by decide +kernel
set_option maxRecDepth 20000 in
theorem ggL_setArea_X1_setArea : GoodIn wsL_setArea wsX1_setArea := goodIn_ca (goodIn_ca (goodIn_r _ [7, 8, 9, 10, 6, 11, 12, 13, 14, 15, 16, 17, 18, 19, 20, 21, 22, 23] (by decide +kernel) (by decide +kernel)) (goodIn_sub (fun _ h => List.mem_cons_of_mem _ (List.mem_append_left _ (List.mem_append_right _ h))) (by decide +kernel))) (goodIn_sub (fun _ h => List.mem_cons_of_mem _ (List.mem_append_right _ h)) (by decide +kernel))
set_option maxRecDepth 20000 in
theorem gL_setArea_X1_setArea : GoodIn wsL_setArea (wsV RL 7 RX1 yX1_setArea wsX1_setArea) := goodIn_app (goodIn_of _ (by decide +kernel)) ggL_setArea_X1_setArea
theorem dL_setArea_0 : decode cL_setArea 0 = .ok (.aload_n 3, 1) := by decide +kernel
theorem dL_setArea_1 : decode cL_setArea 1 = .ok (.iconst 0, 1) := by decide +kernel
theorem dL_setArea_2 : decode cL_setArea 2 = .ok (.aload_n 0, 1) := by decide +kernel
theorem dL_setArea_3 : decode cL_setArea 3 = .ok (.iload_n 1, 1) := by decide +kernel
theorem dL_setArea_4 : decode cL_setArea 4 = .ok (.iload_n 2, 1) := by decide +kernel
theorem dL_setArea_5 : decode cL_setArea 5 = .ok (.invokevirtual 7, 3) := by decide +kernel
theorem dL_setArea_8 : decode cL_setArea 8 = .ok (.i2l, 1) := by decide +kernel
theorem dL_setArea_9 : decode cL_setArea 9 = .ok (.lastore, 1) := by decide +kernel
theorem dL_setArea_10 : decode cL_setArea 10 = .ok (.goto 11, 3) := by decide +kernel
theorem dL_setArea_13 : decode cL_setArea 13 = .ok (.astore 4, 2) := by decide +kernel
theorem dL_setArea_15 : decode cL_setArea 15 = .ok (.iconst 1, 1) := by decide +kernel
theorem dL_setArea_16 : decode cL_setArea 16 = .ok (.ireturn, 1) := by decide +kernel
theorem dL_setArea_17 : decode cL_setArea 17 = .ok (.astore 4, 2) := by decide +kernel
theorem dL_setArea_19 : decode cL_setArea 19 = .ok (.iconst 2, 1) := by decide +kernel
theorem dL_setArea_20 : decode cL_setArea 20 = .ok (.ireturn, 1) := by decide +kernel
theorem dL_setArea_21 : decode cL_setArea 21 = .ok (.iconst 0, 1) := by decide +kernel
theorem dL_setArea_22 : decode cL_setArea 22 = .ok (.ireturn, 1) := by decide +kernel
set_option maxRecDepth 20000 in
theorem ggL_setIndex_X1_setIndex : GoodIn wsL_setIndex wsX1_setIndex := goodIn_ca (goodIn_ca (goodIn_r _ [7, 8, 9, 10, 6, 11, 12, 13, 14, 15, 16, 17, 18, 19, 20, 21, 22, 23] (by decide +kernel) (by decide +kernel)) (goodIn_sub (fun _ h => List.mem_cons_of_mem _ (List.mem_append_left _ (List.mem_append_right _ h))) (by decide +kernel))) (goodIn_sub (fun _ h => List.mem_cons_of_mem _ (List.mem_append_right _ h)) (by decide +kernel))
set_option maxRecDepth 20000 in
theorem gL_setIndex_X1_setIndex : GoodIn wsL_setIndex (wsV RL 17 RX1 yX1_setIndex wsX1_setIndex) := goodIn_app (goodIn_of _ (by decide +kernel)) ggL_setIndex_X1_setIndex
theorem dL_setIndex_0 : decode cL_setIndex 0 = .ok (.aload_n 3, 1) := by decide +kernel
theorem dL_setIndex_1 : decode cL_setIndex 1 = .ok (.iconst 0, 1) := by decide +kernel
theorem dL_setIndex_2 : decode cL_setIndex 2 = .ok (.aload_n 0, 1) := by decide +kernel
theorem dL_setIndex_3 : decode cL_setIndex 3 = .ok (.iload_n 1, 1) := by decide +kernel
theorem dL_setIndex_4 : decode cL_setIndex 4 = .ok (.iload_n 2, 1) := by decide +kernel
theorem dL_setIndex_5 : decode cL_setIndex 5 = .ok (.invokevirtual 17, 3) := by decide +kernel
theorem dL_setIndex_8 : decode cL_setIndex 8 = .ok (.i2l, 1) := by decide +kernel
theorem dL_setIndex_9 : decode cL_setIndex 9 = .ok (.lastore, 1) := by decide +kernel
theorem dL_setIndex_10 : decode cL_setIndex 10 = .ok (.goto 11, 3) := by decide +kernel
theorem dL_setIndex_13 : decode cL_setIndex 13 = .ok (.astore 4, 2) := by decide +kernel
theorem dL_setIndex_15 : decode cL_setIndex 15 = .ok (.iconst 1, 1) := by decide +kernel
theorem dL_setIndex_16 : decode cL_setIndex 16 = .ok (.ireturn, 1) := by decide +kernel
theorem dL_setIndex_17 : decode cL_setIndex 17 = .ok (.astore 4, 2) := by decide +kernel
theorem dL_setIndex_19 : decode cL_setIndex 19 = .ok (.iconst 2, 1) := by decide +kernel
theorem dL_setIndex_20 : decode cL_setIndex 20 = .ok (.ireturn, 1) := by decide +kernel
theorem dL_setIndex_21 : decode cL_setIndex 21 = .ok (.iconst 0, 1) := by decide +kernel
theorem dL_setIndex_22 : decode cL_setIndex 22 = .ok (.ireturn, 1) := by decide +kernel
set_option maxRecDepth 20000 in
theorem ggL_setCost_X1_setCost : GoodIn wsL_setCost wsX1_setCost := goodIn_ca (goodIn_ca (goodIn_r _ [7, 8, 9, 10, 11, 6, 12, 13, 14, 15, 16, 17, 18, 19, 20, 21, 22, 23, 24] (by decide +kernel) (by decide +kernel)) (goodIn_sub (fun _ h => List.mem_cons_of_mem _ (List.mem_append_left _ (List.mem_append_right _ h))) (by decide +kernel))) (goodIn_sub (fun _ h => List.mem_cons_of_mem _ (List.mem_append_right _ h)) (by decide +kernel))
set_option maxRecDepth 20000 in
theorem gL_setCost_X1_setCost : GoodIn wsL_setCost (wsV RL 20 RX1 yX1_setCost wsX1_setCost) := goodIn_app (goodIn_of _ (by decide +kernel)) ggL_setCost_X1_setCost
theorem dL_setCost_0 : decode cL_setCost 0 = .ok (.aload_n 3, 1) := by decide +kernel
theorem dL_setCost_1 : decode cL_setCost 1 = .ok (.iconst 0, 1) := by decide +kernel
theorem dL_setCost_2 : decode cL_setCost 2 = .ok (.aload_n 0, 1) := by decide +kernel
theorem dL_setCost_3 : decode cL_setCost 3 = .ok (.iload_n 1, 1) := by decide +kernel
theorem dL_setCost_4 : decode cL_setCost 4 = .ok (.iload_n 2, 1) := by decide +kernel
theorem dL_setCost_5 : decode cL_setCost 5 = .ok (.invokevirtual 20, 3) := by decide +kernel
theorem dL_setCost_8 : decode cL_setCost 8 = .ok (.i2l, 1) := by decide +kernel
theorem dL_setCost_9 : decode cL_setCost 9 = .ok (.lastore, 1) := by decide +kernel
theorem dL_setCost_10 : decode cL_setCost 10 = .ok (.goto 11, 3) := by decide +kernel
theorem dL_setCost_13 : decode cL_setCost 13 = .ok (.astore 4, 2) := by decide +kernel
theorem dL_setCost_15 : decode cL_setCost 15 = .ok (.iconst 1, 1) := by decide +kernel
theorem dL_setCost_16 : decode cL_setCost 16 = .ok (.ireturn, 1) := by decide +kernel
theorem dL_setCost_17 : decode cL_setCost 17 = .ok (.astore 4, 2) := by decide +kernel
theorem dL_setCost_19 : decode cL_setCost 19 = .ok (.iconst 2, 1) := by decide +kernel
theorem dL_setCost_20 : decode cL_setCost 20 = .ok (.ireturn, 1) := by decide +kernel
theorem dL_setCost_21 : decode cL_setCost 21 = .ok (.iconst 0, 1) := by decide +kernel
theorem dL_setCost_22 : decode cL_setCost 22 = .ok (.ireturn, 1) := by decide +kernel
set_option maxRecDepth 20000 in
theorem ggL_let_X1_let : GoodIn wsL_let wsX1_let := goodIn_ca (goodIn_ca (goodIn_ca (goodIn_r _ [8, 9, 10, 11, 12, 13, 14, 15, 16, 17, 18, 19, 7, 20, 21, 22, 23, 24, 25, 26, 27, 28, 29, 30, 31, 32, 33, 34, 35, 36, 37, 38, 39, 40, 41, 42, 43, 44, 45, 46, 47, 48, 49, 50, 51, 52, 53, 54, 55, 56, 57, 58, 59, 60, 61, 62, 63, 64, 65, 66, 67, 68, 69, 70, 71, 72, 73, 74, 75, 76, 77, 78] (by decide +kernel) (by decide +kernel)) (goodIn_sub (fun _ h => List.mem_cons_of_mem _ (List.mem_append_left _ (List.mem_append_left _ (List.mem_append_right _ h)))) (by decide +kernel))) (goodIn_sub (fun _ h => List.mem_cons_of_mem _ (List.mem_append_left _ (List.mem_append_right _ h))) (by decide +kernel))) (goodIn_sub (fun _ h => List.mem_cons_of_mem _ (List.mem_append_right _ h)) (by decide +kernel))
set_option maxRecDepth 20000 in
theorem gL_let_X1_let : GoodIn wsL_let (wsV RL 23 RX1 yX1_let wsX1_let) := goodIn_app (goodIn_of _ (by decide +kernel)) ggL_let_X1_let
theorem dL_let_0 : decode cL_let 0 = .ok (.aload 5, 2) := by decide +kernel
theorem dL_let_2 : decode cL_let 2 = .ok (.iconst 0, 1) := by decide +kernel
theorem dL_let_3 : decode cL_let 3 = .ok (.aload_n 0, 1) := by decide +kernel
theorem dL_let_4 : decode cL_let 4 = .ok (.iload_n 1, 1) := by decide +kernel
theorem dL_let_5 : decode cL_let 5 = .ok (.iload_n 2, 1) := by decide +kernel
theorem dL_let_6 : decode cL_let 6 = .ok (.iload_n 3, 1) := by decide +kernel
theorem dL_let_7 : decode cL_let 7 = .ok (.iload 4, 2) := by decide +kernel
theorem dL_let_9 : decode cL_let 9 = .ok (.invokevirtual 23, 3) := by decide +kernel
theorem dL_let_12 : decode cL_let 12 = .ok (.i2l, 1) := by decide +kernel
theorem dL_let_13 : decode cL_let 13 = .ok (.lastore, 1) := by decide +kernel
theorem dL_let_14 : decode cL_let 14 = .ok (.goto 15, 3) := by decide +kernel
theorem dL_let_17 : decode cL_let 17 = .ok (.astore 6, 2) := by decide +kernel
theorem dL_let_19 : decode cL_let 19 = .ok (.iconst 1, 1) := by decide +kernel
theorem dL_let_20 : decode cL_let 20 = .ok (.ireturn, 1) := by decide +kernel
theorem dL_let_21 : decode cL_let 21 = .ok (.astore 6, 2) := by decide +kernel
theorem dL_let_23 : decode cL_let 23 = .ok (.iconst 2, 1) := by decide +kernel
theorem dL_let_24 : decode cL_let 24 = .ok (.ireturn, 1) := by decide +kernel
theorem dL_let_25 : decode cL_let 25 = .ok (.astore 6, 2) := by decide +kernel
theorem dL_let_27 : decode cL_let 27 = .ok (.iconst 3, 1) := by decide +kernel
theorem dL_let_28 : decode cL_let 28 = .ok (.ireturn, 1) := by decide +kernel
theorem dL_let_29 : decode cL_let 29 = .ok (.iconst 0, 1) := by decide +kernel
theorem dL_let_30 : decode cL_let 30 = .ok (.ireturn, 1) := by decide +kernel
set_option maxRecDepth 20000 in
theorem ggL_end_X1_end : GoodIn wsL_end wsX1_end := goodIn_ca (goodIn_ca (goodIn_r _ [7, 8, 9, 10, 6, 11, 12, 13, 14, 15, 16, 17, 18, 19, 20, 21, 22, 23, 24, 25, 26, 27, 28, 29, 30, 31, 32, 33, 34, 35, 36, 37, 38, 39] (by decide +kernel) (by decide +kernel)) (goodIn_sub (fun _ h => List.mem_cons_of_mem _ (List.mem_append_left _ (List.mem_append_right _ h))) (by decide +kernel))) (goodIn_sub (fun _ h => List.mem_cons_of_mem _ (List.mem_append_right _ h)) (by decide +kernel))
set_option maxRecDepth 20000 in
theorem gL_end_X1_end : GoodIn wsL_end (wsV RL 29 RX1 yX1_end wsX1_end) := goodIn_app (goodIn_of _ (by decide +kernel)) ggL_end_X1_end
theorem dL_end_0 : decode cL_end 0 = .ok (.aload_n 3, 1) := by decide +kernel
theorem dL_end_1 : decode cL_end 1 = .ok (.iconst 0, 1) := by decide +kernel
theorem dL_end_2 : decode cL_end 2 = .ok (.aload_n 0, 1) := by decide +kernel
theorem dL_end_3 : decode cL_end 3 = .ok (.iload_n 1, 1) := by decide +kernel
theorem dL_end_4 : decode cL_end 4 = .ok (.iload_n 2, 1) := by decide +kernel
theorem dL_end_5 : decode cL_end 5 = .ok (.invokevirtual 29, 3) := by decide +kernel
theorem dL_end_8 : decode cL_end 8 = .ok (.i2l, 1) := by decide +kernel
theorem dL_end_9 : decode cL_end 9 = .ok (.lastore, 1) := by decide +kernel
theorem dL_end_10 : decode cL_end 10 = .ok (.goto 11, 3) := by decide +kernel
theorem dL_end_13 : decode cL_end 13 = .ok (.astore 4, 2) := by decide +kernel
theorem dL_end_15 : decode cL_end 15 = .ok (.iconst 1, 1) := by decide +kernel
theorem dL_end_16 : decode cL_end 16 = .ok (.ireturn, 1) := by decide +kernel
theorem dL_end_17 : decode cL_end 17 = .ok (.astore 4, 2) := by decide +kernel
theorem dL_end_19 : decode cL_end 19 = .ok (.iconst 2, 1) := by decide +kernel
theorem dL_end_20 : decode cL_end 20 = .ok (.ireturn, 1) := by decide +kernel
theorem dL_end_21 : decode cL_end 21 = .ok (.iconst 0, 1) := by decide +kernel
theorem dL_end_22 : decode cL_end 22 = .ok (.ireturn, 1) := by decide +kernel
set_option maxRecDepth 20000 in
theorem ggL_step_X1_step : GoodIn wsL_step wsX1_step := goodIn_ca (goodIn_ca (goodIn_ca (goodIn_r _ [8, 9, 10, 11, 12, 13, 14, 7, 15, 16, 17, 18, 19, 20, 21, 22, 23, 24, 25, 26, 27, 28, 29, 30, 31, 32, 33, 34, 35, 36, 37, 38, 39, 40, 41, 42, 43, 44, 45, 46, 47, 48, 49, 50, 51, 52, 53, 54, 55] (by decide +kernel) (by decide +kernel)) (goodIn_sub (fun _ h => List.mem_cons_of_mem _ (List.mem_append_left _ (List.mem_append_left _ (List.mem_append_right _ h)))) (by decide +kernel))) (goodIn_sub (fun _ h => List.mem_cons_of_mem _ (List.mem_append_left _ (List.mem_append_right _ h))) (by decide +kernel))) (goodIn_sub (fun _ h => List.mem_cons_of_mem _ (List.mem_append_right _ h)) (by decide +kernel))
set_option maxRecDepth 20000 in
theorem gL_step_X1_step : GoodIn wsL_step (wsV RL 32 RX1 yX1_step wsX1_step) := goodIn_app (goodIn_of _ (by decide +kernel)) ggL_step_X1_step
theorem dL_step_0 : decode cL_step 0 = .ok (.aload 4, 2) := by decide +kernel
theorem dL_step_2 : decode cL_step 2 = .ok (.iconst 0, 1) := by decide +kernel
theorem dL_step_3 : decode cL_step 3 = .ok (.aload_n 0, 1) := by decide +kernel
theorem dL_step_4 : decode cL_step 4 = .ok (.iload_n 1, 1) := by decide +kernel
theorem dL_step_5 : decode cL_step 5 = .ok (.iload_n 2, 1) := by decide +kernel
theorem dL_step_6 : decode cL_step 6 = .ok (.iload_n 3, 1) := by decide +kernel
theorem dL_step_7 : decode cL_step 7 = .ok (.invokevirtual 32, 3) := by decide +kernel
theorem dL_step_10 : decode cL_step 10 = .ok (.i2l, 1) := by decide +kernel
theorem dL_step_11 : decode cL_step 11 = .ok (.lastore, 1) := by decide +kernel
theorem dL_step_12 : decode cL_step 12 = .ok (.goto 15, 3) := by decide +kernel
theorem dL_step_15 : decode cL_step 15 = .ok (.astore 5, 2) := by decide +kernel
theorem dL_step_17 : decode cL_step 17 = .ok (.iconst 1, 1) := by decide +kernel
theorem dL_step_18 : decode cL_step 18 = .ok (.ireturn, 1) := by decide +kernel
theorem dL_step_19 : decode cL_step 19 = .ok (.astore 5, 2) := by decide +kernel
theorem dL_step_21 : decode cL_step 21 = .ok (.iconst 2, 1) := by decide +kernel
theorem dL_step_22 : decode cL_step 22 = .ok (.ireturn, 1) := by decide +kernel
theorem dL_step_23 : decode cL_step 23 = .ok (.astore 5, 2) := by decide +kernel
theorem dL_step_25 : decode cL_step 25 = .ok (.iconst 3, 1) := by decide +kernel
theorem dL_step_26 : decode cL_step 26 = .ok (.ireturn, 1) := by decide +kernel
theorem dL_step_27 : decode cL_step 27 = .ok (.iconst 0, 1) := by decide +kernel
theorem dL_step_28 : decode cL_step 28 = .ok (.ireturn, 1) := by decide +kernel
set_option maxRecDepth 20000 in
theorem ggL_setTerms_X1_setTerms : GoodIn wsL_setTerms wsX1_setTerms := goodIn_ca (goodIn_ca (goodIn_r _ [7, 8, 9, 10, 6, 11, 12, 13, 14, 15, 16, 17, 18, 19, 20, 21, 22, 23, 24, 25, 26, 27, 28, 29, 30, 31, 32, 33, 34, 35, 36, 37, 38, 39] (by decide +kernel) (by decide +kernel)) (goodIn_sub (fun _ h => List.mem_cons_of_mem _ (List.mem_append_left _ (List.mem_append_right _ h))) (by decide +kernel))) (goodIn_sub (fun _ h => List.mem_cons_of_mem _ (List.mem_append_right _ h)) (by decide +kernel))
set_option maxRecDepth 20000 in
theorem gL_setTerms_X1_setTerms : GoodIn wsL_setTerms (wsV RL 36 RX1 yX1_setTerms wsX1_setTerms) := goodIn_app (goodIn_of _ (by decide +kernel)) ggL_setTerms_X1_setTerms
theorem dL_setTerms_0 : decode cL_setTerms 0 = .ok (.aload_n 0, 1) := by decide +kernel
theorem dL_setTerms_1 : decode cL_setTerms 1 = .ok (.iload_n 1, 1) := by decide +kernel
theorem dL_setTerms_2 : decode cL_setTerms 2 = .ok (.iload_n 2, 1) := by decide +kernel
theorem dL_setTerms_3 : decode cL_setTerms 3 = .ok (.iload_n 3, 1) := by decide +kernel
theorem dL_setTerms_4 : decode cL_setTerms 4 = .ok (.invokevirtual 36, 3) := by decide +kernel
theorem dL_setTerms_7 : decode cL_setTerms 7 = .ok (.goto 11, 3) := by decide +kernel
theorem dL_setTerms_10 : decode cL_setTerms 10 = .ok (.astore 4, 2) := by decide +kernel
theorem dL_setTerms_12 : decode cL_setTerms 12 = .ok (.iconst 1, 1) := by decide +kernel
theorem dL_setTerms_13 : decode cL_setTerms 13 = .ok (.ireturn, 1) := by decide +kernel
theorem dL_setTerms_14 : decode cL_setTerms 14 = .ok (.astore 4, 2) := by decide +kernel
theorem dL_setTerms_16 : decode cL_setTerms 16 = .ok (.iconst 2, 1) := by decide +kernel
theorem dL_setTerms_17 : decode cL_setTerms 17 = .ok (.ireturn, 1) := by decide +kernel
theorem dL_setTerms_18 : decode cL_setTerms 18 = .ok (.iconst 0, 1) := by decide +kernel
theorem dL_setTerms_19 : decode cL_setTerms 19 = .ok (.ireturn, 1) := by decide +kernel
set_option maxRecDepth 20000 in
theorem ggL_setService_X1_setService : GoodIn wsL_setService wsX1_setService := goodIn_ca (goodIn_ca (goodIn_r _ [7, 8, 9, 10, 11, 6, 12, 13, 14, 15, 16, 17, 18, 19, 20, 21, 22, 23, 24, 25, 26, 27, 28, 29, 30, 31, 32, 33, 34, 35, 36, 37, 38, 39, 40] (by decide +kernel) (by decide +kernel)) (goodIn_sub (fun _ h => List.mem_cons_of_mem _ (List.mem_append_left _ (List.mem_append_right _ h))) (by decide +kernel))) (goodIn_sub (fun _ h => List.mem_cons_of_mem _ (List.mem_append_right _ h)) (by decide +kernel))
set_option maxRecDepth 20000 in
theorem gL_setService_X1_setService : GoodIn wsL_setService (wsV RL 40 RX1 yX1_setService wsX1_setService) := goodIn_app (goodIn_of _ (by decide +kernel)) ggL_setService_X1_setService
theorem dL_setService_0 : decode cL_setService 0 = .ok (.aload_n 0, 1) := by decide +kernel
theorem dL_setService_1 : decode cL_setService 1 = .ok (.iload_n 1, 1) := by decide +kernel
theorem dL_setService_2 : decode cL_setService 2 = .ok (.iload_n 2, 1) := by decide +kernel
theorem dL_setService_3 : decode cL_setService 3 = .ok (.iload_n 3, 1) := by decide +kernel
theorem dL_setService_4 : decode cL_setService 4 = .ok (.invokevirtual 40, 3) := by decide +kernel
theorem dL_setService_7 : decode cL_setService 7 = .ok (.goto 11, 3) := by decide +kernel
theorem dL_setService_10 : decode cL_setService 10 = .ok (.astore 4, 2) := by decide +kernel
theorem dL_setService_12 : decode cL_setService 12 = .ok (.iconst 1, 1) := by decide +kernel
theorem dL_setService_13 : decode cL_setService 13 = .ok (.ireturn, 1) := by decide +kernel
theorem dL_setService_14 : decode cL_setService 14 = .ok (.astore 4, 2) := by decide +kernel
theorem dL_setService_16 : decode cL_setService 16 = .ok (.iconst 2, 1) := by decide +kernel
theorem dL_setService_17 : decode cL_setService 17 = .ok (.ireturn, 1) := by decide +kernel
theorem dL_setService_18 : decode cL_setService 18 = .ok (.iconst 0, 1) := by decide +kernel
theorem dL_setService_19 : decode cL_setService 19 = .ok (.ireturn, 1) := by decide +kernel
set_option maxRecDepth 20000 in
theorem ggL_topUp_X1_topUp : GoodIn wsL_topUp wsX1_topUp := goodIn_ca (goodIn_ca (goodIn_r _ [7, 8, 9, 10, 11, 12, 13, 14, 6, 15, 16, 17, 18, 19, 20, 21, 22, 23, 24, 25, 26, 27, 28, 29, 30, 31, 32, 33, 34, 35, 36, 37, 38, 39, 40, 41, 42, 43, 44, 45, 46, 47, 48, 49, 50, 51, 52, 53, 54, 55, 56, 57, 58, 59, 60, 61, 62, 63, 64, 65, 66, 67, 68, 69, 70, 71, 72, 73, 74, 75, 76, 77, 78, 79, 80] (by decide +kernel) (by decide +kernel)) (goodIn_sub (fun _ h => List.mem_cons_of_mem _ (List.mem_append_left _ (List.mem_append_right _ h))) (by decide +kernel))) (goodIn_sub (fun _ h => List.mem_cons_of_mem _ (List.mem_append_right _ h)) (by decide +kernel))
set_option maxRecDepth 20000 in
theorem gL_topUp_X1_topUp : GoodIn wsL_topUp (wsV RL 43 RX1 yX1_topUp wsX1_topUp) := goodIn_app (goodIn_of _ (by decide +kernel)) ggL_topUp_X1_topUp
theorem dL_topUp_0 : decode cL_topUp 0 = .ok (.aload 4, 2) := by decide +kernel
theorem dL_topUp_2 : decode cL_topUp 2 = .ok (.iconst 0, 1) := by decide +kernel
theorem dL_topUp_3 : decode cL_topUp 3 = .ok (.aload_n 0, 1) := by decide +kernel
theorem dL_topUp_4 : decode cL_topUp 4 = .ok (.iload_n 1, 1) := by decide +kernel
theorem dL_topUp_5 : decode cL_topUp 5 = .ok (.iload_n 2, 1) := by decide +kernel
theorem dL_topUp_6 : decode cL_topUp 6 = .ok (.iload_n 3, 1) := by decide +kernel
theorem dL_topUp_7 : decode cL_topUp 7 = .ok (.invokevirtual 43, 3) := by decide +kernel
theorem dL_topUp_10 : decode cL_topUp 10 = .ok (.i2l, 1) := by decide +kernel
theorem dL_topUp_11 : decode cL_topUp 11 = .ok (.lastore, 1) := by decide +kernel
theorem dL_topUp_12 : decode cL_topUp 12 = .ok (.goto 11, 3) := by decide +kernel
theorem dL_topUp_15 : decode cL_topUp 15 = .ok (.astore 5, 2) := by decide +kernel
theorem dL_topUp_17 : decode cL_topUp 17 = .ok (.iconst 1, 1) := by decide +kernel
theorem dL_topUp_18 : decode cL_topUp 18 = .ok (.ireturn, 1) := by decide +kernel
theorem dL_topUp_19 : decode cL_topUp 19 = .ok (.astore 5, 2) := by decide +kernel
theorem dL_topUp_21 : decode cL_topUp 21 = .ok (.iconst 2, 1) := by decide +kernel
theorem dL_topUp_22 : decode cL_topUp 22 = .ok (.ireturn, 1) := by decide +kernel
theorem dL_topUp_23 : decode cL_topUp 23 = .ok (.iconst 0, 1) := by decide +kernel
theorem dL_topUp_24 : decode cL_topUp 24 = .ok (.ireturn, 1) := by decide +kernel
set_option maxRecDepth 20000 in
theorem ggL_draw_X1_draw : GoodIn wsL_draw wsX1_draw := goodIn_ca (goodIn_ca (goodIn_ca (goodIn_r _ [8, 9, 10, 11, 12, 13, 14, 7, 15, 16, 17, 18, 19, 20, 21, 22, 23, 24, 25, 26, 27, 28, 29, 30, 31, 32, 33, 34, 35, 36, 37, 38, 39, 40, 41, 42, 43] (by decide +kernel) (by decide +kernel)) (goodIn_sub (fun _ h => List.mem_cons_of_mem _ (List.mem_append_left _ (List.mem_append_left _ (List.mem_append_right _ h)))) (by decide +kernel))) (goodIn_sub (fun _ h => List.mem_cons_of_mem _ (List.mem_append_left _ (List.mem_append_right _ h))) (by decide +kernel))) (goodIn_sub (fun _ h => List.mem_cons_of_mem _ (List.mem_append_right _ h)) (by decide +kernel))
set_option maxRecDepth 20000 in
theorem gL_draw_X1_draw : GoodIn wsL_draw (wsV RL 46 RX1 yX1_draw wsX1_draw) := goodIn_app (goodIn_of _ (by decide +kernel)) ggL_draw_X1_draw
theorem dL_draw_0 : decode cL_draw 0 = .ok (.aload_n 3, 1) := by decide +kernel
theorem dL_draw_1 : decode cL_draw 1 = .ok (.iconst 0, 1) := by decide +kernel
theorem dL_draw_2 : decode cL_draw 2 = .ok (.aload_n 0, 1) := by decide +kernel
theorem dL_draw_3 : decode cL_draw 3 = .ok (.iload_n 1, 1) := by decide +kernel
theorem dL_draw_4 : decode cL_draw 4 = .ok (.iload_n 2, 1) := by decide +kernel
theorem dL_draw_5 : decode cL_draw 5 = .ok (.invokevirtual 46, 3) := by decide +kernel
theorem dL_draw_8 : decode cL_draw 8 = .ok (.i2l, 1) := by decide +kernel
theorem dL_draw_9 : decode cL_draw 9 = .ok (.lastore, 1) := by decide +kernel
theorem dL_draw_10 : decode cL_draw 10 = .ok (.goto 15, 3) := by decide +kernel
theorem dL_draw_13 : decode cL_draw 13 = .ok (.astore 4, 2) := by decide +kernel
theorem dL_draw_15 : decode cL_draw 15 = .ok (.iconst 1, 1) := by decide +kernel
theorem dL_draw_16 : decode cL_draw 16 = .ok (.ireturn, 1) := by decide +kernel
theorem dL_draw_17 : decode cL_draw 17 = .ok (.astore 4, 2) := by decide +kernel
theorem dL_draw_19 : decode cL_draw 19 = .ok (.iconst 2, 1) := by decide +kernel
theorem dL_draw_20 : decode cL_draw 20 = .ok (.ireturn, 1) := by decide +kernel
theorem dL_draw_21 : decode cL_draw 21 = .ok (.astore 4, 2) := by decide +kernel
theorem dL_draw_23 : decode cL_draw 23 = .ok (.iconst 3, 1) := by decide +kernel
theorem dL_draw_24 : decode cL_draw 24 = .ok (.ireturn, 1) := by decide +kernel
theorem dL_draw_25 : decode cL_draw 25 = .ok (.iconst 0, 1) := by decide +kernel
theorem dL_draw_26 : decode cL_draw 26 = .ok (.ireturn, 1) := by decide +kernel
set_option maxRecDepth 20000 in
theorem ggL_held_X1_held : GoodIn wsL_held wsX1_held := goodIn_ca (goodIn_r _ [6, 7, 8, 9, 5, 10, 11, 12, 13, 14, 15, 16, 17, 18, 19, 20, 21, 22, 23, 24, 25, 26, 27, 28, 29, 30, 31, 32, 33] (by decide +kernel) (by decide +kernel)) (goodIn_sub (fun _ h => List.mem_cons_of_mem _ (List.mem_append_right _ h)) (by decide +kernel))
set_option maxRecDepth 20000 in
theorem gL_held_X1_held : GoodIn wsL_held (wsV RL 49 RX1 yX1_held wsX1_held) := goodIn_app (goodIn_of _ (by decide +kernel)) ggL_held_X1_held
theorem dL_held_0 : decode cL_held 0 = .ok (.aload_n 2, 1) := by decide +kernel
theorem dL_held_1 : decode cL_held 1 = .ok (.iconst 0, 1) := by decide +kernel
theorem dL_held_2 : decode cL_held 2 = .ok (.aload_n 0, 1) := by decide +kernel
theorem dL_held_3 : decode cL_held 3 = .ok (.iload_n 1, 1) := by decide +kernel
theorem dL_held_4 : decode cL_held 4 = .ok (.invokevirtual 49, 3) := by decide +kernel
theorem dL_held_7 : decode cL_held 7 = .ok (.i2l, 1) := by decide +kernel
theorem dL_held_8 : decode cL_held 8 = .ok (.lastore, 1) := by decide +kernel
theorem dL_held_9 : decode cL_held 9 = .ok (.goto 6, 3) := by decide +kernel
theorem dL_held_12 : decode cL_held 12 = .ok (.astore_n 3, 1) := by decide +kernel
theorem dL_held_13 : decode cL_held 13 = .ok (.iconst 1, 1) := by decide +kernel
theorem dL_held_14 : decode cL_held 14 = .ok (.ireturn, 1) := by decide +kernel
theorem dL_held_15 : decode cL_held 15 = .ok (.iconst 0, 1) := by decide +kernel
theorem dL_held_16 : decode cL_held 16 = .ok (.ireturn, 1) := by decide +kernel
set_option maxRecDepth 20000 in
theorem ggL_leaseOn_X1_leaseOn : GoodIn wsL_leaseOn wsX1_leaseOn := goodIn_ca (goodIn_r _ [6, 7, 8, 9, 10, 5, 11, 12, 13, 14, 15, 16, 17, 18, 19, 20, 21, 22, 23, 24, 25, 26, 27, 28, 29, 30, 31, 32, 33, 34, 35, 36, 37] (by decide +kernel) (by decide +kernel)) (goodIn_sub (fun _ h => List.mem_cons_of_mem _ (List.mem_append_right _ h)) (by decide +kernel))
set_option maxRecDepth 20000 in
theorem gL_leaseOn_X1_leaseOn : GoodIn wsL_leaseOn (wsV RL 53 RX1 yX1_leaseOn wsX1_leaseOn) := goodIn_app (goodIn_of _ (by decide +kernel)) ggL_leaseOn_X1_leaseOn
theorem dL_leaseOn_0 : decode cL_leaseOn 0 = .ok (.aload_n 3, 1) := by decide +kernel
theorem dL_leaseOn_1 : decode cL_leaseOn 1 = .ok (.iconst 0, 1) := by decide +kernel
theorem dL_leaseOn_2 : decode cL_leaseOn 2 = .ok (.aload_n 0, 1) := by decide +kernel
theorem dL_leaseOn_3 : decode cL_leaseOn 3 = .ok (.iload_n 1, 1) := by decide +kernel
theorem dL_leaseOn_4 : decode cL_leaseOn 4 = .ok (.iload_n 2, 1) := by decide +kernel
theorem dL_leaseOn_5 : decode cL_leaseOn 5 = .ok (.invokevirtual 53, 3) := by decide +kernel
theorem dL_leaseOn_8 : decode cL_leaseOn 8 = .ok (.i2l, 1) := by decide +kernel
theorem dL_leaseOn_9 : decode cL_leaseOn 9 = .ok (.lastore, 1) := by decide +kernel
theorem dL_leaseOn_10 : decode cL_leaseOn 10 = .ok (.goto 7, 3) := by decide +kernel
theorem dL_leaseOn_13 : decode cL_leaseOn 13 = .ok (.astore 4, 2) := by decide +kernel
theorem dL_leaseOn_15 : decode cL_leaseOn 15 = .ok (.iconst 1, 1) := by decide +kernel
theorem dL_leaseOn_16 : decode cL_leaseOn 16 = .ok (.ireturn, 1) := by decide +kernel
theorem dL_leaseOn_17 : decode cL_leaseOn 17 = .ok (.iconst 0, 1) := by decide +kernel
theorem dL_leaseOn_18 : decode cL_leaseOn 18 = .ok (.ireturn, 1) := by decide +kernel
set_option maxRecDepth 20000 in
theorem ggL_rentOn_X1_rentOn : GoodIn wsL_rentOn wsX1_rentOn := goodIn_ca (goodIn_r _ [6, 7, 8, 9, 5, 10, 11, 12, 13, 14, 15, 16, 17, 18, 19, 20, 21, 22, 23, 24, 25, 26, 27, 28, 29, 30, 31, 32, 33, 34, 35, 36, 37, 38, 39, 40, 41, 42, 43, 44, 45, 46, 47, 48, 49, 50, 51, 52, 53, 54, 55, 56, 57, 58, 59, 60, 61, 62, 63, 64, 65, 66, 67, 68, 69, 70, 71, 72, 73, 74] (by decide +kernel) (by decide +kernel)) (goodIn_sub (fun _ h => List.mem_cons_of_mem _ (List.mem_append_right _ h)) (by decide +kernel))
set_option maxRecDepth 20000 in
theorem gL_rentOn_X1_rentOn : GoodIn wsL_rentOn (wsV RL 56 RX1 yX1_rentOn wsX1_rentOn) := goodIn_app (goodIn_of _ (by decide +kernel)) ggL_rentOn_X1_rentOn
theorem dL_rentOn_0 : decode cL_rentOn 0 = .ok (.aload_n 3, 1) := by decide +kernel
theorem dL_rentOn_1 : decode cL_rentOn 1 = .ok (.iconst 0, 1) := by decide +kernel
theorem dL_rentOn_2 : decode cL_rentOn 2 = .ok (.aload_n 0, 1) := by decide +kernel
theorem dL_rentOn_3 : decode cL_rentOn 3 = .ok (.iload_n 1, 1) := by decide +kernel
theorem dL_rentOn_4 : decode cL_rentOn 4 = .ok (.iload_n 2, 1) := by decide +kernel
theorem dL_rentOn_5 : decode cL_rentOn 5 = .ok (.invokevirtual 56, 3) := by decide +kernel
theorem dL_rentOn_8 : decode cL_rentOn 8 = .ok (.i2l, 1) := by decide +kernel
theorem dL_rentOn_9 : decode cL_rentOn 9 = .ok (.lastore, 1) := by decide +kernel
theorem dL_rentOn_10 : decode cL_rentOn 10 = .ok (.goto 7, 3) := by decide +kernel
theorem dL_rentOn_13 : decode cL_rentOn 13 = .ok (.astore 4, 2) := by decide +kernel
theorem dL_rentOn_15 : decode cL_rentOn 15 = .ok (.iconst 1, 1) := by decide +kernel
theorem dL_rentOn_16 : decode cL_rentOn 16 = .ok (.ireturn, 1) := by decide +kernel
theorem dL_rentOn_17 : decode cL_rentOn 17 = .ok (.iconst 0, 1) := by decide +kernel
theorem dL_rentOn_18 : decode cL_rentOn 18 = .ok (.ireturn, 1) := by decide +kernel
set_option maxRecDepth 20000 in
theorem ggL_bill_X1_bill : GoodIn wsL_bill wsX1_bill := goodIn_ca (goodIn_r _ [6, 7, 8, 9, 5, 10, 11, 12, 13, 14, 15, 16, 17, 18, 19, 20, 21, 22, 23, 24, 25, 26, 27, 28, 29, 30, 31, 32, 33, 34, 35, 36, 37, 38, 39, 40, 41, 42, 43, 44, 45, 46, 47, 48, 49, 50, 51, 52, 53, 54, 55, 56, 57, 58, 59, 60, 61, 62, 63, 64, 65, 66, 67, 68, 69, 70, 71, 72, 73, 74, 75, 76, 77, 78, 79, 80, 81, 82, 83, 84, 85, 86, 87, 88, 89] (by decide +kernel) (by decide +kernel)) (goodIn_sub (fun _ h => List.mem_cons_of_mem _ (List.mem_append_right _ h)) (by decide +kernel))
set_option maxRecDepth 20000 in
theorem gL_bill_X1_bill : GoodIn wsL_bill (wsV RL 59 RX1 yX1_bill wsX1_bill) := goodIn_app (goodIn_of _ (by decide +kernel)) ggL_bill_X1_bill
theorem dL_bill_0 : decode cL_bill 0 = .ok (.aload_n 3, 1) := by decide +kernel
theorem dL_bill_1 : decode cL_bill 1 = .ok (.iconst 0, 1) := by decide +kernel
theorem dL_bill_2 : decode cL_bill 2 = .ok (.aload_n 0, 1) := by decide +kernel
theorem dL_bill_3 : decode cL_bill 3 = .ok (.iload_n 1, 1) := by decide +kernel
theorem dL_bill_4 : decode cL_bill 4 = .ok (.iload_n 2, 1) := by decide +kernel
theorem dL_bill_5 : decode cL_bill 5 = .ok (.invokevirtual 59, 3) := by decide +kernel
theorem dL_bill_8 : decode cL_bill 8 = .ok (.i2l, 1) := by decide +kernel
theorem dL_bill_9 : decode cL_bill 9 = .ok (.lastore, 1) := by decide +kernel
theorem dL_bill_10 : decode cL_bill 10 = .ok (.goto 7, 3) := by decide +kernel
theorem dL_bill_13 : decode cL_bill 13 = .ok (.astore 4, 2) := by decide +kernel
theorem dL_bill_15 : decode cL_bill 15 = .ok (.iconst 1, 1) := by decide +kernel
theorem dL_bill_16 : decode cL_bill 16 = .ok (.ireturn, 1) := by decide +kernel
theorem dL_bill_17 : decode cL_bill 17 = .ok (.iconst 0, 1) := by decide +kernel
theorem dL_bill_18 : decode cL_bill 18 = .ok (.ireturn, 1) := by decide +kernel
set_option maxRecDepth 20000 in
theorem ggL_billByDays_X1_billByDays : GoodIn wsL_billByDays wsX1_billByDays := goodIn_ca (goodIn_r _ [6, 7, 8, 9, 5, 10, 11, 12, 13, 14, 15, 16, 17, 18, 19, 20, 21, 22, 23, 24, 25, 26, 27, 28, 29, 30, 31, 32, 33, 34, 35, 36, 37, 38, 39, 40, 41, 42, 43, 44, 45, 46, 47, 48, 49, 50, 51, 52, 53, 54, 55, 56, 57, 58, 59, 60, 61, 62, 63, 64, 65, 66, 67, 68, 69, 70, 71, 72, 73, 74] (by decide +kernel) (by decide +kernel)) (goodIn_sub (fun _ h => List.mem_cons_of_mem _ (List.mem_append_right _ h)) (by decide +kernel))
set_option maxRecDepth 20000 in
theorem gL_billByDays_X1_billByDays : GoodIn wsL_billByDays (wsV RL 62 RX1 yX1_billByDays wsX1_billByDays) := goodIn_app (goodIn_of _ (by decide +kernel)) ggL_billByDays_X1_billByDays
theorem dL_billByDays_0 : decode cL_billByDays 0 = .ok (.aload_n 3, 1) := by decide +kernel
theorem dL_billByDays_1 : decode cL_billByDays 1 = .ok (.iconst 0, 1) := by decide +kernel
theorem dL_billByDays_2 : decode cL_billByDays 2 = .ok (.aload_n 0, 1) := by decide +kernel
theorem dL_billByDays_3 : decode cL_billByDays 3 = .ok (.iload_n 1, 1) := by decide +kernel
theorem dL_billByDays_4 : decode cL_billByDays 4 = .ok (.iload_n 2, 1) := by decide +kernel
theorem dL_billByDays_5 : decode cL_billByDays 5 = .ok (.invokevirtual 62, 3) := by decide +kernel
theorem dL_billByDays_8 : decode cL_billByDays 8 = .ok (.i2l, 1) := by decide +kernel
theorem dL_billByDays_9 : decode cL_billByDays 9 = .ok (.lastore, 1) := by decide +kernel
theorem dL_billByDays_10 : decode cL_billByDays 10 = .ok (.goto 7, 3) := by decide +kernel
theorem dL_billByDays_13 : decode cL_billByDays 13 = .ok (.astore 4, 2) := by decide +kernel
theorem dL_billByDays_15 : decode cL_billByDays 15 = .ok (.iconst 1, 1) := by decide +kernel
theorem dL_billByDays_16 : decode cL_billByDays 16 = .ok (.ireturn, 1) := by decide +kernel
theorem dL_billByDays_17 : decode cL_billByDays 17 = .ok (.iconst 0, 1) := by decide +kernel
theorem dL_billByDays_18 : decode cL_billByDays 18 = .ok (.ireturn, 1) := by decide +kernel
set_option maxRecDepth 20000 in
theorem ggL_bills_X1_bills : GoodIn wsL_bills wsX1_bills := goodIn_ca (goodIn_ca (goodIn_r _ [7, 8, 9, 10, 6, 11, 12, 13, 14, 15, 16, 17, 18, 19, 20, 21, 22, 23, 24, 25, 26, 27, 28, 29, 30, 31, 32, 33, 34, 35, 36, 37, 38, 39, 40, 41, 42, 43, 44, 45, 46, 47, 48, 49, 50, 51, 52, 53, 54, 55, 56, 57, 58, 59, 60, 61, 62, 63, 64, 65, 66, 67, 68, 69, 70, 71, 72, 73, 74, 75, 76, 77, 78, 79, 80, 81, 82, 83, 84, 85, 86, 87, 88, 89, 90, 91, 92, 93, 94, 95] (by decide +kernel) (by decide +kernel)) (goodIn_sub (fun _ h => List.mem_cons_of_mem _ (List.mem_append_left _ (List.mem_append_right _ h))) (by decide +kernel))) (goodIn_sub (fun _ h => List.mem_cons_of_mem _ (List.mem_append_right _ h)) (by decide +kernel))
set_option maxRecDepth 20000 in
theorem gL_bills_X1_bills : GoodIn wsL_bills (wsV RL 65 RX1 yX1_bills wsX1_bills) := goodIn_app (goodIn_of _ (by decide +kernel)) ggL_bills_X1_bills
theorem dL_bills_0 : decode cL_bills 0 = .ok (.aload 4, 2) := by decide +kernel
theorem dL_bills_2 : decode cL_bills 2 = .ok (.iconst 0, 1) := by decide +kernel
theorem dL_bills_3 : decode cL_bills 3 = .ok (.aload_n 0, 1) := by decide +kernel
theorem dL_bills_4 : decode cL_bills 4 = .ok (.iload_n 1, 1) := by decide +kernel
theorem dL_bills_5 : decode cL_bills 5 = .ok (.iload_n 2, 1) := by decide +kernel
theorem dL_bills_6 : decode cL_bills 6 = .ok (.iload_n 3, 1) := by decide +kernel
theorem dL_bills_7 : decode cL_bills 7 = .ok (.invokevirtual 65, 3) := by decide +kernel
theorem dL_bills_10 : decode cL_bills 10 = .ok (.lastore, 1) := by decide +kernel
theorem dL_bills_11 : decode cL_bills 11 = .ok (.goto 11, 3) := by decide +kernel
theorem dL_bills_14 : decode cL_bills 14 = .ok (.astore 5, 2) := by decide +kernel
theorem dL_bills_16 : decode cL_bills 16 = .ok (.iconst 1, 1) := by decide +kernel
theorem dL_bills_17 : decode cL_bills 17 = .ok (.ireturn, 1) := by decide +kernel
theorem dL_bills_18 : decode cL_bills 18 = .ok (.astore 5, 2) := by decide +kernel
theorem dL_bills_20 : decode cL_bills 20 = .ok (.iconst 2, 1) := by decide +kernel
theorem dL_bills_21 : decode cL_bills 21 = .ok (.ireturn, 1) := by decide +kernel
theorem dL_bills_22 : decode cL_bills 22 = .ok (.iconst 0, 1) := by decide +kernel
theorem dL_bills_23 : decode cL_bills 23 = .ok (.ireturn, 1) := by decide +kernel
set_option maxRecDepth 20000 in
theorem ggL_nextChange_X1_nextChange : GoodIn wsL_nextChange wsX1_nextChange := goodIn_ca (goodIn_r _ [6, 7, 8, 9, 5, 10, 11, 12, 13, 14, 15, 16, 17, 18, 19, 20, 21, 22, 23, 24, 25, 26, 27, 28, 29, 30, 31, 32, 33, 34, 35, 36, 37, 38, 39, 40, 41, 42, 43, 44, 45, 46, 47, 48, 49, 50, 51, 52, 53, 54, 55, 56, 57, 58, 59, 60, 61, 62, 63, 64, 65, 66, 67, 68, 69, 70, 71, 72, 73, 74, 75, 76, 77, 78, 79, 80, 81, 82] (by decide +kernel) (by decide +kernel)) (goodIn_sub (fun _ h => List.mem_cons_of_mem _ (List.mem_append_right _ h)) (by decide +kernel))
set_option maxRecDepth 20000 in
theorem gL_nextChange_X1_nextChange : GoodIn wsL_nextChange (wsV RL 69 RX1 yX1_nextChange wsX1_nextChange) := goodIn_app (goodIn_of _ (by decide +kernel)) ggL_nextChange_X1_nextChange
theorem dL_nextChange_0 : decode cL_nextChange 0 = .ok (.aload_n 3, 1) := by decide +kernel
theorem dL_nextChange_1 : decode cL_nextChange 1 = .ok (.iconst 0, 1) := by decide +kernel
theorem dL_nextChange_2 : decode cL_nextChange 2 = .ok (.aload_n 0, 1) := by decide +kernel
theorem dL_nextChange_3 : decode cL_nextChange 3 = .ok (.iload_n 1, 1) := by decide +kernel
theorem dL_nextChange_4 : decode cL_nextChange 4 = .ok (.iload_n 2, 1) := by decide +kernel
theorem dL_nextChange_5 : decode cL_nextChange 5 = .ok (.invokevirtual 69, 3) := by decide +kernel
theorem dL_nextChange_8 : decode cL_nextChange 8 = .ok (.i2l, 1) := by decide +kernel
theorem dL_nextChange_9 : decode cL_nextChange 9 = .ok (.lastore, 1) := by decide +kernel
theorem dL_nextChange_10 : decode cL_nextChange 10 = .ok (.goto 7, 3) := by decide +kernel
theorem dL_nextChange_13 : decode cL_nextChange 13 = .ok (.astore 4, 2) := by decide +kernel
theorem dL_nextChange_15 : decode cL_nextChange 15 = .ok (.iconst 1, 1) := by decide +kernel
theorem dL_nextChange_16 : decode cL_nextChange 16 = .ok (.ireturn, 1) := by decide +kernel
theorem dL_nextChange_17 : decode cL_nextChange 17 = .ok (.iconst 0, 1) := by decide +kernel
theorem dL_nextChange_18 : decode cL_nextChange 18 = .ok (.ireturn, 1) := by decide +kernel
set_option maxRecDepth 20000 in
theorem ggL_voids_X1_voids : GoodIn wsL_voids wsX1_voids := goodIn_ca (goodIn_r _ [6, 7, 8, 9, 5, 10, 11, 12, 13, 14, 15, 16, 17, 18, 19, 20, 21, 22, 23, 24, 25, 26, 27, 28, 29, 30, 31, 32, 33, 34, 35, 36, 37, 38, 39, 40, 41, 42, 43, 44, 45, 46, 47, 48] (by decide +kernel) (by decide +kernel)) (goodIn_sub (fun _ h => List.mem_cons_of_mem _ (List.mem_append_right _ h)) (by decide +kernel))
set_option maxRecDepth 20000 in
theorem gL_voids_X1_voids : GoodIn wsL_voids (wsV RL 72 RX1 yX1_voids wsX1_voids) := goodIn_app (goodIn_of _ (by decide +kernel)) ggL_voids_X1_voids
theorem dL_voids_0 : decode cL_voids 0 = .ok (.aload_n 3, 1) := by decide +kernel
theorem dL_voids_1 : decode cL_voids 1 = .ok (.iconst 0, 1) := by decide +kernel
theorem dL_voids_2 : decode cL_voids 2 = .ok (.aload_n 0, 1) := by decide +kernel
theorem dL_voids_3 : decode cL_voids 3 = .ok (.iload_n 1, 1) := by decide +kernel
theorem dL_voids_4 : decode cL_voids 4 = .ok (.iload_n 2, 1) := by decide +kernel
theorem dL_voids_5 : decode cL_voids 5 = .ok (.invokevirtual 72, 3) := by decide +kernel
theorem dL_voids_8 : decode cL_voids 8 = .ok (.i2l, 1) := by decide +kernel
theorem dL_voids_9 : decode cL_voids 9 = .ok (.lastore, 1) := by decide +kernel
theorem dL_voids_10 : decode cL_voids 10 = .ok (.goto 7, 3) := by decide +kernel
theorem dL_voids_13 : decode cL_voids 13 = .ok (.astore 4, 2) := by decide +kernel
theorem dL_voids_15 : decode cL_voids 15 = .ok (.iconst 1, 1) := by decide +kernel
theorem dL_voids_16 : decode cL_voids 16 = .ok (.ireturn, 1) := by decide +kernel
theorem dL_voids_17 : decode cL_voids 17 = .ok (.iconst 0, 1) := by decide +kernel
theorem dL_voids_18 : decode cL_voids 18 = .ok (.ireturn, 1) := by decide +kernel
set_option maxRecDepth 20000 in
theorem ggL_part_X1_part : GoodIn wsL_part wsX1_part := goodIn_ca (goodIn_r _ [6, 7, 8, 9, 10, 5, 11, 12, 13, 14, 15, 16, 17, 18, 19, 20, 21, 22, 23, 24, 25, 26, 27, 28, 29, 30, 31, 32, 33, 34, 35, 36, 37, 38, 39, 40, 41, 42, 43, 44, 45, 46, 47, 48, 49, 50, 51, 52, 53, 54, 55, 56, 57, 58, 59, 60, 61, 62, 63, 64, 65, 66] (by decide +kernel) (by decide +kernel)) (goodIn_sub (fun _ h => List.mem_cons_of_mem _ (List.mem_append_right _ h)) (by decide +kernel))
set_option maxRecDepth 20000 in
theorem gL_part_X1_part : GoodIn wsL_part (wsV RL 75 RX1 yX1_part wsX1_part) := goodIn_app (goodIn_of _ (by decide +kernel)) ggL_part_X1_part
theorem dL_part_0 : decode cL_part 0 = .ok (.aload_n 3, 1) := by decide +kernel
theorem dL_part_1 : decode cL_part 1 = .ok (.iconst 0, 1) := by decide +kernel
theorem dL_part_2 : decode cL_part 2 = .ok (.aload_n 0, 1) := by decide +kernel
theorem dL_part_3 : decode cL_part 3 = .ok (.iload_n 1, 1) := by decide +kernel
theorem dL_part_4 : decode cL_part 4 = .ok (.iload_n 2, 1) := by decide +kernel
theorem dL_part_5 : decode cL_part 5 = .ok (.invokevirtual 75, 3) := by decide +kernel
theorem dL_part_8 : decode cL_part 8 = .ok (.i2l, 1) := by decide +kernel
theorem dL_part_9 : decode cL_part 9 = .ok (.lastore, 1) := by decide +kernel
theorem dL_part_10 : decode cL_part 10 = .ok (.goto 7, 3) := by decide +kernel
theorem dL_part_13 : decode cL_part 13 = .ok (.astore 4, 2) := by decide +kernel
theorem dL_part_15 : decode cL_part 15 = .ok (.iconst 1, 1) := by decide +kernel
theorem dL_part_16 : decode cL_part 16 = .ok (.ireturn, 1) := by decide +kernel
theorem dL_part_17 : decode cL_part 17 = .ok (.iconst 0, 1) := by decide +kernel
theorem dL_part_18 : decode cL_part 18 = .ok (.ireturn, 1) := by decide +kernel
set_option maxRecDepth 20000 in
theorem ggL_owners_X1_owners : GoodIn wsL_owners wsX1_owners := goodIn_ca (goodIn_r _ [6, 7, 8, 9, 10, 5, 11, 12, 13, 14, 15, 16, 17, 18, 19, 20, 21, 22, 23, 24, 25, 26, 27, 28, 29, 30, 31, 32, 33, 34, 35, 36, 37, 38, 39, 40, 41, 42, 43, 44, 45, 46, 47, 48, 49, 50, 51, 52, 53, 54, 55, 56, 57, 58, 59, 60, 61, 62] (by decide +kernel) (by decide +kernel)) (goodIn_sub (fun _ h => List.mem_cons_of_mem _ (List.mem_append_right _ h)) (by decide +kernel))
set_option maxRecDepth 20000 in
theorem gL_owners_X1_owners : GoodIn wsL_owners (wsV RL 78 RX1 yX1_owners wsX1_owners) := goodIn_app (goodIn_of _ (by decide +kernel)) ggL_owners_X1_owners
theorem dL_owners_0 : decode cL_owners 0 = .ok (.aload_n 2, 1) := by decide +kernel
theorem dL_owners_1 : decode cL_owners 1 = .ok (.iconst 0, 1) := by decide +kernel
theorem dL_owners_2 : decode cL_owners 2 = .ok (.aload_n 0, 1) := by decide +kernel
theorem dL_owners_3 : decode cL_owners 3 = .ok (.iload_n 1, 1) := by decide +kernel
theorem dL_owners_4 : decode cL_owners 4 = .ok (.invokevirtual 78, 3) := by decide +kernel
theorem dL_owners_7 : decode cL_owners 7 = .ok (.i2l, 1) := by decide +kernel
theorem dL_owners_8 : decode cL_owners 8 = .ok (.lastore, 1) := by decide +kernel
theorem dL_owners_9 : decode cL_owners 9 = .ok (.goto 6, 3) := by decide +kernel
theorem dL_owners_12 : decode cL_owners 12 = .ok (.astore_n 3, 1) := by decide +kernel
theorem dL_owners_13 : decode cL_owners 13 = .ok (.iconst 1, 1) := by decide +kernel
theorem dL_owners_14 : decode cL_owners 14 = .ok (.ireturn, 1) := by decide +kernel
theorem dL_owners_15 : decode cL_owners 15 = .ok (.iconst 0, 1) := by decide +kernel
theorem dL_owners_16 : decode cL_owners 16 = .ok (.ireturn, 1) := by decide +kernel
set_option maxRecDepth 20000 in
theorem ggL_balance_X1_balance : GoodIn wsL_balance wsX1_balance := goodIn_ca (goodIn_r _ [6, 7, 8, 9, 10, 5, 11, 12, 13, 14, 15, 16, 17, 18, 19, 20, 21, 22, 23, 24, 25, 26, 27, 28, 29, 30, 31, 32, 33, 34, 35, 36, 37, 38, 39, 40, 41, 42, 43, 44, 45, 46, 47, 48, 49, 50, 51, 52, 53, 54, 55, 56, 57, 58, 59, 60, 61, 62, 63, 64, 65, 66] (by decide +kernel) (by decide +kernel)) (goodIn_sub (fun _ h => List.mem_cons_of_mem _ (List.mem_append_right _ h)) (by decide +kernel))
set_option maxRecDepth 20000 in
theorem gL_balance_X1_balance : GoodIn wsL_balance (wsV RL 81 RX1 yX1_balance wsX1_balance) := goodIn_app (goodIn_of _ (by decide +kernel)) ggL_balance_X1_balance
theorem dL_balance_0 : decode cL_balance 0 = .ok (.aload_n 3, 1) := by decide +kernel
theorem dL_balance_1 : decode cL_balance 1 = .ok (.iconst 0, 1) := by decide +kernel
theorem dL_balance_2 : decode cL_balance 2 = .ok (.aload_n 0, 1) := by decide +kernel
theorem dL_balance_3 : decode cL_balance 3 = .ok (.iload_n 1, 1) := by decide +kernel
theorem dL_balance_4 : decode cL_balance 4 = .ok (.iload_n 2, 1) := by decide +kernel
theorem dL_balance_5 : decode cL_balance 5 = .ok (.invokevirtual 81, 3) := by decide +kernel
theorem dL_balance_8 : decode cL_balance 8 = .ok (.i2l, 1) := by decide +kernel
theorem dL_balance_9 : decode cL_balance 9 = .ok (.lastore, 1) := by decide +kernel
theorem dL_balance_10 : decode cL_balance 10 = .ok (.goto 7, 3) := by decide +kernel
theorem dL_balance_13 : decode cL_balance 13 = .ok (.astore 4, 2) := by decide +kernel
theorem dL_balance_15 : decode cL_balance 15 = .ok (.iconst 1, 1) := by decide +kernel
theorem dL_balance_16 : decode cL_balance 16 = .ok (.ireturn, 1) := by decide +kernel
theorem dL_balance_17 : decode cL_balance 17 = .ok (.iconst 0, 1) := by decide +kernel
theorem dL_balance_18 : decode cL_balance 18 = .ok (.ireturn, 1) := by decide +kernel
set_option maxRecDepth 20000 in
theorem ggL_share_X1_share : GoodIn wsL_share wsX1_share := goodIn_ca (goodIn_r _ [6, 7, 8, 9, 5, 10, 11, 12, 13, 14, 15, 16, 17, 18, 19, 20, 21] (by decide +kernel) (by decide +kernel)) (goodIn_sub (fun _ h => List.mem_cons_of_mem _ (List.mem_append_right _ h)) (by decide +kernel))
set_option maxRecDepth 20000 in
theorem gL_share_X1_share : GoodIn wsL_share (wsV RL 84 RX1 yX1_share wsX1_share) := goodIn_app (goodIn_of _ (by decide +kernel)) ggL_share_X1_share
theorem dL_share_0 : decode cL_share 0 = .ok (.aload_n 2, 1) := by decide +kernel
theorem dL_share_1 : decode cL_share 1 = .ok (.iconst 0, 1) := by decide +kernel
theorem dL_share_2 : decode cL_share 2 = .ok (.aload_n 0, 1) := by decide +kernel
theorem dL_share_3 : decode cL_share 3 = .ok (.iload_n 1, 1) := by decide +kernel
theorem dL_share_4 : decode cL_share 4 = .ok (.invokevirtual 84, 3) := by decide +kernel
theorem dL_share_7 : decode cL_share 7 = .ok (.dastore, 1) := by decide +kernel
theorem dL_share_8 : decode cL_share 8 = .ok (.goto 6, 3) := by decide +kernel
theorem dL_share_11 : decode cL_share 11 = .ok (.astore_n 3, 1) := by decide +kernel
theorem dL_share_12 : decode cL_share 12 = .ok (.iconst 1, 1) := by decide +kernel
theorem dL_share_13 : decode cL_share 13 = .ok (.ireturn, 1) := by decide +kernel
theorem dL_share_14 : decode cL_share 14 = .ok (.iconst 0, 1) := by decide +kernel
theorem dL_share_15 : decode cL_share 15 = .ok (.ireturn, 1) := by decide +kernel
set_option maxRecDepth 20000 in
theorem ggL_law_X1_init : GoodIn wsL_law wsX1_init := goodIn_r _ [10, 11, 12, 13, 14, 15, 16, 17, 18, 19, 20, 464, 465, 466, 467, 468] (by decide +kernel) (by decide +kernel)
set_option maxRecDepth 20000 in
theorem gL_law_X1_init : GoodIn wsL_law (wsX1_init) := ggL_law_X1_init
set_option maxRecDepth 20000 in
theorem ggL_law_X2_init : GoodIn wsL_law wsX2_init := goodIn_r _ [23, 24, 12, 13, 14, 25, 26, 27, 28, 29, 30, 31, 32, 33, 34, 35, 36, 37, 38, 39, 469, 470, 471, 472, 473, 474, 475, 476, 477, 478, 479, 480, 481, 482, 483, 484, 485] (by decide +kernel) (by decide +kernel)
set_option maxRecDepth 20000 in
theorem gL_law_X2_init : GoodIn wsL_law (wsX2_init) := ggL_law_X2_init
set_option maxRecDepth 20000 in
theorem ggL_law_L_setArea : GoodIn wsL_law wsL_setArea := goodIn_ca (goodIn_ca (goodIn_r _ [43, 44, 45, 46, 47, 48, 2, 49, 15, 50, 51, 52, 53, 54, 55, 56, 57, 58, 59, 464, 465, 466, 467, 468] (by decide +kernel) (by decide +kernel)) (goodIn_sub (fun _ h => List.mem_append_left _ (List.mem_append_left _ (List.mem_append_right _ h))) (by decide +kernel))) (goodIn_sub (fun _ h => List.mem_append_left _ (List.mem_append_right _ h)) (by decide +kernel))
set_option maxRecDepth 20000 in
theorem gL_law_L_setArea : GoodIn wsL_law (va_wsS RL 92 yL_setArea wsL_setArea) := goodIn_app (goodIn_of _ (by decide +kernel)) ggL_law_L_setArea
set_option maxRecDepth 20000 in
theorem ggL_law_X2_setArea : GoodIn wsL_law wsX2_setArea := goodIn_r _ [63, 25, 64, 65, 5, 66, 67, 68, 69, 70, 71, 469, 470, 471, 472, 473, 474, 475, 476, 477, 478, 479, 480, 481, 482, 483, 484, 485] (by decide +kernel) (by decide +kernel)
set_option maxRecDepth 20000 in
theorem gL_law_X2_setArea : GoodIn wsL_law (wsV RL 97 RX2 yX2_setArea wsX2_setArea) := goodIn_app (goodIn_of _ (by decide +kernel)) ggL_law_X2_setArea
set_option maxRecDepth 20000 in
theorem ggL_law_X2_thrown : GoodIn wsL_law wsX2_thrown := goodIn_r _ [75, 71, 469, 470, 471, 472, 473, 474, 475, 476, 477, 478, 479, 480, 481, 482, 483, 484, 485] (by decide +kernel) (by decide +kernel)
set_option maxRecDepth 20000 in
theorem gL_law_X2_thrown : GoodIn wsL_law (wsV RL 98 RX2 yX2_thrown wsX2_thrown) := goodIn_app (goodIn_of _ (by decide +kernel)) ggL_law_X2_thrown
set_option maxRecDepth 20000 in
theorem ggL_law_L_setIndex : GoodIn wsL_law wsL_setIndex := goodIn_ca (goodIn_ca (goodIn_r _ [78, 44, 45, 79, 80, 81, 2, 82, 16, 50, 51, 52, 53, 54, 55, 56, 57, 58, 59, 464, 465, 466, 467, 468] (by decide +kernel) (by decide +kernel)) (goodIn_sub (fun _ h => List.mem_append_left _ (List.mem_append_left _ (List.mem_append_right _ h))) (by decide +kernel))) (goodIn_sub (fun _ h => List.mem_append_left _ (List.mem_append_right _ h)) (by decide +kernel))
set_option maxRecDepth 20000 in
theorem gL_law_L_setIndex : GoodIn wsL_law (va_wsS RL 102 yL_setIndex wsL_setIndex) := goodIn_app (goodIn_of _ (by decide +kernel)) ggL_law_L_setIndex
set_option maxRecDepth 20000 in
theorem ggL_law_X2_setIndex : GoodIn wsL_law wsX2_setIndex := goodIn_r _ [86, 26, 64, 65, 5, 66, 67, 68, 69, 70, 71, 469, 470, 471, 472, 473, 474, 475, 476, 477, 478, 479, 480, 481, 482, 483, 484, 485] (by decide +kernel) (by decide +kernel)
set_option maxRecDepth 20000 in
theorem gL_law_X2_setIndex : GoodIn wsL_law (wsV RL 104 RX2 yX2_setIndex wsX2_setIndex) := goodIn_app (goodIn_of _ (by decide +kernel)) ggL_law_X2_setIndex
set_option maxRecDepth 20000 in
theorem ggL_law_L_setCost : GoodIn wsL_law wsL_setCost := goodIn_ca (goodIn_ca (goodIn_r _ [89, 44, 45, 90, 91, 92, 2, 93, 17, 94, 50, 51, 52, 53, 54, 55, 56, 57, 58, 59, 464, 465, 466, 467, 468] (by decide +kernel) (by decide +kernel)) (goodIn_sub (fun _ h => List.mem_append_left _ (List.mem_append_left _ (List.mem_append_right _ h))) (by decide +kernel))) (goodIn_sub (fun _ h => List.mem_append_left _ (List.mem_append_right _ h)) (by decide +kernel))
set_option maxRecDepth 20000 in
theorem gL_law_L_setCost : GoodIn wsL_law (va_wsS RL 105 yL_setCost wsL_setCost) := goodIn_app (goodIn_of _ (by decide +kernel)) ggL_law_L_setCost
set_option maxRecDepth 20000 in
theorem ggL_law_X2_setCost : GoodIn wsL_law wsX2_setCost := goodIn_r _ [98, 99, 27, 64, 65, 5, 66, 67, 68, 69, 70, 71, 469, 470, 471, 472, 473, 474, 475, 476, 477, 478, 479, 480, 481, 482, 483, 484, 485] (by decide +kernel) (by decide +kernel)
set_option maxRecDepth 20000 in
theorem gL_law_X2_setCost : GoodIn wsL_law (wsV RL 107 RX2 yX2_setCost wsX2_setCost) := goodIn_app (goodIn_of _ (by decide +kernel)) ggL_law_X2_setCost
set_option maxRecDepth 20000 in
theorem ggL_law_L_let : GoodIn wsL_law wsL_let := goodIn_ca (goodIn_ca (goodIn_ca (goodIn_r _ [102, 44, 45, 103, 104, 105, 106, 2, 107, 108, 109, 15, 110, 20, 19, 18, 111, 112, 50, 51, 52, 53, 54, 55, 56, 57, 58, 59, 113, 114, 115, 116, 117, 118, 119, 120, 121, 122, 123, 124, 125, 126, 127, 128, 129, 130, 131, 132, 133, 12, 13, 134, 135, 136, 137, 138, 14, 139, 140, 141, 142, 143, 464, 465, 466, 467, 468, 486, 487, 488, 489, 490, 491, 492, 493, 494, 495, 496, 497] (by decide +kernel) (by decide +kernel)) (goodIn_sub (fun _ h => List.mem_append_right _ h) (by decide +kernel))) (goodIn_sub (fun _ h => List.mem_append_left _ (List.mem_append_left _ (List.mem_append_right _ h))) (by decide +kernel))) (goodIn_sub (fun _ h => List.mem_append_left _ (List.mem_append_right _ h)) (by decide +kernel))
set_option maxRecDepth 20000 in
theorem gL_law_L_let : GoodIn wsL_law (va_wsS RL 108 yL_let wsL_let) := goodIn_app (goodIn_of _ (by decide +kernel)) ggL_law_L_let
set_option maxRecDepth 20000 in
theorem ggL_law_X2_let : GoodIn wsL_law wsX2_let := goodIn_r _ [147, 148, 149, 28, 29, 30, 31, 34, 64, 65, 5, 66, 150, 151, 152, 153, 67, 68, 69, 70, 71, 469, 470, 471, 472, 473, 474, 475, 476, 477, 478, 479, 480, 481, 482, 483, 484, 485] (by decide +kernel) (by decide +kernel)
set_option maxRecDepth 20000 in
theorem gL_law_X2_let : GoodIn wsL_law (wsV RL 111 RX2 yX2_let wsX2_let) := goodIn_app (goodIn_of _ (by decide +kernel)) ggL_law_X2_let
set_option maxRecDepth 20000 in
theorem ggL_law_L_end : GoodIn wsL_law wsL_end := goodIn_ca (goodIn_ca (goodIn_r _ [156, 44, 45, 157, 158, 159, 2, 160, 161, 162, 163, 164, 53, 54, 19, 50, 51, 52, 55, 56, 57, 58, 59, 486, 487, 488, 489, 490, 491, 492, 493, 494, 495, 496, 497, 464, 465, 466, 467, 468] (by decide +kernel) (by decide +kernel)) (goodIn_sub (fun _ h => List.mem_append_left _ (List.mem_append_left _ (List.mem_append_right _ h))) (by decide +kernel))) (goodIn_sub (fun _ h => List.mem_append_left _ (List.mem_append_right _ h)) (by decide +kernel))
set_option maxRecDepth 20000 in
theorem gL_law_L_end : GoodIn wsL_law (va_wsS RL 112 yL_end wsL_end) := goodIn_app (goodIn_of _ (by decide +kernel)) ggL_law_L_end
set_option maxRecDepth 20000 in
theorem ggL_law_X2_end : GoodIn wsL_law wsX2_end := goodIn_r _ [168, 29, 30, 169, 170, 171, 5, 172, 149, 64, 65, 66, 67, 68, 69, 70, 71, 469, 470, 471, 472, 473, 474, 475, 476, 477, 478, 479, 480, 481, 482, 483, 484, 485] (by decide +kernel) (by decide +kernel)
set_option maxRecDepth 20000 in
theorem gL_law_X2_end : GoodIn wsL_law (wsV RL 114 RX2 yX2_end wsX2_end) := goodIn_app (goodIn_of _ (by decide +kernel)) ggL_law_X2_end
set_option maxRecDepth 20000 in
theorem ggL_law_L_step : GoodIn wsL_law wsL_step := goodIn_ca (goodIn_ca (goodIn_ca (goodIn_r _ [175, 44, 45, 103, 176, 177, 178, 2, 179, 108, 109, 110, 161, 162, 163, 164, 53, 54, 19, 50, 51, 52, 55, 56, 57, 58, 59, 180, 181, 182, 112, 183, 141, 139, 140, 127, 128, 124, 129, 486, 487, 488, 489, 490, 491, 492, 493, 494, 495, 496, 497, 464, 465, 466, 467, 468] (by decide +kernel) (by decide +kernel)) (goodIn_sub (fun _ h => List.mem_append_right _ h) (by decide +kernel))) (goodIn_sub (fun _ h => List.mem_append_left _ (List.mem_append_left _ (List.mem_append_right _ h))) (by decide +kernel))) (goodIn_sub (fun _ h => List.mem_append_left _ (List.mem_append_right _ h)) (by decide +kernel))
set_option maxRecDepth 20000 in
theorem gL_law_L_step : GoodIn wsL_law (va_wsS RL 115 yL_step wsL_step) := goodIn_app (goodIn_of _ (by decide +kernel)) ggL_law_L_step
set_option maxRecDepth 20000 in
theorem ggL_law_X2_step : GoodIn wsL_law wsX2_step := goodIn_r _ [187, 29, 30, 148, 38, 39, 37, 169, 170, 171, 5, 172, 149, 64, 65, 66, 188, 189, 190, 191, 67, 68, 69, 70, 71, 469, 470, 471, 472, 473, 474, 475, 476, 477, 478, 479, 480, 481, 482, 483, 484, 485] (by decide +kernel) (by decide +kernel)
set_option maxRecDepth 20000 in
theorem gL_law_X2_step : GoodIn wsL_law (wsV RL 118 RX2 yX2_step wsX2_step) := goodIn_app (goodIn_of _ (by decide +kernel)) ggL_law_X2_step
set_option maxRecDepth 20000 in
theorem ggL_law_L_setTerms : GoodIn wsL_law wsL_setTerms := goodIn_ca (goodIn_ca (goodIn_r _ [194, 44, 45, 195, 196, 197, 2, 198, 161, 162, 163, 164, 53, 54, 19, 50, 51, 52, 55, 56, 57, 58, 59, 486, 487, 488, 489, 490, 491, 492, 493, 494, 495, 496, 497, 464, 465, 466, 467, 468] (by decide +kernel) (by decide +kernel)) (goodIn_sub (fun _ h => List.mem_append_left _ (List.mem_append_left _ (List.mem_append_right _ h))) (by decide +kernel))) (goodIn_sub (fun _ h => List.mem_append_left _ (List.mem_append_right _ h)) (by decide +kernel))
set_option maxRecDepth 20000 in
theorem gL_law_L_setTerms : GoodIn wsL_law (va_wsS RL 119 yL_setTerms wsL_setTerms) := goodIn_app (goodIn_of _ (by decide +kernel)) ggL_law_L_setTerms
set_option maxRecDepth 20000 in
theorem ggL_law_X2_setTerms : GoodIn wsL_law wsX2_setTerms := goodIn_r _ [202, 32, 33, 64, 65, 5, 66, 169, 170, 171, 172, 149, 67, 68, 69, 70, 71, 469, 470, 471, 472, 473, 474, 475, 476, 477, 478, 479, 480, 481, 482, 483, 484, 485] (by decide +kernel) (by decide +kernel)
set_option maxRecDepth 20000 in
theorem gL_law_X2_setTerms : GoodIn wsL_law (wsV RL 122 RX2 yX2_setTerms wsX2_setTerms) := goodIn_app (goodIn_of _ (by decide +kernel)) ggL_law_X2_setTerms
set_option maxRecDepth 20000 in
theorem ggL_law_L_setService : GoodIn wsL_law wsL_setService := goodIn_ca (goodIn_ca (goodIn_r _ [205, 44, 45, 206, 207, 208, 2, 209, 94, 161, 162, 163, 164, 53, 54, 19, 50, 51, 52, 55, 56, 57, 58, 59, 486, 487, 488, 489, 490, 491, 492, 493, 494, 495, 496, 497, 464, 465, 466, 467, 468] (by decide +kernel) (by decide +kernel)) (goodIn_sub (fun _ h => List.mem_append_left _ (List.mem_append_left _ (List.mem_append_right _ h))) (by decide +kernel))) (goodIn_sub (fun _ h => List.mem_append_left _ (List.mem_append_right _ h)) (by decide +kernel))
set_option maxRecDepth 20000 in
theorem gL_law_L_setService : GoodIn wsL_law (va_wsS RL 123 yL_setService wsL_setService) := goodIn_app (goodIn_of _ (by decide +kernel)) ggL_law_L_setService
set_option maxRecDepth 20000 in
theorem ggL_law_X2_setService : GoodIn wsL_law wsX2_setService := goodIn_r _ [213, 99, 34, 35, 64, 65, 5, 66, 169, 170, 171, 172, 149, 67, 68, 69, 70, 71, 469, 470, 471, 472, 473, 474, 475, 476, 477, 478, 479, 480, 481, 482, 483, 484, 485] (by decide +kernel) (by decide +kernel)
set_option maxRecDepth 20000 in
theorem gL_law_X2_setService : GoodIn wsL_law (wsV RL 125 RX2 yX2_setService wsX2_setService) := goodIn_app (goodIn_of _ (by decide +kernel)) ggL_law_X2_setService
set_option maxRecDepth 20000 in
theorem ggL_law_L_topUp : GoodIn wsL_law wsL_topUp := goodIn_ca (goodIn_ca (goodIn_r _ [216, 44, 45, 217, 218, 219, 2, 220, 221, 128, 124, 129, 161, 162, 163, 164, 53, 54, 19, 50, 51, 52, 55, 56, 57, 58, 59, 222, 223, 224, 225, 16, 226, 227, 228, 112, 229, 126, 121, 230, 231, 232, 233, 134, 234, 235, 236, 237, 143, 141, 139, 140, 238, 239, 240, 241, 242, 243, 244, 245, 246, 247, 248, 135, 486, 487, 488, 489, 490, 491, 492, 493, 494, 495, 496, 497, 464, 465, 466, 467, 468] (by decide +kernel) (by decide +kernel)) (goodIn_sub (fun _ h => List.mem_append_left _ (List.mem_append_left _ (List.mem_append_right _ h))) (by decide +kernel))) (goodIn_sub (fun _ h => List.mem_append_left _ (List.mem_append_right _ h)) (by decide +kernel))
set_option maxRecDepth 20000 in
theorem gL_law_L_topUp : GoodIn wsL_law (va_wsS RL 126 yL_topUp wsL_topUp) := goodIn_app (goodIn_of _ (by decide +kernel)) ggL_law_L_topUp
set_option maxRecDepth 20000 in
theorem ggL_law_X2_topUp : GoodIn wsL_law wsX2_topUp := goodIn_r _ [252, 36, 169, 170, 171, 5, 172, 149, 64, 65, 66, 253, 254, 255, 256, 29, 30, 67, 68, 69, 70, 71, 257, 258, 259, 260, 32, 26, 261, 262, 263, 264, 31, 37, 38, 39, 265, 266, 267, 268, 33, 469, 470, 471, 472, 473, 474, 475, 476, 477, 478, 479, 480, 481, 482, 483, 484, 485] (by decide +kernel) (by decide +kernel)
set_option maxRecDepth 20000 in
theorem gL_law_X2_topUp : GoodIn wsL_law (wsV RL 128 RX2 yX2_topUp wsX2_topUp) := goodIn_app (goodIn_of _ (by decide +kernel)) ggL_law_X2_topUp
set_option maxRecDepth 20000 in
theorem ggL_law_L_draw : GoodIn wsL_law wsL_draw := goodIn_ca (goodIn_ca (goodIn_ca (goodIn_r _ [271, 44, 45, 103, 272, 273, 274, 2, 275, 108, 109, 94, 161, 162, 163, 164, 53, 54, 19, 50, 51, 52, 55, 56, 57, 58, 59, 486, 487, 488, 489, 490, 491, 492, 493, 494, 495, 496, 497, 464, 465, 466, 467, 468] (by decide +kernel) (by decide +kernel)) (goodIn_sub (fun _ h => List.mem_append_right _ h) (by decide +kernel))) (goodIn_sub (fun _ h => List.mem_append_left _ (List.mem_append_left _ (List.mem_append_right _ h))) (by decide +kernel))) (goodIn_sub (fun _ h => List.mem_append_left _ (List.mem_append_right _ h)) (by decide +kernel))
set_option maxRecDepth 20000 in
theorem gL_law_L_draw : GoodIn wsL_law (va_wsS RL 129 yL_draw wsL_draw) := goodIn_app (goodIn_of _ (by decide +kernel)) ggL_law_L_draw
set_option maxRecDepth 20000 in
theorem ggL_law_X2_draw : GoodIn wsL_law wsX2_draw := goodIn_r _ [279, 99, 36, 169, 170, 171, 5, 172, 149, 64, 65, 66, 67, 68, 69, 70, 71, 469, 470, 471, 472, 473, 474, 475, 476, 477, 478, 479, 480, 481, 482, 483, 484, 485] (by decide +kernel) (by decide +kernel)
set_option maxRecDepth 20000 in
theorem gL_law_X2_draw : GoodIn wsL_law (wsV RL 131 RX2 yX2_draw wsX2_draw) := goodIn_app (goodIn_of _ (by decide +kernel)) ggL_law_X2_draw
set_option maxRecDepth 20000 in
theorem ggL_law_L_held : GoodIn wsL_law wsL_held := goodIn_ca (goodIn_r _ [282, 44, 283, 284, 285, 2, 286, 161, 162, 163, 164, 53, 54, 19, 50, 51, 52, 486, 487, 488, 489, 490, 491, 492, 493, 494, 495, 496, 497, 464, 465, 466, 467, 468] (by decide +kernel) (by decide +kernel)) (goodIn_sub (fun _ h => List.mem_append_left _ (List.mem_append_left _ (List.mem_append_right _ h))) (by decide +kernel))
set_option maxRecDepth 20000 in
theorem gL_law_L_held : GoodIn wsL_law (va_wsS RL 132 yL_held wsL_held) := goodIn_app (goodIn_of _ (by decide +kernel)) ggL_law_L_held
set_option maxRecDepth 20000 in
theorem ggL_law_X2_held : GoodIn wsL_law wsX2_held := goodIn_r _ [290, 36, 169, 170, 171, 5, 172, 149, 64, 65, 66, 67, 68, 69, 70, 71, 469, 470, 471, 472, 473, 474, 475, 476, 477, 478, 479, 480, 481, 482, 483, 484, 485] (by decide +kernel) (by decide +kernel)
set_option maxRecDepth 20000 in
theorem gL_law_X2_held : GoodIn wsL_law (wsV RL 135 RX2 yX2_held wsX2_held) := goodIn_app (goodIn_of _ (by decide +kernel)) ggL_law_X2_held
set_option maxRecDepth 20000 in
theorem ggL_law_X1_leases : GoodIn wsL_law wsX1_leases := goodIn_r _ [294, 20, 464, 465, 466, 467, 468] (by decide +kernel) (by decide +kernel)
set_option maxRecDepth 20000 in
theorem gL_law_X1_leases : GoodIn wsL_law (wsV RL 136 RX1 yX1_leases wsX1_leases) := goodIn_app (goodIn_of _ (by decide +kernel)) ggL_law_X1_leases
set_option maxRecDepth 20000 in
theorem ggL_law_X2_leases : GoodIn wsL_law wsX2_leases := goodIn_r _ [298, 71, 149, 469, 470, 471, 472, 473, 474, 475, 476, 477, 478, 479, 480, 481, 482, 483, 484, 485] (by decide +kernel) (by decide +kernel)
set_option maxRecDepth 20000 in
theorem gL_law_X2_leases : GoodIn wsL_law (wsV RL 139 RX2 yX2_leases wsX2_leases) := goodIn_app (goodIn_of _ (by decide +kernel)) ggL_law_X2_leases
set_option maxRecDepth 20000 in
theorem ggL_law_L_leaseOn : GoodIn wsL_law wsL_leaseOn := goodIn_ca (goodIn_r _ [301, 44, 302, 303, 304, 2, 305, 15, 19, 50, 51, 52, 53, 54, 226, 227, 228, 112, 229, 126, 121, 464, 465, 466, 467, 468, 486, 487, 488, 489, 490, 491, 492, 493, 494, 495, 496, 497] (by decide +kernel) (by decide +kernel)) (goodIn_sub (fun _ h => List.mem_append_left _ (List.mem_append_left _ (List.mem_append_right _ h))) (by decide +kernel))
set_option maxRecDepth 20000 in
theorem gL_law_L_leaseOn : GoodIn wsL_law (va_wsS RL 140 yL_leaseOn wsL_leaseOn) := goodIn_app (goodIn_of _ (by decide +kernel)) ggL_law_L_leaseOn
set_option maxRecDepth 20000 in
theorem ggL_law_X2_leaseOn : GoodIn wsL_law wsX2_leaseOn := goodIn_r _ [309, 149, 28, 64, 65, 5, 66, 67, 68, 69, 70, 71, 253, 254, 255, 256, 29, 30, 469, 470, 471, 472, 473, 474, 475, 476, 477, 478, 479, 480, 481, 482, 483, 484, 485] (by decide +kernel) (by decide +kernel)
set_option maxRecDepth 20000 in
theorem gL_law_X2_leaseOn : GoodIn wsL_law (wsV RL 142 RX2 yX2_leaseOn wsX2_leaseOn) := goodIn_app (goodIn_of _ (by decide +kernel)) ggL_law_X2_leaseOn
set_option maxRecDepth 20000 in
theorem ggL_law_L_rentOn : GoodIn wsL_law wsL_rentOn := goodIn_ca (goodIn_r _ [312, 44, 313, 314, 315, 2, 316, 161, 162, 163, 164, 53, 54, 19, 50, 51, 52, 222, 223, 224, 225, 16, 221, 128, 124, 129, 226, 227, 228, 112, 229, 126, 121, 230, 231, 232, 233, 134, 234, 235, 236, 237, 143, 141, 139, 140, 238, 239, 240, 241, 242, 243, 244, 245, 246, 247, 248, 135, 464, 465, 466, 467, 468, 486, 487, 488, 489, 490, 491, 492, 493, 494, 495, 496, 497] (by decide +kernel) (by decide +kernel)) (goodIn_sub (fun _ h => List.mem_append_left _ (List.mem_append_left _ (List.mem_append_right _ h))) (by decide +kernel))
set_option maxRecDepth 20000 in
theorem gL_law_L_rentOn : GoodIn wsL_law (va_wsS RL 143 yL_rentOn wsL_rentOn) := goodIn_app (goodIn_of _ (by decide +kernel)) ggL_law_L_rentOn
set_option maxRecDepth 20000 in
theorem ggL_law_X2_rentOn : GoodIn wsL_law wsX2_rentOn := goodIn_r _ [320, 169, 170, 171, 5, 172, 149, 64, 65, 66, 67, 68, 69, 70, 71, 257, 258, 259, 260, 29, 32, 26, 253, 254, 255, 256, 30, 261, 262, 263, 264, 31, 37, 38, 39, 265, 266, 267, 268, 33, 469, 470, 471, 472, 473, 474, 475, 476, 477, 478, 479, 480, 481, 482, 483, 484, 485] (by decide +kernel) (by decide +kernel)
set_option maxRecDepth 20000 in
theorem gL_law_X2_rentOn : GoodIn wsL_law (wsV RL 145 RX2 yX2_rentOn wsX2_rentOn) := goodIn_app (goodIn_of _ (by decide +kernel)) ggL_law_X2_rentOn
set_option maxRecDepth 20000 in
theorem ggL_law_L_bill : GoodIn wsL_law wsL_bill := goodIn_ca (goodIn_r _ [323, 44, 324, 325, 326, 2, 327, 161, 162, 163, 164, 53, 54, 19, 50, 51, 52, 328, 329, 330, 331, 332, 123, 124, 125, 333, 334, 335, 112, 336, 126, 134, 121, 141, 139, 135, 337, 338, 339, 340, 246, 247, 248, 222, 223, 224, 225, 16, 221, 128, 129, 226, 227, 228, 229, 230, 231, 232, 233, 234, 235, 236, 237, 143, 140, 238, 239, 240, 241, 242, 243, 244, 245, 464, 465, 466, 467, 468, 486, 487, 488, 489, 490, 491, 492, 493, 494, 495, 496, 497] (by decide +kernel) (by decide +kernel)) (goodIn_sub (fun _ h => List.mem_append_left _ (List.mem_append_left _ (List.mem_append_right _ h))) (by decide +kernel))
set_option maxRecDepth 20000 in
theorem gL_law_L_bill : GoodIn wsL_law (va_wsS RL 146 yL_bill wsL_bill) := goodIn_app (goodIn_of _ (by decide +kernel)) ggL_law_L_bill
set_option maxRecDepth 20000 in
theorem ggL_law_X2_bill : GoodIn wsL_law wsX2_bill := goodIn_r _ [344, 169, 170, 171, 5, 172, 149, 64, 65, 66, 67, 68, 69, 70, 71, 345, 346, 347, 348, 257, 258, 259, 260, 29, 32, 26, 253, 254, 255, 256, 30, 261, 262, 263, 264, 31, 37, 38, 39, 265, 266, 267, 268, 33, 469, 470, 471, 472, 473, 474, 475, 476, 477, 478, 479, 480, 481, 482, 483, 484, 485] (by decide +kernel) (by decide +kernel)
set_option maxRecDepth 20000 in
theorem gL_law_X2_bill : GoodIn wsL_law (wsV RL 148 RX2 yX2_bill wsX2_bill) := goodIn_app (goodIn_of _ (by decide +kernel)) ggL_law_X2_bill
set_option maxRecDepth 20000 in
theorem ggL_law_L_billByDays : GoodIn wsL_law wsL_billByDays := goodIn_ca (goodIn_r _ [351, 44, 352, 353, 354, 2, 355, 161, 162, 163, 164, 53, 54, 19, 50, 51, 52, 222, 223, 224, 225, 16, 221, 128, 124, 129, 226, 227, 228, 112, 229, 126, 121, 230, 231, 232, 233, 134, 234, 235, 236, 237, 143, 141, 139, 140, 238, 239, 240, 241, 242, 243, 244, 245, 246, 247, 248, 135, 464, 465, 466, 467, 468, 486, 487, 488, 489, 490, 491, 492, 493, 494, 495, 496, 497] (by decide +kernel) (by decide +kernel)) (goodIn_sub (fun _ h => List.mem_append_left _ (List.mem_append_left _ (List.mem_append_right _ h))) (by decide +kernel))
set_option maxRecDepth 20000 in
theorem gL_law_L_billByDays : GoodIn wsL_law (va_wsS RL 149 yL_billByDays wsL_billByDays) := goodIn_app (goodIn_of _ (by decide +kernel)) ggL_law_L_billByDays
set_option maxRecDepth 20000 in
theorem ggL_law_X2_billByDays : GoodIn wsL_law wsX2_billByDays := goodIn_r _ [359, 169, 170, 171, 5, 172, 149, 64, 65, 66, 67, 68, 69, 70, 71, 345, 346, 347, 348, 257, 258, 259, 260, 29, 32, 26, 253, 254, 255, 256, 30, 261, 262, 263, 264, 31, 37, 38, 39, 265, 266, 267, 268, 33, 469, 470, 471, 472, 473, 474, 475, 476, 477, 478, 479, 480, 481, 482, 483, 484, 485] (by decide +kernel) (by decide +kernel)
set_option maxRecDepth 20000 in
theorem gL_law_X2_billByDays : GoodIn wsL_law (wsV RL 151 RX2 yX2_billByDays wsX2_billByDays) := goodIn_app (goodIn_of _ (by decide +kernel)) ggL_law_X2_billByDays
set_option maxRecDepth 20000 in
theorem ggL_law_L_bills : GoodIn wsL_law wsL_bills := goodIn_ca (goodIn_ca (goodIn_r _ [362, 44, 45, 363, 364, 365, 2, 366, 161, 162, 163, 164, 53, 54, 19, 50, 51, 52, 55, 56, 57, 58, 59, 328, 329, 330, 331, 332, 123, 124, 125, 333, 334, 335, 112, 336, 126, 134, 121, 141, 139, 135, 337, 338, 339, 340, 246, 247, 248, 222, 223, 224, 225, 16, 221, 128, 129, 226, 227, 228, 229, 230, 231, 232, 233, 234, 235, 236, 237, 143, 140, 238, 239, 240, 241, 242, 243, 244, 245, 464, 465, 466, 467, 468, 486, 487, 488, 489, 490, 491, 492, 493, 494, 495, 496, 497] (by decide +kernel) (by decide +kernel)) (goodIn_sub (fun _ h => List.mem_append_left _ (List.mem_append_left _ (List.mem_append_right _ h))) (by decide +kernel))) (goodIn_sub (fun _ h => List.mem_append_left _ (List.mem_append_right _ h)) (by decide +kernel))
set_option maxRecDepth 20000 in
theorem gL_law_L_bills : GoodIn wsL_law (va_wsS RL 152 yL_bills wsL_bills) := goodIn_app (goodIn_of _ (by decide +kernel)) ggL_law_L_bills
set_option maxRecDepth 20000 in
theorem ggL_law_X2_bills : GoodIn wsL_law wsX2_bills := goodIn_r _ [370, 169, 170, 171, 5, 172, 149, 64, 65, 66, 67, 68, 69, 70, 71, 345, 346, 347, 348, 257, 258, 259, 260, 29, 32, 26, 253, 254, 255, 256, 30, 261, 262, 263, 264, 31, 37, 38, 39, 265, 266, 267, 268, 33, 469, 470, 471, 472, 473, 474, 475, 476, 477, 478, 479, 480, 481, 482, 483, 484, 485] (by decide +kernel) (by decide +kernel)
set_option maxRecDepth 20000 in
theorem gL_law_X2_bills : GoodIn wsL_law (wsV RL 154 RX2 yX2_bills wsX2_bills) := goodIn_app (goodIn_of _ (by decide +kernel)) ggL_law_X2_bills
set_option maxRecDepth 20000 in
theorem ggL_law_L_nextChange : GoodIn wsL_law wsL_nextChange := goodIn_ca (goodIn_r _ [373, 44, 374, 375, 376, 2, 377, 161, 162, 163, 164, 53, 54, 19, 50, 51, 52, 333, 334, 335, 112, 336, 126, 134, 121, 141, 139, 135, 337, 338, 339, 340, 246, 247, 248, 222, 223, 224, 225, 16, 221, 128, 124, 129, 226, 227, 228, 229, 230, 231, 232, 233, 234, 235, 236, 237, 143, 140, 238, 239, 240, 241, 242, 243, 244, 245, 464, 465, 466, 467, 468, 486, 487, 488, 489, 490, 491, 492, 493, 494, 495, 496, 497] (by decide +kernel) (by decide +kernel)) (goodIn_sub (fun _ h => List.mem_append_left _ (List.mem_append_left _ (List.mem_append_right _ h))) (by decide +kernel))
set_option maxRecDepth 20000 in
theorem gL_law_L_nextChange : GoodIn wsL_law (va_wsS RL 155 yL_nextChange wsL_nextChange) := goodIn_app (goodIn_of _ (by decide +kernel)) ggL_law_L_nextChange
set_option maxRecDepth 20000 in
theorem ggL_law_X2_nextChange : GoodIn wsL_law wsX2_nextChange := goodIn_r _ [381, 30, 169, 170, 171, 5, 172, 149, 64, 65, 66, 67, 68, 69, 70, 71, 257, 258, 259, 260, 29, 32, 26, 253, 254, 255, 256, 261, 262, 263, 264, 31, 37, 38, 39, 265, 266, 267, 268, 33, 469, 470, 471, 472, 473, 474, 475, 476, 477, 478, 479, 480, 481, 482, 483, 484, 485] (by decide +kernel) (by decide +kernel)
set_option maxRecDepth 20000 in
theorem gL_law_X2_nextChange : GoodIn wsL_law (wsV RL 157 RX2 yX2_nextChange wsX2_nextChange) := goodIn_app (goodIn_of _ (by decide +kernel)) ggL_law_X2_nextChange
set_option maxRecDepth 20000 in
theorem ggL_law_L_voids : GoodIn wsL_law wsL_voids := goodIn_ca (goodIn_r _ [384, 44, 385, 386, 387, 2, 388, 15, 50, 51, 52, 53, 54, 113, 114, 115, 116, 19, 117, 118, 119, 112, 120, 121, 122, 123, 124, 125, 126, 127, 128, 129, 464, 465, 466, 467, 468, 486, 487, 488, 489, 490, 491, 492, 493, 494, 495, 496, 497] (by decide +kernel) (by decide +kernel)) (goodIn_sub (fun _ h => List.mem_append_left _ (List.mem_append_left _ (List.mem_append_right _ h))) (by decide +kernel))
set_option maxRecDepth 20000 in
theorem gL_law_L_voids : GoodIn wsL_law (va_wsS RL 158 yL_voids wsL_voids) := goodIn_app (goodIn_of _ (by decide +kernel)) ggL_law_L_voids
set_option maxRecDepth 20000 in
theorem ggL_law_X2_voids : GoodIn wsL_law wsX2_voids := goodIn_r _ [392, 149, 28, 64, 65, 5, 66, 67, 68, 69, 70, 71, 393, 394, 395, 396, 29, 30, 469, 470, 471, 472, 473, 474, 475, 476, 477, 478, 479, 480, 481, 482, 483, 484, 485] (by decide +kernel) (by decide +kernel)
set_option maxRecDepth 20000 in
theorem gL_law_X2_voids : GoodIn wsL_law (wsV RL 160 RX2 yX2_voids wsX2_voids) := goodIn_app (goodIn_of _ (by decide +kernel)) ggL_law_X2_voids
set_option maxRecDepth 20000 in
theorem ggL_law_L_part : GoodIn wsL_law wsL_part := goodIn_ca (goodIn_r _ [399, 44, 400, 401, 402, 2, 403, 17, 161, 162, 163, 164, 53, 54, 19, 50, 51, 52, 404, 405, 406, 407, 15, 408, 332, 123, 124, 125, 409, 410, 411, 412, 413, 414, 415, 112, 416, 417, 118, 119, 120, 121, 122, 126, 127, 128, 129, 238, 239, 240, 464, 465, 466, 467, 468, 486, 487, 488, 489, 490, 491, 492, 493, 494, 495, 496, 497] (by decide +kernel) (by decide +kernel)) (goodIn_sub (fun _ h => List.mem_append_left _ (List.mem_append_left _ (List.mem_append_right _ h))) (by decide +kernel))
set_option maxRecDepth 20000 in
theorem gL_law_L_part : GoodIn wsL_law (va_wsS RL 161 yL_part wsL_part) := goodIn_app (goodIn_of _ (by decide +kernel)) ggL_law_L_part
set_option maxRecDepth 20000 in
theorem ggL_law_X2_part : GoodIn wsL_law wsX2_part := goodIn_r _ [421, 169, 170, 171, 5, 172, 149, 64, 65, 66, 67, 68, 69, 70, 71, 422, 423, 424, 425, 27, 25, 28, 426, 34, 427, 428, 429, 430, 393, 394, 395, 396, 29, 30, 469, 470, 471, 472, 473, 474, 475, 476, 477, 478, 479, 480, 481, 482, 483, 484, 485] (by decide +kernel) (by decide +kernel)
set_option maxRecDepth 20000 in
theorem gL_law_X2_part : GoodIn wsL_law (wsV RL 163 RX2 yX2_part wsX2_part) := goodIn_app (goodIn_of _ (by decide +kernel)) ggL_law_X2_part
set_option maxRecDepth 20000 in
theorem ggL_law_L_owners : GoodIn wsL_law wsL_owners := goodIn_ca (goodIn_r _ [433, 44, 434, 435, 436, 2, 437, 17, 19, 50, 51, 52, 53, 54, 404, 405, 406, 407, 15, 408, 332, 123, 124, 125, 409, 410, 411, 412, 413, 414, 415, 112, 416, 417, 118, 119, 120, 121, 122, 126, 127, 128, 129, 238, 239, 240, 464, 465, 466, 467, 468, 486, 487, 488, 489, 490, 491, 492, 493, 494, 495, 496, 497] (by decide +kernel) (by decide +kernel)) (goodIn_sub (fun _ h => List.mem_append_left _ (List.mem_append_left _ (List.mem_append_right _ h))) (by decide +kernel))
set_option maxRecDepth 20000 in
theorem gL_law_L_owners : GoodIn wsL_law (va_wsS RL 164 yL_owners wsL_owners) := goodIn_app (goodIn_of _ (by decide +kernel)) ggL_law_L_owners
set_option maxRecDepth 20000 in
theorem ggL_law_X2_owners : GoodIn wsL_law wsX2_owners := goodIn_r _ [441, 27, 149, 64, 65, 5, 66, 67, 68, 69, 70, 71, 422, 423, 424, 425, 25, 28, 426, 34, 427, 428, 429, 430, 393, 394, 395, 396, 29, 30, 469, 470, 471, 472, 473, 474, 475, 476, 477, 478, 479, 480, 481, 482, 483, 484, 485] (by decide +kernel) (by decide +kernel)
set_option maxRecDepth 20000 in
theorem gL_law_X2_owners : GoodIn wsL_law (wsV RL 166 RX2 yX2_owners wsX2_owners) := goodIn_app (goodIn_of _ (by decide +kernel)) ggL_law_X2_owners
set_option maxRecDepth 20000 in
theorem ggL_law_L_balance : GoodIn wsL_law wsL_balance := goodIn_ca (goodIn_r _ [444, 44, 445, 446, 447, 2, 448, 17, 161, 162, 163, 164, 53, 54, 19, 50, 51, 52, 413, 414, 415, 112, 416, 417, 118, 119, 120, 121, 122, 123, 124, 125, 126, 127, 128, 129, 404, 405, 406, 407, 15, 408, 332, 409, 410, 411, 412, 238, 239, 240, 464, 465, 466, 467, 468, 486, 487, 488, 489, 490, 491, 492, 493, 494, 495, 496, 497] (by decide +kernel) (by decide +kernel)) (goodIn_sub (fun _ h => List.mem_append_left _ (List.mem_append_left _ (List.mem_append_right _ h))) (by decide +kernel))
set_option maxRecDepth 20000 in
theorem gL_law_L_balance : GoodIn wsL_law (va_wsS RL 167 yL_balance wsL_balance) := goodIn_app (goodIn_of _ (by decide +kernel)) ggL_law_L_balance
set_option maxRecDepth 20000 in
theorem ggL_law_X2_balance : GoodIn wsL_law wsX2_balance := goodIn_r _ [452, 35, 169, 170, 171, 5, 172, 149, 64, 65, 66, 67, 68, 69, 70, 71, 422, 423, 424, 425, 27, 25, 28, 426, 34, 427, 428, 429, 430, 393, 394, 395, 396, 29, 30, 469, 470, 471, 472, 473, 474, 475, 476, 477, 478, 479, 480, 481, 482, 483, 484, 485] (by decide +kernel) (by decide +kernel)
set_option maxRecDepth 20000 in
theorem gL_law_X2_balance : GoodIn wsL_law (wsV RL 169 RX2 yX2_balance wsX2_balance) := goodIn_app (goodIn_of _ (by decide +kernel)) ggL_law_X2_balance
set_option maxRecDepth 20000 in
theorem ggL_law_L_share : GoodIn wsL_law wsL_share := goodIn_ca (goodIn_r _ [455, 44, 456, 457, 458, 2, 459, 15, 50, 51, 52, 53, 54, 409, 410, 411, 412, 464, 465, 466, 467, 468] (by decide +kernel) (by decide +kernel)) (goodIn_sub (fun _ h => List.mem_append_left _ (List.mem_append_left _ (List.mem_append_right _ h))) (by decide +kernel))
set_option maxRecDepth 20000 in
theorem gL_law_L_share : GoodIn wsL_law (va_wsS RL 170 yL_share wsL_share) := goodIn_app (goodIn_of _ (by decide +kernel)) ggL_law_L_share
set_option maxRecDepth 20000 in
theorem ggL_law_X2_share : GoodIn wsL_law wsX2_share := goodIn_r _ [463, 25, 64, 65, 5, 66, 67, 68, 69, 70, 71, 427, 428, 429, 430, 469, 470, 471, 472, 473, 474, 475, 476, 477, 478, 479, 480, 481, 482, 483, 484, 485] (by decide +kernel) (by decide +kernel)
set_option maxRecDepth 20000 in
theorem gL_law_X2_share : GoodIn wsL_law (wsV RL 173 RX2 yX2_share wsX2_share) := goodIn_app (goodIn_of _ (by decide +kernel)) ggL_law_X2_share
end
section
theorem dL_law_0 : decode cL_law 0 = .ok (.new 8, 3) := by decide +kernel
theorem dL_law_3 : decode cL_law 3 = .ok (.dup, 1) := by decide +kernel
theorem dL_law_4 : decode cL_law 4 = .ok (.invokespecial 88, 3) := by decide +kernel
theorem dL_law_7 : decode cL_law 7 = .ok (.astore_n 1, 1) := by decide +kernel
theorem dL_law_8 : decode cL_law 8 = .ok (.new 89, 3) := by decide +kernel
theorem dL_law_11 : decode cL_law 11 = .ok (.dup, 1) := by decide +kernel
theorem dL_law_12 : decode cL_law 12 = .ok (.invokespecial 91, 3) := by decide +kernel
theorem dL_law_15 : decode cL_law 15 = .ok (.astore_n 2, 1) := by decide +kernel
theorem dL_law_16 : decode cL_law 16 = .ok (.iconst 1, 1) := by decide +kernel
theorem dL_law_17 : decode cL_law 17 = .ok (.newarray .long, 2) := by decide +kernel
theorem dL_law_19 : decode cL_law 19 = .ok (.astore_n 3, 1) := by decide +kernel
theorem dL_law_20 : decode cL_law 20 = .ok (.iconst 1, 1) := by decide +kernel
theorem dL_law_21 : decode cL_law 21 = .ok (.newarray .double, 2) := by decide +kernel
theorem dL_law_23 : decode cL_law 23 = .ok (.astore 4, 2) := by decide +kernel
theorem dL_law_25 : decode cL_law 25 = .ok (.iconst 0, 1) := by decide +kernel
theorem dL_law_26 : decode cL_law 26 = .ok (.istore 5, 2) := by decide +kernel
theorem dL_law_28 : decode cL_law 28 = .ok (.iload 5, 2) := by decide +kernel
theorem dL_law_30 : decode cL_law 30 = .ok (.aload_n 0, 1) := by decide +kernel
theorem dL_law_31 : decode cL_law 31 = .ok (.arraylength, 1) := by decide +kernel
theorem dL_law_32 : decode cL_law 32 = .ok (.iconst 5, 1) := by decide +kernel
theorem dL_law_33 : decode cL_law 33 = .ok (.isub, 1) := by decide +kernel
theorem dL_law_34 : decode cL_law 34 = .ok (.if_icmp .gt 1661, 3) := by decide +kernel
theorem dL_law_37 : decode cL_law 37 = .ok (.aload_n 0, 1) := by decide +kernel
theorem dL_law_38 : decode cL_law 38 = .ok (.iload 5, 2) := by decide +kernel
theorem dL_law_40 : decode cL_law 40 = .ok (.iaload, 1) := by decide +kernel
theorem dL_law_41 : decode cL_law 41 = .ok (.bipush 31, 2) := by decide +kernel
theorem dL_law_43 : decode cL_law 43 = .ok (.iand, 1) := by decide +kernel
theorem dL_law_44 : decode cL_law 44 = .ok (.tableswitch 1645 0 22 #[108, 176, 244, 312, 404, 472, 552, 612, 672, 752, 820, 876, 889, 957, 1025, 1093, 1161, 1240, 1308, 1376, 1444, 1500, 1568], 108) := by decide +kernel
theorem dL_law_152 : decode cL_law 152 = .ok (.aload_n 1, 1) := by decide +kernel
theorem dL_law_153 : decode cL_law 153 = .ok (.aload_n 0, 1) := by decide +kernel
theorem dL_law_154 : decode cL_law 154 = .ok (.iload 5, 2) := by decide +kernel
theorem dL_law_156 : decode cL_law 156 = .ok (.iconst 1, 1) := by decide +kernel
theorem dL_law_157 : decode cL_law 157 = .ok (.iadd, 1) := by decide +kernel
theorem dL_law_158 : decode cL_law 158 = .ok (.iaload, 1) := by decide +kernel
theorem dL_law_159 : decode cL_law 159 = .ok (.aload_n 0, 1) := by decide +kernel
theorem dL_law_160 : decode cL_law 160 = .ok (.iload 5, 2) := by decide +kernel
theorem dL_law_162 : decode cL_law 162 = .ok (.iconst 2, 1) := by decide +kernel
theorem dL_law_163 : decode cL_law 163 = .ok (.iadd, 1) := by decide +kernel
theorem dL_law_164 : decode cL_law 164 = .ok (.iaload, 1) := by decide +kernel
theorem dL_law_165 : decode cL_law 165 = .ok (.aload_n 3, 1) := by decide +kernel
theorem dL_law_166 : decode cL_law 166 = .ok (.invokestatic 92, 3) := by decide +kernel
theorem dL_law_169 : decode cL_law 169 = .ok (.istore 6, 2) := by decide +kernel
theorem dL_law_171 : decode cL_law 171 = .ok (.aload_n 2, 1) := by decide +kernel
theorem dL_law_172 : decode cL_law 172 = .ok (.aload_n 0, 1) := by decide +kernel
theorem dL_law_173 : decode cL_law 173 = .ok (.iload 5, 2) := by decide +kernel
theorem dL_law_175 : decode cL_law 175 = .ok (.iconst 1, 1) := by decide +kernel
theorem dL_law_176 : decode cL_law 176 = .ok (.iadd, 1) := by decide +kernel
theorem dL_law_177 : decode cL_law 177 = .ok (.iaload, 1) := by decide +kernel
theorem dL_law_178 : decode cL_law 178 = .ok (.aload_n 0, 1) := by decide +kernel
theorem dL_law_179 : decode cL_law 179 = .ok (.iload 5, 2) := by decide +kernel
theorem dL_law_181 : decode cL_law 181 = .ok (.iconst 2, 1) := by decide +kernel
theorem dL_law_182 : decode cL_law 182 = .ok (.iadd, 1) := by decide +kernel
theorem dL_law_183 : decode cL_law 183 = .ok (.iaload, 1) := by decide +kernel
theorem dL_law_184 : decode cL_law 184 = .ok (.invokevirtual 97, 3) := by decide +kernel
theorem dL_law_187 : decode cL_law 187 = .ok (.istore 7, 2) := by decide +kernel
theorem dL_law_189 : decode cL_law 189 = .ok (.aload_n 2, 1) := by decide +kernel
theorem dL_law_190 : decode cL_law 190 = .ok (.invokevirtual 98, 3) := by decide +kernel
theorem dL_law_193 : decode cL_law 193 = .ok (.iload 6, 2) := by decide +kernel
theorem dL_law_195 : decode cL_law 195 = .ok (.if_icmp .eq 5, 3) := by decide +kernel
theorem dL_law_198 : decode cL_law 198 = .ok (.iconst 0, 1) := by decide +kernel
theorem dL_law_199 : decode cL_law 199 = .ok (.ireturn, 1) := by decide +kernel
theorem dL_law_200 : decode cL_law 200 = .ok (.iload 6, 2) := by decide +kernel
theorem dL_law_202 : decode cL_law 202 = .ok (.ifCond .ne 15, 3) := by decide +kernel
theorem dL_law_205 : decode cL_law 205 = .ok (.aload_n 3, 1) := by decide +kernel
theorem dL_law_206 : decode cL_law 206 = .ok (.iconst 0, 1) := by decide +kernel
theorem dL_law_207 : decode cL_law 207 = .ok (.laload, 1) := by decide +kernel
theorem dL_law_208 : decode cL_law 208 = .ok (.iload 7, 2) := by decide +kernel
theorem dL_law_210 : decode cL_law 210 = .ok (.i2l, 1) := by decide +kernel
theorem dL_law_211 : decode cL_law 211 = .ok (.lcmp, 1) := by decide +kernel
theorem dL_law_212 : decode cL_law 212 = .ok (.ifCond .eq 5, 3) := by decide +kernel
theorem dL_law_215 : decode cL_law 215 = .ok (.iconst 0, 1) := by decide +kernel
theorem dL_law_216 : decode cL_law 216 = .ok (.ireturn, 1) := by decide +kernel
theorem dL_law_217 : decode cL_law 217 = .ok (.goto 1472, 3) := by decide +kernel
theorem dL_law_220 : decode cL_law 220 = .ok (.aload_n 1, 1) := by decide +kernel
theorem dL_law_221 : decode cL_law 221 = .ok (.aload_n 0, 1) := by decide +kernel
theorem dL_law_222 : decode cL_law 222 = .ok (.iload 5, 2) := by decide +kernel
theorem dL_law_224 : decode cL_law 224 = .ok (.iconst 1, 1) := by decide +kernel
theorem dL_law_225 : decode cL_law 225 = .ok (.iadd, 1) := by decide +kernel
theorem dL_law_226 : decode cL_law 226 = .ok (.iaload, 1) := by decide +kernel
theorem dL_law_227 : decode cL_law 227 = .ok (.aload_n 0, 1) := by decide +kernel
theorem dL_law_228 : decode cL_law 228 = .ok (.iload 5, 2) := by decide +kernel
theorem dL_law_230 : decode cL_law 230 = .ok (.iconst 2, 1) := by decide +kernel
theorem dL_law_231 : decode cL_law 231 = .ok (.iadd, 1) := by decide +kernel
theorem dL_law_232 : decode cL_law 232 = .ok (.iaload, 1) := by decide +kernel
theorem dL_law_233 : decode cL_law 233 = .ok (.aload_n 3, 1) := by decide +kernel
theorem dL_law_234 : decode cL_law 234 = .ok (.invokestatic 102, 3) := by decide +kernel
theorem dL_law_237 : decode cL_law 237 = .ok (.istore 6, 2) := by decide +kernel
theorem dL_law_239 : decode cL_law 239 = .ok (.aload_n 2, 1) := by decide +kernel
theorem dL_law_240 : decode cL_law 240 = .ok (.aload_n 0, 1) := by decide +kernel
theorem dL_law_241 : decode cL_law 241 = .ok (.iload 5, 2) := by decide +kernel
theorem dL_law_243 : decode cL_law 243 = .ok (.iconst 1, 1) := by decide +kernel
theorem dL_law_244 : decode cL_law 244 = .ok (.iadd, 1) := by decide +kernel
theorem dL_law_245 : decode cL_law 245 = .ok (.iaload, 1) := by decide +kernel
theorem dL_law_246 : decode cL_law 246 = .ok (.aload_n 0, 1) := by decide +kernel
theorem dL_law_247 : decode cL_law 247 = .ok (.iload 5, 2) := by decide +kernel
theorem dL_law_249 : decode cL_law 249 = .ok (.iconst 2, 1) := by decide +kernel
theorem dL_law_250 : decode cL_law 250 = .ok (.iadd, 1) := by decide +kernel
theorem dL_law_251 : decode cL_law 251 = .ok (.iaload, 1) := by decide +kernel
theorem dL_law_252 : decode cL_law 252 = .ok (.invokevirtual 104, 3) := by decide +kernel
theorem dL_law_255 : decode cL_law 255 = .ok (.istore 7, 2) := by decide +kernel
theorem dL_law_257 : decode cL_law 257 = .ok (.aload_n 2, 1) := by decide +kernel
theorem dL_law_258 : decode cL_law 258 = .ok (.invokevirtual 98, 3) := by decide +kernel
theorem dL_law_261 : decode cL_law 261 = .ok (.iload 6, 2) := by decide +kernel
theorem dL_law_263 : decode cL_law 263 = .ok (.if_icmp .eq 5, 3) := by decide +kernel
theorem dL_law_266 : decode cL_law 266 = .ok (.iconst 0, 1) := by decide +kernel
theorem dL_law_267 : decode cL_law 267 = .ok (.ireturn, 1) := by decide +kernel
theorem dL_law_268 : decode cL_law 268 = .ok (.iload 6, 2) := by decide +kernel
theorem dL_law_270 : decode cL_law 270 = .ok (.ifCond .ne 15, 3) := by decide +kernel
theorem dL_law_273 : decode cL_law 273 = .ok (.aload_n 3, 1) := by decide +kernel
theorem dL_law_274 : decode cL_law 274 = .ok (.iconst 0, 1) := by decide +kernel
theorem dL_law_275 : decode cL_law 275 = .ok (.laload, 1) := by decide +kernel
theorem dL_law_276 : decode cL_law 276 = .ok (.iload 7, 2) := by decide +kernel
theorem dL_law_278 : decode cL_law 278 = .ok (.i2l, 1) := by decide +kernel
theorem dL_law_279 : decode cL_law 279 = .ok (.lcmp, 1) := by decide +kernel
theorem dL_law_280 : decode cL_law 280 = .ok (.ifCond .eq 5, 3) := by decide +kernel
theorem dL_law_283 : decode cL_law 283 = .ok (.iconst 0, 1) := by decide +kernel
theorem dL_law_284 : decode cL_law 284 = .ok (.ireturn, 1) := by decide +kernel
theorem dL_law_285 : decode cL_law 285 = .ok (.goto 1404, 3) := by decide +kernel
theorem dL_law_288 : decode cL_law 288 = .ok (.aload_n 1, 1) := by decide +kernel
theorem dL_law_289 : decode cL_law 289 = .ok (.aload_n 0, 1) := by decide +kernel
theorem dL_law_290 : decode cL_law 290 = .ok (.iload 5, 2) := by decide +kernel
theorem dL_law_292 : decode cL_law 292 = .ok (.iconst 1, 1) := by decide +kernel
theorem dL_law_293 : decode cL_law 293 = .ok (.iadd, 1) := by decide +kernel
theorem dL_law_294 : decode cL_law 294 = .ok (.iaload, 1) := by decide +kernel
theorem dL_law_295 : decode cL_law 295 = .ok (.aload_n 0, 1) := by decide +kernel
theorem dL_law_296 : decode cL_law 296 = .ok (.iload 5, 2) := by decide +kernel
theorem dL_law_298 : decode cL_law 298 = .ok (.iconst 2, 1) := by decide +kernel
theorem dL_law_299 : decode cL_law 299 = .ok (.iadd, 1) := by decide +kernel
theorem dL_law_300 : decode cL_law 300 = .ok (.iaload, 1) := by decide +kernel
theorem dL_law_301 : decode cL_law 301 = .ok (.aload_n 3, 1) := by decide +kernel
theorem dL_law_302 : decode cL_law 302 = .ok (.invokestatic 105, 3) := by decide +kernel
theorem dL_law_305 : decode cL_law 305 = .ok (.istore 6, 2) := by decide +kernel
theorem dL_law_307 : decode cL_law 307 = .ok (.aload_n 2, 1) := by decide +kernel
theorem dL_law_308 : decode cL_law 308 = .ok (.aload_n 0, 1) := by decide +kernel
theorem dL_law_309 : decode cL_law 309 = .ok (.iload 5, 2) := by decide +kernel
theorem dL_law_311 : decode cL_law 311 = .ok (.iconst 1, 1) := by decide +kernel
theorem dL_law_312 : decode cL_law 312 = .ok (.iadd, 1) := by decide +kernel
theorem dL_law_313 : decode cL_law 313 = .ok (.iaload, 1) := by decide +kernel
theorem dL_law_314 : decode cL_law 314 = .ok (.aload_n 0, 1) := by decide +kernel
theorem dL_law_315 : decode cL_law 315 = .ok (.iload 5, 2) := by decide +kernel
theorem dL_law_317 : decode cL_law 317 = .ok (.iconst 2, 1) := by decide +kernel
theorem dL_law_318 : decode cL_law 318 = .ok (.iadd, 1) := by decide +kernel
theorem dL_law_319 : decode cL_law 319 = .ok (.iaload, 1) := by decide +kernel
theorem dL_law_320 : decode cL_law 320 = .ok (.invokevirtual 107, 3) := by decide +kernel
theorem dL_law_323 : decode cL_law 323 = .ok (.istore 7, 2) := by decide +kernel
theorem dL_law_325 : decode cL_law 325 = .ok (.aload_n 2, 1) := by decide +kernel
theorem dL_law_326 : decode cL_law 326 = .ok (.invokevirtual 98, 3) := by decide +kernel
theorem dL_law_329 : decode cL_law 329 = .ok (.iload 6, 2) := by decide +kernel
theorem dL_law_331 : decode cL_law 331 = .ok (.if_icmp .eq 5, 3) := by decide +kernel
theorem dL_law_334 : decode cL_law 334 = .ok (.iconst 0, 1) := by decide +kernel
theorem dL_law_335 : decode cL_law 335 = .ok (.ireturn, 1) := by decide +kernel
theorem dL_law_336 : decode cL_law 336 = .ok (.iload 6, 2) := by decide +kernel
theorem dL_law_338 : decode cL_law 338 = .ok (.ifCond .ne 15, 3) := by decide +kernel
theorem dL_law_341 : decode cL_law 341 = .ok (.aload_n 3, 1) := by decide +kernel
theorem dL_law_342 : decode cL_law 342 = .ok (.iconst 0, 1) := by decide +kernel
theorem dL_law_343 : decode cL_law 343 = .ok (.laload, 1) := by decide +kernel
theorem dL_law_344 : decode cL_law 344 = .ok (.iload 7, 2) := by decide +kernel
theorem dL_law_346 : decode cL_law 346 = .ok (.i2l, 1) := by decide +kernel
theorem dL_law_347 : decode cL_law 347 = .ok (.lcmp, 1) := by decide +kernel
theorem dL_law_348 : decode cL_law 348 = .ok (.ifCond .eq 5, 3) := by decide +kernel
theorem dL_law_351 : decode cL_law 351 = .ok (.iconst 0, 1) := by decide +kernel
theorem dL_law_352 : decode cL_law 352 = .ok (.ireturn, 1) := by decide +kernel
theorem dL_law_353 : decode cL_law 353 = .ok (.goto 1336, 3) := by decide +kernel
theorem dL_law_356 : decode cL_law 356 = .ok (.aload_n 1, 1) := by decide +kernel
theorem dL_law_357 : decode cL_law 357 = .ok (.aload_n 0, 1) := by decide +kernel
theorem dL_law_358 : decode cL_law 358 = .ok (.iload 5, 2) := by decide +kernel
theorem dL_law_360 : decode cL_law 360 = .ok (.iconst 1, 1) := by decide +kernel
theorem dL_law_361 : decode cL_law 361 = .ok (.iadd, 1) := by decide +kernel
theorem dL_law_362 : decode cL_law 362 = .ok (.iaload, 1) := by decide +kernel
theorem dL_law_363 : decode cL_law 363 = .ok (.aload_n 0, 1) := by decide +kernel
theorem dL_law_364 : decode cL_law 364 = .ok (.iload 5, 2) := by decide +kernel
theorem dL_law_366 : decode cL_law 366 = .ok (.iconst 2, 1) := by decide +kernel
theorem dL_law_367 : decode cL_law 367 = .ok (.iadd, 1) := by decide +kernel
theorem dL_law_368 : decode cL_law 368 = .ok (.iaload, 1) := by decide +kernel
theorem dL_law_369 : decode cL_law 369 = .ok (.aload_n 0, 1) := by decide +kernel
theorem dL_law_370 : decode cL_law 370 = .ok (.iload 5, 2) := by decide +kernel
theorem dL_law_372 : decode cL_law 372 = .ok (.iconst 3, 1) := by decide +kernel
theorem dL_law_373 : decode cL_law 373 = .ok (.iadd, 1) := by decide +kernel
theorem dL_law_374 : decode cL_law 374 = .ok (.iaload, 1) := by decide +kernel
theorem dL_law_375 : decode cL_law 375 = .ok (.aload_n 0, 1) := by decide +kernel
theorem dL_law_376 : decode cL_law 376 = .ok (.iload 5, 2) := by decide +kernel
theorem dL_law_378 : decode cL_law 378 = .ok (.iconst 4, 1) := by decide +kernel
theorem dL_law_379 : decode cL_law 379 = .ok (.iadd, 1) := by decide +kernel
theorem dL_law_380 : decode cL_law 380 = .ok (.iaload, 1) := by decide +kernel
theorem dL_law_381 : decode cL_law 381 = .ok (.aload_n 3, 1) := by decide +kernel
theorem dL_law_382 : decode cL_law 382 = .ok (.invokestatic 108, 3) := by decide +kernel
theorem dL_law_385 : decode cL_law 385 = .ok (.istore 6, 2) := by decide +kernel
theorem dL_law_387 : decode cL_law 387 = .ok (.aload_n 2, 1) := by decide +kernel
theorem dL_law_388 : decode cL_law 388 = .ok (.aload_n 0, 1) := by decide +kernel
theorem dL_law_389 : decode cL_law 389 = .ok (.iload 5, 2) := by decide +kernel
theorem dL_law_391 : decode cL_law 391 = .ok (.iconst 1, 1) := by decide +kernel
theorem dL_law_392 : decode cL_law 392 = .ok (.iadd, 1) := by decide +kernel
theorem dL_law_393 : decode cL_law 393 = .ok (.iaload, 1) := by decide +kernel
theorem dL_law_394 : decode cL_law 394 = .ok (.aload_n 0, 1) := by decide +kernel
theorem dL_law_395 : decode cL_law 395 = .ok (.iload 5, 2) := by decide +kernel
theorem dL_law_397 : decode cL_law 397 = .ok (.iconst 2, 1) := by decide +kernel
theorem dL_law_398 : decode cL_law 398 = .ok (.iadd, 1) := by decide +kernel
theorem dL_law_399 : decode cL_law 399 = .ok (.iaload, 1) := by decide +kernel
theorem dL_law_400 : decode cL_law 400 = .ok (.aload_n 0, 1) := by decide +kernel
theorem dL_law_401 : decode cL_law 401 = .ok (.iload 5, 2) := by decide +kernel
theorem dL_law_403 : decode cL_law 403 = .ok (.iconst 3, 1) := by decide +kernel
theorem dL_law_404 : decode cL_law 404 = .ok (.iadd, 1) := by decide +kernel
theorem dL_law_405 : decode cL_law 405 = .ok (.iaload, 1) := by decide +kernel
theorem dL_law_406 : decode cL_law 406 = .ok (.aload_n 0, 1) := by decide +kernel
theorem dL_law_407 : decode cL_law 407 = .ok (.iload 5, 2) := by decide +kernel
theorem dL_law_409 : decode cL_law 409 = .ok (.iconst 4, 1) := by decide +kernel
theorem dL_law_410 : decode cL_law 410 = .ok (.iadd, 1) := by decide +kernel
theorem dL_law_411 : decode cL_law 411 = .ok (.iaload, 1) := by decide +kernel
theorem dL_law_412 : decode cL_law 412 = .ok (.invokevirtual 111, 3) := by decide +kernel
theorem dL_law_415 : decode cL_law 415 = .ok (.istore 7, 2) := by decide +kernel
theorem dL_law_417 : decode cL_law 417 = .ok (.aload_n 2, 1) := by decide +kernel
theorem dL_law_418 : decode cL_law 418 = .ok (.invokevirtual 98, 3) := by decide +kernel
theorem dL_law_421 : decode cL_law 421 = .ok (.iload 6, 2) := by decide +kernel
theorem dL_law_423 : decode cL_law 423 = .ok (.if_icmp .eq 5, 3) := by decide +kernel
theorem dL_law_426 : decode cL_law 426 = .ok (.iconst 0, 1) := by decide +kernel
theorem dL_law_427 : decode cL_law 427 = .ok (.ireturn, 1) := by decide +kernel
theorem dL_law_428 : decode cL_law 428 = .ok (.iload 6, 2) := by decide +kernel
theorem dL_law_430 : decode cL_law 430 = .ok (.ifCond .ne 15, 3) := by decide +kernel
theorem dL_law_433 : decode cL_law 433 = .ok (.aload_n 3, 1) := by decide +kernel
theorem dL_law_434 : decode cL_law 434 = .ok (.iconst 0, 1) := by decide +kernel
theorem dL_law_435 : decode cL_law 435 = .ok (.laload, 1) := by decide +kernel
theorem dL_law_436 : decode cL_law 436 = .ok (.iload 7, 2) := by decide +kernel
theorem dL_law_438 : decode cL_law 438 = .ok (.i2l, 1) := by decide +kernel
theorem dL_law_439 : decode cL_law 439 = .ok (.lcmp, 1) := by decide +kernel
theorem dL_law_440 : decode cL_law 440 = .ok (.ifCond .eq 5, 3) := by decide +kernel
theorem dL_law_443 : decode cL_law 443 = .ok (.iconst 0, 1) := by decide +kernel
theorem dL_law_444 : decode cL_law 444 = .ok (.ireturn, 1) := by decide +kernel
theorem dL_law_445 : decode cL_law 445 = .ok (.goto 1244, 3) := by decide +kernel
theorem dL_law_448 : decode cL_law 448 = .ok (.aload_n 1, 1) := by decide +kernel
theorem dL_law_449 : decode cL_law 449 = .ok (.aload_n 0, 1) := by decide +kernel
theorem dL_law_450 : decode cL_law 450 = .ok (.iload 5, 2) := by decide +kernel
theorem dL_law_452 : decode cL_law 452 = .ok (.iconst 1, 1) := by decide +kernel
theorem dL_law_453 : decode cL_law 453 = .ok (.iadd, 1) := by decide +kernel
theorem dL_law_454 : decode cL_law 454 = .ok (.iaload, 1) := by decide +kernel
theorem dL_law_455 : decode cL_law 455 = .ok (.aload_n 0, 1) := by decide +kernel
theorem dL_law_456 : decode cL_law 456 = .ok (.iload 5, 2) := by decide +kernel
theorem dL_law_458 : decode cL_law 458 = .ok (.iconst 2, 1) := by decide +kernel
theorem dL_law_459 : decode cL_law 459 = .ok (.iadd, 1) := by decide +kernel
theorem dL_law_460 : decode cL_law 460 = .ok (.iaload, 1) := by decide +kernel
theorem dL_law_461 : decode cL_law 461 = .ok (.aload_n 3, 1) := by decide +kernel
theorem dL_law_462 : decode cL_law 462 = .ok (.invokestatic 112, 3) := by decide +kernel
theorem dL_law_465 : decode cL_law 465 = .ok (.istore 6, 2) := by decide +kernel
theorem dL_law_467 : decode cL_law 467 = .ok (.aload_n 2, 1) := by decide +kernel
theorem dL_law_468 : decode cL_law 468 = .ok (.aload_n 0, 1) := by decide +kernel
theorem dL_law_469 : decode cL_law 469 = .ok (.iload 5, 2) := by decide +kernel
theorem dL_law_471 : decode cL_law 471 = .ok (.iconst 1, 1) := by decide +kernel
theorem dL_law_472 : decode cL_law 472 = .ok (.iadd, 1) := by decide +kernel
theorem dL_law_473 : decode cL_law 473 = .ok (.iaload, 1) := by decide +kernel
theorem dL_law_474 : decode cL_law 474 = .ok (.aload_n 0, 1) := by decide +kernel
theorem dL_law_475 : decode cL_law 475 = .ok (.iload 5, 2) := by decide +kernel
theorem dL_law_477 : decode cL_law 477 = .ok (.iconst 2, 1) := by decide +kernel
theorem dL_law_478 : decode cL_law 478 = .ok (.iadd, 1) := by decide +kernel
theorem dL_law_479 : decode cL_law 479 = .ok (.iaload, 1) := by decide +kernel
theorem dL_law_480 : decode cL_law 480 = .ok (.invokevirtual 114, 3) := by decide +kernel
theorem dL_law_483 : decode cL_law 483 = .ok (.istore 7, 2) := by decide +kernel
theorem dL_law_485 : decode cL_law 485 = .ok (.aload_n 2, 1) := by decide +kernel
theorem dL_law_486 : decode cL_law 486 = .ok (.invokevirtual 98, 3) := by decide +kernel
theorem dL_law_489 : decode cL_law 489 = .ok (.iload 6, 2) := by decide +kernel
theorem dL_law_491 : decode cL_law 491 = .ok (.if_icmp .eq 5, 3) := by decide +kernel
theorem dL_law_494 : decode cL_law 494 = .ok (.iconst 0, 1) := by decide +kernel
theorem dL_law_495 : decode cL_law 495 = .ok (.ireturn, 1) := by decide +kernel
theorem dL_law_496 : decode cL_law 496 = .ok (.iload 6, 2) := by decide +kernel
theorem dL_law_498 : decode cL_law 498 = .ok (.ifCond .ne 15, 3) := by decide +kernel
theorem dL_law_501 : decode cL_law 501 = .ok (.aload_n 3, 1) := by decide +kernel
theorem dL_law_502 : decode cL_law 502 = .ok (.iconst 0, 1) := by decide +kernel
theorem dL_law_503 : decode cL_law 503 = .ok (.laload, 1) := by decide +kernel
theorem dL_law_504 : decode cL_law 504 = .ok (.iload 7, 2) := by decide +kernel
theorem dL_law_506 : decode cL_law 506 = .ok (.i2l, 1) := by decide +kernel
theorem dL_law_507 : decode cL_law 507 = .ok (.lcmp, 1) := by decide +kernel
theorem dL_law_508 : decode cL_law 508 = .ok (.ifCond .eq 5, 3) := by decide +kernel
theorem dL_law_511 : decode cL_law 511 = .ok (.iconst 0, 1) := by decide +kernel
theorem dL_law_512 : decode cL_law 512 = .ok (.ireturn, 1) := by decide +kernel
theorem dL_law_513 : decode cL_law 513 = .ok (.goto 1176, 3) := by decide +kernel
theorem dL_law_516 : decode cL_law 516 = .ok (.aload_n 1, 1) := by decide +kernel
theorem dL_law_517 : decode cL_law 517 = .ok (.aload_n 0, 1) := by decide +kernel
theorem dL_law_518 : decode cL_law 518 = .ok (.iload 5, 2) := by decide +kernel
theorem dL_law_520 : decode cL_law 520 = .ok (.iconst 1, 1) := by decide +kernel
theorem dL_law_521 : decode cL_law 521 = .ok (.iadd, 1) := by decide +kernel
theorem dL_law_522 : decode cL_law 522 = .ok (.iaload, 1) := by decide +kernel
theorem dL_law_523 : decode cL_law 523 = .ok (.aload_n 0, 1) := by decide +kernel
theorem dL_law_524 : decode cL_law 524 = .ok (.iload 5, 2) := by decide +kernel
theorem dL_law_526 : decode cL_law 526 = .ok (.iconst 2, 1) := by decide +kernel
theorem dL_law_527 : decode cL_law 527 = .ok (.iadd, 1) := by decide +kernel
theorem dL_law_528 : decode cL_law 528 = .ok (.iaload, 1) := by decide +kernel
theorem dL_law_529 : decode cL_law 529 = .ok (.aload_n 0, 1) := by decide +kernel
theorem dL_law_530 : decode cL_law 530 = .ok (.iload 5, 2) := by decide +kernel
theorem dL_law_532 : decode cL_law 532 = .ok (.iconst 3, 1) := by decide +kernel
theorem dL_law_533 : decode cL_law 533 = .ok (.iadd, 1) := by decide +kernel
theorem dL_law_534 : decode cL_law 534 = .ok (.iaload, 1) := by decide +kernel
theorem dL_law_535 : decode cL_law 535 = .ok (.aload_n 3, 1) := by decide +kernel
theorem dL_law_536 : decode cL_law 536 = .ok (.invokestatic 115, 3) := by decide +kernel
theorem dL_law_539 : decode cL_law 539 = .ok (.istore 6, 2) := by decide +kernel
theorem dL_law_541 : decode cL_law 541 = .ok (.aload_n 2, 1) := by decide +kernel
theorem dL_law_542 : decode cL_law 542 = .ok (.aload_n 0, 1) := by decide +kernel
theorem dL_law_543 : decode cL_law 543 = .ok (.iload 5, 2) := by decide +kernel
theorem dL_law_545 : decode cL_law 545 = .ok (.iconst 1, 1) := by decide +kernel
theorem dL_law_546 : decode cL_law 546 = .ok (.iadd, 1) := by decide +kernel
theorem dL_law_547 : decode cL_law 547 = .ok (.iaload, 1) := by decide +kernel
theorem dL_law_548 : decode cL_law 548 = .ok (.aload_n 0, 1) := by decide +kernel
theorem dL_law_549 : decode cL_law 549 = .ok (.iload 5, 2) := by decide +kernel
theorem dL_law_551 : decode cL_law 551 = .ok (.iconst 2, 1) := by decide +kernel
theorem dL_law_552 : decode cL_law 552 = .ok (.iadd, 1) := by decide +kernel
theorem dL_law_553 : decode cL_law 553 = .ok (.iaload, 1) := by decide +kernel
theorem dL_law_554 : decode cL_law 554 = .ok (.aload_n 0, 1) := by decide +kernel
theorem dL_law_555 : decode cL_law 555 = .ok (.iload 5, 2) := by decide +kernel
theorem dL_law_557 : decode cL_law 557 = .ok (.iconst 3, 1) := by decide +kernel
theorem dL_law_558 : decode cL_law 558 = .ok (.iadd, 1) := by decide +kernel
theorem dL_law_559 : decode cL_law 559 = .ok (.iaload, 1) := by decide +kernel
theorem dL_law_560 : decode cL_law 560 = .ok (.invokevirtual 118, 3) := by decide +kernel
theorem dL_law_563 : decode cL_law 563 = .ok (.istore 7, 2) := by decide +kernel
theorem dL_law_565 : decode cL_law 565 = .ok (.aload_n 2, 1) := by decide +kernel
theorem dL_law_566 : decode cL_law 566 = .ok (.invokevirtual 98, 3) := by decide +kernel
theorem dL_law_569 : decode cL_law 569 = .ok (.iload 6, 2) := by decide +kernel
theorem dL_law_571 : decode cL_law 571 = .ok (.if_icmp .eq 5, 3) := by decide +kernel
theorem dL_law_574 : decode cL_law 574 = .ok (.iconst 0, 1) := by decide +kernel
theorem dL_law_575 : decode cL_law 575 = .ok (.ireturn, 1) := by decide +kernel
theorem dL_law_576 : decode cL_law 576 = .ok (.iload 6, 2) := by decide +kernel
theorem dL_law_578 : decode cL_law 578 = .ok (.ifCond .ne 15, 3) := by decide +kernel
theorem dL_law_581 : decode cL_law 581 = .ok (.aload_n 3, 1) := by decide +kernel
theorem dL_law_582 : decode cL_law 582 = .ok (.iconst 0, 1) := by decide +kernel
theorem dL_law_583 : decode cL_law 583 = .ok (.laload, 1) := by decide +kernel
theorem dL_law_584 : decode cL_law 584 = .ok (.iload 7, 2) := by decide +kernel
theorem dL_law_586 : decode cL_law 586 = .ok (.i2l, 1) := by decide +kernel
theorem dL_law_587 : decode cL_law 587 = .ok (.lcmp, 1) := by decide +kernel
theorem dL_law_588 : decode cL_law 588 = .ok (.ifCond .eq 5, 3) := by decide +kernel
theorem dL_law_591 : decode cL_law 591 = .ok (.iconst 0, 1) := by decide +kernel
theorem dL_law_592 : decode cL_law 592 = .ok (.ireturn, 1) := by decide +kernel
theorem dL_law_593 : decode cL_law 593 = .ok (.goto 1096, 3) := by decide +kernel
theorem dL_law_596 : decode cL_law 596 = .ok (.aload_n 1, 1) := by decide +kernel
theorem dL_law_597 : decode cL_law 597 = .ok (.aload_n 0, 1) := by decide +kernel
theorem dL_law_598 : decode cL_law 598 = .ok (.iload 5, 2) := by decide +kernel
theorem dL_law_600 : decode cL_law 600 = .ok (.iconst 1, 1) := by decide +kernel
theorem dL_law_601 : decode cL_law 601 = .ok (.iadd, 1) := by decide +kernel
theorem dL_law_602 : decode cL_law 602 = .ok (.iaload, 1) := by decide +kernel
theorem dL_law_603 : decode cL_law 603 = .ok (.aload_n 0, 1) := by decide +kernel
theorem dL_law_604 : decode cL_law 604 = .ok (.iload 5, 2) := by decide +kernel
theorem dL_law_606 : decode cL_law 606 = .ok (.iconst 2, 1) := by decide +kernel
theorem dL_law_607 : decode cL_law 607 = .ok (.iadd, 1) := by decide +kernel
theorem dL_law_608 : decode cL_law 608 = .ok (.iaload, 1) := by decide +kernel
theorem dL_law_609 : decode cL_law 609 = .ok (.aload_n 0, 1) := by decide +kernel
theorem dL_law_610 : decode cL_law 610 = .ok (.iload 5, 2) := by decide +kernel
theorem dL_law_612 : decode cL_law 612 = .ok (.iconst 3, 1) := by decide +kernel
theorem dL_law_613 : decode cL_law 613 = .ok (.iadd, 1) := by decide +kernel
theorem dL_law_614 : decode cL_law 614 = .ok (.iaload, 1) := by decide +kernel
theorem dL_law_615 : decode cL_law 615 = .ok (.invokestatic 119, 3) := by decide +kernel
theorem dL_law_618 : decode cL_law 618 = .ok (.istore 6, 2) := by decide +kernel
theorem dL_law_620 : decode cL_law 620 = .ok (.aload_n 2, 1) := by decide +kernel
theorem dL_law_621 : decode cL_law 621 = .ok (.aload_n 0, 1) := by decide +kernel
theorem dL_law_622 : decode cL_law 622 = .ok (.iload 5, 2) := by decide +kernel
theorem dL_law_624 : decode cL_law 624 = .ok (.iconst 1, 1) := by decide +kernel
theorem dL_law_625 : decode cL_law 625 = .ok (.iadd, 1) := by decide +kernel
theorem dL_law_626 : decode cL_law 626 = .ok (.iaload, 1) := by decide +kernel
theorem dL_law_627 : decode cL_law 627 = .ok (.aload_n 0, 1) := by decide +kernel
theorem dL_law_628 : decode cL_law 628 = .ok (.iload 5, 2) := by decide +kernel
theorem dL_law_630 : decode cL_law 630 = .ok (.iconst 2, 1) := by decide +kernel
theorem dL_law_631 : decode cL_law 631 = .ok (.iadd, 1) := by decide +kernel
theorem dL_law_632 : decode cL_law 632 = .ok (.iaload, 1) := by decide +kernel
theorem dL_law_633 : decode cL_law 633 = .ok (.aload_n 0, 1) := by decide +kernel
theorem dL_law_634 : decode cL_law 634 = .ok (.iload 5, 2) := by decide +kernel
theorem dL_law_636 : decode cL_law 636 = .ok (.iconst 3, 1) := by decide +kernel
theorem dL_law_637 : decode cL_law 637 = .ok (.iadd, 1) := by decide +kernel
theorem dL_law_638 : decode cL_law 638 = .ok (.iaload, 1) := by decide +kernel
theorem dL_law_639 : decode cL_law 639 = .ok (.invokevirtual 122, 3) := by decide +kernel
theorem dL_law_642 : decode cL_law 642 = .ok (.aload_n 2, 1) := by decide +kernel
theorem dL_law_643 : decode cL_law 643 = .ok (.invokevirtual 98, 3) := by decide +kernel
theorem dL_law_646 : decode cL_law 646 = .ok (.iload 6, 2) := by decide +kernel
theorem dL_law_648 : decode cL_law 648 = .ok (.if_icmp .eq 5, 3) := by decide +kernel
theorem dL_law_651 : decode cL_law 651 = .ok (.iconst 0, 1) := by decide +kernel
theorem dL_law_652 : decode cL_law 652 = .ok (.ireturn, 1) := by decide +kernel
theorem dL_law_653 : decode cL_law 653 = .ok (.goto 1036, 3) := by decide +kernel
theorem dL_law_656 : decode cL_law 656 = .ok (.aload_n 1, 1) := by decide +kernel
theorem dL_law_657 : decode cL_law 657 = .ok (.aload_n 0, 1) := by decide +kernel
theorem dL_law_658 : decode cL_law 658 = .ok (.iload 5, 2) := by decide +kernel
theorem dL_law_660 : decode cL_law 660 = .ok (.iconst 1, 1) := by decide +kernel
theorem dL_law_661 : decode cL_law 661 = .ok (.iadd, 1) := by decide +kernel
theorem dL_law_662 : decode cL_law 662 = .ok (.iaload, 1) := by decide +kernel
theorem dL_law_663 : decode cL_law 663 = .ok (.aload_n 0, 1) := by decide +kernel
theorem dL_law_664 : decode cL_law 664 = .ok (.iload 5, 2) := by decide +kernel
theorem dL_law_666 : decode cL_law 666 = .ok (.iconst 2, 1) := by decide +kernel
theorem dL_law_667 : decode cL_law 667 = .ok (.iadd, 1) := by decide +kernel
theorem dL_law_668 : decode cL_law 668 = .ok (.iaload, 1) := by decide +kernel
theorem dL_law_669 : decode cL_law 669 = .ok (.aload_n 0, 1) := by decide +kernel
theorem dL_law_670 : decode cL_law 670 = .ok (.iload 5, 2) := by decide +kernel
theorem dL_law_672 : decode cL_law 672 = .ok (.iconst 3, 1) := by decide +kernel
theorem dL_law_673 : decode cL_law 673 = .ok (.iadd, 1) := by decide +kernel
theorem dL_law_674 : decode cL_law 674 = .ok (.iaload, 1) := by decide +kernel
theorem dL_law_675 : decode cL_law 675 = .ok (.invokestatic 123, 3) := by decide +kernel
theorem dL_law_678 : decode cL_law 678 = .ok (.istore 6, 2) := by decide +kernel
theorem dL_law_680 : decode cL_law 680 = .ok (.aload_n 2, 1) := by decide +kernel
theorem dL_law_681 : decode cL_law 681 = .ok (.aload_n 0, 1) := by decide +kernel
theorem dL_law_682 : decode cL_law 682 = .ok (.iload 5, 2) := by decide +kernel
theorem dL_law_684 : decode cL_law 684 = .ok (.iconst 1, 1) := by decide +kernel
theorem dL_law_685 : decode cL_law 685 = .ok (.iadd, 1) := by decide +kernel
theorem dL_law_686 : decode cL_law 686 = .ok (.iaload, 1) := by decide +kernel
theorem dL_law_687 : decode cL_law 687 = .ok (.aload_n 0, 1) := by decide +kernel
theorem dL_law_688 : decode cL_law 688 = .ok (.iload 5, 2) := by decide +kernel
theorem dL_law_690 : decode cL_law 690 = .ok (.iconst 2, 1) := by decide +kernel
theorem dL_law_691 : decode cL_law 691 = .ok (.iadd, 1) := by decide +kernel
theorem dL_law_692 : decode cL_law 692 = .ok (.iaload, 1) := by decide +kernel
theorem dL_law_693 : decode cL_law 693 = .ok (.aload_n 0, 1) := by decide +kernel
theorem dL_law_694 : decode cL_law 694 = .ok (.iload 5, 2) := by decide +kernel
theorem dL_law_696 : decode cL_law 696 = .ok (.iconst 3, 1) := by decide +kernel
theorem dL_law_697 : decode cL_law 697 = .ok (.iadd, 1) := by decide +kernel
theorem dL_law_698 : decode cL_law 698 = .ok (.iaload, 1) := by decide +kernel
theorem dL_law_699 : decode cL_law 699 = .ok (.invokevirtual 125, 3) := by decide +kernel
theorem dL_law_702 : decode cL_law 702 = .ok (.aload_n 2, 1) := by decide +kernel
theorem dL_law_703 : decode cL_law 703 = .ok (.invokevirtual 98, 3) := by decide +kernel
theorem dL_law_706 : decode cL_law 706 = .ok (.iload 6, 2) := by decide +kernel
theorem dL_law_708 : decode cL_law 708 = .ok (.if_icmp .eq 5, 3) := by decide +kernel
theorem dL_law_711 : decode cL_law 711 = .ok (.iconst 0, 1) := by decide +kernel
theorem dL_law_712 : decode cL_law 712 = .ok (.ireturn, 1) := by decide +kernel
theorem dL_law_713 : decode cL_law 713 = .ok (.goto 976, 3) := by decide +kernel
theorem dL_law_716 : decode cL_law 716 = .ok (.aload_n 1, 1) := by decide +kernel
theorem dL_law_717 : decode cL_law 717 = .ok (.aload_n 0, 1) := by decide +kernel
theorem dL_law_718 : decode cL_law 718 = .ok (.iload 5, 2) := by decide +kernel
theorem dL_law_720 : decode cL_law 720 = .ok (.iconst 1, 1) := by decide +kernel
theorem dL_law_721 : decode cL_law 721 = .ok (.iadd, 1) := by decide +kernel
theorem dL_law_722 : decode cL_law 722 = .ok (.iaload, 1) := by decide +kernel
theorem dL_law_723 : decode cL_law 723 = .ok (.aload_n 0, 1) := by decide +kernel
theorem dL_law_724 : decode cL_law 724 = .ok (.iload 5, 2) := by decide +kernel
theorem dL_law_726 : decode cL_law 726 = .ok (.iconst 2, 1) := by decide +kernel
theorem dL_law_727 : decode cL_law 727 = .ok (.iadd, 1) := by decide +kernel
theorem dL_law_728 : decode cL_law 728 = .ok (.iaload, 1) := by decide +kernel
theorem dL_law_729 : decode cL_law 729 = .ok (.aload_n 0, 1) := by decide +kernel
theorem dL_law_730 : decode cL_law 730 = .ok (.iload 5, 2) := by decide +kernel
theorem dL_law_732 : decode cL_law 732 = .ok (.iconst 3, 1) := by decide +kernel
theorem dL_law_733 : decode cL_law 733 = .ok (.iadd, 1) := by decide +kernel
theorem dL_law_734 : decode cL_law 734 = .ok (.iaload, 1) := by decide +kernel
theorem dL_law_735 : decode cL_law 735 = .ok (.aload_n 3, 1) := by decide +kernel
theorem dL_law_736 : decode cL_law 736 = .ok (.invokestatic 126, 3) := by decide +kernel
theorem dL_law_739 : decode cL_law 739 = .ok (.istore 6, 2) := by decide +kernel
theorem dL_law_741 : decode cL_law 741 = .ok (.aload_n 2, 1) := by decide +kernel
theorem dL_law_742 : decode cL_law 742 = .ok (.aload_n 0, 1) := by decide +kernel
theorem dL_law_743 : decode cL_law 743 = .ok (.iload 5, 2) := by decide +kernel
theorem dL_law_745 : decode cL_law 745 = .ok (.iconst 1, 1) := by decide +kernel
theorem dL_law_746 : decode cL_law 746 = .ok (.iadd, 1) := by decide +kernel
theorem dL_law_747 : decode cL_law 747 = .ok (.iaload, 1) := by decide +kernel
theorem dL_law_748 : decode cL_law 748 = .ok (.aload_n 0, 1) := by decide +kernel
theorem dL_law_749 : decode cL_law 749 = .ok (.iload 5, 2) := by decide +kernel
theorem dL_law_751 : decode cL_law 751 = .ok (.iconst 2, 1) := by decide +kernel
theorem dL_law_752 : decode cL_law 752 = .ok (.iadd, 1) := by decide +kernel
theorem dL_law_753 : decode cL_law 753 = .ok (.iaload, 1) := by decide +kernel
theorem dL_law_754 : decode cL_law 754 = .ok (.aload_n 0, 1) := by decide +kernel
theorem dL_law_755 : decode cL_law 755 = .ok (.iload 5, 2) := by decide +kernel
theorem dL_law_757 : decode cL_law 757 = .ok (.iconst 3, 1) := by decide +kernel
theorem dL_law_758 : decode cL_law 758 = .ok (.iadd, 1) := by decide +kernel
theorem dL_law_759 : decode cL_law 759 = .ok (.iaload, 1) := by decide +kernel
theorem dL_law_760 : decode cL_law 760 = .ok (.invokevirtual 128, 3) := by decide +kernel
theorem dL_law_763 : decode cL_law 763 = .ok (.istore 7, 2) := by decide +kernel
theorem dL_law_765 : decode cL_law 765 = .ok (.aload_n 2, 1) := by decide +kernel
theorem dL_law_766 : decode cL_law 766 = .ok (.invokevirtual 98, 3) := by decide +kernel
theorem dL_law_769 : decode cL_law 769 = .ok (.iload 6, 2) := by decide +kernel
theorem dL_law_771 : decode cL_law 771 = .ok (.if_icmp .eq 5, 3) := by decide +kernel
theorem dL_law_774 : decode cL_law 774 = .ok (.iconst 0, 1) := by decide +kernel
theorem dL_law_775 : decode cL_law 775 = .ok (.ireturn, 1) := by decide +kernel
theorem dL_law_776 : decode cL_law 776 = .ok (.iload 6, 2) := by decide +kernel
theorem dL_law_778 : decode cL_law 778 = .ok (.ifCond .ne 15, 3) := by decide +kernel
theorem dL_law_781 : decode cL_law 781 = .ok (.aload_n 3, 1) := by decide +kernel
theorem dL_law_782 : decode cL_law 782 = .ok (.iconst 0, 1) := by decide +kernel
theorem dL_law_783 : decode cL_law 783 = .ok (.laload, 1) := by decide +kernel
theorem dL_law_784 : decode cL_law 784 = .ok (.iload 7, 2) := by decide +kernel
theorem dL_law_786 : decode cL_law 786 = .ok (.i2l, 1) := by decide +kernel
theorem dL_law_787 : decode cL_law 787 = .ok (.lcmp, 1) := by decide +kernel
theorem dL_law_788 : decode cL_law 788 = .ok (.ifCond .eq 5, 3) := by decide +kernel
theorem dL_law_791 : decode cL_law 791 = .ok (.iconst 0, 1) := by decide +kernel
theorem dL_law_792 : decode cL_law 792 = .ok (.ireturn, 1) := by decide +kernel
theorem dL_law_793 : decode cL_law 793 = .ok (.goto 896, 3) := by decide +kernel
theorem dL_law_796 : decode cL_law 796 = .ok (.aload_n 1, 1) := by decide +kernel
theorem dL_law_797 : decode cL_law 797 = .ok (.aload_n 0, 1) := by decide +kernel
theorem dL_law_798 : decode cL_law 798 = .ok (.iload 5, 2) := by decide +kernel
theorem dL_law_800 : decode cL_law 800 = .ok (.iconst 1, 1) := by decide +kernel
theorem dL_law_801 : decode cL_law 801 = .ok (.iadd, 1) := by decide +kernel
theorem dL_law_802 : decode cL_law 802 = .ok (.iaload, 1) := by decide +kernel
theorem dL_law_803 : decode cL_law 803 = .ok (.aload_n 0, 1) := by decide +kernel
theorem dL_law_804 : decode cL_law 804 = .ok (.iload 5, 2) := by decide +kernel
theorem dL_law_806 : decode cL_law 806 = .ok (.iconst 2, 1) := by decide +kernel
theorem dL_law_807 : decode cL_law 807 = .ok (.iadd, 1) := by decide +kernel
theorem dL_law_808 : decode cL_law 808 = .ok (.iaload, 1) := by decide +kernel
theorem dL_law_809 : decode cL_law 809 = .ok (.aload_n 3, 1) := by decide +kernel
theorem dL_law_810 : decode cL_law 810 = .ok (.invokestatic 129, 3) := by decide +kernel
theorem dL_law_813 : decode cL_law 813 = .ok (.istore 6, 2) := by decide +kernel
theorem dL_law_815 : decode cL_law 815 = .ok (.aload_n 2, 1) := by decide +kernel
theorem dL_law_816 : decode cL_law 816 = .ok (.aload_n 0, 1) := by decide +kernel
theorem dL_law_817 : decode cL_law 817 = .ok (.iload 5, 2) := by decide +kernel
theorem dL_law_819 : decode cL_law 819 = .ok (.iconst 1, 1) := by decide +kernel
theorem dL_law_820 : decode cL_law 820 = .ok (.iadd, 1) := by decide +kernel
theorem dL_law_821 : decode cL_law 821 = .ok (.iaload, 1) := by decide +kernel
theorem dL_law_822 : decode cL_law 822 = .ok (.aload_n 0, 1) := by decide +kernel
theorem dL_law_823 : decode cL_law 823 = .ok (.iload 5, 2) := by decide +kernel
theorem dL_law_825 : decode cL_law 825 = .ok (.iconst 2, 1) := by decide +kernel
theorem dL_law_826 : decode cL_law 826 = .ok (.iadd, 1) := by decide +kernel
theorem dL_law_827 : decode cL_law 827 = .ok (.iaload, 1) := by decide +kernel
theorem dL_law_828 : decode cL_law 828 = .ok (.invokevirtual 131, 3) := by decide +kernel
theorem dL_law_831 : decode cL_law 831 = .ok (.istore 7, 2) := by decide +kernel
theorem dL_law_833 : decode cL_law 833 = .ok (.aload_n 2, 1) := by decide +kernel
theorem dL_law_834 : decode cL_law 834 = .ok (.invokevirtual 98, 3) := by decide +kernel
theorem dL_law_837 : decode cL_law 837 = .ok (.iload 6, 2) := by decide +kernel
theorem dL_law_839 : decode cL_law 839 = .ok (.if_icmp .eq 5, 3) := by decide +kernel
theorem dL_law_842 : decode cL_law 842 = .ok (.iconst 0, 1) := by decide +kernel
theorem dL_law_843 : decode cL_law 843 = .ok (.ireturn, 1) := by decide +kernel
theorem dL_law_844 : decode cL_law 844 = .ok (.iload 6, 2) := by decide +kernel
theorem dL_law_846 : decode cL_law 846 = .ok (.ifCond .ne 15, 3) := by decide +kernel
theorem dL_law_849 : decode cL_law 849 = .ok (.aload_n 3, 1) := by decide +kernel
theorem dL_law_850 : decode cL_law 850 = .ok (.iconst 0, 1) := by decide +kernel
theorem dL_law_851 : decode cL_law 851 = .ok (.laload, 1) := by decide +kernel
theorem dL_law_852 : decode cL_law 852 = .ok (.iload 7, 2) := by decide +kernel
theorem dL_law_854 : decode cL_law 854 = .ok (.i2l, 1) := by decide +kernel
theorem dL_law_855 : decode cL_law 855 = .ok (.lcmp, 1) := by decide +kernel
theorem dL_law_856 : decode cL_law 856 = .ok (.ifCond .eq 5, 3) := by decide +kernel
theorem dL_law_859 : decode cL_law 859 = .ok (.iconst 0, 1) := by decide +kernel
theorem dL_law_860 : decode cL_law 860 = .ok (.ireturn, 1) := by decide +kernel
theorem dL_law_861 : decode cL_law 861 = .ok (.goto 828, 3) := by decide +kernel
theorem dL_law_864 : decode cL_law 864 = .ok (.aload_n 1, 1) := by decide +kernel
theorem dL_law_865 : decode cL_law 865 = .ok (.aload_n 0, 1) := by decide +kernel
theorem dL_law_866 : decode cL_law 866 = .ok (.iload 5, 2) := by decide +kernel
theorem dL_law_868 : decode cL_law 868 = .ok (.iconst 1, 1) := by decide +kernel
theorem dL_law_869 : decode cL_law 869 = .ok (.iadd, 1) := by decide +kernel
theorem dL_law_870 : decode cL_law 870 = .ok (.iaload, 1) := by decide +kernel
theorem dL_law_871 : decode cL_law 871 = .ok (.aload_n 3, 1) := by decide +kernel
theorem dL_law_872 : decode cL_law 872 = .ok (.invokestatic 132, 3) := by decide +kernel
theorem dL_law_875 : decode cL_law 875 = .ok (.istore 6, 2) := by decide +kernel
theorem dL_law_877 : decode cL_law 877 = .ok (.aload_n 2, 1) := by decide +kernel
theorem dL_law_878 : decode cL_law 878 = .ok (.aload_n 0, 1) := by decide +kernel
theorem dL_law_879 : decode cL_law 879 = .ok (.iload 5, 2) := by decide +kernel
theorem dL_law_881 : decode cL_law 881 = .ok (.iconst 1, 1) := by decide +kernel
theorem dL_law_882 : decode cL_law 882 = .ok (.iadd, 1) := by decide +kernel
theorem dL_law_883 : decode cL_law 883 = .ok (.iaload, 1) := by decide +kernel
theorem dL_law_884 : decode cL_law 884 = .ok (.invokevirtual 135, 3) := by decide +kernel
theorem dL_law_887 : decode cL_law 887 = .ok (.istore 7, 2) := by decide +kernel
theorem dL_law_889 : decode cL_law 889 = .ok (.aload_n 2, 1) := by decide +kernel
theorem dL_law_890 : decode cL_law 890 = .ok (.invokevirtual 98, 3) := by decide +kernel
theorem dL_law_893 : decode cL_law 893 = .ok (.iload 6, 2) := by decide +kernel
theorem dL_law_895 : decode cL_law 895 = .ok (.if_icmp .eq 5, 3) := by decide +kernel
theorem dL_law_898 : decode cL_law 898 = .ok (.iconst 0, 1) := by decide +kernel
theorem dL_law_899 : decode cL_law 899 = .ok (.ireturn, 1) := by decide +kernel
theorem dL_law_900 : decode cL_law 900 = .ok (.iload 6, 2) := by decide +kernel
theorem dL_law_902 : decode cL_law 902 = .ok (.ifCond .ne 15, 3) := by decide +kernel
theorem dL_law_905 : decode cL_law 905 = .ok (.aload_n 3, 1) := by decide +kernel
theorem dL_law_906 : decode cL_law 906 = .ok (.iconst 0, 1) := by decide +kernel
theorem dL_law_907 : decode cL_law 907 = .ok (.laload, 1) := by decide +kernel
theorem dL_law_908 : decode cL_law 908 = .ok (.iload 7, 2) := by decide +kernel
theorem dL_law_910 : decode cL_law 910 = .ok (.i2l, 1) := by decide +kernel
theorem dL_law_911 : decode cL_law 911 = .ok (.lcmp, 1) := by decide +kernel
theorem dL_law_912 : decode cL_law 912 = .ok (.ifCond .eq 5, 3) := by decide +kernel
theorem dL_law_915 : decode cL_law 915 = .ok (.iconst 0, 1) := by decide +kernel
theorem dL_law_916 : decode cL_law 916 = .ok (.ireturn, 1) := by decide +kernel
theorem dL_law_917 : decode cL_law 917 = .ok (.goto 772, 3) := by decide +kernel
theorem dL_law_920 : decode cL_law 920 = .ok (.aload_n 1, 1) := by decide +kernel
theorem dL_law_921 : decode cL_law 921 = .ok (.invokevirtual 136, 3) := by decide +kernel
theorem dL_law_924 : decode cL_law 924 = .ok (.aload_n 2, 1) := by decide +kernel
theorem dL_law_925 : decode cL_law 925 = .ok (.invokevirtual 139, 3) := by decide +kernel
theorem dL_law_928 : decode cL_law 928 = .ok (.if_icmp .eq 761, 3) := by decide +kernel
theorem dL_law_931 : decode cL_law 931 = .ok (.iconst 0, 1) := by decide +kernel
theorem dL_law_932 : decode cL_law 932 = .ok (.ireturn, 1) := by decide +kernel
theorem dL_law_933 : decode cL_law 933 = .ok (.aload_n 1, 1) := by decide +kernel
theorem dL_law_934 : decode cL_law 934 = .ok (.aload_n 0, 1) := by decide +kernel
theorem dL_law_935 : decode cL_law 935 = .ok (.iload 5, 2) := by decide +kernel
theorem dL_law_937 : decode cL_law 937 = .ok (.iconst 1, 1) := by decide +kernel
theorem dL_law_938 : decode cL_law 938 = .ok (.iadd, 1) := by decide +kernel
theorem dL_law_939 : decode cL_law 939 = .ok (.iaload, 1) := by decide +kernel
theorem dL_law_940 : decode cL_law 940 = .ok (.aload_n 0, 1) := by decide +kernel
theorem dL_law_941 : decode cL_law 941 = .ok (.iload 5, 2) := by decide +kernel
theorem dL_law_943 : decode cL_law 943 = .ok (.iconst 2, 1) := by decide +kernel
theorem dL_law_944 : decode cL_law 944 = .ok (.iadd, 1) := by decide +kernel
theorem dL_law_945 : decode cL_law 945 = .ok (.iaload, 1) := by decide +kernel
theorem dL_law_946 : decode cL_law 946 = .ok (.aload_n 3, 1) := by decide +kernel
theorem dL_law_947 : decode cL_law 947 = .ok (.invokestatic 140, 3) := by decide +kernel
theorem dL_law_950 : decode cL_law 950 = .ok (.istore 6, 2) := by decide +kernel
theorem dL_law_952 : decode cL_law 952 = .ok (.aload_n 2, 1) := by decide +kernel
theorem dL_law_953 : decode cL_law 953 = .ok (.aload_n 0, 1) := by decide +kernel
theorem dL_law_954 : decode cL_law 954 = .ok (.iload 5, 2) := by decide +kernel
theorem dL_law_956 : decode cL_law 956 = .ok (.iconst 1, 1) := by decide +kernel
theorem dL_law_957 : decode cL_law 957 = .ok (.iadd, 1) := by decide +kernel
theorem dL_law_958 : decode cL_law 958 = .ok (.iaload, 1) := by decide +kernel
theorem dL_law_959 : decode cL_law 959 = .ok (.aload_n 0, 1) := by decide +kernel
theorem dL_law_960 : decode cL_law 960 = .ok (.iload 5, 2) := by decide +kernel
theorem dL_law_962 : decode cL_law 962 = .ok (.iconst 2, 1) := by decide +kernel
theorem dL_law_963 : decode cL_law 963 = .ok (.iadd, 1) := by decide +kernel
theorem dL_law_964 : decode cL_law 964 = .ok (.iaload, 1) := by decide +kernel
theorem dL_law_965 : decode cL_law 965 = .ok (.invokevirtual 142, 3) := by decide +kernel
theorem dL_law_968 : decode cL_law 968 = .ok (.istore 7, 2) := by decide +kernel
theorem dL_law_970 : decode cL_law 970 = .ok (.aload_n 2, 1) := by decide +kernel
theorem dL_law_971 : decode cL_law 971 = .ok (.invokevirtual 98, 3) := by decide +kernel
theorem dL_law_974 : decode cL_law 974 = .ok (.iload 6, 2) := by decide +kernel
theorem dL_law_976 : decode cL_law 976 = .ok (.if_icmp .eq 5, 3) := by decide +kernel
theorem dL_law_979 : decode cL_law 979 = .ok (.iconst 0, 1) := by decide +kernel
theorem dL_law_980 : decode cL_law 980 = .ok (.ireturn, 1) := by decide +kernel
theorem dL_law_981 : decode cL_law 981 = .ok (.iload 6, 2) := by decide +kernel
theorem dL_law_983 : decode cL_law 983 = .ok (.ifCond .ne 15, 3) := by decide +kernel
theorem dL_law_986 : decode cL_law 986 = .ok (.aload_n 3, 1) := by decide +kernel
theorem dL_law_987 : decode cL_law 987 = .ok (.iconst 0, 1) := by decide +kernel
theorem dL_law_988 : decode cL_law 988 = .ok (.laload, 1) := by decide +kernel
theorem dL_law_989 : decode cL_law 989 = .ok (.iload 7, 2) := by decide +kernel
theorem dL_law_991 : decode cL_law 991 = .ok (.i2l, 1) := by decide +kernel
theorem dL_law_992 : decode cL_law 992 = .ok (.lcmp, 1) := by decide +kernel
theorem dL_law_993 : decode cL_law 993 = .ok (.ifCond .eq 5, 3) := by decide +kernel
theorem dL_law_996 : decode cL_law 996 = .ok (.iconst 0, 1) := by decide +kernel
theorem dL_law_997 : decode cL_law 997 = .ok (.ireturn, 1) := by decide +kernel
theorem dL_law_998 : decode cL_law 998 = .ok (.goto 691, 3) := by decide +kernel
theorem dL_law_1001 : decode cL_law 1001 = .ok (.aload_n 1, 1) := by decide +kernel
theorem dL_law_1002 : decode cL_law 1002 = .ok (.aload_n 0, 1) := by decide +kernel
theorem dL_law_1003 : decode cL_law 1003 = .ok (.iload 5, 2) := by decide +kernel
theorem dL_law_1005 : decode cL_law 1005 = .ok (.iconst 1, 1) := by decide +kernel
theorem dL_law_1006 : decode cL_law 1006 = .ok (.iadd, 1) := by decide +kernel
theorem dL_law_1007 : decode cL_law 1007 = .ok (.iaload, 1) := by decide +kernel
theorem dL_law_1008 : decode cL_law 1008 = .ok (.aload_n 0, 1) := by decide +kernel
theorem dL_law_1009 : decode cL_law 1009 = .ok (.iload 5, 2) := by decide +kernel
theorem dL_law_1011 : decode cL_law 1011 = .ok (.iconst 2, 1) := by decide +kernel
theorem dL_law_1012 : decode cL_law 1012 = .ok (.iadd, 1) := by decide +kernel
theorem dL_law_1013 : decode cL_law 1013 = .ok (.iaload, 1) := by decide +kernel
theorem dL_law_1014 : decode cL_law 1014 = .ok (.aload_n 3, 1) := by decide +kernel
theorem dL_law_1015 : decode cL_law 1015 = .ok (.invokestatic 143, 3) := by decide +kernel
theorem dL_law_1018 : decode cL_law 1018 = .ok (.istore 6, 2) := by decide +kernel
theorem dL_law_1020 : decode cL_law 1020 = .ok (.aload_n 2, 1) := by decide +kernel
theorem dL_law_1021 : decode cL_law 1021 = .ok (.aload_n 0, 1) := by decide +kernel
theorem dL_law_1022 : decode cL_law 1022 = .ok (.iload 5, 2) := by decide +kernel
theorem dL_law_1024 : decode cL_law 1024 = .ok (.iconst 1, 1) := by decide +kernel
theorem dL_law_1025 : decode cL_law 1025 = .ok (.iadd, 1) := by decide +kernel
theorem dL_law_1026 : decode cL_law 1026 = .ok (.iaload, 1) := by decide +kernel
theorem dL_law_1027 : decode cL_law 1027 = .ok (.aload_n 0, 1) := by decide +kernel
theorem dL_law_1028 : decode cL_law 1028 = .ok (.iload 5, 2) := by decide +kernel
theorem dL_law_1030 : decode cL_law 1030 = .ok (.iconst 2, 1) := by decide +kernel
theorem dL_law_1031 : decode cL_law 1031 = .ok (.iadd, 1) := by decide +kernel
theorem dL_law_1032 : decode cL_law 1032 = .ok (.iaload, 1) := by decide +kernel
theorem dL_law_1033 : decode cL_law 1033 = .ok (.invokevirtual 145, 3) := by decide +kernel
theorem dL_law_1036 : decode cL_law 1036 = .ok (.istore 7, 2) := by decide +kernel
theorem dL_law_1038 : decode cL_law 1038 = .ok (.aload_n 2, 1) := by decide +kernel
theorem dL_law_1039 : decode cL_law 1039 = .ok (.invokevirtual 98, 3) := by decide +kernel
theorem dL_law_1042 : decode cL_law 1042 = .ok (.iload 6, 2) := by decide +kernel
theorem dL_law_1044 : decode cL_law 1044 = .ok (.if_icmp .eq 5, 3) := by decide +kernel
theorem dL_law_1047 : decode cL_law 1047 = .ok (.iconst 0, 1) := by decide +kernel
theorem dL_law_1048 : decode cL_law 1048 = .ok (.ireturn, 1) := by decide +kernel
theorem dL_law_1049 : decode cL_law 1049 = .ok (.iload 6, 2) := by decide +kernel
theorem dL_law_1051 : decode cL_law 1051 = .ok (.ifCond .ne 15, 3) := by decide +kernel
theorem dL_law_1054 : decode cL_law 1054 = .ok (.aload_n 3, 1) := by decide +kernel
theorem dL_law_1055 : decode cL_law 1055 = .ok (.iconst 0, 1) := by decide +kernel
theorem dL_law_1056 : decode cL_law 1056 = .ok (.laload, 1) := by decide +kernel
theorem dL_law_1057 : decode cL_law 1057 = .ok (.iload 7, 2) := by decide +kernel
theorem dL_law_1059 : decode cL_law 1059 = .ok (.i2l, 1) := by decide +kernel
theorem dL_law_1060 : decode cL_law 1060 = .ok (.lcmp, 1) := by decide +kernel
theorem dL_law_1061 : decode cL_law 1061 = .ok (.ifCond .eq 5, 3) := by decide +kernel
theorem dL_law_1064 : decode cL_law 1064 = .ok (.iconst 0, 1) := by decide +kernel
theorem dL_law_1065 : decode cL_law 1065 = .ok (.ireturn, 1) := by decide +kernel
theorem dL_law_1066 : decode cL_law 1066 = .ok (.goto 623, 3) := by decide +kernel
theorem dL_law_1069 : decode cL_law 1069 = .ok (.aload_n 1, 1) := by decide +kernel
theorem dL_law_1070 : decode cL_law 1070 = .ok (.aload_n 0, 1) := by decide +kernel
theorem dL_law_1071 : decode cL_law 1071 = .ok (.iload 5, 2) := by decide +kernel
theorem dL_law_1073 : decode cL_law 1073 = .ok (.iconst 1, 1) := by decide +kernel
theorem dL_law_1074 : decode cL_law 1074 = .ok (.iadd, 1) := by decide +kernel
theorem dL_law_1075 : decode cL_law 1075 = .ok (.iaload, 1) := by decide +kernel
theorem dL_law_1076 : decode cL_law 1076 = .ok (.aload_n 0, 1) := by decide +kernel
theorem dL_law_1077 : decode cL_law 1077 = .ok (.iload 5, 2) := by decide +kernel
theorem dL_law_1079 : decode cL_law 1079 = .ok (.iconst 2, 1) := by decide +kernel
theorem dL_law_1080 : decode cL_law 1080 = .ok (.iadd, 1) := by decide +kernel
theorem dL_law_1081 : decode cL_law 1081 = .ok (.iaload, 1) := by decide +kernel
theorem dL_law_1082 : decode cL_law 1082 = .ok (.aload_n 3, 1) := by decide +kernel
theorem dL_law_1083 : decode cL_law 1083 = .ok (.invokestatic 146, 3) := by decide +kernel
theorem dL_law_1086 : decode cL_law 1086 = .ok (.istore 6, 2) := by decide +kernel
theorem dL_law_1088 : decode cL_law 1088 = .ok (.aload_n 2, 1) := by decide +kernel
theorem dL_law_1089 : decode cL_law 1089 = .ok (.aload_n 0, 1) := by decide +kernel
theorem dL_law_1090 : decode cL_law 1090 = .ok (.iload 5, 2) := by decide +kernel
theorem dL_law_1092 : decode cL_law 1092 = .ok (.iconst 1, 1) := by decide +kernel
theorem dL_law_1093 : decode cL_law 1093 = .ok (.iadd, 1) := by decide +kernel
theorem dL_law_1094 : decode cL_law 1094 = .ok (.iaload, 1) := by decide +kernel
theorem dL_law_1095 : decode cL_law 1095 = .ok (.aload_n 0, 1) := by decide +kernel
theorem dL_law_1096 : decode cL_law 1096 = .ok (.iload 5, 2) := by decide +kernel
theorem dL_law_1098 : decode cL_law 1098 = .ok (.iconst 2, 1) := by decide +kernel
theorem dL_law_1099 : decode cL_law 1099 = .ok (.iadd, 1) := by decide +kernel
theorem dL_law_1100 : decode cL_law 1100 = .ok (.iaload, 1) := by decide +kernel
theorem dL_law_1101 : decode cL_law 1101 = .ok (.invokevirtual 148, 3) := by decide +kernel
theorem dL_law_1104 : decode cL_law 1104 = .ok (.istore 7, 2) := by decide +kernel
theorem dL_law_1106 : decode cL_law 1106 = .ok (.aload_n 2, 1) := by decide +kernel
theorem dL_law_1107 : decode cL_law 1107 = .ok (.invokevirtual 98, 3) := by decide +kernel
theorem dL_law_1110 : decode cL_law 1110 = .ok (.iload 6, 2) := by decide +kernel
theorem dL_law_1112 : decode cL_law 1112 = .ok (.if_icmp .eq 5, 3) := by decide +kernel
theorem dL_law_1115 : decode cL_law 1115 = .ok (.iconst 0, 1) := by decide +kernel
theorem dL_law_1116 : decode cL_law 1116 = .ok (.ireturn, 1) := by decide +kernel
theorem dL_law_1117 : decode cL_law 1117 = .ok (.iload 6, 2) := by decide +kernel
theorem dL_law_1119 : decode cL_law 1119 = .ok (.ifCond .ne 15, 3) := by decide +kernel
theorem dL_law_1122 : decode cL_law 1122 = .ok (.aload_n 3, 1) := by decide +kernel
theorem dL_law_1123 : decode cL_law 1123 = .ok (.iconst 0, 1) := by decide +kernel
theorem dL_law_1124 : decode cL_law 1124 = .ok (.laload, 1) := by decide +kernel
theorem dL_law_1125 : decode cL_law 1125 = .ok (.iload 7, 2) := by decide +kernel
theorem dL_law_1127 : decode cL_law 1127 = .ok (.i2l, 1) := by decide +kernel
theorem dL_law_1128 : decode cL_law 1128 = .ok (.lcmp, 1) := by decide +kernel
theorem dL_law_1129 : decode cL_law 1129 = .ok (.ifCond .eq 5, 3) := by decide +kernel
theorem dL_law_1132 : decode cL_law 1132 = .ok (.iconst 0, 1) := by decide +kernel
theorem dL_law_1133 : decode cL_law 1133 = .ok (.ireturn, 1) := by decide +kernel
theorem dL_law_1134 : decode cL_law 1134 = .ok (.goto 555, 3) := by decide +kernel
theorem dL_law_1137 : decode cL_law 1137 = .ok (.aload_n 1, 1) := by decide +kernel
theorem dL_law_1138 : decode cL_law 1138 = .ok (.aload_n 0, 1) := by decide +kernel
theorem dL_law_1139 : decode cL_law 1139 = .ok (.iload 5, 2) := by decide +kernel
theorem dL_law_1141 : decode cL_law 1141 = .ok (.iconst 1, 1) := by decide +kernel
theorem dL_law_1142 : decode cL_law 1142 = .ok (.iadd, 1) := by decide +kernel
theorem dL_law_1143 : decode cL_law 1143 = .ok (.iaload, 1) := by decide +kernel
theorem dL_law_1144 : decode cL_law 1144 = .ok (.aload_n 0, 1) := by decide +kernel
theorem dL_law_1145 : decode cL_law 1145 = .ok (.iload 5, 2) := by decide +kernel
theorem dL_law_1147 : decode cL_law 1147 = .ok (.iconst 2, 1) := by decide +kernel
theorem dL_law_1148 : decode cL_law 1148 = .ok (.iadd, 1) := by decide +kernel
theorem dL_law_1149 : decode cL_law 1149 = .ok (.iaload, 1) := by decide +kernel
theorem dL_law_1150 : decode cL_law 1150 = .ok (.aload_n 3, 1) := by decide +kernel
theorem dL_law_1151 : decode cL_law 1151 = .ok (.invokestatic 149, 3) := by decide +kernel
theorem dL_law_1154 : decode cL_law 1154 = .ok (.istore 6, 2) := by decide +kernel
theorem dL_law_1156 : decode cL_law 1156 = .ok (.aload_n 2, 1) := by decide +kernel
theorem dL_law_1157 : decode cL_law 1157 = .ok (.aload_n 0, 1) := by decide +kernel
theorem dL_law_1158 : decode cL_law 1158 = .ok (.iload 5, 2) := by decide +kernel
theorem dL_law_1160 : decode cL_law 1160 = .ok (.iconst 1, 1) := by decide +kernel
theorem dL_law_1161 : decode cL_law 1161 = .ok (.iadd, 1) := by decide +kernel
theorem dL_law_1162 : decode cL_law 1162 = .ok (.iaload, 1) := by decide +kernel
theorem dL_law_1163 : decode cL_law 1163 = .ok (.aload_n 0, 1) := by decide +kernel
theorem dL_law_1164 : decode cL_law 1164 = .ok (.iload 5, 2) := by decide +kernel
theorem dL_law_1166 : decode cL_law 1166 = .ok (.iconst 2, 1) := by decide +kernel
theorem dL_law_1167 : decode cL_law 1167 = .ok (.iadd, 1) := by decide +kernel
theorem dL_law_1168 : decode cL_law 1168 = .ok (.iaload, 1) := by decide +kernel
theorem dL_law_1169 : decode cL_law 1169 = .ok (.invokevirtual 151, 3) := by decide +kernel
theorem dL_law_1172 : decode cL_law 1172 = .ok (.istore 7, 2) := by decide +kernel
theorem dL_law_1174 : decode cL_law 1174 = .ok (.aload_n 2, 1) := by decide +kernel
theorem dL_law_1175 : decode cL_law 1175 = .ok (.invokevirtual 98, 3) := by decide +kernel
theorem dL_law_1178 : decode cL_law 1178 = .ok (.iload 6, 2) := by decide +kernel
theorem dL_law_1180 : decode cL_law 1180 = .ok (.if_icmp .eq 5, 3) := by decide +kernel
theorem dL_law_1183 : decode cL_law 1183 = .ok (.iconst 0, 1) := by decide +kernel
theorem dL_law_1184 : decode cL_law 1184 = .ok (.ireturn, 1) := by decide +kernel
theorem dL_law_1185 : decode cL_law 1185 = .ok (.iload 6, 2) := by decide +kernel
theorem dL_law_1187 : decode cL_law 1187 = .ok (.ifCond .ne 15, 3) := by decide +kernel
theorem dL_law_1190 : decode cL_law 1190 = .ok (.aload_n 3, 1) := by decide +kernel
theorem dL_law_1191 : decode cL_law 1191 = .ok (.iconst 0, 1) := by decide +kernel
theorem dL_law_1192 : decode cL_law 1192 = .ok (.laload, 1) := by decide +kernel
theorem dL_law_1193 : decode cL_law 1193 = .ok (.iload 7, 2) := by decide +kernel
theorem dL_law_1195 : decode cL_law 1195 = .ok (.i2l, 1) := by decide +kernel
theorem dL_law_1196 : decode cL_law 1196 = .ok (.lcmp, 1) := by decide +kernel
theorem dL_law_1197 : decode cL_law 1197 = .ok (.ifCond .eq 5, 3) := by decide +kernel
theorem dL_law_1200 : decode cL_law 1200 = .ok (.iconst 0, 1) := by decide +kernel
theorem dL_law_1201 : decode cL_law 1201 = .ok (.ireturn, 1) := by decide +kernel
theorem dL_law_1202 : decode cL_law 1202 = .ok (.goto 487, 3) := by decide +kernel
theorem dL_law_1205 : decode cL_law 1205 = .ok (.aload_n 1, 1) := by decide +kernel
theorem dL_law_1206 : decode cL_law 1206 = .ok (.aload_n 0, 1) := by decide +kernel
theorem dL_law_1207 : decode cL_law 1207 = .ok (.iload 5, 2) := by decide +kernel
theorem dL_law_1209 : decode cL_law 1209 = .ok (.iconst 1, 1) := by decide +kernel
theorem dL_law_1210 : decode cL_law 1210 = .ok (.iadd, 1) := by decide +kernel
theorem dL_law_1211 : decode cL_law 1211 = .ok (.iaload, 1) := by decide +kernel
theorem dL_law_1212 : decode cL_law 1212 = .ok (.aload_n 0, 1) := by decide +kernel
theorem dL_law_1213 : decode cL_law 1213 = .ok (.iload 5, 2) := by decide +kernel
theorem dL_law_1215 : decode cL_law 1215 = .ok (.iconst 2, 1) := by decide +kernel
theorem dL_law_1216 : decode cL_law 1216 = .ok (.iadd, 1) := by decide +kernel
theorem dL_law_1217 : decode cL_law 1217 = .ok (.iaload, 1) := by decide +kernel
theorem dL_law_1218 : decode cL_law 1218 = .ok (.aload_n 0, 1) := by decide +kernel
theorem dL_law_1219 : decode cL_law 1219 = .ok (.iload 5, 2) := by decide +kernel
theorem dL_law_1221 : decode cL_law 1221 = .ok (.iconst 3, 1) := by decide +kernel
theorem dL_law_1222 : decode cL_law 1222 = .ok (.iadd, 1) := by decide +kernel
theorem dL_law_1223 : decode cL_law 1223 = .ok (.iaload, 1) := by decide +kernel
theorem dL_law_1224 : decode cL_law 1224 = .ok (.aload_n 3, 1) := by decide +kernel
theorem dL_law_1225 : decode cL_law 1225 = .ok (.invokestatic 152, 3) := by decide +kernel
theorem dL_law_1228 : decode cL_law 1228 = .ok (.istore 6, 2) := by decide +kernel
theorem dL_law_1230 : decode cL_law 1230 = .ok (.aload_n 2, 1) := by decide +kernel
theorem dL_law_1231 : decode cL_law 1231 = .ok (.aload_n 0, 1) := by decide +kernel
theorem dL_law_1232 : decode cL_law 1232 = .ok (.iload 5, 2) := by decide +kernel
theorem dL_law_1234 : decode cL_law 1234 = .ok (.iconst 1, 1) := by decide +kernel
theorem dL_law_1235 : decode cL_law 1235 = .ok (.iadd, 1) := by decide +kernel
theorem dL_law_1236 : decode cL_law 1236 = .ok (.iaload, 1) := by decide +kernel
theorem dL_law_1237 : decode cL_law 1237 = .ok (.aload_n 0, 1) := by decide +kernel
theorem dL_law_1238 : decode cL_law 1238 = .ok (.iload 5, 2) := by decide +kernel
theorem dL_law_1240 : decode cL_law 1240 = .ok (.iconst 2, 1) := by decide +kernel
theorem dL_law_1241 : decode cL_law 1241 = .ok (.iadd, 1) := by decide +kernel
theorem dL_law_1242 : decode cL_law 1242 = .ok (.iaload, 1) := by decide +kernel
theorem dL_law_1243 : decode cL_law 1243 = .ok (.aload_n 0, 1) := by decide +kernel
theorem dL_law_1244 : decode cL_law 1244 = .ok (.iload 5, 2) := by decide +kernel
theorem dL_law_1246 : decode cL_law 1246 = .ok (.iconst 3, 1) := by decide +kernel
theorem dL_law_1247 : decode cL_law 1247 = .ok (.iadd, 1) := by decide +kernel
theorem dL_law_1248 : decode cL_law 1248 = .ok (.iaload, 1) := by decide +kernel
theorem dL_law_1249 : decode cL_law 1249 = .ok (.invokevirtual 154, 3) := by decide +kernel
theorem dL_law_1252 : decode cL_law 1252 = .ok (.lstore 7, 2) := by decide +kernel
theorem dL_law_1254 : decode cL_law 1254 = .ok (.aload_n 2, 1) := by decide +kernel
theorem dL_law_1255 : decode cL_law 1255 = .ok (.invokevirtual 98, 3) := by decide +kernel
theorem dL_law_1258 : decode cL_law 1258 = .ok (.iload 6, 2) := by decide +kernel
theorem dL_law_1260 : decode cL_law 1260 = .ok (.if_icmp .eq 5, 3) := by decide +kernel
theorem dL_law_1263 : decode cL_law 1263 = .ok (.iconst 0, 1) := by decide +kernel
theorem dL_law_1264 : decode cL_law 1264 = .ok (.ireturn, 1) := by decide +kernel
theorem dL_law_1265 : decode cL_law 1265 = .ok (.iload 6, 2) := by decide +kernel
theorem dL_law_1267 : decode cL_law 1267 = .ok (.ifCond .ne 14, 3) := by decide +kernel
theorem dL_law_1270 : decode cL_law 1270 = .ok (.aload_n 3, 1) := by decide +kernel
theorem dL_law_1271 : decode cL_law 1271 = .ok (.iconst 0, 1) := by decide +kernel
theorem dL_law_1272 : decode cL_law 1272 = .ok (.laload, 1) := by decide +kernel
theorem dL_law_1273 : decode cL_law 1273 = .ok (.lload 7, 2) := by decide +kernel
theorem dL_law_1275 : decode cL_law 1275 = .ok (.lcmp, 1) := by decide +kernel
theorem dL_law_1276 : decode cL_law 1276 = .ok (.ifCond .eq 5, 3) := by decide +kernel
theorem dL_law_1279 : decode cL_law 1279 = .ok (.iconst 0, 1) := by decide +kernel
theorem dL_law_1280 : decode cL_law 1280 = .ok (.ireturn, 1) := by decide +kernel
theorem dL_law_1281 : decode cL_law 1281 = .ok (.goto 408, 3) := by decide +kernel
theorem dL_law_1284 : decode cL_law 1284 = .ok (.aload_n 1, 1) := by decide +kernel
theorem dL_law_1285 : decode cL_law 1285 = .ok (.aload_n 0, 1) := by decide +kernel
theorem dL_law_1286 : decode cL_law 1286 = .ok (.iload 5, 2) := by decide +kernel
theorem dL_law_1288 : decode cL_law 1288 = .ok (.iconst 1, 1) := by decide +kernel
theorem dL_law_1289 : decode cL_law 1289 = .ok (.iadd, 1) := by decide +kernel
theorem dL_law_1290 : decode cL_law 1290 = .ok (.iaload, 1) := by decide +kernel
theorem dL_law_1291 : decode cL_law 1291 = .ok (.aload_n 0, 1) := by decide +kernel
theorem dL_law_1292 : decode cL_law 1292 = .ok (.iload 5, 2) := by decide +kernel
theorem dL_law_1294 : decode cL_law 1294 = .ok (.iconst 2, 1) := by decide +kernel
theorem dL_law_1295 : decode cL_law 1295 = .ok (.iadd, 1) := by decide +kernel
theorem dL_law_1296 : decode cL_law 1296 = .ok (.iaload, 1) := by decide +kernel
theorem dL_law_1297 : decode cL_law 1297 = .ok (.aload_n 3, 1) := by decide +kernel
theorem dL_law_1298 : decode cL_law 1298 = .ok (.invokestatic 155, 3) := by decide +kernel
theorem dL_law_1301 : decode cL_law 1301 = .ok (.istore 6, 2) := by decide +kernel
theorem dL_law_1303 : decode cL_law 1303 = .ok (.aload_n 2, 1) := by decide +kernel
theorem dL_law_1304 : decode cL_law 1304 = .ok (.aload_n 0, 1) := by decide +kernel
theorem dL_law_1305 : decode cL_law 1305 = .ok (.iload 5, 2) := by decide +kernel
theorem dL_law_1307 : decode cL_law 1307 = .ok (.iconst 1, 1) := by decide +kernel
theorem dL_law_1308 : decode cL_law 1308 = .ok (.iadd, 1) := by decide +kernel
theorem dL_law_1309 : decode cL_law 1309 = .ok (.iaload, 1) := by decide +kernel
theorem dL_law_1310 : decode cL_law 1310 = .ok (.aload_n 0, 1) := by decide +kernel
theorem dL_law_1311 : decode cL_law 1311 = .ok (.iload 5, 2) := by decide +kernel
theorem dL_law_1313 : decode cL_law 1313 = .ok (.iconst 2, 1) := by decide +kernel
theorem dL_law_1314 : decode cL_law 1314 = .ok (.iadd, 1) := by decide +kernel
theorem dL_law_1315 : decode cL_law 1315 = .ok (.iaload, 1) := by decide +kernel
theorem dL_law_1316 : decode cL_law 1316 = .ok (.invokevirtual 157, 3) := by decide +kernel
theorem dL_law_1319 : decode cL_law 1319 = .ok (.istore 7, 2) := by decide +kernel
theorem dL_law_1321 : decode cL_law 1321 = .ok (.aload_n 2, 1) := by decide +kernel
theorem dL_law_1322 : decode cL_law 1322 = .ok (.invokevirtual 98, 3) := by decide +kernel
theorem dL_law_1325 : decode cL_law 1325 = .ok (.iload 6, 2) := by decide +kernel
theorem dL_law_1327 : decode cL_law 1327 = .ok (.if_icmp .eq 5, 3) := by decide +kernel
theorem dL_law_1330 : decode cL_law 1330 = .ok (.iconst 0, 1) := by decide +kernel
theorem dL_law_1331 : decode cL_law 1331 = .ok (.ireturn, 1) := by decide +kernel
theorem dL_law_1332 : decode cL_law 1332 = .ok (.iload 6, 2) := by decide +kernel
theorem dL_law_1334 : decode cL_law 1334 = .ok (.ifCond .ne 15, 3) := by decide +kernel
theorem dL_law_1337 : decode cL_law 1337 = .ok (.aload_n 3, 1) := by decide +kernel
theorem dL_law_1338 : decode cL_law 1338 = .ok (.iconst 0, 1) := by decide +kernel
theorem dL_law_1339 : decode cL_law 1339 = .ok (.laload, 1) := by decide +kernel
theorem dL_law_1340 : decode cL_law 1340 = .ok (.iload 7, 2) := by decide +kernel
theorem dL_law_1342 : decode cL_law 1342 = .ok (.i2l, 1) := by decide +kernel
theorem dL_law_1343 : decode cL_law 1343 = .ok (.lcmp, 1) := by decide +kernel
theorem dL_law_1344 : decode cL_law 1344 = .ok (.ifCond .eq 5, 3) := by decide +kernel
theorem dL_law_1347 : decode cL_law 1347 = .ok (.iconst 0, 1) := by decide +kernel
theorem dL_law_1348 : decode cL_law 1348 = .ok (.ireturn, 1) := by decide +kernel
theorem dL_law_1349 : decode cL_law 1349 = .ok (.goto 340, 3) := by decide +kernel
theorem dL_law_1352 : decode cL_law 1352 = .ok (.aload_n 1, 1) := by decide +kernel
theorem dL_law_1353 : decode cL_law 1353 = .ok (.aload_n 0, 1) := by decide +kernel
theorem dL_law_1354 : decode cL_law 1354 = .ok (.iload 5, 2) := by decide +kernel
theorem dL_law_1356 : decode cL_law 1356 = .ok (.iconst 1, 1) := by decide +kernel
theorem dL_law_1357 : decode cL_law 1357 = .ok (.iadd, 1) := by decide +kernel
theorem dL_law_1358 : decode cL_law 1358 = .ok (.iaload, 1) := by decide +kernel
theorem dL_law_1359 : decode cL_law 1359 = .ok (.aload_n 0, 1) := by decide +kernel
theorem dL_law_1360 : decode cL_law 1360 = .ok (.iload 5, 2) := by decide +kernel
theorem dL_law_1362 : decode cL_law 1362 = .ok (.iconst 2, 1) := by decide +kernel
theorem dL_law_1363 : decode cL_law 1363 = .ok (.iadd, 1) := by decide +kernel
theorem dL_law_1364 : decode cL_law 1364 = .ok (.iaload, 1) := by decide +kernel
theorem dL_law_1365 : decode cL_law 1365 = .ok (.aload_n 3, 1) := by decide +kernel
theorem dL_law_1366 : decode cL_law 1366 = .ok (.invokestatic 158, 3) := by decide +kernel
theorem dL_law_1369 : decode cL_law 1369 = .ok (.istore 6, 2) := by decide +kernel
theorem dL_law_1371 : decode cL_law 1371 = .ok (.aload_n 2, 1) := by decide +kernel
theorem dL_law_1372 : decode cL_law 1372 = .ok (.aload_n 0, 1) := by decide +kernel
theorem dL_law_1373 : decode cL_law 1373 = .ok (.iload 5, 2) := by decide +kernel
theorem dL_law_1375 : decode cL_law 1375 = .ok (.iconst 1, 1) := by decide +kernel
theorem dL_law_1376 : decode cL_law 1376 = .ok (.iadd, 1) := by decide +kernel
theorem dL_law_1377 : decode cL_law 1377 = .ok (.iaload, 1) := by decide +kernel
theorem dL_law_1378 : decode cL_law 1378 = .ok (.aload_n 0, 1) := by decide +kernel
theorem dL_law_1379 : decode cL_law 1379 = .ok (.iload 5, 2) := by decide +kernel
theorem dL_law_1381 : decode cL_law 1381 = .ok (.iconst 2, 1) := by decide +kernel
theorem dL_law_1382 : decode cL_law 1382 = .ok (.iadd, 1) := by decide +kernel
theorem dL_law_1383 : decode cL_law 1383 = .ok (.iaload, 1) := by decide +kernel
theorem dL_law_1384 : decode cL_law 1384 = .ok (.invokevirtual 160, 3) := by decide +kernel
theorem dL_law_1387 : decode cL_law 1387 = .ok (.istore 7, 2) := by decide +kernel
theorem dL_law_1389 : decode cL_law 1389 = .ok (.aload_n 2, 1) := by decide +kernel
theorem dL_law_1390 : decode cL_law 1390 = .ok (.invokevirtual 98, 3) := by decide +kernel
theorem dL_law_1393 : decode cL_law 1393 = .ok (.iload 6, 2) := by decide +kernel
theorem dL_law_1395 : decode cL_law 1395 = .ok (.if_icmp .eq 5, 3) := by decide +kernel
theorem dL_law_1398 : decode cL_law 1398 = .ok (.iconst 0, 1) := by decide +kernel
theorem dL_law_1399 : decode cL_law 1399 = .ok (.ireturn, 1) := by decide +kernel
theorem dL_law_1400 : decode cL_law 1400 = .ok (.iload 6, 2) := by decide +kernel
theorem dL_law_1402 : decode cL_law 1402 = .ok (.ifCond .ne 15, 3) := by decide +kernel
theorem dL_law_1405 : decode cL_law 1405 = .ok (.aload_n 3, 1) := by decide +kernel
theorem dL_law_1406 : decode cL_law 1406 = .ok (.iconst 0, 1) := by decide +kernel
theorem dL_law_1407 : decode cL_law 1407 = .ok (.laload, 1) := by decide +kernel
theorem dL_law_1408 : decode cL_law 1408 = .ok (.iload 7, 2) := by decide +kernel
theorem dL_law_1410 : decode cL_law 1410 = .ok (.i2l, 1) := by decide +kernel
theorem dL_law_1411 : decode cL_law 1411 = .ok (.lcmp, 1) := by decide +kernel
theorem dL_law_1412 : decode cL_law 1412 = .ok (.ifCond .eq 5, 3) := by decide +kernel
theorem dL_law_1415 : decode cL_law 1415 = .ok (.iconst 0, 1) := by decide +kernel
theorem dL_law_1416 : decode cL_law 1416 = .ok (.ireturn, 1) := by decide +kernel
theorem dL_law_1417 : decode cL_law 1417 = .ok (.goto 272, 3) := by decide +kernel
theorem dL_law_1420 : decode cL_law 1420 = .ok (.aload_n 1, 1) := by decide +kernel
theorem dL_law_1421 : decode cL_law 1421 = .ok (.aload_n 0, 1) := by decide +kernel
theorem dL_law_1422 : decode cL_law 1422 = .ok (.iload 5, 2) := by decide +kernel
theorem dL_law_1424 : decode cL_law 1424 = .ok (.iconst 1, 1) := by decide +kernel
theorem dL_law_1425 : decode cL_law 1425 = .ok (.iadd, 1) := by decide +kernel
theorem dL_law_1426 : decode cL_law 1426 = .ok (.iaload, 1) := by decide +kernel
theorem dL_law_1427 : decode cL_law 1427 = .ok (.aload_n 0, 1) := by decide +kernel
theorem dL_law_1428 : decode cL_law 1428 = .ok (.iload 5, 2) := by decide +kernel
theorem dL_law_1430 : decode cL_law 1430 = .ok (.iconst 2, 1) := by decide +kernel
theorem dL_law_1431 : decode cL_law 1431 = .ok (.iadd, 1) := by decide +kernel
theorem dL_law_1432 : decode cL_law 1432 = .ok (.iaload, 1) := by decide +kernel
theorem dL_law_1433 : decode cL_law 1433 = .ok (.aload_n 3, 1) := by decide +kernel
theorem dL_law_1434 : decode cL_law 1434 = .ok (.invokestatic 161, 3) := by decide +kernel
theorem dL_law_1437 : decode cL_law 1437 = .ok (.istore 6, 2) := by decide +kernel
theorem dL_law_1439 : decode cL_law 1439 = .ok (.aload_n 2, 1) := by decide +kernel
theorem dL_law_1440 : decode cL_law 1440 = .ok (.aload_n 0, 1) := by decide +kernel
theorem dL_law_1441 : decode cL_law 1441 = .ok (.iload 5, 2) := by decide +kernel
theorem dL_law_1443 : decode cL_law 1443 = .ok (.iconst 1, 1) := by decide +kernel
theorem dL_law_1444 : decode cL_law 1444 = .ok (.iadd, 1) := by decide +kernel
theorem dL_law_1445 : decode cL_law 1445 = .ok (.iaload, 1) := by decide +kernel
theorem dL_law_1446 : decode cL_law 1446 = .ok (.aload_n 0, 1) := by decide +kernel
theorem dL_law_1447 : decode cL_law 1447 = .ok (.iload 5, 2) := by decide +kernel
theorem dL_law_1449 : decode cL_law 1449 = .ok (.iconst 2, 1) := by decide +kernel
theorem dL_law_1450 : decode cL_law 1450 = .ok (.iadd, 1) := by decide +kernel
theorem dL_law_1451 : decode cL_law 1451 = .ok (.iaload, 1) := by decide +kernel
theorem dL_law_1452 : decode cL_law 1452 = .ok (.invokevirtual 163, 3) := by decide +kernel
theorem dL_law_1455 : decode cL_law 1455 = .ok (.istore 7, 2) := by decide +kernel
theorem dL_law_1457 : decode cL_law 1457 = .ok (.aload_n 2, 1) := by decide +kernel
theorem dL_law_1458 : decode cL_law 1458 = .ok (.invokevirtual 98, 3) := by decide +kernel
theorem dL_law_1461 : decode cL_law 1461 = .ok (.iload 6, 2) := by decide +kernel
theorem dL_law_1463 : decode cL_law 1463 = .ok (.if_icmp .eq 5, 3) := by decide +kernel
theorem dL_law_1466 : decode cL_law 1466 = .ok (.iconst 0, 1) := by decide +kernel
theorem dL_law_1467 : decode cL_law 1467 = .ok (.ireturn, 1) := by decide +kernel
theorem dL_law_1468 : decode cL_law 1468 = .ok (.iload 6, 2) := by decide +kernel
theorem dL_law_1470 : decode cL_law 1470 = .ok (.ifCond .ne 15, 3) := by decide +kernel
theorem dL_law_1473 : decode cL_law 1473 = .ok (.aload_n 3, 1) := by decide +kernel
theorem dL_law_1474 : decode cL_law 1474 = .ok (.iconst 0, 1) := by decide +kernel
theorem dL_law_1475 : decode cL_law 1475 = .ok (.laload, 1) := by decide +kernel
theorem dL_law_1476 : decode cL_law 1476 = .ok (.iload 7, 2) := by decide +kernel
theorem dL_law_1478 : decode cL_law 1478 = .ok (.i2l, 1) := by decide +kernel
theorem dL_law_1479 : decode cL_law 1479 = .ok (.lcmp, 1) := by decide +kernel
theorem dL_law_1480 : decode cL_law 1480 = .ok (.ifCond .eq 5, 3) := by decide +kernel
theorem dL_law_1483 : decode cL_law 1483 = .ok (.iconst 0, 1) := by decide +kernel
theorem dL_law_1484 : decode cL_law 1484 = .ok (.ireturn, 1) := by decide +kernel
theorem dL_law_1485 : decode cL_law 1485 = .ok (.goto 204, 3) := by decide +kernel
theorem dL_law_1488 : decode cL_law 1488 = .ok (.aload_n 1, 1) := by decide +kernel
theorem dL_law_1489 : decode cL_law 1489 = .ok (.aload_n 0, 1) := by decide +kernel
theorem dL_law_1490 : decode cL_law 1490 = .ok (.iload 5, 2) := by decide +kernel
theorem dL_law_1492 : decode cL_law 1492 = .ok (.iconst 1, 1) := by decide +kernel
theorem dL_law_1493 : decode cL_law 1493 = .ok (.iadd, 1) := by decide +kernel
theorem dL_law_1494 : decode cL_law 1494 = .ok (.iaload, 1) := by decide +kernel
theorem dL_law_1495 : decode cL_law 1495 = .ok (.aload_n 3, 1) := by decide +kernel
theorem dL_law_1496 : decode cL_law 1496 = .ok (.invokestatic 164, 3) := by decide +kernel
theorem dL_law_1499 : decode cL_law 1499 = .ok (.istore 6, 2) := by decide +kernel
theorem dL_law_1501 : decode cL_law 1501 = .ok (.aload_n 2, 1) := by decide +kernel
theorem dL_law_1502 : decode cL_law 1502 = .ok (.aload_n 0, 1) := by decide +kernel
theorem dL_law_1503 : decode cL_law 1503 = .ok (.iload 5, 2) := by decide +kernel
theorem dL_law_1505 : decode cL_law 1505 = .ok (.iconst 1, 1) := by decide +kernel
theorem dL_law_1506 : decode cL_law 1506 = .ok (.iadd, 1) := by decide +kernel
theorem dL_law_1507 : decode cL_law 1507 = .ok (.iaload, 1) := by decide +kernel
theorem dL_law_1508 : decode cL_law 1508 = .ok (.invokevirtual 166, 3) := by decide +kernel
theorem dL_law_1511 : decode cL_law 1511 = .ok (.istore 7, 2) := by decide +kernel
theorem dL_law_1513 : decode cL_law 1513 = .ok (.aload_n 2, 1) := by decide +kernel
theorem dL_law_1514 : decode cL_law 1514 = .ok (.invokevirtual 98, 3) := by decide +kernel
theorem dL_law_1517 : decode cL_law 1517 = .ok (.iload 6, 2) := by decide +kernel
theorem dL_law_1519 : decode cL_law 1519 = .ok (.if_icmp .eq 5, 3) := by decide +kernel
theorem dL_law_1522 : decode cL_law 1522 = .ok (.iconst 0, 1) := by decide +kernel
theorem dL_law_1523 : decode cL_law 1523 = .ok (.ireturn, 1) := by decide +kernel
theorem dL_law_1524 : decode cL_law 1524 = .ok (.iload 6, 2) := by decide +kernel
theorem dL_law_1526 : decode cL_law 1526 = .ok (.ifCond .ne 15, 3) := by decide +kernel
theorem dL_law_1529 : decode cL_law 1529 = .ok (.aload_n 3, 1) := by decide +kernel
theorem dL_law_1530 : decode cL_law 1530 = .ok (.iconst 0, 1) := by decide +kernel
theorem dL_law_1531 : decode cL_law 1531 = .ok (.laload, 1) := by decide +kernel
theorem dL_law_1532 : decode cL_law 1532 = .ok (.iload 7, 2) := by decide +kernel
theorem dL_law_1534 : decode cL_law 1534 = .ok (.i2l, 1) := by decide +kernel
theorem dL_law_1535 : decode cL_law 1535 = .ok (.lcmp, 1) := by decide +kernel
theorem dL_law_1536 : decode cL_law 1536 = .ok (.ifCond .eq 5, 3) := by decide +kernel
theorem dL_law_1539 : decode cL_law 1539 = .ok (.iconst 0, 1) := by decide +kernel
theorem dL_law_1540 : decode cL_law 1540 = .ok (.ireturn, 1) := by decide +kernel
theorem dL_law_1541 : decode cL_law 1541 = .ok (.goto 148, 3) := by decide +kernel
theorem dL_law_1544 : decode cL_law 1544 = .ok (.aload_n 1, 1) := by decide +kernel
theorem dL_law_1545 : decode cL_law 1545 = .ok (.aload_n 0, 1) := by decide +kernel
theorem dL_law_1546 : decode cL_law 1546 = .ok (.iload 5, 2) := by decide +kernel
theorem dL_law_1548 : decode cL_law 1548 = .ok (.iconst 1, 1) := by decide +kernel
theorem dL_law_1549 : decode cL_law 1549 = .ok (.iadd, 1) := by decide +kernel
theorem dL_law_1550 : decode cL_law 1550 = .ok (.iaload, 1) := by decide +kernel
theorem dL_law_1551 : decode cL_law 1551 = .ok (.aload_n 0, 1) := by decide +kernel
theorem dL_law_1552 : decode cL_law 1552 = .ok (.iload 5, 2) := by decide +kernel
theorem dL_law_1554 : decode cL_law 1554 = .ok (.iconst 2, 1) := by decide +kernel
theorem dL_law_1555 : decode cL_law 1555 = .ok (.iadd, 1) := by decide +kernel
theorem dL_law_1556 : decode cL_law 1556 = .ok (.iaload, 1) := by decide +kernel
theorem dL_law_1557 : decode cL_law 1557 = .ok (.aload_n 3, 1) := by decide +kernel
theorem dL_law_1558 : decode cL_law 1558 = .ok (.invokestatic 167, 3) := by decide +kernel
theorem dL_law_1561 : decode cL_law 1561 = .ok (.istore 6, 2) := by decide +kernel
theorem dL_law_1563 : decode cL_law 1563 = .ok (.aload_n 2, 1) := by decide +kernel
theorem dL_law_1564 : decode cL_law 1564 = .ok (.aload_n 0, 1) := by decide +kernel
theorem dL_law_1565 : decode cL_law 1565 = .ok (.iload 5, 2) := by decide +kernel
theorem dL_law_1567 : decode cL_law 1567 = .ok (.iconst 1, 1) := by decide +kernel
theorem dL_law_1568 : decode cL_law 1568 = .ok (.iadd, 1) := by decide +kernel
theorem dL_law_1569 : decode cL_law 1569 = .ok (.iaload, 1) := by decide +kernel
theorem dL_law_1570 : decode cL_law 1570 = .ok (.aload_n 0, 1) := by decide +kernel
theorem dL_law_1571 : decode cL_law 1571 = .ok (.iload 5, 2) := by decide +kernel
theorem dL_law_1573 : decode cL_law 1573 = .ok (.iconst 2, 1) := by decide +kernel
theorem dL_law_1574 : decode cL_law 1574 = .ok (.iadd, 1) := by decide +kernel
theorem dL_law_1575 : decode cL_law 1575 = .ok (.iaload, 1) := by decide +kernel
theorem dL_law_1576 : decode cL_law 1576 = .ok (.invokevirtual 169, 3) := by decide +kernel
theorem dL_law_1579 : decode cL_law 1579 = .ok (.istore 7, 2) := by decide +kernel
theorem dL_law_1581 : decode cL_law 1581 = .ok (.aload_n 2, 1) := by decide +kernel
theorem dL_law_1582 : decode cL_law 1582 = .ok (.invokevirtual 98, 3) := by decide +kernel
theorem dL_law_1585 : decode cL_law 1585 = .ok (.iload 6, 2) := by decide +kernel
theorem dL_law_1587 : decode cL_law 1587 = .ok (.if_icmp .eq 5, 3) := by decide +kernel
theorem dL_law_1590 : decode cL_law 1590 = .ok (.iconst 0, 1) := by decide +kernel
theorem dL_law_1591 : decode cL_law 1591 = .ok (.ireturn, 1) := by decide +kernel
theorem dL_law_1592 : decode cL_law 1592 = .ok (.iload 6, 2) := by decide +kernel
theorem dL_law_1594 : decode cL_law 1594 = .ok (.ifCond .ne 15, 3) := by decide +kernel
theorem dL_law_1597 : decode cL_law 1597 = .ok (.aload_n 3, 1) := by decide +kernel
theorem dL_law_1598 : decode cL_law 1598 = .ok (.iconst 0, 1) := by decide +kernel
theorem dL_law_1599 : decode cL_law 1599 = .ok (.laload, 1) := by decide +kernel
theorem dL_law_1600 : decode cL_law 1600 = .ok (.iload 7, 2) := by decide +kernel
theorem dL_law_1602 : decode cL_law 1602 = .ok (.i2l, 1) := by decide +kernel
theorem dL_law_1603 : decode cL_law 1603 = .ok (.lcmp, 1) := by decide +kernel
theorem dL_law_1604 : decode cL_law 1604 = .ok (.ifCond .eq 5, 3) := by decide +kernel
theorem dL_law_1607 : decode cL_law 1607 = .ok (.iconst 0, 1) := by decide +kernel
theorem dL_law_1608 : decode cL_law 1608 = .ok (.ireturn, 1) := by decide +kernel
theorem dL_law_1609 : decode cL_law 1609 = .ok (.goto 80, 3) := by decide +kernel
theorem dL_law_1612 : decode cL_law 1612 = .ok (.aload_n 1, 1) := by decide +kernel
theorem dL_law_1613 : decode cL_law 1613 = .ok (.aload_n 0, 1) := by decide +kernel
theorem dL_law_1614 : decode cL_law 1614 = .ok (.iload 5, 2) := by decide +kernel
theorem dL_law_1616 : decode cL_law 1616 = .ok (.iconst 1, 1) := by decide +kernel
theorem dL_law_1617 : decode cL_law 1617 = .ok (.iadd, 1) := by decide +kernel
theorem dL_law_1618 : decode cL_law 1618 = .ok (.iaload, 1) := by decide +kernel
theorem dL_law_1619 : decode cL_law 1619 = .ok (.aload 4, 2) := by decide +kernel
theorem dL_law_1621 : decode cL_law 1621 = .ok (.invokestatic 170, 3) := by decide +kernel
theorem dL_law_1624 : decode cL_law 1624 = .ok (.istore 6, 2) := by decide +kernel
theorem dL_law_1626 : decode cL_law 1626 = .ok (.aload_n 2, 1) := by decide +kernel
theorem dL_law_1627 : decode cL_law 1627 = .ok (.aload_n 0, 1) := by decide +kernel
theorem dL_law_1628 : decode cL_law 1628 = .ok (.iload 5, 2) := by decide +kernel
theorem dL_law_1630 : decode cL_law 1630 = .ok (.iconst 1, 1) := by decide +kernel
theorem dL_law_1631 : decode cL_law 1631 = .ok (.iadd, 1) := by decide +kernel
theorem dL_law_1632 : decode cL_law 1632 = .ok (.iaload, 1) := by decide +kernel
theorem dL_law_1633 : decode cL_law 1633 = .ok (.invokevirtual 173, 3) := by decide +kernel
theorem dL_law_1636 : decode cL_law 1636 = .ok (.dstore 7, 2) := by decide +kernel
theorem dL_law_1638 : decode cL_law 1638 = .ok (.aload_n 2, 1) := by decide +kernel
theorem dL_law_1639 : decode cL_law 1639 = .ok (.invokevirtual 98, 3) := by decide +kernel
theorem dL_law_1642 : decode cL_law 1642 = .ok (.iload 6, 2) := by decide +kernel
theorem dL_law_1644 : decode cL_law 1644 = .ok (.if_icmp .eq 5, 3) := by decide +kernel
theorem dL_law_1647 : decode cL_law 1647 = .ok (.iconst 0, 1) := by decide +kernel
theorem dL_law_1648 : decode cL_law 1648 = .ok (.ireturn, 1) := by decide +kernel
theorem dL_law_1649 : decode cL_law 1649 = .ok (.iload 6, 2) := by decide +kernel
theorem dL_law_1651 : decode cL_law 1651 = .ok (.ifCond .ne 35, 3) := by decide +kernel
theorem dL_law_1654 : decode cL_law 1654 = .ok (.aload 4, 2) := by decide +kernel
theorem dL_law_1656 : decode cL_law 1656 = .ok (.iconst 0, 1) := by decide +kernel
theorem dL_law_1657 : decode cL_law 1657 = .ok (.daload, 1) := by decide +kernel
theorem dL_law_1658 : decode cL_law 1658 = .ok (.dload 7, 2) := by decide +kernel
theorem dL_law_1660 : decode cL_law 1660 = .ok (.dcmp .l, 1) := by decide +kernel
theorem dL_law_1661 : decode cL_law 1661 = .ok (.ifCond .eq 25, 3) := by decide +kernel
theorem dL_law_1664 : decode cL_law 1664 = .ok (.aload 4, 2) := by decide +kernel
theorem dL_law_1666 : decode cL_law 1666 = .ok (.iconst 0, 1) := by decide +kernel
theorem dL_law_1667 : decode cL_law 1667 = .ok (.daload, 1) := by decide +kernel
theorem dL_law_1668 : decode cL_law 1668 = .ok (.aload 4, 2) := by decide +kernel
theorem dL_law_1670 : decode cL_law 1670 = .ok (.iconst 0, 1) := by decide +kernel
theorem dL_law_1671 : decode cL_law 1671 = .ok (.daload, 1) := by decide +kernel
theorem dL_law_1672 : decode cL_law 1672 = .ok (.dcmp .l, 1) := by decide +kernel
theorem dL_law_1673 : decode cL_law 1673 = .ok (.ifCond .eq 11, 3) := by decide +kernel
theorem dL_law_1676 : decode cL_law 1676 = .ok (.dload 7, 2) := by decide +kernel
theorem dL_law_1678 : decode cL_law 1678 = .ok (.dload 7, 2) := by decide +kernel
theorem dL_law_1680 : decode cL_law 1680 = .ok (.dcmp .l, 1) := by decide +kernel
theorem dL_law_1681 : decode cL_law 1681 = .ok (.ifCond .ne 5, 3) := by decide +kernel
theorem dL_law_1684 : decode cL_law 1684 = .ok (.iconst 0, 1) := by decide +kernel
theorem dL_law_1685 : decode cL_law 1685 = .ok (.ireturn, 1) := by decide +kernel
theorem dL_law_1686 : decode cL_law 1686 = .ok (.goto 3, 3) := by decide +kernel
theorem dL_law_1689 : decode cL_law 1689 = .ok (.iinc 5 5, 3) := by decide +kernel
theorem dL_law_1692 : decode cL_law 1692 = .ok (.goto (-1664), 3) := by decide +kernel
theorem dL_law_1695 : decode cL_law 1695 = .ok (.iconst 1, 1) := by decide +kernel
theorem dL_law_1696 : decode cL_law 1696 = .ok (.ireturn, 1) := by decide +kernel
abbrev vwCl : List vw_C := [(RX0, TX0, 12), (RX1, TX1, 5), (RX2, TX2, 17)]
/-! ===== END printed: names ===== -/
end
section
/-! my own layer over the kit: one world for the whole system, cells by their roles -/
abbrev St : Type := Nat → Nat → Int32
abbrev GG : Type := Nat × va_G × (Nat → ClassId)
abbrev xI : String := "java/lang/IndexOutOfBoundsException"
abbrev xA : String := "java/lang/IllegalArgumentException"
abbrev xS : String := "java/lang/IllegalStateException"
abbrev xnm : List String := ["java/lang/RuntimeException", "java/lang/Exception"]
abbrev xstr : List (Nat × String) := [(41, "no more leases"), (50, "the unit is let on one of these days"), (69, "no more steps"), (99, "less is held"), (128, "no such number"), (133, "out of range"), (136, "no such lease")]
def us (σ : St) (a i : Nat) (x : Int32) : St := fun b => if b = a then upd (σ b) i x else σ b
def wl (N : Nat) (ad : Nat → Nat) (ct : Nat → va_E) : va_W := (List.range N).map fun r => (ad r, ct r)
theorem wl_get {N r : Nat} {ad : Nat → Nat} {ct : Nat → va_E} (h : r < N) : (wl N ad ct)[r]? = some (ad r, ct r) := by simp [wl, h]
theorem wl_inv {N k : Nat} {ad : Nat → Nat} {ct : Nat → va_E} {q : Nat × va_E} (h : (wl N ad ct)[k]? = some q) : k < N ∧ q = (ad k, ct k) := by
  simp only [wl, List.getElem?_map] at h
  by_cases hk : k < N
  · rw [List.getElem?_range hk] at h
    exact ⟨hk, (Option.some.inj h).symm⟩
  · rw [List.getElem?_eq_none (by simpa using Nat.not_lt.mp hk)] at h
    cases h
theorem wl_ext {N : Nat} {ad ad' : Nat → Nat} {ct ct' : Nat → va_E} (h1 : ∀ r, r < N → ad r = ad' r) (h2 : ∀ r, r < N → ct r = ct' r) : wl N ad ct = wl N ad' ct' := by
  unfold wl
  refine List.map_congr_left (fun r hr => ?_)
  have := List.mem_range.mp hr
  rw [h1 r this, h2 r this]
theorem wl_set {N r : Nat} {ad : Nat → Nat} {ct : Nat → va_E} {e : va_E} (h : r < N) : (wl N ad ct).set r (ad r, e) = wl N ad (va_up ct r e) := by
  apply List.ext_getElem?
  intro i
  by_cases hi : i < N
  · rw [wl_get hi]
    by_cases hr : r = i
    · subst hr
      rw [List.getElem?_set_self (by simpa [wl] using hi), va_up_self]
    · rw [List.getElem?_set_ne hr, wl_get hi, va_up_ne _ _ (fun h => hr h.symm)]
  · rw [List.getElem?_eq_none (by simpa [wl] using Nat.not_lt.mp hi), List.getElem?_eq_none (by simpa [wl] using Nat.not_lt.mp hi)]
theorem wl_push {N q : Nat} {ad : Nat → Nat} {ct : Nat → va_E} {e : va_E} : wl N ad ct ++ [(q, e)] = wl (N + 1) (va_up ad N q) (va_up ct N e) := by
  unfold wl
  rw [List.range_succ, List.map_append]
  congr 1
  · refine List.map_congr_left (fun r hr => ?_)
    have h := Nat.ne_of_lt (List.mem_range.mp hr)
    rw [va_up_ne _ _ h, va_up_ne _ _ h]
  · simp [va_up_self]
/-- what a method that may throw asks of the start -/
def Xs (lo : Nat) (U : State) : Prop := (va_Nw (.castable xI xI) U ∧ va_Nw (.castable xA xA) U ∧ va_Nw (.castable xS xS) U) ∧ (va_Nc xA xI U ∧ va_Nc xS xI U ∧ va_Nc xS xA U) ∧ vx_Zq Bundle.tN "UNASSIGNED_STACK" Bundle.steD (fun q => lo ≤ q) U U.heap ∧ vx_Zq Bundle.tN "SUPPRESSED_SENTINEL" Bundle.listD (fun q => lo ≤ q) U U.heap ∧ (∀ q ∈ xstr, ∃ sa : Nat, vk_R "Voidrent" q.1 q.2 sa U) ∧ va_Nw (.declares (Bundle.initS "java/lang/RuntimeException")) U ∧ va_Nw (.declares (Bundle.initS "java/lang/Exception")) U ∧ va_Nw (.declares (Bundle.initS Bundle.tN)) U
theorem Xs.go {lo : Nat} {s U : State} {H : Heap} {locs : List Loc} (h : Xs lo s) (hS : va_S (fun q => lo ≤ q) s.heap H locs) (hU : U.heap = H) (hW : s.WarmedH U.vm) : Xs lo U := by
  obtain ⟨⟨a1, a2, a3⟩, ⟨b1, b2, b3⟩, c1, c2, d, f1, f2, f3⟩ := h
  refine ⟨⟨va_Nw.warmC hW a1, va_Nw.warmC hW a2, va_Nw.warmC hW a3⟩, ⟨b1.moved hW.alike, b2.moved hW.alike, b3.moved hW.alike⟩, ?_, ?_, fun q hq => ?_, va_Nw.warmD hW f1, va_Nw.warmD hW f2, va_Nw.warmD hW f3⟩
  · rw [hU]; exact vx_Zq.moved hW.alike (c1.kept hS.2.1)
  · rw [hU]; exact vx_Zq.moved hW.alike (c2.kept hS.2.1)
  · obtain ⟨sa, h⟩ := d q hq
    exact ⟨sa, vk_R.warm hW h⟩
abbrev tyL (G : GG) : List (ClassId × FieldType) := [(G.2.2 0, .int), (G.2.2 1, .object RX0), (G.2.2 2, .long), (G.2.2 3, .double)]
abbrev gF (G : GG) : Nat → Prop := fun q => G.1 ≤ q
/-- the walk's state: tables, world, frame, start -/
def Sy (G : GG) (N : Nat) (ad : Nat → Nat) (ct : Nat → va_E) (s : State) (H : Heap) (locs : List Loc) : Prop := va_K G.2.1 vwCl (tyL G) s ∧ va_P G.2.1 vwCl (wl N ad ct) H ∧ va_D (gF G) (wl N ad ct) ∧ va_S (gF G) s.heap H locs ∧ G.1 ≤ s.heap.size ∧ Xs G.1 s
def Sz (G : GG) (N : Nat) (ad : Nat → Nat) (ct : Nat → va_E) (t : State) : Prop := va_K G.2.1 vwCl (tyL G) t ∧ va_P G.2.1 vwCl (wl N ad ct) t.heap ∧ va_D (gF G) (wl N ad ct)
theorem Sy.pre {G : GG} {N : Nat} {ad : Nat → Nat} {ct : Nat → va_E} {s U : State} {H : Heap} {locs : List Loc} (h : Sy G N ad ct s H locs) (hU : U.heap = H) (hW : s.WarmedH U.vm) : Sy G N ad ct U U.heap [] := by
  obtain ⟨hK, hP, hD, hS, hlo, hX⟩ := h
  exact ⟨va_K.moved hW.alike hK, by rw [hU]; exact hP, hD, va_S.rf, by rw [hU]; exact Nat.le_trans hlo hS.1, hX.go hS hU hW⟩
theorem Sy.blind {G : GG} {N : Nat} {ad : Nat → Nat} {ct : Nat → va_E} {av : List Value} : FrameBlind (va_Pc av (fun U => Sy G N ad ct U U.heap [])) := by
  intro a U g mk h
  exact ⟨h.1, h.2.pre rfl (State.WarmedH.refl U)⟩
theorem Sy.post {G : GG} {N : Nat} {ad : Nat → Nat} {ct : Nat → va_E} {s t : State} {H : Heap} {locs : List Loc} (h : Sy G N ad ct s H locs) (ht : t.heap = H) (hW : s.vm.Alike t.vm) : Sz G N ad ct t := by
  obtain ⟨hK, hP, hD, hS, hlo, hX⟩ := h
  exact ⟨va_K.moved hW hK, by rw [ht]; exact hP, hD⟩
theorem Sy.back {G : GG} {N N' : Nat} {ad ad' : Nat → Nat} {ct ct' : Nat → va_E} {s t : State} {H H1 : Heap} {locs locs1 : List Loc} (h : Sy G N ad ct s H locs) (hz : Sz G N' ad' ct' t) (ht : t.heap = H1) (hW : s.vm.Alike t.vm) (hS : va_S (gF G) s.heap H1 locs1) : Sy G N' ad' ct' s H1 locs1 := by
  obtain ⟨hK, hP, hD, -, hlo, hX⟩ := h
  obtain ⟨-, hP1, hD1⟩ := hz
  exact ⟨hK, by rw [← ht]; exact hP1, hD1, hS, hlo, hX⟩
theorem Sy.ctE {G : GG} {N : Nat} {ad : Nat → Nat} {ct ct' : Nat → va_E} {s : State} {H : Heap} {locs : List Loc} (h : Sy G N ad ct s H locs) (he : ∀ r, r < N → ct r = ct' r) : Sy G N ad ct' s H locs := by
  unfold Sy at h ⊢
  rw [← wl_ext (fun r _ => rfl) he]
  exact h
theorem Sy.adE {G : GG} {N : Nat} {ad ad' : Nat → Nat} {ct ct' : Nat → va_E} {s : State} {H : Heap} {locs : List Loc} (h : Sy G N ad ct s H locs) (h1 : ∀ r, r < N → ad r = ad' r) (he : ∀ r, r < N → ct r = ct' r) : Sy G N ad' ct' s H locs := by
  unfold Sy at h ⊢
  rw [← wl_ext h1 he]
  exact h
theorem Sy.inj {G : GG} {N : Nat} {ad : Nat → Nat} {ct : Nat → va_E} {s : State} {H : Heap} {locs : List Loc} (h : Sy G N ad ct s H locs) {i j : Nat} (hi : i < N) (hj : j < N) (e : ad i = ad j) : i = j := h.2.2.1.1 i j _ _ (wl_get hi) (wl_get hj) e
section GB
variable {p : Program} {l : Launch} {e : Env} {R : Room} {s : State} {m : MethodId} {args : Array Value} {below : List Frame} {meth : Method} {c : Code} {H : Heap} {locs : List Loc} {cells slots : Nat} {Q : State → Prop}
variable {cc : ByteArray} {nL : Nat} {Ts : List Cond} {own : String} {pc : Nat} {ls : Array Slot} {rest st0 : List Value} {G : GG} {N N' : Nat} {ad ad' : Nat → Nat} {ct ct' : Nat → va_E} {mc ms : Nat}
theorem g_get (hC : CallFix p m c cc nL s args Ts own) (hY : Sy G N ad ct s H locs) (r : Nat) (hr : r < N) {ci : Nat} {fs : List Value} (hct : ct r = .inr (ci, fs)) {q : vw_C} (hc : vwCl[ci]? = some q) (hin : ∀ w ∈ u_ws q.1 q.2.1 q.2.2, w ∈ Ts) (k : Nat) (hk : k < q.2.2) {index : Nat} (hlink : (Cond.fieldLink own index (q.2.1 k).1 (q.2.1 k).2.1 (q.2.1 k).2.2.1) ∈ Ts) {v : Value} (hv : fs[k]? = some v) (hdg : decode cc pc = .ok (.getfield index, 3))
    (kk : W p l e R s m args below meth c H locs cells slots Q (F0 m (pc + 3) ls (v :: rest))) : W p l e R s m args below meth c H locs cells slots Q (F0 m pc ls (.ref (ad r) :: rest)) := by
  obtain ⟨hx, hb, hml, hown, hts⟩ := hC
  obtain ⟨hK, hP, hD, hS, hlo, hX⟩ := hY
  have he := wl_get (ad := ad) (ct := ct) hr
  rw [hct] at he
  exact va_get (C := q.1) (T := q.2.1) (N := q.2.2) hx hb hts hin hown hK hP r he (by rw [hc]) k hk (hts _ hlink) (fun _ h => h) hv hdg kk
theorem g_put (hC : CallFix p m c cc nL s args Ts own) (hY : Sy G N ad ct s H locs) (r : Nat) (hr : r < N) {ci : Nat} {fs : List Value} (hct : ct r = .inr (ci, fs)) {q : vw_C} (hc : vwCl[ci]? = some q) (hin : ∀ w ∈ u_ws q.1 q.2.1 q.2.2, w ∈ Ts) (ty0 : Nat → FieldType) (hty : ∀ k, k < q.2.2 → parseFieldDescriptor (q.2.1 k).2.2.1 = some (ty0 k)) (hnm : ∀ a, a < q.2.2 → ∀ b, b < q.2.2 → a ≠ b → (q.2.1 a).2.1 ≠ (q.2.1 b).2.1) (k : Nat) (hk : k < q.2.2) {index : Nat} (hlink : (Cond.fieldLink own index (q.2.1 k).1 (q.2.1 k).2.1 (q.2.1 k).2.2.1) ∈ Ts) (hfin : (q.2.1 k).2.2.2 = false ∨ ((q.2.1 k).2.2.2 = true ∧ meth.name = "<init>" ∧ (q.2.1 k).1 = own)) {v : Value} (hn : narrow (ty0 k) v = v) (hfit : fits (ty0 k) v = true) (hl : k < fs.length) (hdg : decode cc pc = .ok (.putfield index, 3))
    (kk : ∀ (H1 : Heap) (locs1 : List Loc), Sy G N ad (va_up ct r (.inr (ci, fs.set k v))) s H1 locs1 → W p l e R s m args below meth c H1 locs1 cells slots Q (F0 m (pc + 3) ls rest)) : W p l e R s m args below meth c H locs cells slots Q (F0 m pc ls (v :: .ref (ad r) :: rest)) := by
  obtain ⟨hx, hb, hml, hown, hts⟩ := hC
  obtain ⟨hK, hP, hD, hS, hlo, hX⟩ := hY
  have he := wl_get (ad := ad) (ct := ct) hr
  rw [hct] at he
  rcases hfin with hfin | ⟨hfin, hi, hd⟩
  · refine va_put (C := q.1) (T := q.2.1) (N := q.2.2) hx hb hts hin ty0 hty hnm hown hK hP hD hS r he (by rw [hc]) k hk (hts _ hlink) (fun _ h => h) hfin (hty k hk) hn hfit hl hdg (fun H1 locs1 h1 h2 h3 => ?_)
    rw [wl_set hr] at h1 h2
    exact kk H1 locs1 ⟨hK, h1, h2, h3, hlo, hX⟩
  · refine va_putF (C := q.1) (T := q.2.1) (N := q.2.2) hx hb hts hin ty0 hty hnm hown hK hP hD hS r he (by rw [hc]) k hk (hts _ hlink) (fun _ h => h) hfin hi hd (hty k hk) hn hfit hl hdg (fun H1 locs1 h1 h2 h3 => ?_)
    rw [wl_set hr] at h1 h2
    exact kk H1 locs1 ⟨hK, h1, h2, h3, hlo, hX⟩
theorem g_iald (hC : CallFix p m c cc nL s args Ts own) (hY : Sy G N ad ct s H locs) (r : Nat) (hr : r < N) {n : Nat} {f : Nat → Int32} (hct : ct r = .inl (G.2.2 0, n, .inl f)) {i : Int32} (hin : 0 ≤ i.toInt ∧ i.toInt < n) (hdg : decode cc pc = .ok (.iaload, 1))
    (kk : W p l e R s m args below meth c H locs cells slots Q (F0 m (pc + 1) ls (.int (f i.toNatClampNeg) :: rest))) : W p l e R s m args below meth c H locs cells slots Q (F0 m pc ls (.int i :: .ref (ad r) :: rest)) := by
  obtain ⟨hx, hb, hml, hown, hts⟩ := hC
  obtain ⟨hK, hP, hD, hS, hlo, hX⟩ := hY
  have he := wl_get (ad := ad) (ct := ct) hr
  rw [hct] at he
  exact va_iald hx hb hK hP r 0 he rfl (vp_in_iff.mpr hin) hdg kk
theorem g_iast (hC : CallFix p m c cc nL s args Ts own) (hY : Sy G N ad ct s H locs) (r : Nat) (hr : r < N) {n : Nat} {f : Nat → Int32} (hct : ct r = .inl (G.2.2 0, n, .inl f)) {i x : Int32} (hin : 0 ≤ i.toInt ∧ i.toInt < n) (hdg : decode cc pc = .ok (.iastore, 1))
    (kk : ∀ (H1 : Heap) (locs1 : List Loc), Sy G N ad (va_up ct r (.inl (G.2.2 0, n, .inl (upd f i.toNatClampNeg x)))) s H1 locs1 → W p l e R s m args below meth c H1 locs1 cells slots Q (F0 m (pc + 1) ls rest)) : W p l e R s m args below meth c H locs cells slots Q (F0 m pc ls (.int x :: .int i :: .ref (ad r) :: rest)) := by
  obtain ⟨hx, hb, hml, hown, hts⟩ := hC
  obtain ⟨hK, hP, hD, hS, hlo, hX⟩ := hY
  have he := wl_get (ad := ad) (ct := ct) hr
  rw [hct] at he
  refine va_iast hx hb hK hP hD hS r 0 he rfl (vp_in_iff.mpr hin) hdg (fun H1 locs1 h1 h2 h3 => ?_)
  rw [wl_set hr] at h1 h2
  exact kk H1 locs1 ⟨hK, h1, h2, h3, hlo, hX⟩
theorem g_last (hC : CallFix p m c cc nL s args Ts own) (hY : Sy G N ad ct s H locs) (r : Nat) (hr : r < N) {n : Nat} {f : Nat → Int64} (hct : ct r = .inl (G.2.2 2, n, .inr (.inl f))) {i : Int32} {x : Int64} (hin : 0 ≤ i.toInt ∧ i.toInt < n) (hdg : decode cc pc = .ok (.lastore, 1))
    (kk : ∀ (H1 : Heap) (locs1 : List Loc), Sy G N ad (va_up ct r (.inl (G.2.2 2, n, .inr (.inl (vp_updL f i.toNatClampNeg x))))) s H1 locs1 → W p l e R s m args below meth c H1 locs1 cells slots Q (F0 m (pc + 1) ls rest)) : W p l e R s m args below meth c H locs cells slots Q (F0 m pc ls (.long x :: .int i :: .ref (ad r) :: rest)) := by
  obtain ⟨hx, hb, hml, hown, hts⟩ := hC
  obtain ⟨hK, hP, hD, hS, hlo, hX⟩ := hY
  have he := wl_get (ad := ad) (ct := ct) hr
  rw [hct] at he
  refine va_last hx hb hK hP hD hS r 2 he rfl (vp_in_iff.mpr hin) hdg (fun H1 locs1 h1 h2 h3 => ?_)
  rw [wl_set hr] at h1 h2
  exact kk H1 locs1 ⟨hK, h1, h2, h3, hlo, hX⟩
theorem g_lald (hC : CallFix p m c cc nL s args Ts own) (hY : Sy G N ad ct s H locs) (r : Nat) (hr : r < N) {n : Nat} {f : Nat → Int64} (hct : ct r = .inl (G.2.2 2, n, .inr (.inl f))) {i : Int32} (hin : 0 ≤ i.toInt ∧ i.toInt < n) (hdg : decode cc pc = .ok (.laload, 1))
    (kk : W p l e R s m args below meth c H locs cells slots Q (F0 m (pc + 1) ls (.long (f i.toNatClampNeg) :: rest))) : W p l e R s m args below meth c H locs cells slots Q (F0 m pc ls (.int i :: .ref (ad r) :: rest)) := by
  obtain ⟨hx, hb, hml, hown, hts⟩ := hC
  obtain ⟨hK, hP, hD, hS, hlo, hX⟩ := hY
  have he := wl_get (ad := ad) (ct := ct) hr
  rw [hct] at he
  exact va_lald hx hb hK hP r 2 he rfl (vp_in_iff.mpr hin) hdg kk
theorem g_dald (hC : CallFix p m c cc nL s args Ts own) (hY : Sy G N ad ct s H locs) (r : Nat) (hr : r < N) {n : Nat} {f : Nat → UInt64} (hct : ct r = .inl (G.2.2 3, n, .inr (.inr (.inr (.inl f))))) {i : Int32} (hin : 0 ≤ i.toInt ∧ i.toInt < n) (hdg : decode cc pc = .ok (.daload, 1))
    (kk : W p l e R s m args below meth c H locs cells slots Q (F0 m (pc + 1) ls (.double (f i.toNatClampNeg) :: rest))) : W p l e R s m args below meth c H locs cells slots Q (F0 m pc ls (.int i :: .ref (ad r) :: rest)) := by
  obtain ⟨hx, hb, hml, hown, hts⟩ := hC
  obtain ⟨hK, hP, hD, hS, hlo, hX⟩ := hY
  have he := wl_get (ad := ad) (ct := ct) hr
  rw [hct] at he
  exact va_dald hx hb hK hP r 3 he rfl (vp_in_iff.mpr hin) hdg kk
theorem g_dast (hC : CallFix p m c cc nL s args Ts own) (hY : Sy G N ad ct s H locs) (r : Nat) (hr : r < N) {n : Nat} {f : Nat → UInt64} (hct : ct r = .inl (G.2.2 3, n, .inr (.inr (.inr (.inl f))))) {i : Int32} {x : UInt64} (hin : 0 ≤ i.toInt ∧ i.toInt < n) (hdg : decode cc pc = .ok (.dastore, 1))
    (kk : ∀ (H1 : Heap) (locs1 : List Loc), (∃ f' : Nat → UInt64, f' i.toNatClampNeg = x ∧ Sy G N ad (va_up ct r (.inl (G.2.2 3, n, .inr (.inr (.inr (.inl f')))))) s H1 locs1) → W p l e R s m args below meth c H1 locs1 cells slots Q (F0 m (pc + 1) ls rest)) : W p l e R s m args below meth c H locs cells slots Q (F0 m pc ls (.double x :: .int i :: .ref (ad r) :: rest)) := by
  obtain ⟨hx, hb, hml, hown, hts⟩ := hC
  obtain ⟨hK, hP, hD, hS, hlo, hX⟩ := hY
  have he := wl_get (ad := ad) (ct := ct) hr
  rw [hct] at he
  refine va_dast hx hb hK hP hD hS r 3 he rfl (vp_in_iff.mpr hin) hdg (fun H1 locs1 h1 h2 h3 => ?_)
  rw [wl_set hr] at h1 h2
  refine kk H1 locs1 ⟨_, ?_, hK, h1, h2, h3, hlo, hX⟩
  first | exact if_pos rfl | simp [va_up]
theorem g_aald (hC : CallFix p m c cc nL s args Ts own) (hY : Sy G N ad ct s H locs) (r : Nat) (hr : r < N) {n : Nat} {f : Nat → Option Nat} (hct : ct r = .inl (G.2.2 1, n, .inr (.inr (.inr (.inr f))))) {i : Int32} (hin : 0 ≤ i.toInt ∧ i.toInt < n) (hdg : decode cc pc = .ok (.aaload, 1))
    (kk : W p l e R s m args below meth c H locs cells slots Q (F0 m (pc + 1) ls (va_rf (f i.toNatClampNeg) :: rest))) : W p l e R s m args below meth c H locs cells slots Q (F0 m pc ls (.int i :: .ref (ad r) :: rest)) := by
  obtain ⟨hx, hb, hml, hown, hts⟩ := hC
  obtain ⟨hK, hP, hD, hS, hlo, hX⟩ := hY
  have he := wl_get (ad := ad) (ct := ct) hr
  rw [hct] at he
  exact va_aldq hx hb hK hP r 1 he rfl (vp_in_iff.mpr hin) hdg kk
theorem g_aast (hC : CallFix p m c cc nL s args Ts own) (hY : Sy G N ad ct s H locs) (r : Nat) (hr : r < N) {n : Nat} {f : Nat → Option Nat} (hct : ct r = .inl (G.2.2 1, n, .inr (.inr (.inr (.inr f))))) (rv : Nat) (hrv : rv < N) {fs : List Value} (hcv : ct rv = .inr (0, fs)) {i : Int32} (hin : 0 ≤ i.toInt ∧ i.toInt < n) (hdg : decode cc pc = .ok (.aastore, 1))
    (kk : ∀ (H1 : Heap) (locs1 : List Loc), Sy G N ad (va_up ct r (.inl (G.2.2 1, n, .inr (.inr (.inr (.inr (va_up f i.toNatClampNeg (some (ad rv))))))))) s H1 locs1 → W p l e R s m args below meth c H1 locs1 cells slots Q (F0 m (pc + 1) ls rest)) : W p l e R s m args below meth c H locs cells slots Q (F0 m pc ls (.ref (ad rv) :: .int i :: .ref (ad r) :: rest)) := by
  obtain ⟨hx, hb, hml, hown, hts⟩ := hC
  obtain ⟨hK, hP, hD, hS, hlo, hX⟩ := hY
  have he := wl_get (ad := ad) (ct := ct) hr
  rw [hct] at he
  have hv := wl_get (ad := ad) (ct := ct) hrv
  rw [hcv] at hv
  refine va_astq hx hb hK hP hD hS r 1 rv 0 (r := (RX0, TX0, 12)) he rfl hv rfl (vp_in_iff.mpr hin) hdg (fun H1 locs1 h1 h2 h3 => ?_)
  rw [wl_set hr] at h1 h2
  exact kk H1 locs1 ⟨hK, h1, h2, h3, hlo, hX⟩
theorem g_alen (hC : CallFix p m c cc nL s args Ts own) (hY : Sy G N ad ct s H locs) (r : Nat) (hr : r < N) (tq : Nat) {cA : ClassId} {x : vp_A} (hct : ct r = .inl (cA, x)) {ty : FieldType} (ht : (tyL G)[tq]? = some (cA, ty)) {v : Int32} (hv : Int32.ofNat x.1 = v) (hdg : decode cc pc = .ok (.arraylength, 1))
    (kk : W p l e R s m args below meth c H locs cells slots Q (F0 m (pc + 1) ls (.int v :: rest))) : W p l e R s m args below meth c H locs cells slots Q (F0 m pc ls (.ref (ad r) :: rest)) := by
  obtain ⟨hx, hb, hml, hown, hts⟩ := hC
  obtain ⟨hK, hP, hD, hS, hlo, hX⟩ := hY
  have he := wl_get (ad := ad) (ct := ct) hr
  rw [hct] at he
  exact va_alen hx hb hK hP r tq he ht hv hdg kk
end GB
end
section
/-! calls, ends and throws over the one world -/
section GC
variable {p : Program} {l : Launch} {e : Env} {R : Room} {s : State} {m : MethodId} {args : Array Value} {below : List Frame} {meth : Method} {c : Code} {H : Heap} {locs : List Loc} {cells slots : Nat} {Q : State → Prop}
variable {cc : ByteArray} {nL : Nat} {Ts : List Cond} {own : String} {pc : Nat} {ls : Array Slot} {rest st0 : List Value} {G : GG} {N N' : Nat} {ad ad' : Nat → Nat} {ct ct' : Nat → va_E} {mc ms : Nat}
variable {y : MethodName} {ws ws' : List Cond} {rm : Room} {Qc : Array Value → State → Outcome → State → Prop} {XC : String → State → State → Prop} {bytes : ByteArray} {maxL index n : Nat} {ret : Option FieldType} {As : List Value} {C : String}
theorem g_preV (hY : Sy G N ad ct s H locs) (r : Nat) (hr : r < N) {ci : Nat} {fs : List Value} (hct : ct r = .inr (ci, fs)) {q : vw_C} (hc : vwCl[ci]? = some q) : PreV s H q.1 (ad r) (va_Pc (.ref (ad r) :: As) (fun U => Sy G N ad ct U U.heap [])) As := by
  have he := wl_get (ad := ad) (ct := ct) hr
  rw [hct] at he
  exact ⟨Sy.blind, va_recv hY.1 hY.2.1 hc he, fun U hU hW => ⟨rfl, hY.pre hU hW⟩⟩
theorem g_preS (hY : Sy G N ad ct s H locs) : PreS s H (va_Pc As (fun U => Sy G N ad ct U U.heap [])) As := ⟨Sy.blind, fun U hU hW => ⟨rfl, hY.pre hU hW⟩⟩
theorem g_runV (hC : CallFix p m c cc nL s args Ts own) {q : vw_C} {r : Nat} (hM : Met l y ws rm (va_Pc (.ref (ad r) :: As) (fun U => Sy G N ad ct U U.heap [])) Qc mc ms (gF G)) (hT : GoodIn Ts (wsV own index q.1 y ws)) (hw : ws = Cond.code y bytes maxL ret :: ws') (hrc : rm.cells = mc ∧ rm.slots = ms) (hd : y.cls = q.1 ∧ y.cls ≠ "java/lang/invoke/MethodHandle" ∧ y.cls ≠ "java/lang/invoke/VarHandle" ∧ (parseMethodDescriptor y.desc).map (fun d => d.parameters.length) = some n) (hR : rm.frames + 1 ≤ R.frames ∧ 8 + (maxL + 11) + rm.locals ≤ R.locals)
    (hY : Sy G N ad ct s H locs) (hr : r < N) {ci : Nat} {fs : List Value} (hct : ct r = .inr (ci, fs)) (hc : vwCl[ci]? = some q) (hn : As.length = n) (hsize : ls.size = nL) (hst : st0 = As.reverse ++ .ref (ad r) :: rest) (hW : (rest.map fun v => v.category).sum ≤ 8) (hdg : decode cc pc = .ok (.invokevirtual index, 3)) (hf : cells + mc ≤ R.cells ∧ slots + ms ≤ R.slots) :
    va_Run p l e R s m args below meth c H locs cells slots mc ms (F0 m pc ls st0) rest (Qc (Value.ref (ad r) :: As).toArray) (gF G) :=
  va_runV (As := As) (rest := rest) hC hM (cwV n hC.2.2.2.2 hT hw hrc.1 hrc.2 hd hR) (g_preV hY r hr hct hc) rfl hn hsize hst (lv_room hW) hdg hf
theorem g_runS (hC : CallFix p m c cc nL s args Ts own) (hM : Met l y ws rm (va_Pc As (fun U => Sy G N ad ct U U.heap [])) Qc mc ms (gF G)) (hT : GoodIn Ts (va_wsS own index y ws)) (hw : ws = Cond.code y bytes maxL ret :: ws') (hrc : rm.cells = mc ∧ rm.slots = ms) (hd : y.cls ≠ "java/lang/invoke/MethodHandle" ∧ y.cls ≠ "java/lang/invoke/VarHandle" ∧ (parseMethodDescriptor y.desc).map (fun d => d.parameters.length) = some n) (hR : rm.frames + 1 ≤ R.frames ∧ 8 + (maxL + 11) + rm.locals ≤ R.locals)
    (hY : Sy G N ad ct s H locs) (hn : As.length = n) (hsize : ls.size = nL) (hst : st0 = As.reverse ++ rest) (hW : (rest.map fun v => v.category).sum ≤ 8) (hdg : decode cc pc = .ok (.invokestatic index, 3)) (hf : cells + mc ≤ R.cells ∧ slots + ms ≤ R.slots) :
    va_Run p l e R s m args below meth c H locs cells slots mc ms (F0 m pc ls st0) rest (Qc As.toArray) (gF G) :=
  va_runS (As := As) (rest := rest) hC hM (va_cwS n hC.2.2.2.2 hT hw hrc.1 hrc.2 hd hR) (g_preS hY) rfl hn hsize hst (lv_room hW) hdg hf
theorem gx_runV (hC : CallFix p m c cc nL s args Ts own) {q : vw_C} {r : Nat} (hM : vx_Met l y ws rm (va_Pc (.ref (ad r) :: As) (fun U => Sy G N ad ct U U.heap [])) Qc XC mc ms (gF G)) (hT : GoodIn Ts (wsV own index q.1 y ws)) (hw : ws = Cond.code y bytes maxL ret :: ws') (hrc : rm.cells = mc ∧ rm.slots = ms) (hd : y.cls = q.1 ∧ y.cls ≠ "java/lang/invoke/MethodHandle" ∧ y.cls ≠ "java/lang/invoke/VarHandle" ∧ (parseMethodDescriptor y.desc).map (fun d => d.parameters.length) = some n) (hR : rm.frames + 1 ≤ R.frames ∧ 8 + (maxL + 11) + rm.locals ≤ R.locals)
    (hY : Sy G N ad ct s H locs) (hr : r < N) {ci : Nat} {fs : List Value} (hct : ct r = .inr (ci, fs)) (hc : vwCl[ci]? = some q) (hn : As.length = n) (hsize : ls.size = nL) (hst : st0 = As.reverse ++ .ref (ad r) :: rest) (hW : (rest.map fun v => v.category).sum ≤ 8) (hdg : decode cc pc = .ok (.invokevirtual index, 3)) (hf : cells + mc ≤ R.cells ∧ slots + ms ≤ R.slots) :
    vx_Run p l e R s m args below meth c H locs cells slots mc ms (F0 m pc ls st0) rest (Qc (Value.ref (ad r) :: As).toArray) XC (gF G) :=
  vx_runV (As := As) (rest := rest) hC hM (cwV n hC.2.2.2.2 hT hw hrc.1 hrc.2 hd hR) (g_preV hY r hr hct hc) rfl hn hsize hst (lv_room hW) hdg hf
theorem gx_runS (hC : CallFix p m c cc nL s args Ts own) (hM : vx_Met l y ws rm (va_Pc As (fun U => Sy G N ad ct U U.heap [])) Qc XC mc ms (gF G)) (hT : GoodIn Ts (va_wsS own index y ws)) (hw : ws = Cond.code y bytes maxL ret :: ws') (hrc : rm.cells = mc ∧ rm.slots = ms) (hd : y.cls ≠ "java/lang/invoke/MethodHandle" ∧ y.cls ≠ "java/lang/invoke/VarHandle" ∧ (parseMethodDescriptor y.desc).map (fun d => d.parameters.length) = some n) (hR : rm.frames + 1 ≤ R.frames ∧ 8 + (maxL + 11) + rm.locals ≤ R.locals)
    (hY : Sy G N ad ct s H locs) (hn : As.length = n) (hsize : ls.size = nL) (hst : st0 = As.reverse ++ rest) (hW : (rest.map fun v => v.category).sum ≤ 8) (hdg : decode cc pc = .ok (.invokestatic index, 3)) (hf : cells + mc ≤ R.cells ∧ slots + ms ≤ R.slots) :
    vx_Run p l e R s m args below meth c H locs cells slots mc ms (F0 m pc ls st0) rest (Qc As.toArray) XC (gF G) :=
  vx_runS (As := As) (rest := rest) hC hM (va_cwS n hC.2.2.2.2 hT hw hrc.1 hrc.2 hd hR) (g_preS hY) rfl hn hsize hst (lv_room hW) hdg hf
abbrev BZ (G : GG) (N : Nat) (ad : Nat → Nat) (ct : Nat → va_E) : Unit → State → Prop := fun _ t => Sz G N ad ct t
abbrev Qi (G : GG) (N : Nat) (ad : Nat → Nat) (ct : Nat → va_E) (post : Int32 → Prop) : Array Value → State → Outcome → State → Prop := va_Qi (fun r (_ : Unit) => post r) (BZ G N ad ct) (gF G)
abbrev Ql (G : GG) (N : Nat) (ad : Nat → Nat) (ct : Nat → va_E) (post : Int64 → Prop) : Array Value → State → Outcome → State → Prop := va_Ql (fun r (_ : Unit) => post r) (BZ G N ad ct) (gF G)
abbrev Qd (G : GG) (N : Nat) (ad : Nat → Nat) (ct : Nat → va_E) (post : UInt64 → Prop) : Array Value → State → Outcome → State → Prop := va_Qd (fun r (_ : Unit) => post r) (BZ G N ad ct) (gF G)
abbrev Qv (G : GG) (N : Nat) (ad : Nat → Nat) (ct : Nat → va_E) (post : Prop) : Array Value → State → Outcome → State → Prop := va_Qv (fun (_ : Unit) => post) (BZ G N ad ct) (gF G)
abbrev Qq (G : GG) (N : Nat) (ad : Nat → Nat) (ct : Nat → va_E) (post : Option Nat → Prop) : Array Value → State → Outcome → State → Prop := va_Qq (fun r (_ : Unit) => post r) (BZ G N ad ct) (gF G)
abbrev XG (G : GG) (N : Nat) (ad : Nat → Nat) (ct : Nat → va_E) (ex : String → Prop) : String → State → State → Prop := vx_X (fun _ : Unit => True) (fun E _ t => ex E ∧ Sz G N ad ct t) (gF G)
theorem g_calli {a : Array Value} {post : Int32 → Prop} (hY : Sy G N ad ct s H locs) (hr : va_Run p l e R s m args below meth c H locs cells slots mc ms (F0 m pc ls st0) rest (Qi G N' ad' ct' post a) (gF G))
    (kk : ∀ (r : Int32) (H1 : Heap) (locs1 : List Loc), post r → Sy G N' ad' ct' s H1 locs1 → W p l e R s m args below meth c H1 locs1 (cells + mc) (slots + ms) Q (F0 m (pc + 3) ls (.int r :: rest))) : W p l e R s m args below meth c H locs cells slots Q (F0 m pc ls st0) :=
  va_calli hr hY.2.2.2.1 (fun _ _ h => h) (fun _ h => h) (fun r _ t H1 locs1 ht hvm hp hz _ _ hS => kk r H1 locs1 hp (hY.back hz ht hvm hS))
theorem g_calll {a : Array Value} {post : Int64 → Prop} (hY : Sy G N ad ct s H locs) (hr : va_Run p l e R s m args below meth c H locs cells slots mc ms (F0 m pc ls st0) rest (Ql G N' ad' ct' post a) (gF G))
    (kk : ∀ (r : Int64) (H1 : Heap) (locs1 : List Loc), post r → Sy G N' ad' ct' s H1 locs1 → W p l e R s m args below meth c H1 locs1 (cells + mc) (slots + ms) Q (F0 m (pc + 3) ls (.long r :: rest))) : W p l e R s m args below meth c H locs cells slots Q (F0 m pc ls st0) :=
  va_calll hr hY.2.2.2.1 (fun _ _ h => h) (fun _ h => h) (fun r _ t H1 locs1 ht hvm hp hz _ _ hS => kk r H1 locs1 hp (hY.back hz ht hvm hS))
theorem g_calld {a : Array Value} {post : UInt64 → Prop} (hY : Sy G N ad ct s H locs) (hr : va_Run p l e R s m args below meth c H locs cells slots mc ms (F0 m pc ls st0) rest (Qd G N' ad' ct' post a) (gF G))
    (kk : ∀ (r : UInt64) (H1 : Heap) (locs1 : List Loc), post r → Sy G N' ad' ct' s H1 locs1 → W p l e R s m args below meth c H1 locs1 (cells + mc) (slots + ms) Q (F0 m (pc + 3) ls (.double r :: rest))) : W p l e R s m args below meth c H locs cells slots Q (F0 m pc ls st0) :=
  va_calld hr hY.2.2.2.1 (fun _ _ h => h) (fun _ h => h) (fun r _ t H1 locs1 ht hvm hp hz _ _ hS => kk r H1 locs1 hp (hY.back hz ht hvm hS))
theorem g_callv {a : Array Value} {post : Prop} (hY : Sy G N ad ct s H locs) (hr : va_Run p l e R s m args below meth c H locs cells slots mc ms (F0 m pc ls st0) rest (Qv G N' ad' ct' post a) (gF G))
    (kk : ∀ (H1 : Heap) (locs1 : List Loc), post → Sy G N' ad' ct' s H1 locs1 → W p l e R s m args below meth c H1 locs1 (cells + mc) (slots + ms) Q (F0 m (pc + 3) ls rest)) : W p l e R s m args below meth c H locs cells slots Q (F0 m pc ls st0) :=
  va_callv hr hY.2.2.2.1 (fun _ _ h => h) (fun _ h => h) (fun _ t H1 locs1 ht hvm hp hz _ _ hS => kk H1 locs1 hp (hY.back hz ht hvm hS))
/-- a throw in a callee goes through a method without handlers -/
theorem gx_pass {E : String} {ce : Cell} {q9 : Addr} {t : State} {H1 : Heap} {locs1 : List Loc} {ex ex0 : String → Prop} {mc0 ms0 : Nat} (hY : Sy G N ad ct s H locs) (hxt : ∀ x ∈ c.exceptionTable.toList, False) (hlocks : meth.locks = false) (hex : ∀ E, ex E → ex0 E) (hcm : cells ≤ mc0) (hsm : slots ≤ ms0)
    (ht : t.heap = H1) (hvm : s.vm.Alike t.vm) (hb : ex E ∧ Sz G N ad ct t) (hS : va_S (gF G) s.heap H1 locs1) (hce : H1[q9]? = some ce) (hcv : ce.vm = .none) (hcl : s.vm.findClass E = some ce.cls) :
    vx_W p l e R s m args below meth c H1 locs1 cells slots (vx_MQ below Qc (XG G N ad ct ex0) args s mc0 ms0 (gF G)) (F0 m pc ls rest) q9 := by
  have hY1 := hY.back hb.2 ht hvm hS
  exact vx_out (fun x hx => (hxt x hx).elim) hlocks hce hcv hcl (fun t' ht' hvm' => ⟨(), trivial, ⟨hex _ hb.1, hY1.post ht' hvm'⟩, hS.F ht'⟩) hS.2.2 hcm hsm
theorem gx_calli {a : Array Value} {post : Int32 → Prop} {ex ex0 : String → Prop} {mc0 ms0 : Nat} (hY : Sy G N ad ct s H locs) (hr : vx_Run p l e R s m args below meth c H locs cells slots mc ms (F0 m pc ls st0) rest (Qi G N' ad' ct' post a) (XG G N ad ct ex) (gF G)) (hxt : ∀ x ∈ c.exceptionTable.toList, False) (hlocks : meth.locks = false) (hcm : cells + mc ≤ mc0 ∧ slots + ms ≤ ms0) (hex : ∀ E, ex E → ex0 E)
    (kk : ∀ (r : Int32) (H1 : Heap) (locs1 : List Loc), post r → Sy G N' ad' ct' s H1 locs1 → W p l e R s m args below meth c H1 locs1 (cells + mc) (slots + ms) (vx_MQ below Qc (XG G N ad ct ex0) args s mc0 ms0 (gF G)) (F0 m (pc + 3) ls (.int r :: rest))) : W p l e R s m args below meth c H locs cells slots (vx_MQ below Qc (XG G N ad ct ex0) args s mc0 ms0 (gF G)) (F0 m pc ls st0) :=
  vx_calli hr hY.2.2.2.1 (fun _ _ h => h) (fun _ h => h) (fun _ _ h => h) (fun E ce q9 _ t H1 locs1 ht hvm _ hb _ _ hS hce hcv hcl => gx_pass hY hxt hlocks hex hcm.1 hcm.2 ht hvm hb hS hce hcv hcl) (fun r _ t H1 locs1 ht hvm hp hz _ _ hS => kk r H1 locs1 hp (hY.back hz ht hvm hS))
theorem gx_callv {a : Array Value} {post : Prop} {ex ex0 : String → Prop} {mc0 ms0 : Nat} (hY : Sy G N ad ct s H locs) (hr : vx_Run p l e R s m args below meth c H locs cells slots mc ms (F0 m pc ls st0) rest (Qv G N' ad' ct' post a) (XG G N ad ct ex) (gF G)) (hxt : ∀ x ∈ c.exceptionTable.toList, False) (hlocks : meth.locks = false) (hcm : cells + mc ≤ mc0 ∧ slots + ms ≤ ms0) (hex : ∀ E, ex E → ex0 E)
    (kk : ∀ (H1 : Heap) (locs1 : List Loc), post → Sy G N' ad' ct' s H1 locs1 → W p l e R s m args below meth c H1 locs1 (cells + mc) (slots + ms) (vx_MQ below Qc (XG G N ad ct ex0) args s mc0 ms0 (gF G)) (F0 m (pc + 3) ls rest)) : W p l e R s m args below meth c H locs cells slots (vx_MQ below Qc (XG G N ad ct ex0) args s mc0 ms0 (gF G)) (F0 m pc ls st0) :=
  vx_callv hr hY.2.2.2.1 (fun _ _ h => h) (fun _ h => h) (fun _ _ h => h) (fun E ce q9 _ t H1 locs1 ht hvm _ hb _ _ hS hce hcv hcl => gx_pass hY hxt hlocks hex hcm.1 hcm.2 ht hvm hb hS hce hcv hcl) (fun _ t H1 locs1 ht hvm hp hz _ _ hS => kk H1 locs1 hp (hY.back hz ht hvm hS))
/-- (as vx_calli, for references) -/
theorem gx_callq0 {SS SX : Type} {post : Option Nat → SS → Prop} {px : SX → Prop} {B : SS → State → Prop} {BX : String → SX → State → Prop} {AX A0 A1 : Nat → Prop} {H0 : Heap} {a : Array Value} {free : Addr → Prop} (hr : vx_Run p l e R s m args below meth c H locs cells slots mc ms (F0 m pc ls st0) rest (va_Qq post B A1 a) (vx_X px BX AX) free) (hS : va_S A0 H0 H locs) (hA : ∀ q, q < H.size → A1 q → A0 q) (hf : ∀ q, free q → A0 q) (hAX : ∀ q, q < H.size → AX q → A0 q)
    (kx : ∀ (E : String) (ce : Cell) (q9 : Addr) (u : SX) (t : State) (H1 : Heap) (locs1 : List Loc), t.heap = H1 → s.vm.Alike t.vm → px u → BX E u t → H.size ≤ H1.size → (∀ q : Nat, q < H.size → ¬ AX q → H1[q]? = H[q]?) → va_S A0 H0 H1 locs1 → H1[q9]? = some ce → ce.vm = .none → s.vm.findClass E = some ce.cls → vx_W p l e R s m args below meth c H1 locs1 (cells + mc) (slots + ms) Q (F0 m pc ls rest) q9)
    (kk : ∀ (r : Option Nat) (u : SS) (t : State) (H1 : Heap) (locs1 : List Loc), t.heap = H1 → s.vm.Alike t.vm → post r u → B u t → H.size ≤ H1.size → (∀ q : Nat, q < H.size → ¬ A1 q → H1[q]? = H[q]?) → va_S A0 H0 H1 locs1 → W p l e R s m args below meth c H1 locs1 (cells + mc) (slots + ms) Q (F0 m (pc + 3) ls (va_rf r :: rest))) : W p l e R s m args below meth c H locs cells slots Q (F0 m pc ls st0) := by
  intro T hT X
  rcases hr T hT X with ⟨v, st₀, t, T', L, h0, X', hL, e1, e2, ⟨⟨r, u, hv, hp, hb⟩, hF⟩, st⟩ | ⟨q, st₀, t, T', L, E, ce, h0, X', hL, e1, e2, ⟨u, hp, hb, hF⟩, hce, hcv, hcl, st⟩
  · cases hv
    obtain ⟨k1, k2, k3⟩ := vx_keep h0 e1 hS hA hf hL hF
    obtain ⟨t2, a1, b1⟩ := kk r u t T'.heap (locs ++ L) e1.symm (by rw [← e2]; exact X'.warmed.alike) hp hb k1 k2 k3 T' rfl X'
    exact ⟨t2, st t2 a1, b1⟩
  · obtain ⟨k1, k2, k3⟩ := vx_keep h0 e1 hS hAX hf hL hF
    obtain ⟨t2, a1, b1⟩ := kx E ce q u t T'.heap (locs ++ L) e1.symm (by rw [← e2]; exact X'.warmed.alike) hp hb k1 k2 k3 (by rw [e1]; exact hce) hcv hcl T' rfl X'
    exact ⟨t2, st.trans a1, b1⟩
theorem gx_callq {a : Array Value} {post : Option Nat → Prop} {ex ex0 : String → Prop} {mc0 ms0 : Nat} (hY : Sy G N ad ct s H locs) (hr : vx_Run p l e R s m args below meth c H locs cells slots mc ms (F0 m pc ls st0) rest (Qq G N' ad' ct' post a) (XG G N ad ct ex) (gF G)) (hxt : ∀ x ∈ c.exceptionTable.toList, False) (hlocks : meth.locks = false) (hcm : cells + mc ≤ mc0 ∧ slots + ms ≤ ms0) (hex : ∀ E, ex E → ex0 E)
    (kk : ∀ (r : Option Nat) (H1 : Heap) (locs1 : List Loc), post r → Sy G N' ad' ct' s H1 locs1 → W p l e R s m args below meth c H1 locs1 (cells + mc) (slots + ms) (vx_MQ below Qc (XG G N ad ct ex0) args s mc0 ms0 (gF G)) (F0 m (pc + 3) ls (va_rf r :: rest))) : W p l e R s m args below meth c H locs cells slots (vx_MQ below Qc (XG G N ad ct ex0) args s mc0 ms0 (gF G)) (F0 m pc ls st0) :=
  gx_callq0 hr hY.2.2.2.1 (fun _ _ h => h) (fun _ h => h) (fun _ _ h => h) (fun E ce q9 _ t H1 locs1 ht hvm _ hb _ _ hS hce hcv hcl => gx_pass hY hxt hlocks hex hcm.1 hcm.2 ht hvm hb hS hce hcv hcl) (fun r _ t H1 locs1 ht hvm hp hz _ _ hS => kk r H1 locs1 hp (hY.back hz ht hvm hS))
/-! ends -/
theorem g_iret (hC : CallFix p m c cc nL s args Ts own) (hr : meth.sig.returnType = some .int) (hlocks : meth.locks = false) {post : Int32 → Prop} {v : Int32} (hY : Sy G N ad ct s H locs) (hcm : cells ≤ mc ∧ slots ≤ ms) (hdg : decode cc pc = .ok (.ireturn, 1)) (hp : post v) : W p l e R s m args below meth c H locs cells slots (MQ below (Qi G N ad ct post) args s mc ms (gF G)) (F0 m pc ls [.int v]) :=
  W.widen hcm.1 hcm.2 (W.iret hC.1 hC.2.1 hr (fun t ht hW => ⟨⟨v, (), rfl, hp, hY.post ht hW.alike⟩, hY.2.2.2.1.F ht⟩) hY.2.2.2.1.2.2 hdg hlocks)
theorem g_zret (hC : CallFix p m c cc nL s args Ts own) (hr : meth.sig.returnType = some .boolean) (hlocks : meth.locks = false) {post : Int32 → Prop} {v : Int32} (hn : narrow .boolean (.int v) = .int v) (hY : Sy G N ad ct s H locs) (hcm : cells ≤ mc ∧ slots ≤ ms) (hdg : decode cc pc = .ok (.ireturn, 1)) (hp : post v) : W p l e R s m args below meth c H locs cells slots (MQ below (Qi G N ad ct post) args s mc ms (gF G)) (F0 m pc ls [.int v]) :=
  W.widen hcm.1 hcm.2 (W.zret hC.1 hC.2.1 hr hn (fun t ht hW => ⟨⟨v, (), rfl, hp, hY.post ht hW.alike⟩, hY.2.2.2.1.F ht⟩) hY.2.2.2.1.2.2 hdg hlocks)
theorem g_lret (hC : CallFix p m c cc nL s args Ts own) (hr : meth.sig.returnType = some .long) (hlocks : meth.locks = false) {post : Int64 → Prop} {v : Int64} (hY : Sy G N ad ct s H locs) (hcm : cells ≤ mc ∧ slots ≤ ms) (hdg : decode cc pc = .ok (.lreturn, 1)) (hp : post v) : W p l e R s m args below meth c H locs cells slots (MQ below (Ql G N ad ct post) args s mc ms (gF G)) (F0 m pc ls [.long v]) :=
  W.widen hcm.1 hcm.2 (W.lret hC.1 hC.2.1 hr (fun t ht hW => ⟨⟨v, (), rfl, hp, hY.post ht hW.alike⟩, hY.2.2.2.1.F ht⟩) hY.2.2.2.1.2.2 hdg hlocks)
theorem g_dret (hC : CallFix p m c cc nL s args Ts own) (hr : meth.sig.returnType = some .double) (hlocks : meth.locks = false) {post : UInt64 → Prop} {v : UInt64} (hY : Sy G N ad ct s H locs) (hcm : cells ≤ mc ∧ slots ≤ ms) (hdg : decode cc pc = .ok (.dreturn, 1)) (hp : post v) : W p l e R s m args below meth c H locs cells slots (MQ below (Qd G N ad ct post) args s mc ms (gF G)) (F0 m pc ls [.double v]) :=
  W.widen hcm.1 hcm.2 (W.dret hC.1 hC.2.1 hr (fun t ht hW => ⟨⟨v, (), rfl, hp, hY.post ht hW.alike⟩, hY.2.2.2.1.F ht⟩) hY.2.2.2.1.2.2 hdg hlocks)
theorem g_vret (hC : CallFix p m c cc nL s args Ts own) (hr : meth.sig.returnType = none) (hlocks : meth.locks = false) {post : Prop} (hY : Sy G N ad ct s H locs) (hcm : cells ≤ mc ∧ slots ≤ ms) (hdg : decode cc pc = .ok (.return_, 1)) (hp : post) : W p l e R s m args below meth c H locs cells slots (MQ below (Qv G N ad ct post) args s mc ms (gF G)) (F0 m pc ls []) :=
  W.widen hcm.1 hcm.2 (W.vret hC.1 hC.2.1 hr (fun t ht hW => ⟨⟨(), rfl, hp, hY.post ht hW.alike⟩, hY.2.2.2.1.F ht⟩) hY.2.2.2.1.2.2 hdg hlocks)
theorem g_aret (hC : CallFix p m c cc nL s args Ts own) {rt : FieldType} (hr : meth.sig.returnType = some rt) (hrt : ∃ n, rt = .object n) (hlocks : meth.locks = false) {post : Option Nat → Prop} {v : Option Nat} (hY : Sy G N ad ct s H locs) (hcm : cells ≤ mc ∧ slots ≤ ms) (hdg : decode cc pc = .ok (.areturn, 1)) (hp : post v) : W p l e R s m args below meth c H locs cells slots (MQ below (Qq G N ad ct post) args s mc ms (gF G)) (F0 m pc ls [va_rf v]) :=
  W.widen hcm.1 hcm.2 (W.aret hC.1 hC.2.1 hr (Or.inl hrt) (va_rf_or v) (fun t ht hW => ⟨⟨v, (), rfl, hp, hY.post ht hW.alike⟩, hY.2.2.2.1.F ht⟩) hY.2.2.2.1.2.2 hdg hlocks)
end GC
/-! throws -/
theorem at_S1 : ∀ w ∈ (vx_atS RX1 43 xS xnm).filter (fun w => !goodWord w), w ∈ ([.castable xS xS, .declares (Bundle.initS "java/lang/RuntimeException"), .declares (Bundle.initS "java/lang/Exception"), .declares (Bundle.initS Bundle.tN)] : List Cond) := by decide +kernel
theorem at_S2 : ∀ w ∈ (vx_atS RX1 130 xI xnm).filter (fun w => !goodWord w), w ∈ ([.castable xI xI, .declares (Bundle.initS "java/lang/RuntimeException"), .declares (Bundle.initS "java/lang/Exception"), .declares (Bundle.initS Bundle.tN)] : List Cond) := by decide +kernel
theorem at_S3 : ∀ w ∈ (vx_atS RX1 135 xA xnm).filter (fun w => !goodWord w), w ∈ ([.castable xA xA, .declares (Bundle.initS "java/lang/RuntimeException"), .declares (Bundle.initS "java/lang/Exception"), .declares (Bundle.initS Bundle.tN)] : List Cond) := by decide +kernel
theorem at_G1 : ∀ w ∈ Cond.classLink RX1 39 xS :: Cond.initialized xS :: vx_atS RX1 43 xS xnm, vx_ot w = true := by decide +kernel
theorem at_G2 : ∀ w ∈ Cond.classLink RX1 126 xI :: Cond.initialized xI :: vx_atS RX1 130 xI xnm, vx_ot w = true := by decide +kernel
theorem at_G3 : ∀ w ∈ Cond.classLink RX1 131 xA :: Cond.initialized xA :: vx_atS RX1 135 xA xnm, vx_ot w = true := by decide +kernel
section GT
variable {p : Program} {l : Launch} {e : Env} {R : Room} {s : State} {m : MethodId} {args : Array Value} {below : List Frame} {meth : Method} {c : Code} {H : Heap} {locs : List Loc} {cells slots : Nat} {Q : State → Prop}
variable {cc : ByteArray} {nL : Nat} {Ts : List Cond} {pc : Nat} {ls : Array Slot} {rest st0 : List Value} {G : GG} {N N' : Nat} {ad ad' : Nat → Nat} {ct ct' : Nat → va_E} {mc ms : Nat}
variable {Qc : Array Value → State → Outcome → State → Prop}
theorem g_throw (hC : CallFix p m c cc nL s args Ts RX1) (hl : l.stackTraces = false) (hY : Sy G N ad ct s H locs) (hxt : ∀ x ∈ c.exceptionTable.toList, False) (hlocks : meth.locks = false) {E : String} {ik is ic : Nat} {text : String} (hE : Bundle.fit E = true)
    (hk : Cond.classLink RX1 ik E ∈ Ts) (hini : Cond.initialized E ∈ Ts) (hstr : (is, text) ∈ xstr) (hin : ∀ w ∈ (vx_atS RX1 ic E xnm).filter goodWord, w ∈ Ts) (hbad : ∀ w ∈ (vx_atS RX1 ic E xnm).filter (fun w => !goodWord w), w ∈ ([.castable E E, .declares (Bundle.initS "java/lang/RuntimeException"), .declares (Bundle.initS "java/lang/Exception"), .declares (Bundle.initS Bundle.tN)] : List Cond)) (hgood : ∀ w ∈ Cond.classLink RX1 ik E :: Cond.initialized E :: vx_atS RX1 ic E xnm, vx_ot w = true)
    (hcast : va_Nw (.castable E E) s) (hsize : ls.size = nL)
    (d0 : decode cc pc = .ok (.new ik, 3)) (d3 : decode cc (pc + 3) = .ok (.dup, 1)) (d4 : decode cc (pc + 4) = .ok (.ldc is, 2)) (d6 : decode cc (pc + 6) = .ok (.invokespecial ic, 3)) (d9 : decode cc (pc + 9) = .ok (.athrow, 1))
    (hR : 5 < R.frames ∧ (rest.map fun v => v.category).sum + 82 ≤ R.locals ∧ cells + 1 ≤ R.cells ∧ slots + 6 ≤ R.slots) (hcm : cells + 1 ≤ mc ∧ slots + 6 ≤ ms) {ex : String → Prop} (hex : ex E) :
    W p l e R s m args below meth c H locs cells slots (vx_MQ below Qc (XG G N ad ct ex) args s mc ms (gF G)) (F0 m pc ls rest) := by
  obtain ⟨hx, hb, hml, hown, hts⟩ := hC
  obtain ⟨hK, hP, hD, hS, hlo, hX⟩ := id hY
  obtain ⟨sa, hsa⟩ := hX.2.2.2.2.1 _ hstr
  refine vx_throwS (A := gF G) (names := xnm) (text := text) (sa := sa) hx hb hl hown hE (by decide +kernel) (hts _ hk) (hts _ hini) hsa (vx_hat (fun w hw => hts w (hin w hw)) hbad (vx_c (va_Nw.use rfl hcast) (vx_c (va_Nw.use rfl hX.2.2.2.2.2.1) (vx_c (va_Nw.use rfl hX.2.2.2.2.2.2.1) (vx_c (va_Nw.use rfl hX.2.2.2.2.2.2.2) vx_n))))) hgood hX.2.2.1 hX.2.2.2.1 hS (hsize.trans hml.symm) d0 d3 d4 d6 d9 (fun x hx => (hxt x hx).elim) hR.1 hR.2.1 hR.2.2.1 hR.2.2.2 hlocks (fun t hvm h1 h2 => ?_) hS.2.2 hcm.1 hcm.2
  refine ⟨(), trivial, ⟨hex, va_K.moved hvm hK, hP.kept (fun k q hq => h2 q.1 (hP k q hq).lt), hD⟩, Nat.le_trans hS.1 h1, fun q h3 h4 => ?_⟩
  rw [h2 q (Nat.lt_of_lt_of_le h3 hS.1)]
  exact hS.2.1 q h3 h4
end GT
end
section
/-! the world: roles 0 the roll, 1-3 areas indices costs, 4 roll's leases, 5 the reference, 6-20 its arrays, 21 22 the law's out rows, 3k+23 lease k, 3k+24 its step days, 3k+25 its step rents -/
abbrev ix (x : Int32) : Nat := x.toNatClampNeg
abbrev OL : Type := Nat → Int64
abbrev OD : Type := Nat → UInt64
def lsF (ad : Nat → Nat) (σ : St) (k : Nat) : List Value := [.int (σ 3 k), .int (σ 4 k), .int (σ 6 k), .int (σ 5 k), .int (σ 7 k), .int (σ 8 k), .int (σ 9 k), .int (σ 10 k), .int (σ 11 k), .ref (ad (3 * k + 24)), .ref (ad (3 * k + 25)), .int (σ 12 k)]
def rowF (σ : St) (a k : Nat) : Nat → Int32 := fun j => if j < 6 then σ a (6 * k + j) else 0
def ctL (G : GG) (ad : Nat → Nat) (σ : St) (k i : Nat) : va_E := match i with
  | 0 => .inr (0, lsF ad σ k)
  | 1 => .inl (G.2.2 0, 6, .inl (rowF σ 13 k))
  | _ => .inl (G.2.2 0, 6, .inl (rowF σ 14 k))
def roF (ad : Nat → Nat) (n : Nat) : Nat → Option Nat := fun k => if k < n then some (ad (3 * k + 23)) else none
def mdF (ad : Nat → Nat) (j : Nat) (th : Int32) : List Value := [.int th, .ref (ad 6), .ref (ad 7), .ref (ad 8), .int (nI j), .ref (ad 9), .ref (ad 10), .ref (ad 11), .ref (ad 12), .ref (ad 13), .ref (ad 14), .ref (ad 15), .ref (ad 16), .ref (ad 17), .ref (ad 18), .ref (ad 19), .ref (ad 20)]
def ctS (G : GG) (ad : Nat → Nat) (σ : St) (n : Nat) (τ : St) (j : Nat) (th : Int32) (o : OL) (od : OD) (r : Nat) : va_E := match r with
  | 0 => .inr (1, [.ref (ad 1), .ref (ad 2), .ref (ad 3), .ref (ad 4), .int (nI n)])
  | 1 => .inl (G.2.2 0, 6, .inl (σ 0))
  | 2 => .inl (G.2.2 0, 240, .inl (σ 1))
  | 3 => .inl (G.2.2 0, 20, .inl (σ 2))
  | 4 => .inl (G.2.2 1, 24, .inr (.inr (.inr (.inr (roF ad n)))))
  | 5 => .inr (2, mdF ad j th)
  | 6 => .inl (G.2.2 0, 6, .inl (τ 0))
  | 7 => .inl (G.2.2 0, 240, .inl (τ 1))
  | 8 => .inl (G.2.2 0, 20, .inl (τ 2))
  | 9 => .inl (G.2.2 0, 24, .inl (τ 3))
  | 10 => .inl (G.2.2 0, 24, .inl (τ 4))
  | 11 => .inl (G.2.2 0, 24, .inl (τ 5))
  | 12 => .inl (G.2.2 0, 24, .inl (τ 6))
  | 13 => .inl (G.2.2 0, 24, .inl (τ 7))
  | 14 => .inl (G.2.2 0, 24, .inl (τ 8))
  | 15 => .inl (G.2.2 0, 24, .inl (τ 9))
  | 16 => .inl (G.2.2 0, 24, .inl (τ 10))
  | 17 => .inl (G.2.2 0, 24, .inl (τ 11))
  | 18 => .inl (G.2.2 0, 24, .inl (τ 12))
  | 19 => .inl (G.2.2 0, 144, .inl (τ 13))
  | 20 => .inl (G.2.2 0, 144, .inl (τ 14))
  | 21 => .inl (G.2.2 2, 1, .inr (.inl o))
  | 22 => .inl (G.2.2 3, 1, .inr (.inr (.inr (.inl od))))
  | r + 23 => ctL G ad σ (r / 3) (r % 3)
theorem ct_L {G : GG} {ad : Nat → Nat} {σ : St} {n : Nat} {τ : St} {j : Nat} {th : Int32} {o : OL} {od : OD} (k : Nat) : ctS G ad σ n τ j th o od (3 * k + 23) = .inr (0, lsF ad σ k) := by
  show ctL G ad σ (3 * k / 3) (3 * k % 3) = _
  rw [show 3 * k / 3 = k by omega, show 3 * k % 3 = 0 by omega]
  rfl
theorem ct_L1 {G : GG} {ad : Nat → Nat} {σ : St} {n : Nat} {τ : St} {j : Nat} {th : Int32} {o : OL} {od : OD} (k : Nat) : ctS G ad σ n τ j th o od (3 * k + 24) = .inl (G.2.2 0, 6, .inl (rowF σ 13 k)) := by
  show ctL G ad σ ((3 * k + 1) / 3) ((3 * k + 1) % 3) = _
  rw [show (3 * k + 1) / 3 = k by omega, show (3 * k + 1) % 3 = 1 by omega]
  rfl
theorem ct_L2 {G : GG} {ad : Nat → Nat} {σ : St} {n : Nat} {τ : St} {j : Nat} {th : Int32} {o : OL} {od : OD} (k : Nat) : ctS G ad σ n τ j th o od (3 * k + 25) = .inl (G.2.2 0, 6, .inl (rowF σ 14 k)) := by
  show ctL G ad σ ((3 * k + 2) / 3) ((3 * k + 2) % 3) = _
  rw [show (3 * k + 2) / 3 = k by omega, show (3 * k + 2) % 3 = 2 by omega]
  rfl
abbrev SyS (G : GG) (ad : Nat → Nat) (σ : St) (n : Nat) (τ : St) (j : Nat) (th : Int32) (o : OL) (od : OD) (s : State) (H : Heap) (locs : List Loc) : Prop := Sy G (3 * n + 23) ad (ctS G ad σ n τ j th o od) s H locs
abbrev PcS (G : GG) (ad : Nat → Nat) (σ : St) (n : Nat) (τ : St) (j : Nat) (th : Int32) (o : OL) (od : OD) (av : List Value) : Array Value → State → Prop := va_Pc av (fun U => SyS G ad σ n τ j th o od U U.heap [])
theorem lsF_ne {ad : Nat → Nat} {σ : St} {a i k : Nat} {x : Int32} (h : a < 3 ∨ 12 < a ∨ i ≠ k) : lsF ad (us σ a i x) k = lsF ad σ k := by
  have key : ∀ b, 3 ≤ b → b ≤ 12 → us σ a i x b k = σ b k := by
    intro b h1 h2
    unfold us
    by_cases hb : b = a
    · rw [if_pos hb]; unfold upd; rw [if_neg (by omega)]
    · rw [if_neg hb]
  unfold lsF
  rw [key 3 (by omega) (by omega), key 4 (by omega) (by omega), key 5 (by omega) (by omega), key 6 (by omega) (by omega), key 7 (by omega) (by omega), key 8 (by omega) (by omega), key 9 (by omega) (by omega), key 10 (by omega) (by omega), key 11 (by omega) (by omega), key 12 (by omega) (by omega)]
theorem rowF_ne {σ : St} {a b i k : Nat} {x : Int32} (h : a ≠ b ∨ i < 6 * k ∨ 6 * k + 6 ≤ i) : rowF (us σ a i x) b k = rowF σ b k := by
  unfold rowF us
  funext j
  by_cases hj : j < 6
  · rw [if_pos hj, if_pos hj]
    by_cases hb : b = a
    · rw [if_pos hb]; unfold upd; rw [if_neg (by omega)]
    · rw [if_neg hb]
  · rw [if_neg hj, if_neg hj]
theorem rowF_eq {σ : St} {a i k : Nat} {x : Int32} (h : i < 6) : rowF (us σ a (6 * k + i) x) a k = upd (rowF σ a k) i x := by
  unfold rowF us upd
  funext j
  simp only [if_true]
  by_cases hj : j < 6
  · rw [if_pos hj, if_pos hj]
    by_cases hb : j = i
    · rw [if_pos hb, if_pos (by omega)]
    · rw [if_neg hb, if_neg (by omega)]
  · rw [if_neg hj, if_neg hj, if_neg (by omega)]
theorem ctL_ne {G : GG} {ad : Nat → Nat} {σ : St} {a i k q : Nat} {x : Int32} (h : a < 3 ∨ (a ≤ 12 ∧ (i ≠ k ∨ q ≠ 0)) ∨ (13 ≤ a ∧ (q = 0 ∨ q + 12 ≠ a ∨ i < 6 * k ∨ 6 * k + 6 ≤ i))) (hq : q < 3) : ctL G ad (us σ a i x) k q = ctL G ad σ k q := by
  unfold ctL
  rcases (show q = 0 ∨ q = 1 ∨ q = 2 by omega) with rfl | rfl | rfl
  · show (.inr (0, lsF ad (us σ a i x) k) : va_E) = .inr (0, lsF ad σ k)
    rw [lsF_ne (by omega)]
  · show (.inl (G.2.2 0, 6, .inl (rowF (us σ a i x) 13 k)) : va_E) = .inl (G.2.2 0, 6, .inl (rowF σ 13 k))
    rw [rowF_ne (by omega)]
  · show (.inl (G.2.2 0, 6, .inl (rowF (us σ a i x) 14 k)) : va_E) = .inl (G.2.2 0, 6, .inl (rowF σ 14 k))
    rw [rowF_ne (by omega)]
theorem upA0 {G : GG} {ad : Nat → Nat} {σ : St} {n : Nat} {τ : St} {j : Nat} {th : Int32} {o : OL} {od : OD} {i : Nat} {x : Int32} : va_up (ctS G ad σ n τ j th o od) 1 (.inl (G.2.2 0, 6, .inl (upd (σ 0) i x))) = ctS G ad (us σ 0 i x) n τ j th o od := by
  funext r
  match r with
  | 0 => rfl
  | 1 => rfl
  | 2 => rfl
  | 3 => rfl
  | 4 => rfl
  | 5 => rfl
  | 6 => rfl
  | 7 => rfl
  | 8 => rfl
  | 9 => rfl
  | 10 => rfl
  | 11 => rfl
  | 12 => rfl
  | 13 => rfl
  | 14 => rfl
  | 15 => rfl
  | 16 => rfl
  | 17 => rfl
  | 18 => rfl
  | 19 => rfl
  | 20 => rfl
  | 21 => rfl
  | 22 => rfl
  | r + 23 =>
    rw [va_up_ne _ _ (by omega)]
    exact (ctL_ne (G := G) (ad := ad) (σ := σ) (a := 0) (i := i) (x := x) (Or.inl (by decide)) (Nat.mod_lt r (by decide))).symm
theorem upA1 {G : GG} {ad : Nat → Nat} {σ : St} {n : Nat} {τ : St} {j : Nat} {th : Int32} {o : OL} {od : OD} {i : Nat} {x : Int32} : va_up (ctS G ad σ n τ j th o od) 2 (.inl (G.2.2 0, 240, .inl (upd (σ 1) i x))) = ctS G ad (us σ 1 i x) n τ j th o od := by
  funext r
  match r with
  | 0 => rfl
  | 1 => rfl
  | 2 => rfl
  | 3 => rfl
  | 4 => rfl
  | 5 => rfl
  | 6 => rfl
  | 7 => rfl
  | 8 => rfl
  | 9 => rfl
  | 10 => rfl
  | 11 => rfl
  | 12 => rfl
  | 13 => rfl
  | 14 => rfl
  | 15 => rfl
  | 16 => rfl
  | 17 => rfl
  | 18 => rfl
  | 19 => rfl
  | 20 => rfl
  | 21 => rfl
  | 22 => rfl
  | r + 23 =>
    rw [va_up_ne _ _ (by omega)]
    exact (ctL_ne (G := G) (ad := ad) (σ := σ) (a := 1) (i := i) (x := x) (Or.inl (by decide)) (Nat.mod_lt r (by decide))).symm
theorem upA2 {G : GG} {ad : Nat → Nat} {σ : St} {n : Nat} {τ : St} {j : Nat} {th : Int32} {o : OL} {od : OD} {i : Nat} {x : Int32} : va_up (ctS G ad σ n τ j th o od) 3 (.inl (G.2.2 0, 20, .inl (upd (σ 2) i x))) = ctS G ad (us σ 2 i x) n τ j th o od := by
  funext r
  match r with
  | 0 => rfl
  | 1 => rfl
  | 2 => rfl
  | 3 => rfl
  | 4 => rfl
  | 5 => rfl
  | 6 => rfl
  | 7 => rfl
  | 8 => rfl
  | 9 => rfl
  | 10 => rfl
  | 11 => rfl
  | 12 => rfl
  | 13 => rfl
  | 14 => rfl
  | 15 => rfl
  | 16 => rfl
  | 17 => rfl
  | 18 => rfl
  | 19 => rfl
  | 20 => rfl
  | 21 => rfl
  | 22 => rfl
  | r + 23 =>
    rw [va_up_ne _ _ (by omega)]
    exact (ctL_ne (G := G) (ad := ad) (σ := σ) (a := 2) (i := i) (x := x) (Or.inl (by decide)) (Nat.mod_lt r (by decide))).symm
theorem upL3 {G : GG} {ad : Nat → Nat} {σ : St} {n : Nat} {τ : St} {j : Nat} {th : Int32} {o : OL} {od : OD} {k : Nat} {x : Int32} : va_up (ctS G ad σ n τ j th o od) (3 * k + 23) (.inr (0, (lsF ad σ k).set 0 (.int x))) = ctS G ad (us σ 3 k x) n τ j th o od := by
  funext r
  match r with
  | 0 => rw [va_up_ne _ _ (by omega)]; rfl
  | 1 => rw [va_up_ne _ _ (by omega)]; rfl
  | 2 => rw [va_up_ne _ _ (by omega)]; rfl
  | 3 => rw [va_up_ne _ _ (by omega)]; rfl
  | 4 => rw [va_up_ne _ _ (by omega)]; rfl
  | 5 => rw [va_up_ne _ _ (by omega)]; rfl
  | 6 => rw [va_up_ne _ _ (by omega)]; rfl
  | 7 => rw [va_up_ne _ _ (by omega)]; rfl
  | 8 => rw [va_up_ne _ _ (by omega)]; rfl
  | 9 => rw [va_up_ne _ _ (by omega)]; rfl
  | 10 => rw [va_up_ne _ _ (by omega)]; rfl
  | 11 => rw [va_up_ne _ _ (by omega)]; rfl
  | 12 => rw [va_up_ne _ _ (by omega)]; rfl
  | 13 => rw [va_up_ne _ _ (by omega)]; rfl
  | 14 => rw [va_up_ne _ _ (by omega)]; rfl
  | 15 => rw [va_up_ne _ _ (by omega)]; rfl
  | 16 => rw [va_up_ne _ _ (by omega)]; rfl
  | 17 => rw [va_up_ne _ _ (by omega)]; rfl
  | 18 => rw [va_up_ne _ _ (by omega)]; rfl
  | 19 => rw [va_up_ne _ _ (by omega)]; rfl
  | 20 => rw [va_up_ne _ _ (by omega)]; rfl
  | 21 => rw [va_up_ne _ _ (by omega)]; rfl
  | 22 => rw [va_up_ne _ _ (by omega)]; rfl
  | r + 23 =>
    by_cases h : r + 23 = 3 * k + 23
    · have h0 : r = 3 * k := by omega
      subst h0
      rw [va_up_self, ct_L]
      unfold lsF us upd
      simp
    · rw [va_up_ne _ _ h]
      refine (ctL_ne (G := G) (ad := ad) (σ := σ) (a := 3) (i := k) (x := x) (Or.inr (Or.inl ⟨by decide, ?_⟩)) (Nat.mod_lt r (by decide))).symm
      omega
theorem upL4 {G : GG} {ad : Nat → Nat} {σ : St} {n : Nat} {τ : St} {j : Nat} {th : Int32} {o : OL} {od : OD} {k : Nat} {x : Int32} : va_up (ctS G ad σ n τ j th o od) (3 * k + 23) (.inr (0, (lsF ad σ k).set 1 (.int x))) = ctS G ad (us σ 4 k x) n τ j th o od := by
  funext r
  match r with
  | 0 => rw [va_up_ne _ _ (by omega)]; rfl
  | 1 => rw [va_up_ne _ _ (by omega)]; rfl
  | 2 => rw [va_up_ne _ _ (by omega)]; rfl
  | 3 => rw [va_up_ne _ _ (by omega)]; rfl
  | 4 => rw [va_up_ne _ _ (by omega)]; rfl
  | 5 => rw [va_up_ne _ _ (by omega)]; rfl
  | 6 => rw [va_up_ne _ _ (by omega)]; rfl
  | 7 => rw [va_up_ne _ _ (by omega)]; rfl
  | 8 => rw [va_up_ne _ _ (by omega)]; rfl
  | 9 => rw [va_up_ne _ _ (by omega)]; rfl
  | 10 => rw [va_up_ne _ _ (by omega)]; rfl
  | 11 => rw [va_up_ne _ _ (by omega)]; rfl
  | 12 => rw [va_up_ne _ _ (by omega)]; rfl
  | 13 => rw [va_up_ne _ _ (by omega)]; rfl
  | 14 => rw [va_up_ne _ _ (by omega)]; rfl
  | 15 => rw [va_up_ne _ _ (by omega)]; rfl
  | 16 => rw [va_up_ne _ _ (by omega)]; rfl
  | 17 => rw [va_up_ne _ _ (by omega)]; rfl
  | 18 => rw [va_up_ne _ _ (by omega)]; rfl
  | 19 => rw [va_up_ne _ _ (by omega)]; rfl
  | 20 => rw [va_up_ne _ _ (by omega)]; rfl
  | 21 => rw [va_up_ne _ _ (by omega)]; rfl
  | 22 => rw [va_up_ne _ _ (by omega)]; rfl
  | r + 23 =>
    by_cases h : r + 23 = 3 * k + 23
    · have h0 : r = 3 * k := by omega
      subst h0
      rw [va_up_self, ct_L]
      unfold lsF us upd
      simp
    · rw [va_up_ne _ _ h]
      refine (ctL_ne (G := G) (ad := ad) (σ := σ) (a := 4) (i := k) (x := x) (Or.inr (Or.inl ⟨by decide, ?_⟩)) (Nat.mod_lt r (by decide))).symm
      omega
theorem upL6 {G : GG} {ad : Nat → Nat} {σ : St} {n : Nat} {τ : St} {j : Nat} {th : Int32} {o : OL} {od : OD} {k : Nat} {x : Int32} : va_up (ctS G ad σ n τ j th o od) (3 * k + 23) (.inr (0, (lsF ad σ k).set 2 (.int x))) = ctS G ad (us σ 6 k x) n τ j th o od := by
  funext r
  match r with
  | 0 => rw [va_up_ne _ _ (by omega)]; rfl
  | 1 => rw [va_up_ne _ _ (by omega)]; rfl
  | 2 => rw [va_up_ne _ _ (by omega)]; rfl
  | 3 => rw [va_up_ne _ _ (by omega)]; rfl
  | 4 => rw [va_up_ne _ _ (by omega)]; rfl
  | 5 => rw [va_up_ne _ _ (by omega)]; rfl
  | 6 => rw [va_up_ne _ _ (by omega)]; rfl
  | 7 => rw [va_up_ne _ _ (by omega)]; rfl
  | 8 => rw [va_up_ne _ _ (by omega)]; rfl
  | 9 => rw [va_up_ne _ _ (by omega)]; rfl
  | 10 => rw [va_up_ne _ _ (by omega)]; rfl
  | 11 => rw [va_up_ne _ _ (by omega)]; rfl
  | 12 => rw [va_up_ne _ _ (by omega)]; rfl
  | 13 => rw [va_up_ne _ _ (by omega)]; rfl
  | 14 => rw [va_up_ne _ _ (by omega)]; rfl
  | 15 => rw [va_up_ne _ _ (by omega)]; rfl
  | 16 => rw [va_up_ne _ _ (by omega)]; rfl
  | 17 => rw [va_up_ne _ _ (by omega)]; rfl
  | 18 => rw [va_up_ne _ _ (by omega)]; rfl
  | 19 => rw [va_up_ne _ _ (by omega)]; rfl
  | 20 => rw [va_up_ne _ _ (by omega)]; rfl
  | 21 => rw [va_up_ne _ _ (by omega)]; rfl
  | 22 => rw [va_up_ne _ _ (by omega)]; rfl
  | r + 23 =>
    by_cases h : r + 23 = 3 * k + 23
    · have h0 : r = 3 * k := by omega
      subst h0
      rw [va_up_self, ct_L]
      unfold lsF us upd
      simp
    · rw [va_up_ne _ _ h]
      refine (ctL_ne (G := G) (ad := ad) (σ := σ) (a := 6) (i := k) (x := x) (Or.inr (Or.inl ⟨by decide, ?_⟩)) (Nat.mod_lt r (by decide))).symm
      omega
theorem upL5 {G : GG} {ad : Nat → Nat} {σ : St} {n : Nat} {τ : St} {j : Nat} {th : Int32} {o : OL} {od : OD} {k : Nat} {x : Int32} : va_up (ctS G ad σ n τ j th o od) (3 * k + 23) (.inr (0, (lsF ad σ k).set 3 (.int x))) = ctS G ad (us σ 5 k x) n τ j th o od := by
  funext r
  match r with
  | 0 => rw [va_up_ne _ _ (by omega)]; rfl
  | 1 => rw [va_up_ne _ _ (by omega)]; rfl
  | 2 => rw [va_up_ne _ _ (by omega)]; rfl
  | 3 => rw [va_up_ne _ _ (by omega)]; rfl
  | 4 => rw [va_up_ne _ _ (by omega)]; rfl
  | 5 => rw [va_up_ne _ _ (by omega)]; rfl
  | 6 => rw [va_up_ne _ _ (by omega)]; rfl
  | 7 => rw [va_up_ne _ _ (by omega)]; rfl
  | 8 => rw [va_up_ne _ _ (by omega)]; rfl
  | 9 => rw [va_up_ne _ _ (by omega)]; rfl
  | 10 => rw [va_up_ne _ _ (by omega)]; rfl
  | 11 => rw [va_up_ne _ _ (by omega)]; rfl
  | 12 => rw [va_up_ne _ _ (by omega)]; rfl
  | 13 => rw [va_up_ne _ _ (by omega)]; rfl
  | 14 => rw [va_up_ne _ _ (by omega)]; rfl
  | 15 => rw [va_up_ne _ _ (by omega)]; rfl
  | 16 => rw [va_up_ne _ _ (by omega)]; rfl
  | 17 => rw [va_up_ne _ _ (by omega)]; rfl
  | 18 => rw [va_up_ne _ _ (by omega)]; rfl
  | 19 => rw [va_up_ne _ _ (by omega)]; rfl
  | 20 => rw [va_up_ne _ _ (by omega)]; rfl
  | 21 => rw [va_up_ne _ _ (by omega)]; rfl
  | 22 => rw [va_up_ne _ _ (by omega)]; rfl
  | r + 23 =>
    by_cases h : r + 23 = 3 * k + 23
    · have h0 : r = 3 * k := by omega
      subst h0
      rw [va_up_self, ct_L]
      unfold lsF us upd
      simp
    · rw [va_up_ne _ _ h]
      refine (ctL_ne (G := G) (ad := ad) (σ := σ) (a := 5) (i := k) (x := x) (Or.inr (Or.inl ⟨by decide, ?_⟩)) (Nat.mod_lt r (by decide))).symm
      omega
theorem upL7 {G : GG} {ad : Nat → Nat} {σ : St} {n : Nat} {τ : St} {j : Nat} {th : Int32} {o : OL} {od : OD} {k : Nat} {x : Int32} : va_up (ctS G ad σ n τ j th o od) (3 * k + 23) (.inr (0, (lsF ad σ k).set 4 (.int x))) = ctS G ad (us σ 7 k x) n τ j th o od := by
  funext r
  match r with
  | 0 => rw [va_up_ne _ _ (by omega)]; rfl
  | 1 => rw [va_up_ne _ _ (by omega)]; rfl
  | 2 => rw [va_up_ne _ _ (by omega)]; rfl
  | 3 => rw [va_up_ne _ _ (by omega)]; rfl
  | 4 => rw [va_up_ne _ _ (by omega)]; rfl
  | 5 => rw [va_up_ne _ _ (by omega)]; rfl
  | 6 => rw [va_up_ne _ _ (by omega)]; rfl
  | 7 => rw [va_up_ne _ _ (by omega)]; rfl
  | 8 => rw [va_up_ne _ _ (by omega)]; rfl
  | 9 => rw [va_up_ne _ _ (by omega)]; rfl
  | 10 => rw [va_up_ne _ _ (by omega)]; rfl
  | 11 => rw [va_up_ne _ _ (by omega)]; rfl
  | 12 => rw [va_up_ne _ _ (by omega)]; rfl
  | 13 => rw [va_up_ne _ _ (by omega)]; rfl
  | 14 => rw [va_up_ne _ _ (by omega)]; rfl
  | 15 => rw [va_up_ne _ _ (by omega)]; rfl
  | 16 => rw [va_up_ne _ _ (by omega)]; rfl
  | 17 => rw [va_up_ne _ _ (by omega)]; rfl
  | 18 => rw [va_up_ne _ _ (by omega)]; rfl
  | 19 => rw [va_up_ne _ _ (by omega)]; rfl
  | 20 => rw [va_up_ne _ _ (by omega)]; rfl
  | 21 => rw [va_up_ne _ _ (by omega)]; rfl
  | 22 => rw [va_up_ne _ _ (by omega)]; rfl
  | r + 23 =>
    by_cases h : r + 23 = 3 * k + 23
    · have h0 : r = 3 * k := by omega
      subst h0
      rw [va_up_self, ct_L]
      unfold lsF us upd
      simp
    · rw [va_up_ne _ _ h]
      refine (ctL_ne (G := G) (ad := ad) (σ := σ) (a := 7) (i := k) (x := x) (Or.inr (Or.inl ⟨by decide, ?_⟩)) (Nat.mod_lt r (by decide))).symm
      omega
theorem upL8 {G : GG} {ad : Nat → Nat} {σ : St} {n : Nat} {τ : St} {j : Nat} {th : Int32} {o : OL} {od : OD} {k : Nat} {x : Int32} : va_up (ctS G ad σ n τ j th o od) (3 * k + 23) (.inr (0, (lsF ad σ k).set 5 (.int x))) = ctS G ad (us σ 8 k x) n τ j th o od := by
  funext r
  match r with
  | 0 => rw [va_up_ne _ _ (by omega)]; rfl
  | 1 => rw [va_up_ne _ _ (by omega)]; rfl
  | 2 => rw [va_up_ne _ _ (by omega)]; rfl
  | 3 => rw [va_up_ne _ _ (by omega)]; rfl
  | 4 => rw [va_up_ne _ _ (by omega)]; rfl
  | 5 => rw [va_up_ne _ _ (by omega)]; rfl
  | 6 => rw [va_up_ne _ _ (by omega)]; rfl
  | 7 => rw [va_up_ne _ _ (by omega)]; rfl
  | 8 => rw [va_up_ne _ _ (by omega)]; rfl
  | 9 => rw [va_up_ne _ _ (by omega)]; rfl
  | 10 => rw [va_up_ne _ _ (by omega)]; rfl
  | 11 => rw [va_up_ne _ _ (by omega)]; rfl
  | 12 => rw [va_up_ne _ _ (by omega)]; rfl
  | 13 => rw [va_up_ne _ _ (by omega)]; rfl
  | 14 => rw [va_up_ne _ _ (by omega)]; rfl
  | 15 => rw [va_up_ne _ _ (by omega)]; rfl
  | 16 => rw [va_up_ne _ _ (by omega)]; rfl
  | 17 => rw [va_up_ne _ _ (by omega)]; rfl
  | 18 => rw [va_up_ne _ _ (by omega)]; rfl
  | 19 => rw [va_up_ne _ _ (by omega)]; rfl
  | 20 => rw [va_up_ne _ _ (by omega)]; rfl
  | 21 => rw [va_up_ne _ _ (by omega)]; rfl
  | 22 => rw [va_up_ne _ _ (by omega)]; rfl
  | r + 23 =>
    by_cases h : r + 23 = 3 * k + 23
    · have h0 : r = 3 * k := by omega
      subst h0
      rw [va_up_self, ct_L]
      unfold lsF us upd
      simp
    · rw [va_up_ne _ _ h]
      refine (ctL_ne (G := G) (ad := ad) (σ := σ) (a := 8) (i := k) (x := x) (Or.inr (Or.inl ⟨by decide, ?_⟩)) (Nat.mod_lt r (by decide))).symm
      omega
theorem upL9 {G : GG} {ad : Nat → Nat} {σ : St} {n : Nat} {τ : St} {j : Nat} {th : Int32} {o : OL} {od : OD} {k : Nat} {x : Int32} : va_up (ctS G ad σ n τ j th o od) (3 * k + 23) (.inr (0, (lsF ad σ k).set 6 (.int x))) = ctS G ad (us σ 9 k x) n τ j th o od := by
  funext r
  match r with
  | 0 => rw [va_up_ne _ _ (by omega)]; rfl
  | 1 => rw [va_up_ne _ _ (by omega)]; rfl
  | 2 => rw [va_up_ne _ _ (by omega)]; rfl
  | 3 => rw [va_up_ne _ _ (by omega)]; rfl
  | 4 => rw [va_up_ne _ _ (by omega)]; rfl
  | 5 => rw [va_up_ne _ _ (by omega)]; rfl
  | 6 => rw [va_up_ne _ _ (by omega)]; rfl
  | 7 => rw [va_up_ne _ _ (by omega)]; rfl
  | 8 => rw [va_up_ne _ _ (by omega)]; rfl
  | 9 => rw [va_up_ne _ _ (by omega)]; rfl
  | 10 => rw [va_up_ne _ _ (by omega)]; rfl
  | 11 => rw [va_up_ne _ _ (by omega)]; rfl
  | 12 => rw [va_up_ne _ _ (by omega)]; rfl
  | 13 => rw [va_up_ne _ _ (by omega)]; rfl
  | 14 => rw [va_up_ne _ _ (by omega)]; rfl
  | 15 => rw [va_up_ne _ _ (by omega)]; rfl
  | 16 => rw [va_up_ne _ _ (by omega)]; rfl
  | 17 => rw [va_up_ne _ _ (by omega)]; rfl
  | 18 => rw [va_up_ne _ _ (by omega)]; rfl
  | 19 => rw [va_up_ne _ _ (by omega)]; rfl
  | 20 => rw [va_up_ne _ _ (by omega)]; rfl
  | 21 => rw [va_up_ne _ _ (by omega)]; rfl
  | 22 => rw [va_up_ne _ _ (by omega)]; rfl
  | r + 23 =>
    by_cases h : r + 23 = 3 * k + 23
    · have h0 : r = 3 * k := by omega
      subst h0
      rw [va_up_self, ct_L]
      unfold lsF us upd
      simp
    · rw [va_up_ne _ _ h]
      refine (ctL_ne (G := G) (ad := ad) (σ := σ) (a := 9) (i := k) (x := x) (Or.inr (Or.inl ⟨by decide, ?_⟩)) (Nat.mod_lt r (by decide))).symm
      omega
theorem upL10 {G : GG} {ad : Nat → Nat} {σ : St} {n : Nat} {τ : St} {j : Nat} {th : Int32} {o : OL} {od : OD} {k : Nat} {x : Int32} : va_up (ctS G ad σ n τ j th o od) (3 * k + 23) (.inr (0, (lsF ad σ k).set 7 (.int x))) = ctS G ad (us σ 10 k x) n τ j th o od := by
  funext r
  match r with
  | 0 => rw [va_up_ne _ _ (by omega)]; rfl
  | 1 => rw [va_up_ne _ _ (by omega)]; rfl
  | 2 => rw [va_up_ne _ _ (by omega)]; rfl
  | 3 => rw [va_up_ne _ _ (by omega)]; rfl
  | 4 => rw [va_up_ne _ _ (by omega)]; rfl
  | 5 => rw [va_up_ne _ _ (by omega)]; rfl
  | 6 => rw [va_up_ne _ _ (by omega)]; rfl
  | 7 => rw [va_up_ne _ _ (by omega)]; rfl
  | 8 => rw [va_up_ne _ _ (by omega)]; rfl
  | 9 => rw [va_up_ne _ _ (by omega)]; rfl
  | 10 => rw [va_up_ne _ _ (by omega)]; rfl
  | 11 => rw [va_up_ne _ _ (by omega)]; rfl
  | 12 => rw [va_up_ne _ _ (by omega)]; rfl
  | 13 => rw [va_up_ne _ _ (by omega)]; rfl
  | 14 => rw [va_up_ne _ _ (by omega)]; rfl
  | 15 => rw [va_up_ne _ _ (by omega)]; rfl
  | 16 => rw [va_up_ne _ _ (by omega)]; rfl
  | 17 => rw [va_up_ne _ _ (by omega)]; rfl
  | 18 => rw [va_up_ne _ _ (by omega)]; rfl
  | 19 => rw [va_up_ne _ _ (by omega)]; rfl
  | 20 => rw [va_up_ne _ _ (by omega)]; rfl
  | 21 => rw [va_up_ne _ _ (by omega)]; rfl
  | 22 => rw [va_up_ne _ _ (by omega)]; rfl
  | r + 23 =>
    by_cases h : r + 23 = 3 * k + 23
    · have h0 : r = 3 * k := by omega
      subst h0
      rw [va_up_self, ct_L]
      unfold lsF us upd
      simp
    · rw [va_up_ne _ _ h]
      refine (ctL_ne (G := G) (ad := ad) (σ := σ) (a := 10) (i := k) (x := x) (Or.inr (Or.inl ⟨by decide, ?_⟩)) (Nat.mod_lt r (by decide))).symm
      omega
theorem upL11 {G : GG} {ad : Nat → Nat} {σ : St} {n : Nat} {τ : St} {j : Nat} {th : Int32} {o : OL} {od : OD} {k : Nat} {x : Int32} : va_up (ctS G ad σ n τ j th o od) (3 * k + 23) (.inr (0, (lsF ad σ k).set 8 (.int x))) = ctS G ad (us σ 11 k x) n τ j th o od := by
  funext r
  match r with
  | 0 => rw [va_up_ne _ _ (by omega)]; rfl
  | 1 => rw [va_up_ne _ _ (by omega)]; rfl
  | 2 => rw [va_up_ne _ _ (by omega)]; rfl
  | 3 => rw [va_up_ne _ _ (by omega)]; rfl
  | 4 => rw [va_up_ne _ _ (by omega)]; rfl
  | 5 => rw [va_up_ne _ _ (by omega)]; rfl
  | 6 => rw [va_up_ne _ _ (by omega)]; rfl
  | 7 => rw [va_up_ne _ _ (by omega)]; rfl
  | 8 => rw [va_up_ne _ _ (by omega)]; rfl
  | 9 => rw [va_up_ne _ _ (by omega)]; rfl
  | 10 => rw [va_up_ne _ _ (by omega)]; rfl
  | 11 => rw [va_up_ne _ _ (by omega)]; rfl
  | 12 => rw [va_up_ne _ _ (by omega)]; rfl
  | 13 => rw [va_up_ne _ _ (by omega)]; rfl
  | 14 => rw [va_up_ne _ _ (by omega)]; rfl
  | 15 => rw [va_up_ne _ _ (by omega)]; rfl
  | 16 => rw [va_up_ne _ _ (by omega)]; rfl
  | 17 => rw [va_up_ne _ _ (by omega)]; rfl
  | 18 => rw [va_up_ne _ _ (by omega)]; rfl
  | 19 => rw [va_up_ne _ _ (by omega)]; rfl
  | 20 => rw [va_up_ne _ _ (by omega)]; rfl
  | 21 => rw [va_up_ne _ _ (by omega)]; rfl
  | 22 => rw [va_up_ne _ _ (by omega)]; rfl
  | r + 23 =>
    by_cases h : r + 23 = 3 * k + 23
    · have h0 : r = 3 * k := by omega
      subst h0
      rw [va_up_self, ct_L]
      unfold lsF us upd
      simp
    · rw [va_up_ne _ _ h]
      refine (ctL_ne (G := G) (ad := ad) (σ := σ) (a := 11) (i := k) (x := x) (Or.inr (Or.inl ⟨by decide, ?_⟩)) (Nat.mod_lt r (by decide))).symm
      omega
theorem upL12 {G : GG} {ad : Nat → Nat} {σ : St} {n : Nat} {τ : St} {j : Nat} {th : Int32} {o : OL} {od : OD} {k : Nat} {x : Int32} : va_up (ctS G ad σ n τ j th o od) (3 * k + 23) (.inr (0, (lsF ad σ k).set 11 (.int x))) = ctS G ad (us σ 12 k x) n τ j th o od := by
  funext r
  match r with
  | 0 => rw [va_up_ne _ _ (by omega)]; rfl
  | 1 => rw [va_up_ne _ _ (by omega)]; rfl
  | 2 => rw [va_up_ne _ _ (by omega)]; rfl
  | 3 => rw [va_up_ne _ _ (by omega)]; rfl
  | 4 => rw [va_up_ne _ _ (by omega)]; rfl
  | 5 => rw [va_up_ne _ _ (by omega)]; rfl
  | 6 => rw [va_up_ne _ _ (by omega)]; rfl
  | 7 => rw [va_up_ne _ _ (by omega)]; rfl
  | 8 => rw [va_up_ne _ _ (by omega)]; rfl
  | 9 => rw [va_up_ne _ _ (by omega)]; rfl
  | 10 => rw [va_up_ne _ _ (by omega)]; rfl
  | 11 => rw [va_up_ne _ _ (by omega)]; rfl
  | 12 => rw [va_up_ne _ _ (by omega)]; rfl
  | 13 => rw [va_up_ne _ _ (by omega)]; rfl
  | 14 => rw [va_up_ne _ _ (by omega)]; rfl
  | 15 => rw [va_up_ne _ _ (by omega)]; rfl
  | 16 => rw [va_up_ne _ _ (by omega)]; rfl
  | 17 => rw [va_up_ne _ _ (by omega)]; rfl
  | 18 => rw [va_up_ne _ _ (by omega)]; rfl
  | 19 => rw [va_up_ne _ _ (by omega)]; rfl
  | 20 => rw [va_up_ne _ _ (by omega)]; rfl
  | 21 => rw [va_up_ne _ _ (by omega)]; rfl
  | 22 => rw [va_up_ne _ _ (by omega)]; rfl
  | r + 23 =>
    by_cases h : r + 23 = 3 * k + 23
    · have h0 : r = 3 * k := by omega
      subst h0
      rw [va_up_self, ct_L]
      unfold lsF us upd
      simp
    · rw [va_up_ne _ _ h]
      refine (ctL_ne (G := G) (ad := ad) (σ := σ) (a := 12) (i := k) (x := x) (Or.inr (Or.inl ⟨by decide, ?_⟩)) (Nat.mod_lt r (by decide))).symm
      omega
theorem upR13 {G : GG} {ad : Nat → Nat} {σ : St} {n : Nat} {τ : St} {j : Nat} {th : Int32} {o : OL} {od : OD} {k i : Nat} {x : Int32} (hi : i < 6) : va_up (ctS G ad σ n τ j th o od) (3 * k + 24) (.inl (G.2.2 0, 6, .inl (upd (rowF σ 13 k) i x))) = ctS G ad (us σ 13 (6 * k + i) x) n τ j th o od := by
  funext r
  match r with
  | 0 => rw [va_up_ne _ _ (by omega)]; rfl
  | 1 => rw [va_up_ne _ _ (by omega)]; rfl
  | 2 => rw [va_up_ne _ _ (by omega)]; rfl
  | 3 => rw [va_up_ne _ _ (by omega)]; rfl
  | 4 => rw [va_up_ne _ _ (by omega)]; rfl
  | 5 => rw [va_up_ne _ _ (by omega)]; rfl
  | 6 => rw [va_up_ne _ _ (by omega)]; rfl
  | 7 => rw [va_up_ne _ _ (by omega)]; rfl
  | 8 => rw [va_up_ne _ _ (by omega)]; rfl
  | 9 => rw [va_up_ne _ _ (by omega)]; rfl
  | 10 => rw [va_up_ne _ _ (by omega)]; rfl
  | 11 => rw [va_up_ne _ _ (by omega)]; rfl
  | 12 => rw [va_up_ne _ _ (by omega)]; rfl
  | 13 => rw [va_up_ne _ _ (by omega)]; rfl
  | 14 => rw [va_up_ne _ _ (by omega)]; rfl
  | 15 => rw [va_up_ne _ _ (by omega)]; rfl
  | 16 => rw [va_up_ne _ _ (by omega)]; rfl
  | 17 => rw [va_up_ne _ _ (by omega)]; rfl
  | 18 => rw [va_up_ne _ _ (by omega)]; rfl
  | 19 => rw [va_up_ne _ _ (by omega)]; rfl
  | 20 => rw [va_up_ne _ _ (by omega)]; rfl
  | 21 => rw [va_up_ne _ _ (by omega)]; rfl
  | 22 => rw [va_up_ne _ _ (by omega)]; rfl
  | r + 23 =>
    by_cases h : r + 23 = 3 * k + 24
    · have h0 : r = 3 * k + 1 := by omega
      subst h0
      rw [va_up_self]
      show _ = ctS G ad (us σ 13 (6 * k + i) x) n τ j th o od (3 * k + 24)
      rw [ct_L1, rowF_eq hi]
    · rw [va_up_ne _ _ h]
      refine (ctL_ne (G := G) (ad := ad) (σ := σ) (a := 13) (i := 6 * k + i) (x := x) (Or.inr (Or.inr ⟨by decide, ?_⟩)) (Nat.mod_lt r (by decide))).symm
      omega
theorem upR14 {G : GG} {ad : Nat → Nat} {σ : St} {n : Nat} {τ : St} {j : Nat} {th : Int32} {o : OL} {od : OD} {k i : Nat} {x : Int32} (hi : i < 6) : va_up (ctS G ad σ n τ j th o od) (3 * k + 25) (.inl (G.2.2 0, 6, .inl (upd (rowF σ 14 k) i x))) = ctS G ad (us σ 14 (6 * k + i) x) n τ j th o od := by
  funext r
  match r with
  | 0 => rw [va_up_ne _ _ (by omega)]; rfl
  | 1 => rw [va_up_ne _ _ (by omega)]; rfl
  | 2 => rw [va_up_ne _ _ (by omega)]; rfl
  | 3 => rw [va_up_ne _ _ (by omega)]; rfl
  | 4 => rw [va_up_ne _ _ (by omega)]; rfl
  | 5 => rw [va_up_ne _ _ (by omega)]; rfl
  | 6 => rw [va_up_ne _ _ (by omega)]; rfl
  | 7 => rw [va_up_ne _ _ (by omega)]; rfl
  | 8 => rw [va_up_ne _ _ (by omega)]; rfl
  | 9 => rw [va_up_ne _ _ (by omega)]; rfl
  | 10 => rw [va_up_ne _ _ (by omega)]; rfl
  | 11 => rw [va_up_ne _ _ (by omega)]; rfl
  | 12 => rw [va_up_ne _ _ (by omega)]; rfl
  | 13 => rw [va_up_ne _ _ (by omega)]; rfl
  | 14 => rw [va_up_ne _ _ (by omega)]; rfl
  | 15 => rw [va_up_ne _ _ (by omega)]; rfl
  | 16 => rw [va_up_ne _ _ (by omega)]; rfl
  | 17 => rw [va_up_ne _ _ (by omega)]; rfl
  | 18 => rw [va_up_ne _ _ (by omega)]; rfl
  | 19 => rw [va_up_ne _ _ (by omega)]; rfl
  | 20 => rw [va_up_ne _ _ (by omega)]; rfl
  | 21 => rw [va_up_ne _ _ (by omega)]; rfl
  | 22 => rw [va_up_ne _ _ (by omega)]; rfl
  | r + 23 =>
    by_cases h : r + 23 = 3 * k + 25
    · have h0 : r = 3 * k + 2 := by omega
      subst h0
      rw [va_up_self]
      show _ = ctS G ad (us σ 14 (6 * k + i) x) n τ j th o od (3 * k + 25)
      rw [ct_L2, rowF_eq hi]
    · rw [va_up_ne _ _ h]
      refine (ctL_ne (G := G) (ad := ad) (σ := σ) (a := 14) (i := 6 * k + i) (x := x) (Or.inr (Or.inr ⟨by decide, ?_⟩)) (Nat.mod_lt r (by decide))).symm
      omega
theorem upM0 {G : GG} {ad : Nat → Nat} {σ : St} {n : Nat} {τ : St} {j : Nat} {th : Int32} {o : OL} {od : OD} {i : Nat} {x : Int32} : va_up (ctS G ad σ n τ j th o od) 6 (.inl (G.2.2 0, 6, .inl (upd (τ 0) i x))) = ctS G ad σ n (us τ 0 i x) j th o od := by
  funext r
  match r with
  | 0 => rfl
  | 1 => rfl
  | 2 => rfl
  | 3 => rfl
  | 4 => rfl
  | 5 => rfl
  | 6 => rfl
  | 7 => rfl
  | 8 => rfl
  | 9 => rfl
  | 10 => rfl
  | 11 => rfl
  | 12 => rfl
  | 13 => rfl
  | 14 => rfl
  | 15 => rfl
  | 16 => rfl
  | 17 => rfl
  | 18 => rfl
  | 19 => rfl
  | 20 => rfl
  | 21 => rfl
  | 22 => rfl
  | r + 23 => rw [va_up_ne _ _ (by omega)]; rfl
theorem upM1 {G : GG} {ad : Nat → Nat} {σ : St} {n : Nat} {τ : St} {j : Nat} {th : Int32} {o : OL} {od : OD} {i : Nat} {x : Int32} : va_up (ctS G ad σ n τ j th o od) 7 (.inl (G.2.2 0, 240, .inl (upd (τ 1) i x))) = ctS G ad σ n (us τ 1 i x) j th o od := by
  funext r
  match r with
  | 0 => rfl
  | 1 => rfl
  | 2 => rfl
  | 3 => rfl
  | 4 => rfl
  | 5 => rfl
  | 6 => rfl
  | 7 => rfl
  | 8 => rfl
  | 9 => rfl
  | 10 => rfl
  | 11 => rfl
  | 12 => rfl
  | 13 => rfl
  | 14 => rfl
  | 15 => rfl
  | 16 => rfl
  | 17 => rfl
  | 18 => rfl
  | 19 => rfl
  | 20 => rfl
  | 21 => rfl
  | 22 => rfl
  | r + 23 => rw [va_up_ne _ _ (by omega)]; rfl
theorem upM2 {G : GG} {ad : Nat → Nat} {σ : St} {n : Nat} {τ : St} {j : Nat} {th : Int32} {o : OL} {od : OD} {i : Nat} {x : Int32} : va_up (ctS G ad σ n τ j th o od) 8 (.inl (G.2.2 0, 20, .inl (upd (τ 2) i x))) = ctS G ad σ n (us τ 2 i x) j th o od := by
  funext r
  match r with
  | 0 => rfl
  | 1 => rfl
  | 2 => rfl
  | 3 => rfl
  | 4 => rfl
  | 5 => rfl
  | 6 => rfl
  | 7 => rfl
  | 8 => rfl
  | 9 => rfl
  | 10 => rfl
  | 11 => rfl
  | 12 => rfl
  | 13 => rfl
  | 14 => rfl
  | 15 => rfl
  | 16 => rfl
  | 17 => rfl
  | 18 => rfl
  | 19 => rfl
  | 20 => rfl
  | 21 => rfl
  | 22 => rfl
  | r + 23 => rw [va_up_ne _ _ (by omega)]; rfl
theorem upM3 {G : GG} {ad : Nat → Nat} {σ : St} {n : Nat} {τ : St} {j : Nat} {th : Int32} {o : OL} {od : OD} {i : Nat} {x : Int32} : va_up (ctS G ad σ n τ j th o od) 9 (.inl (G.2.2 0, 24, .inl (upd (τ 3) i x))) = ctS G ad σ n (us τ 3 i x) j th o od := by
  funext r
  match r with
  | 0 => rfl
  | 1 => rfl
  | 2 => rfl
  | 3 => rfl
  | 4 => rfl
  | 5 => rfl
  | 6 => rfl
  | 7 => rfl
  | 8 => rfl
  | 9 => rfl
  | 10 => rfl
  | 11 => rfl
  | 12 => rfl
  | 13 => rfl
  | 14 => rfl
  | 15 => rfl
  | 16 => rfl
  | 17 => rfl
  | 18 => rfl
  | 19 => rfl
  | 20 => rfl
  | 21 => rfl
  | 22 => rfl
  | r + 23 => rw [va_up_ne _ _ (by omega)]; rfl
theorem upM4 {G : GG} {ad : Nat → Nat} {σ : St} {n : Nat} {τ : St} {j : Nat} {th : Int32} {o : OL} {od : OD} {i : Nat} {x : Int32} : va_up (ctS G ad σ n τ j th o od) 10 (.inl (G.2.2 0, 24, .inl (upd (τ 4) i x))) = ctS G ad σ n (us τ 4 i x) j th o od := by
  funext r
  match r with
  | 0 => rfl
  | 1 => rfl
  | 2 => rfl
  | 3 => rfl
  | 4 => rfl
  | 5 => rfl
  | 6 => rfl
  | 7 => rfl
  | 8 => rfl
  | 9 => rfl
  | 10 => rfl
  | 11 => rfl
  | 12 => rfl
  | 13 => rfl
  | 14 => rfl
  | 15 => rfl
  | 16 => rfl
  | 17 => rfl
  | 18 => rfl
  | 19 => rfl
  | 20 => rfl
  | 21 => rfl
  | 22 => rfl
  | r + 23 => rw [va_up_ne _ _ (by omega)]; rfl
theorem upM5 {G : GG} {ad : Nat → Nat} {σ : St} {n : Nat} {τ : St} {j : Nat} {th : Int32} {o : OL} {od : OD} {i : Nat} {x : Int32} : va_up (ctS G ad σ n τ j th o od) 11 (.inl (G.2.2 0, 24, .inl (upd (τ 5) i x))) = ctS G ad σ n (us τ 5 i x) j th o od := by
  funext r
  match r with
  | 0 => rfl
  | 1 => rfl
  | 2 => rfl
  | 3 => rfl
  | 4 => rfl
  | 5 => rfl
  | 6 => rfl
  | 7 => rfl
  | 8 => rfl
  | 9 => rfl
  | 10 => rfl
  | 11 => rfl
  | 12 => rfl
  | 13 => rfl
  | 14 => rfl
  | 15 => rfl
  | 16 => rfl
  | 17 => rfl
  | 18 => rfl
  | 19 => rfl
  | 20 => rfl
  | 21 => rfl
  | 22 => rfl
  | r + 23 => rw [va_up_ne _ _ (by omega)]; rfl
theorem upM6 {G : GG} {ad : Nat → Nat} {σ : St} {n : Nat} {τ : St} {j : Nat} {th : Int32} {o : OL} {od : OD} {i : Nat} {x : Int32} : va_up (ctS G ad σ n τ j th o od) 12 (.inl (G.2.2 0, 24, .inl (upd (τ 6) i x))) = ctS G ad σ n (us τ 6 i x) j th o od := by
  funext r
  match r with
  | 0 => rfl
  | 1 => rfl
  | 2 => rfl
  | 3 => rfl
  | 4 => rfl
  | 5 => rfl
  | 6 => rfl
  | 7 => rfl
  | 8 => rfl
  | 9 => rfl
  | 10 => rfl
  | 11 => rfl
  | 12 => rfl
  | 13 => rfl
  | 14 => rfl
  | 15 => rfl
  | 16 => rfl
  | 17 => rfl
  | 18 => rfl
  | 19 => rfl
  | 20 => rfl
  | 21 => rfl
  | 22 => rfl
  | r + 23 => rw [va_up_ne _ _ (by omega)]; rfl
theorem upM7 {G : GG} {ad : Nat → Nat} {σ : St} {n : Nat} {τ : St} {j : Nat} {th : Int32} {o : OL} {od : OD} {i : Nat} {x : Int32} : va_up (ctS G ad σ n τ j th o od) 13 (.inl (G.2.2 0, 24, .inl (upd (τ 7) i x))) = ctS G ad σ n (us τ 7 i x) j th o od := by
  funext r
  match r with
  | 0 => rfl
  | 1 => rfl
  | 2 => rfl
  | 3 => rfl
  | 4 => rfl
  | 5 => rfl
  | 6 => rfl
  | 7 => rfl
  | 8 => rfl
  | 9 => rfl
  | 10 => rfl
  | 11 => rfl
  | 12 => rfl
  | 13 => rfl
  | 14 => rfl
  | 15 => rfl
  | 16 => rfl
  | 17 => rfl
  | 18 => rfl
  | 19 => rfl
  | 20 => rfl
  | 21 => rfl
  | 22 => rfl
  | r + 23 => rw [va_up_ne _ _ (by omega)]; rfl
theorem upM8 {G : GG} {ad : Nat → Nat} {σ : St} {n : Nat} {τ : St} {j : Nat} {th : Int32} {o : OL} {od : OD} {i : Nat} {x : Int32} : va_up (ctS G ad σ n τ j th o od) 14 (.inl (G.2.2 0, 24, .inl (upd (τ 8) i x))) = ctS G ad σ n (us τ 8 i x) j th o od := by
  funext r
  match r with
  | 0 => rfl
  | 1 => rfl
  | 2 => rfl
  | 3 => rfl
  | 4 => rfl
  | 5 => rfl
  | 6 => rfl
  | 7 => rfl
  | 8 => rfl
  | 9 => rfl
  | 10 => rfl
  | 11 => rfl
  | 12 => rfl
  | 13 => rfl
  | 14 => rfl
  | 15 => rfl
  | 16 => rfl
  | 17 => rfl
  | 18 => rfl
  | 19 => rfl
  | 20 => rfl
  | 21 => rfl
  | 22 => rfl
  | r + 23 => rw [va_up_ne _ _ (by omega)]; rfl
theorem upM9 {G : GG} {ad : Nat → Nat} {σ : St} {n : Nat} {τ : St} {j : Nat} {th : Int32} {o : OL} {od : OD} {i : Nat} {x : Int32} : va_up (ctS G ad σ n τ j th o od) 15 (.inl (G.2.2 0, 24, .inl (upd (τ 9) i x))) = ctS G ad σ n (us τ 9 i x) j th o od := by
  funext r
  match r with
  | 0 => rfl
  | 1 => rfl
  | 2 => rfl
  | 3 => rfl
  | 4 => rfl
  | 5 => rfl
  | 6 => rfl
  | 7 => rfl
  | 8 => rfl
  | 9 => rfl
  | 10 => rfl
  | 11 => rfl
  | 12 => rfl
  | 13 => rfl
  | 14 => rfl
  | 15 => rfl
  | 16 => rfl
  | 17 => rfl
  | 18 => rfl
  | 19 => rfl
  | 20 => rfl
  | 21 => rfl
  | 22 => rfl
  | r + 23 => rw [va_up_ne _ _ (by omega)]; rfl
theorem upM10 {G : GG} {ad : Nat → Nat} {σ : St} {n : Nat} {τ : St} {j : Nat} {th : Int32} {o : OL} {od : OD} {i : Nat} {x : Int32} : va_up (ctS G ad σ n τ j th o od) 16 (.inl (G.2.2 0, 24, .inl (upd (τ 10) i x))) = ctS G ad σ n (us τ 10 i x) j th o od := by
  funext r
  match r with
  | 0 => rfl
  | 1 => rfl
  | 2 => rfl
  | 3 => rfl
  | 4 => rfl
  | 5 => rfl
  | 6 => rfl
  | 7 => rfl
  | 8 => rfl
  | 9 => rfl
  | 10 => rfl
  | 11 => rfl
  | 12 => rfl
  | 13 => rfl
  | 14 => rfl
  | 15 => rfl
  | 16 => rfl
  | 17 => rfl
  | 18 => rfl
  | 19 => rfl
  | 20 => rfl
  | 21 => rfl
  | 22 => rfl
  | r + 23 => rw [va_up_ne _ _ (by omega)]; rfl
theorem upM11 {G : GG} {ad : Nat → Nat} {σ : St} {n : Nat} {τ : St} {j : Nat} {th : Int32} {o : OL} {od : OD} {i : Nat} {x : Int32} : va_up (ctS G ad σ n τ j th o od) 17 (.inl (G.2.2 0, 24, .inl (upd (τ 11) i x))) = ctS G ad σ n (us τ 11 i x) j th o od := by
  funext r
  match r with
  | 0 => rfl
  | 1 => rfl
  | 2 => rfl
  | 3 => rfl
  | 4 => rfl
  | 5 => rfl
  | 6 => rfl
  | 7 => rfl
  | 8 => rfl
  | 9 => rfl
  | 10 => rfl
  | 11 => rfl
  | 12 => rfl
  | 13 => rfl
  | 14 => rfl
  | 15 => rfl
  | 16 => rfl
  | 17 => rfl
  | 18 => rfl
  | 19 => rfl
  | 20 => rfl
  | 21 => rfl
  | 22 => rfl
  | r + 23 => rw [va_up_ne _ _ (by omega)]; rfl
theorem upM12 {G : GG} {ad : Nat → Nat} {σ : St} {n : Nat} {τ : St} {j : Nat} {th : Int32} {o : OL} {od : OD} {i : Nat} {x : Int32} : va_up (ctS G ad σ n τ j th o od) 18 (.inl (G.2.2 0, 24, .inl (upd (τ 12) i x))) = ctS G ad σ n (us τ 12 i x) j th o od := by
  funext r
  match r with
  | 0 => rfl
  | 1 => rfl
  | 2 => rfl
  | 3 => rfl
  | 4 => rfl
  | 5 => rfl
  | 6 => rfl
  | 7 => rfl
  | 8 => rfl
  | 9 => rfl
  | 10 => rfl
  | 11 => rfl
  | 12 => rfl
  | 13 => rfl
  | 14 => rfl
  | 15 => rfl
  | 16 => rfl
  | 17 => rfl
  | 18 => rfl
  | 19 => rfl
  | 20 => rfl
  | 21 => rfl
  | 22 => rfl
  | r + 23 => rw [va_up_ne _ _ (by omega)]; rfl
theorem upM13 {G : GG} {ad : Nat → Nat} {σ : St} {n : Nat} {τ : St} {j : Nat} {th : Int32} {o : OL} {od : OD} {i : Nat} {x : Int32} : va_up (ctS G ad σ n τ j th o od) 19 (.inl (G.2.2 0, 144, .inl (upd (τ 13) i x))) = ctS G ad σ n (us τ 13 i x) j th o od := by
  funext r
  match r with
  | 0 => rfl
  | 1 => rfl
  | 2 => rfl
  | 3 => rfl
  | 4 => rfl
  | 5 => rfl
  | 6 => rfl
  | 7 => rfl
  | 8 => rfl
  | 9 => rfl
  | 10 => rfl
  | 11 => rfl
  | 12 => rfl
  | 13 => rfl
  | 14 => rfl
  | 15 => rfl
  | 16 => rfl
  | 17 => rfl
  | 18 => rfl
  | 19 => rfl
  | 20 => rfl
  | 21 => rfl
  | 22 => rfl
  | r + 23 => rw [va_up_ne _ _ (by omega)]; rfl
theorem upM14 {G : GG} {ad : Nat → Nat} {σ : St} {n : Nat} {τ : St} {j : Nat} {th : Int32} {o : OL} {od : OD} {i : Nat} {x : Int32} : va_up (ctS G ad σ n τ j th o od) 20 (.inl (G.2.2 0, 144, .inl (upd (τ 14) i x))) = ctS G ad σ n (us τ 14 i x) j th o od := by
  funext r
  match r with
  | 0 => rfl
  | 1 => rfl
  | 2 => rfl
  | 3 => rfl
  | 4 => rfl
  | 5 => rfl
  | 6 => rfl
  | 7 => rfl
  | 8 => rfl
  | 9 => rfl
  | 10 => rfl
  | 11 => rfl
  | 12 => rfl
  | 13 => rfl
  | 14 => rfl
  | 15 => rfl
  | 16 => rfl
  | 17 => rfl
  | 18 => rfl
  | 19 => rfl
  | 20 => rfl
  | 21 => rfl
  | 22 => rfl
  | r + 23 => rw [va_up_ne _ _ (by omega)]; rfl
theorem upTh {G : GG} {ad : Nat → Nat} {σ : St} {n : Nat} {τ : St} {j : Nat} {th : Int32} {o : OL} {od : OD} {x : Int32} : va_up (ctS G ad σ n τ j th o od) 5 (.inr (2, (mdF ad j th).set 0 (.int x))) = ctS G ad σ n τ j x o od := by
  funext r
  match r with
  | 0 => rfl
  | 1 => rfl
  | 2 => rfl
  | 3 => rfl
  | 4 => rfl
  | 5 => rfl
  | 6 => rfl
  | 7 => rfl
  | 8 => rfl
  | 9 => rfl
  | 10 => rfl
  | 11 => rfl
  | 12 => rfl
  | 13 => rfl
  | 14 => rfl
  | 15 => rfl
  | 16 => rfl
  | 17 => rfl
  | 18 => rfl
  | 19 => rfl
  | 20 => rfl
  | 21 => rfl
  | 22 => rfl
  | r + 23 => rw [va_up_ne _ _ (by omega)]; rfl
theorem upJ {G : GG} {ad : Nat → Nat} {σ : St} {n : Nat} {τ : St} {j : Nat} {th : Int32} {o : OL} {od : OD} {j' : Nat} : va_up (ctS G ad σ n τ j th o od) 5 (.inr (2, (mdF ad j th).set 4 (.int (nI j')))) = ctS G ad σ n τ j' th o od := by
  funext r
  match r with
  | 0 => rfl
  | 1 => rfl
  | 2 => rfl
  | 3 => rfl
  | 4 => rfl
  | 5 => rfl
  | 6 => rfl
  | 7 => rfl
  | 8 => rfl
  | 9 => rfl
  | 10 => rfl
  | 11 => rfl
  | 12 => rfl
  | 13 => rfl
  | 14 => rfl
  | 15 => rfl
  | 16 => rfl
  | 17 => rfl
  | 18 => rfl
  | 19 => rfl
  | 20 => rfl
  | 21 => rfl
  | 22 => rfl
  | r + 23 => rw [va_up_ne _ _ (by omega)]; rfl
theorem upO {G : GG} {ad : Nat → Nat} {σ : St} {n : Nat} {τ : St} {j : Nat} {th : Int32} {o : OL} {od : OD} {o' : OL} : va_up (ctS G ad σ n τ j th o od) 21 (.inl (G.2.2 2, 1, .inr (.inl o'))) = ctS G ad σ n τ j th o' od := by
  funext r
  match r with
  | 0 => rfl
  | 1 => rfl
  | 2 => rfl
  | 3 => rfl
  | 4 => rfl
  | 5 => rfl
  | 6 => rfl
  | 7 => rfl
  | 8 => rfl
  | 9 => rfl
  | 10 => rfl
  | 11 => rfl
  | 12 => rfl
  | 13 => rfl
  | 14 => rfl
  | 15 => rfl
  | 16 => rfl
  | 17 => rfl
  | 18 => rfl
  | 19 => rfl
  | 20 => rfl
  | 21 => rfl
  | 22 => rfl
  | r + 23 => rw [va_up_ne _ _ (by omega)]; rfl
theorem upOD {G : GG} {ad : Nat → Nat} {σ : St} {n : Nat} {τ : St} {j : Nat} {th : Int32} {o : OL} {od : OD} {o' : OD} : va_up (ctS G ad σ n τ j th o od) 22 (.inl (G.2.2 3, 1, .inr (.inr (.inr (.inl o'))))) = ctS G ad σ n τ j th o o' := by
  funext r
  match r with
  | 0 => rfl
  | 1 => rfl
  | 2 => rfl
  | 3 => rfl
  | 4 => rfl
  | 5 => rfl
  | 6 => rfl
  | 7 => rfl
  | 8 => rfl
  | 9 => rfl
  | 10 => rfl
  | 11 => rfl
  | 12 => rfl
  | 13 => rfl
  | 14 => rfl
  | 15 => rfl
  | 16 => rfl
  | 17 => rfl
  | 18 => rfl
  | 19 => rfl
  | 20 => rfl
  | 21 => rfl
  | 22 => rfl
  | r + 23 => rw [va_up_ne _ _ (by omega)]; rfl
section GS
variable {p : Program} {l : Launch} {e : Env} {R : Room} {s : State} {m : MethodId} {args : Array Value} {below : List Frame} {meth : Method} {c : Code} {H : Heap} {locs : List Loc} {cells slots : Nat} {Q : State → Prop}
variable {cc : ByteArray} {nL : Nat} {Ts : List Cond} {own : String} {pc : Nat} {ls : Array Slot} {rest : List Value} {G : GG} {ad : Nat → Nat} {σ : St} {n : Nat} {τ : St} {j : Nat} {th : Int32} {o : OL} {od : OD}
theorem rdA0 (hC : CallFix p m c cc nL s args Ts own) (hY : SyS G ad σ n τ j th o od s H locs)  {i : Int32} (hin : 0 ≤ i.toInt ∧ i.toInt < 6) (hdg : decode cc pc = .ok (.iaload, 1)) (kk : W p l e R s m args below meth c H locs cells slots Q (F0 m (pc + 1) ls (.int (σ 0 (ix i)) :: rest))) : W p l e R s m args below meth c H locs cells slots Q (F0 m pc ls (.int i :: .ref (ad (1)) :: rest)) :=
  g_iald hC hY (1) (by omega) (n := 6) (f := σ 0) rfl hin hdg kk
theorem wrA0 (hC : CallFix p m c cc nL s args Ts own) (hY : SyS G ad σ n τ j th o od s H locs)  {i x : Int32} (hin : 0 ≤ i.toInt ∧ i.toInt < 6) (hdg : decode cc pc = .ok (.iastore, 1)) (kk : ∀ (H1 : Heap) (locs1 : List Loc), SyS G ad (us σ 0 (ix i) x) n τ j th o od s H1 locs1 → W p l e R s m args below meth c H1 locs1 cells slots Q (F0 m (pc + 1) ls (rest))) : W p l e R s m args below meth c H locs cells slots Q (F0 m pc ls (.int x :: .int i :: .ref (ad (1)) :: rest)) :=
  g_iast hC hY (1) (by omega) (n := 6) (f := σ 0) rfl hin hdg (fun H1 locs1 h => kk H1 locs1 (by rw [upA0] at h; exact h))
theorem rdA1 (hC : CallFix p m c cc nL s args Ts own) (hY : SyS G ad σ n τ j th o od s H locs)  {i : Int32} (hin : 0 ≤ i.toInt ∧ i.toInt < 240) (hdg : decode cc pc = .ok (.iaload, 1)) (kk : W p l e R s m args below meth c H locs cells slots Q (F0 m (pc + 1) ls (.int (σ 1 (ix i)) :: rest))) : W p l e R s m args below meth c H locs cells slots Q (F0 m pc ls (.int i :: .ref (ad (2)) :: rest)) :=
  g_iald hC hY (2) (by omega) (n := 240) (f := σ 1) rfl hin hdg kk
theorem wrA1 (hC : CallFix p m c cc nL s args Ts own) (hY : SyS G ad σ n τ j th o od s H locs)  {i x : Int32} (hin : 0 ≤ i.toInt ∧ i.toInt < 240) (hdg : decode cc pc = .ok (.iastore, 1)) (kk : ∀ (H1 : Heap) (locs1 : List Loc), SyS G ad (us σ 1 (ix i) x) n τ j th o od s H1 locs1 → W p l e R s m args below meth c H1 locs1 cells slots Q (F0 m (pc + 1) ls (rest))) : W p l e R s m args below meth c H locs cells slots Q (F0 m pc ls (.int x :: .int i :: .ref (ad (2)) :: rest)) :=
  g_iast hC hY (2) (by omega) (n := 240) (f := σ 1) rfl hin hdg (fun H1 locs1 h => kk H1 locs1 (by rw [upA1] at h; exact h))
theorem rdA2 (hC : CallFix p m c cc nL s args Ts own) (hY : SyS G ad σ n τ j th o od s H locs)  {i : Int32} (hin : 0 ≤ i.toInt ∧ i.toInt < 20) (hdg : decode cc pc = .ok (.iaload, 1)) (kk : W p l e R s m args below meth c H locs cells slots Q (F0 m (pc + 1) ls (.int (σ 2 (ix i)) :: rest))) : W p l e R s m args below meth c H locs cells slots Q (F0 m pc ls (.int i :: .ref (ad (3)) :: rest)) :=
  g_iald hC hY (3) (by omega) (n := 20) (f := σ 2) rfl hin hdg kk
theorem wrA2 (hC : CallFix p m c cc nL s args Ts own) (hY : SyS G ad σ n τ j th o od s H locs)  {i x : Int32} (hin : 0 ≤ i.toInt ∧ i.toInt < 20) (hdg : decode cc pc = .ok (.iastore, 1)) (kk : ∀ (H1 : Heap) (locs1 : List Loc), SyS G ad (us σ 2 (ix i) x) n τ j th o od s H1 locs1 → W p l e R s m args below meth c H1 locs1 cells slots Q (F0 m (pc + 1) ls (rest))) : W p l e R s m args below meth c H locs cells slots Q (F0 m pc ls (.int x :: .int i :: .ref (ad (3)) :: rest)) :=
  g_iast hC hY (3) (by omega) (n := 20) (f := σ 2) rfl hin hdg (fun H1 locs1 h => kk H1 locs1 (by rw [upA2] at h; exact h))
theorem rdM0 (hC : CallFix p m c cc nL s args Ts own) (hY : SyS G ad σ n τ j th o od s H locs)  {i : Int32} (hin : 0 ≤ i.toInt ∧ i.toInt < 6) (hdg : decode cc pc = .ok (.iaload, 1)) (kk : W p l e R s m args below meth c H locs cells slots Q (F0 m (pc + 1) ls (.int (τ 0 (ix i)) :: rest))) : W p l e R s m args below meth c H locs cells slots Q (F0 m pc ls (.int i :: .ref (ad (6)) :: rest)) :=
  g_iald hC hY (6) (by omega) (n := 6) (f := τ 0) rfl hin hdg kk
theorem wrM0 (hC : CallFix p m c cc nL s args Ts own) (hY : SyS G ad σ n τ j th o od s H locs)  {i x : Int32} (hin : 0 ≤ i.toInt ∧ i.toInt < 6) (hdg : decode cc pc = .ok (.iastore, 1)) (kk : ∀ (H1 : Heap) (locs1 : List Loc), SyS G ad σ n (us τ 0 (ix i) x) j th o od s H1 locs1 → W p l e R s m args below meth c H1 locs1 cells slots Q (F0 m (pc + 1) ls (rest))) : W p l e R s m args below meth c H locs cells slots Q (F0 m pc ls (.int x :: .int i :: .ref (ad (6)) :: rest)) :=
  g_iast hC hY (6) (by omega) (n := 6) (f := τ 0) rfl hin hdg (fun H1 locs1 h => kk H1 locs1 (by rw [upM0] at h; exact h))
theorem rdM1 (hC : CallFix p m c cc nL s args Ts own) (hY : SyS G ad σ n τ j th o od s H locs)  {i : Int32} (hin : 0 ≤ i.toInt ∧ i.toInt < 240) (hdg : decode cc pc = .ok (.iaload, 1)) (kk : W p l e R s m args below meth c H locs cells slots Q (F0 m (pc + 1) ls (.int (τ 1 (ix i)) :: rest))) : W p l e R s m args below meth c H locs cells slots Q (F0 m pc ls (.int i :: .ref (ad (7)) :: rest)) :=
  g_iald hC hY (7) (by omega) (n := 240) (f := τ 1) rfl hin hdg kk
theorem wrM1 (hC : CallFix p m c cc nL s args Ts own) (hY : SyS G ad σ n τ j th o od s H locs)  {i x : Int32} (hin : 0 ≤ i.toInt ∧ i.toInt < 240) (hdg : decode cc pc = .ok (.iastore, 1)) (kk : ∀ (H1 : Heap) (locs1 : List Loc), SyS G ad σ n (us τ 1 (ix i) x) j th o od s H1 locs1 → W p l e R s m args below meth c H1 locs1 cells slots Q (F0 m (pc + 1) ls (rest))) : W p l e R s m args below meth c H locs cells slots Q (F0 m pc ls (.int x :: .int i :: .ref (ad (7)) :: rest)) :=
  g_iast hC hY (7) (by omega) (n := 240) (f := τ 1) rfl hin hdg (fun H1 locs1 h => kk H1 locs1 (by rw [upM1] at h; exact h))
theorem rdM2 (hC : CallFix p m c cc nL s args Ts own) (hY : SyS G ad σ n τ j th o od s H locs)  {i : Int32} (hin : 0 ≤ i.toInt ∧ i.toInt < 20) (hdg : decode cc pc = .ok (.iaload, 1)) (kk : W p l e R s m args below meth c H locs cells slots Q (F0 m (pc + 1) ls (.int (τ 2 (ix i)) :: rest))) : W p l e R s m args below meth c H locs cells slots Q (F0 m pc ls (.int i :: .ref (ad (8)) :: rest)) :=
  g_iald hC hY (8) (by omega) (n := 20) (f := τ 2) rfl hin hdg kk
theorem wrM2 (hC : CallFix p m c cc nL s args Ts own) (hY : SyS G ad σ n τ j th o od s H locs)  {i x : Int32} (hin : 0 ≤ i.toInt ∧ i.toInt < 20) (hdg : decode cc pc = .ok (.iastore, 1)) (kk : ∀ (H1 : Heap) (locs1 : List Loc), SyS G ad σ n (us τ 2 (ix i) x) j th o od s H1 locs1 → W p l e R s m args below meth c H1 locs1 cells slots Q (F0 m (pc + 1) ls (rest))) : W p l e R s m args below meth c H locs cells slots Q (F0 m pc ls (.int x :: .int i :: .ref (ad (8)) :: rest)) :=
  g_iast hC hY (8) (by omega) (n := 20) (f := τ 2) rfl hin hdg (fun H1 locs1 h => kk H1 locs1 (by rw [upM2] at h; exact h))
theorem rdM3 (hC : CallFix p m c cc nL s args Ts own) (hY : SyS G ad σ n τ j th o od s H locs)  {i : Int32} (hin : 0 ≤ i.toInt ∧ i.toInt < 24) (hdg : decode cc pc = .ok (.iaload, 1)) (kk : W p l e R s m args below meth c H locs cells slots Q (F0 m (pc + 1) ls (.int (τ 3 (ix i)) :: rest))) : W p l e R s m args below meth c H locs cells slots Q (F0 m pc ls (.int i :: .ref (ad (9)) :: rest)) :=
  g_iald hC hY (9) (by omega) (n := 24) (f := τ 3) rfl hin hdg kk
theorem wrM3 (hC : CallFix p m c cc nL s args Ts own) (hY : SyS G ad σ n τ j th o od s H locs)  {i x : Int32} (hin : 0 ≤ i.toInt ∧ i.toInt < 24) (hdg : decode cc pc = .ok (.iastore, 1)) (kk : ∀ (H1 : Heap) (locs1 : List Loc), SyS G ad σ n (us τ 3 (ix i) x) j th o od s H1 locs1 → W p l e R s m args below meth c H1 locs1 cells slots Q (F0 m (pc + 1) ls (rest))) : W p l e R s m args below meth c H locs cells slots Q (F0 m pc ls (.int x :: .int i :: .ref (ad (9)) :: rest)) :=
  g_iast hC hY (9) (by omega) (n := 24) (f := τ 3) rfl hin hdg (fun H1 locs1 h => kk H1 locs1 (by rw [upM3] at h; exact h))
theorem rdM4 (hC : CallFix p m c cc nL s args Ts own) (hY : SyS G ad σ n τ j th o od s H locs)  {i : Int32} (hin : 0 ≤ i.toInt ∧ i.toInt < 24) (hdg : decode cc pc = .ok (.iaload, 1)) (kk : W p l e R s m args below meth c H locs cells slots Q (F0 m (pc + 1) ls (.int (τ 4 (ix i)) :: rest))) : W p l e R s m args below meth c H locs cells slots Q (F0 m pc ls (.int i :: .ref (ad (10)) :: rest)) :=
  g_iald hC hY (10) (by omega) (n := 24) (f := τ 4) rfl hin hdg kk
theorem wrM4 (hC : CallFix p m c cc nL s args Ts own) (hY : SyS G ad σ n τ j th o od s H locs)  {i x : Int32} (hin : 0 ≤ i.toInt ∧ i.toInt < 24) (hdg : decode cc pc = .ok (.iastore, 1)) (kk : ∀ (H1 : Heap) (locs1 : List Loc), SyS G ad σ n (us τ 4 (ix i) x) j th o od s H1 locs1 → W p l e R s m args below meth c H1 locs1 cells slots Q (F0 m (pc + 1) ls (rest))) : W p l e R s m args below meth c H locs cells slots Q (F0 m pc ls (.int x :: .int i :: .ref (ad (10)) :: rest)) :=
  g_iast hC hY (10) (by omega) (n := 24) (f := τ 4) rfl hin hdg (fun H1 locs1 h => kk H1 locs1 (by rw [upM4] at h; exact h))
theorem rdM5 (hC : CallFix p m c cc nL s args Ts own) (hY : SyS G ad σ n τ j th o od s H locs)  {i : Int32} (hin : 0 ≤ i.toInt ∧ i.toInt < 24) (hdg : decode cc pc = .ok (.iaload, 1)) (kk : W p l e R s m args below meth c H locs cells slots Q (F0 m (pc + 1) ls (.int (τ 5 (ix i)) :: rest))) : W p l e R s m args below meth c H locs cells slots Q (F0 m pc ls (.int i :: .ref (ad (11)) :: rest)) :=
  g_iald hC hY (11) (by omega) (n := 24) (f := τ 5) rfl hin hdg kk
theorem wrM5 (hC : CallFix p m c cc nL s args Ts own) (hY : SyS G ad σ n τ j th o od s H locs)  {i x : Int32} (hin : 0 ≤ i.toInt ∧ i.toInt < 24) (hdg : decode cc pc = .ok (.iastore, 1)) (kk : ∀ (H1 : Heap) (locs1 : List Loc), SyS G ad σ n (us τ 5 (ix i) x) j th o od s H1 locs1 → W p l e R s m args below meth c H1 locs1 cells slots Q (F0 m (pc + 1) ls (rest))) : W p l e R s m args below meth c H locs cells slots Q (F0 m pc ls (.int x :: .int i :: .ref (ad (11)) :: rest)) :=
  g_iast hC hY (11) (by omega) (n := 24) (f := τ 5) rfl hin hdg (fun H1 locs1 h => kk H1 locs1 (by rw [upM5] at h; exact h))
theorem rdM6 (hC : CallFix p m c cc nL s args Ts own) (hY : SyS G ad σ n τ j th o od s H locs)  {i : Int32} (hin : 0 ≤ i.toInt ∧ i.toInt < 24) (hdg : decode cc pc = .ok (.iaload, 1)) (kk : W p l e R s m args below meth c H locs cells slots Q (F0 m (pc + 1) ls (.int (τ 6 (ix i)) :: rest))) : W p l e R s m args below meth c H locs cells slots Q (F0 m pc ls (.int i :: .ref (ad (12)) :: rest)) :=
  g_iald hC hY (12) (by omega) (n := 24) (f := τ 6) rfl hin hdg kk
theorem wrM6 (hC : CallFix p m c cc nL s args Ts own) (hY : SyS G ad σ n τ j th o od s H locs)  {i x : Int32} (hin : 0 ≤ i.toInt ∧ i.toInt < 24) (hdg : decode cc pc = .ok (.iastore, 1)) (kk : ∀ (H1 : Heap) (locs1 : List Loc), SyS G ad σ n (us τ 6 (ix i) x) j th o od s H1 locs1 → W p l e R s m args below meth c H1 locs1 cells slots Q (F0 m (pc + 1) ls (rest))) : W p l e R s m args below meth c H locs cells slots Q (F0 m pc ls (.int x :: .int i :: .ref (ad (12)) :: rest)) :=
  g_iast hC hY (12) (by omega) (n := 24) (f := τ 6) rfl hin hdg (fun H1 locs1 h => kk H1 locs1 (by rw [upM6] at h; exact h))
theorem rdM7 (hC : CallFix p m c cc nL s args Ts own) (hY : SyS G ad σ n τ j th o od s H locs)  {i : Int32} (hin : 0 ≤ i.toInt ∧ i.toInt < 24) (hdg : decode cc pc = .ok (.iaload, 1)) (kk : W p l e R s m args below meth c H locs cells slots Q (F0 m (pc + 1) ls (.int (τ 7 (ix i)) :: rest))) : W p l e R s m args below meth c H locs cells slots Q (F0 m pc ls (.int i :: .ref (ad (13)) :: rest)) :=
  g_iald hC hY (13) (by omega) (n := 24) (f := τ 7) rfl hin hdg kk
theorem wrM7 (hC : CallFix p m c cc nL s args Ts own) (hY : SyS G ad σ n τ j th o od s H locs)  {i x : Int32} (hin : 0 ≤ i.toInt ∧ i.toInt < 24) (hdg : decode cc pc = .ok (.iastore, 1)) (kk : ∀ (H1 : Heap) (locs1 : List Loc), SyS G ad σ n (us τ 7 (ix i) x) j th o od s H1 locs1 → W p l e R s m args below meth c H1 locs1 cells slots Q (F0 m (pc + 1) ls (rest))) : W p l e R s m args below meth c H locs cells slots Q (F0 m pc ls (.int x :: .int i :: .ref (ad (13)) :: rest)) :=
  g_iast hC hY (13) (by omega) (n := 24) (f := τ 7) rfl hin hdg (fun H1 locs1 h => kk H1 locs1 (by rw [upM7] at h; exact h))
theorem rdM8 (hC : CallFix p m c cc nL s args Ts own) (hY : SyS G ad σ n τ j th o od s H locs)  {i : Int32} (hin : 0 ≤ i.toInt ∧ i.toInt < 24) (hdg : decode cc pc = .ok (.iaload, 1)) (kk : W p l e R s m args below meth c H locs cells slots Q (F0 m (pc + 1) ls (.int (τ 8 (ix i)) :: rest))) : W p l e R s m args below meth c H locs cells slots Q (F0 m pc ls (.int i :: .ref (ad (14)) :: rest)) :=
  g_iald hC hY (14) (by omega) (n := 24) (f := τ 8) rfl hin hdg kk
theorem wrM8 (hC : CallFix p m c cc nL s args Ts own) (hY : SyS G ad σ n τ j th o od s H locs)  {i x : Int32} (hin : 0 ≤ i.toInt ∧ i.toInt < 24) (hdg : decode cc pc = .ok (.iastore, 1)) (kk : ∀ (H1 : Heap) (locs1 : List Loc), SyS G ad σ n (us τ 8 (ix i) x) j th o od s H1 locs1 → W p l e R s m args below meth c H1 locs1 cells slots Q (F0 m (pc + 1) ls (rest))) : W p l e R s m args below meth c H locs cells slots Q (F0 m pc ls (.int x :: .int i :: .ref (ad (14)) :: rest)) :=
  g_iast hC hY (14) (by omega) (n := 24) (f := τ 8) rfl hin hdg (fun H1 locs1 h => kk H1 locs1 (by rw [upM8] at h; exact h))
theorem rdM9 (hC : CallFix p m c cc nL s args Ts own) (hY : SyS G ad σ n τ j th o od s H locs)  {i : Int32} (hin : 0 ≤ i.toInt ∧ i.toInt < 24) (hdg : decode cc pc = .ok (.iaload, 1)) (kk : W p l e R s m args below meth c H locs cells slots Q (F0 m (pc + 1) ls (.int (τ 9 (ix i)) :: rest))) : W p l e R s m args below meth c H locs cells slots Q (F0 m pc ls (.int i :: .ref (ad (15)) :: rest)) :=
  g_iald hC hY (15) (by omega) (n := 24) (f := τ 9) rfl hin hdg kk
theorem wrM9 (hC : CallFix p m c cc nL s args Ts own) (hY : SyS G ad σ n τ j th o od s H locs)  {i x : Int32} (hin : 0 ≤ i.toInt ∧ i.toInt < 24) (hdg : decode cc pc = .ok (.iastore, 1)) (kk : ∀ (H1 : Heap) (locs1 : List Loc), SyS G ad σ n (us τ 9 (ix i) x) j th o od s H1 locs1 → W p l e R s m args below meth c H1 locs1 cells slots Q (F0 m (pc + 1) ls (rest))) : W p l e R s m args below meth c H locs cells slots Q (F0 m pc ls (.int x :: .int i :: .ref (ad (15)) :: rest)) :=
  g_iast hC hY (15) (by omega) (n := 24) (f := τ 9) rfl hin hdg (fun H1 locs1 h => kk H1 locs1 (by rw [upM9] at h; exact h))
theorem rdM10 (hC : CallFix p m c cc nL s args Ts own) (hY : SyS G ad σ n τ j th o od s H locs)  {i : Int32} (hin : 0 ≤ i.toInt ∧ i.toInt < 24) (hdg : decode cc pc = .ok (.iaload, 1)) (kk : W p l e R s m args below meth c H locs cells slots Q (F0 m (pc + 1) ls (.int (τ 10 (ix i)) :: rest))) : W p l e R s m args below meth c H locs cells slots Q (F0 m pc ls (.int i :: .ref (ad (16)) :: rest)) :=
  g_iald hC hY (16) (by omega) (n := 24) (f := τ 10) rfl hin hdg kk
theorem wrM10 (hC : CallFix p m c cc nL s args Ts own) (hY : SyS G ad σ n τ j th o od s H locs)  {i x : Int32} (hin : 0 ≤ i.toInt ∧ i.toInt < 24) (hdg : decode cc pc = .ok (.iastore, 1)) (kk : ∀ (H1 : Heap) (locs1 : List Loc), SyS G ad σ n (us τ 10 (ix i) x) j th o od s H1 locs1 → W p l e R s m args below meth c H1 locs1 cells slots Q (F0 m (pc + 1) ls (rest))) : W p l e R s m args below meth c H locs cells slots Q (F0 m pc ls (.int x :: .int i :: .ref (ad (16)) :: rest)) :=
  g_iast hC hY (16) (by omega) (n := 24) (f := τ 10) rfl hin hdg (fun H1 locs1 h => kk H1 locs1 (by rw [upM10] at h; exact h))
theorem rdM11 (hC : CallFix p m c cc nL s args Ts own) (hY : SyS G ad σ n τ j th o od s H locs)  {i : Int32} (hin : 0 ≤ i.toInt ∧ i.toInt < 24) (hdg : decode cc pc = .ok (.iaload, 1)) (kk : W p l e R s m args below meth c H locs cells slots Q (F0 m (pc + 1) ls (.int (τ 11 (ix i)) :: rest))) : W p l e R s m args below meth c H locs cells slots Q (F0 m pc ls (.int i :: .ref (ad (17)) :: rest)) :=
  g_iald hC hY (17) (by omega) (n := 24) (f := τ 11) rfl hin hdg kk
theorem wrM11 (hC : CallFix p m c cc nL s args Ts own) (hY : SyS G ad σ n τ j th o od s H locs)  {i x : Int32} (hin : 0 ≤ i.toInt ∧ i.toInt < 24) (hdg : decode cc pc = .ok (.iastore, 1)) (kk : ∀ (H1 : Heap) (locs1 : List Loc), SyS G ad σ n (us τ 11 (ix i) x) j th o od s H1 locs1 → W p l e R s m args below meth c H1 locs1 cells slots Q (F0 m (pc + 1) ls (rest))) : W p l e R s m args below meth c H locs cells slots Q (F0 m pc ls (.int x :: .int i :: .ref (ad (17)) :: rest)) :=
  g_iast hC hY (17) (by omega) (n := 24) (f := τ 11) rfl hin hdg (fun H1 locs1 h => kk H1 locs1 (by rw [upM11] at h; exact h))
theorem rdM12 (hC : CallFix p m c cc nL s args Ts own) (hY : SyS G ad σ n τ j th o od s H locs)  {i : Int32} (hin : 0 ≤ i.toInt ∧ i.toInt < 24) (hdg : decode cc pc = .ok (.iaload, 1)) (kk : W p l e R s m args below meth c H locs cells slots Q (F0 m (pc + 1) ls (.int (τ 12 (ix i)) :: rest))) : W p l e R s m args below meth c H locs cells slots Q (F0 m pc ls (.int i :: .ref (ad (18)) :: rest)) :=
  g_iald hC hY (18) (by omega) (n := 24) (f := τ 12) rfl hin hdg kk
theorem wrM12 (hC : CallFix p m c cc nL s args Ts own) (hY : SyS G ad σ n τ j th o od s H locs)  {i x : Int32} (hin : 0 ≤ i.toInt ∧ i.toInt < 24) (hdg : decode cc pc = .ok (.iastore, 1)) (kk : ∀ (H1 : Heap) (locs1 : List Loc), SyS G ad σ n (us τ 12 (ix i) x) j th o od s H1 locs1 → W p l e R s m args below meth c H1 locs1 cells slots Q (F0 m (pc + 1) ls (rest))) : W p l e R s m args below meth c H locs cells slots Q (F0 m pc ls (.int x :: .int i :: .ref (ad (18)) :: rest)) :=
  g_iast hC hY (18) (by omega) (n := 24) (f := τ 12) rfl hin hdg (fun H1 locs1 h => kk H1 locs1 (by rw [upM12] at h; exact h))
theorem rdM13 (hC : CallFix p m c cc nL s args Ts own) (hY : SyS G ad σ n τ j th o od s H locs)  {i : Int32} (hin : 0 ≤ i.toInt ∧ i.toInt < 144) (hdg : decode cc pc = .ok (.iaload, 1)) (kk : W p l e R s m args below meth c H locs cells slots Q (F0 m (pc + 1) ls (.int (τ 13 (ix i)) :: rest))) : W p l e R s m args below meth c H locs cells slots Q (F0 m pc ls (.int i :: .ref (ad (19)) :: rest)) :=
  g_iald hC hY (19) (by omega) (n := 144) (f := τ 13) rfl hin hdg kk
theorem wrM13 (hC : CallFix p m c cc nL s args Ts own) (hY : SyS G ad σ n τ j th o od s H locs)  {i x : Int32} (hin : 0 ≤ i.toInt ∧ i.toInt < 144) (hdg : decode cc pc = .ok (.iastore, 1)) (kk : ∀ (H1 : Heap) (locs1 : List Loc), SyS G ad σ n (us τ 13 (ix i) x) j th o od s H1 locs1 → W p l e R s m args below meth c H1 locs1 cells slots Q (F0 m (pc + 1) ls (rest))) : W p l e R s m args below meth c H locs cells slots Q (F0 m pc ls (.int x :: .int i :: .ref (ad (19)) :: rest)) :=
  g_iast hC hY (19) (by omega) (n := 144) (f := τ 13) rfl hin hdg (fun H1 locs1 h => kk H1 locs1 (by rw [upM13] at h; exact h))
theorem rdM14 (hC : CallFix p m c cc nL s args Ts own) (hY : SyS G ad σ n τ j th o od s H locs)  {i : Int32} (hin : 0 ≤ i.toInt ∧ i.toInt < 144) (hdg : decode cc pc = .ok (.iaload, 1)) (kk : W p l e R s m args below meth c H locs cells slots Q (F0 m (pc + 1) ls (.int (τ 14 (ix i)) :: rest))) : W p l e R s m args below meth c H locs cells slots Q (F0 m pc ls (.int i :: .ref (ad (20)) :: rest)) :=
  g_iald hC hY (20) (by omega) (n := 144) (f := τ 14) rfl hin hdg kk
theorem wrM14 (hC : CallFix p m c cc nL s args Ts own) (hY : SyS G ad σ n τ j th o od s H locs)  {i x : Int32} (hin : 0 ≤ i.toInt ∧ i.toInt < 144) (hdg : decode cc pc = .ok (.iastore, 1)) (kk : ∀ (H1 : Heap) (locs1 : List Loc), SyS G ad σ n (us τ 14 (ix i) x) j th o od s H1 locs1 → W p l e R s m args below meth c H1 locs1 cells slots Q (F0 m (pc + 1) ls (rest))) : W p l e R s m args below meth c H locs cells slots Q (F0 m pc ls (.int x :: .int i :: .ref (ad (20)) :: rest)) :=
  g_iast hC hY (20) (by omega) (n := 144) (f := τ 14) rfl hin hdg (fun H1 locs1 h => kk H1 locs1 (by rw [upM14] at h; exact h))
theorem ix_lt {i : Int32} {N : Nat} (h : 0 ≤ i.toInt ∧ i.toInt < N) : ix i < N := by
  have h1 : ¬ i < 0 := by rw [Int32.lt_iff_toInt_lt]; have := h.1; simp; omega
  obtain ⟨k, hk, rfl⟩ := nI_of h1
  have h2 := h.2
  rw [nI_toInt hk] at h2
  show (nI k).toNatClampNeg < N
  rw [nI_clamp hk]
  omega
theorem ix_toInt {i : Int32} (h : 0 ≤ i.toInt) : (ix i : Int) = i.toInt := by
  have h1 : ¬ i < 0 := by rw [Int32.lt_iff_toInt_lt]; simp; omega
  obtain ⟨k, hk, rfl⟩ := nI_of h1
  rw [nI_toInt hk]
  show ((nI k).toNatClampNeg : Int) = k
  rw [nI_clamp hk]
theorem rdL13 (hC : CallFix p m c cc nL s args Ts own) (hY : SyS G ad σ n τ j th o od s H locs) {k : Nat} (hk : k < n) {i : Int32} (hin : 0 ≤ i.toInt ∧ i.toInt < 6) (hdg : decode cc pc = .ok (.iaload, 1)) (kk : W p l e R s m args below meth c H locs cells slots Q (F0 m (pc + 1) ls (.int (rowF σ 13 k (ix i)) :: rest))) : W p l e R s m args below meth c H locs cells slots Q (F0 m pc ls (.int i :: .ref (ad (3 * k + 24)) :: rest)) :=
  g_iald hC hY (3 * k + 24) (by omega) (n := 6) (f := rowF σ 13 k) (ct_L1 k) hin hdg kk
theorem wrL13 (hC : CallFix p m c cc nL s args Ts own) (hY : SyS G ad σ n τ j th o od s H locs) {k : Nat} (hk : k < n) {i x : Int32} (hin : 0 ≤ i.toInt ∧ i.toInt < 6) (hdg : decode cc pc = .ok (.iastore, 1)) (kk : ∀ (H1 : Heap) (locs1 : List Loc), SyS G ad (us σ 13 (6 * k + ix i) x) n τ j th o od s H1 locs1 → W p l e R s m args below meth c H1 locs1 cells slots Q (F0 m (pc + 1) ls (rest))) : W p l e R s m args below meth c H locs cells slots Q (F0 m pc ls (.int x :: .int i :: .ref (ad (3 * k + 24)) :: rest)) :=
  g_iast hC hY (3 * k + 24) (by omega) (n := 6) (f := rowF σ 13 k) (ct_L1 k) hin hdg (fun H1 locs1 h => kk H1 locs1 (by rw [upR13 (ix_lt (N := 6) hin)] at h; exact h))
theorem rdL14 (hC : CallFix p m c cc nL s args Ts own) (hY : SyS G ad σ n τ j th o od s H locs) {k : Nat} (hk : k < n) {i : Int32} (hin : 0 ≤ i.toInt ∧ i.toInt < 6) (hdg : decode cc pc = .ok (.iaload, 1)) (kk : W p l e R s m args below meth c H locs cells slots Q (F0 m (pc + 1) ls (.int (rowF σ 14 k (ix i)) :: rest))) : W p l e R s m args below meth c H locs cells slots Q (F0 m pc ls (.int i :: .ref (ad (3 * k + 25)) :: rest)) :=
  g_iald hC hY (3 * k + 25) (by omega) (n := 6) (f := rowF σ 14 k) (ct_L2 k) hin hdg kk
theorem wrL14 (hC : CallFix p m c cc nL s args Ts own) (hY : SyS G ad σ n τ j th o od s H locs) {k : Nat} (hk : k < n) {i x : Int32} (hin : 0 ≤ i.toInt ∧ i.toInt < 6) (hdg : decode cc pc = .ok (.iastore, 1)) (kk : ∀ (H1 : Heap) (locs1 : List Loc), SyS G ad (us σ 14 (6 * k + ix i) x) n τ j th o od s H1 locs1 → W p l e R s m args below meth c H1 locs1 cells slots Q (F0 m (pc + 1) ls (rest))) : W p l e R s m args below meth c H locs cells slots Q (F0 m pc ls (.int x :: .int i :: .ref (ad (3 * k + 25)) :: rest)) :=
  g_iast hC hY (3 * k + 25) (by omega) (n := 6) (f := rowF σ 14 k) (ct_L2 k) hin hdg (fun H1 locs1 h => kk H1 locs1 (by rw [upR14 (ix_lt (N := 6) hin)] at h; exact h))
theorem rdO (hC : CallFix p m c cc nL s args Ts own) (hY : SyS G ad σ n τ j th o od s H locs) (hdg : decode cc pc = .ok (.laload, 1)) (kk : W p l e R s m args below meth c H locs cells slots Q (F0 m (pc + 1) ls (.long (o 0) :: rest))) : W p l e R s m args below meth c H locs cells slots Q (F0 m pc ls (.int 0 :: .ref (ad 21) :: rest)) :=
  g_lald hC hY 21 (by omega) (n := 1) (f := o) rfl (i := 0) (by decide) hdg kk
theorem wrO (hC : CallFix p m c cc nL s args Ts own) (hY : SyS G ad σ n τ j th o od s H locs) {x : Int64} (hdg : decode cc pc = .ok (.lastore, 1)) (kk : ∀ (H1 : Heap) (locs1 : List Loc), SyS G ad σ n τ j th (vp_updL o 0 x) od s H1 locs1 → W p l e R s m args below meth c H1 locs1 cells slots Q (F0 m (pc + 1) ls (rest))) : W p l e R s m args below meth c H locs cells slots Q (F0 m pc ls (.long x :: .int 0 :: .ref (ad 21) :: rest)) :=
  g_last hC hY 21 (by omega) (n := 1) (f := o) rfl (i := 0) (by decide) hdg (fun H1 locs1 h => kk H1 locs1 (by rw [upO] at h; exact h))
theorem rdOD (hC : CallFix p m c cc nL s args Ts own) (hY : SyS G ad σ n τ j th o od s H locs) (hdg : decode cc pc = .ok (.daload, 1)) (kk : W p l e R s m args below meth c H locs cells slots Q (F0 m (pc + 1) ls (.double (od 0) :: rest))) : W p l e R s m args below meth c H locs cells slots Q (F0 m pc ls (.int 0 :: .ref (ad 22) :: rest)) :=
  g_dald hC hY 22 (by omega) (n := 1) (f := od) rfl (i := 0) (by decide) hdg kk
theorem wrOD (hC : CallFix p m c cc nL s args Ts own) (hY : SyS G ad σ n τ j th o od s H locs) {x : UInt64} (hdg : decode cc pc = .ok (.dastore, 1)) (kk : ∀ (od' : OD) (H1 : Heap) (locs1 : List Loc), od' 0 = x → SyS G ad σ n τ j th o od' s H1 locs1 → W p l e R s m args below meth c H1 locs1 cells slots Q (F0 m (pc + 1) ls (rest))) : W p l e R s m args below meth c H locs cells slots Q (F0 m pc ls (.double x :: .int 0 :: .ref (ad 22) :: rest)) :=
  g_dast hC hY 22 (by omega) (n := 1) (f := od) rfl (i := 0) (by decide) hdg (fun H1 locs1 h => by
    obtain ⟨f', h1, h2⟩ := h
    rw [upOD] at h2
    exact kk f' H1 locs1 h1 h2)
theorem rdRoll (hC : CallFix p m c cc nL s args Ts own) (hY : SyS G ad σ n τ j th o od s H locs) {i : Int32} (hin : 0 ≤ i.toInt ∧ i.toInt < 24) (hdg : decode cc pc = .ok (.aaload, 1)) (kk : W p l e R s m args below meth c H locs cells slots Q (F0 m (pc + 1) ls (va_rf (roF ad n (ix i)) :: rest))) : W p l e R s m args below meth c H locs cells slots Q (F0 m pc ls (.int i :: .ref (ad 4) :: rest)) :=
  g_aald hC hY 4 (by omega) (n := 24) (f := roF ad n) rfl hin hdg kk
theorem gtL_unit (hC : CallFix p m c cc nL s args Ts own) (hin : ∀ w ∈ wsX00, w ∈ Ts) (hY : SyS G ad σ n τ j th o od s H locs) {k : Nat} (hk : k < n) {index : Nat} (hlink : Cond.fieldLink own index (TX0 0).1 (TX0 0).2.1 (TX0 0).2.2.1 ∈ Ts) (hdg : decode cc pc = .ok (.getfield index, 3)) (kk : W p l e R s m args below meth c H locs cells slots Q (F0 m (pc + 3) ls (.int (σ 3 k) :: rest))) : W p l e R s m args below meth c H locs cells slots Q (F0 m pc ls (.ref (ad (3 * k + 23)) :: rest)) :=
  g_get hC hY (3 * k + 23) (by omega) (ct_L k) (q := (RX0, TX0, 12)) rfl hin 0 (by decide) hlink rfl hdg kk
theorem gtL_from (hC : CallFix p m c cc nL s args Ts own) (hin : ∀ w ∈ wsX00, w ∈ Ts) (hY : SyS G ad σ n τ j th o od s H locs) {k : Nat} (hk : k < n) {index : Nat} (hlink : Cond.fieldLink own index (TX0 1).1 (TX0 1).2.1 (TX0 1).2.2.1 ∈ Ts) (hdg : decode cc pc = .ok (.getfield index, 3)) (kk : W p l e R s m args below meth c H locs cells slots Q (F0 m (pc + 3) ls (.int (σ 4 k) :: rest))) : W p l e R s m args below meth c H locs cells slots Q (F0 m pc ls (.ref (ad (3 * k + 23)) :: rest)) :=
  g_get hC hY (3 * k + 23) (by omega) (ct_L k) (q := (RX0, TX0, 12)) rfl hin 1 (by decide) hlink rfl hdg kk
theorem gtL_firstRent (hC : CallFix p m c cc nL s args Ts own) (hin : ∀ w ∈ wsX00, w ∈ Ts) (hY : SyS G ad σ n τ j th o od s H locs) {k : Nat} (hk : k < n) {index : Nat} (hlink : Cond.fieldLink own index (TX0 2).1 (TX0 2).2.1 (TX0 2).2.2.1 ∈ Ts) (hdg : decode cc pc = .ok (.getfield index, 3)) (kk : W p l e R s m args below meth c H locs cells slots Q (F0 m (pc + 3) ls (.int (σ 6 k) :: rest))) : W p l e R s m args below meth c H locs cells slots Q (F0 m pc ls (.ref (ad (3 * k + 23)) :: rest)) :=
  g_get hC hY (3 * k + 23) (by omega) (ct_L k) (q := (RX0, TX0, 12)) rfl hin 2 (by decide) hlink rfl hdg kk
theorem gtL_to (hC : CallFix p m c cc nL s args Ts own) (hin : ∀ w ∈ wsX00, w ∈ Ts) (hY : SyS G ad σ n τ j th o od s H locs) {k : Nat} (hk : k < n) {index : Nat} (hlink : Cond.fieldLink own index (TX0 3).1 (TX0 3).2.1 (TX0 3).2.2.1 ∈ Ts) (hdg : decode cc pc = .ok (.getfield index, 3)) (kk : W p l e R s m args below meth c H locs cells slots Q (F0 m (pc + 3) ls (.int (σ 5 k) :: rest))) : W p l e R s m args below meth c H locs cells slots Q (F0 m pc ls (.ref (ad (3 * k + 23)) :: rest)) :=
  g_get hC hY (3 * k + 23) (by omega) (ct_L k) (q := (RX0, TX0, 12)) rfl hin 3 (by decide) hlink rfl hdg kk
theorem ptL_to (hC : CallFix p m c cc nL s args Ts own) (hin : ∀ w ∈ wsX00, w ∈ Ts) (hY : SyS G ad σ n τ j th o od s H locs) {k : Nat} (hk : k < n) {index : Nat} (hlink : Cond.fieldLink own index (TX0 3).1 (TX0 3).2.1 (TX0 3).2.2.1 ∈ Ts) {x : Int32} (hdg : decode cc pc = .ok (.putfield index, 3)) (kk : ∀ (H1 : Heap) (locs1 : List Loc), SyS G ad (us σ 5 k x) n τ j th o od s H1 locs1 → W p l e R s m args below meth c H1 locs1 cells slots Q (F0 m (pc + 3) ls (rest))) : W p l e R s m args below meth c H locs cells slots Q (F0 m pc ls (.int x :: .ref (ad (3 * k + 23)) :: rest)) :=
  g_put hC hY (3 * k + 23) (by omega) (ct_L k) (q := (RX0, TX0, 12)) rfl hin tyX0 tyX0_ok nmX0 3 (by decide) hlink (Or.inl rfl) rfl rfl (Nat.le_of_ble_eq_true rfl) hdg (fun H1 locs1 h => kk H1 locs1 (by rw [upL5] at h; exact h))
theorem gtL_free (hC : CallFix p m c cc nL s args Ts own) (hin : ∀ w ∈ wsX00, w ∈ Ts) (hY : SyS G ad σ n τ j th o od s H locs) {k : Nat} (hk : k < n) {index : Nat} (hlink : Cond.fieldLink own index (TX0 4).1 (TX0 4).2.1 (TX0 4).2.2.1 ∈ Ts) (hdg : decode cc pc = .ok (.getfield index, 3)) (kk : W p l e R s m args below meth c H locs cells slots Q (F0 m (pc + 3) ls (.int (σ 7 k) :: rest))) : W p l e R s m args below meth c H locs cells slots Q (F0 m pc ls (.ref (ad (3 * k + 23)) :: rest)) :=
  g_get hC hY (3 * k + 23) (by omega) (ct_L k) (q := (RX0, TX0, 12)) rfl hin 4 (by decide) hlink rfl hdg kk
theorem ptL_free (hC : CallFix p m c cc nL s args Ts own) (hin : ∀ w ∈ wsX00, w ∈ Ts) (hY : SyS G ad σ n τ j th o od s H locs) {k : Nat} (hk : k < n) {index : Nat} (hlink : Cond.fieldLink own index (TX0 4).1 (TX0 4).2.1 (TX0 4).2.2.1 ∈ Ts) {x : Int32} (hdg : decode cc pc = .ok (.putfield index, 3)) (kk : ∀ (H1 : Heap) (locs1 : List Loc), SyS G ad (us σ 7 k x) n τ j th o od s H1 locs1 → W p l e R s m args below meth c H1 locs1 cells slots Q (F0 m (pc + 3) ls (rest))) : W p l e R s m args below meth c H locs cells slots Q (F0 m pc ls (.int x :: .ref (ad (3 * k + 23)) :: rest)) :=
  g_put hC hY (3 * k + 23) (by omega) (ct_L k) (q := (RX0, TX0, 12)) rfl hin tyX0 tyX0_ok nmX0 4 (by decide) hlink (Or.inl rfl) rfl rfl (Nat.le_of_ble_eq_true rfl) hdg (fun H1 locs1 h => kk H1 locs1 (by rw [upL7] at h; exact h))
theorem gtL_every (hC : CallFix p m c cc nL s args Ts own) (hin : ∀ w ∈ wsX00, w ∈ Ts) (hY : SyS G ad σ n τ j th o od s H locs) {k : Nat} (hk : k < n) {index : Nat} (hlink : Cond.fieldLink own index (TX0 5).1 (TX0 5).2.1 (TX0 5).2.2.1 ∈ Ts) (hdg : decode cc pc = .ok (.getfield index, 3)) (kk : W p l e R s m args below meth c H locs cells slots Q (F0 m (pc + 3) ls (.int (σ 8 k) :: rest))) : W p l e R s m args below meth c H locs cells slots Q (F0 m pc ls (.ref (ad (3 * k + 23)) :: rest)) :=
  g_get hC hY (3 * k + 23) (by omega) (ct_L k) (q := (RX0, TX0, 12)) rfl hin 5 (by decide) hlink rfl hdg kk
theorem ptL_every (hC : CallFix p m c cc nL s args Ts own) (hin : ∀ w ∈ wsX00, w ∈ Ts) (hY : SyS G ad σ n τ j th o od s H locs) {k : Nat} (hk : k < n) {index : Nat} (hlink : Cond.fieldLink own index (TX0 5).1 (TX0 5).2.1 (TX0 5).2.2.1 ∈ Ts) {x : Int32} (hdg : decode cc pc = .ok (.putfield index, 3)) (kk : ∀ (H1 : Heap) (locs1 : List Loc), SyS G ad (us σ 8 k x) n τ j th o od s H1 locs1 → W p l e R s m args below meth c H1 locs1 cells slots Q (F0 m (pc + 3) ls (rest))) : W p l e R s m args below meth c H locs cells slots Q (F0 m pc ls (.int x :: .ref (ad (3 * k + 23)) :: rest)) :=
  g_put hC hY (3 * k + 23) (by omega) (ct_L k) (q := (RX0, TX0, 12)) rfl hin tyX0 tyX0_ok nmX0 5 (by decide) hlink (Or.inl rfl) rfl rfl (Nat.le_of_ble_eq_true rfl) hdg (fun H1 locs1 h => kk H1 locs1 (by rw [upL8] at h; exact h))
theorem gtL_cap (hC : CallFix p m c cc nL s args Ts own) (hin : ∀ w ∈ wsX00, w ∈ Ts) (hY : SyS G ad σ n τ j th o od s H locs) {k : Nat} (hk : k < n) {index : Nat} (hlink : Cond.fieldLink own index (TX0 6).1 (TX0 6).2.1 (TX0 6).2.2.1 ∈ Ts) (hdg : decode cc pc = .ok (.getfield index, 3)) (kk : W p l e R s m args below meth c H locs cells slots Q (F0 m (pc + 3) ls (.int (σ 9 k) :: rest))) : W p l e R s m args below meth c H locs cells slots Q (F0 m pc ls (.ref (ad (3 * k + 23)) :: rest)) :=
  g_get hC hY (3 * k + 23) (by omega) (ct_L k) (q := (RX0, TX0, 12)) rfl hin 6 (by decide) hlink rfl hdg kk
theorem ptL_cap (hC : CallFix p m c cc nL s args Ts own) (hin : ∀ w ∈ wsX00, w ∈ Ts) (hY : SyS G ad σ n τ j th o od s H locs) {k : Nat} (hk : k < n) {index : Nat} (hlink : Cond.fieldLink own index (TX0 6).1 (TX0 6).2.1 (TX0 6).2.2.1 ∈ Ts) {x : Int32} (hdg : decode cc pc = .ok (.putfield index, 3)) (kk : ∀ (H1 : Heap) (locs1 : List Loc), SyS G ad (us σ 9 k x) n τ j th o od s H1 locs1 → W p l e R s m args below meth c H1 locs1 cells slots Q (F0 m (pc + 3) ls (rest))) : W p l e R s m args below meth c H locs cells slots Q (F0 m pc ls (.int x :: .ref (ad (3 * k + 23)) :: rest)) :=
  g_put hC hY (3 * k + 23) (by omega) (ct_L k) (q := (RX0, TX0, 12)) rfl hin tyX0 tyX0_ok nmX0 6 (by decide) hlink (Or.inl rfl) rfl rfl (Nat.le_of_ble_eq_true rfl) hdg (fun H1 locs1 h => kk H1 locs1 (by rw [upL9] at h; exact h))
theorem gtL_prepaid (hC : CallFix p m c cc nL s args Ts own) (hin : ∀ w ∈ wsX00, w ∈ Ts) (hY : SyS G ad σ n τ j th o od s H locs) {k : Nat} (hk : k < n) {index : Nat} (hlink : Cond.fieldLink own index (TX0 7).1 (TX0 7).2.1 (TX0 7).2.2.1 ∈ Ts) (hdg : decode cc pc = .ok (.getfield index, 3)) (kk : W p l e R s m args below meth c H locs cells slots Q (F0 m (pc + 3) ls (.int (σ 10 k) :: rest))) : W p l e R s m args below meth c H locs cells slots Q (F0 m pc ls (.ref (ad (3 * k + 23)) :: rest)) :=
  g_get hC hY (3 * k + 23) (by omega) (ct_L k) (q := (RX0, TX0, 12)) rfl hin 7 (by decide) hlink rfl hdg kk
theorem ptL_prepaid (hC : CallFix p m c cc nL s args Ts own) (hin : ∀ w ∈ wsX00, w ∈ Ts) (hY : SyS G ad σ n τ j th o od s H locs) {k : Nat} (hk : k < n) {index : Nat} (hlink : Cond.fieldLink own index (TX0 7).1 (TX0 7).2.1 (TX0 7).2.2.1 ∈ Ts) {x : Int32} (hdg : decode cc pc = .ok (.putfield index, 3)) (kk : ∀ (H1 : Heap) (locs1 : List Loc), SyS G ad (us σ 10 k x) n τ j th o od s H1 locs1 → W p l e R s m args below meth c H1 locs1 cells slots Q (F0 m (pc + 3) ls (rest))) : W p l e R s m args below meth c H locs cells slots Q (F0 m pc ls (.int x :: .ref (ad (3 * k + 23)) :: rest)) :=
  g_put hC hY (3 * k + 23) (by omega) (ct_L k) (q := (RX0, TX0, 12)) rfl hin tyX0 tyX0_ok nmX0 7 (by decide) hlink (Or.inl rfl) rfl rfl (Nat.le_of_ble_eq_true rfl) hdg (fun H1 locs1 h => kk H1 locs1 (by rw [upL10] at h; exact h))
theorem gtL_deposit (hC : CallFix p m c cc nL s args Ts own) (hin : ∀ w ∈ wsX00, w ∈ Ts) (hY : SyS G ad σ n τ j th o od s H locs) {k : Nat} (hk : k < n) {index : Nat} (hlink : Cond.fieldLink own index (TX0 8).1 (TX0 8).2.1 (TX0 8).2.2.1 ∈ Ts) (hdg : decode cc pc = .ok (.getfield index, 3)) (kk : W p l e R s m args below meth c H locs cells slots Q (F0 m (pc + 3) ls (.int (σ 11 k) :: rest))) : W p l e R s m args below meth c H locs cells slots Q (F0 m pc ls (.ref (ad (3 * k + 23)) :: rest)) :=
  g_get hC hY (3 * k + 23) (by omega) (ct_L k) (q := (RX0, TX0, 12)) rfl hin 8 (by decide) hlink rfl hdg kk
theorem ptL_deposit (hC : CallFix p m c cc nL s args Ts own) (hin : ∀ w ∈ wsX00, w ∈ Ts) (hY : SyS G ad σ n τ j th o od s H locs) {k : Nat} (hk : k < n) {index : Nat} (hlink : Cond.fieldLink own index (TX0 8).1 (TX0 8).2.1 (TX0 8).2.2.1 ∈ Ts) {x : Int32} (hdg : decode cc pc = .ok (.putfield index, 3)) (kk : ∀ (H1 : Heap) (locs1 : List Loc), SyS G ad (us σ 11 k x) n τ j th o od s H1 locs1 → W p l e R s m args below meth c H1 locs1 cells slots Q (F0 m (pc + 3) ls (rest))) : W p l e R s m args below meth c H locs cells slots Q (F0 m pc ls (.int x :: .ref (ad (3 * k + 23)) :: rest)) :=
  g_put hC hY (3 * k + 23) (by omega) (ct_L k) (q := (RX0, TX0, 12)) rfl hin tyX0 tyX0_ok nmX0 8 (by decide) hlink (Or.inl rfl) rfl rfl (Nat.le_of_ble_eq_true rfl) hdg (fun H1 locs1 h => kk H1 locs1 (by rw [upL11] at h; exact h))
theorem gtL_stepDays (hC : CallFix p m c cc nL s args Ts own) (hin : ∀ w ∈ wsX00, w ∈ Ts) (hY : SyS G ad σ n τ j th o od s H locs) {k : Nat} (hk : k < n) {index : Nat} (hlink : Cond.fieldLink own index (TX0 9).1 (TX0 9).2.1 (TX0 9).2.2.1 ∈ Ts) (hdg : decode cc pc = .ok (.getfield index, 3)) (kk : W p l e R s m args below meth c H locs cells slots Q (F0 m (pc + 3) ls (.ref (ad (3 * k + 24)) :: rest))) : W p l e R s m args below meth c H locs cells slots Q (F0 m pc ls (.ref (ad (3 * k + 23)) :: rest)) :=
  g_get hC hY (3 * k + 23) (by omega) (ct_L k) (q := (RX0, TX0, 12)) rfl hin 9 (by decide) hlink rfl hdg kk
theorem gtL_stepRents (hC : CallFix p m c cc nL s args Ts own) (hin : ∀ w ∈ wsX00, w ∈ Ts) (hY : SyS G ad σ n τ j th o od s H locs) {k : Nat} (hk : k < n) {index : Nat} (hlink : Cond.fieldLink own index (TX0 10).1 (TX0 10).2.1 (TX0 10).2.2.1 ∈ Ts) (hdg : decode cc pc = .ok (.getfield index, 3)) (kk : W p l e R s m args below meth c H locs cells slots Q (F0 m (pc + 3) ls (.ref (ad (3 * k + 25)) :: rest))) : W p l e R s m args below meth c H locs cells slots Q (F0 m pc ls (.ref (ad (3 * k + 23)) :: rest)) :=
  g_get hC hY (3 * k + 23) (by omega) (ct_L k) (q := (RX0, TX0, 12)) rfl hin 10 (by decide) hlink rfl hdg kk
theorem gtL_steps (hC : CallFix p m c cc nL s args Ts own) (hin : ∀ w ∈ wsX00, w ∈ Ts) (hY : SyS G ad σ n τ j th o od s H locs) {k : Nat} (hk : k < n) {index : Nat} (hlink : Cond.fieldLink own index (TX0 11).1 (TX0 11).2.1 (TX0 11).2.2.1 ∈ Ts) (hdg : decode cc pc = .ok (.getfield index, 3)) (kk : W p l e R s m args below meth c H locs cells slots Q (F0 m (pc + 3) ls (.int (σ 12 k) :: rest))) : W p l e R s m args below meth c H locs cells slots Q (F0 m pc ls (.ref (ad (3 * k + 23)) :: rest)) :=
  g_get hC hY (3 * k + 23) (by omega) (ct_L k) (q := (RX0, TX0, 12)) rfl hin 11 (by decide) hlink rfl hdg kk
theorem ptL_steps (hC : CallFix p m c cc nL s args Ts own) (hin : ∀ w ∈ wsX00, w ∈ Ts) (hY : SyS G ad σ n τ j th o od s H locs) {k : Nat} (hk : k < n) {index : Nat} (hlink : Cond.fieldLink own index (TX0 11).1 (TX0 11).2.1 (TX0 11).2.2.1 ∈ Ts) {x : Int32} (hdg : decode cc pc = .ok (.putfield index, 3)) (kk : ∀ (H1 : Heap) (locs1 : List Loc), SyS G ad (us σ 12 k x) n τ j th o od s H1 locs1 → W p l e R s m args below meth c H1 locs1 cells slots Q (F0 m (pc + 3) ls (rest))) : W p l e R s m args below meth c H locs cells slots Q (F0 m pc ls (.int x :: .ref (ad (3 * k + 23)) :: rest)) :=
  g_put hC hY (3 * k + 23) (by omega) (ct_L k) (q := (RX0, TX0, 12)) rfl hin tyX0 tyX0_ok nmX0 11 (by decide) hlink (Or.inl rfl) rfl rfl (Nat.le_of_ble_eq_true rfl) hdg (fun H1 locs1 h => kk H1 locs1 (by rw [upL12] at h; exact h))
theorem gtV_areas (hC : CallFix p m c cc nL s args Ts own) (hin : ∀ w ∈ wsX10, w ∈ Ts) (hY : SyS G ad σ n τ j th o od s H locs) {index : Nat} (hlink : Cond.fieldLink own index (TX1 0).1 (TX1 0).2.1 (TX1 0).2.2.1 ∈ Ts) (hdg : decode cc pc = .ok (.getfield index, 3)) (kk : W p l e R s m args below meth c H locs cells slots Q (F0 m (pc + 3) ls (.ref (ad 1) :: rest))) : W p l e R s m args below meth c H locs cells slots Q (F0 m pc ls (.ref (ad 0) :: rest)) :=
  g_get hC hY 0 (by omega) (ci := 1) (fs := [.ref (ad 1), .ref (ad 2), .ref (ad 3), .ref (ad 4), .int (nI n)]) rfl (q := (RX1, TX1, 5)) rfl hin 0 (by decide) hlink rfl hdg kk
theorem gtV_indices (hC : CallFix p m c cc nL s args Ts own) (hin : ∀ w ∈ wsX10, w ∈ Ts) (hY : SyS G ad σ n τ j th o od s H locs) {index : Nat} (hlink : Cond.fieldLink own index (TX1 1).1 (TX1 1).2.1 (TX1 1).2.2.1 ∈ Ts) (hdg : decode cc pc = .ok (.getfield index, 3)) (kk : W p l e R s m args below meth c H locs cells slots Q (F0 m (pc + 3) ls (.ref (ad 2) :: rest))) : W p l e R s m args below meth c H locs cells slots Q (F0 m pc ls (.ref (ad 0) :: rest)) :=
  g_get hC hY 0 (by omega) (ci := 1) (fs := [.ref (ad 1), .ref (ad 2), .ref (ad 3), .ref (ad 4), .int (nI n)]) rfl (q := (RX1, TX1, 5)) rfl hin 1 (by decide) hlink rfl hdg kk
theorem gtV_costs (hC : CallFix p m c cc nL s args Ts own) (hin : ∀ w ∈ wsX10, w ∈ Ts) (hY : SyS G ad σ n τ j th o od s H locs) {index : Nat} (hlink : Cond.fieldLink own index (TX1 2).1 (TX1 2).2.1 (TX1 2).2.2.1 ∈ Ts) (hdg : decode cc pc = .ok (.getfield index, 3)) (kk : W p l e R s m args below meth c H locs cells slots Q (F0 m (pc + 3) ls (.ref (ad 3) :: rest))) : W p l e R s m args below meth c H locs cells slots Q (F0 m pc ls (.ref (ad 0) :: rest)) :=
  g_get hC hY 0 (by omega) (ci := 1) (fs := [.ref (ad 1), .ref (ad 2), .ref (ad 3), .ref (ad 4), .int (nI n)]) rfl (q := (RX1, TX1, 5)) rfl hin 2 (by decide) hlink rfl hdg kk
theorem gtV_roll (hC : CallFix p m c cc nL s args Ts own) (hin : ∀ w ∈ wsX10, w ∈ Ts) (hY : SyS G ad σ n τ j th o od s H locs) {index : Nat} (hlink : Cond.fieldLink own index (TX1 3).1 (TX1 3).2.1 (TX1 3).2.2.1 ∈ Ts) (hdg : decode cc pc = .ok (.getfield index, 3)) (kk : W p l e R s m args below meth c H locs cells slots Q (F0 m (pc + 3) ls (.ref (ad 4) :: rest))) : W p l e R s m args below meth c H locs cells slots Q (F0 m pc ls (.ref (ad 0) :: rest)) :=
  g_get hC hY 0 (by omega) (ci := 1) (fs := [.ref (ad 1), .ref (ad 2), .ref (ad 3), .ref (ad 4), .int (nI n)]) rfl (q := (RX1, TX1, 5)) rfl hin 3 (by decide) hlink rfl hdg kk
theorem gtV_count (hC : CallFix p m c cc nL s args Ts own) (hin : ∀ w ∈ wsX10, w ∈ Ts) (hY : SyS G ad σ n τ j th o od s H locs) {index : Nat} (hlink : Cond.fieldLink own index (TX1 4).1 (TX1 4).2.1 (TX1 4).2.2.1 ∈ Ts) (hdg : decode cc pc = .ok (.getfield index, 3)) (kk : W p l e R s m args below meth c H locs cells slots Q (F0 m (pc + 3) ls (.int (nI n) :: rest))) : W p l e R s m args below meth c H locs cells slots Q (F0 m pc ls (.ref (ad 0) :: rest)) :=
  g_get hC hY 0 (by omega) (ci := 1) (fs := [.ref (ad 1), .ref (ad 2), .ref (ad 3), .ref (ad 4), .int (nI n)]) rfl (q := (RX1, TX1, 5)) rfl hin 4 (by decide) hlink rfl hdg kk
theorem gtM_thrown (hC : CallFix p m c cc nL s args Ts own) (hin : ∀ w ∈ wsX20, w ∈ Ts) (hY : SyS G ad σ n τ j th o od s H locs) {index : Nat} (hlink : Cond.fieldLink own index (TX2 0).1 (TX2 0).2.1 (TX2 0).2.2.1 ∈ Ts) (hdg : decode cc pc = .ok (.getfield index, 3)) (kk : W p l e R s m args below meth c H locs cells slots Q (F0 m (pc + 3) ls (.int th :: rest))) : W p l e R s m args below meth c H locs cells slots Q (F0 m pc ls (.ref (ad 5) :: rest)) :=
  g_get hC hY 5 (by omega) (ci := 2) (fs := mdF ad j th) rfl (q := (RX2, TX2, 17)) rfl hin 0 (by decide) hlink rfl hdg kk
theorem gtM_areas (hC : CallFix p m c cc nL s args Ts own) (hin : ∀ w ∈ wsX20, w ∈ Ts) (hY : SyS G ad σ n τ j th o od s H locs) {index : Nat} (hlink : Cond.fieldLink own index (TX2 1).1 (TX2 1).2.1 (TX2 1).2.2.1 ∈ Ts) (hdg : decode cc pc = .ok (.getfield index, 3)) (kk : W p l e R s m args below meth c H locs cells slots Q (F0 m (pc + 3) ls (.ref (ad 6) :: rest))) : W p l e R s m args below meth c H locs cells slots Q (F0 m pc ls (.ref (ad 5) :: rest)) :=
  g_get hC hY 5 (by omega) (ci := 2) (fs := mdF ad j th) rfl (q := (RX2, TX2, 17)) rfl hin 1 (by decide) hlink rfl hdg kk
theorem gtM_indices (hC : CallFix p m c cc nL s args Ts own) (hin : ∀ w ∈ wsX20, w ∈ Ts) (hY : SyS G ad σ n τ j th o od s H locs) {index : Nat} (hlink : Cond.fieldLink own index (TX2 2).1 (TX2 2).2.1 (TX2 2).2.2.1 ∈ Ts) (hdg : decode cc pc = .ok (.getfield index, 3)) (kk : W p l e R s m args below meth c H locs cells slots Q (F0 m (pc + 3) ls (.ref (ad 7) :: rest))) : W p l e R s m args below meth c H locs cells slots Q (F0 m pc ls (.ref (ad 5) :: rest)) :=
  g_get hC hY 5 (by omega) (ci := 2) (fs := mdF ad j th) rfl (q := (RX2, TX2, 17)) rfl hin 2 (by decide) hlink rfl hdg kk
theorem gtM_costs (hC : CallFix p m c cc nL s args Ts own) (hin : ∀ w ∈ wsX20, w ∈ Ts) (hY : SyS G ad σ n τ j th o od s H locs) {index : Nat} (hlink : Cond.fieldLink own index (TX2 3).1 (TX2 3).2.1 (TX2 3).2.2.1 ∈ Ts) (hdg : decode cc pc = .ok (.getfield index, 3)) (kk : W p l e R s m args below meth c H locs cells slots Q (F0 m (pc + 3) ls (.ref (ad 8) :: rest))) : W p l e R s m args below meth c H locs cells slots Q (F0 m pc ls (.ref (ad 5) :: rest)) :=
  g_get hC hY 5 (by omega) (ci := 2) (fs := mdF ad j th) rfl (q := (RX2, TX2, 17)) rfl hin 3 (by decide) hlink rfl hdg kk
theorem gtM_leases (hC : CallFix p m c cc nL s args Ts own) (hin : ∀ w ∈ wsX20, w ∈ Ts) (hY : SyS G ad σ n τ j th o od s H locs) {index : Nat} (hlink : Cond.fieldLink own index (TX2 4).1 (TX2 4).2.1 (TX2 4).2.2.1 ∈ Ts) (hdg : decode cc pc = .ok (.getfield index, 3)) (kk : W p l e R s m args below meth c H locs cells slots Q (F0 m (pc + 3) ls (.int (nI j) :: rest))) : W p l e R s m args below meth c H locs cells slots Q (F0 m pc ls (.ref (ad 5) :: rest)) :=
  g_get hC hY 5 (by omega) (ci := 2) (fs := mdF ad j th) rfl (q := (RX2, TX2, 17)) rfl hin 4 (by decide) hlink rfl hdg kk
theorem gtM_units (hC : CallFix p m c cc nL s args Ts own) (hin : ∀ w ∈ wsX20, w ∈ Ts) (hY : SyS G ad σ n τ j th o od s H locs) {index : Nat} (hlink : Cond.fieldLink own index (TX2 5).1 (TX2 5).2.1 (TX2 5).2.2.1 ∈ Ts) (hdg : decode cc pc = .ok (.getfield index, 3)) (kk : W p l e R s m args below meth c H locs cells slots Q (F0 m (pc + 3) ls (.ref (ad 9) :: rest))) : W p l e R s m args below meth c H locs cells slots Q (F0 m pc ls (.ref (ad 5) :: rest)) :=
  g_get hC hY 5 (by omega) (ci := 2) (fs := mdF ad j th) rfl (q := (RX2, TX2, 17)) rfl hin 5 (by decide) hlink rfl hdg kk
theorem gtM_froms (hC : CallFix p m c cc nL s args Ts own) (hin : ∀ w ∈ wsX20, w ∈ Ts) (hY : SyS G ad σ n τ j th o od s H locs) {index : Nat} (hlink : Cond.fieldLink own index (TX2 6).1 (TX2 6).2.1 (TX2 6).2.2.1 ∈ Ts) (hdg : decode cc pc = .ok (.getfield index, 3)) (kk : W p l e R s m args below meth c H locs cells slots Q (F0 m (pc + 3) ls (.ref (ad 10) :: rest))) : W p l e R s m args below meth c H locs cells slots Q (F0 m pc ls (.ref (ad 5) :: rest)) :=
  g_get hC hY 5 (by omega) (ci := 2) (fs := mdF ad j th) rfl (q := (RX2, TX2, 17)) rfl hin 6 (by decide) hlink rfl hdg kk
theorem gtM_tos (hC : CallFix p m c cc nL s args Ts own) (hin : ∀ w ∈ wsX20, w ∈ Ts) (hY : SyS G ad σ n τ j th o od s H locs) {index : Nat} (hlink : Cond.fieldLink own index (TX2 7).1 (TX2 7).2.1 (TX2 7).2.2.1 ∈ Ts) (hdg : decode cc pc = .ok (.getfield index, 3)) (kk : W p l e R s m args below meth c H locs cells slots Q (F0 m (pc + 3) ls (.ref (ad 11) :: rest))) : W p l e R s m args below meth c H locs cells slots Q (F0 m pc ls (.ref (ad 5) :: rest)) :=
  g_get hC hY 5 (by omega) (ci := 2) (fs := mdF ad j th) rfl (q := (RX2, TX2, 17)) rfl hin 7 (by decide) hlink rfl hdg kk
theorem gtM_rents (hC : CallFix p m c cc nL s args Ts own) (hin : ∀ w ∈ wsX20, w ∈ Ts) (hY : SyS G ad σ n τ j th o od s H locs) {index : Nat} (hlink : Cond.fieldLink own index (TX2 8).1 (TX2 8).2.1 (TX2 8).2.2.1 ∈ Ts) (hdg : decode cc pc = .ok (.getfield index, 3)) (kk : W p l e R s m args below meth c H locs cells slots Q (F0 m (pc + 3) ls (.ref (ad 12) :: rest))) : W p l e R s m args below meth c H locs cells slots Q (F0 m pc ls (.ref (ad 5) :: rest)) :=
  g_get hC hY 5 (by omega) (ci := 2) (fs := mdF ad j th) rfl (q := (RX2, TX2, 17)) rfl hin 8 (by decide) hlink rfl hdg kk
theorem gtM_frees (hC : CallFix p m c cc nL s args Ts own) (hin : ∀ w ∈ wsX20, w ∈ Ts) (hY : SyS G ad σ n τ j th o od s H locs) {index : Nat} (hlink : Cond.fieldLink own index (TX2 9).1 (TX2 9).2.1 (TX2 9).2.2.1 ∈ Ts) (hdg : decode cc pc = .ok (.getfield index, 3)) (kk : W p l e R s m args below meth c H locs cells slots Q (F0 m (pc + 3) ls (.ref (ad 13) :: rest))) : W p l e R s m args below meth c H locs cells slots Q (F0 m pc ls (.ref (ad 5) :: rest)) :=
  g_get hC hY 5 (by omega) (ci := 2) (fs := mdF ad j th) rfl (q := (RX2, TX2, 17)) rfl hin 9 (by decide) hlink rfl hdg kk
theorem gtM_everies (hC : CallFix p m c cc nL s args Ts own) (hin : ∀ w ∈ wsX20, w ∈ Ts) (hY : SyS G ad σ n τ j th o od s H locs) {index : Nat} (hlink : Cond.fieldLink own index (TX2 10).1 (TX2 10).2.1 (TX2 10).2.2.1 ∈ Ts) (hdg : decode cc pc = .ok (.getfield index, 3)) (kk : W p l e R s m args below meth c H locs cells slots Q (F0 m (pc + 3) ls (.ref (ad 14) :: rest))) : W p l e R s m args below meth c H locs cells slots Q (F0 m pc ls (.ref (ad 5) :: rest)) :=
  g_get hC hY 5 (by omega) (ci := 2) (fs := mdF ad j th) rfl (q := (RX2, TX2, 17)) rfl hin 10 (by decide) hlink rfl hdg kk
theorem gtM_caps (hC : CallFix p m c cc nL s args Ts own) (hin : ∀ w ∈ wsX20, w ∈ Ts) (hY : SyS G ad σ n τ j th o od s H locs) {index : Nat} (hlink : Cond.fieldLink own index (TX2 11).1 (TX2 11).2.1 (TX2 11).2.2.1 ∈ Ts) (hdg : decode cc pc = .ok (.getfield index, 3)) (kk : W p l e R s m args below meth c H locs cells slots Q (F0 m (pc + 3) ls (.ref (ad 15) :: rest))) : W p l e R s m args below meth c H locs cells slots Q (F0 m pc ls (.ref (ad 5) :: rest)) :=
  g_get hC hY 5 (by omega) (ci := 2) (fs := mdF ad j th) rfl (q := (RX2, TX2, 17)) rfl hin 11 (by decide) hlink rfl hdg kk
theorem gtM_prepaids (hC : CallFix p m c cc nL s args Ts own) (hin : ∀ w ∈ wsX20, w ∈ Ts) (hY : SyS G ad σ n τ j th o od s H locs) {index : Nat} (hlink : Cond.fieldLink own index (TX2 12).1 (TX2 12).2.1 (TX2 12).2.2.1 ∈ Ts) (hdg : decode cc pc = .ok (.getfield index, 3)) (kk : W p l e R s m args below meth c H locs cells slots Q (F0 m (pc + 3) ls (.ref (ad 16) :: rest))) : W p l e R s m args below meth c H locs cells slots Q (F0 m pc ls (.ref (ad 5) :: rest)) :=
  g_get hC hY 5 (by omega) (ci := 2) (fs := mdF ad j th) rfl (q := (RX2, TX2, 17)) rfl hin 12 (by decide) hlink rfl hdg kk
theorem gtM_deposits (hC : CallFix p m c cc nL s args Ts own) (hin : ∀ w ∈ wsX20, w ∈ Ts) (hY : SyS G ad σ n τ j th o od s H locs) {index : Nat} (hlink : Cond.fieldLink own index (TX2 13).1 (TX2 13).2.1 (TX2 13).2.2.1 ∈ Ts) (hdg : decode cc pc = .ok (.getfield index, 3)) (kk : W p l e R s m args below meth c H locs cells slots Q (F0 m (pc + 3) ls (.ref (ad 17) :: rest))) : W p l e R s m args below meth c H locs cells slots Q (F0 m pc ls (.ref (ad 5) :: rest)) :=
  g_get hC hY 5 (by omega) (ci := 2) (fs := mdF ad j th) rfl (q := (RX2, TX2, 17)) rfl hin 13 (by decide) hlink rfl hdg kk
theorem gtM_steps (hC : CallFix p m c cc nL s args Ts own) (hin : ∀ w ∈ wsX20, w ∈ Ts) (hY : SyS G ad σ n τ j th o od s H locs) {index : Nat} (hlink : Cond.fieldLink own index (TX2 14).1 (TX2 14).2.1 (TX2 14).2.2.1 ∈ Ts) (hdg : decode cc pc = .ok (.getfield index, 3)) (kk : W p l e R s m args below meth c H locs cells slots Q (F0 m (pc + 3) ls (.ref (ad 18) :: rest))) : W p l e R s m args below meth c H locs cells slots Q (F0 m pc ls (.ref (ad 5) :: rest)) :=
  g_get hC hY 5 (by omega) (ci := 2) (fs := mdF ad j th) rfl (q := (RX2, TX2, 17)) rfl hin 14 (by decide) hlink rfl hdg kk
theorem gtM_stepDays (hC : CallFix p m c cc nL s args Ts own) (hin : ∀ w ∈ wsX20, w ∈ Ts) (hY : SyS G ad σ n τ j th o od s H locs) {index : Nat} (hlink : Cond.fieldLink own index (TX2 15).1 (TX2 15).2.1 (TX2 15).2.2.1 ∈ Ts) (hdg : decode cc pc = .ok (.getfield index, 3)) (kk : W p l e R s m args below meth c H locs cells slots Q (F0 m (pc + 3) ls (.ref (ad 19) :: rest))) : W p l e R s m args below meth c H locs cells slots Q (F0 m pc ls (.ref (ad 5) :: rest)) :=
  g_get hC hY 5 (by omega) (ci := 2) (fs := mdF ad j th) rfl (q := (RX2, TX2, 17)) rfl hin 15 (by decide) hlink rfl hdg kk
theorem gtM_stepRents (hC : CallFix p m c cc nL s args Ts own) (hin : ∀ w ∈ wsX20, w ∈ Ts) (hY : SyS G ad σ n τ j th o od s H locs) {index : Nat} (hlink : Cond.fieldLink own index (TX2 16).1 (TX2 16).2.1 (TX2 16).2.2.1 ∈ Ts) (hdg : decode cc pc = .ok (.getfield index, 3)) (kk : W p l e R s m args below meth c H locs cells slots Q (F0 m (pc + 3) ls (.ref (ad 20) :: rest))) : W p l e R s m args below meth c H locs cells slots Q (F0 m pc ls (.ref (ad 5) :: rest)) :=
  g_get hC hY 5 (by omega) (ci := 2) (fs := mdF ad j th) rfl (q := (RX2, TX2, 17)) rfl hin 16 (by decide) hlink rfl hdg kk
theorem ptM_thrown (hC : CallFix p m c cc nL s args Ts own) (hin : ∀ w ∈ wsX20, w ∈ Ts) (hY : SyS G ad σ n τ j th o od s H locs) {index : Nat} (hlink : Cond.fieldLink own index (TX2 0).1 (TX2 0).2.1 (TX2 0).2.2.1 ∈ Ts) {x : Int32} (hdg : decode cc pc = .ok (.putfield index, 3)) (kk : ∀ (H1 : Heap) (locs1 : List Loc), SyS G ad σ n τ j x o od s H1 locs1 → W p l e R s m args below meth c H1 locs1 cells slots Q (F0 m (pc + 3) ls (rest))) : W p l e R s m args below meth c H locs cells slots Q (F0 m pc ls (.int x :: .ref (ad 5) :: rest)) :=
  g_put hC hY 5 (by omega) (ci := 2) (fs := mdF ad j th) rfl (q := (RX2, TX2, 17)) rfl hin tyX2 tyX2_ok nmX2 0 (by decide) hlink (Or.inl rfl) rfl rfl (Nat.le_of_ble_eq_true rfl) hdg (fun H1 locs1 h => kk H1 locs1 (by rw [upTh] at h; exact h))
theorem ptM_leases (hC : CallFix p m c cc nL s args Ts own) (hin : ∀ w ∈ wsX20, w ∈ Ts) (hY : SyS G ad σ n τ j th o od s H locs) {index : Nat} (hlink : Cond.fieldLink own index (TX2 4).1 (TX2 4).2.1 (TX2 4).2.2.1 ∈ Ts) {j' : Nat} (hdg : decode cc pc = .ok (.putfield index, 3)) (kk : ∀ (H1 : Heap) (locs1 : List Loc), SyS G ad σ n τ j' th o od s H1 locs1 → W p l e R s m args below meth c H1 locs1 cells slots Q (F0 m (pc + 3) ls (rest))) : W p l e R s m args below meth c H locs cells slots Q (F0 m pc ls (.int (nI j') :: .ref (ad 5) :: rest)) :=
  g_put hC hY 5 (by omega) (ci := 2) (fs := mdF ad j th) rfl (q := (RX2, TX2, 17)) rfl hin tyX2 tyX2_ok nmX2 4 (by decide) hlink (Or.inl rfl) rfl rfl (Nat.le_of_ble_eq_true rfl) hdg (fun H1 locs1 h => kk H1 locs1 (by rw [upJ] at h; exact h))
end GS
end
section
/-! branches by the ints behind; small facts of Int32 -/
section GBR
variable {p : Program} {l : Launch} {e : Env} {R : Room} {s : State} {m : MethodId} {args : Array Value} {below : List Frame} {meth : Method} {c : Code} {H : Heap} {locs : List Loc} {cells slots : Nat} {Q : State → Prop} {cc : ByteArray} {pc : Nat} {ls : Array Slot} {rest : List Value}
theorem b_icmp_eq (hexec : p.tables.exec = Jvm.exec) (hb : c.code = cc) {x y : Int32} {off : Int} {tgt : Nat} (hdg : decode cc pc = .ok (.if_icmp .eq off, 3)) (ht : (pc : Int) + off = (tgt : Int)) (kt : x.toInt = y.toInt → W p l e R s m args below meth c H locs cells slots Q (F0 m tgt ls (rest))) (kf : ¬ x.toInt = y.toInt → W p l e R s m args below meth c H locs cells slots Q (F0 m (pc + 3) ls (rest))) : W p l e R s m args below meth c H locs cells slots Q (F0 m pc ls (.int y :: .int x :: rest)) :=
  lv_icmp_eq hexec hb hdg ht (fun h => kt (congrArg Int32.toInt h)) (fun h => kf (fun q => h (Int32.toInt_inj.mp q)))
theorem b_if_eq (hexec : p.tables.exec = Jvm.exec) (hb : c.code = cc) {x : Int32} {off : Int} {tgt : Nat} (hdg : decode cc pc = .ok (.ifCond .eq off, 3)) (ht : (pc : Int) + off = (tgt : Int)) (kt : x.toInt = 0 → W p l e R s m args below meth c H locs cells slots Q (F0 m tgt ls (rest))) (kf : ¬ x.toInt = 0 → W p l e R s m args below meth c H locs cells slots Q (F0 m (pc + 3) ls (rest))) : W p l e R s m args below meth c H locs cells slots Q (F0 m pc ls (.int x :: rest)) :=
  lv_if_eq hexec hb hdg ht (fun h => kt (congrArg Int32.toInt h)) (fun h => kf (fun q => h (Int32.toInt_inj.mp q)))
theorem b_icmp_ne (hexec : p.tables.exec = Jvm.exec) (hb : c.code = cc) {x y : Int32} {off : Int} {tgt : Nat} (hdg : decode cc pc = .ok (.if_icmp .ne off, 3)) (ht : (pc : Int) + off = (tgt : Int)) (kt : ¬ x.toInt = y.toInt → W p l e R s m args below meth c H locs cells slots Q (F0 m tgt ls (rest))) (kf : x.toInt = y.toInt → W p l e R s m args below meth c H locs cells slots Q (F0 m (pc + 3) ls (rest))) : W p l e R s m args below meth c H locs cells slots Q (F0 m pc ls (.int y :: .int x :: rest)) :=
  lv_icmp_ne hexec hb hdg ht (fun h => kt (fun q => h (Int32.toInt_inj.mp q))) (fun h => kf (congrArg Int32.toInt h))
theorem b_if_ne (hexec : p.tables.exec = Jvm.exec) (hb : c.code = cc) {x : Int32} {off : Int} {tgt : Nat} (hdg : decode cc pc = .ok (.ifCond .ne off, 3)) (ht : (pc : Int) + off = (tgt : Int)) (kt : ¬ x.toInt = 0 → W p l e R s m args below meth c H locs cells slots Q (F0 m tgt ls (rest))) (kf : x.toInt = 0 → W p l e R s m args below meth c H locs cells slots Q (F0 m (pc + 3) ls (rest))) : W p l e R s m args below meth c H locs cells slots Q (F0 m pc ls (.int x :: rest)) :=
  lv_if_ne hexec hb hdg ht (fun h => kt (fun q => h (Int32.toInt_inj.mp q))) (fun h => kf (congrArg Int32.toInt h))
theorem b_icmp_lt (hexec : p.tables.exec = Jvm.exec) (hb : c.code = cc) {x y : Int32} {off : Int} {tgt : Nat} (hdg : decode cc pc = .ok (.if_icmp .lt off, 3)) (ht : (pc : Int) + off = (tgt : Int)) (kt : x.toInt < y.toInt → W p l e R s m args below meth c H locs cells slots Q (F0 m tgt ls (rest))) (kf : y.toInt ≤ x.toInt → W p l e R s m args below meth c H locs cells slots Q (F0 m (pc + 3) ls (rest))) : W p l e R s m args below meth c H locs cells slots Q (F0 m pc ls (.int y :: .int x :: rest)) :=
  lv_icmp_lt hexec hb hdg ht (fun h => kt (Int32.lt_iff_toInt_lt.mp h)) (fun h => kf (Int.not_lt.mp (fun q => h (Int32.lt_iff_toInt_lt.mpr q))))
theorem b_if_lt (hexec : p.tables.exec = Jvm.exec) (hb : c.code = cc) {x : Int32} {off : Int} {tgt : Nat} (hdg : decode cc pc = .ok (.ifCond .lt off, 3)) (ht : (pc : Int) + off = (tgt : Int)) (kt : x.toInt < 0 → W p l e R s m args below meth c H locs cells slots Q (F0 m tgt ls (rest))) (kf : 0 ≤ x.toInt → W p l e R s m args below meth c H locs cells slots Q (F0 m (pc + 3) ls (rest))) : W p l e R s m args below meth c H locs cells slots Q (F0 m pc ls (.int x :: rest)) :=
  lv_if_lt hexec hb hdg ht (fun h => kt (Int32.lt_iff_toInt_lt.mp h)) (fun h => kf (Int.not_lt.mp (fun q => h (Int32.lt_iff_toInt_lt.mpr q))))
theorem b_icmp_ge (hexec : p.tables.exec = Jvm.exec) (hb : c.code = cc) {x y : Int32} {off : Int} {tgt : Nat} (hdg : decode cc pc = .ok (.if_icmp .ge off, 3)) (ht : (pc : Int) + off = (tgt : Int)) (kt : y.toInt ≤ x.toInt → W p l e R s m args below meth c H locs cells slots Q (F0 m tgt ls (rest))) (kf : x.toInt < y.toInt → W p l e R s m args below meth c H locs cells slots Q (F0 m (pc + 3) ls (rest))) : W p l e R s m args below meth c H locs cells slots Q (F0 m pc ls (.int y :: .int x :: rest)) :=
  lv_icmp_ge hexec hb hdg ht (fun h => kt (Int32.le_iff_toInt_le.mp h)) (fun h => kf (Int.not_le.mp (fun q => h (Int32.le_iff_toInt_le.mpr q))))
theorem b_if_ge (hexec : p.tables.exec = Jvm.exec) (hb : c.code = cc) {x : Int32} {off : Int} {tgt : Nat} (hdg : decode cc pc = .ok (.ifCond .ge off, 3)) (ht : (pc : Int) + off = (tgt : Int)) (kt : 0 ≤ x.toInt → W p l e R s m args below meth c H locs cells slots Q (F0 m tgt ls (rest))) (kf : x.toInt < 0 → W p l e R s m args below meth c H locs cells slots Q (F0 m (pc + 3) ls (rest))) : W p l e R s m args below meth c H locs cells slots Q (F0 m pc ls (.int x :: rest)) :=
  lv_if_ge hexec hb hdg ht (fun h => kt (Int32.le_iff_toInt_le.mp h)) (fun h => kf (Int.not_le.mp (fun q => h (Int32.le_iff_toInt_le.mpr q))))
theorem b_icmp_gt (hexec : p.tables.exec = Jvm.exec) (hb : c.code = cc) {x y : Int32} {off : Int} {tgt : Nat} (hdg : decode cc pc = .ok (.if_icmp .gt off, 3)) (ht : (pc : Int) + off = (tgt : Int)) (kt : y.toInt < x.toInt → W p l e R s m args below meth c H locs cells slots Q (F0 m tgt ls (rest))) (kf : x.toInt ≤ y.toInt → W p l e R s m args below meth c H locs cells slots Q (F0 m (pc + 3) ls (rest))) : W p l e R s m args below meth c H locs cells slots Q (F0 m pc ls (.int y :: .int x :: rest)) :=
  lv_icmp_gt hexec hb hdg ht (fun h => kt (Int32.lt_iff_toInt_lt.mp h)) (fun h => kf (Int.not_lt.mp (fun q => h (Int32.lt_iff_toInt_lt.mpr q))))
theorem b_if_gt (hexec : p.tables.exec = Jvm.exec) (hb : c.code = cc) {x : Int32} {off : Int} {tgt : Nat} (hdg : decode cc pc = .ok (.ifCond .gt off, 3)) (ht : (pc : Int) + off = (tgt : Int)) (kt : 0 < x.toInt → W p l e R s m args below meth c H locs cells slots Q (F0 m tgt ls (rest))) (kf : x.toInt ≤ 0 → W p l e R s m args below meth c H locs cells slots Q (F0 m (pc + 3) ls (rest))) : W p l e R s m args below meth c H locs cells slots Q (F0 m pc ls (.int x :: rest)) :=
  lv_if_gt hexec hb hdg ht (fun h => kt (Int32.lt_iff_toInt_lt.mp h)) (fun h => kf (Int.not_lt.mp (fun q => h (Int32.lt_iff_toInt_lt.mpr q))))
theorem b_icmp_le (hexec : p.tables.exec = Jvm.exec) (hb : c.code = cc) {x y : Int32} {off : Int} {tgt : Nat} (hdg : decode cc pc = .ok (.if_icmp .le off, 3)) (ht : (pc : Int) + off = (tgt : Int)) (kt : x.toInt ≤ y.toInt → W p l e R s m args below meth c H locs cells slots Q (F0 m tgt ls (rest))) (kf : y.toInt < x.toInt → W p l e R s m args below meth c H locs cells slots Q (F0 m (pc + 3) ls (rest))) : W p l e R s m args below meth c H locs cells slots Q (F0 m pc ls (.int y :: .int x :: rest)) :=
  lv_icmp_le hexec hb hdg ht (fun h => kt (Int32.le_iff_toInt_le.mp h)) (fun h => kf (Int.not_le.mp (fun q => h (Int32.le_iff_toInt_le.mpr q))))
theorem b_if_le (hexec : p.tables.exec = Jvm.exec) (hb : c.code = cc) {x : Int32} {off : Int} {tgt : Nat} (hdg : decode cc pc = .ok (.ifCond .le off, 3)) (ht : (pc : Int) + off = (tgt : Int)) (kt : x.toInt ≤ 0 → W p l e R s m args below meth c H locs cells slots Q (F0 m tgt ls (rest))) (kf : 0 < x.toInt → W p l e R s m args below meth c H locs cells slots Q (F0 m (pc + 3) ls (rest))) : W p l e R s m args below meth c H locs cells slots Q (F0 m pc ls (.int x :: rest)) :=
  lv_if_le hexec hb hdg ht (fun h => kt (Int32.le_iff_toInt_le.mp h)) (fun h => kf (Int.not_le.mp (fun q => h (Int32.le_iff_toInt_le.mpr q))))
end GBR
theorem i_bnd (x : Int32) : -2147483648 ≤ x.toInt ∧ x.toInt < 2147483648 := by
  have h1 := Int32.le_toInt x
  have h2 := Int32.toInt_lt x
  exact ⟨by simpa using h1, by simpa using h2⟩
theorem i_bmod {z : Int} (h : -2147483648 ≤ z ∧ z < 2147483648) : z.bmod (2 ^ 32) = z := by
  rw [Int.bmod_def]
  split <;> omega
theorem i_add {x y : Int32} (h : -2147483648 ≤ x.toInt + y.toInt ∧ x.toInt + y.toInt < 2147483648) : (x + y).toInt = x.toInt + y.toInt := by
  rw [Int32.toInt_add]; exact i_bmod h
theorem i_sub {x y : Int32} (h : -2147483648 ≤ x.toInt - y.toInt ∧ x.toInt - y.toInt < 2147483648) : (x - y).toInt = x.toInt - y.toInt := by
  rw [Int32.toInt_sub]; exact i_bmod h
theorem i_mul {x y : Int32} (h : -2147483648 ≤ x.toInt * y.toInt ∧ x.toInt * y.toInt < 2147483648) : (x * y).toInt = x.toInt * y.toInt := by
  rw [Int32.toInt_mul]; exact i_bmod h
theorem i_div {x y : Int32} (hy : y.toInt ≠ -1) : (x / y).toInt = x.toInt.tdiv y.toInt := Int32.toInt_div_of_ne_right x y (fun h => hy (by rw [h]; rfl))
theorem i_nI {k : Nat} (h : k < 2147483648) : (nI k).toInt = (k : Int) := nI_toInt (by simpa using h)
theorem i_ixnI {k : Nat} (h : k < 2147483648) : ix (nI k) = k := nI_clamp (by simpa using h)
theorem i_ext {x y : Int32} (h : x.toInt = y.toInt) : x = y := Int32.toInt_inj.mp h
theorem i_ix {x : Int32} {k : Nat} (h : x.toInt = (k : Int)) : ix x = k := by
  have h1 := ix_toInt (i := x) (by omega)
  omega
theorem i_eqnI {x : Int32} {k : Nat} (h : x.toInt = (k : Int)) : x = nI k := by
  have hb := i_bnd x
  exact i_ext (by rw [h, i_nI (by omega)])
section GLP
variable {p : Program} {l : Launch} {e : Env} {R : Room} {s : State} {m : MethodId} {args : Array Value} {below : List Frame} {meth : Method} {c : Code} {cells slots : Nat} {Q : State → Prop} {pc : Nat}
/-- a loop: I holds at its head at turn i; it has at most B turns -/
theorem w_loop {X : Type} (I : Nat → X → Heap → List Loc → Array Slot → Prop) (B : Nat)
    (hs : ∀ (i : Nat) (x : X) (H : Heap) (locs : List Loc) (ls : Array Slot), I i x H locs ls → (∀ (x' : X) (H' : Heap) (locs' : List Loc) (ls' : Array Slot), I (i + 1) x' H' locs' ls' → W p l e R s m args below meth c H' locs' cells slots Q (F0 m pc ls' [])) → W p l e R s m args below meth c H locs cells slots Q (F0 m pc ls []))
    (hb : ∀ (i : Nat) (x : X) (H : Heap) (locs : List Loc) (ls : Array Slot), I i x H locs ls → i ≤ B) (x : X) {H : Heap} {locs : List Loc} {ls : Array Slot} (h0 : I 0 x H locs ls) : W p l e R s m args below meth c H locs cells slots Q (F0 m pc ls []) := by
  have key : ∀ (f i : Nat) (x : X) (H : Heap) (locs : List Loc) (ls : Array Slot), B < i + f → I i x H locs ls → W p l e R s m args below meth c H locs cells slots Q (F0 m pc ls []) := by
    intro f
    induction f with
    | zero => intro i x H locs ls hf hI; have := hb i x H locs ls hI; omega
    | succ f ih => intro i x H locs ls hf hI; exact hs i x H locs ls hI (fun x' H' locs' ls' hI' => ih (i + 1) x' H' locs' ls' (by omega) hI')
  exact key (B + 1) 0 x H locs ls (by omega) h0
end GLP
end
section
/-! the lease's own methods -/
abbrev rOn (σ : St) (k : Nat) (d : Int32) : Prop := (σ 4 k).toInt ≤ d.toInt ∧ d.toInt < (σ 5 k).toInt
set_option maxHeartbeats 4000000 in
set_option maxRecDepth 100000 in
theorem c_X0_runsOn (l : Launch) (G : GG) (ad : Nat → Nat) (σ : St) (n : Nat) (τ : St) (j : Nat) (th : Int32) (o : OL) (od : OD) (k : Nat) (hk : k < n) (p0 : Int32) : Met l yX0_runsOn wsX0_runsOn ({ frames := 0, cells := 0, slots := 0, locals := 0 }) (PcS G ad σ n τ j th o od [.ref (ad (3 * k + 23)), .int p0]) (Qi G (3 * n + 23) ad (ctS G ad σ n τ j th o od) (fun r => (r = 1 ∧ rOn σ k p0) ∨ (r = 0 ∧ ¬ rOn σ k p0))) 0 0 (gF G) := by
  refine Met.ofW (cc := cX0_runsOn) (maxL := 2) (ret := (some .boolean)) (by decide) rfl ?_
  intro p e s m args below meth c s₁ B hml hv
  obtain ⟨rfl, hY⟩ := hv
  have hts := atoms_spec (ws := wsX0_runsOn) B.pre
  have hC : CallFix p m c cX0_runsOn 2 s _ wsX0_runsOn RX0 := ⟨B.exec, B.bytes, hml, findClass_of_methodNamed B.named, hts⟩
  have hx := hC.1
  have hb := hC.2.1
  have hr := B.returns
  have hlocks := B.notSynchronized
  have hin0 : ∀ w ∈ wsX00, w ∈ wsX0_runsOn := by decide +kernel
  have hl := lv_entry ([.ref (ad (3 * k + 23)), .int p0]) (n := 2) (Nat.le_of_ble_eq_true rfl)
  rw [lg_entry_eq]
  generalize (lg_sl ([.ref (ad (3 * k + 23)), .int p0]) ++ List.replicate (2 - (lg_sl ([.ref (ad (3 * k + 23)), .int p0])).length) Slot.unset).toArray = ls at hl ⊢
  have hl : lv_has ls 2 [(0, .ref (ad (3 * k + 23))), (1, .int p0)] := hl
  refine lv_iload_n hx hb dX0_runsOn_0 rfl (lv_at hl 1 rfl) ?_
  refine lv_aload_n hx hb dX0_runsOn_1 rfl (lv_at hl 0 rfl) ?_
  refine gtL_from hC hin0 hY (k := k) hk (by decide +kernel) dX0_runsOn_2 ?_
  refine b_icmp_lt (tgt := 20) hx hb dX0_runsOn_5 (by decide) (fun (h1 : p0.toInt < (σ 4 k).toInt) => ?_) (fun (h1 : (σ 4 k).toInt ≤ p0.toInt) => ?_)
  · refine lv_iconst (v := 0) hx hb dX0_runsOn_20 (by decide) ?_
    exact g_zret hC hr hlocks rfl hY ⟨Nat.le_of_ble_eq_true rfl, Nat.le_of_ble_eq_true rfl⟩ dX0_runsOn_21 (Or.inr ⟨rfl, by intro q; have := q.1; have := q.2; omega⟩)
  · refine lv_iload_n hx hb dX0_runsOn_8 rfl (lv_at hl 1 rfl) ?_
    refine lv_aload_n hx hb dX0_runsOn_9 rfl (lv_at hl 0 rfl) ?_
    refine gtL_to hC hin0 hY (k := k) hk (by decide +kernel) dX0_runsOn_10 ?_
    refine b_icmp_ge (tgt := 20) hx hb dX0_runsOn_13 (by decide) (fun (h2 : (σ 5 k).toInt ≤ p0.toInt) => ?_) (fun (h2 : p0.toInt < (σ 5 k).toInt) => ?_)
    · refine lv_iconst (v := 0) hx hb dX0_runsOn_20 (by decide) ?_
      exact g_zret hC hr hlocks rfl hY ⟨Nat.le_of_ble_eq_true rfl, Nat.le_of_ble_eq_true rfl⟩ dX0_runsOn_21 (Or.inr ⟨rfl, by intro q; have := q.1; have := q.2; omega⟩)
    · refine lv_iconst (v := 1) hx hb dX0_runsOn_16 (by decide) ?_
      refine lv_goto (tgt := 21) hx hb dX0_runsOn_17 (by decide) ?_
      exact g_zret hC hr hlocks rfl hY ⟨Nat.le_of_ble_eq_true rfl, Nat.le_of_ble_eq_true rfl⟩ dX0_runsOn_21 (Or.inl ⟨rfl, by omega, by omega⟩)

abbrev fOn (σ : St) (k : Nat) (d : Int32) : Prop := d.toInt < (σ 4 k + σ 7 k).toInt
set_option maxHeartbeats 4000000 in
set_option maxRecDepth 100000 in
theorem c_X0_isFreeOn (l : Launch) (G : GG) (ad : Nat → Nat) (σ : St) (n : Nat) (τ : St) (j : Nat) (th : Int32) (o : OL) (od : OD) (k : Nat) (hk : k < n) (p0 : Int32) : Met l yX0_isFreeOn wsX0_isFreeOn ({ frames := 0, cells := 0, slots := 0, locals := 0 }) (PcS G ad σ n τ j th o od [.ref (ad (3 * k + 23)), .int p0]) (Qi G (3 * n + 23) ad (ctS G ad σ n τ j th o od) (fun r => (r = 1 ∧ fOn σ k p0) ∨ (r = 0 ∧ ¬ fOn σ k p0))) 0 0 (gF G) := by
  refine Met.ofW (cc := cX0_isFreeOn) (maxL := 2) (ret := (some .boolean)) (by decide) rfl ?_
  intro p e s m args below meth c s₁ B hml hv
  obtain ⟨rfl, hY⟩ := hv
  have hts := atoms_spec (ws := wsX0_isFreeOn) B.pre
  have hC : CallFix p m c cX0_isFreeOn 2 s _ wsX0_isFreeOn RX0 := ⟨B.exec, B.bytes, hml, findClass_of_methodNamed B.named, hts⟩
  have hx := hC.1
  have hb := hC.2.1
  have hr := B.returns
  have hlocks := B.notSynchronized
  have hin0 : ∀ w ∈ wsX00, w ∈ wsX0_isFreeOn := by decide +kernel
  have hl := lv_entry ([.ref (ad (3 * k + 23)), .int p0]) (n := 2) (Nat.le_of_ble_eq_true rfl)
  rw [lg_entry_eq]
  generalize (lg_sl ([.ref (ad (3 * k + 23)), .int p0]) ++ List.replicate (2 - (lg_sl ([.ref (ad (3 * k + 23)), .int p0])).length) Slot.unset).toArray = ls at hl ⊢
  have hl : lv_has ls 2 [(0, .ref (ad (3 * k + 23))), (1, .int p0)] := hl
  refine lv_iload_n hx hb dX0_isFreeOn_0 rfl (lv_at hl 1 rfl) ?_
  refine lv_aload_n hx hb dX0_isFreeOn_1 rfl (lv_at hl 0 rfl) ?_
  refine gtL_from hC hin0 hY (k := k) hk (by decide +kernel) dX0_isFreeOn_2 ?_
  refine lv_aload_n hx hb dX0_isFreeOn_5 rfl (lv_at hl 0 rfl) ?_
  refine gtL_free hC hin0 hY (k := k) hk (by decide +kernel) dX0_isFreeOn_6 ?_
  refine lv_iadd hx hb dX0_isFreeOn_9 ?_
  refine b_icmp_ge (tgt := 17) hx hb dX0_isFreeOn_10 (by decide) (fun (h1 : ((σ 4 k) + (σ 7 k)).toInt ≤ p0.toInt) => ?_) (fun (h1 : p0.toInt < ((σ 4 k) + (σ 7 k)).toInt) => ?_)
  · refine lv_iconst (v := 0) hx hb dX0_isFreeOn_17 (by decide) ?_
    exact g_zret hC hr hlocks rfl hY ⟨Nat.le_of_ble_eq_true rfl, Nat.le_of_ble_eq_true rfl⟩ dX0_isFreeOn_18 (Or.inr ⟨rfl, by intro q; have q : p0.toInt < (σ 4 k + σ 7 k).toInt := q; omega⟩)
  · refine lv_iconst (v := 1) hx hb dX0_isFreeOn_13 (by decide) ?_
    refine lv_goto (tgt := 18) hx hb dX0_isFreeOn_14 (by decide) ?_
    exact g_zret hC hr hlocks rfl hY ⟨Nat.le_of_ble_eq_true rfl, Nat.le_of_ble_eq_true rfl⟩ dX0_isFreeOn_18 (Or.inl ⟨rfl, by omega⟩)

def soF (d x t : Int32) : Int32 := if d.toInt < x.toInt ∧ x.toInt < t.toInt then x else t
set_option maxHeartbeats 4000000 in
set_option maxRecDepth 100000 in
theorem c_X0_sooner (l : Launch) (G : GG) (ad : Nat → Nat) (σ : St) (n : Nat) (τ : St) (j : Nat) (th : Int32) (o : OL) (od : OD) (p0 p1 p2 : Int32) : Met l yX0_sooner wsX0_sooner ({ frames := 0, cells := 0, slots := 0, locals := 0 }) (PcS G ad σ n τ j th o od [.int p0, .int p1, .int p2]) (Qi G (3 * n + 23) ad (ctS G ad σ n τ j th o od) (fun r => r = soF p0 p1 p2)) 0 0 (gF G) := by
  refine Met.ofW (cc := cX0_sooner) (maxL := 3) (ret := (some .int)) (by decide) rfl ?_
  intro p e s m args below meth c s₁ B hml hv
  obtain ⟨rfl, hY⟩ := hv
  have hts := atoms_spec (ws := wsX0_sooner) B.pre
  have hC : CallFix p m c cX0_sooner 3 s _ wsX0_sooner RX0 := ⟨B.exec, B.bytes, hml, findClass_of_methodNamed B.named, hts⟩
  have hx := hC.1
  have hb := hC.2.1
  have hr := B.returns
  have hlocks := B.notSynchronized
  have hl := lv_entry ([.int p0, .int p1, .int p2]) (n := 3) (Nat.le_of_ble_eq_true rfl)
  rw [lg_entry_eq]
  generalize (lg_sl ([.int p0, .int p1, .int p2]) ++ List.replicate (3 - (lg_sl ([.int p0, .int p1, .int p2])).length) Slot.unset).toArray = ls at hl ⊢
  have hl : lv_has ls 3 [(0, .int p0), (1, .int p1), (2, .int p2)] := hl
  refine lv_iload_n hx hb dX0_sooner_0 rfl (lv_at hl 1 rfl) ?_
  refine lv_iload_n hx hb dX0_sooner_1 rfl (lv_at hl 0 rfl) ?_
  refine b_icmp_le (tgt := 14) hx hb dX0_sooner_2 (by decide) (fun (h1 : p1.toInt ≤ p0.toInt) => ?_) (fun (h1 : p0.toInt < p1.toInt) => ?_)
  · refine lv_iload_n hx hb dX0_sooner_14 rfl (lv_at hl 2 rfl) ?_
    exact g_iret hC hr hlocks hY ⟨Nat.le_of_ble_eq_true rfl, Nat.le_of_ble_eq_true rfl⟩ dX0_sooner_15 ((if_neg (by intro q; have := q.1; have := q.2; omega)).symm)
  · refine lv_iload_n hx hb dX0_sooner_5 rfl (lv_at hl 1 rfl) ?_
    refine lv_iload_n hx hb dX0_sooner_6 rfl (lv_at hl 2 rfl) ?_
    refine b_icmp_ge (tgt := 14) hx hb dX0_sooner_7 (by decide) (fun (h2 : p2.toInt ≤ p1.toInt) => ?_) (fun (h2 : p1.toInt < p2.toInt) => ?_)
    · refine lv_iload_n hx hb dX0_sooner_14 rfl (lv_at hl 2 rfl) ?_
      exact g_iret hC hr hlocks hY ⟨Nat.le_of_ble_eq_true rfl, Nat.le_of_ble_eq_true rfl⟩ dX0_sooner_15 ((if_neg (by intro q; have := q.1; have := q.2; omega)).symm)
    · refine lv_iload_n hx hb dX0_sooner_10 rfl (lv_at hl 1 rfl) ?_
      refine lv_goto (tgt := 15) hx hb dX0_sooner_11 (by decide) ?_
      exact g_iret hC hr hlocks hY ⟨Nat.le_of_ble_eq_true rfl, Nat.le_of_ble_eq_true rfl⟩ dX0_sooner_15 ((if_pos ⟨by omega, by omega⟩).symm)

def rvF (σ : St) (k : Nat) (d : Int32) : Int32 := if 0 < (σ 8 k).toInt ∧ (σ 4 k).toInt < d.toInt then (d - σ 4 k) / σ 8 k else 0
set_option maxHeartbeats 4000000 in
set_option maxRecDepth 100000 in
theorem c_X0_reviewsUpTo (l : Launch) (G : GG) (ad : Nat → Nat) (σ : St) (n : Nat) (τ : St) (j : Nat) (th : Int32) (o : OL) (od : OD) (k : Nat) (hk : k < n) (p0 : Int32) : Met l yX0_reviewsUpTo wsX0_reviewsUpTo ({ frames := 0, cells := 0, slots := 0, locals := 0 }) (PcS G ad σ n τ j th o od [.ref (ad (3 * k + 23)), .int p0]) (Qi G (3 * n + 23) ad (ctS G ad σ n τ j th o od) (fun r => r = rvF σ k p0)) 0 0 (gF G) := by
  refine Met.ofW (cc := cX0_reviewsUpTo) (maxL := 2) (ret := (some .int)) (by decide) rfl ?_
  intro p e s m args below meth c s₁ B hml hv
  obtain ⟨rfl, hY⟩ := hv
  have hts := atoms_spec (ws := wsX0_reviewsUpTo) B.pre
  have hC : CallFix p m c cX0_reviewsUpTo 2 s _ wsX0_reviewsUpTo RX0 := ⟨B.exec, B.bytes, hml, findClass_of_methodNamed B.named, hts⟩
  have hx := hC.1
  have hb := hC.2.1
  have hr := B.returns
  have hlocks := B.notSynchronized
  have hin0 : ∀ w ∈ wsX00, w ∈ wsX0_reviewsUpTo := by decide +kernel
  have hl := lv_entry ([.ref (ad (3 * k + 23)), .int p0]) (n := 2) (Nat.le_of_ble_eq_true rfl)
  rw [lg_entry_eq]
  generalize (lg_sl ([.ref (ad (3 * k + 23)), .int p0]) ++ List.replicate (2 - (lg_sl ([.ref (ad (3 * k + 23)), .int p0])).length) Slot.unset).toArray = ls at hl ⊢
  have hl : lv_has ls 2 [(0, .ref (ad (3 * k + 23))), (1, .int p0)] := hl
  refine lv_aload_n hx hb dX0_reviewsUpTo_0 rfl (lv_at hl 0 rfl) ?_
  refine gtL_every hC hin0 hY (k := k) hk (by decide +kernel) dX0_reviewsUpTo_1 ?_
  refine b_if_le (tgt := 29) hx hb dX0_reviewsUpTo_4 (by decide) (fun (h1 : (σ 8 k).toInt ≤ 0) => ?_) (fun (h1 : 0 < (σ 8 k).toInt) => ?_)
  · refine lv_iconst (v := 0) hx hb dX0_reviewsUpTo_29 (by decide) ?_
    exact g_iret hC hr hlocks hY ⟨Nat.le_of_ble_eq_true rfl, Nat.le_of_ble_eq_true rfl⟩ dX0_reviewsUpTo_30 ((if_neg (by intro q; have := q.1; have := q.2; omega)).symm)
  · refine lv_iload_n hx hb dX0_reviewsUpTo_7 rfl (lv_at hl 1 rfl) ?_
    refine lv_aload_n hx hb dX0_reviewsUpTo_8 rfl (lv_at hl 0 rfl) ?_
    refine gtL_from hC hin0 hY (k := k) hk (by decide +kernel) dX0_reviewsUpTo_9 ?_
    refine b_icmp_le (tgt := 29) hx hb dX0_reviewsUpTo_12 (by decide) (fun (h2 : p0.toInt ≤ (σ 4 k).toInt) => ?_) (fun (h2 : (σ 4 k).toInt < p0.toInt) => ?_)
    · refine lv_iconst (v := 0) hx hb dX0_reviewsUpTo_29 (by decide) ?_
      exact g_iret hC hr hlocks hY ⟨Nat.le_of_ble_eq_true rfl, Nat.le_of_ble_eq_true rfl⟩ dX0_reviewsUpTo_30 ((if_neg (by intro q; have := q.1; have := q.2; omega)).symm)
    · refine lv_iload_n hx hb dX0_reviewsUpTo_15 rfl (lv_at hl 1 rfl) ?_
      refine lv_aload_n hx hb dX0_reviewsUpTo_16 rfl (lv_at hl 0 rfl) ?_
      refine gtL_from hC hin0 hY (k := k) hk (by decide +kernel) dX0_reviewsUpTo_17 ?_
      refine lv_isub hx hb dX0_reviewsUpTo_20 ?_
      refine lv_aload_n hx hb dX0_reviewsUpTo_21 rfl (lv_at hl 0 rfl) ?_
      refine gtL_every hC hin0 hY (k := k) hk (by decide +kernel) dX0_reviewsUpTo_22 ?_
      refine lv_idiv hx hb dX0_reviewsUpTo_25 (by intro q; rw [q] at h1; revert h1; decide) ?_
      refine lv_goto (tgt := 30) hx hb dX0_reviewsUpTo_26 (by decide) ?_
      exact g_iret hC hr hlocks hY ⟨Nat.le_of_ble_eq_true rfl, Nat.le_of_ble_eq_true rfl⟩ dX0_reviewsUpTo_30 ((if_pos ⟨by omega, by omega⟩).symm)

def mxF (x y : Int32) : Int32 := if x < y then y else x
def mnF (x y : Int32) : Int32 := if y < x then y else x
def dwF (σ : St) (k : Nat) (a b : Int32) : Int32 := mxF 0 (mnF (σ 5 k) b - mxF (σ 4 k) a)
set_option maxHeartbeats 4000000 in
set_option maxRecDepth 100000 in
theorem c_X0_daysWithin (l : Launch) (G : GG) (ad : Nat → Nat) (σ : St) (n : Nat) (τ : St) (j : Nat) (th : Int32) (o : OL) (od : OD) (k : Nat) (hk : k < n) (p0 p1 : Int32) : Met l yX0_daysWithin wsX0_daysWithin ({ frames := 1, cells := 0, slots := 0, locals := 16 }) (PcS G ad σ n τ j th o od [.ref (ad (3 * k + 23)), .int p0, .int p1]) (Qi G (3 * n + 23) ad (ctS G ad σ n τ j th o od) (fun r => r = dwF σ k p0 p1)) 0 0 (gF G) := by
  refine Met.ofW (cc := cX0_daysWithin) (maxL := 3) (ret := (some .int)) (by decide) rfl ?_
  intro p e s m args below meth c s₁ B hml hv
  obtain ⟨rfl, hY⟩ := hv
  have hts := atoms_spec (ws := wsX0_daysWithin) B.pre
  have hC : CallFix p m c cX0_daysWithin 3 s _ wsX0_daysWithin RX0 := ⟨B.exec, B.bytes, hml, findClass_of_methodNamed B.named, hts⟩
  have hx := hC.1
  have hb := hC.2.1
  have hr := B.returns
  have hlocks := B.notSynchronized
  have hin0 : ∀ w ∈ wsX00, w ∈ wsX0_daysWithin := by decide +kernel
  have hl := lv_entry ([.ref (ad (3 * k + 23)), .int p0, .int p1]) (n := 3) (Nat.le_of_ble_eq_true rfl)
  rw [lg_entry_eq]
  generalize (lg_sl ([.ref (ad (3 * k + 23)), .int p0, .int p1]) ++ List.replicate (3 - (lg_sl ([.ref (ad (3 * k + 23)), .int p0, .int p1])).length) Slot.unset).toArray = ls at hl ⊢
  have hl : lv_has ls 3 [(0, .ref (ad (3 * k + 23))), (1, .int p0), (2, .int p1)] := hl
  refine lv_iconst (v := 0) hx hb dX0_daysWithin_0 (by decide) ?_
  refine lv_aload_n hx hb dX0_daysWithin_1 rfl (lv_at hl 0 rfl) ?_
  refine gtL_to hC hin0 hY (k := k) hk (by decide +kernel) dX0_daysWithin_2 ?_
  refine lv_iload_n hx hb dX0_daysWithin_5 rfl (lv_at hl 2 rfl) ?_
  refine va_mmin hx hb (hC.2.2.1.trans hl.1.symm) hC.2.2.2.1 (hC.2.2.2.2 _ (by decide +kernel)) (hC.2.2.2.2 _ (by decide +kernel)) (hC.2.2.2.2 _ (by decide +kernel)) (hC.2.2.2.2 _ (by decide +kernel)) (Nat.le_of_ble_eq_true rfl) (Nat.le_of_ble_eq_true rfl) (Nat.le_of_ble_eq_true rfl) (Nat.le_of_ble_eq_true rfl) dX0_daysWithin_6 ?_
  refine lv_aload_n hx hb dX0_daysWithin_9 rfl (lv_at hl 0 rfl) ?_
  refine gtL_from hC hin0 hY (k := k) hk (by decide +kernel) dX0_daysWithin_10 ?_
  refine lv_iload_n hx hb dX0_daysWithin_13 rfl (lv_at hl 1 rfl) ?_
  refine va_mmax hx hb (hC.2.2.1.trans hl.1.symm) hC.2.2.2.1 (hC.2.2.2.2 _ (by decide +kernel)) (hC.2.2.2.2 _ (by decide +kernel)) (hC.2.2.2.2 _ (by decide +kernel)) (hC.2.2.2.2 _ (by decide +kernel)) (Nat.le_of_ble_eq_true rfl) (Nat.le_of_ble_eq_true rfl) (Nat.le_of_ble_eq_true rfl) (Nat.le_of_ble_eq_true rfl) dX0_daysWithin_14 ?_
  refine lv_isub hx hb dX0_daysWithin_17 ?_
  refine va_mmax hx hb (hC.2.2.1.trans hl.1.symm) hC.2.2.2.1 (hC.2.2.2.2 _ (by decide +kernel)) (hC.2.2.2.2 _ (by decide +kernel)) (hC.2.2.2.2 _ (by decide +kernel)) (hC.2.2.2.2 _ (by decide +kernel)) (Nat.le_of_ble_eq_true rfl) (Nat.le_of_ble_eq_true rfl) (Nat.le_of_ble_eq_true rfl) (Nat.le_of_ble_eq_true rfl) dX0_daysWithin_18 ?_
  exact g_iret hC hr hlocks hY ⟨Nat.le_of_ble_eq_true rfl, Nat.le_of_ble_eq_true rfl⟩ dX0_daysWithin_21 (rfl)

abbrev diF (σ : St) (k : Nat) (y : Int32) : Int32 := dwF σ k (y * 360) (y * 360 + 360)
set_option maxHeartbeats 4000000 in
set_option maxRecDepth 100000 in
theorem c_X0_daysIn (l : Launch) (G : GG) (ad : Nat → Nat) (σ : St) (n : Nat) (τ : St) (j : Nat) (th : Int32) (o : OL) (od : OD) (k : Nat) (hk : k < n) (p0 : Int32) : Met l yX0_daysIn wsX0_daysIn ({ frames := 2, cells := 0, slots := 0, locals := 40 }) (PcS G ad σ n τ j th o od [.ref (ad (3 * k + 23)), .int p0]) (Qi G (3 * n + 23) ad (ctS G ad σ n τ j th o od) (fun r => r = diF σ k p0)) 0 0 (gF G) := by
  refine Met.ofW (cc := cX0_daysIn) (maxL := 3) (ret := (some .int)) (by decide) rfl ?_
  intro p e s m args below meth c s₁ B hml hv
  obtain ⟨rfl, hY⟩ := hv
  have hts := atoms_spec (ws := wsX0_daysIn) B.pre
  have hC : CallFix p m c cX0_daysIn 3 s _ wsX0_daysIn RX0 := ⟨B.exec, B.bytes, hml, findClass_of_methodNamed B.named, hts⟩
  have hx := hC.1
  have hb := hC.2.1
  have hr := B.returns
  have hlocks := B.notSynchronized
  have hin0 : ∀ w ∈ wsX00, w ∈ wsX0_daysIn := by decide +kernel
  have hl := lv_entry ([.ref (ad (3 * k + 23)), .int p0]) (n := 3) (Nat.le_of_ble_eq_true rfl)
  rw [lg_entry_eq]
  generalize (lg_sl ([.ref (ad (3 * k + 23)), .int p0]) ++ List.replicate (3 - (lg_sl ([.ref (ad (3 * k + 23)), .int p0])).length) Slot.unset).toArray = ls at hl ⊢
  have hl : lv_has ls 3 [(0, .ref (ad (3 * k + 23))), (1, .int p0)] := hl
  refine lv_iload_n hx hb dX0_daysIn_0 rfl (lv_at hl 1 rfl) ?_
  refine lv_sipush (v := 360) hx hb dX0_daysIn_1 (by decide) ?_
  refine lv_imul hx hb dX0_daysIn_4 ?_
  refine lv_istore_n (lv' := [(2, .int (p0 * 360)), (0, .ref (ad (3 * k + 23))), (1, .int p0)]) hx hb dX0_daysIn_5 rfl hl (by decide) rfl (fun ls hl => ?_)
  refine lv_aload_n hx hb dX0_daysIn_6 rfl (lv_at hl 1 rfl) ?_
  refine lv_iload_n hx hb dX0_daysIn_7 rfl (lv_at hl 0 rfl) ?_
  refine lv_iload_n hx hb dX0_daysIn_8 rfl (lv_at hl 0 rfl) ?_
  refine lv_sipush (v := 360) hx hb dX0_daysIn_9 (by decide) ?_
  refine lv_iadd hx hb dX0_daysIn_12 ?_
  refine g_calli hY (g_runV (n := 2) (q := (RX0, TX0, 12)) (r := 3 * k + 23) hC (c_X0_daysWithin l G ad σ n τ j th o od k hk (p0 * 360) ((p0 * 360) + 360)) gX0_daysIn_X0_daysWithin rfl ⟨rfl, rfl⟩ (by decide +kernel) ⟨Nat.le_of_ble_eq_true rfl, Nat.le_of_ble_eq_true rfl⟩ hY (by omega) (ct_L k) (ci := 0) rfl rfl hl.1 rfl (Nat.le_of_ble_eq_true rfl) dX0_daysIn_13 ⟨Nat.le_of_ble_eq_true rfl, Nat.le_of_ble_eq_true rfl⟩) (fun r1 H locs h2 hY => ?_)
  subst h2
  exact g_iret hC hr hlocks hY ⟨Nat.le_of_ble_eq_true rfl, Nat.le_of_ble_eq_true rfl⟩ dX0_daysIn_16 (rfl)
end
section
/-! the lease's loops -/
def agC (σ : St) (k : Nat) (d : Int32) : Nat → Int32 × Int32
  | 0 => (σ 6 k, σ 4 k)
  | i + 1 => if (rowF σ 13 k i).toInt ≤ d.toInt ∧ (agC σ k d i).2.toInt < (rowF σ 13 k i).toInt then (rowF σ 14 k i, rowF σ 13 k i) else agC σ k d i
abbrev stN (σ : St) (k : Nat) : Nat := (σ 12 k).toInt.toNat
abbrev okS (σ : St) (k : Nat) : Prop := 0 ≤ (σ 12 k).toInt ∧ (σ 12 k).toInt ≤ 6
def acF (σ : St) (k : Nat) (d : Int32) : Int32 := (agC σ k d (stN σ k)).1
set_option maxHeartbeats 4000000 in
set_option maxRecDepth 100000 in
theorem c_X0_agreedOn (l : Launch) (G : GG) (ad : Nat → Nat) (σ : St) (n : Nat) (τ : St) (j : Nat) (th : Int32) (o : OL) (od : OD) (k : Nat) (hk : k < n) (p0 : Int32) (hs : okS σ k)  : Met l yX0_agreedOn wsX0_agreedOn ({ frames := 0, cells := 0, slots := 0, locals := 0 }) (PcS G ad σ n τ j th o od [.ref (ad (3 * k + 23)), .int p0]) (Qi G (3 * n + 23) ad (ctS G ad σ n τ j th o od) (fun r => r = acF σ k p0)) 0 0 (gF G) := by
  refine Met.ofW (cc := cX0_agreedOn) (maxL := 5) (ret := (some .int)) (by decide) rfl ?_
  intro p e s m args below meth c s₁ B hml hv
  obtain ⟨rfl, hY⟩ := hv
  have hts := atoms_spec (ws := wsX0_agreedOn) B.pre
  have hC : CallFix p m c cX0_agreedOn 5 s _ wsX0_agreedOn RX0 := ⟨B.exec, B.bytes, hml, findClass_of_methodNamed B.named, hts⟩
  have hx := hC.1
  have hb := hC.2.1
  have hr := B.returns
  have hlocks := B.notSynchronized
  have hin0 : ∀ w ∈ wsX00, w ∈ wsX0_agreedOn := by decide +kernel
  have hl := lv_entry ([.ref (ad (3 * k + 23)), .int p0]) (n := 5) (Nat.le_of_ble_eq_true rfl)
  rw [lg_entry_eq]
  generalize (lg_sl ([.ref (ad (3 * k + 23)), .int p0]) ++ List.replicate (5 - (lg_sl ([.ref (ad (3 * k + 23)), .int p0])).length) Slot.unset).toArray = ls at hl ⊢
  have hl : lv_has ls 5 [(0, .ref (ad (3 * k + 23))), (1, .int p0)] := hl
  refine lv_aload_n hx hb dX0_agreedOn_0 rfl (lv_at hl 0 rfl) ?_
  refine gtL_from hC hin0 hY (k := k) hk (by decide +kernel) dX0_agreedOn_1 ?_
  refine lv_istore_n (lv' := [(2, .int (σ 4 k)), (0, .ref (ad (3 * k + 23))), (1, .int p0)]) hx hb dX0_agreedOn_4 rfl hl (by decide) rfl (fun ls hl => ?_)
  refine lv_aload_n hx hb dX0_agreedOn_5 rfl (lv_at hl 1 rfl) ?_
  refine gtL_firstRent hC hin0 hY (k := k) hk (by decide +kernel) dX0_agreedOn_6 ?_
  refine lv_istore_n (lv' := [(3, .int (σ 6 k)), (2, .int (σ 4 k)), (0, .ref (ad (3 * k + 23))), (1, .int p0)]) hx hb dX0_agreedOn_9 rfl hl (by decide) rfl (fun ls hl => ?_)
  refine lv_iconst (v := 0) hx hb dX0_agreedOn_10 (by decide) ?_
  refine lv_istore (lv' := [(4, .int 0), (3, .int (σ 6 k)), (2, .int (σ 4 k)), (0, .ref (ad (3 * k + 23))), (1, .int p0)]) hx hb dX0_agreedOn_11 hl (by decide) rfl (fun ls hl => ?_)
  refine w_loop (X := Int32 × Int32 × Int32) (fun i x H locs ls => match x with | (x4, x3, x2) => (x4.toInt = i ∧ (i : Int) ≤ (σ 12 k).toInt ∧ agC σ k p0 i = (x3, x2)) ∧ SyS G ad σ n τ j th o od s H locs ∧ lv_has ls 5 [(4, .int x4), (3, .int x3), (2, .int x2), (0, .ref (ad (3 * k + 23))), (1, .int p0)]) (6) ?_ ?_ ((0, σ 6 k, σ 4 k)) ⟨⟨rfl, hs.1, rfl⟩, hY, lv_sub hl [0, 1, 2, 3, 4] rfl⟩
  · intro i x H locs ls hI ih
    obtain ⟨x4, x3, x2⟩ := x
    obtain ⟨hI, hY, hl⟩ := hI
    obtain ⟨h0, h9, e⟩ := hI
    refine lv_iload hx hb dX0_agreedOn_13 (lv_at hl 0 rfl) ?_
    refine lv_aload_n hx hb dX0_agreedOn_15 rfl (lv_at hl 3 rfl) ?_
    refine gtL_steps hC hin0 hY (k := k) hk (by decide +kernel) dX0_agreedOn_16 ?_
    refine b_icmp_ge (tgt := 73) hx hb dX0_agreedOn_19 (by decide) (fun (h1 : (σ 12 k).toInt ≤ x4.toInt) => ?_) (fun (h1 : x4.toInt < (σ 12 k).toInt) => ?_)
    · refine lv_iload_n hx hb dX0_agreedOn_73 rfl (lv_at hl 1 rfl) ?_
      exact g_iret hC hr hlocks hY ⟨Nat.le_of_ble_eq_true rfl, Nat.le_of_ble_eq_true rfl⟩ dX0_agreedOn_74 (by unfold acF stN; rw [show (σ 12 k).toInt.toNat = i by omega, e])
    · refine lv_iload hx hb dX0_agreedOn_22 (lv_at hl 0 rfl) ?_
      refine lv_bipush (v := 6) hx hb dX0_agreedOn_24 (by decide) ?_
      refine b_icmp_ge (tgt := 73) hx hb dX0_agreedOn_26 (by decide) (fun (h2 : 6 ≤ x4.toInt) => ?_) (fun (h2 : x4.toInt < 6) => ?_)
      · refine lv_iload_n hx hb dX0_agreedOn_73 rfl (lv_at hl 1 rfl) ?_
        exact g_iret hC hr hlocks hY ⟨Nat.le_of_ble_eq_true rfl, Nat.le_of_ble_eq_true rfl⟩ dX0_agreedOn_74 (by unfold acF stN; rw [show (σ 12 k).toInt.toNat = i by omega, e])
      · refine lv_aload_n hx hb dX0_agreedOn_29 rfl (lv_at hl 3 rfl) ?_
        refine gtL_stepDays hC hin0 hY (k := k) hk (by decide +kernel) dX0_agreedOn_30 ?_
        refine lv_iload hx hb dX0_agreedOn_33 (lv_at hl 0 rfl) ?_
        refine rdL13 hC hY (k := k) hk ⟨by omega, by omega⟩ dX0_agreedOn_35 ?_
        refine lv_iload_n hx hb dX0_agreedOn_36 rfl (lv_at hl 4 rfl) ?_
        refine b_icmp_gt (tgt := 67) hx hb dX0_agreedOn_37 (by decide) (fun (h3 : p0.toInt < (rowF σ 13 k (ix x4)).toInt) => ?_) (fun (h3 : (rowF σ 13 k (ix x4)).toInt ≤ p0.toInt) => ?_)
        · refine lv_iinc (v := x4 + 1) (lv' := [(4, .int (x4 + 1)), (3, .int x3), (2, .int x2), (0, .ref (ad (3 * k + 23))), (1, .int p0)]) hx hb dX0_agreedOn_67 hl (k := 0) rfl rfl (by decide) rfl (fun ls hl => ?_)
          refine lv_goto (tgt := 13) hx hb dX0_agreedOn_70 (by decide) ?_
          have hix : ix x4 = i := i_ix h0
          exact ih (x4 + 1, x3, x2) _ _ _ ⟨⟨by rw [i_add (by rw [h0]; show _ ∧ _ < _; have : (1 : Int32).toInt = 1 := rfl; omega)]; have : (1 : Int32).toInt = 1 := rfl; omega, by omega, by rw [agC, e, ← hix]; exact if_neg (by intro q; have q1 := q.1; have q2 := q.2; have q2 : x2.toInt < _ := q2; omega)⟩, hY, lv_sub hl [0, 1, 2, 3, 4] rfl⟩
        · refine lv_aload_n hx hb dX0_agreedOn_40 rfl (lv_at hl 3 rfl) ?_
          refine gtL_stepDays hC hin0 hY (k := k) hk (by decide +kernel) dX0_agreedOn_41 ?_
          refine lv_iload hx hb dX0_agreedOn_44 (lv_at hl 0 rfl) ?_
          refine rdL13 hC hY (k := k) hk ⟨by omega, by omega⟩ dX0_agreedOn_46 ?_
          refine lv_iload_n hx hb dX0_agreedOn_47 rfl (lv_at hl 2 rfl) ?_
          refine b_icmp_le (tgt := 67) hx hb dX0_agreedOn_48 (by decide) (fun (h4 : (rowF σ 13 k (ix x4)).toInt ≤ x2.toInt) => ?_) (fun (h4 : x2.toInt < (rowF σ 13 k (ix x4)).toInt) => ?_)
          · refine lv_iinc (v := x4 + 1) (lv' := [(4, .int (x4 + 1)), (3, .int x3), (2, .int x2), (0, .ref (ad (3 * k + 23))), (1, .int p0)]) hx hb dX0_agreedOn_67 hl (k := 0) rfl rfl (by decide) rfl (fun ls hl => ?_)
            refine lv_goto (tgt := 13) hx hb dX0_agreedOn_70 (by decide) ?_
            have hix : ix x4 = i := i_ix h0
            exact ih (x4 + 1, x3, x2) _ _ _ ⟨⟨by rw [i_add (by rw [h0]; show _ ∧ _ < _; have : (1 : Int32).toInt = 1 := rfl; omega)]; have : (1 : Int32).toInt = 1 := rfl; omega, by omega, by rw [agC, e, ← hix]; exact if_neg (by intro q; have q1 := q.1; have q2 := q.2; have q2 : x2.toInt < _ := q2; omega)⟩, hY, lv_sub hl [0, 1, 2, 3, 4] rfl⟩
          · refine lv_aload_n hx hb dX0_agreedOn_51 rfl (lv_at hl 3 rfl) ?_
            refine gtL_stepDays hC hin0 hY (k := k) hk (by decide +kernel) dX0_agreedOn_52 ?_
            refine lv_iload hx hb dX0_agreedOn_55 (lv_at hl 0 rfl) ?_
            refine rdL13 hC hY (k := k) hk ⟨by omega, by omega⟩ dX0_agreedOn_57 ?_
            refine lv_istore_n (lv' := [(2, .int (rowF σ 13 k (ix x4))), (4, .int x4), (3, .int x3), (0, .ref (ad (3 * k + 23))), (1, .int p0)]) hx hb dX0_agreedOn_58 rfl hl (by decide) rfl (fun ls hl => ?_)
            refine lv_aload_n hx hb dX0_agreedOn_59 rfl (lv_at hl 3 rfl) ?_
            refine gtL_stepRents hC hin0 hY (k := k) hk (by decide +kernel) dX0_agreedOn_60 ?_
            refine lv_iload hx hb dX0_agreedOn_63 (lv_at hl 1 rfl) ?_
            refine rdL14 hC hY (k := k) hk ⟨by omega, by omega⟩ dX0_agreedOn_65 ?_
            refine lv_istore_n (lv' := [(3, .int (rowF σ 14 k (ix x4))), (2, .int (rowF σ 13 k (ix x4))), (4, .int x4), (0, .ref (ad (3 * k + 23))), (1, .int p0)]) hx hb dX0_agreedOn_66 rfl hl (by decide) rfl (fun ls hl => ?_)
            refine lv_iinc (v := x4 + 1) (lv' := [(4, .int (x4 + 1)), (3, .int (rowF σ 14 k (ix x4))), (2, .int (rowF σ 13 k (ix x4))), (0, .ref (ad (3 * k + 23))), (1, .int p0)]) hx hb dX0_agreedOn_67 hl (k := 2) rfl rfl (by decide) rfl (fun ls hl => ?_)
            refine lv_goto (tgt := 13) hx hb dX0_agreedOn_70 (by decide) ?_
            have hix : ix x4 = i := i_ix h0
            exact ih (x4 + 1, rowF σ 14 k (ix x4), rowF σ 13 k (ix x4)) _ _ _ ⟨⟨by rw [i_add (by rw [h0]; show _ ∧ _ < _; have : (1 : Int32).toInt = 1 := rfl; omega)]; have : (1 : Int32).toInt = 1 := rfl; omega, by omega, by rw [agC, e, ← hix]; exact if_pos ⟨h3, h4⟩⟩, hY, lv_sub hl [0, 1, 2, 3, 4] rfl⟩
  · intro i x H locs ls hI
    obtain ⟨x4, x3, x2⟩ := x
    obtain ⟨hI, -, -⟩ := hI
    obtain ⟨h0, h9, e⟩ := hI
    omega

def ntP (σ : St) (k : Nat) (d : Int32) : Nat → Int32
  | 0 => soF d (σ 5 k) (soF d (σ 4 k + σ 7 k) (soF d (σ 4 k) 7200))
  | i + 1 => soF d (rowF σ 13 k i) (ntP σ k d i)
def ntF (σ : St) (k : Nat) (d : Int32) : Int32 := if 0 < (σ 8 k).toInt then soF d (σ 4 k + (rvF σ k d + 1) * σ 8 k) (ntP σ k d (stN σ k)) else ntP σ k d (stN σ k)
set_option maxHeartbeats 4000000 in
set_option maxRecDepth 100000 in
theorem c_X0_nextTurn (l : Launch) (G : GG) (ad : Nat → Nat) (σ : St) (n : Nat) (τ : St) (j : Nat) (th : Int32) (o : OL) (od : OD) (k : Nat) (hk : k < n) (p0 : Int32) (hs : okS σ k)  : Met l yX0_nextTurn wsX0_nextTurn ({ frames := 1, cells := 0, slots := 0, locals := 40 }) (PcS G ad σ n τ j th o od [.ref (ad (3 * k + 23)), .int p0]) (Qi G (3 * n + 23) ad (ctS G ad σ n τ j th o od) (fun r => r = ntF σ k p0)) 0 0 (gF G) := by
  refine Met.ofW (cc := cX0_nextTurn) (maxL := 4) (ret := (some .int)) (by decide) rfl ?_
  intro p e s m args below meth c s₁ B hml hv
  obtain ⟨rfl, hY⟩ := hv
  have hts := atoms_spec (ws := wsX0_nextTurn) B.pre
  have hC : CallFix p m c cX0_nextTurn 4 s _ wsX0_nextTurn RX0 := ⟨B.exec, B.bytes, hml, findClass_of_methodNamed B.named, hts⟩
  have hx := hC.1
  have hb := hC.2.1
  have hr := B.returns
  have hlocks := B.notSynchronized
  have hin0 : ∀ w ∈ wsX00, w ∈ wsX0_nextTurn := by decide +kernel
  have hl := lv_entry ([.ref (ad (3 * k + 23)), .int p0]) (n := 4) (Nat.le_of_ble_eq_true rfl)
  rw [lg_entry_eq]
  generalize (lg_sl ([.ref (ad (3 * k + 23)), .int p0]) ++ List.replicate (4 - (lg_sl ([.ref (ad (3 * k + 23)), .int p0])).length) Slot.unset).toArray = ls at hl ⊢
  have hl : lv_has ls 4 [(0, .ref (ad (3 * k + 23))), (1, .int p0)] := hl
  refine lv_iload_n hx hb dX0_nextTurn_0 rfl (lv_at hl 1 rfl) ?_
  refine lv_aload_n hx hb dX0_nextTurn_1 rfl (lv_at hl 0 rfl) ?_
  refine gtL_from hC hin0 hY (k := k) hk (by decide +kernel) dX0_nextTurn_2 ?_
  refine lv_sipush (v := 7200) hx hb dX0_nextTurn_5 (by decide) ?_
  refine g_calli hY (g_runS (n := 3) hC (c_X0_sooner l G ad σ n τ j th o od p0 (σ 4 k) 7200) gX0_nextTurn_X0_sooner rfl ⟨rfl, rfl⟩ (by decide +kernel) ⟨Nat.le_of_ble_eq_true rfl, Nat.le_of_ble_eq_true rfl⟩ hY rfl hl.1 rfl (Nat.le_of_ble_eq_true rfl) dX0_nextTurn_8 ⟨Nat.le_of_ble_eq_true rfl, Nat.le_of_ble_eq_true rfl⟩) (fun r1 H locs h2 hY => ?_)
  subst h2
  refine lv_istore_n (lv' := [(2, .int (soF p0 (σ 4 k) 7200)), (0, .ref (ad (3 * k + 23))), (1, .int p0)]) hx hb dX0_nextTurn_11 rfl hl (by decide) rfl (fun ls hl => ?_)
  refine lv_iload_n hx hb dX0_nextTurn_12 rfl (lv_at hl 2 rfl) ?_
  refine lv_aload_n hx hb dX0_nextTurn_13 rfl (lv_at hl 1 rfl) ?_
  refine gtL_from hC hin0 hY (k := k) hk (by decide +kernel) dX0_nextTurn_14 ?_
  refine lv_aload_n hx hb dX0_nextTurn_17 rfl (lv_at hl 1 rfl) ?_
  refine gtL_free hC hin0 hY (k := k) hk (by decide +kernel) dX0_nextTurn_18 ?_
  refine lv_iadd hx hb dX0_nextTurn_21 ?_
  refine lv_iload_n hx hb dX0_nextTurn_22 rfl (lv_at hl 0 rfl) ?_
  refine g_calli hY (g_runS (n := 3) hC (c_X0_sooner l G ad σ n τ j th o od p0 ((σ 4 k) + (σ 7 k)) (soF p0 (σ 4 k) 7200)) gX0_nextTurn_X0_sooner rfl ⟨rfl, rfl⟩ (by decide +kernel) ⟨Nat.le_of_ble_eq_true rfl, Nat.le_of_ble_eq_true rfl⟩ hY rfl hl.1 rfl (Nat.le_of_ble_eq_true rfl) dX0_nextTurn_23 ⟨Nat.le_of_ble_eq_true rfl, Nat.le_of_ble_eq_true rfl⟩) (fun r3 H locs h4 hY => ?_)
  subst h4
  refine lv_istore_n (lv' := [(2, .int (soF p0 ((σ 4 k) + (σ 7 k)) (soF p0 (σ 4 k) 7200))), (0, .ref (ad (3 * k + 23))), (1, .int p0)]) hx hb dX0_nextTurn_26 rfl hl (by decide) rfl (fun ls hl => ?_)
  refine lv_iload_n hx hb dX0_nextTurn_27 rfl (lv_at hl 2 rfl) ?_
  refine lv_aload_n hx hb dX0_nextTurn_28 rfl (lv_at hl 1 rfl) ?_
  refine gtL_to hC hin0 hY (k := k) hk (by decide +kernel) dX0_nextTurn_29 ?_
  refine lv_iload_n hx hb dX0_nextTurn_32 rfl (lv_at hl 0 rfl) ?_
  refine g_calli hY (g_runS (n := 3) hC (c_X0_sooner l G ad σ n τ j th o od p0 (σ 5 k) (soF p0 ((σ 4 k) + (σ 7 k)) (soF p0 (σ 4 k) 7200))) gX0_nextTurn_X0_sooner rfl ⟨rfl, rfl⟩ (by decide +kernel) ⟨Nat.le_of_ble_eq_true rfl, Nat.le_of_ble_eq_true rfl⟩ hY rfl hl.1 rfl (Nat.le_of_ble_eq_true rfl) dX0_nextTurn_33 ⟨Nat.le_of_ble_eq_true rfl, Nat.le_of_ble_eq_true rfl⟩) (fun r5 H locs h6 hY => ?_)
  subst h6
  refine lv_istore_n (lv' := [(2, .int (soF p0 (σ 5 k) (soF p0 ((σ 4 k) + (σ 7 k)) (soF p0 (σ 4 k) 7200)))), (0, .ref (ad (3 * k + 23))), (1, .int p0)]) hx hb dX0_nextTurn_36 rfl hl (by decide) rfl (fun ls hl => ?_)
  refine lv_iconst (v := 0) hx hb dX0_nextTurn_37 (by decide) ?_
  refine lv_istore_n (lv' := [(3, .int 0), (2, .int (soF p0 (σ 5 k) (soF p0 ((σ 4 k) + (σ 7 k)) (soF p0 (σ 4 k) 7200)))), (0, .ref (ad (3 * k + 23))), (1, .int p0)]) hx hb dX0_nextTurn_38 rfl hl (by decide) rfl (fun ls hl => ?_)
  refine w_loop (X := Int32 × Int32) (fun i x H locs ls => match x with | (x3, x2) => (x3.toInt = i ∧ (i : Int) ≤ (σ 12 k).toInt ∧ x2 = ntP σ k p0 i) ∧ SyS G ad σ n τ j th o od s H locs ∧ lv_has ls 4 [(3, .int x3), (2, .int x2), (0, .ref (ad (3 * k + 23))), (1, .int p0)]) (6) ?_ ?_ ((0, soF p0 (σ 5 k) (soF p0 ((σ 4 k) + (σ 7 k)) (soF p0 (σ 4 k) 7200)))) ⟨⟨rfl, hs.1, rfl⟩, hY, lv_sub hl [0, 1, 2, 3] rfl⟩
  · intro i x H locs ls hI ih
    obtain ⟨x3, x2⟩ := x
    obtain ⟨hI, hY, hl⟩ := hI
    obtain ⟨h0, h9, e⟩ := hI
    refine lv_iload_n hx hb dX0_nextTurn_39 rfl (lv_at hl 0 rfl) ?_
    refine lv_aload_n hx hb dX0_nextTurn_40 rfl (lv_at hl 2 rfl) ?_
    refine gtL_steps hC hin0 hY (k := k) hk (by decide +kernel) dX0_nextTurn_41 ?_
    refine b_icmp_ge (tgt := 71) hx hb dX0_nextTurn_44 (by decide) (fun (h7 : (σ 12 k).toInt ≤ x3.toInt) => ?_) (fun (h7 : x3.toInt < (σ 12 k).toInt) => ?_)
    · refine lv_aload_n hx hb dX0_nextTurn_71 rfl (lv_at hl 2 rfl) ?_
      refine gtL_every hC hin0 hY (k := k) hk (by decide +kernel) dX0_nextTurn_72 ?_
      refine b_if_le (tgt := 101) hx hb dX0_nextTurn_75 (by decide) (fun (h8 : (σ 8 k).toInt ≤ 0) => ?_) (fun (h8 : 0 < (σ 8 k).toInt) => ?_)
      · refine lv_iload_n hx hb dX0_nextTurn_101 rfl (lv_at hl 1 rfl) ?_
        exact g_iret hC hr hlocks hY ⟨Nat.le_of_ble_eq_true rfl, Nat.le_of_ble_eq_true rfl⟩ dX0_nextTurn_102 (by unfold ntF stN; rw [if_neg (by omega), show (σ 12 k).toInt.toNat = i by omega, ← e])
      · refine lv_iload_n hx hb dX0_nextTurn_78 rfl (lv_at hl 3 rfl) ?_
        refine lv_aload_n hx hb dX0_nextTurn_79 rfl (lv_at hl 2 rfl) ?_
        refine gtL_from hC hin0 hY (k := k) hk (by decide +kernel) dX0_nextTurn_80 ?_
        refine lv_aload_n hx hb dX0_nextTurn_83 rfl (lv_at hl 2 rfl) ?_
        refine lv_iload_n hx hb dX0_nextTurn_84 rfl (lv_at hl 3 rfl) ?_
        refine g_calli hY (g_runV (n := 1) (q := (RX0, TX0, 12)) (r := 3 * k + 23) hC (c_X0_reviewsUpTo l G ad σ n τ j th o od k hk p0) gX0_nextTurn_X0_reviewsUpTo rfl ⟨rfl, rfl⟩ (by decide +kernel) ⟨Nat.le_of_ble_eq_true rfl, Nat.le_of_ble_eq_true rfl⟩ hY (by omega) (ct_L k) (ci := 0) rfl rfl hl.1 rfl (Nat.le_of_ble_eq_true rfl) dX0_nextTurn_85 ⟨Nat.le_of_ble_eq_true rfl, Nat.le_of_ble_eq_true rfl⟩) (fun r9 H locs h10 hY => ?_)
        subst h10
        refine lv_iconst (v := 1) hx hb dX0_nextTurn_88 (by decide) ?_
        refine lv_iadd hx hb dX0_nextTurn_89 ?_
        refine lv_aload_n hx hb dX0_nextTurn_90 rfl (lv_at hl 2 rfl) ?_
        refine gtL_every hC hin0 hY (k := k) hk (by decide +kernel) dX0_nextTurn_91 ?_
        refine lv_imul hx hb dX0_nextTurn_94 ?_
        refine lv_iadd hx hb dX0_nextTurn_95 ?_
        refine lv_iload_n hx hb dX0_nextTurn_96 rfl (lv_at hl 1 rfl) ?_
        refine g_calli hY (g_runS (n := 3) hC (c_X0_sooner l G ad σ n τ j th o od p0 ((σ 4 k) + (((rvF σ k p0) + 1) * (σ 8 k))) x2) gX0_nextTurn_X0_sooner rfl ⟨rfl, rfl⟩ (by decide +kernel) ⟨Nat.le_of_ble_eq_true rfl, Nat.le_of_ble_eq_true rfl⟩ hY rfl hl.1 rfl (Nat.le_of_ble_eq_true rfl) dX0_nextTurn_97 ⟨Nat.le_of_ble_eq_true rfl, Nat.le_of_ble_eq_true rfl⟩) (fun r11 H locs h12 hY => ?_)
        subst h12
        refine lv_istore_n (lv' := [(2, .int (soF p0 ((σ 4 k) + (((rvF σ k p0) + 1) * (σ 8 k))) x2)), (3, .int x3), (0, .ref (ad (3 * k + 23))), (1, .int p0)]) hx hb dX0_nextTurn_100 rfl hl (by decide) rfl (fun ls hl => ?_)
        refine lv_iload_n hx hb dX0_nextTurn_101 rfl (lv_at hl 0 rfl) ?_
        exact g_iret hC hr hlocks hY ⟨Nat.le_of_ble_eq_true rfl, Nat.le_of_ble_eq_true rfl⟩ dX0_nextTurn_102 (by unfold ntF stN; rw [if_pos h8, show (σ 12 k).toInt.toNat = i by omega, ← e])
    · refine lv_iload_n hx hb dX0_nextTurn_47 rfl (lv_at hl 0 rfl) ?_
      refine lv_bipush (v := 6) hx hb dX0_nextTurn_48 (by decide) ?_
      refine b_icmp_ge (tgt := 71) hx hb dX0_nextTurn_50 (by decide) (fun (h13 : 6 ≤ x3.toInt) => ?_) (fun (h13 : x3.toInt < 6) => ?_)
      · refine lv_aload_n hx hb dX0_nextTurn_71 rfl (lv_at hl 2 rfl) ?_
        refine gtL_every hC hin0 hY (k := k) hk (by decide +kernel) dX0_nextTurn_72 ?_
        refine b_if_le (tgt := 101) hx hb dX0_nextTurn_75 (by decide) (fun (h14 : (σ 8 k).toInt ≤ 0) => ?_) (fun (h14 : 0 < (σ 8 k).toInt) => ?_)
        · refine lv_iload_n hx hb dX0_nextTurn_101 rfl (lv_at hl 1 rfl) ?_
          exact g_iret hC hr hlocks hY ⟨Nat.le_of_ble_eq_true rfl, Nat.le_of_ble_eq_true rfl⟩ dX0_nextTurn_102 (by unfold ntF stN; rw [if_neg (by omega), show (σ 12 k).toInt.toNat = i by omega, ← e])
        · refine lv_iload_n hx hb dX0_nextTurn_78 rfl (lv_at hl 3 rfl) ?_
          refine lv_aload_n hx hb dX0_nextTurn_79 rfl (lv_at hl 2 rfl) ?_
          refine gtL_from hC hin0 hY (k := k) hk (by decide +kernel) dX0_nextTurn_80 ?_
          refine lv_aload_n hx hb dX0_nextTurn_83 rfl (lv_at hl 2 rfl) ?_
          refine lv_iload_n hx hb dX0_nextTurn_84 rfl (lv_at hl 3 rfl) ?_
          refine g_calli hY (g_runV (n := 1) (q := (RX0, TX0, 12)) (r := 3 * k + 23) hC (c_X0_reviewsUpTo l G ad σ n τ j th o od k hk p0) gX0_nextTurn_X0_reviewsUpTo rfl ⟨rfl, rfl⟩ (by decide +kernel) ⟨Nat.le_of_ble_eq_true rfl, Nat.le_of_ble_eq_true rfl⟩ hY (by omega) (ct_L k) (ci := 0) rfl rfl hl.1 rfl (Nat.le_of_ble_eq_true rfl) dX0_nextTurn_85 ⟨Nat.le_of_ble_eq_true rfl, Nat.le_of_ble_eq_true rfl⟩) (fun r15 H locs h16 hY => ?_)
          subst h16
          refine lv_iconst (v := 1) hx hb dX0_nextTurn_88 (by decide) ?_
          refine lv_iadd hx hb dX0_nextTurn_89 ?_
          refine lv_aload_n hx hb dX0_nextTurn_90 rfl (lv_at hl 2 rfl) ?_
          refine gtL_every hC hin0 hY (k := k) hk (by decide +kernel) dX0_nextTurn_91 ?_
          refine lv_imul hx hb dX0_nextTurn_94 ?_
          refine lv_iadd hx hb dX0_nextTurn_95 ?_
          refine lv_iload_n hx hb dX0_nextTurn_96 rfl (lv_at hl 1 rfl) ?_
          refine g_calli hY (g_runS (n := 3) hC (c_X0_sooner l G ad σ n τ j th o od p0 ((σ 4 k) + (((rvF σ k p0) + 1) * (σ 8 k))) x2) gX0_nextTurn_X0_sooner rfl ⟨rfl, rfl⟩ (by decide +kernel) ⟨Nat.le_of_ble_eq_true rfl, Nat.le_of_ble_eq_true rfl⟩ hY rfl hl.1 rfl (Nat.le_of_ble_eq_true rfl) dX0_nextTurn_97 ⟨Nat.le_of_ble_eq_true rfl, Nat.le_of_ble_eq_true rfl⟩) (fun r17 H locs h18 hY => ?_)
          subst h18
          refine lv_istore_n (lv' := [(2, .int (soF p0 ((σ 4 k) + (((rvF σ k p0) + 1) * (σ 8 k))) x2)), (3, .int x3), (0, .ref (ad (3 * k + 23))), (1, .int p0)]) hx hb dX0_nextTurn_100 rfl hl (by decide) rfl (fun ls hl => ?_)
          refine lv_iload_n hx hb dX0_nextTurn_101 rfl (lv_at hl 0 rfl) ?_
          exact g_iret hC hr hlocks hY ⟨Nat.le_of_ble_eq_true rfl, Nat.le_of_ble_eq_true rfl⟩ dX0_nextTurn_102 (by unfold ntF stN; rw [if_pos h14, show (σ 12 k).toInt.toNat = i by omega, ← e])
      · refine lv_iload_n hx hb dX0_nextTurn_53 rfl (lv_at hl 3 rfl) ?_
        refine lv_aload_n hx hb dX0_nextTurn_54 rfl (lv_at hl 2 rfl) ?_
        refine gtL_stepDays hC hin0 hY (k := k) hk (by decide +kernel) dX0_nextTurn_55 ?_
        refine lv_iload_n hx hb dX0_nextTurn_58 rfl (lv_at hl 0 rfl) ?_
        refine rdL13 hC hY (k := k) hk ⟨by omega, by omega⟩ dX0_nextTurn_59 ?_
        refine lv_iload_n hx hb dX0_nextTurn_60 rfl (lv_at hl 1 rfl) ?_
        refine g_calli hY (g_runS (n := 3) hC (c_X0_sooner l G ad σ n τ j th o od p0 (rowF σ 13 k (ix x3)) x2) gX0_nextTurn_X0_sooner rfl ⟨rfl, rfl⟩ (by decide +kernel) ⟨Nat.le_of_ble_eq_true rfl, Nat.le_of_ble_eq_true rfl⟩ hY rfl hl.1 rfl (Nat.le_of_ble_eq_true rfl) dX0_nextTurn_61 ⟨Nat.le_of_ble_eq_true rfl, Nat.le_of_ble_eq_true rfl⟩) (fun r19 H locs h20 hY => ?_)
        subst h20
        refine lv_istore_n (lv' := [(2, .int (soF p0 (rowF σ 13 k (ix x3)) x2)), (3, .int x3), (0, .ref (ad (3 * k + 23))), (1, .int p0)]) hx hb dX0_nextTurn_64 rfl hl (by decide) rfl (fun ls hl => ?_)
        refine lv_iinc (v := x3 + 1) (lv' := [(3, .int (x3 + 1)), (2, .int (soF p0 (rowF σ 13 k (ix x3)) x2)), (0, .ref (ad (3 * k + 23))), (1, .int p0)]) hx hb dX0_nextTurn_65 hl (k := 1) rfl rfl (by decide) rfl (fun ls hl => ?_)
        refine lv_goto (tgt := 39) hx hb dX0_nextTurn_68 (by decide) ?_
        have hix : ix x3 = i := i_ix h0
        exact ih (x3 + 1, soF p0 (rowF σ 13 k (ix x3)) x2) _ _ _ ⟨⟨by rw [i_add (by have : (1 : Int32).toInt = 1 := rfl; omega)]; have : (1 : Int32).toInt = 1 := rfl; omega, by omega, by rw [ntP, ← e, ← hix]⟩, hY, lv_sub hl [0, 1, 2, 3] rfl⟩
  · intro i x H locs ls hI
    obtain ⟨x3, x2⟩ := x
    obtain ⟨hI, -, -⟩ := hI
    obtain ⟨h0, h9, e⟩ := hI
    omega

def plG (σ : St) (k : Nat) (d : Int32) : Nat → Nat → Nat
  | 0, i => i
  | f + 1, i => if (rowF σ 13 k i).toInt = d.toInt then i else plG σ k d f (i + 1)
theorem plG_s {σ : St} {k : Nat} {d : Int32} {f i : Nat} : plG σ k d (f + 1) i = if (rowF σ 13 k i).toInt = d.toInt then i else plG σ k d f (i + 1) := rfl
abbrev plF (σ : St) (k : Nat) (d : Int32) : Nat := plG σ k d (stN σ k) 0
def psS (σ : St) (k : Nat) (d r : Int32) : St := if plF σ k d < 6 then us (us (us σ 13 (6 * k + plF σ k d) d) 14 (6 * k + plF σ k d) r) 12 k (if plF σ k d = stN σ k then σ 12 k + 1 else σ 12 k) else σ
theorem plG_le {σ : St} {k : Nat} {d : Int32} : ∀ (f i : Nat), plG σ k d f i ≤ i + f := by
  intro f
  induction f with
  | zero => intro i; exact Nat.le_refl _
  | succ f ih =>
    intro i
    unfold plG
    split
    · omega
    · have := ih (i + 1); omega
set_option maxHeartbeats 4000000 in
set_option maxRecDepth 100000 in
theorem c_X0_putStep (l : Launch) (G : GG) (ad : Nat → Nat) (σ : St) (n : Nat) (τ : St) (j : Nat) (th : Int32) (o : OL) (od : OD) (k : Nat) (hk : k < n) (p1 p2 : Int32) (hs : okS σ k)  : Met l yX0_putStep wsX0_putStep ({ frames := 1, cells := 0, slots := 0, locals := 40 }) (PcS G ad σ n τ j th o od [.ref (ad (3 * k + 23)), .int p1, .int p2]) (Qi G (3 * n + 23) ad (ctS G ad (psS σ k p1 p2) n τ j th o od) (fun r => (r = 1 ∧ plF σ k p1 < 6) ∨ (r = 0 ∧ ¬ plF σ k p1 < 6))) 0 0 (gF G) := by
  refine Met.ofW (cc := cX0_putStep) (maxL := 4) (ret := (some .boolean)) (by decide) rfl ?_
  intro p e s m args below meth c s₁ B hml hv
  obtain ⟨rfl, hY⟩ := hv
  have hts := atoms_spec (ws := wsX0_putStep) B.pre
  have hC : CallFix p m c cX0_putStep 4 s _ wsX0_putStep RX0 := ⟨B.exec, B.bytes, hml, findClass_of_methodNamed B.named, hts⟩
  have hx := hC.1
  have hb := hC.2.1
  have hr := B.returns
  have hlocks := B.notSynchronized
  have hin0 : ∀ w ∈ wsX00, w ∈ wsX0_putStep := by decide +kernel
  have hl := lv_entry ([.ref (ad (3 * k + 23)), .int p1, .int p2]) (n := 4) (Nat.le_of_ble_eq_true rfl)
  rw [lg_entry_eq]
  generalize (lg_sl ([.ref (ad (3 * k + 23)), .int p1, .int p2]) ++ List.replicate (4 - (lg_sl ([.ref (ad (3 * k + 23)), .int p1, .int p2])).length) Slot.unset).toArray = ls at hl ⊢
  have hl : lv_has ls 4 [(0, .ref (ad (3 * k + 23))), (1, .int p1), (2, .int p2)] := hl
  refine lv_iconst (v := 0) hx hb dX0_putStep_0 (by decide) ?_
  refine lv_istore_n (lv' := [(3, .int 0), (0, .ref (ad (3 * k + 23))), (1, .int p1), (2, .int p2)]) hx hb dX0_putStep_1 rfl hl (by decide) rfl (fun ls hl => ?_)
  refine w_loop (X := Int32) (fun i x H locs ls => match x with | x3 => (x3.toInt = i ∧ (i : Int) ≤ (σ 12 k).toInt ∧ plG σ k p1 (stN σ k - i) i = plF σ k p1) ∧ SyS G ad σ n τ j th o od s H locs ∧ lv_has ls 4 [(3, .int x3), (0, .ref (ad (3 * k + 23))), (1, .int p1), (2, .int p2)]) (6) ?_ ?_ (0) ⟨⟨rfl, hs.1, rfl⟩, hY, lv_sub hl [0, 1, 2, 3] rfl⟩
  · intro i x H locs ls hI ih
    obtain ⟨x3, rfl⟩ : ∃ z, z = x := ⟨_, rfl⟩
    obtain ⟨hI, hY, hl⟩ := hI
    obtain ⟨h0, h9, e⟩ := hI
    refine lv_iload_n hx hb dX0_putStep_2 rfl (lv_at hl 0 rfl) ?_
    refine lv_aload_n hx hb dX0_putStep_3 rfl (lv_at hl 1 rfl) ?_
    refine gtL_steps hC hin0 hY (k := k) hk (by decide +kernel) dX0_putStep_4 ?_
    refine b_icmp_ge (tgt := 32) hx hb dX0_putStep_7 (by decide) (fun (h1 : (σ 12 k).toInt ≤ x3.toInt) => ?_) (fun (h1 : x3.toInt < (σ 12 k).toInt) => ?_)
    · refine lv_iload_n hx hb dX0_putStep_32 rfl (lv_at hl 0 rfl) ?_
      refine lv_bipush (v := 6) hx hb dX0_putStep_33 (by decide) ?_
      refine b_icmp_lt (tgt := 40) hx hb dX0_putStep_35 (by decide) (fun (h2 : x3.toInt < 6) => ?_) (fun (h2 : 6 ≤ x3.toInt) => ?_)
      · refine lv_aload_n hx hb dX0_putStep_40 rfl (lv_at hl 1 rfl) ?_
        refine gtL_stepDays hC hin0 hY (k := k) hk (by decide +kernel) dX0_putStep_41 ?_
        refine lv_iload_n hx hb dX0_putStep_44 rfl (lv_at hl 0 rfl) ?_
        refine lv_iload_n hx hb dX0_putStep_45 rfl (lv_at hl 2 rfl) ?_
        refine wrL13 hC hY (k := k) hk ⟨by omega, by omega⟩ dX0_putStep_46 (fun H locs hY => ?_)
        refine lv_aload_n hx hb dX0_putStep_47 rfl (lv_at hl 1 rfl) ?_
        refine gtL_stepRents hC hin0 hY (k := k) hk (by decide +kernel) dX0_putStep_48 ?_
        refine lv_iload_n hx hb dX0_putStep_51 rfl (lv_at hl 0 rfl) ?_
        refine lv_iload_n hx hb dX0_putStep_52 rfl (lv_at hl 3 rfl) ?_
        refine wrL14 hC hY (k := k) hk ⟨by omega, by omega⟩ dX0_putStep_53 (fun H locs hY => ?_)
        refine lv_aload_n hx hb dX0_putStep_54 rfl (lv_at hl 1 rfl) ?_
        refine lv_aload_n hx hb dX0_putStep_55 rfl (lv_at hl 1 rfl) ?_
        refine gtL_steps hC hin0 hY (k := k) hk (by decide +kernel) dX0_putStep_56 ?_
        refine lv_iload_n hx hb dX0_putStep_59 rfl (lv_at hl 0 rfl) ?_
        refine lv_iconst (v := 1) hx hb dX0_putStep_60 (by decide) ?_
        refine lv_iadd hx hb dX0_putStep_61 ?_
        refine va_mmax hx hb (hC.2.2.1.trans hl.1.symm) hC.2.2.2.1 (hC.2.2.2.2 _ (by decide +kernel)) (hC.2.2.2.2 _ (by decide +kernel)) (hC.2.2.2.2 _ (by decide +kernel)) (hC.2.2.2.2 _ (by decide +kernel)) (Nat.le_of_ble_eq_true rfl) (Nat.le_of_ble_eq_true rfl) (Nat.le_of_ble_eq_true rfl) (Nat.le_of_ble_eq_true rfl) dX0_putStep_62 ?_
        refine ptL_steps hC hin0 hY (k := k) hk (by decide +kernel) dX0_putStep_65 (fun H locs hY => ?_)
        refine lv_iconst (v := 1) hx hb dX0_putStep_68 (by decide) ?_
        have hix : ix x3 = i := i_ix h0
        have hpl : plF σ k p1 = i := by rw [← e, show stN σ k - i = 0 by (unfold stN; omega)]; rfl
        have hm : (if plF σ k p1 = stN σ k then σ 12 k + 1 else σ 12 k) = (if σ 12 k < x3 + 1 then x3 + 1 else σ 12 k) := by
          have h1 : (x3 + 1).toInt = x3.toInt + 1 := i_add (by have : (1 : Int32).toInt = 1 := rfl; omega)
          by_cases hz : i = stN σ k
          · rw [if_pos (by rw [hpl]; exact hz), if_pos (by rw [Int32.lt_iff_toInt_lt, h1, h0, hz]; unfold stN; omega), show x3 = σ 12 k from i_ext (by rw [h0, hz]; unfold stN; omega)]
          · rw [if_neg (by rw [hpl]; exact hz), if_neg (by rw [Int32.lt_iff_toInt_lt, h1, h0]; unfold stN at hz; omega)]
        rw [show psS σ k p1 p2 = (us (us (us σ 13 (6 * k + ix x3) p1) 14 (6 * k + ix x3) p2) 12 k (if ((us (us σ 13 (6 * k + ix x3) p1) 14 (6 * k + ix x3) p2) 12 k) < (x3 + 1) then (x3 + 1) else ((us (us σ 13 (6 * k + ix x3) p1) 14 (6 * k + ix x3) p2) 12 k))) from by unfold psS; rw [if_pos (by rw [hpl]; omega), hm, hpl, hix]; rfl]
        exact g_zret hC hr hlocks rfl hY ⟨Nat.le_of_ble_eq_true rfl, Nat.le_of_ble_eq_true rfl⟩ dX0_putStep_69 (Or.inl ⟨rfl, by rw [hpl]; omega⟩)
      · refine lv_iconst (v := 0) hx hb dX0_putStep_38 (by decide) ?_
        have hix : ix x3 = i := i_ix h0
        have hpl : plF σ k p1 = i := by rw [← e, show stN σ k - i = 0 by (unfold stN; omega)]; rfl
        rw [show psS σ k p1 p2 = σ from if_neg (by rw [hpl]; omega)]
        exact g_zret hC hr hlocks rfl hY ⟨Nat.le_of_ble_eq_true rfl, Nat.le_of_ble_eq_true rfl⟩ dX0_putStep_39 (Or.inr ⟨rfl, by rw [hpl]; omega⟩)
    · refine lv_iload_n hx hb dX0_putStep_10 rfl (lv_at hl 0 rfl) ?_
      refine lv_bipush (v := 6) hx hb dX0_putStep_11 (by decide) ?_
      refine b_icmp_ge (tgt := 32) hx hb dX0_putStep_13 (by decide) (fun (h3 : 6 ≤ x3.toInt) => ?_) (fun (h3 : x3.toInt < 6) => ?_)
      · refine lv_iload_n hx hb dX0_putStep_32 rfl (lv_at hl 0 rfl) ?_
        refine lv_bipush (v := 6) hx hb dX0_putStep_33 (by decide) ?_
        refine b_icmp_lt (tgt := 40) hx hb dX0_putStep_35 (by decide) (fun (h4 : x3.toInt < 6) => ?_) (fun (h4 : 6 ≤ x3.toInt) => ?_)
        · refine lv_aload_n hx hb dX0_putStep_40 rfl (lv_at hl 1 rfl) ?_
          refine gtL_stepDays hC hin0 hY (k := k) hk (by decide +kernel) dX0_putStep_41 ?_
          refine lv_iload_n hx hb dX0_putStep_44 rfl (lv_at hl 0 rfl) ?_
          refine lv_iload_n hx hb dX0_putStep_45 rfl (lv_at hl 2 rfl) ?_
          refine wrL13 hC hY (k := k) hk ⟨by omega, by omega⟩ dX0_putStep_46 (fun H locs hY => ?_)
          refine lv_aload_n hx hb dX0_putStep_47 rfl (lv_at hl 1 rfl) ?_
          refine gtL_stepRents hC hin0 hY (k := k) hk (by decide +kernel) dX0_putStep_48 ?_
          refine lv_iload_n hx hb dX0_putStep_51 rfl (lv_at hl 0 rfl) ?_
          refine lv_iload_n hx hb dX0_putStep_52 rfl (lv_at hl 3 rfl) ?_
          refine wrL14 hC hY (k := k) hk ⟨by omega, by omega⟩ dX0_putStep_53 (fun H locs hY => ?_)
          refine lv_aload_n hx hb dX0_putStep_54 rfl (lv_at hl 1 rfl) ?_
          refine lv_aload_n hx hb dX0_putStep_55 rfl (lv_at hl 1 rfl) ?_
          refine gtL_steps hC hin0 hY (k := k) hk (by decide +kernel) dX0_putStep_56 ?_
          refine lv_iload_n hx hb dX0_putStep_59 rfl (lv_at hl 0 rfl) ?_
          refine lv_iconst (v := 1) hx hb dX0_putStep_60 (by decide) ?_
          refine lv_iadd hx hb dX0_putStep_61 ?_
          refine va_mmax hx hb (hC.2.2.1.trans hl.1.symm) hC.2.2.2.1 (hC.2.2.2.2 _ (by decide +kernel)) (hC.2.2.2.2 _ (by decide +kernel)) (hC.2.2.2.2 _ (by decide +kernel)) (hC.2.2.2.2 _ (by decide +kernel)) (Nat.le_of_ble_eq_true rfl) (Nat.le_of_ble_eq_true rfl) (Nat.le_of_ble_eq_true rfl) (Nat.le_of_ble_eq_true rfl) dX0_putStep_62 ?_
          refine ptL_steps hC hin0 hY (k := k) hk (by decide +kernel) dX0_putStep_65 (fun H locs hY => ?_)
          refine lv_iconst (v := 1) hx hb dX0_putStep_68 (by decide) ?_
          have hix : ix x3 = i := i_ix h0
          have hpl : plF σ k p1 = i := by rw [← e, show stN σ k - i = 0 by (unfold stN; omega)]; rfl
          have hm : (if plF σ k p1 = stN σ k then σ 12 k + 1 else σ 12 k) = (if σ 12 k < x3 + 1 then x3 + 1 else σ 12 k) := by
            have h1 : (x3 + 1).toInt = x3.toInt + 1 := i_add (by have : (1 : Int32).toInt = 1 := rfl; omega)
            by_cases hz : i = stN σ k
            · rw [if_pos (by rw [hpl]; exact hz), if_pos (by rw [Int32.lt_iff_toInt_lt, h1, h0, hz]; unfold stN; omega), show x3 = σ 12 k from i_ext (by rw [h0, hz]; unfold stN; omega)]
            · rw [if_neg (by rw [hpl]; exact hz), if_neg (by rw [Int32.lt_iff_toInt_lt, h1, h0]; unfold stN at hz; omega)]
          rw [show psS σ k p1 p2 = (us (us (us σ 13 (6 * k + ix x3) p1) 14 (6 * k + ix x3) p2) 12 k (if ((us (us σ 13 (6 * k + ix x3) p1) 14 (6 * k + ix x3) p2) 12 k) < (x3 + 1) then (x3 + 1) else ((us (us σ 13 (6 * k + ix x3) p1) 14 (6 * k + ix x3) p2) 12 k))) from by unfold psS; rw [if_pos (by rw [hpl]; omega), hm, hpl, hix]; rfl]
          exact g_zret hC hr hlocks rfl hY ⟨Nat.le_of_ble_eq_true rfl, Nat.le_of_ble_eq_true rfl⟩ dX0_putStep_69 (Or.inl ⟨rfl, by rw [hpl]; omega⟩)
        · refine lv_iconst (v := 0) hx hb dX0_putStep_38 (by decide) ?_
          have hix : ix x3 = i := i_ix h0
          have hpl : plF σ k p1 = i := by rw [← e, show stN σ k - i = 0 by (unfold stN; omega)]; rfl
          rw [show psS σ k p1 p2 = σ from if_neg (by rw [hpl]; omega)]
          exact g_zret hC hr hlocks rfl hY ⟨Nat.le_of_ble_eq_true rfl, Nat.le_of_ble_eq_true rfl⟩ dX0_putStep_39 (Or.inr ⟨rfl, by rw [hpl]; omega⟩)
      · refine lv_aload_n hx hb dX0_putStep_16 rfl (lv_at hl 1 rfl) ?_
        refine gtL_stepDays hC hin0 hY (k := k) hk (by decide +kernel) dX0_putStep_17 ?_
        refine lv_iload_n hx hb dX0_putStep_20 rfl (lv_at hl 0 rfl) ?_
        refine rdL13 hC hY (k := k) hk ⟨by omega, by omega⟩ dX0_putStep_21 ?_
        refine lv_iload_n hx hb dX0_putStep_22 rfl (lv_at hl 2 rfl) ?_
        refine b_icmp_eq (tgt := 32) hx hb dX0_putStep_23 (by decide) (fun (h5 : (rowF σ 13 k (ix x3)).toInt = p1.toInt) => ?_) (fun (h5 : ¬ (rowF σ 13 k (ix x3)).toInt = p1.toInt) => ?_)
        · refine lv_iload_n hx hb dX0_putStep_32 rfl (lv_at hl 0 rfl) ?_
          refine lv_bipush (v := 6) hx hb dX0_putStep_33 (by decide) ?_
          refine b_icmp_lt (tgt := 40) hx hb dX0_putStep_35 (by decide) (fun (h6 : x3.toInt < 6) => ?_) (fun (h6 : 6 ≤ x3.toInt) => ?_)
          · refine lv_aload_n hx hb dX0_putStep_40 rfl (lv_at hl 1 rfl) ?_
            refine gtL_stepDays hC hin0 hY (k := k) hk (by decide +kernel) dX0_putStep_41 ?_
            refine lv_iload_n hx hb dX0_putStep_44 rfl (lv_at hl 0 rfl) ?_
            refine lv_iload_n hx hb dX0_putStep_45 rfl (lv_at hl 2 rfl) ?_
            refine wrL13 hC hY (k := k) hk ⟨by omega, by omega⟩ dX0_putStep_46 (fun H locs hY => ?_)
            refine lv_aload_n hx hb dX0_putStep_47 rfl (lv_at hl 1 rfl) ?_
            refine gtL_stepRents hC hin0 hY (k := k) hk (by decide +kernel) dX0_putStep_48 ?_
            refine lv_iload_n hx hb dX0_putStep_51 rfl (lv_at hl 0 rfl) ?_
            refine lv_iload_n hx hb dX0_putStep_52 rfl (lv_at hl 3 rfl) ?_
            refine wrL14 hC hY (k := k) hk ⟨by omega, by omega⟩ dX0_putStep_53 (fun H locs hY => ?_)
            refine lv_aload_n hx hb dX0_putStep_54 rfl (lv_at hl 1 rfl) ?_
            refine lv_aload_n hx hb dX0_putStep_55 rfl (lv_at hl 1 rfl) ?_
            refine gtL_steps hC hin0 hY (k := k) hk (by decide +kernel) dX0_putStep_56 ?_
            refine lv_iload_n hx hb dX0_putStep_59 rfl (lv_at hl 0 rfl) ?_
            refine lv_iconst (v := 1) hx hb dX0_putStep_60 (by decide) ?_
            refine lv_iadd hx hb dX0_putStep_61 ?_
            refine va_mmax hx hb (hC.2.2.1.trans hl.1.symm) hC.2.2.2.1 (hC.2.2.2.2 _ (by decide +kernel)) (hC.2.2.2.2 _ (by decide +kernel)) (hC.2.2.2.2 _ (by decide +kernel)) (hC.2.2.2.2 _ (by decide +kernel)) (Nat.le_of_ble_eq_true rfl) (Nat.le_of_ble_eq_true rfl) (Nat.le_of_ble_eq_true rfl) (Nat.le_of_ble_eq_true rfl) dX0_putStep_62 ?_
            refine ptL_steps hC hin0 hY (k := k) hk (by decide +kernel) dX0_putStep_65 (fun H locs hY => ?_)
            refine lv_iconst (v := 1) hx hb dX0_putStep_68 (by decide) ?_
            have hix : ix x3 = i := i_ix h0
            have hf : stN σ k - i = (stN σ k - (i + 1)) + 1 := by unfold stN; omega
            have hpl : plF σ k p1 = i := by rw [← e, hf, plG_s]; exact if_pos (by rw [← hix]; exact h5)
            have hm : (if plF σ k p1 = stN σ k then σ 12 k + 1 else σ 12 k) = (if σ 12 k < x3 + 1 then x3 + 1 else σ 12 k) := by
              have h1 : (x3 + 1).toInt = x3.toInt + 1 := i_add (by have : (1 : Int32).toInt = 1 := rfl; omega)
              by_cases hz : i = stN σ k
              · rw [if_pos (by rw [hpl]; exact hz), if_pos (by rw [Int32.lt_iff_toInt_lt, h1, h0, hz]; unfold stN; omega), show x3 = σ 12 k from i_ext (by rw [h0, hz]; unfold stN; omega)]
              · rw [if_neg (by rw [hpl]; exact hz), if_neg (by rw [Int32.lt_iff_toInt_lt, h1, h0]; unfold stN at hz; omega)]
            rw [show psS σ k p1 p2 = (us (us (us σ 13 (6 * k + ix x3) p1) 14 (6 * k + ix x3) p2) 12 k (if ((us (us σ 13 (6 * k + ix x3) p1) 14 (6 * k + ix x3) p2) 12 k) < (x3 + 1) then (x3 + 1) else ((us (us σ 13 (6 * k + ix x3) p1) 14 (6 * k + ix x3) p2) 12 k))) from by unfold psS; rw [if_pos (by rw [hpl]; omega), hm, hpl, hix]; rfl]
            exact g_zret hC hr hlocks rfl hY ⟨Nat.le_of_ble_eq_true rfl, Nat.le_of_ble_eq_true rfl⟩ dX0_putStep_69 (Or.inl ⟨rfl, by rw [hpl]; omega⟩)
          · refine lv_iconst (v := 0) hx hb dX0_putStep_38 (by decide) ?_
            have hix : ix x3 = i := i_ix h0
            have hf : stN σ k - i = (stN σ k - (i + 1)) + 1 := by unfold stN; omega
            have hpl : plF σ k p1 = i := by rw [← e, hf, plG_s]; exact if_pos (by rw [← hix]; exact h5)
            rw [show psS σ k p1 p2 = σ from if_neg (by rw [hpl]; omega)]
            exact g_zret hC hr hlocks rfl hY ⟨Nat.le_of_ble_eq_true rfl, Nat.le_of_ble_eq_true rfl⟩ dX0_putStep_39 (Or.inr ⟨rfl, by rw [hpl]; omega⟩)
        · refine lv_iinc (v := x3 + 1) (lv' := [(3, .int (x3 + 1)), (0, .ref (ad (3 * k + 23))), (1, .int p1), (2, .int p2)]) hx hb dX0_putStep_26 hl (k := 0) rfl rfl (by decide) rfl (fun ls hl => ?_)
          refine lv_goto (tgt := 2) hx hb dX0_putStep_29 (by decide) ?_
          have hix : ix x3 = i := i_ix h0
          have hne : ¬ (rowF σ 13 k i).toInt = p1.toInt := by rw [← hix]; exact h5
          have hf : stN σ k - i = (stN σ k - (i + 1)) + 1 := by unfold stN; omega
          exact ih (x3 + 1) _ _ _ ⟨⟨by rw [i_add (by have : (1 : Int32).toInt = 1 := rfl; omega)]; have : (1 : Int32).toInt = 1 := rfl; omega, by omega, by rw [← e, hf, plG_s, if_neg hne]⟩, hY, lv_sub hl [0, 1, 2, 3] rfl⟩
  · intro i x H locs ls hI
    obtain ⟨x3, rfl⟩ : ∃ z, z = x := ⟨_, rfl⟩
    obtain ⟨hI, -, -⟩ := hI
    obtain ⟨h0, h9, e⟩ := hI
    omega
end

/-! the law's own rows -/
section GLW
variable {p : Program} {l : Launch} {e : Env} {R : Room} {s : State} {m : MethodId} {args : Array Value} {below : List Frame} {meth : Method} {c : Code} {H : Heap} {locs : List Loc} {cells slots : Nat} {Q : State → Prop}
variable {cc : ByteArray} {nL : Nat} {Ts : List Cond} {own : String} {pc : Nat} {ls : Array Slot} {rest st0 : List Value} {G : GG} {N : Nat} {ad : Nat → Nat} {ct : Nat → va_E} {mc ms : Nat}
theorem run_of_x {g : JFrame} {Qa : State → Outcome → State → Prop} {free : Addr → Prop} (hr : vx_Run p l e R s m args below meth c H locs cells slots mc ms g rest Qa (fun _ _ _ => False) free) : va_Run p l e R s m args below meth c H locs cells slots mc ms g rest Qa free := fun T hT X => (hr T hT X).elim (fun h => h) (fun h => by obtain ⟨_, _, _, _, _, _, _, _, _, _, _, _, h, _⟩ := h; exact h.elim)
theorem g_runL {y : MethodName} {ws ws' : List Cond} {rm : Room} {Qc : Array Value → State → Outcome → State → Prop} {bytes : ByteArray} {maxL index n : Nat} {ret : Option FieldType} {As : List Value} {hh : List (Nat × Nat × Nat × Nat)} (hC : CallFix p m c cc nL s args Ts own) (hM : vx_Met l y ws rm (va_Pc As (fun U => Sy G N ad ct U U.heap [])) Qc (fun _ _ _ => False) mc ms (gF G)) (hT : GoodIn Ts (va_wsS own index y ws)) (hw : ws = Cond.codeWith y bytes maxL ret hh :: ws') (hrc : rm.cells = mc ∧ rm.slots = ms) (hd : y.cls ≠ "java/lang/invoke/MethodHandle" ∧ y.cls ≠ "java/lang/invoke/VarHandle" ∧ (parseMethodDescriptor y.desc).map (fun d => d.parameters.length) = some n) (hR : rm.frames + 1 ≤ R.frames ∧ 8 + (maxL + 11) + rm.locals ≤ R.locals)
    (hY : Sy G N ad ct s H locs) (hn : As.length = n) (hsize : ls.size = nL) (hst : st0 = As.reverse ++ rest) (hW : (rest.map fun v => v.category).sum ≤ 8) (hdg : decode cc pc = .ok (.invokestatic index, 3)) (hf : cells + mc ≤ R.cells ∧ slots + ms ≤ R.slots) :
    va_Run p l e R s m args below meth c H locs cells slots mc ms (F0 m pc ls st0) rest (Qc As.toArray) (gF G) :=
  run_of_x (vx_runSX (As := As) (rest := rest) hC hM (vx_cwSW n hC.2.2.2.2 hT hw hrc.1 hrc.2 hd hR) (g_preS hY) rfl hn hsize hst (lv_room hW) hdg hf)
theorem g_lcmp (hexec : p.tables.exec = Jvm.exec) (hb : c.code = cc) {x : Int64} (hdg : decode cc pc = .ok (.lcmp, 1))
    (k : W p l e R s m args below meth c H locs cells slots Q (F0 m (pc + 1) ls (.int 0 :: rest))) : W p l e R s m args below meth c H locs cells slots Q (F0 m pc ls (.long x :: .long x :: rest)) := by
  intro T hT X
  obtain ⟨t, a, b⟩ := k T hT X
  refine ⟨t, ?_, b⟩
  jvm_step X.here [X.here.top, hexec, hb, hdg, Op.lcmp.sem, Int64.lt_irrefl]
  exact a
theorem g_scr {b L : Nat} {xs : Nat → Int32} (hC : CallFix p m c cc nL s args Ts own) (hY : Sy G N ad ct s H locs) (hX : va_X b L xs s s.heap) (hbl : b < s.heap.size) (hG : G.1 = s.heap.size) {x v : Int32} (hx : 0 ≤ x.toInt ∧ x.toInt < L) (hv : xs (ix x) = v) (hdg : decode cc pc = .ok (.iaload, 1))
    (kk : W p l e R s m args below meth c H locs cells slots Q (F0 m (pc + 1) ls (.int v :: rest))) : W p l e R s m args below meth c H locs cells slots Q (F0 m pc ls (.int x :: .ref b :: rest)) :=
  va_sld hC.1 hC.2.1 hX hbl (show ¬ G.1 ≤ b by omega) hY.2.2.2.1 (fun q => q.elim (fun h => by have h1 := i_lt.mp h; have h2 : (0 : Int32).toInt = 0 := rfl; omega) (fun h => by have := ix_lt hx; omega)) hdg (by subst hv; exact kk)
end GLW
abbrev lawlv (b : Nat) (ad : Nat → Nat) (i : Int32) : List (Nat × Value) := [(5, .int i), (0, .ref b), (1, .ref (ad 0)), (2, .ref (ad 5)), (3, .ref (ad 21)), (4, .ref (ad 22))]
/-- what a turn leaves to the law's loop -/
def Kt (p : Program) (l : Launch) (e : Env) (s : State) (m : MethodId) (below : List Frame) (meth : Method) (c : Code) (cells slots : Nat) (Q : State → Prop) (G : GG) (b : Nat) (i : Int32) : Prop := ∀ (σ : St) (n : Nat) (ad : Nat → Nat) (th : Int32) (o : OL) (od : OD) (H : Heap) (locs : List Loc) (ls : Array Slot), Inv σ n → SyS G ad σ n σ n th o od s H locs → lv_has ls 9 (lawlv b ad i) → W p l e room_1 s m #[.ref b] below meth c H locs (cells + 8) (slots + 60) Q (F0 m 1689 ls [])
theorem i_k {i : Int32} {L : Nat} (hi : 0 ≤ i.toInt ∧ i.toInt + 5 ≤ L) (hL : L ≤ 2560) (k : Int32) (hk : 0 ≤ k.toInt ∧ k.toInt ≤ 4) : 0 ≤ (i + k).toInt ∧ (i + k).toInt < L := by
  rw [i_add (by omega)]; omega
section LT
variable {p : Program} {e : Env} {s : State} {m : MethodId} {below : List Frame} {meth : Method} {c : Code} {H : Heap} {locs : List Loc} {cells slots : Nat} {Q : State → Prop} {ls : Array Slot} {G : GG} {ad : Nat → Nat} {σ : St} {n : Nat} {th : Int32} {o : OL} {od : OD} {b L : Nat} {xs : Nat → Int32} {i : Int32}
set_option maxHeartbeats 4000000 in
set_option maxRecDepth 100000 in
theorem t_setArea (l : Launch) (hst : l.stackTraces = false) (hC : CallFix p m c cL_law 9 s #[.ref b] wsL_law RL) (hI : Inv σ n) (hY : SyS G ad σ n σ n th o od s H locs) (hl : lv_has ls 9 (lawlv b ad i)) (hX : va_X b L xs s s.heap) (hbl : b < s.heap.size) (hG : G.1 = s.heap.size) (hi : 0 ≤ i.toInt ∧ i.toInt + 5 ≤ L) (hL : L ≤ 2560) (hcr : cells + 8 ≤ 601024 ∧ slots + 60 ≤ 7293033) (kk : Kt p l e s m below meth c cells slots Q G b i) : W p l e room_1 s m #[.ref b] below meth c H locs cells slots Q (F0 m 152 ls []) := by
  have hx := hC.1
  have hb := hC.2.1
  obtain ⟨p0, e0⟩ : ∃ z, xs (ix (i + 1)) = z := ⟨_, rfl⟩
  obtain ⟨p1, e1⟩ : ∃ z, xs (ix (i + 2)) = z := ⟨_, rfl⟩
  refine lv_aload_n hx hb dL_law_152 rfl (lv_at hl 2 rfl) ?_
  refine lv_aload_n hx hb dL_law_153 rfl (lv_at hl 1 rfl) ?_
  refine lv_iload hx hb dL_law_154 (lv_at hl 0 rfl) ?_
  refine lv_iconst (v := 1) hx hb dL_law_156 (by decide) ?_
  refine lv_iadd hx hb dL_law_157 ?_
  refine g_scr hC hY hX hbl hG (i_k hi hL 1 (by decide)) e0 dL_law_158 ?_
  refine lv_aload_n hx hb dL_law_159 rfl (lv_at hl 1 rfl) ?_
  refine lv_iload hx hb dL_law_160 (lv_at hl 0 rfl) ?_
  refine lv_iconst (v := 2) hx hb dL_law_162 (by decide) ?_
  refine lv_iadd hx hb dL_law_163 ?_
  refine g_scr hC hY hX hbl hG (i_k hi hL 2 (by decide)) e1 dL_law_164 ?_
  refine lv_aload_n hx hb dL_law_165 rfl (lv_at hl 4 rfl) ?_
  refine g_calli hY (g_runL (n := 4) hC (c_L_setArea l G ad σ n σ n th o od hst hI.1 hI.2.2.2.1 p0 p1) gL_law_L_setArea rfl ⟨rfl, rfl⟩ (by decide +kernel) ⟨Nat.le_of_ble_eq_true rfl, Nat.le_of_ble_eq_true rfl⟩ hY rfl hl.1 rfl (Nat.le_of_ble_eq_true rfl) dL_law_166 ⟨by show _ ≤ 601024; omega, by show _ ≤ 7293033; omega⟩) (fun r H locs hw hY => ?_)
  obtain rfl := hw
  refine lv_istore (lv' := [(6, .int (cdArea p0 p1)), (5, .int i), (0, .ref b), (1, .ref (ad 0)), (2, .ref (ad 5)), (3, .ref (ad 21)), (4, .ref (ad 22))]) hx hb dL_law_169 hl (by decide) rfl (fun ls hl => ?_)
  refine lv_aload_n hx hb dL_law_171 rfl (lv_at hl 4 rfl) ?_
  refine lv_aload_n hx hb dL_law_172 rfl (lv_at hl 2 rfl) ?_
  refine lv_iload hx hb dL_law_173 (lv_at hl 1 rfl) ?_
  refine lv_iconst (v := 1) hx hb dL_law_175 (by decide) ?_
  refine lv_iadd hx hb dL_law_176 ?_
  refine g_scr hC hY hX hbl hG (i_k hi hL 1 (by decide)) e0 dL_law_177 ?_
  refine lv_aload_n hx hb dL_law_178 rfl (lv_at hl 2 rfl) ?_
  refine lv_iload hx hb dL_law_179 (lv_at hl 1 rfl) ?_
  refine lv_iconst (v := 2) hx hb dL_law_181 (by decide) ?_
  refine lv_iadd hx hb dL_law_182 ?_
  refine g_scr hC hY hX hbl hG (i_k hi hL 2 (by decide)) e1 dL_law_183 ?_
  refine g_calli hY (g_runV (n := 2) (q := (RX2, TX2, 17)) (r := 5) hC (c_X2_setArea l G ad (if cdArea p0 p1 = 0 then us σ 0 (ix p0) p1 else σ) n σ n th (if cdArea p0 p1 = 0 then vp_updL o 0 ((σ 0 (ix p0)).toInt64) else o) od hI.1  p0 p1) gL_law_X2_setArea rfl ⟨rfl, rfl⟩ (by decide +kernel) ⟨Nat.le_of_ble_eq_true rfl, Nat.le_of_ble_eq_true rfl⟩ hY (by omega) rfl (ci := 2) rfl rfl hl.1 rfl (Nat.le_of_ble_eq_true rfl) dL_law_184 ⟨by show _ ≤ 601024; omega, by show _ ≤ 7293033; omega⟩) (fun r2 H locs h2 hY => ?_)
  refine lv_istore (lv' := [(7, .int r2), (6, .int (cdArea p0 p1)), (5, .int i), (0, .ref b), (1, .ref (ad 0)), (2, .ref (ad 5)), (3, .ref (ad 21)), (4, .ref (ad 22))]) hx hb dL_law_187 hl (by decide) rfl (fun ls hl => ?_)
  refine lv_aload_n hx hb dL_law_189 rfl (lv_at hl 5 rfl) ?_
  refine g_calli hY (g_runV (n := 0) (q := (RX2, TX2, 17)) (r := 5) hC (c_X2_thrown l G _ _ _ _ _ _ _ _) gL_law_X2_thrown rfl ⟨rfl, rfl⟩ (by decide +kernel) ⟨Nat.le_of_ble_eq_true rfl, Nat.le_of_ble_eq_true rfl⟩ hY (by omega) rfl (ci := 2) rfl rfl hl.1 rfl (Nat.le_of_ble_eq_true rfl) dL_law_190 ⟨by show _ ≤ 601024; omega, by show _ ≤ 7293033; omega⟩) (fun r3 H locs h3 hY => ?_)
  obtain rfl := h3
  refine lv_iload hx hb dL_law_193 (lv_at hl 1 rfl) ?_
  refine b_icmp_eq (tgt := 200) hx hb dL_law_195 (by decide) (fun _ => ?_) (fun h => absurd rfl h)
  refine lv_iload hx hb dL_law_200 (lv_at hl 1 rfl) ?_
  refine b_if_ne (tgt := 217) hx hb dL_law_202 (by decide) (fun h => ?_) (fun h => ?_)
  · have hcd : ¬ cdArea p0 p1 = 0 := fun q => h (by rw [q]; rfl)
    simp only [if_neg hcd] at hY
    refine lv_goto (tgt := 1689) hx hb dL_law_217 (by decide) ?_
    exact W.widen (by omega) (by omega) (kk σ n ad _ _ _ _ _ _ hI hY (lv_sub hl [2, 3, 4, 5, 6, 7] rfl))
  · have hcd : cdArea p0 p1 = 0 := i_ext h
    simp only [if_pos hcd] at hY
    have hr : (0 ≤ p0.toInt ∧ p0.toInt < 6) ∧ 0 ≤ p1.toInt ∧ p1.toInt ≤ 999 := by
      unfold cdArea at hcd
      (repeat' split at hcd) <;> first | (exact absurd hcd (by decide)) | omega
    have ev : r2.toInt64 = (σ 0 (ix p0)).toInt64 := by
      rw [h2 hcd]
    refine lv_aload_n hx hb dL_law_205 rfl (lv_at hl 6 rfl) ?_
    refine lv_iconst (v := 0) hx hb dL_law_206 (by decide) ?_
    refine rdO hC hY dL_law_207 ?_
    refine lv_iload hx hb dL_law_208 (lv_at hl 0 rfl) ?_
    refine lv_i2l hx hb dL_law_210 rfl ?_
    refine W.eq (g2 := F0 m 211 ls [.long (σ 0 (ix p0)).toInt64, .long (σ 0 (ix p0)).toInt64]) (by rw [ev]; rfl) ?_
    refine g_lcmp hx hb dL_law_211 ?_
    refine b_if_eq (tgt := 217) hx hb dL_law_212 (by decide) (fun _ => ?_) (fun h => absurd rfl h)
    refine lv_goto (tgt := 1689) hx hb dL_law_217 (by decide) ?_
    exact W.widen (by omega) (by omega) (kk (us σ 0 (ix p0) p1) n ad _ _ _ _ _ _ (inv_t hI (by decide) (fun _ => hr.2) (fun q => absurd q (by decide))) hY (lv_sub hl [2, 3, 4, 5, 6, 7] rfl))

set_option maxHeartbeats 4000000 in
set_option maxRecDepth 100000 in
theorem t_leases (l : Launch) (hst : l.stackTraces = false) (hC : CallFix p m c cL_law 9 s #[.ref b] wsL_law RL) (hI : Inv σ n) (hY : SyS G ad σ n σ n th o od s H locs) (hl : lv_has ls 9 (lawlv b ad i)) (hX : va_X b L xs s s.heap) (hbl : b < s.heap.size) (hG : G.1 = s.heap.size) (hi : 0 ≤ i.toInt ∧ i.toInt + 5 ≤ L) (hL : L ≤ 2560) (hcr : cells + 8 ≤ 601024 ∧ slots + 60 ≤ 7293033) (kk : Kt p l e s m below meth c cells slots Q G b i) : W p l e room_1 s m #[.ref b] below meth c H locs cells slots Q (F0 m 920 ls []) := by
  have hx := hC.1
  have hb := hC.2.1
  refine lv_aload_n hx hb dL_law_920 rfl (lv_at hl 2 rfl) ?_
  refine g_calli hY (g_runV (n := 0) (q := (RX1, TX1, 5)) (r := 0) hC (c_X1_leases l G ad σ n σ n th o od) gL_law_X1_leases rfl ⟨rfl, rfl⟩ (by decide +kernel) ⟨Nat.le_of_ble_eq_true rfl, Nat.le_of_ble_eq_true rfl⟩ hY (by omega) rfl (ci := 1) rfl rfl hl.1 rfl (Nat.le_of_ble_eq_true rfl) dL_law_921 ⟨by show _ ≤ 601024; omega, by show _ ≤ 7293033; omega⟩) (fun r1 H locs h1 hY => ?_)
  refine lv_aload_n hx hb dL_law_924 rfl (lv_at hl 3 rfl) ?_
  refine g_calli hY (g_runV (n := 0) (q := (RX2, TX2, 17)) (r := 5) hC (c_X2_leases l G ad σ n σ n th o od) gL_law_X2_leases rfl ⟨rfl, rfl⟩ (by decide +kernel) ⟨Nat.le_of_ble_eq_true rfl, Nat.le_of_ble_eq_true rfl⟩ hY (by omega) rfl (ci := 2) rfl rfl hl.1 rfl (Nat.le_of_ble_eq_true rfl) dL_law_925 ⟨by show _ ≤ 601024; omega, by show _ ≤ 7293033; omega⟩) (fun r2 H locs h2 hY => ?_)
  obtain rfl := h1
  obtain rfl := h2
  refine b_icmp_eq (tgt := 1689) hx hb dL_law_928 (by decide) (fun _ => ?_) (fun h => absurd rfl h)
  exact W.widen (by omega) (by omega) (kk σ n ad _ _ _ _ _ _ hI hY hl)

end LT

/-! the law's own rows -/
section GLW
variable {p : Program} {l : Launch} {e : Env} {R : Room} {s : State} {m : MethodId} {args : Array Value} {below : List Frame} {meth : Method} {c : Code} {H : Heap} {locs : List Loc} {cells slots : Nat} {Q : State → Prop}
variable {cc : ByteArray} {nL : Nat} {Ts : List Cond} {own : String} {pc : Nat} {ls : Array Slot} {rest st0 : List Value} {G : GG} {N : Nat} {ad : Nat → Nat} {ct : Nat → va_E} {mc ms : Nat}
theorem run_of_x {g : JFrame} {Qa : State → Outcome → State → Prop} {free : Addr → Prop} (hr : vx_Run p l e R s m args below meth c H locs cells slots mc ms g rest Qa (fun _ _ _ => False) free) : va_Run p l e R s m args below meth c H locs cells slots mc ms g rest Qa free := fun T hT X => (hr T hT X).elim (fun h => h) (fun h => by obtain ⟨_, _, _, _, _, _, _, _, _, _, _, _, h, _⟩ := h; exact h.elim)
theorem g_runL {y : MethodName} {ws ws' : List Cond} {rm : Room} {Qc : Array Value → State → Outcome → State → Prop} {bytes : ByteArray} {maxL index n : Nat} {ret : Option FieldType} {As : List Value} {hh : List (Nat × Nat × Nat × Nat)} (hC : CallFix p m c cc nL s args Ts own) (hM : vx_Met l y ws rm (va_Pc As (fun U => Sy G N ad ct U U.heap [])) Qc (fun _ _ _ => False) mc ms (gF G)) (hT : GoodIn Ts (va_wsS own index y ws)) (hw : ws = Cond.codeWith y bytes maxL ret hh :: ws') (hrc : rm.cells = mc ∧ rm.slots = ms) (hd : y.cls ≠ "java/lang/invoke/MethodHandle" ∧ y.cls ≠ "java/lang/invoke/VarHandle" ∧ (parseMethodDescriptor y.desc).map (fun d => d.parameters.length) = some n) (hR : rm.frames + 1 ≤ R.frames ∧ 8 + (maxL + 11) + rm.locals ≤ R.locals)
    (hY : Sy G N ad ct s H locs) (hn : As.length = n) (hsize : ls.size = nL) (hst : st0 = As.reverse ++ rest) (hW : (rest.map fun v => v.category).sum ≤ 8) (hdg : decode cc pc = .ok (.invokestatic index, 3)) (hf : cells + mc ≤ R.cells ∧ slots + ms ≤ R.slots) :
    va_Run p l e R s m args below meth c H locs cells slots mc ms (F0 m pc ls st0) rest (Qc As.toArray) (gF G) :=
  run_of_x (vx_runSX (As := As) (rest := rest) hC hM (vx_cwSW n hC.2.2.2.2 hT hw hrc.1 hrc.2 hd hR) (g_preS hY) rfl hn hsize hst (lv_room hW) hdg hf)
theorem g_lcmp (hexec : p.tables.exec = Jvm.exec) (hb : c.code = cc) {x : Int64} (hdg : decode cc pc = .ok (.lcmp, 1))
    (k : W p l e R s m args below meth c H locs cells slots Q (F0 m (pc + 1) ls (.int 0 :: rest))) : W p l e R s m args below meth c H locs cells slots Q (F0 m pc ls (.long x :: .long x :: rest)) := by
  intro T hT X
  obtain ⟨t, a, b⟩ := k T hT X
  refine ⟨t, ?_, b⟩
  jvm_step X.here [X.here.top, hexec, hb, hdg, Op.lcmp.sem, Int64.lt_irrefl]
  exact a
theorem g_scr {b L : Nat} {xs : Nat → Int32} (hC : CallFix p m c cc nL s args Ts own) (hY : Sy G N ad ct s H locs) (hX : va_X b L xs s s.heap) (hbl : b < s.heap.size) (hG : G.1 = s.heap.size) {x v : Int32} (hx : 0 ≤ x.toInt ∧ x.toInt < L) (hv : xs (ix x) = v) (hdg : decode cc pc = .ok (.iaload, 1))
    (kk : W p l e R s m args below meth c H locs cells slots Q (F0 m (pc + 1) ls (.int v :: rest))) : W p l e R s m args below meth c H locs cells slots Q (F0 m pc ls (.int x :: .ref b :: rest)) :=
  va_sld hC.1 hC.2.1 hX hbl (show ¬ G.1 ≤ b by omega) hY.2.2.2.1 (fun q => q.elim (fun h => by have h1 := i_lt.mp h; have h2 : (0 : Int32).toInt = 0 := rfl; omega) (fun h => absurd (ix_lt hx) (Nat.not_lt.mpr h))) hdg (by subst hv; exact kk)
end GLW
abbrev lawlv (b : Nat) (ad : Nat → Nat) (i : Int32) : List (Nat × Value) := [(5, .int i), (0, .ref b), (1, .ref (ad 0)), (2, .ref (ad 5)), (3, .ref (ad 21)), (4, .ref (ad 22))]
/-- what a turn leaves to the law's loop -/
def Kt (p : Program) (l : Launch) (e : Env) (s : State) (m : MethodId) (below : List Frame) (meth : Method) (c : Code) (cells slots : Nat) (Q : State → Prop) (G : GG) (b : Nat) (i : Int32) : Prop := ∀ (σ : St) (n : Nat) (ad : Nat → Nat) (th : Int32) (o : OL) (od : OD) (H : Heap) (locs : List Loc) (ls : Array Slot), Inv σ n → SyS G ad σ n σ n th o od s H locs → lv_has ls 9 (lawlv b ad i) → W p l e room_1 s m #[.ref b] below meth c H locs (cells + 8) (slots + 60) Q (F0 m 1689 ls [])
theorem i_k {i : Int32} {L : Nat} (hi : 0 ≤ i.toInt ∧ i.toInt + 5 ≤ L) (hL : L ≤ 2560) (k : Int32) (hk : 0 ≤ k.toInt ∧ k.toInt ≤ 4) : 0 ≤ (i + k).toInt ∧ (i + k).toInt < L := by
  rw [i_add (by omega)]; omega
section LT
variable {p : Program} {e : Env} {s : State} {m : MethodId} {below : List Frame} {meth : Method} {c : Code} {H : Heap} {locs : List Loc} {cells slots : Nat} {Q : State → Prop} {ls : Array Slot} {G : GG} {ad : Nat → Nat} {σ : St} {n : Nat} {th : Int32} {o : OL} {od : OD} {b L : Nat} {xs : Nat → Int32} {i : Int32}
set_option maxHeartbeats 4000000 in
set_option maxRecDepth 100000 in
theorem t_setArea (l : Launch) (hst : l.stackTraces = false) (hC : CallFix p m c cL_law 9 s #[.ref b] wsL_law RL) (hI : Inv σ n) (hY : SyS G ad σ n σ n th o od s H locs) (hl : lv_has ls 9 (lawlv b ad i)) (hX : va_X b L xs s s.heap) (hbl : b < s.heap.size) (hG : G.1 = s.heap.size) (hi : 0 ≤ i.toInt ∧ i.toInt + 5 ≤ L) (hL : L ≤ 2560) (hcr : cells + 8 ≤ 601024 ∧ slots + 60 ≤ 7293033) (kk : Kt p l e s m below meth c cells slots Q G b i) : W p l e room_1 s m #[.ref b] below meth c H locs cells slots Q (F0 m 152 ls []) := by
  have hx := hC.1
  have hb := hC.2.1
  obtain ⟨p0, e0⟩ : ∃ z, xs (ix (i + 1)) = z := ⟨_, rfl⟩
  obtain ⟨p1, e1⟩ : ∃ z, xs (ix (i + 2)) = z := ⟨_, rfl⟩
  refine lv_aload_n hx hb dL_law_152 rfl (lv_at hl 2 rfl) ?_
  refine lv_aload_n hx hb dL_law_153 rfl (lv_at hl 1 rfl) ?_
  refine lv_iload hx hb dL_law_154 (lv_at hl 0 rfl) ?_
  refine lv_iconst (v := 1) hx hb dL_law_156 (by decide) ?_
  refine lv_iadd hx hb dL_law_157 ?_
  refine g_scr hC hY hX hbl hG (i_k hi hL 1 (by decide)) e0 dL_law_158 ?_
  refine lv_aload_n hx hb dL_law_159 rfl (lv_at hl 1 rfl) ?_
  refine lv_iload hx hb dL_law_160 (lv_at hl 0 rfl) ?_
  refine lv_iconst (v := 2) hx hb dL_law_162 (by decide) ?_
  refine lv_iadd hx hb dL_law_163 ?_
  refine g_scr hC hY hX hbl hG (i_k hi hL 2 (by decide)) e1 dL_law_164 ?_
  refine lv_aload_n hx hb dL_law_165 rfl (lv_at hl 4 rfl) ?_
  refine g_calli hY (g_runL (n := 4) hC (c_L_setArea l G ad σ n σ n th o od hst hI.1 hI.2.2.2.1 p0 p1) gL_law_L_setArea rfl ⟨rfl, rfl⟩ (by decide +kernel) ⟨Nat.le_of_ble_eq_true rfl, Nat.le_of_ble_eq_true rfl⟩ hY rfl hl.1 rfl (Nat.le_of_ble_eq_true rfl) dL_law_166 ⟨by show _ ≤ 601024; omega, by show _ ≤ 7293033; omega⟩) (fun r H locs hw hY => ?_)
  obtain rfl := hw
  refine lv_istore (lv' := [(6, .int (cdArea p0 p1)), (5, .int i), (0, .ref b), (1, .ref (ad 0)), (2, .ref (ad 5)), (3, .ref (ad 21)), (4, .ref (ad 22))]) hx hb dL_law_169 hl (by decide) rfl (fun ls hl => ?_)
  refine lv_aload_n hx hb dL_law_171 rfl (lv_at hl 4 rfl) ?_
  refine lv_aload_n hx hb dL_law_172 rfl (lv_at hl 2 rfl) ?_
  refine lv_iload hx hb dL_law_173 (lv_at hl 1 rfl) ?_
  refine lv_iconst (v := 1) hx hb dL_law_175 (by decide) ?_
  refine lv_iadd hx hb dL_law_176 ?_
  refine g_scr hC hY hX hbl hG (i_k hi hL 1 (by decide)) e0 dL_law_177 ?_
  refine lv_aload_n hx hb dL_law_178 rfl (lv_at hl 2 rfl) ?_
  refine lv_iload hx hb dL_law_179 (lv_at hl 1 rfl) ?_
  refine lv_iconst (v := 2) hx hb dL_law_181 (by decide) ?_
  refine lv_iadd hx hb dL_law_182 ?_
  refine g_scr hC hY hX hbl hG (i_k hi hL 2 (by decide)) e1 dL_law_183 ?_
  refine g_calli hY (g_runV (n := 2) (q := (RX2, TX2, 17)) (r := 5) hC (c_X2_setArea l G ad (if cdArea p0 p1 = 0 then us σ 0 (ix p0) p1 else σ) n σ n th (if cdArea p0 p1 = 0 then vp_updL o 0 ((σ 0 (ix p0)).toInt64) else o) od hI.1  p0 p1) gL_law_X2_setArea rfl ⟨rfl, rfl⟩ (by decide +kernel) ⟨Nat.le_of_ble_eq_true rfl, Nat.le_of_ble_eq_true rfl⟩ hY (by omega) rfl (ci := 2) rfl rfl hl.1 rfl (Nat.le_of_ble_eq_true rfl) dL_law_184 ⟨by show _ ≤ 601024; omega, by show _ ≤ 7293033; omega⟩) (fun r2 H locs h2 hY => ?_)
  refine lv_istore (lv' := [(7, .int r2), (6, .int (cdArea p0 p1)), (5, .int i), (0, .ref b), (1, .ref (ad 0)), (2, .ref (ad 5)), (3, .ref (ad 21)), (4, .ref (ad 22))]) hx hb dL_law_187 hl (by decide) rfl (fun ls hl => ?_)
  refine lv_aload_n hx hb dL_law_189 rfl (lv_at hl 5 rfl) ?_
  refine g_calli hY (g_runV (n := 0) (q := (RX2, TX2, 17)) (r := 5) hC (c_X2_thrown l G _ _ _ _ _ _ _ _) gL_law_X2_thrown rfl ⟨rfl, rfl⟩ (by decide +kernel) ⟨Nat.le_of_ble_eq_true rfl, Nat.le_of_ble_eq_true rfl⟩ hY (by omega) rfl (ci := 2) rfl rfl hl.1 rfl (Nat.le_of_ble_eq_true rfl) dL_law_190 ⟨by show _ ≤ 601024; omega, by show _ ≤ 7293033; omega⟩) (fun r3 H locs h3 hY => ?_)
  obtain rfl := h3
  refine lv_iload hx hb dL_law_193 (lv_at hl 1 rfl) ?_
  refine b_icmp_eq (tgt := 200) hx hb dL_law_195 (by decide) (fun _ => ?_) (fun h => absurd rfl h)
  refine lv_iload hx hb dL_law_200 (lv_at hl 1 rfl) ?_
  refine b_if_ne (tgt := 217) hx hb dL_law_202 (by decide) (fun h => ?_) (fun h => ?_)
  · have hcd : ¬ cdArea p0 p1 = 0 := fun q => h (by rw [q]; rfl)
    simp only [if_neg hcd] at hY
    refine lv_goto (tgt := 1689) hx hb dL_law_217 (by decide) ?_
    exact W.widen (by omega) (by omega) (kk σ n ad _ _ _ _ _ _ hI hY (lv_sub hl [2, 3, 4, 5, 6, 7] rfl))
  · have hcd : cdArea p0 p1 = 0 := i_ext h
    simp only [if_pos hcd] at hY
    have hr : (0 ≤ p0.toInt ∧ p0.toInt < 6) ∧ 0 ≤ p1.toInt ∧ p1.toInt ≤ 999 := by
      unfold cdArea at hcd
      (repeat' split at hcd) <;> first | (exact absurd hcd (by decide)) | omega
    have ev : r2.toInt64 = (σ 0 (ix p0)).toInt64 := by
      rw [h2 hcd]
    refine lv_aload_n hx hb dL_law_205 rfl (lv_at hl 6 rfl) ?_
    refine lv_iconst (v := 0) hx hb dL_law_206 (by decide) ?_
    refine rdO hC hY dL_law_207 ?_
    refine lv_iload hx hb dL_law_208 (lv_at hl 0 rfl) ?_
    refine lv_i2l hx hb dL_law_210 rfl ?_
    refine W.eq (g2 := F0 m 211 ls [.long (σ 0 (ix p0)).toInt64, .long (σ 0 (ix p0)).toInt64]) (by rw [ev]; rfl) ?_
    refine g_lcmp hx hb dL_law_211 ?_
    refine b_if_eq (tgt := 217) hx hb dL_law_212 (by decide) (fun _ => ?_) (fun h => absurd rfl h)
    refine lv_goto (tgt := 1689) hx hb dL_law_217 (by decide) ?_
    exact W.widen (by omega) (by omega) (kk (us σ 0 (ix p0) p1) n ad _ _ _ _ _ _ (inv_t hI (by decide) (fun _ => hr.2) (fun q => absurd q (by decide))) hY (lv_sub hl [2, 3, 4, 5, 6, 7] rfl))

set_option maxHeartbeats 4000000 in
set_option maxRecDepth 100000 in
theorem t_setIndex (l : Launch) (hst : l.stackTraces = false) (hC : CallFix p m c cL_law 9 s #[.ref b] wsL_law RL) (hI : Inv σ n) (hY : SyS G ad σ n σ n th o od s H locs) (hl : lv_has ls 9 (lawlv b ad i)) (hX : va_X b L xs s s.heap) (hbl : b < s.heap.size) (hG : G.1 = s.heap.size) (hi : 0 ≤ i.toInt ∧ i.toInt + 5 ≤ L) (hL : L ≤ 2560) (hcr : cells + 8 ≤ 601024 ∧ slots + 60 ≤ 7293033) (kk : Kt p l e s m below meth c cells slots Q G b i) : W p l e room_1 s m #[.ref b] below meth c H locs cells slots Q (F0 m 220 ls []) := by
  have hx := hC.1
  have hb := hC.2.1
  obtain ⟨p0, e0⟩ : ∃ z, xs (ix (i + 1)) = z := ⟨_, rfl⟩
  obtain ⟨p1, e1⟩ : ∃ z, xs (ix (i + 2)) = z := ⟨_, rfl⟩
  refine lv_aload_n hx hb dL_law_220 rfl (lv_at hl 2 rfl) ?_
  refine lv_aload_n hx hb dL_law_221 rfl (lv_at hl 1 rfl) ?_
  refine lv_iload hx hb dL_law_222 (lv_at hl 0 rfl) ?_
  refine lv_iconst (v := 1) hx hb dL_law_224 (by decide) ?_
  refine lv_iadd hx hb dL_law_225 ?_
  refine g_scr hC hY hX hbl hG (i_k hi hL 1 (by decide)) e0 dL_law_226 ?_
  refine lv_aload_n hx hb dL_law_227 rfl (lv_at hl 1 rfl) ?_
  refine lv_iload hx hb dL_law_228 (lv_at hl 0 rfl) ?_
  refine lv_iconst (v := 2) hx hb dL_law_230 (by decide) ?_
  refine lv_iadd hx hb dL_law_231 ?_
  refine g_scr hC hY hX hbl hG (i_k hi hL 2 (by decide)) e1 dL_law_232 ?_
  refine lv_aload_n hx hb dL_law_233 rfl (lv_at hl 4 rfl) ?_
  refine g_calli hY (g_runL (n := 4) hC (c_L_setIndex l G ad σ n σ n th o od hst hI.1 hI.2.2.2.1 p0 p1) gL_law_L_setIndex rfl ⟨rfl, rfl⟩ (by decide +kernel) ⟨Nat.le_of_ble_eq_true rfl, Nat.le_of_ble_eq_true rfl⟩ hY rfl hl.1 rfl (Nat.le_of_ble_eq_true rfl) dL_law_234 ⟨by show _ ≤ 601024; omega, by show _ ≤ 7293033; omega⟩) (fun r H locs hw hY => ?_)
  obtain rfl := hw
  refine lv_istore (lv' := [(6, .int (cdIndex p0 p1)), (5, .int i), (0, .ref b), (1, .ref (ad 0)), (2, .ref (ad 5)), (3, .ref (ad 21)), (4, .ref (ad 22))]) hx hb dL_law_237 hl (by decide) rfl (fun ls hl => ?_)
  refine lv_aload_n hx hb dL_law_239 rfl (lv_at hl 4 rfl) ?_
  refine lv_aload_n hx hb dL_law_240 rfl (lv_at hl 2 rfl) ?_
  refine lv_iload hx hb dL_law_241 (lv_at hl 1 rfl) ?_
  refine lv_iconst (v := 1) hx hb dL_law_243 (by decide) ?_
  refine lv_iadd hx hb dL_law_244 ?_
  refine g_scr hC hY hX hbl hG (i_k hi hL 1 (by decide)) e0 dL_law_245 ?_
  refine lv_aload_n hx hb dL_law_246 rfl (lv_at hl 2 rfl) ?_
  refine lv_iload hx hb dL_law_247 (lv_at hl 1 rfl) ?_
  refine lv_iconst (v := 2) hx hb dL_law_249 (by decide) ?_
  refine lv_iadd hx hb dL_law_250 ?_
  refine g_scr hC hY hX hbl hG (i_k hi hL 2 (by decide)) e1 dL_law_251 ?_
  refine g_calli hY (g_runV (n := 2) (q := (RX2, TX2, 17)) (r := 5) hC (c_X2_setIndex l G ad (if cdIndex p0 p1 = 0 then us σ 1 (ix p0) p1 else σ) n σ n th (if cdIndex p0 p1 = 0 then vp_updL o 0 ((σ 1 (ix p0)).toInt64) else o) od hI.1  p0 p1) gL_law_X2_setIndex rfl ⟨rfl, rfl⟩ (by decide +kernel) ⟨Nat.le_of_ble_eq_true rfl, Nat.le_of_ble_eq_true rfl⟩ hY (by omega) rfl (ci := 2) rfl rfl hl.1 rfl (Nat.le_of_ble_eq_true rfl) dL_law_252 ⟨by show _ ≤ 601024; omega, by show _ ≤ 7293033; omega⟩) (fun r2 H locs h2 hY => ?_)
  refine lv_istore (lv' := [(7, .int r2), (6, .int (cdIndex p0 p1)), (5, .int i), (0, .ref b), (1, .ref (ad 0)), (2, .ref (ad 5)), (3, .ref (ad 21)), (4, .ref (ad 22))]) hx hb dL_law_255 hl (by decide) rfl (fun ls hl => ?_)
  refine lv_aload_n hx hb dL_law_257 rfl (lv_at hl 5 rfl) ?_
  refine g_calli hY (g_runV (n := 0) (q := (RX2, TX2, 17)) (r := 5) hC (c_X2_thrown l G _ _ _ _ _ _ _ _) gL_law_X2_thrown rfl ⟨rfl, rfl⟩ (by decide +kernel) ⟨Nat.le_of_ble_eq_true rfl, Nat.le_of_ble_eq_true rfl⟩ hY (by omega) rfl (ci := 2) rfl rfl hl.1 rfl (Nat.le_of_ble_eq_true rfl) dL_law_258 ⟨by show _ ≤ 601024; omega, by show _ ≤ 7293033; omega⟩) (fun r3 H locs h3 hY => ?_)
  obtain rfl := h3
  refine lv_iload hx hb dL_law_261 (lv_at hl 1 rfl) ?_
  refine b_icmp_eq (tgt := 268) hx hb dL_law_263 (by decide) (fun _ => ?_) (fun h => absurd rfl h)
  refine lv_iload hx hb dL_law_268 (lv_at hl 1 rfl) ?_
  refine b_if_ne (tgt := 285) hx hb dL_law_270 (by decide) (fun h => ?_) (fun h => ?_)
  · have hcd : ¬ cdIndex p0 p1 = 0 := fun q => h (by rw [q]; rfl)
    simp only [if_neg hcd] at hY
    refine lv_goto (tgt := 1689) hx hb dL_law_285 (by decide) ?_
    exact W.widen (by omega) (by omega) (kk σ n ad _ _ _ _ _ _ hI hY (lv_sub hl [2, 3, 4, 5, 6, 7] rfl))
  · have hcd : cdIndex p0 p1 = 0 := i_ext h
    simp only [if_pos hcd] at hY
    have hr : (0 ≤ p0.toInt ∧ p0.toInt < 240) ∧ 10 ≤ p1.toInt ∧ p1.toInt ≤ 999 := by
      unfold cdIndex at hcd
      (repeat' split at hcd) <;> first | (exact absurd hcd (by decide)) | omega
    have ev : r2.toInt64 = (σ 1 (ix p0)).toInt64 := by
      rw [h2 hcd]
    refine lv_aload_n hx hb dL_law_273 rfl (lv_at hl 6 rfl) ?_
    refine lv_iconst (v := 0) hx hb dL_law_274 (by decide) ?_
    refine rdO hC hY dL_law_275 ?_
    refine lv_iload hx hb dL_law_276 (lv_at hl 0 rfl) ?_
    refine lv_i2l hx hb dL_law_278 rfl ?_
    refine W.eq (g2 := F0 m 279 ls [.long (σ 1 (ix p0)).toInt64, .long (σ 1 (ix p0)).toInt64]) (by rw [ev]; rfl) ?_
    refine g_lcmp hx hb dL_law_279 ?_
    refine b_if_eq (tgt := 285) hx hb dL_law_280 (by decide) (fun _ => ?_) (fun h => absurd rfl h)
    refine lv_goto (tgt := 1689) hx hb dL_law_285 (by decide) ?_
    exact W.widen (by omega) (by omega) (kk (us σ 1 (ix p0) p1) n ad _ _ _ _ _ _ (inv_t hI (by decide) (fun q => absurd q (by decide)) (fun _ => hr.2)) hY (lv_sub hl [2, 3, 4, 5, 6, 7] rfl))

set_option maxHeartbeats 4000000 in
set_option maxRecDepth 100000 in
theorem t_setCost (l : Launch) (hst : l.stackTraces = false) (hC : CallFix p m c cL_law 9 s #[.ref b] wsL_law RL) (hI : Inv σ n) (hY : SyS G ad σ n σ n th o od s H locs) (hl : lv_has ls 9 (lawlv b ad i)) (hX : va_X b L xs s s.heap) (hbl : b < s.heap.size) (hG : G.1 = s.heap.size) (hi : 0 ≤ i.toInt ∧ i.toInt + 5 ≤ L) (hL : L ≤ 2560) (hcr : cells + 8 ≤ 601024 ∧ slots + 60 ≤ 7293033) (kk : Kt p l e s m below meth c cells slots Q G b i) : W p l e room_1 s m #[.ref b] below meth c H locs cells slots Q (F0 m 288 ls []) := by
  have hx := hC.1
  have hb := hC.2.1
  obtain ⟨p0, e0⟩ : ∃ z, xs (ix (i + 1)) = z := ⟨_, rfl⟩
  obtain ⟨p1, e1⟩ : ∃ z, xs (ix (i + 2)) = z := ⟨_, rfl⟩
  refine lv_aload_n hx hb dL_law_288 rfl (lv_at hl 2 rfl) ?_
  refine lv_aload_n hx hb dL_law_289 rfl (lv_at hl 1 rfl) ?_
  refine lv_iload hx hb dL_law_290 (lv_at hl 0 rfl) ?_
  refine lv_iconst (v := 1) hx hb dL_law_292 (by decide) ?_
  refine lv_iadd hx hb dL_law_293 ?_
  refine g_scr hC hY hX hbl hG (i_k hi hL 1 (by decide)) e0 dL_law_294 ?_
  refine lv_aload_n hx hb dL_law_295 rfl (lv_at hl 1 rfl) ?_
  refine lv_iload hx hb dL_law_296 (lv_at hl 0 rfl) ?_
  refine lv_iconst (v := 2) hx hb dL_law_298 (by decide) ?_
  refine lv_iadd hx hb dL_law_299 ?_
  refine g_scr hC hY hX hbl hG (i_k hi hL 2 (by decide)) e1 dL_law_300 ?_
  refine lv_aload_n hx hb dL_law_301 rfl (lv_at hl 4 rfl) ?_
  refine g_calli hY (g_runL (n := 4) hC (c_L_setCost l G ad σ n σ n th o od hst hI.1 hI.2.2.2.1 p0 p1) gL_law_L_setCost rfl ⟨rfl, rfl⟩ (by decide +kernel) ⟨Nat.le_of_ble_eq_true rfl, Nat.le_of_ble_eq_true rfl⟩ hY rfl hl.1 rfl (Nat.le_of_ble_eq_true rfl) dL_law_302 ⟨by show _ ≤ 601024; omega, by show _ ≤ 7293033; omega⟩) (fun r H locs hw hY => ?_)
  obtain rfl := hw
  refine lv_istore (lv' := [(6, .int (cdCost p0 p1)), (5, .int i), (0, .ref b), (1, .ref (ad 0)), (2, .ref (ad 5)), (3, .ref (ad 21)), (4, .ref (ad 22))]) hx hb dL_law_305 hl (by decide) rfl (fun ls hl => ?_)
  refine lv_aload_n hx hb dL_law_307 rfl (lv_at hl 4 rfl) ?_
  refine lv_aload_n hx hb dL_law_308 rfl (lv_at hl 2 rfl) ?_
  refine lv_iload hx hb dL_law_309 (lv_at hl 1 rfl) ?_
  refine lv_iconst (v := 1) hx hb dL_law_311 (by decide) ?_
  refine lv_iadd hx hb dL_law_312 ?_
  refine g_scr hC hY hX hbl hG (i_k hi hL 1 (by decide)) e0 dL_law_313 ?_
  refine lv_aload_n hx hb dL_law_314 rfl (lv_at hl 2 rfl) ?_
  refine lv_iload hx hb dL_law_315 (lv_at hl 1 rfl) ?_
  refine lv_iconst (v := 2) hx hb dL_law_317 (by decide) ?_
  refine lv_iadd hx hb dL_law_318 ?_
  refine g_scr hC hY hX hbl hG (i_k hi hL 2 (by decide)) e1 dL_law_319 ?_
  refine g_calli hY (g_runV (n := 2) (q := (RX2, TX2, 17)) (r := 5) hC (c_X2_setCost l G ad (if cdCost p0 p1 = 0 then us σ 2 (ix p0) p1 else σ) n σ n th (if cdCost p0 p1 = 0 then vp_updL o 0 ((σ 2 (ix p0)).toInt64) else o) od hI.1  p0 p1) gL_law_X2_setCost rfl ⟨rfl, rfl⟩ (by decide +kernel) ⟨Nat.le_of_ble_eq_true rfl, Nat.le_of_ble_eq_true rfl⟩ hY (by omega) rfl (ci := 2) rfl rfl hl.1 rfl (Nat.le_of_ble_eq_true rfl) dL_law_320 ⟨by show _ ≤ 601024; omega, by show _ ≤ 7293033; omega⟩) (fun r2 H locs h2 hY => ?_)
  refine lv_istore (lv' := [(7, .int r2), (6, .int (cdCost p0 p1)), (5, .int i), (0, .ref b), (1, .ref (ad 0)), (2, .ref (ad 5)), (3, .ref (ad 21)), (4, .ref (ad 22))]) hx hb dL_law_323 hl (by decide) rfl (fun ls hl => ?_)
  refine lv_aload_n hx hb dL_law_325 rfl (lv_at hl 5 rfl) ?_
  refine g_calli hY (g_runV (n := 0) (q := (RX2, TX2, 17)) (r := 5) hC (c_X2_thrown l G _ _ _ _ _ _ _ _) gL_law_X2_thrown rfl ⟨rfl, rfl⟩ (by decide +kernel) ⟨Nat.le_of_ble_eq_true rfl, Nat.le_of_ble_eq_true rfl⟩ hY (by omega) rfl (ci := 2) rfl rfl hl.1 rfl (Nat.le_of_ble_eq_true rfl) dL_law_326 ⟨by show _ ≤ 601024; omega, by show _ ≤ 7293033; omega⟩) (fun r3 H locs h3 hY => ?_)
  obtain rfl := h3
  refine lv_iload hx hb dL_law_329 (lv_at hl 1 rfl) ?_
  refine b_icmp_eq (tgt := 336) hx hb dL_law_331 (by decide) (fun _ => ?_) (fun h => absurd rfl h)
  refine lv_iload hx hb dL_law_336 (lv_at hl 1 rfl) ?_
  refine b_if_ne (tgt := 353) hx hb dL_law_338 (by decide) (fun h => ?_) (fun h => ?_)
  · have hcd : ¬ cdCost p0 p1 = 0 := fun q => h (by rw [q]; rfl)
    simp only [if_neg hcd] at hY
    refine lv_goto (tgt := 1689) hx hb dL_law_353 (by decide) ?_
    exact W.widen (by omega) (by omega) (kk σ n ad _ _ _ _ _ _ hI hY (lv_sub hl [2, 3, 4, 5, 6, 7] rfl))
  · have hcd : cdCost p0 p1 = 0 := i_ext h
    simp only [if_pos hcd] at hY
    have ev : r2.toInt64 = (σ 2 (ix p0)).toInt64 := by
      rw [h2 hcd]
    refine lv_aload_n hx hb dL_law_341 rfl (lv_at hl 6 rfl) ?_
    refine lv_iconst (v := 0) hx hb dL_law_342 (by decide) ?_
    refine rdO hC hY dL_law_343 ?_
    refine lv_iload hx hb dL_law_344 (lv_at hl 0 rfl) ?_
    refine lv_i2l hx hb dL_law_346 rfl ?_
    refine W.eq (g2 := F0 m 347 ls [.long (σ 2 (ix p0)).toInt64, .long (σ 2 (ix p0)).toInt64]) (by rw [ev]; rfl) ?_
    refine g_lcmp hx hb dL_law_347 ?_
    refine b_if_eq (tgt := 353) hx hb dL_law_348 (by decide) (fun _ => ?_) (fun h => absurd rfl h)
    refine lv_goto (tgt := 1689) hx hb dL_law_353 (by decide) ?_
    exact W.widen (by omega) (by omega) (kk (us σ 2 (ix p0) p1) n ad _ _ _ _ _ _ (inv_t hI (by decide) (fun q => absurd q (by decide)) (fun q => absurd q (by decide))) hY (lv_sub hl [2, 3, 4, 5, 6, 7] rfl))

set_option maxHeartbeats 4000000 in
set_option maxRecDepth 100000 in
theorem t_let (l : Launch) (hst : l.stackTraces = false) (hC : CallFix p m c cL_law 9 s #[.ref b] wsL_law RL) (hI : Inv σ n) (hY : SyS G ad σ n σ n th o od s H locs) (hl : lv_has ls 9 (lawlv b ad i)) (hX : va_X b L xs s s.heap) (hbl : b < s.heap.size) (hG : G.1 = s.heap.size) (hi : 0 ≤ i.toInt ∧ i.toInt + 5 ≤ L) (hL : L ≤ 2560) (hcr : cells + 8 ≤ 601024 ∧ slots + 60 ≤ 7293033) (kk : Kt p l e s m below meth c cells slots Q G b i) : W p l e room_1 s m #[.ref b] below meth c H locs cells slots Q (F0 m 356 ls []) := by
  have hx := hC.1
  have hb := hC.2.1
  obtain ⟨p0, e0⟩ : ∃ z, xs (ix (i + 1)) = z := ⟨_, rfl⟩
  obtain ⟨p1, e1⟩ : ∃ z, xs (ix (i + 2)) = z := ⟨_, rfl⟩
  obtain ⟨p2, e2⟩ : ∃ z, xs (ix (i + 3)) = z := ⟨_, rfl⟩
  obtain ⟨p3, e3⟩ : ∃ z, xs (ix (i + 4)) = z := ⟨_, rfl⟩
  refine lv_aload_n hx hb dL_law_356 rfl (lv_at hl 2 rfl) ?_
  refine lv_aload_n hx hb dL_law_357 rfl (lv_at hl 1 rfl) ?_
  refine lv_iload hx hb dL_law_358 (lv_at hl 0 rfl) ?_
  refine lv_iconst (v := 1) hx hb dL_law_360 (by decide) ?_
  refine lv_iadd hx hb dL_law_361 ?_
  refine g_scr hC hY hX hbl hG (i_k hi hL 1 (by decide)) e0 dL_law_362 ?_
  refine lv_aload_n hx hb dL_law_363 rfl (lv_at hl 1 rfl) ?_
  refine lv_iload hx hb dL_law_364 (lv_at hl 0 rfl) ?_
  refine lv_iconst (v := 2) hx hb dL_law_366 (by decide) ?_
  refine lv_iadd hx hb dL_law_367 ?_
  refine g_scr hC hY hX hbl hG (i_k hi hL 2 (by decide)) e1 dL_law_368 ?_
  refine lv_aload_n hx hb dL_law_369 rfl (lv_at hl 1 rfl) ?_
  refine lv_iload hx hb dL_law_370 (lv_at hl 0 rfl) ?_
  refine lv_iconst (v := 3) hx hb dL_law_372 (by decide) ?_
  refine lv_iadd hx hb dL_law_373 ?_
  refine g_scr hC hY hX hbl hG (i_k hi hL 3 (by decide)) e2 dL_law_374 ?_
  refine lv_aload_n hx hb dL_law_375 rfl (lv_at hl 1 rfl) ?_
  refine lv_iload hx hb dL_law_376 (lv_at hl 0 rfl) ?_
  refine lv_iconst (v := 4) hx hb dL_law_378 (by decide) ?_
  refine lv_iadd hx hb dL_law_379 ?_
  refine g_scr hC hY hX hbl hG (i_k hi hL 4 (by decide)) e3 dL_law_380 ?_
  refine lv_aload_n hx hb dL_law_381 rfl (lv_at hl 4 rfl) ?_
  refine va_calli (g_runL (n := 6) hC (c_L_let l G ad σ n σ n th o od hst hI.1 (fun h => hI.2.2.2.2.1 n (Nat.le_refl _) h) p0 p1 p2 p3) gL_law_L_let rfl ⟨rfl, rfl⟩ (by decide +kernel) ⟨Nat.le_of_ble_eq_true rfl, Nat.le_of_ble_eq_true rfl⟩ hY rfl hl.1 rfl (Nat.le_of_ble_eq_true rfl) dL_law_382 ⟨by show _ ≤ 601024; omega, by show _ ≤ 7293033; omega⟩) hY.2.2.2.1 (fun _ _ h => h) (fun _ h => h) (fun r u t H locs ht hvm hp hz _ _ hS => ?_)
  obtain rfl := hp
  rcases hz with ⟨hcd, hu, hz⟩ | ⟨hcd, hz⟩
  · have hY : SyS G u (ltS σ n p0 p1 p2 p3) (n + 1) σ n th (vp_updL o 0 (nI n).toInt64) od s H locs := hY.back hz ht hvm hS
    have hl : lv_has ls 9 (lawlv b u i) := by unfold lawlv; rw [hu 0 (by omega), hu 5 (by omega), hu 21 (by omega), hu 22 (by omega)]; exact hl
    refine lv_istore (lv' := [(6, .int (cdLet σ n p0 p1 p2 p3)), (5, .int i), (0, .ref b), (1, .ref (u 0)), (2, .ref (u 5)), (3, .ref (u 21)), (4, .ref (u 22))]) hx hb dL_law_385 hl (by decide) rfl (fun ls hl => ?_)
    refine lv_aload_n hx hb dL_law_387 rfl (lv_at hl 4 rfl) ?_
    refine lv_aload_n hx hb dL_law_388 rfl (lv_at hl 2 rfl) ?_
    refine lv_iload hx hb dL_law_389 (lv_at hl 1 rfl) ?_
    refine lv_iconst (v := 1) hx hb dL_law_391 (by decide) ?_
    refine lv_iadd hx hb dL_law_392 ?_
    refine g_scr hC hY hX hbl hG (i_k hi hL 1 (by decide)) e0 dL_law_393 ?_
    refine lv_aload_n hx hb dL_law_394 rfl (lv_at hl 2 rfl) ?_
    refine lv_iload hx hb dL_law_395 (lv_at hl 1 rfl) ?_
    refine lv_iconst (v := 2) hx hb dL_law_397 (by decide) ?_
    refine lv_iadd hx hb dL_law_398 ?_
    refine g_scr hC hY hX hbl hG (i_k hi hL 2 (by decide)) e1 dL_law_399 ?_
    refine lv_aload_n hx hb dL_law_400 rfl (lv_at hl 2 rfl) ?_
    refine lv_iload hx hb dL_law_401 (lv_at hl 1 rfl) ?_
    refine lv_iconst (v := 3) hx hb dL_law_403 (by decide) ?_
    refine lv_iadd hx hb dL_law_404 ?_
    refine g_scr hC hY hX hbl hG (i_k hi hL 3 (by decide)) e2 dL_law_405 ?_
    refine lv_aload_n hx hb dL_law_406 rfl (lv_at hl 2 rfl) ?_
    refine lv_iload hx hb dL_law_407 (lv_at hl 1 rfl) ?_
    refine lv_iconst (v := 4) hx hb dL_law_409 (by decide) ?_
    refine lv_iadd hx hb dL_law_410 ?_
    refine g_scr hC hY hX hbl hG (i_k hi hL 4 (by decide)) e3 dL_law_411 ?_
    refine g_calli hY (g_runV (n := 4) (q := (RX2, TX2, 17)) (r := 5) hC (c_X2_let l G u (ltS σ n p0 p1 p2 p3) (n + 1) σ n th (vp_updL o 0 (nI n).toInt64) od hI.1  p0 p1 p2 p3) gL_law_X2_let rfl ⟨rfl, rfl⟩ (by decide +kernel) ⟨Nat.le_of_ble_eq_true rfl, Nat.le_of_ble_eq_true rfl⟩ hY (by omega) rfl (ci := 2) rfl rfl hl.1 rfl (Nat.le_of_ble_eq_true rfl) dL_law_412 ⟨by show _ ≤ 601024; omega, by show _ ≤ 7293033; omega⟩) (fun r2 H locs h2 hY => ?_)
    rw [← let_eq hI] at hY h2
    refine lv_istore (lv' := [(7, .int r2), (6, .int (cdLet σ n p0 p1 p2 p3)), (5, .int i), (0, .ref b), (1, .ref (u 0)), (2, .ref (u 5)), (3, .ref (u 21)), (4, .ref (u 22))]) hx hb dL_law_415 hl (by decide) rfl (fun ls hl => ?_)
    refine lv_aload_n hx hb dL_law_417 rfl (lv_at hl 5 rfl) ?_
    refine g_calli hY (g_runV (n := 0) (q := (RX2, TX2, 17)) (r := 5) hC (c_X2_thrown l G _ _ _ _ _ _ _ _) gL_law_X2_thrown rfl ⟨rfl, rfl⟩ (by decide +kernel) ⟨Nat.le_of_ble_eq_true rfl, Nat.le_of_ble_eq_true rfl⟩ hY (by omega) rfl (ci := 2) rfl rfl hl.1 rfl (Nat.le_of_ble_eq_true rfl) dL_law_418 ⟨by show _ ≤ 601024; omega, by show _ ≤ 7293033; omega⟩) (fun r3 H locs h3 hY => ?_)
    obtain rfl := h3
    refine lv_iload hx hb dL_law_421 (lv_at hl 1 rfl) ?_
    refine b_icmp_eq (tgt := 428) hx hb dL_law_423 (by decide) (fun _ => ?_) (fun h => absurd rfl h)
    refine lv_iload hx hb dL_law_428 (lv_at hl 1 rfl) ?_
    refine b_if_ne (tgt := 445) hx hb dL_law_430 (by decide) (fun h => ?_) (fun h => ?_)
    · exact absurd (by rw [hcd]; rfl) h
    · simp only [if_pos hcd] at hY
      have ev : r2.toInt64 = (nI n).toInt64 := by
        rw [h2 hcd]
      refine lv_aload_n hx hb dL_law_433 rfl (lv_at hl 6 rfl) ?_
      refine lv_iconst (v := 0) hx hb dL_law_434 (by decide) ?_
      refine rdO hC hY dL_law_435 ?_
      refine lv_iload hx hb dL_law_436 (lv_at hl 0 rfl) ?_
      refine lv_i2l hx hb dL_law_438 rfl ?_
      refine W.eq (g2 := F0 m 439 ls [.long (nI n).toInt64, .long (nI n).toInt64]) (by rw [ev]; rfl) ?_
      refine g_lcmp hx hb dL_law_439 ?_
      refine b_if_eq (tgt := 445) hx hb dL_law_440 (by decide) (fun _ => ?_) (fun h => absurd rfl h)
      refine lv_goto (tgt := 1689) hx hb dL_law_445 (by decide) ?_
      exact W.widen (by omega) (by omega) (kk (ltS σ n p0 p1 p2 p3) (n + 1) u _ _ _ _ _ _ (inv_let hI hcd) hY (lv_sub hl [2, 3, 4, 5, 6, 7] rfl))
  · have hY : SyS G ad σ n σ n th o od s H locs := hY.back hz ht hvm hS
    refine lv_istore (lv' := [(6, .int (cdLet σ n p0 p1 p2 p3)), (5, .int i), (0, .ref b), (1, .ref (ad 0)), (2, .ref (ad 5)), (3, .ref (ad 21)), (4, .ref (ad 22))]) hx hb dL_law_385 hl (by decide) rfl (fun ls hl => ?_)
    refine lv_aload_n hx hb dL_law_387 rfl (lv_at hl 4 rfl) ?_
    refine lv_aload_n hx hb dL_law_388 rfl (lv_at hl 2 rfl) ?_
    refine lv_iload hx hb dL_law_389 (lv_at hl 1 rfl) ?_
    refine lv_iconst (v := 1) hx hb dL_law_391 (by decide) ?_
    refine lv_iadd hx hb dL_law_392 ?_
    refine g_scr hC hY hX hbl hG (i_k hi hL 1 (by decide)) e0 dL_law_393 ?_
    refine lv_aload_n hx hb dL_law_394 rfl (lv_at hl 2 rfl) ?_
    refine lv_iload hx hb dL_law_395 (lv_at hl 1 rfl) ?_
    refine lv_iconst (v := 2) hx hb dL_law_397 (by decide) ?_
    refine lv_iadd hx hb dL_law_398 ?_
    refine g_scr hC hY hX hbl hG (i_k hi hL 2 (by decide)) e1 dL_law_399 ?_
    refine lv_aload_n hx hb dL_law_400 rfl (lv_at hl 2 rfl) ?_
    refine lv_iload hx hb dL_law_401 (lv_at hl 1 rfl) ?_
    refine lv_iconst (v := 3) hx hb dL_law_403 (by decide) ?_
    refine lv_iadd hx hb dL_law_404 ?_
    refine g_scr hC hY hX hbl hG (i_k hi hL 3 (by decide)) e2 dL_law_405 ?_
    refine lv_aload_n hx hb dL_law_406 rfl (lv_at hl 2 rfl) ?_
    refine lv_iload hx hb dL_law_407 (lv_at hl 1 rfl) ?_
    refine lv_iconst (v := 4) hx hb dL_law_409 (by decide) ?_
    refine lv_iadd hx hb dL_law_410 ?_
    refine g_scr hC hY hX hbl hG (i_k hi hL 4 (by decide)) e3 dL_law_411 ?_
    refine g_calli hY (g_runV (n := 4) (q := (RX2, TX2, 17)) (r := 5) hC (c_X2_let l G ad σ n σ n th o od hI.1  p0 p1 p2 p3) gL_law_X2_let rfl ⟨rfl, rfl⟩ (by decide +kernel) ⟨Nat.le_of_ble_eq_true rfl, Nat.le_of_ble_eq_true rfl⟩ hY (by omega) rfl (ci := 2) rfl rfl hl.1 rfl (Nat.le_of_ble_eq_true rfl) dL_law_412 ⟨by show _ ≤ 601024; omega, by show _ ≤ 7293033; omega⟩) (fun r2 H locs h2 hY => ?_)
    rw [← let_eq hI] at hY h2
    refine lv_istore (lv' := [(7, .int r2), (6, .int (cdLet σ n p0 p1 p2 p3)), (5, .int i), (0, .ref b), (1, .ref (ad 0)), (2, .ref (ad 5)), (3, .ref (ad 21)), (4, .ref (ad 22))]) hx hb dL_law_415 hl (by decide) rfl (fun ls hl => ?_)
    refine lv_aload_n hx hb dL_law_417 rfl (lv_at hl 5 rfl) ?_
    refine g_calli hY (g_runV (n := 0) (q := (RX2, TX2, 17)) (r := 5) hC (c_X2_thrown l G _ _ _ _ _ _ _ _) gL_law_X2_thrown rfl ⟨rfl, rfl⟩ (by decide +kernel) ⟨Nat.le_of_ble_eq_true rfl, Nat.le_of_ble_eq_true rfl⟩ hY (by omega) rfl (ci := 2) rfl rfl hl.1 rfl (Nat.le_of_ble_eq_true rfl) dL_law_418 ⟨by show _ ≤ 601024; omega, by show _ ≤ 7293033; omega⟩) (fun r3 H locs h3 hY => ?_)
    obtain rfl := h3
    refine lv_iload hx hb dL_law_421 (lv_at hl 1 rfl) ?_
    refine b_icmp_eq (tgt := 428) hx hb dL_law_423 (by decide) (fun _ => ?_) (fun h => absurd rfl h)
    refine lv_iload hx hb dL_law_428 (lv_at hl 1 rfl) ?_
    refine b_if_ne (tgt := 445) hx hb dL_law_430 (by decide) (fun h => ?_) (fun h => ?_)
    · simp only [if_neg hcd] at hY
      refine lv_goto (tgt := 1689) hx hb dL_law_445 (by decide) ?_
      exact W.widen (by omega) (by omega) (kk σ n ad _ _ _ _ _ _ hI hY (lv_sub hl [2, 3, 4, 5, 6, 7] rfl))
    · exact absurd (i_ext h) hcd

set_option maxHeartbeats 4000000 in
set_option maxRecDepth 100000 in
theorem t_end (l : Launch) (hst : l.stackTraces = false) (hC : CallFix p m c cL_law 9 s #[.ref b] wsL_law RL) (hI : Inv σ n) (hY : SyS G ad σ n σ n th o od s H locs) (hl : lv_has ls 9 (lawlv b ad i)) (hX : va_X b L xs s s.heap) (hbl : b < s.heap.size) (hG : G.1 = s.heap.size) (hi : 0 ≤ i.toInt ∧ i.toInt + 5 ≤ L) (hL : L ≤ 2560) (hcr : cells + 8 ≤ 601024 ∧ slots + 60 ≤ 7293033) (kk : Kt p l e s m below meth c cells slots Q G b i) : W p l e room_1 s m #[.ref b] below meth c H locs cells slots Q (F0 m 448 ls []) := by
  have hx := hC.1
  have hb := hC.2.1
  obtain ⟨p0, e0⟩ : ∃ z, xs (ix (i + 1)) = z := ⟨_, rfl⟩
  obtain ⟨p1, e1⟩ : ∃ z, xs (ix (i + 2)) = z := ⟨_, rfl⟩
  refine lv_aload_n hx hb dL_law_448 rfl (lv_at hl 2 rfl) ?_
  refine lv_aload_n hx hb dL_law_449 rfl (lv_at hl 1 rfl) ?_
  refine lv_iload hx hb dL_law_450 (lv_at hl 0 rfl) ?_
  refine lv_iconst (v := 1) hx hb dL_law_452 (by decide) ?_
  refine lv_iadd hx hb dL_law_453 ?_
  refine g_scr hC hY hX hbl hG (i_k hi hL 1 (by decide)) e0 dL_law_454 ?_
  refine lv_aload_n hx hb dL_law_455 rfl (lv_at hl 1 rfl) ?_
  refine lv_iload hx hb dL_law_456 (lv_at hl 0 rfl) ?_
  refine lv_iconst (v := 2) hx hb dL_law_458 (by decide) ?_
  refine lv_iadd hx hb dL_law_459 ?_
  refine g_scr hC hY hX hbl hG (i_k hi hL 2 (by decide)) e1 dL_law_460 ?_
  refine lv_aload_n hx hb dL_law_461 rfl (lv_at hl 4 rfl) ?_
  refine g_calli hY (g_runL (n := 4) hC (c_L_end l G ad σ n σ n th o od hst hI.1 hI.2.2.2.1 p0 p1) gL_law_L_end rfl ⟨rfl, rfl⟩ (by decide +kernel) ⟨Nat.le_of_ble_eq_true rfl, Nat.le_of_ble_eq_true rfl⟩ hY rfl hl.1 rfl (Nat.le_of_ble_eq_true rfl) dL_law_462 ⟨by show _ ≤ 601024; omega, by show _ ≤ 7293033; omega⟩) (fun r H locs hw hY => ?_)
  obtain rfl := hw
  refine lv_istore (lv' := [(6, .int (cdEnd σ n p0 p1)), (5, .int i), (0, .ref b), (1, .ref (ad 0)), (2, .ref (ad 5)), (3, .ref (ad 21)), (4, .ref (ad 22))]) hx hb dL_law_465 hl (by decide) rfl (fun ls hl => ?_)
  refine lv_aload_n hx hb dL_law_467 rfl (lv_at hl 4 rfl) ?_
  refine lv_aload_n hx hb dL_law_468 rfl (lv_at hl 2 rfl) ?_
  refine lv_iload hx hb dL_law_469 (lv_at hl 1 rfl) ?_
  refine lv_iconst (v := 1) hx hb dL_law_471 (by decide) ?_
  refine lv_iadd hx hb dL_law_472 ?_
  refine g_scr hC hY hX hbl hG (i_k hi hL 1 (by decide)) e0 dL_law_473 ?_
  refine lv_aload_n hx hb dL_law_474 rfl (lv_at hl 2 rfl) ?_
  refine lv_iload hx hb dL_law_475 (lv_at hl 1 rfl) ?_
  refine lv_iconst (v := 2) hx hb dL_law_477 (by decide) ?_
  refine lv_iadd hx hb dL_law_478 ?_
  refine g_scr hC hY hX hbl hG (i_k hi hL 2 (by decide)) e1 dL_law_479 ?_
  refine g_calli hY (g_runV (n := 2) (q := (RX2, TX2, 17)) (r := 5) hC (c_X2_end l G ad (if cdEnd σ n p0 p1 = 0 then us σ 5 (ix p0) p1 else σ) n σ n th (if cdEnd σ n p0 p1 = 0 then vp_updL o 0 ((σ 5 (ix p0)).toInt64) else o) od hI.1  p0 p1) gL_law_X2_end rfl ⟨rfl, rfl⟩ (by decide +kernel) ⟨Nat.le_of_ble_eq_true rfl, Nat.le_of_ble_eq_true rfl⟩ hY (by omega) rfl (ci := 2) rfl rfl hl.1 rfl (Nat.le_of_ble_eq_true rfl) dL_law_480 ⟨by show _ ≤ 601024; omega, by show _ ≤ 7293033; omega⟩) (fun r2 H locs h2 hY => ?_)
  refine lv_istore (lv' := [(7, .int r2), (6, .int (cdEnd σ n p0 p1)), (5, .int i), (0, .ref b), (1, .ref (ad 0)), (2, .ref (ad 5)), (3, .ref (ad 21)), (4, .ref (ad 22))]) hx hb dL_law_483 hl (by decide) rfl (fun ls hl => ?_)
  refine lv_aload_n hx hb dL_law_485 rfl (lv_at hl 5 rfl) ?_
  refine g_calli hY (g_runV (n := 0) (q := (RX2, TX2, 17)) (r := 5) hC (c_X2_thrown l G _ _ _ _ _ _ _ _) gL_law_X2_thrown rfl ⟨rfl, rfl⟩ (by decide +kernel) ⟨Nat.le_of_ble_eq_true rfl, Nat.le_of_ble_eq_true rfl⟩ hY (by omega) rfl (ci := 2) rfl rfl hl.1 rfl (Nat.le_of_ble_eq_true rfl) dL_law_486 ⟨by show _ ≤ 601024; omega, by show _ ≤ 7293033; omega⟩) (fun r3 H locs h3 hY => ?_)
  obtain rfl := h3
  refine lv_iload hx hb dL_law_489 (lv_at hl 1 rfl) ?_
  refine b_icmp_eq (tgt := 496) hx hb dL_law_491 (by decide) (fun _ => ?_) (fun h => absurd rfl h)
  refine lv_iload hx hb dL_law_496 (lv_at hl 1 rfl) ?_
  refine b_if_ne (tgt := 513) hx hb dL_law_498 (by decide) (fun h => ?_) (fun h => ?_)
  · have hcd : ¬ cdEnd σ n p0 p1 = 0 := fun q => h (by rw [q]; rfl)
    simp only [if_neg hcd] at hY
    refine lv_goto (tgt := 1689) hx hb dL_law_513 (by decide) ?_
    exact W.widen (by omega) (by omega) (kk σ n ad _ _ _ _ _ _ hI hY (lv_sub hl [2, 3, 4, 5, 6, 7] rfl))
  · have hcd : cdEnd σ n p0 p1 = 0 := i_ext h
    simp only [if_pos hcd] at hY
    have ev : r2.toInt64 = (σ 5 (ix p0)).toInt64 := by
      rw [h2 hcd]
    refine lv_aload_n hx hb dL_law_501 rfl (lv_at hl 6 rfl) ?_
    refine lv_iconst (v := 0) hx hb dL_law_502 (by decide) ?_
    refine rdO hC hY dL_law_503 ?_
    refine lv_iload hx hb dL_law_504 (lv_at hl 0 rfl) ?_
    refine lv_i2l hx hb dL_law_506 rfl ?_
    refine W.eq (g2 := F0 m 507 ls [.long (σ 5 (ix p0)).toInt64, .long (σ 5 (ix p0)).toInt64]) (by rw [ev]; rfl) ?_
    refine g_lcmp hx hb dL_law_507 ?_
    refine b_if_eq (tgt := 513) hx hb dL_law_508 (by decide) (fun _ => ?_) (fun h => absurd rfl h)
    refine lv_goto (tgt := 1689) hx hb dL_law_513 (by decide) ?_
    exact W.widen (by omega) (by omega) (kk (us σ 5 (ix p0) p1) n ad _ _ _ _ _ _ (inv_end hI hcd) hY (lv_sub hl [2, 3, 4, 5, 6, 7] rfl))

set_option maxHeartbeats 4000000 in
set_option maxRecDepth 100000 in
theorem t_step (l : Launch) (hst : l.stackTraces = false) (hC : CallFix p m c cL_law 9 s #[.ref b] wsL_law RL) (hI : Inv σ n) (hY : SyS G ad σ n σ n th o od s H locs) (hl : lv_has ls 9 (lawlv b ad i)) (hX : va_X b L xs s s.heap) (hbl : b < s.heap.size) (hG : G.1 = s.heap.size) (hi : 0 ≤ i.toInt ∧ i.toInt + 5 ≤ L) (hL : L ≤ 2560) (hcr : cells + 8 ≤ 601024 ∧ slots + 60 ≤ 7293033) (kk : Kt p l e s m below meth c cells slots Q G b i) : W p l e room_1 s m #[.ref b] below meth c H locs cells slots Q (F0 m 516 ls []) := by
  have hx := hC.1
  have hb := hC.2.1
  obtain ⟨p0, e0⟩ : ∃ z, xs (ix (i + 1)) = z := ⟨_, rfl⟩
  obtain ⟨p1, e1⟩ : ∃ z, xs (ix (i + 2)) = z := ⟨_, rfl⟩
  obtain ⟨p2, e2⟩ : ∃ z, xs (ix (i + 3)) = z := ⟨_, rfl⟩
  refine lv_aload_n hx hb dL_law_516 rfl (lv_at hl 2 rfl) ?_
  refine lv_aload_n hx hb dL_law_517 rfl (lv_at hl 1 rfl) ?_
  refine lv_iload hx hb dL_law_518 (lv_at hl 0 rfl) ?_
  refine lv_iconst (v := 1) hx hb dL_law_520 (by decide) ?_
  refine lv_iadd hx hb dL_law_521 ?_
  refine g_scr hC hY hX hbl hG (i_k hi hL 1 (by decide)) e0 dL_law_522 ?_
  refine lv_aload_n hx hb dL_law_523 rfl (lv_at hl 1 rfl) ?_
  refine lv_iload hx hb dL_law_524 (lv_at hl 0 rfl) ?_
  refine lv_iconst (v := 2) hx hb dL_law_526 (by decide) ?_
  refine lv_iadd hx hb dL_law_527 ?_
  refine g_scr hC hY hX hbl hG (i_k hi hL 2 (by decide)) e1 dL_law_528 ?_
  refine lv_aload_n hx hb dL_law_529 rfl (lv_at hl 1 rfl) ?_
  refine lv_iload hx hb dL_law_530 (lv_at hl 0 rfl) ?_
  refine lv_iconst (v := 3) hx hb dL_law_532 (by decide) ?_
  refine lv_iadd hx hb dL_law_533 ?_
  refine g_scr hC hY hX hbl hG (i_k hi hL 3 (by decide)) e2 dL_law_534 ?_
  refine lv_aload_n hx hb dL_law_535 rfl (lv_at hl 4 rfl) ?_
  refine g_calli hY (g_runL (n := 5) hC (c_L_step l G ad σ n σ n th o od hst hI.1 hI.2.2.2.1 p0 p1 p2) gL_law_L_step rfl ⟨rfl, rfl⟩ (by decide +kernel) ⟨Nat.le_of_ble_eq_true rfl, Nat.le_of_ble_eq_true rfl⟩ hY rfl hl.1 rfl (Nat.le_of_ble_eq_true rfl) dL_law_536 ⟨by show _ ≤ 601024; omega, by show _ ≤ 7293033; omega⟩) (fun r H locs hw hY => ?_)
  obtain rfl := hw
  refine lv_istore (lv' := [(6, .int (cdStep σ n p0 p1 p2)), (5, .int i), (0, .ref b), (1, .ref (ad 0)), (2, .ref (ad 5)), (3, .ref (ad 21)), (4, .ref (ad 22))]) hx hb dL_law_539 hl (by decide) rfl (fun ls hl => ?_)
  refine lv_aload_n hx hb dL_law_541 rfl (lv_at hl 4 rfl) ?_
  refine lv_aload_n hx hb dL_law_542 rfl (lv_at hl 2 rfl) ?_
  refine lv_iload hx hb dL_law_543 (lv_at hl 1 rfl) ?_
  refine lv_iconst (v := 1) hx hb dL_law_545 (by decide) ?_
  refine lv_iadd hx hb dL_law_546 ?_
  refine g_scr hC hY hX hbl hG (i_k hi hL 1 (by decide)) e0 dL_law_547 ?_
  refine lv_aload_n hx hb dL_law_548 rfl (lv_at hl 2 rfl) ?_
  refine lv_iload hx hb dL_law_549 (lv_at hl 1 rfl) ?_
  refine lv_iconst (v := 2) hx hb dL_law_551 (by decide) ?_
  refine lv_iadd hx hb dL_law_552 ?_
  refine g_scr hC hY hX hbl hG (i_k hi hL 2 (by decide)) e1 dL_law_553 ?_
  refine lv_aload_n hx hb dL_law_554 rfl (lv_at hl 2 rfl) ?_
  refine lv_iload hx hb dL_law_555 (lv_at hl 1 rfl) ?_
  refine lv_iconst (v := 3) hx hb dL_law_557 (by decide) ?_
  refine lv_iadd hx hb dL_law_558 ?_
  refine g_scr hC hY hX hbl hG (i_k hi hL 3 (by decide)) e2 dL_law_559 ?_
  refine g_calli hY (g_runV (n := 3) (q := (RX2, TX2, 17)) (r := 5) hC (c_X2_step l G ad (if cdStep σ n p0 p1 p2 = 0 then psS σ (ix p0) p1 p2 else σ) n σ n th (if cdStep σ n p0 p1 p2 = 0 then vp_updL o 0 ((psS σ (ix p0) p1 p2 12 (ix p0)).toInt64) else o) od hI.1 hI.2.2.2.1 p0 p1 p2) gL_law_X2_step rfl ⟨rfl, rfl⟩ (by decide +kernel) ⟨Nat.le_of_ble_eq_true rfl, Nat.le_of_ble_eq_true rfl⟩ hY (by omega) rfl (ci := 2) rfl rfl hl.1 rfl (Nat.le_of_ble_eq_true rfl) dL_law_560 ⟨by show _ ≤ 601024; omega, by show _ ≤ 7293033; omega⟩) (fun r2 H locs h2 hY => ?_)
  refine lv_istore (lv' := [(7, .int r2), (6, .int (cdStep σ n p0 p1 p2)), (5, .int i), (0, .ref b), (1, .ref (ad 0)), (2, .ref (ad 5)), (3, .ref (ad 21)), (4, .ref (ad 22))]) hx hb dL_law_563 hl (by decide) rfl (fun ls hl => ?_)
  refine lv_aload_n hx hb dL_law_565 rfl (lv_at hl 5 rfl) ?_
  refine g_calli hY (g_runV (n := 0) (q := (RX2, TX2, 17)) (r := 5) hC (c_X2_thrown l G _ _ _ _ _ _ _ _) gL_law_X2_thrown rfl ⟨rfl, rfl⟩ (by decide +kernel) ⟨Nat.le_of_ble_eq_true rfl, Nat.le_of_ble_eq_true rfl⟩ hY (by omega) rfl (ci := 2) rfl rfl hl.1 rfl (Nat.le_of_ble_eq_true rfl) dL_law_566 ⟨by show _ ≤ 601024; omega, by show _ ≤ 7293033; omega⟩) (fun r3 H locs h3 hY => ?_)
  obtain rfl := h3
  refine lv_iload hx hb dL_law_569 (lv_at hl 1 rfl) ?_
  refine b_icmp_eq (tgt := 576) hx hb dL_law_571 (by decide) (fun _ => ?_) (fun h => absurd rfl h)
  refine lv_iload hx hb dL_law_576 (lv_at hl 1 rfl) ?_
  refine b_if_ne (tgt := 593) hx hb dL_law_578 (by decide) (fun h => ?_) (fun h => ?_)
  · have hcd : ¬ cdStep σ n p0 p1 p2 = 0 := fun q => h (by rw [q]; rfl)
    simp only [if_neg hcd] at hY
    refine lv_goto (tgt := 1689) hx hb dL_law_593 (by decide) ?_
    exact W.widen (by omega) (by omega) (kk σ n ad _ _ _ _ _ _ hI hY (lv_sub hl [2, 3, 4, 5, 6, 7] rfl))
  · have hcd : cdStep σ n p0 p1 p2 = 0 := i_ext h
    simp only [if_pos hcd] at hY
    have ev : r2.toInt64 = (psS σ (ix p0) p1 p2 12 (ix p0)).toInt64 := by
      rw [h2 hcd]
    refine lv_aload_n hx hb dL_law_581 rfl (lv_at hl 6 rfl) ?_
    refine lv_iconst (v := 0) hx hb dL_law_582 (by decide) ?_
    refine rdO hC hY dL_law_583 ?_
    refine lv_iload hx hb dL_law_584 (lv_at hl 0 rfl) ?_
    refine lv_i2l hx hb dL_law_586 rfl ?_
    refine W.eq (g2 := F0 m 587 ls [.long (psS σ (ix p0) p1 p2 12 (ix p0)).toInt64, .long (psS σ (ix p0) p1 p2 12 (ix p0)).toInt64]) (by rw [ev]; rfl) ?_
    refine g_lcmp hx hb dL_law_587 ?_
    refine b_if_eq (tgt := 593) hx hb dL_law_588 (by decide) (fun _ => ?_) (fun h => absurd rfl h)
    refine lv_goto (tgt := 1689) hx hb dL_law_593 (by decide) ?_
    exact W.widen (by omega) (by omega) (kk (psS σ (ix p0) p1 p2) n ad _ _ _ _ _ _ (inv_step hI hcd) hY (lv_sub hl [2, 3, 4, 5, 6, 7] rfl))

set_option maxHeartbeats 4000000 in
set_option maxRecDepth 100000 in
theorem t_setTerms (l : Launch) (hst : l.stackTraces = false) (hC : CallFix p m c cL_law 9 s #[.ref b] wsL_law RL) (hI : Inv σ n) (hY : SyS G ad σ n σ n th o od s H locs) (hl : lv_has ls 9 (lawlv b ad i)) (hX : va_X b L xs s s.heap) (hbl : b < s.heap.size) (hG : G.1 = s.heap.size) (hi : 0 ≤ i.toInt ∧ i.toInt + 5 ≤ L) (hL : L ≤ 2560) (hcr : cells + 8 ≤ 601024 ∧ slots + 60 ≤ 7293033) (kk : Kt p l e s m below meth c cells slots Q G b i) : W p l e room_1 s m #[.ref b] below meth c H locs cells slots Q (F0 m 596 ls []) := by
  have hx := hC.1
  have hb := hC.2.1
  obtain ⟨p0, e0⟩ : ∃ z, xs (ix (i + 1)) = z := ⟨_, rfl⟩
  obtain ⟨p1, e1⟩ : ∃ z, xs (ix (i + 2)) = z := ⟨_, rfl⟩
  obtain ⟨p2, e2⟩ : ∃ z, xs (ix (i + 3)) = z := ⟨_, rfl⟩
  refine lv_aload_n hx hb dL_law_596 rfl (lv_at hl 2 rfl) ?_
  refine lv_aload_n hx hb dL_law_597 rfl (lv_at hl 1 rfl) ?_
  refine lv_iload hx hb dL_law_598 (lv_at hl 0 rfl) ?_
  refine lv_iconst (v := 1) hx hb dL_law_600 (by decide) ?_
  refine lv_iadd hx hb dL_law_601 ?_
  refine g_scr hC hY hX hbl hG (i_k hi hL 1 (by decide)) e0 dL_law_602 ?_
  refine lv_aload_n hx hb dL_law_603 rfl (lv_at hl 1 rfl) ?_
  refine lv_iload hx hb dL_law_604 (lv_at hl 0 rfl) ?_
  refine lv_iconst (v := 2) hx hb dL_law_606 (by decide) ?_
  refine lv_iadd hx hb dL_law_607 ?_
  refine g_scr hC hY hX hbl hG (i_k hi hL 2 (by decide)) e1 dL_law_608 ?_
  refine lv_aload_n hx hb dL_law_609 rfl (lv_at hl 1 rfl) ?_
  refine lv_iload hx hb dL_law_610 (lv_at hl 0 rfl) ?_
  refine lv_iconst (v := 3) hx hb dL_law_612 (by decide) ?_
  refine lv_iadd hx hb dL_law_613 ?_
  refine g_scr hC hY hX hbl hG (i_k hi hL 3 (by decide)) e2 dL_law_614 ?_
  refine g_calli hY (g_runL (n := 4) hC (c_L_setTerms l G ad σ n σ n th o od hst hI.1 hI.2.2.2.1 p0 p1 p2) gL_law_L_setTerms rfl ⟨rfl, rfl⟩ (by decide +kernel) ⟨Nat.le_of_ble_eq_true rfl, Nat.le_of_ble_eq_true rfl⟩ hY rfl hl.1 rfl (Nat.le_of_ble_eq_true rfl) dL_law_615 ⟨by show _ ≤ 601024; omega, by show _ ≤ 7293033; omega⟩) (fun r H locs hw hY => ?_)
  obtain rfl := hw
  refine lv_istore (lv' := [(6, .int (cdTerms n p0 p1 p2)), (5, .int i), (0, .ref b), (1, .ref (ad 0)), (2, .ref (ad 5)), (3, .ref (ad 21)), (4, .ref (ad 22))]) hx hb dL_law_618 hl (by decide) rfl (fun ls hl => ?_)
  refine lv_aload_n hx hb dL_law_620 rfl (lv_at hl 4 rfl) ?_
  refine lv_aload_n hx hb dL_law_621 rfl (lv_at hl 2 rfl) ?_
  refine lv_iload hx hb dL_law_622 (lv_at hl 1 rfl) ?_
  refine lv_iconst (v := 1) hx hb dL_law_624 (by decide) ?_
  refine lv_iadd hx hb dL_law_625 ?_
  refine g_scr hC hY hX hbl hG (i_k hi hL 1 (by decide)) e0 dL_law_626 ?_
  refine lv_aload_n hx hb dL_law_627 rfl (lv_at hl 2 rfl) ?_
  refine lv_iload hx hb dL_law_628 (lv_at hl 1 rfl) ?_
  refine lv_iconst (v := 2) hx hb dL_law_630 (by decide) ?_
  refine lv_iadd hx hb dL_law_631 ?_
  refine g_scr hC hY hX hbl hG (i_k hi hL 2 (by decide)) e1 dL_law_632 ?_
  refine lv_aload_n hx hb dL_law_633 rfl (lv_at hl 2 rfl) ?_
  refine lv_iload hx hb dL_law_634 (lv_at hl 1 rfl) ?_
  refine lv_iconst (v := 3) hx hb dL_law_636 (by decide) ?_
  refine lv_iadd hx hb dL_law_637 ?_
  refine g_scr hC hY hX hbl hG (i_k hi hL 3 (by decide)) e2 dL_law_638 ?_
  refine g_callv hY (g_runV (n := 3) (q := (RX2, TX2, 17)) (r := 5) hC (c_X2_setTerms l G ad (if cdTerms n p0 p1 p2 = 0 then us (us σ 7 (ix p0) p1) 8 (ix p0) p2 else σ) n σ n th o od hI.1  p0 p1 p2) gL_law_X2_setTerms rfl ⟨rfl, rfl⟩ (by decide +kernel) ⟨Nat.le_of_ble_eq_true rfl, Nat.le_of_ble_eq_true rfl⟩ hY (by omega) rfl (ci := 2) rfl rfl hl.1 rfl (Nat.le_of_ble_eq_true rfl) dL_law_639 ⟨by show _ ≤ 601024; omega, by show _ ≤ 7293033; omega⟩) (fun H locs h2 hY => ?_)
  refine lv_aload_n hx hb dL_law_642 rfl (lv_at hl 4 rfl) ?_
  refine g_calli hY (g_runV (n := 0) (q := (RX2, TX2, 17)) (r := 5) hC (c_X2_thrown l G _ _ _ _ _ _ _ _) gL_law_X2_thrown rfl ⟨rfl, rfl⟩ (by decide +kernel) ⟨Nat.le_of_ble_eq_true rfl, Nat.le_of_ble_eq_true rfl⟩ hY (by omega) rfl (ci := 2) rfl rfl hl.1 rfl (Nat.le_of_ble_eq_true rfl) dL_law_643 ⟨by show _ ≤ 601024; omega, by show _ ≤ 7293033; omega⟩) (fun r3 H locs h3 hY => ?_)
  obtain rfl := h3
  refine lv_iload hx hb dL_law_646 (lv_at hl 0 rfl) ?_
  refine b_icmp_eq (tgt := 653) hx hb dL_law_648 (by decide) (fun _ => ?_) (fun h => absurd rfl h)
  by_cases hcd : cdTerms n p0 p1 p2 = 0
  · rw [if_pos hcd] at hY
    refine lv_goto (tgt := 1689) hx hb dL_law_653 (by decide) ?_
    exact W.widen (by omega) (by omega) (kk (us (us σ 7 (ix p0) p1) 8 (ix p0) p2) n ad _ _ _ _ _ _ (inv_terms hI hcd) hY (lv_sub hl [1, 2, 3, 4, 5, 6] rfl))
  · rw [if_neg hcd] at hY
    refine lv_goto (tgt := 1689) hx hb dL_law_653 (by decide) ?_
    exact W.widen (by omega) (by omega) (kk σ n ad _ _ _ _ _ _ hI hY (lv_sub hl [1, 2, 3, 4, 5, 6] rfl))

set_option maxHeartbeats 4000000 in
set_option maxRecDepth 100000 in
theorem t_setService (l : Launch) (hst : l.stackTraces = false) (hC : CallFix p m c cL_law 9 s #[.ref b] wsL_law RL) (hI : Inv σ n) (hY : SyS G ad σ n σ n th o od s H locs) (hl : lv_has ls 9 (lawlv b ad i)) (hX : va_X b L xs s s.heap) (hbl : b < s.heap.size) (hG : G.1 = s.heap.size) (hi : 0 ≤ i.toInt ∧ i.toInt + 5 ≤ L) (hL : L ≤ 2560) (hcr : cells + 8 ≤ 601024 ∧ slots + 60 ≤ 7293033) (kk : Kt p l e s m below meth c cells slots Q G b i) : W p l e room_1 s m #[.ref b] below meth c H locs cells slots Q (F0 m 656 ls []) := by
  have hx := hC.1
  have hb := hC.2.1
  obtain ⟨p0, e0⟩ : ∃ z, xs (ix (i + 1)) = z := ⟨_, rfl⟩
  obtain ⟨p1, e1⟩ : ∃ z, xs (ix (i + 2)) = z := ⟨_, rfl⟩
  obtain ⟨p2, e2⟩ : ∃ z, xs (ix (i + 3)) = z := ⟨_, rfl⟩
  refine lv_aload_n hx hb dL_law_656 rfl (lv_at hl 2 rfl) ?_
  refine lv_aload_n hx hb dL_law_657 rfl (lv_at hl 1 rfl) ?_
  refine lv_iload hx hb dL_law_658 (lv_at hl 0 rfl) ?_
  refine lv_iconst (v := 1) hx hb dL_law_660 (by decide) ?_
  refine lv_iadd hx hb dL_law_661 ?_
  refine g_scr hC hY hX hbl hG (i_k hi hL 1 (by decide)) e0 dL_law_662 ?_
  refine lv_aload_n hx hb dL_law_663 rfl (lv_at hl 1 rfl) ?_
  refine lv_iload hx hb dL_law_664 (lv_at hl 0 rfl) ?_
  refine lv_iconst (v := 2) hx hb dL_law_666 (by decide) ?_
  refine lv_iadd hx hb dL_law_667 ?_
  refine g_scr hC hY hX hbl hG (i_k hi hL 2 (by decide)) e1 dL_law_668 ?_
  refine lv_aload_n hx hb dL_law_669 rfl (lv_at hl 1 rfl) ?_
  refine lv_iload hx hb dL_law_670 (lv_at hl 0 rfl) ?_
  refine lv_iconst (v := 3) hx hb dL_law_672 (by decide) ?_
  refine lv_iadd hx hb dL_law_673 ?_
  refine g_scr hC hY hX hbl hG (i_k hi hL 3 (by decide)) e2 dL_law_674 ?_
  refine g_calli hY (g_runL (n := 4) hC (c_L_setService l G ad σ n σ n th o od hst hI.1 hI.2.2.2.1 p0 p1 p2) gL_law_L_setService rfl ⟨rfl, rfl⟩ (by decide +kernel) ⟨Nat.le_of_ble_eq_true rfl, Nat.le_of_ble_eq_true rfl⟩ hY rfl hl.1 rfl (Nat.le_of_ble_eq_true rfl) dL_law_675 ⟨by show _ ≤ 601024; omega, by show _ ≤ 7293033; omega⟩) (fun r H locs hw hY => ?_)
  obtain rfl := hw
  refine lv_istore (lv' := [(6, .int (cdServ n p0 p1 p2)), (5, .int i), (0, .ref b), (1, .ref (ad 0)), (2, .ref (ad 5)), (3, .ref (ad 21)), (4, .ref (ad 22))]) hx hb dL_law_678 hl (by decide) rfl (fun ls hl => ?_)
  refine lv_aload_n hx hb dL_law_680 rfl (lv_at hl 4 rfl) ?_
  refine lv_aload_n hx hb dL_law_681 rfl (lv_at hl 2 rfl) ?_
  refine lv_iload hx hb dL_law_682 (lv_at hl 1 rfl) ?_
  refine lv_iconst (v := 1) hx hb dL_law_684 (by decide) ?_
  refine lv_iadd hx hb dL_law_685 ?_
  refine g_scr hC hY hX hbl hG (i_k hi hL 1 (by decide)) e0 dL_law_686 ?_
  refine lv_aload_n hx hb dL_law_687 rfl (lv_at hl 2 rfl) ?_
  refine lv_iload hx hb dL_law_688 (lv_at hl 1 rfl) ?_
  refine lv_iconst (v := 2) hx hb dL_law_690 (by decide) ?_
  refine lv_iadd hx hb dL_law_691 ?_
  refine g_scr hC hY hX hbl hG (i_k hi hL 2 (by decide)) e1 dL_law_692 ?_
  refine lv_aload_n hx hb dL_law_693 rfl (lv_at hl 2 rfl) ?_
  refine lv_iload hx hb dL_law_694 (lv_at hl 1 rfl) ?_
  refine lv_iconst (v := 3) hx hb dL_law_696 (by decide) ?_
  refine lv_iadd hx hb dL_law_697 ?_
  refine g_scr hC hY hX hbl hG (i_k hi hL 3 (by decide)) e2 dL_law_698 ?_
  refine g_callv hY (g_runV (n := 3) (q := (RX2, TX2, 17)) (r := 5) hC (c_X2_setService l G ad (if cdServ n p0 p1 p2 = 0 then us (us σ 9 (ix p0) p1) 10 (ix p0) p2 else σ) n σ n th o od hI.1  p0 p1 p2) gL_law_X2_setService rfl ⟨rfl, rfl⟩ (by decide +kernel) ⟨Nat.le_of_ble_eq_true rfl, Nat.le_of_ble_eq_true rfl⟩ hY (by omega) rfl (ci := 2) rfl rfl hl.1 rfl (Nat.le_of_ble_eq_true rfl) dL_law_699 ⟨by show _ ≤ 601024; omega, by show _ ≤ 7293033; omega⟩) (fun H locs h2 hY => ?_)
  refine lv_aload_n hx hb dL_law_702 rfl (lv_at hl 4 rfl) ?_
  refine g_calli hY (g_runV (n := 0) (q := (RX2, TX2, 17)) (r := 5) hC (c_X2_thrown l G _ _ _ _ _ _ _ _) gL_law_X2_thrown rfl ⟨rfl, rfl⟩ (by decide +kernel) ⟨Nat.le_of_ble_eq_true rfl, Nat.le_of_ble_eq_true rfl⟩ hY (by omega) rfl (ci := 2) rfl rfl hl.1 rfl (Nat.le_of_ble_eq_true rfl) dL_law_703 ⟨by show _ ≤ 601024; omega, by show _ ≤ 7293033; omega⟩) (fun r3 H locs h3 hY => ?_)
  obtain rfl := h3
  refine lv_iload hx hb dL_law_706 (lv_at hl 0 rfl) ?_
  refine b_icmp_eq (tgt := 713) hx hb dL_law_708 (by decide) (fun _ => ?_) (fun h => absurd rfl h)
  by_cases hcd : cdServ n p0 p1 p2 = 0
  · rw [if_pos hcd] at hY
    refine lv_goto (tgt := 1689) hx hb dL_law_713 (by decide) ?_
    exact W.widen (by omega) (by omega) (kk (us (us σ 9 (ix p0) p1) 10 (ix p0) p2) n ad _ _ _ _ _ _ (inv_serv hI hcd) hY (lv_sub hl [1, 2, 3, 4, 5, 6] rfl))
  · rw [if_neg hcd] at hY
    refine lv_goto (tgt := 1689) hx hb dL_law_713 (by decide) ?_
    exact W.widen (by omega) (by omega) (kk σ n ad _ _ _ _ _ _ hI hY (lv_sub hl [1, 2, 3, 4, 5, 6] rfl))

set_option maxHeartbeats 4000000 in
set_option maxRecDepth 100000 in
theorem t_topUp (l : Launch) (hst : l.stackTraces = false) (hC : CallFix p m c cL_law 9 s #[.ref b] wsL_law RL) (hI : Inv σ n) (hY : SyS G ad σ n σ n th o od s H locs) (hl : lv_has ls 9 (lawlv b ad i)) (hX : va_X b L xs s s.heap) (hbl : b < s.heap.size) (hG : G.1 = s.heap.size) (hi : 0 ≤ i.toInt ∧ i.toInt + 5 ≤ L) (hL : L ≤ 2560) (hcr : cells + 8 ≤ 601024 ∧ slots + 60 ≤ 7293033) (kk : Kt p l e s m below meth c cells slots Q G b i) : W p l e room_1 s m #[.ref b] below meth c H locs cells slots Q (F0 m 716 ls []) := by
  have hx := hC.1
  have hb := hC.2.1
  obtain ⟨p0, e0⟩ : ∃ z, xs (ix (i + 1)) = z := ⟨_, rfl⟩
  obtain ⟨p1, e1⟩ : ∃ z, xs (ix (i + 2)) = z := ⟨_, rfl⟩
  obtain ⟨p2, e2⟩ : ∃ z, xs (ix (i + 3)) = z := ⟨_, rfl⟩
  refine lv_aload_n hx hb dL_law_716 rfl (lv_at hl 2 rfl) ?_
  refine lv_aload_n hx hb dL_law_717 rfl (lv_at hl 1 rfl) ?_
  refine lv_iload hx hb dL_law_718 (lv_at hl 0 rfl) ?_
  refine lv_iconst (v := 1) hx hb dL_law_720 (by decide) ?_
  refine lv_iadd hx hb dL_law_721 ?_
  refine g_scr hC hY hX hbl hG (i_k hi hL 1 (by decide)) e0 dL_law_722 ?_
  refine lv_aload_n hx hb dL_law_723 rfl (lv_at hl 1 rfl) ?_
  refine lv_iload hx hb dL_law_724 (lv_at hl 0 rfl) ?_
  refine lv_iconst (v := 2) hx hb dL_law_726 (by decide) ?_
  refine lv_iadd hx hb dL_law_727 ?_
  refine g_scr hC hY hX hbl hG (i_k hi hL 2 (by decide)) e1 dL_law_728 ?_
  refine lv_aload_n hx hb dL_law_729 rfl (lv_at hl 1 rfl) ?_
  refine lv_iload hx hb dL_law_730 (lv_at hl 0 rfl) ?_
  refine lv_iconst (v := 3) hx hb dL_law_732 (by decide) ?_
  refine lv_iadd hx hb dL_law_733 ?_
  refine g_scr hC hY hX hbl hG (i_k hi hL 3 (by decide)) e2 dL_law_734 ?_
  refine lv_aload_n hx hb dL_law_735 rfl (lv_at hl 4 rfl) ?_
  refine g_calli hY (g_runL (n := 5) hC (c_L_topUp l G ad σ n σ n th o od hst hI.1 hI.2.2.2.1 p0 p1 p2) gL_law_L_topUp rfl ⟨rfl, rfl⟩ (by decide +kernel) ⟨Nat.le_of_ble_eq_true rfl, Nat.le_of_ble_eq_true rfl⟩ hY rfl hl.1 rfl (Nat.le_of_ble_eq_true rfl) dL_law_736 ⟨by show _ ≤ 601024; omega, by show _ ≤ 7293033; omega⟩) (fun r H locs hw hY => ?_)
  obtain rfl := hw
  refine lv_istore (lv' := [(6, .int (cdTop σ n p0 p1 p2)), (5, .int i), (0, .ref b), (1, .ref (ad 0)), (2, .ref (ad 5)), (3, .ref (ad 21)), (4, .ref (ad 22))]) hx hb dL_law_739 hl (by decide) rfl (fun ls hl => ?_)
  refine lv_aload_n hx hb dL_law_741 rfl (lv_at hl 4 rfl) ?_
  refine lv_aload_n hx hb dL_law_742 rfl (lv_at hl 2 rfl) ?_
  refine lv_iload hx hb dL_law_743 (lv_at hl 1 rfl) ?_
  refine lv_iconst (v := 1) hx hb dL_law_745 (by decide) ?_
  refine lv_iadd hx hb dL_law_746 ?_
  refine g_scr hC hY hX hbl hG (i_k hi hL 1 (by decide)) e0 dL_law_747 ?_
  refine lv_aload_n hx hb dL_law_748 rfl (lv_at hl 2 rfl) ?_
  refine lv_iload hx hb dL_law_749 (lv_at hl 1 rfl) ?_
  refine lv_iconst (v := 2) hx hb dL_law_751 (by decide) ?_
  refine lv_iadd hx hb dL_law_752 ?_
  refine g_scr hC hY hX hbl hG (i_k hi hL 2 (by decide)) e1 dL_law_753 ?_
  refine lv_aload_n hx hb dL_law_754 rfl (lv_at hl 2 rfl) ?_
  refine lv_iload hx hb dL_law_755 (lv_at hl 1 rfl) ?_
  refine lv_iconst (v := 3) hx hb dL_law_757 (by decide) ?_
  refine lv_iadd hx hb dL_law_758 ?_
  refine g_scr hC hY hX hbl hG (i_k hi hL 3 (by decide)) e2 dL_law_759 ?_
  refine g_calli hY (g_runV (n := 3) (q := (RX2, TX2, 17)) (r := 5) hC (c_X2_topUp l G ad (if cdTop σ n p0 p1 p2 = 0 then us σ 11 (ix p0) (σ 11 (ix p0) + tpV σ (ix p0) p1 p2) else σ) n σ n th (if cdTop σ n p0 p1 p2 = 0 then vp_updL o 0 ((tpV σ (ix p0) p1 p2).toInt64) else o) od hI.1 hI.2.2.2.1 (fun i hi => (hI.2.2.1 i hi).1) p0 p1 p2) gL_law_X2_topUp rfl ⟨rfl, rfl⟩ (by decide +kernel) ⟨Nat.le_of_ble_eq_true rfl, Nat.le_of_ble_eq_true rfl⟩ hY (by omega) rfl (ci := 2) rfl rfl hl.1 rfl (Nat.le_of_ble_eq_true rfl) dL_law_760 ⟨by show _ ≤ 601024; omega, by show _ ≤ 7293033; omega⟩) (fun r2 H locs h2 hY => ?_)
  refine lv_istore (lv' := [(7, .int r2), (6, .int (cdTop σ n p0 p1 p2)), (5, .int i), (0, .ref b), (1, .ref (ad 0)), (2, .ref (ad 5)), (3, .ref (ad 21)), (4, .ref (ad 22))]) hx hb dL_law_763 hl (by decide) rfl (fun ls hl => ?_)
  refine lv_aload_n hx hb dL_law_765 rfl (lv_at hl 5 rfl) ?_
  refine g_calli hY (g_runV (n := 0) (q := (RX2, TX2, 17)) (r := 5) hC (c_X2_thrown l G _ _ _ _ _ _ _ _) gL_law_X2_thrown rfl ⟨rfl, rfl⟩ (by decide +kernel) ⟨Nat.le_of_ble_eq_true rfl, Nat.le_of_ble_eq_true rfl⟩ hY (by omega) rfl (ci := 2) rfl rfl hl.1 rfl (Nat.le_of_ble_eq_true rfl) dL_law_766 ⟨by show _ ≤ 601024; omega, by show _ ≤ 7293033; omega⟩) (fun r3 H locs h3 hY => ?_)
  obtain rfl := h3
  refine lv_iload hx hb dL_law_769 (lv_at hl 1 rfl) ?_
  refine b_icmp_eq (tgt := 776) hx hb dL_law_771 (by decide) (fun _ => ?_) (fun h => absurd rfl h)
  refine lv_iload hx hb dL_law_776 (lv_at hl 1 rfl) ?_
  refine b_if_ne (tgt := 793) hx hb dL_law_778 (by decide) (fun h => ?_) (fun h => ?_)
  · have hcd : ¬ cdTop σ n p0 p1 p2 = 0 := fun q => h (by rw [q]; rfl)
    simp only [if_neg hcd] at hY
    refine lv_goto (tgt := 1689) hx hb dL_law_793 (by decide) ?_
    exact W.widen (by omega) (by omega) (kk σ n ad _ _ _ _ _ _ hI hY (lv_sub hl [2, 3, 4, 5, 6, 7] rfl))
  · have hcd : cdTop σ n p0 p1 p2 = 0 := i_ext h
    simp only [if_pos hcd] at hY
    have hr : (0 ≤ p0.toInt ∧ p0.toInt < (n : Int)) ∧ ((σ 4 (ix p0)).toInt ≤ p1.toInt ∧ p1.toInt < (σ 5 (ix p0)).toInt) ∧ 1 ≤ p2.toInt ∧ p2.toInt ≤ 6 := by
      unfold cdTop at hcd
      (repeat' split at hcd) <;> first | (exact absurd hcd (by decide)) | omega
    have ev : r2.toInt64 = (tpV σ (ix p0) p1 p2).toInt64 := by
      rw [h2 hcd]
      exact congrArg Int32.toInt64 (show _ = _ from by unfold tpV tmV; rw [rf_eq hI (ix_lt hr.1)]).symm
    refine lv_aload_n hx hb dL_law_781 rfl (lv_at hl 6 rfl) ?_
    refine lv_iconst (v := 0) hx hb dL_law_782 (by decide) ?_
    refine rdO hC hY dL_law_783 ?_
    refine lv_iload hx hb dL_law_784 (lv_at hl 0 rfl) ?_
    refine lv_i2l hx hb dL_law_786 rfl ?_
    refine W.eq (g2 := F0 m 787 ls [.long (tpV σ (ix p0) p1 p2).toInt64, .long (tpV σ (ix p0) p1 p2).toInt64]) (by rw [ev]; rfl) ?_
    refine g_lcmp hx hb dL_law_787 ?_
    refine b_if_eq (tgt := 793) hx hb dL_law_788 (by decide) (fun _ => ?_) (fun h => absurd rfl h)
    rw [show tmV σ (ix p0) p1 p2 = tpV σ (ix p0) p1 p2 from by unfold tpV tmV; rw [rf_eq hI (ix_lt hr.1)]] at hY
    refine lv_goto (tgt := 1689) hx hb dL_law_793 (by decide) ?_
    exact W.widen (by omega) (by omega) (kk (us σ 11 (ix p0) (σ 11 (ix p0) + tpV σ (ix p0) p1 p2)) n ad _ _ _ _ _ _ (inv_11 hI (ix_lt hr.1)) hY (lv_sub hl [2, 3, 4, 5, 6, 7] rfl))

set_option maxHeartbeats 4000000 in
set_option maxRecDepth 100000 in
theorem t_draw (l : Launch) (hst : l.stackTraces = false) (hC : CallFix p m c cL_law 9 s #[.ref b] wsL_law RL) (hI : Inv σ n) (hY : SyS G ad σ n σ n th o od s H locs) (hl : lv_has ls 9 (lawlv b ad i)) (hX : va_X b L xs s s.heap) (hbl : b < s.heap.size) (hG : G.1 = s.heap.size) (hi : 0 ≤ i.toInt ∧ i.toInt + 5 ≤ L) (hL : L ≤ 2560) (hcr : cells + 8 ≤ 601024 ∧ slots + 60 ≤ 7293033) (kk : Kt p l e s m below meth c cells slots Q G b i) : W p l e room_1 s m #[.ref b] below meth c H locs cells slots Q (F0 m 796 ls []) := by
  have hx := hC.1
  have hb := hC.2.1
  obtain ⟨p0, e0⟩ : ∃ z, xs (ix (i + 1)) = z := ⟨_, rfl⟩
  obtain ⟨p1, e1⟩ : ∃ z, xs (ix (i + 2)) = z := ⟨_, rfl⟩
  refine lv_aload_n hx hb dL_law_796 rfl (lv_at hl 2 rfl) ?_
  refine lv_aload_n hx hb dL_law_797 rfl (lv_at hl 1 rfl) ?_
  refine lv_iload hx hb dL_law_798 (lv_at hl 0 rfl) ?_
  refine lv_iconst (v := 1) hx hb dL_law_800 (by decide) ?_
  refine lv_iadd hx hb dL_law_801 ?_
  refine g_scr hC hY hX hbl hG (i_k hi hL 1 (by decide)) e0 dL_law_802 ?_
  refine lv_aload_n hx hb dL_law_803 rfl (lv_at hl 1 rfl) ?_
  refine lv_iload hx hb dL_law_804 (lv_at hl 0 rfl) ?_
  refine lv_iconst (v := 2) hx hb dL_law_806 (by decide) ?_
  refine lv_iadd hx hb dL_law_807 ?_
  refine g_scr hC hY hX hbl hG (i_k hi hL 2 (by decide)) e1 dL_law_808 ?_
  refine lv_aload_n hx hb dL_law_809 rfl (lv_at hl 4 rfl) ?_
  refine g_calli hY (g_runL (n := 4) hC (c_L_draw l G ad σ n σ n th o od hst hI.1 hI.2.2.2.1 p0 p1) gL_law_L_draw rfl ⟨rfl, rfl⟩ (by decide +kernel) ⟨Nat.le_of_ble_eq_true rfl, Nat.le_of_ble_eq_true rfl⟩ hY rfl hl.1 rfl (Nat.le_of_ble_eq_true rfl) dL_law_810 ⟨by show _ ≤ 601024; omega, by show _ ≤ 7293033; omega⟩) (fun r H locs hw hY => ?_)
  obtain rfl := hw
  refine lv_istore (lv' := [(6, .int (cdDraw σ n p0 p1)), (5, .int i), (0, .ref b), (1, .ref (ad 0)), (2, .ref (ad 5)), (3, .ref (ad 21)), (4, .ref (ad 22))]) hx hb dL_law_813 hl (by decide) rfl (fun ls hl => ?_)
  refine lv_aload_n hx hb dL_law_815 rfl (lv_at hl 4 rfl) ?_
  refine lv_aload_n hx hb dL_law_816 rfl (lv_at hl 2 rfl) ?_
  refine lv_iload hx hb dL_law_817 (lv_at hl 1 rfl) ?_
  refine lv_iconst (v := 1) hx hb dL_law_819 (by decide) ?_
  refine lv_iadd hx hb dL_law_820 ?_
  refine g_scr hC hY hX hbl hG (i_k hi hL 1 (by decide)) e0 dL_law_821 ?_
  refine lv_aload_n hx hb dL_law_822 rfl (lv_at hl 2 rfl) ?_
  refine lv_iload hx hb dL_law_823 (lv_at hl 1 rfl) ?_
  refine lv_iconst (v := 2) hx hb dL_law_825 (by decide) ?_
  refine lv_iadd hx hb dL_law_826 ?_
  refine g_scr hC hY hX hbl hG (i_k hi hL 2 (by decide)) e1 dL_law_827 ?_
  refine g_calli hY (g_runV (n := 2) (q := (RX2, TX2, 17)) (r := 5) hC (c_X2_draw l G ad (if cdDraw σ n p0 p1 = 0 then us σ 11 (ix p0) (σ 11 (ix p0) - p1) else σ) n σ n th (if cdDraw σ n p0 p1 = 0 then vp_updL o 0 ((us σ 11 (ix p0) (σ 11 (ix p0) - p1) 11 (ix p0)).toInt64) else o) od hI.1  p0 p1) gL_law_X2_draw rfl ⟨rfl, rfl⟩ (by decide +kernel) ⟨Nat.le_of_ble_eq_true rfl, Nat.le_of_ble_eq_true rfl⟩ hY (by omega) rfl (ci := 2) rfl rfl hl.1 rfl (Nat.le_of_ble_eq_true rfl) dL_law_828 ⟨by show _ ≤ 601024; omega, by show _ ≤ 7293033; omega⟩) (fun r2 H locs h2 hY => ?_)
  refine lv_istore (lv' := [(7, .int r2), (6, .int (cdDraw σ n p0 p1)), (5, .int i), (0, .ref b), (1, .ref (ad 0)), (2, .ref (ad 5)), (3, .ref (ad 21)), (4, .ref (ad 22))]) hx hb dL_law_831 hl (by decide) rfl (fun ls hl => ?_)
  refine lv_aload_n hx hb dL_law_833 rfl (lv_at hl 5 rfl) ?_
  refine g_calli hY (g_runV (n := 0) (q := (RX2, TX2, 17)) (r := 5) hC (c_X2_thrown l G _ _ _ _ _ _ _ _) gL_law_X2_thrown rfl ⟨rfl, rfl⟩ (by decide +kernel) ⟨Nat.le_of_ble_eq_true rfl, Nat.le_of_ble_eq_true rfl⟩ hY (by omega) rfl (ci := 2) rfl rfl hl.1 rfl (Nat.le_of_ble_eq_true rfl) dL_law_834 ⟨by show _ ≤ 601024; omega, by show _ ≤ 7293033; omega⟩) (fun r3 H locs h3 hY => ?_)
  obtain rfl := h3
  refine lv_iload hx hb dL_law_837 (lv_at hl 1 rfl) ?_
  refine b_icmp_eq (tgt := 844) hx hb dL_law_839 (by decide) (fun _ => ?_) (fun h => absurd rfl h)
  refine lv_iload hx hb dL_law_844 (lv_at hl 1 rfl) ?_
  refine b_if_ne (tgt := 861) hx hb dL_law_846 (by decide) (fun h => ?_) (fun h => ?_)
  · have hcd : ¬ cdDraw σ n p0 p1 = 0 := fun q => h (by rw [q]; rfl)
    simp only [if_neg hcd] at hY
    refine lv_goto (tgt := 1689) hx hb dL_law_861 (by decide) ?_
    exact W.widen (by omega) (by omega) (kk σ n ad _ _ _ _ _ _ hI hY (lv_sub hl [2, 3, 4, 5, 6, 7] rfl))
  · have hcd : cdDraw σ n p0 p1 = 0 := i_ext h
    simp only [if_pos hcd] at hY
    have hr : (0 ≤ p0.toInt ∧ p0.toInt < (n : Int)) ∧ 1 ≤ p1.toInt ∧ p1.toInt ≤ 999999 := by
      unfold cdDraw at hcd
      (repeat' split at hcd) <;> first | (exact absurd hcd (by decide)) | omega
    have ev : r2.toInt64 = (us σ 11 (ix p0) (σ 11 (ix p0) - p1) 11 (ix p0)).toInt64 := by
      rw [h2 hcd]
    refine lv_aload_n hx hb dL_law_849 rfl (lv_at hl 6 rfl) ?_
    refine lv_iconst (v := 0) hx hb dL_law_850 (by decide) ?_
    refine rdO hC hY dL_law_851 ?_
    refine lv_iload hx hb dL_law_852 (lv_at hl 0 rfl) ?_
    refine lv_i2l hx hb dL_law_854 rfl ?_
    refine W.eq (g2 := F0 m 855 ls [.long (us σ 11 (ix p0) (σ 11 (ix p0) - p1) 11 (ix p0)).toInt64, .long (us σ 11 (ix p0) (σ 11 (ix p0) - p1) 11 (ix p0)).toInt64]) (by rw [ev]; rfl) ?_
    refine g_lcmp hx hb dL_law_855 ?_
    refine b_if_eq (tgt := 861) hx hb dL_law_856 (by decide) (fun _ => ?_) (fun h => absurd rfl h)
    refine lv_goto (tgt := 1689) hx hb dL_law_861 (by decide) ?_
    exact W.widen (by omega) (by omega) (kk (us σ 11 (ix p0) (σ 11 (ix p0) - p1)) n ad _ _ _ _ _ _ (inv_11 hI (ix_lt hr.1)) hY (lv_sub hl [2, 3, 4, 5, 6, 7] rfl))

set_option maxHeartbeats 4000000 in
set_option maxRecDepth 100000 in
theorem t_held (l : Launch) (hst : l.stackTraces = false) (hC : CallFix p m c cL_law 9 s #[.ref b] wsL_law RL) (hI : Inv σ n) (hY : SyS G ad σ n σ n th o od s H locs) (hl : lv_has ls 9 (lawlv b ad i)) (hX : va_X b L xs s s.heap) (hbl : b < s.heap.size) (hG : G.1 = s.heap.size) (hi : 0 ≤ i.toInt ∧ i.toInt + 5 ≤ L) (hL : L ≤ 2560) (hcr : cells + 8 ≤ 601024 ∧ slots + 60 ≤ 7293033) (kk : Kt p l e s m below meth c cells slots Q G b i) : W p l e room_1 s m #[.ref b] below meth c H locs cells slots Q (F0 m 864 ls []) := by
  have hx := hC.1
  have hb := hC.2.1
  obtain ⟨p0, e0⟩ : ∃ z, xs (ix (i + 1)) = z := ⟨_, rfl⟩
  refine lv_aload_n hx hb dL_law_864 rfl (lv_at hl 2 rfl) ?_
  refine lv_aload_n hx hb dL_law_865 rfl (lv_at hl 1 rfl) ?_
  refine lv_iload hx hb dL_law_866 (lv_at hl 0 rfl) ?_
  refine lv_iconst (v := 1) hx hb dL_law_868 (by decide) ?_
  refine lv_iadd hx hb dL_law_869 ?_
  refine g_scr hC hY hX hbl hG (i_k hi hL 1 (by decide)) e0 dL_law_870 ?_
  refine lv_aload_n hx hb dL_law_871 rfl (lv_at hl 4 rfl) ?_
  refine g_calli hY (g_runL (n := 3) hC (c_L_held l G ad σ n σ n th o od hst hI.1 hI.2.2.2.1 p0) gL_law_L_held rfl ⟨rfl, rfl⟩ (by decide +kernel) ⟨Nat.le_of_ble_eq_true rfl, Nat.le_of_ble_eq_true rfl⟩ hY rfl hl.1 rfl (Nat.le_of_ble_eq_true rfl) dL_law_872 ⟨by show _ ≤ 601024; omega, by show _ ≤ 7293033; omega⟩) (fun r H locs hw hY => ?_)
  obtain rfl := hw
  refine lv_istore (lv' := [(6, .int (cdHeld n p0)), (5, .int i), (0, .ref b), (1, .ref (ad 0)), (2, .ref (ad 5)), (3, .ref (ad 21)), (4, .ref (ad 22))]) hx hb dL_law_875 hl (by decide) rfl (fun ls hl => ?_)
  refine lv_aload_n hx hb dL_law_877 rfl (lv_at hl 4 rfl) ?_
  refine lv_aload_n hx hb dL_law_878 rfl (lv_at hl 2 rfl) ?_
  refine lv_iload hx hb dL_law_879 (lv_at hl 1 rfl) ?_
  refine lv_iconst (v := 1) hx hb dL_law_881 (by decide) ?_
  refine lv_iadd hx hb dL_law_882 ?_
  refine g_scr hC hY hX hbl hG (i_k hi hL 1 (by decide)) e0 dL_law_883 ?_
  refine g_calli hY (g_runV (n := 1) (q := (RX2, TX2, 17)) (r := 5) hC (c_X2_held l G ad σ n σ n th (if cdHeld n p0 = 0 then vp_updL o 0 ((σ 11 (ix p0)).toInt64) else o) od hI.1  p0) gL_law_X2_held rfl ⟨rfl, rfl⟩ (by decide +kernel) ⟨Nat.le_of_ble_eq_true rfl, Nat.le_of_ble_eq_true rfl⟩ hY (by omega) rfl (ci := 2) rfl rfl hl.1 rfl (Nat.le_of_ble_eq_true rfl) dL_law_884 ⟨by show _ ≤ 601024; omega, by show _ ≤ 7293033; omega⟩) (fun r2 H locs h2 hY => ?_)
  refine lv_istore (lv' := [(7, .int r2), (6, .int (cdHeld n p0)), (5, .int i), (0, .ref b), (1, .ref (ad 0)), (2, .ref (ad 5)), (3, .ref (ad 21)), (4, .ref (ad 22))]) hx hb dL_law_887 hl (by decide) rfl (fun ls hl => ?_)
  refine lv_aload_n hx hb dL_law_889 rfl (lv_at hl 5 rfl) ?_
  refine g_calli hY (g_runV (n := 0) (q := (RX2, TX2, 17)) (r := 5) hC (c_X2_thrown l G _ _ _ _ _ _ _ _) gL_law_X2_thrown rfl ⟨rfl, rfl⟩ (by decide +kernel) ⟨Nat.le_of_ble_eq_true rfl, Nat.le_of_ble_eq_true rfl⟩ hY (by omega) rfl (ci := 2) rfl rfl hl.1 rfl (Nat.le_of_ble_eq_true rfl) dL_law_890 ⟨by show _ ≤ 601024; omega, by show _ ≤ 7293033; omega⟩) (fun r3 H locs h3 hY => ?_)
  obtain rfl := h3
  refine lv_iload hx hb dL_law_893 (lv_at hl 1 rfl) ?_
  refine b_icmp_eq (tgt := 900) hx hb dL_law_895 (by decide) (fun _ => ?_) (fun h => absurd rfl h)
  refine lv_iload hx hb dL_law_900 (lv_at hl 1 rfl) ?_
  refine b_if_ne (tgt := 917) hx hb dL_law_902 (by decide) (fun h => ?_) (fun h => ?_)
  · have hcd : ¬ cdHeld n p0 = 0 := fun q => h (by rw [q]; rfl)
    simp only [if_neg hcd] at hY
    refine lv_goto (tgt := 1689) hx hb dL_law_917 (by decide) ?_
    exact W.widen (by omega) (by omega) (kk σ n ad _ _ _ _ _ _ hI hY (lv_sub hl [2, 3, 4, 5, 6, 7] rfl))
  · have hcd : cdHeld n p0 = 0 := i_ext h
    simp only [if_pos hcd] at hY
    have ev : r2.toInt64 = (σ 11 (ix p0)).toInt64 := by
      rw [h2 hcd]
    refine lv_aload_n hx hb dL_law_905 rfl (lv_at hl 6 rfl) ?_
    refine lv_iconst (v := 0) hx hb dL_law_906 (by decide) ?_
    refine rdO hC hY dL_law_907 ?_
    refine lv_iload hx hb dL_law_908 (lv_at hl 0 rfl) ?_
    refine lv_i2l hx hb dL_law_910 rfl ?_
    refine W.eq (g2 := F0 m 911 ls [.long (σ 11 (ix p0)).toInt64, .long (σ 11 (ix p0)).toInt64]) (by rw [ev]; rfl) ?_
    refine g_lcmp hx hb dL_law_911 ?_
    refine b_if_eq (tgt := 917) hx hb dL_law_912 (by decide) (fun _ => ?_) (fun h => absurd rfl h)
    refine lv_goto (tgt := 1689) hx hb dL_law_917 (by decide) ?_
    exact W.widen (by omega) (by omega) (kk σ n ad _ _ _ _ _ _ hI hY (lv_sub hl [2, 3, 4, 5, 6, 7] rfl))

set_option maxHeartbeats 4000000 in
set_option maxRecDepth 100000 in
theorem t_leases (l : Launch) (hst : l.stackTraces = false) (hC : CallFix p m c cL_law 9 s #[.ref b] wsL_law RL) (hI : Inv σ n) (hY : SyS G ad σ n σ n th o od s H locs) (hl : lv_has ls 9 (lawlv b ad i)) (hX : va_X b L xs s s.heap) (hbl : b < s.heap.size) (hG : G.1 = s.heap.size) (hi : 0 ≤ i.toInt ∧ i.toInt + 5 ≤ L) (hL : L ≤ 2560) (hcr : cells + 8 ≤ 601024 ∧ slots + 60 ≤ 7293033) (kk : Kt p l e s m below meth c cells slots Q G b i) : W p l e room_1 s m #[.ref b] below meth c H locs cells slots Q (F0 m 920 ls []) := by
  have hx := hC.1
  have hb := hC.2.1
  refine lv_aload_n hx hb dL_law_920 rfl (lv_at hl 2 rfl) ?_
  refine g_calli hY (g_runV (n := 0) (q := (RX1, TX1, 5)) (r := 0) hC (c_X1_leases l G ad σ n σ n th o od) gL_law_X1_leases rfl ⟨rfl, rfl⟩ (by decide +kernel) ⟨Nat.le_of_ble_eq_true rfl, Nat.le_of_ble_eq_true rfl⟩ hY (by omega) rfl (ci := 1) rfl rfl hl.1 rfl (Nat.le_of_ble_eq_true rfl) dL_law_921 ⟨by show _ ≤ 601024; omega, by show _ ≤ 7293033; omega⟩) (fun r1 H locs h1 hY => ?_)
  refine lv_aload_n hx hb dL_law_924 rfl (lv_at hl 3 rfl) ?_
  refine g_calli hY (g_runV (n := 0) (q := (RX2, TX2, 17)) (r := 5) hC (c_X2_leases l G ad σ n σ n th o od) gL_law_X2_leases rfl ⟨rfl, rfl⟩ (by decide +kernel) ⟨Nat.le_of_ble_eq_true rfl, Nat.le_of_ble_eq_true rfl⟩ hY (by omega) rfl (ci := 2) rfl rfl hl.1 rfl (Nat.le_of_ble_eq_true rfl) dL_law_925 ⟨by show _ ≤ 601024; omega, by show _ ≤ 7293033; omega⟩) (fun r2 H locs h2 hY => ?_)
  obtain rfl := h1
  obtain rfl := h2
  refine b_icmp_eq (tgt := 1689) hx hb dL_law_928 (by decide) (fun _ => ?_) (fun h => absurd rfl h)
  exact W.widen (by omega) (by omega) (kk σ n ad _ _ _ _ _ _ hI hY hl)

set_option maxHeartbeats 4000000 in
set_option maxRecDepth 100000 in
theorem t_leaseOn (l : Launch) (hst : l.stackTraces = false) (hC : CallFix p m c cL_law 9 s #[.ref b] wsL_law RL) (hI : Inv σ n) (hY : SyS G ad σ n σ n th o od s H locs) (hl : lv_has ls 9 (lawlv b ad i)) (hX : va_X b L xs s s.heap) (hbl : b < s.heap.size) (hG : G.1 = s.heap.size) (hi : 0 ≤ i.toInt ∧ i.toInt + 5 ≤ L) (hL : L ≤ 2560) (hcr : cells + 8 ≤ 601024 ∧ slots + 60 ≤ 7293033) (kk : Kt p l e s m below meth c cells slots Q G b i) : W p l e room_1 s m #[.ref b] below meth c H locs cells slots Q (F0 m 933 ls []) := by
  have hx := hC.1
  have hb := hC.2.1
  obtain ⟨p0, e0⟩ : ∃ z, xs (ix (i + 1)) = z := ⟨_, rfl⟩
  obtain ⟨p1, e1⟩ : ∃ z, xs (ix (i + 2)) = z := ⟨_, rfl⟩
  refine lv_aload_n hx hb dL_law_933 rfl (lv_at hl 2 rfl) ?_
  refine lv_aload_n hx hb dL_law_934 rfl (lv_at hl 1 rfl) ?_
  refine lv_iload hx hb dL_law_935 (lv_at hl 0 rfl) ?_
  refine lv_iconst (v := 1) hx hb dL_law_937 (by decide) ?_
  refine lv_iadd hx hb dL_law_938 ?_
  refine g_scr hC hY hX hbl hG (i_k hi hL 1 (by decide)) e0 dL_law_939 ?_
  refine lv_aload_n hx hb dL_law_940 rfl (lv_at hl 1 rfl) ?_
  refine lv_iload hx hb dL_law_941 (lv_at hl 0 rfl) ?_
  refine lv_iconst (v := 2) hx hb dL_law_943 (by decide) ?_
  refine lv_iadd hx hb dL_law_944 ?_
  refine g_scr hC hY hX hbl hG (i_k hi hL 2 (by decide)) e1 dL_law_945 ?_
  refine lv_aload_n hx hb dL_law_946 rfl (lv_at hl 4 rfl) ?_
  refine g_calli hY (g_runL (n := 4) hC (c_L_leaseOn l G ad σ n σ n th o od hst hI.1 hI.2.2.2.1 p0 p1) gL_law_L_leaseOn rfl ⟨rfl, rfl⟩ (by decide +kernel) ⟨Nat.le_of_ble_eq_true rfl, Nat.le_of_ble_eq_true rfl⟩ hY rfl hl.1 rfl (Nat.le_of_ble_eq_true rfl) dL_law_947 ⟨by show _ ≤ 601024; omega, by show _ ≤ 7293033; omega⟩) (fun r H locs hw hY => ?_)
  obtain rfl := hw
  refine lv_istore (lv' := [(6, .int (cdLOn p0 p1)), (5, .int i), (0, .ref b), (1, .ref (ad 0)), (2, .ref (ad 5)), (3, .ref (ad 21)), (4, .ref (ad 22))]) hx hb dL_law_950 hl (by decide) rfl (fun ls hl => ?_)
  refine lv_aload_n hx hb dL_law_952 rfl (lv_at hl 4 rfl) ?_
  refine lv_aload_n hx hb dL_law_953 rfl (lv_at hl 2 rfl) ?_
  refine lv_iload hx hb dL_law_954 (lv_at hl 1 rfl) ?_
  refine lv_iconst (v := 1) hx hb dL_law_956 (by decide) ?_
  refine lv_iadd hx hb dL_law_957 ?_
  refine g_scr hC hY hX hbl hG (i_k hi hL 1 (by decide)) e0 dL_law_958 ?_
  refine lv_aload_n hx hb dL_law_959 rfl (lv_at hl 2 rfl) ?_
  refine lv_iload hx hb dL_law_960 (lv_at hl 1 rfl) ?_
  refine lv_iconst (v := 2) hx hb dL_law_962 (by decide) ?_
  refine lv_iadd hx hb dL_law_963 ?_
  refine g_scr hC hY hX hbl hG (i_k hi hL 2 (by decide)) e1 dL_law_964 ?_
  refine g_calli hY (g_runV (n := 2) (q := (RX2, TX2, 17)) (r := 5) hC (c_X2_leaseOn l G ad σ n σ n th (if cdLOn p0 p1 = 0 then vp_updL o 0 ((lnG σ n p0 p1 24 0).toInt64) else o) od hI.1  p0 p1) gL_law_X2_leaseOn rfl ⟨rfl, rfl⟩ (by decide +kernel) ⟨Nat.le_of_ble_eq_true rfl, Nat.le_of_ble_eq_true rfl⟩ hY (by omega) rfl (ci := 2) rfl rfl hl.1 rfl (Nat.le_of_ble_eq_true rfl) dL_law_965 ⟨by show _ ≤ 601024; omega, by show _ ≤ 7293033; omega⟩) (fun r2 H locs h2 hY => ?_)
  refine lv_istore (lv' := [(7, .int r2), (6, .int (cdLOn p0 p1)), (5, .int i), (0, .ref b), (1, .ref (ad 0)), (2, .ref (ad 5)), (3, .ref (ad 21)), (4, .ref (ad 22))]) hx hb dL_law_968 hl (by decide) rfl (fun ls hl => ?_)
  refine lv_aload_n hx hb dL_law_970 rfl (lv_at hl 5 rfl) ?_
  refine g_calli hY (g_runV (n := 0) (q := (RX2, TX2, 17)) (r := 5) hC (c_X2_thrown l G _ _ _ _ _ _ _ _) gL_law_X2_thrown rfl ⟨rfl, rfl⟩ (by decide +kernel) ⟨Nat.le_of_ble_eq_true rfl, Nat.le_of_ble_eq_true rfl⟩ hY (by omega) rfl (ci := 2) rfl rfl hl.1 rfl (Nat.le_of_ble_eq_true rfl) dL_law_971 ⟨by show _ ≤ 601024; omega, by show _ ≤ 7293033; omega⟩) (fun r3 H locs h3 hY => ?_)
  obtain rfl := h3
  refine lv_iload hx hb dL_law_974 (lv_at hl 1 rfl) ?_
  refine b_icmp_eq (tgt := 981) hx hb dL_law_976 (by decide) (fun _ => ?_) (fun h => absurd rfl h)
  refine lv_iload hx hb dL_law_981 (lv_at hl 1 rfl) ?_
  refine b_if_ne (tgt := 998) hx hb dL_law_983 (by decide) (fun h => ?_) (fun h => ?_)
  · have hcd : ¬ cdLOn p0 p1 = 0 := fun q => h (by rw [q]; rfl)
    simp only [if_neg hcd] at hY
    refine lv_goto (tgt := 1689) hx hb dL_law_998 (by decide) ?_
    exact W.widen (by omega) (by omega) (kk σ n ad _ _ _ _ _ _ hI hY (lv_sub hl [2, 3, 4, 5, 6, 7] rfl))
  · have hcd : cdLOn p0 p1 = 0 := i_ext h
    simp only [if_pos hcd] at hY
    have ev : r2.toInt64 = (lnG σ n p0 p1 24 0).toInt64 := by
      rw [h2 hcd]
      exact congrArg Int32.toInt64 (show _ = _ from ln_eq hI).symm
    refine lv_aload_n hx hb dL_law_986 rfl (lv_at hl 6 rfl) ?_
    refine lv_iconst (v := 0) hx hb dL_law_987 (by decide) ?_
    refine rdO hC hY dL_law_988 ?_
    refine lv_iload hx hb dL_law_989 (lv_at hl 0 rfl) ?_
    refine lv_i2l hx hb dL_law_991 rfl ?_
    refine W.eq (g2 := F0 m 992 ls [.long (lnG σ n p0 p1 24 0).toInt64, .long (lnG σ n p0 p1 24 0).toInt64]) (by rw [ev]; rfl) ?_
    refine g_lcmp hx hb dL_law_992 ?_
    refine b_if_eq (tgt := 998) hx hb dL_law_993 (by decide) (fun _ => ?_) (fun h => absurd rfl h)
    refine lv_goto (tgt := 1689) hx hb dL_law_998 (by decide) ?_
    exact W.widen (by omega) (by omega) (kk σ n ad _ _ _ _ _ _ hI hY (lv_sub hl [2, 3, 4, 5, 6, 7] rfl))

set_option maxHeartbeats 4000000 in
set_option maxRecDepth 100000 in
theorem t_rentOn (l : Launch) (hst : l.stackTraces = false) (hC : CallFix p m c cL_law 9 s #[.ref b] wsL_law RL) (hI : Inv σ n) (hY : SyS G ad σ n σ n th o od s H locs) (hl : lv_has ls 9 (lawlv b ad i)) (hX : va_X b L xs s s.heap) (hbl : b < s.heap.size) (hG : G.1 = s.heap.size) (hi : 0 ≤ i.toInt ∧ i.toInt + 5 ≤ L) (hL : L ≤ 2560) (hcr : cells + 8 ≤ 601024 ∧ slots + 60 ≤ 7293033) (kk : Kt p l e s m below meth c cells slots Q G b i) : W p l e room_1 s m #[.ref b] below meth c H locs cells slots Q (F0 m 1001 ls []) := by
  have hx := hC.1
  have hb := hC.2.1
  obtain ⟨p0, e0⟩ : ∃ z, xs (ix (i + 1)) = z := ⟨_, rfl⟩
  obtain ⟨p1, e1⟩ : ∃ z, xs (ix (i + 2)) = z := ⟨_, rfl⟩
  refine lv_aload_n hx hb dL_law_1001 rfl (lv_at hl 2 rfl) ?_
  refine lv_aload_n hx hb dL_law_1002 rfl (lv_at hl 1 rfl) ?_
  refine lv_iload hx hb dL_law_1003 (lv_at hl 0 rfl) ?_
  refine lv_iconst (v := 1) hx hb dL_law_1005 (by decide) ?_
  refine lv_iadd hx hb dL_law_1006 ?_
  refine g_scr hC hY hX hbl hG (i_k hi hL 1 (by decide)) e0 dL_law_1007 ?_
  refine lv_aload_n hx hb dL_law_1008 rfl (lv_at hl 1 rfl) ?_
  refine lv_iload hx hb dL_law_1009 (lv_at hl 0 rfl) ?_
  refine lv_iconst (v := 2) hx hb dL_law_1011 (by decide) ?_
  refine lv_iadd hx hb dL_law_1012 ?_
  refine g_scr hC hY hX hbl hG (i_k hi hL 2 (by decide)) e1 dL_law_1013 ?_
  refine lv_aload_n hx hb dL_law_1014 rfl (lv_at hl 4 rfl) ?_
  refine g_calli hY (g_runL (n := 4) hC (c_L_rentOn l G ad σ n σ n th o od hst hI.1 hI.2.2.2.1 p0 p1) gL_law_L_rentOn rfl ⟨rfl, rfl⟩ (by decide +kernel) ⟨Nat.le_of_ble_eq_true rfl, Nat.le_of_ble_eq_true rfl⟩ hY rfl hl.1 rfl (Nat.le_of_ble_eq_true rfl) dL_law_1015 ⟨by show _ ≤ 601024; omega, by show _ ≤ 7293033; omega⟩) (fun r H locs hw hY => ?_)
  obtain rfl := hw
  refine lv_istore (lv' := [(6, .int (cdLX n 7200 p0 p1)), (5, .int i), (0, .ref b), (1, .ref (ad 0)), (2, .ref (ad 5)), (3, .ref (ad 21)), (4, .ref (ad 22))]) hx hb dL_law_1018 hl (by decide) rfl (fun ls hl => ?_)
  refine lv_aload_n hx hb dL_law_1020 rfl (lv_at hl 4 rfl) ?_
  refine lv_aload_n hx hb dL_law_1021 rfl (lv_at hl 2 rfl) ?_
  refine lv_iload hx hb dL_law_1022 (lv_at hl 1 rfl) ?_
  refine lv_iconst (v := 1) hx hb dL_law_1024 (by decide) ?_
  refine lv_iadd hx hb dL_law_1025 ?_
  refine g_scr hC hY hX hbl hG (i_k hi hL 1 (by decide)) e0 dL_law_1026 ?_
  refine lv_aload_n hx hb dL_law_1027 rfl (lv_at hl 2 rfl) ?_
  refine lv_iload hx hb dL_law_1028 (lv_at hl 1 rfl) ?_
  refine lv_iconst (v := 2) hx hb dL_law_1030 (by decide) ?_
  refine lv_iadd hx hb dL_law_1031 ?_
  refine g_scr hC hY hX hbl hG (i_k hi hL 2 (by decide)) e1 dL_law_1032 ?_
  refine g_calli hY (g_runV (n := 2) (q := (RX2, TX2, 17)) (r := 5) hC (c_X2_rentOn l G ad σ n σ n th (if cdLX n 7200 p0 p1 = 0 then vp_updL o 0 ((rfF σ (ix p0) p1).toInt64) else o) od hI.1 hI.2.2.2.1 (fun i hi => (hI.2.2.1 i hi).1) p0 p1) gL_law_X2_rentOn rfl ⟨rfl, rfl⟩ (by decide +kernel) ⟨Nat.le_of_ble_eq_true rfl, Nat.le_of_ble_eq_true rfl⟩ hY (by omega) rfl (ci := 2) rfl rfl hl.1 rfl (Nat.le_of_ble_eq_true rfl) dL_law_1033 ⟨by show _ ≤ 601024; omega, by show _ ≤ 7293033; omega⟩) (fun r2 H locs h2 hY => ?_)
  refine lv_istore (lv' := [(7, .int r2), (6, .int (cdLX n 7200 p0 p1)), (5, .int i), (0, .ref b), (1, .ref (ad 0)), (2, .ref (ad 5)), (3, .ref (ad 21)), (4, .ref (ad 22))]) hx hb dL_law_1036 hl (by decide) rfl (fun ls hl => ?_)
  refine lv_aload_n hx hb dL_law_1038 rfl (lv_at hl 5 rfl) ?_
  refine g_calli hY (g_runV (n := 0) (q := (RX2, TX2, 17)) (r := 5) hC (c_X2_thrown l G _ _ _ _ _ _ _ _) gL_law_X2_thrown rfl ⟨rfl, rfl⟩ (by decide +kernel) ⟨Nat.le_of_ble_eq_true rfl, Nat.le_of_ble_eq_true rfl⟩ hY (by omega) rfl (ci := 2) rfl rfl hl.1 rfl (Nat.le_of_ble_eq_true rfl) dL_law_1039 ⟨by show _ ≤ 601024; omega, by show _ ≤ 7293033; omega⟩) (fun r3 H locs h3 hY => ?_)
  obtain rfl := h3
  refine lv_iload hx hb dL_law_1042 (lv_at hl 1 rfl) ?_
  refine b_icmp_eq (tgt := 1049) hx hb dL_law_1044 (by decide) (fun _ => ?_) (fun h => absurd rfl h)
  refine lv_iload hx hb dL_law_1049 (lv_at hl 1 rfl) ?_
  refine b_if_ne (tgt := 1066) hx hb dL_law_1051 (by decide) (fun h => ?_) (fun h => ?_)
  · have hcd : ¬ cdLX n 7200 p0 p1 = 0 := fun q => h (by rw [q]; rfl)
    simp only [if_neg hcd] at hY
    refine lv_goto (tgt := 1689) hx hb dL_law_1066 (by decide) ?_
    exact W.widen (by omega) (by omega) (kk σ n ad _ _ _ _ _ _ hI hY (lv_sub hl [2, 3, 4, 5, 6, 7] rfl))
  · have hcd : cdLX n 7200 p0 p1 = 0 := i_ext h
    simp only [if_pos hcd] at hY
    have hr : (0 ≤ p0.toInt ∧ p0.toInt < (n : Int)) ∧ 0 ≤ p1.toInt ∧ p1.toInt < 7200 := by
      unfold cdLX at hcd
      (repeat' split at hcd) <;> first | (exact absurd hcd (by decide)) | omega
    have ev : r2.toInt64 = (rfF σ (ix p0) p1).toInt64 := by
      rw [h2 hcd]
      exact congrArg Int32.toInt64 (show _ = _ from rf_eq hI (ix_lt hr.1) p1).symm
    refine lv_aload_n hx hb dL_law_1054 rfl (lv_at hl 6 rfl) ?_
    refine lv_iconst (v := 0) hx hb dL_law_1055 (by decide) ?_
    refine rdO hC hY dL_law_1056 ?_
    refine lv_iload hx hb dL_law_1057 (lv_at hl 0 rfl) ?_
    refine lv_i2l hx hb dL_law_1059 rfl ?_
    refine W.eq (g2 := F0 m 1060 ls [.long (rfF σ (ix p0) p1).toInt64, .long (rfF σ (ix p0) p1).toInt64]) (by rw [ev]; rfl) ?_
    refine g_lcmp hx hb dL_law_1060 ?_
    refine b_if_eq (tgt := 1066) hx hb dL_law_1061 (by decide) (fun _ => ?_) (fun h => absurd rfl h)
    refine lv_goto (tgt := 1689) hx hb dL_law_1066 (by decide) ?_
    exact W.widen (by omega) (by omega) (kk σ n ad _ _ _ _ _ _ hI hY (lv_sub hl [2, 3, 4, 5, 6, 7] rfl))

set_option maxHeartbeats 4000000 in
set_option maxRecDepth 100000 in
theorem t_bill (l : Launch) (hst : l.stackTraces = false) (hC : CallFix p m c cL_law 9 s #[.ref b] wsL_law RL) (hI : Inv σ n) (hY : SyS G ad σ n σ n th o od s H locs) (hl : lv_has ls 9 (lawlv b ad i)) (hX : va_X b L xs s s.heap) (hbl : b < s.heap.size) (hG : G.1 = s.heap.size) (hi : 0 ≤ i.toInt ∧ i.toInt + 5 ≤ L) (hL : L ≤ 2560) (hcr : cells + 8 ≤ 601024 ∧ slots + 60 ≤ 7293033) (kk : Kt p l e s m below meth c cells slots Q G b i) : W p l e room_1 s m #[.ref b] below meth c H locs cells slots Q (F0 m 1069 ls []) := by
  have hx := hC.1
  have hb := hC.2.1
  obtain ⟨p0, e0⟩ : ∃ z, xs (ix (i + 1)) = z := ⟨_, rfl⟩
  obtain ⟨p1, e1⟩ : ∃ z, xs (ix (i + 2)) = z := ⟨_, rfl⟩
  refine lv_aload_n hx hb dL_law_1069 rfl (lv_at hl 2 rfl) ?_
  refine lv_aload_n hx hb dL_law_1070 rfl (lv_at hl 1 rfl) ?_
  refine lv_iload hx hb dL_law_1071 (lv_at hl 0 rfl) ?_
  refine lv_iconst (v := 1) hx hb dL_law_1073 (by decide) ?_
  refine lv_iadd hx hb dL_law_1074 ?_
  refine g_scr hC hY hX hbl hG (i_k hi hL 1 (by decide)) e0 dL_law_1075 ?_
  refine lv_aload_n hx hb dL_law_1076 rfl (lv_at hl 1 rfl) ?_
  refine lv_iload hx hb dL_law_1077 (lv_at hl 0 rfl) ?_
  refine lv_iconst (v := 2) hx hb dL_law_1079 (by decide) ?_
  refine lv_iadd hx hb dL_law_1080 ?_
  refine g_scr hC hY hX hbl hG (i_k hi hL 2 (by decide)) e1 dL_law_1081 ?_
  refine lv_aload_n hx hb dL_law_1082 rfl (lv_at hl 4 rfl) ?_
  refine g_calli hY (g_runL (n := 4) hC (c_L_bill l G ad σ n σ n th o od hst hI.1 hI.2.2.2.1 p0 p1) gL_law_L_bill rfl ⟨rfl, rfl⟩ (by decide +kernel) ⟨Nat.le_of_ble_eq_true rfl, Nat.le_of_ble_eq_true rfl⟩ hY rfl hl.1 rfl (Nat.le_of_ble_eq_true rfl) dL_law_1083 ⟨by show _ ≤ 601024; omega, by show _ ≤ 7293033; omega⟩) (fun r H locs hw hY => ?_)
  obtain rfl := hw
  refine lv_istore (lv' := [(6, .int (cdLX n 240 p0 p1)), (5, .int i), (0, .ref b), (1, .ref (ad 0)), (2, .ref (ad 5)), (3, .ref (ad 21)), (4, .ref (ad 22))]) hx hb dL_law_1086 hl (by decide) rfl (fun ls hl => ?_)
  refine lv_aload_n hx hb dL_law_1088 rfl (lv_at hl 4 rfl) ?_
  refine lv_aload_n hx hb dL_law_1089 rfl (lv_at hl 2 rfl) ?_
  refine lv_iload hx hb dL_law_1090 (lv_at hl 1 rfl) ?_
  refine lv_iconst (v := 1) hx hb dL_law_1092 (by decide) ?_
  refine lv_iadd hx hb dL_law_1093 ?_
  refine g_scr hC hY hX hbl hG (i_k hi hL 1 (by decide)) e0 dL_law_1094 ?_
  refine lv_aload_n hx hb dL_law_1095 rfl (lv_at hl 2 rfl) ?_
  refine lv_iload hx hb dL_law_1096 (lv_at hl 1 rfl) ?_
  refine lv_iconst (v := 2) hx hb dL_law_1098 (by decide) ?_
  refine lv_iadd hx hb dL_law_1099 ?_
  refine g_scr hC hY hX hbl hG (i_k hi hL 2 (by decide)) e1 dL_law_1100 ?_
  refine g_calli hY (g_runV (n := 2) (q := (RX2, TX2, 17)) (r := 5) hC (c_X2_bill l G ad σ n σ n th (if cdLX n 240 p0 p1 = 0 then vp_updL o 0 ((bfF σ (ix p0) p1).toInt64) else o) od hI.1 hI.2.2.2.1 (fun i hi => (hI.2.2.1 i hi).1) p0 p1) gL_law_X2_bill rfl ⟨rfl, rfl⟩ (by decide +kernel) ⟨Nat.le_of_ble_eq_true rfl, Nat.le_of_ble_eq_true rfl⟩ hY (by omega) rfl (ci := 2) rfl rfl hl.1 rfl (Nat.le_of_ble_eq_true rfl) dL_law_1101 ⟨by show _ ≤ 601024; omega, by show _ ≤ 7293033; omega⟩) (fun r2 H locs h2 hY => ?_)
  refine lv_istore (lv' := [(7, .int r2), (6, .int (cdLX n 240 p0 p1)), (5, .int i), (0, .ref b), (1, .ref (ad 0)), (2, .ref (ad 5)), (3, .ref (ad 21)), (4, .ref (ad 22))]) hx hb dL_law_1104 hl (by decide) rfl (fun ls hl => ?_)
  refine lv_aload_n hx hb dL_law_1106 rfl (lv_at hl 5 rfl) ?_
  refine g_calli hY (g_runV (n := 0) (q := (RX2, TX2, 17)) (r := 5) hC (c_X2_thrown l G _ _ _ _ _ _ _ _) gL_law_X2_thrown rfl ⟨rfl, rfl⟩ (by decide +kernel) ⟨Nat.le_of_ble_eq_true rfl, Nat.le_of_ble_eq_true rfl⟩ hY (by omega) rfl (ci := 2) rfl rfl hl.1 rfl (Nat.le_of_ble_eq_true rfl) dL_law_1107 ⟨by show _ ≤ 601024; omega, by show _ ≤ 7293033; omega⟩) (fun r3 H locs h3 hY => ?_)
  obtain rfl := h3
  refine lv_iload hx hb dL_law_1110 (lv_at hl 1 rfl) ?_
  refine b_icmp_eq (tgt := 1117) hx hb dL_law_1112 (by decide) (fun _ => ?_) (fun h => absurd rfl h)
  refine lv_iload hx hb dL_law_1117 (lv_at hl 1 rfl) ?_
  refine b_if_ne (tgt := 1134) hx hb dL_law_1119 (by decide) (fun h => ?_) (fun h => ?_)
  · have hcd : ¬ cdLX n 240 p0 p1 = 0 := fun q => h (by rw [q]; rfl)
    simp only [if_neg hcd] at hY
    refine lv_goto (tgt := 1689) hx hb dL_law_1134 (by decide) ?_
    exact W.widen (by omega) (by omega) (kk σ n ad _ _ _ _ _ _ hI hY (lv_sub hl [2, 3, 4, 5, 6, 7] rfl))
  · have hcd : cdLX n 240 p0 p1 = 0 := i_ext h
    simp only [if_pos hcd] at hY
    have hr : (0 ≤ p0.toInt ∧ p0.toInt < (n : Int)) ∧ 0 ≤ p1.toInt ∧ p1.toInt < 240 := by
      unfold cdLX at hcd
      (repeat' split at hcd) <;> first | (exact absurd hcd (by decide)) | omega
    have ev : r2.toInt64 = (bfF σ (ix p0) p1).toInt64 := by
      rw [h2 hcd]
      exact congrArg Int32.toInt64 (show _ = _ from bf_eq hI (ix_lt hr.1) hr.2).symm
    refine lv_aload_n hx hb dL_law_1122 rfl (lv_at hl 6 rfl) ?_
    refine lv_iconst (v := 0) hx hb dL_law_1123 (by decide) ?_
    refine rdO hC hY dL_law_1124 ?_
    refine lv_iload hx hb dL_law_1125 (lv_at hl 0 rfl) ?_
    refine lv_i2l hx hb dL_law_1127 rfl ?_
    refine W.eq (g2 := F0 m 1128 ls [.long (bfF σ (ix p0) p1).toInt64, .long (bfF σ (ix p0) p1).toInt64]) (by rw [ev]; rfl) ?_
    refine g_lcmp hx hb dL_law_1128 ?_
    refine b_if_eq (tgt := 1134) hx hb dL_law_1129 (by decide) (fun _ => ?_) (fun h => absurd rfl h)
    refine lv_goto (tgt := 1689) hx hb dL_law_1134 (by decide) ?_
    exact W.widen (by omega) (by omega) (kk σ n ad _ _ _ _ _ _ hI hY (lv_sub hl [2, 3, 4, 5, 6, 7] rfl))

set_option maxHeartbeats 4000000 in
set_option maxRecDepth 100000 in
theorem t_billByDays (l : Launch) (hst : l.stackTraces = false) (hC : CallFix p m c cL_law 9 s #[.ref b] wsL_law RL) (hI : Inv σ n) (hY : SyS G ad σ n σ n th o od s H locs) (hl : lv_has ls 9 (lawlv b ad i)) (hX : va_X b L xs s s.heap) (hbl : b < s.heap.size) (hG : G.1 = s.heap.size) (hi : 0 ≤ i.toInt ∧ i.toInt + 5 ≤ L) (hL : L ≤ 2560) (hcr : cells + 8 ≤ 601024 ∧ slots + 60 ≤ 7293033) (kk : Kt p l e s m below meth c cells slots Q G b i) : W p l e room_1 s m #[.ref b] below meth c H locs cells slots Q (F0 m 1137 ls []) := by
  have hx := hC.1
  have hb := hC.2.1
  obtain ⟨p0, e0⟩ : ∃ z, xs (ix (i + 1)) = z := ⟨_, rfl⟩
  obtain ⟨p1, e1⟩ : ∃ z, xs (ix (i + 2)) = z := ⟨_, rfl⟩
  refine lv_aload_n hx hb dL_law_1137 rfl (lv_at hl 2 rfl) ?_
  refine lv_aload_n hx hb dL_law_1138 rfl (lv_at hl 1 rfl) ?_
  refine lv_iload hx hb dL_law_1139 (lv_at hl 0 rfl) ?_
  refine lv_iconst (v := 1) hx hb dL_law_1141 (by decide) ?_
  refine lv_iadd hx hb dL_law_1142 ?_
  refine g_scr hC hY hX hbl hG (i_k hi hL 1 (by decide)) e0 dL_law_1143 ?_
  refine lv_aload_n hx hb dL_law_1144 rfl (lv_at hl 1 rfl) ?_
  refine lv_iload hx hb dL_law_1145 (lv_at hl 0 rfl) ?_
  refine lv_iconst (v := 2) hx hb dL_law_1147 (by decide) ?_
  refine lv_iadd hx hb dL_law_1148 ?_
  refine g_scr hC hY hX hbl hG (i_k hi hL 2 (by decide)) e1 dL_law_1149 ?_
  refine lv_aload_n hx hb dL_law_1150 rfl (lv_at hl 4 rfl) ?_
  refine g_calli hY (g_runL (n := 4) hC (c_L_billByDays l G ad σ n σ n th o od hst hI.1 hI.2.2.2.1 p0 p1) gL_law_L_billByDays rfl ⟨rfl, rfl⟩ (by decide +kernel) ⟨Nat.le_of_ble_eq_true rfl, Nat.le_of_ble_eq_true rfl⟩ hY rfl hl.1 rfl (Nat.le_of_ble_eq_true rfl) dL_law_1151 ⟨by show _ ≤ 601024; omega, by show _ ≤ 7293033; omega⟩) (fun r H locs hw hY => ?_)
  obtain rfl := hw
  refine lv_istore (lv' := [(6, .int (cdLX n 240 p0 p1)), (5, .int i), (0, .ref b), (1, .ref (ad 0)), (2, .ref (ad 5)), (3, .ref (ad 21)), (4, .ref (ad 22))]) hx hb dL_law_1154 hl (by decide) rfl (fun ls hl => ?_)
  refine lv_aload_n hx hb dL_law_1156 rfl (lv_at hl 4 rfl) ?_
  refine lv_aload_n hx hb dL_law_1157 rfl (lv_at hl 2 rfl) ?_
  refine lv_iload hx hb dL_law_1158 (lv_at hl 1 rfl) ?_
  refine lv_iconst (v := 1) hx hb dL_law_1160 (by decide) ?_
  refine lv_iadd hx hb dL_law_1161 ?_
  refine g_scr hC hY hX hbl hG (i_k hi hL 1 (by decide)) e0 dL_law_1162 ?_
  refine lv_aload_n hx hb dL_law_1163 rfl (lv_at hl 2 rfl) ?_
  refine lv_iload hx hb dL_law_1164 (lv_at hl 1 rfl) ?_
  refine lv_iconst (v := 2) hx hb dL_law_1166 (by decide) ?_
  refine lv_iadd hx hb dL_law_1167 ?_
  refine g_scr hC hY hX hbl hG (i_k hi hL 2 (by decide)) e1 dL_law_1168 ?_
  refine g_calli hY (g_runV (n := 2) (q := (RX2, TX2, 17)) (r := 5) hC (c_X2_billByDays l G ad σ n σ n th (if cdLX n 240 p0 p1 = 0 then vp_updL o 0 ((bdP σ (ix p0) p1 30 / 30).toInt64) else o) od hI.1 hI.2.2.2.1 (fun i hi => (hI.2.2.1 i hi).1) p0 p1) gL_law_X2_billByDays rfl ⟨rfl, rfl⟩ (by decide +kernel) ⟨Nat.le_of_ble_eq_true rfl, Nat.le_of_ble_eq_true rfl⟩ hY (by omega) rfl (ci := 2) rfl rfl hl.1 rfl (Nat.le_of_ble_eq_true rfl) dL_law_1169 ⟨by show _ ≤ 601024; omega, by show _ ≤ 7293033; omega⟩) (fun r2 H locs h2 hY => ?_)
  refine lv_istore (lv' := [(7, .int r2), (6, .int (cdLX n 240 p0 p1)), (5, .int i), (0, .ref b), (1, .ref (ad 0)), (2, .ref (ad 5)), (3, .ref (ad 21)), (4, .ref (ad 22))]) hx hb dL_law_1172 hl (by decide) rfl (fun ls hl => ?_)
  refine lv_aload_n hx hb dL_law_1174 rfl (lv_at hl 5 rfl) ?_
  refine g_calli hY (g_runV (n := 0) (q := (RX2, TX2, 17)) (r := 5) hC (c_X2_thrown l G _ _ _ _ _ _ _ _) gL_law_X2_thrown rfl ⟨rfl, rfl⟩ (by decide +kernel) ⟨Nat.le_of_ble_eq_true rfl, Nat.le_of_ble_eq_true rfl⟩ hY (by omega) rfl (ci := 2) rfl rfl hl.1 rfl (Nat.le_of_ble_eq_true rfl) dL_law_1175 ⟨by show _ ≤ 601024; omega, by show _ ≤ 7293033; omega⟩) (fun r3 H locs h3 hY => ?_)
  obtain rfl := h3
  refine lv_iload hx hb dL_law_1178 (lv_at hl 1 rfl) ?_
  refine b_icmp_eq (tgt := 1185) hx hb dL_law_1180 (by decide) (fun _ => ?_) (fun h => absurd rfl h)
  refine lv_iload hx hb dL_law_1185 (lv_at hl 1 rfl) ?_
  refine b_if_ne (tgt := 1202) hx hb dL_law_1187 (by decide) (fun h => ?_) (fun h => ?_)
  · have hcd : ¬ cdLX n 240 p0 p1 = 0 := fun q => h (by rw [q]; rfl)
    simp only [if_neg hcd] at hY
    refine lv_goto (tgt := 1689) hx hb dL_law_1202 (by decide) ?_
    exact W.widen (by omega) (by omega) (kk σ n ad _ _ _ _ _ _ hI hY (lv_sub hl [2, 3, 4, 5, 6, 7] rfl))
  · have hcd : cdLX n 240 p0 p1 = 0 := i_ext h
    simp only [if_pos hcd] at hY
    have hr : (0 ≤ p0.toInt ∧ p0.toInt < (n : Int)) ∧ 0 ≤ p1.toInt ∧ p1.toInt < 240 := by
      unfold cdLX at hcd
      (repeat' split at hcd) <;> first | (exact absurd hcd (by decide)) | omega
    have ev : r2.toInt64 = (bdP σ (ix p0) p1 30 / 30).toInt64 := by
      rw [h2 hcd]
      exact congrArg Int32.toInt64 (show _ = _ from bd_eq' hI (ix_lt hr.1)).symm
    refine lv_aload_n hx hb dL_law_1190 rfl (lv_at hl 6 rfl) ?_
    refine lv_iconst (v := 0) hx hb dL_law_1191 (by decide) ?_
    refine rdO hC hY dL_law_1192 ?_
    refine lv_iload hx hb dL_law_1193 (lv_at hl 0 rfl) ?_
    refine lv_i2l hx hb dL_law_1195 rfl ?_
    refine W.eq (g2 := F0 m 1196 ls [.long (bdP σ (ix p0) p1 30 / 30).toInt64, .long (bdP σ (ix p0) p1 30 / 30).toInt64]) (by rw [ev]; rfl) ?_
    refine g_lcmp hx hb dL_law_1196 ?_
    refine b_if_eq (tgt := 1202) hx hb dL_law_1197 (by decide) (fun _ => ?_) (fun h => absurd rfl h)
    refine lv_goto (tgt := 1689) hx hb dL_law_1202 (by decide) ?_
    exact W.widen (by omega) (by omega) (kk σ n ad _ _ _ _ _ _ hI hY (lv_sub hl [2, 3, 4, 5, 6, 7] rfl))

set_option maxHeartbeats 4000000 in
set_option maxRecDepth 100000 in
theorem t_bills (l : Launch) (hst : l.stackTraces = false) (hC : CallFix p m c cL_law 9 s #[.ref b] wsL_law RL) (hI : Inv σ n) (hY : SyS G ad σ n σ n th o od s H locs) (hl : lv_has ls 9 (lawlv b ad i)) (hX : va_X b L xs s s.heap) (hbl : b < s.heap.size) (hG : G.1 = s.heap.size) (hi : 0 ≤ i.toInt ∧ i.toInt + 5 ≤ L) (hL : L ≤ 2560) (hcr : cells + 8 ≤ 601024 ∧ slots + 60 ≤ 7293033) (kk : Kt p l e s m below meth c cells slots Q G b i) : W p l e room_1 s m #[.ref b] below meth c H locs cells slots Q (F0 m 1205 ls []) := by
  have hx := hC.1
  have hb := hC.2.1
  obtain ⟨p0, e0⟩ : ∃ z, xs (ix (i + 1)) = z := ⟨_, rfl⟩
  obtain ⟨p1, e1⟩ : ∃ z, xs (ix (i + 2)) = z := ⟨_, rfl⟩
  obtain ⟨p2, e2⟩ : ∃ z, xs (ix (i + 3)) = z := ⟨_, rfl⟩
  refine lv_aload_n hx hb dL_law_1205 rfl (lv_at hl 2 rfl) ?_
  refine lv_aload_n hx hb dL_law_1206 rfl (lv_at hl 1 rfl) ?_
  refine lv_iload hx hb dL_law_1207 (lv_at hl 0 rfl) ?_
  refine lv_iconst (v := 1) hx hb dL_law_1209 (by decide) ?_
  refine lv_iadd hx hb dL_law_1210 ?_
  refine g_scr hC hY hX hbl hG (i_k hi hL 1 (by decide)) e0 dL_law_1211 ?_
  refine lv_aload_n hx hb dL_law_1212 rfl (lv_at hl 1 rfl) ?_
  refine lv_iload hx hb dL_law_1213 (lv_at hl 0 rfl) ?_
  refine lv_iconst (v := 2) hx hb dL_law_1215 (by decide) ?_
  refine lv_iadd hx hb dL_law_1216 ?_
  refine g_scr hC hY hX hbl hG (i_k hi hL 2 (by decide)) e1 dL_law_1217 ?_
  refine lv_aload_n hx hb dL_law_1218 rfl (lv_at hl 1 rfl) ?_
  refine lv_iload hx hb dL_law_1219 (lv_at hl 0 rfl) ?_
  refine lv_iconst (v := 3) hx hb dL_law_1221 (by decide) ?_
  refine lv_iadd hx hb dL_law_1222 ?_
  refine g_scr hC hY hX hbl hG (i_k hi hL 3 (by decide)) e2 dL_law_1223 ?_
  refine lv_aload_n hx hb dL_law_1224 rfl (lv_at hl 4 rfl) ?_
  refine g_calli hY (g_runL (n := 5) hC (c_L_bills l G ad σ n σ n th o od hst hI.1 hI.2.2.2.1 p0 p1 p2) gL_law_L_bills rfl ⟨rfl, rfl⟩ (by decide +kernel) ⟨Nat.le_of_ble_eq_true rfl, Nat.le_of_ble_eq_true rfl⟩ hY rfl hl.1 rfl (Nat.le_of_ble_eq_true rfl) dL_law_1225 ⟨by show _ ≤ 601024; omega, by show _ ≤ 7293033; omega⟩) (fun r H locs hw hY => ?_)
  obtain rfl := hw
  refine lv_istore (lv' := [(6, .int (cdBills n p0 p1 p2)), (5, .int i), (0, .ref b), (1, .ref (ad 0)), (2, .ref (ad 5)), (3, .ref (ad 21)), (4, .ref (ad 22))]) hx hb dL_law_1228 hl (by decide) rfl (fun ls hl => ?_)
  refine lv_aload_n hx hb dL_law_1230 rfl (lv_at hl 4 rfl) ?_
  refine lv_aload_n hx hb dL_law_1231 rfl (lv_at hl 2 rfl) ?_
  refine lv_iload hx hb dL_law_1232 (lv_at hl 1 rfl) ?_
  refine lv_iconst (v := 1) hx hb dL_law_1234 (by decide) ?_
  refine lv_iadd hx hb dL_law_1235 ?_
  refine g_scr hC hY hX hbl hG (i_k hi hL 1 (by decide)) e0 dL_law_1236 ?_
  refine lv_aload_n hx hb dL_law_1237 rfl (lv_at hl 2 rfl) ?_
  refine lv_iload hx hb dL_law_1238 (lv_at hl 1 rfl) ?_
  refine lv_iconst (v := 2) hx hb dL_law_1240 (by decide) ?_
  refine lv_iadd hx hb dL_law_1241 ?_
  refine g_scr hC hY hX hbl hG (i_k hi hL 2 (by decide)) e1 dL_law_1242 ?_
  refine lv_aload_n hx hb dL_law_1243 rfl (lv_at hl 2 rfl) ?_
  refine lv_iload hx hb dL_law_1244 (lv_at hl 1 rfl) ?_
  refine lv_iconst (v := 3) hx hb dL_law_1246 (by decide) ?_
  refine lv_iadd hx hb dL_law_1247 ?_
  refine g_scr hC hY hX hbl hG (i_k hi hL 3 (by decide)) e2 dL_law_1248 ?_
  refine g_calll hY (g_runV (n := 3) (q := (RX2, TX2, 17)) (r := 5) hC (c_X2_bills l G ad σ n σ n th (if cdBills n p0 p1 p2 = 0 then vp_updL o 0 ((bsP σ (ix p0) p1 (p2.toInt - p1.toInt + 1).toNat)) else o) od hI.1 hI.2.2.2.1 (fun i hi => (hI.2.2.1 i hi).1) p0 p1 p2) gL_law_X2_bills rfl ⟨rfl, rfl⟩ (by decide +kernel) ⟨Nat.le_of_ble_eq_true rfl, Nat.le_of_ble_eq_true rfl⟩ hY (by omega) rfl (ci := 2) rfl rfl hl.1 rfl (Nat.le_of_ble_eq_true rfl) dL_law_1249 ⟨by show _ ≤ 601024; omega, by show _ ≤ 7293033; omega⟩) (fun r2 H locs h2 hY => ?_)
  refine lv_lstore (lv' := [(7, .long r2), (6, .int (cdBills n p0 p1 p2)), (5, .int i), (0, .ref b), (1, .ref (ad 0)), (2, .ref (ad 5)), (3, .ref (ad 21)), (4, .ref (ad 22))]) hx hb dL_law_1252 hl (by decide) rfl (fun ls hl => ?_)
  refine lv_aload_n hx hb dL_law_1254 rfl (lv_at hl 5 rfl) ?_
  refine g_calli hY (g_runV (n := 0) (q := (RX2, TX2, 17)) (r := 5) hC (c_X2_thrown l G _ _ _ _ _ _ _ _) gL_law_X2_thrown rfl ⟨rfl, rfl⟩ (by decide +kernel) ⟨Nat.le_of_ble_eq_true rfl, Nat.le_of_ble_eq_true rfl⟩ hY (by omega) rfl (ci := 2) rfl rfl hl.1 rfl (Nat.le_of_ble_eq_true rfl) dL_law_1255 ⟨by show _ ≤ 601024; omega, by show _ ≤ 7293033; omega⟩) (fun r3 H locs h3 hY => ?_)
  obtain rfl := h3
  refine lv_iload hx hb dL_law_1258 (lv_at hl 1 rfl) ?_
  refine b_icmp_eq (tgt := 1265) hx hb dL_law_1260 (by decide) (fun _ => ?_) (fun h => absurd rfl h)
  refine lv_iload hx hb dL_law_1265 (lv_at hl 1 rfl) ?_
  refine b_if_ne (tgt := 1281) hx hb dL_law_1267 (by decide) (fun h => ?_) (fun h => ?_)
  · have hcd : ¬ cdBills n p0 p1 p2 = 0 := fun q => h (by rw [q]; rfl)
    simp only [if_neg hcd] at hY
    refine lv_goto (tgt := 1689) hx hb dL_law_1281 (by decide) ?_
    exact W.widen (by omega) (by omega) (kk σ n ad _ _ _ _ _ _ hI hY (lv_sub hl [2, 3, 4, 5, 6, 7] rfl))
  · have hcd : cdBills n p0 p1 p2 = 0 := i_ext h
    simp only [if_pos hcd] at hY
    have hr : (0 ≤ p0.toInt ∧ p0.toInt < (n : Int)) ∧ ((0 ≤ p1.toInt ∧ p1.toInt < 240) ∧ 0 ≤ p2.toInt ∧ p2.toInt < 240) ∧ p1.toInt ≤ p2.toInt := by
      unfold cdBills at hcd
      (repeat' split at hcd) <;> first | (exact absurd hcd (by decide)) | omega
    have ev : r2 = (bsP σ (ix p0) p1 (p2.toInt - p1.toInt + 1).toNat) := by
      rw [h2 hcd]
      exact (bs_eq hI (ix_lt hr.1) hr.2.1.1.1 _ (by omega)).symm
    refine lv_aload_n hx hb dL_law_1270 rfl (lv_at hl 6 rfl) ?_
    refine lv_iconst (v := 0) hx hb dL_law_1271 (by decide) ?_
    refine rdO hC hY dL_law_1272 ?_
    refine lv_lload hx hb dL_law_1273 (lv_at hl 0 rfl) ?_
    refine W.eq (g2 := F0 m 1275 ls [.long (bsP σ (ix p0) p1 (p2.toInt - p1.toInt + 1).toNat), .long (bsP σ (ix p0) p1 (p2.toInt - p1.toInt + 1).toNat)]) (by rw [ev]; rfl) ?_
    refine g_lcmp hx hb dL_law_1275 ?_
    refine b_if_eq (tgt := 1281) hx hb dL_law_1276 (by decide) (fun _ => ?_) (fun h => absurd rfl h)
    refine lv_goto (tgt := 1689) hx hb dL_law_1281 (by decide) ?_
    exact W.widen (by omega) (by omega) (kk σ n ad _ _ _ _ _ _ hI hY (lv_sub hl [2, 3, 4, 5, 6, 7] rfl))

set_option maxHeartbeats 4000000 in
set_option maxRecDepth 100000 in
theorem t_nextChange (l : Launch) (hst : l.stackTraces = false) (hC : CallFix p m c cL_law 9 s #[.ref b] wsL_law RL) (hI : Inv σ n) (hY : SyS G ad σ n σ n th o od s H locs) (hl : lv_has ls 9 (lawlv b ad i)) (hX : va_X b L xs s s.heap) (hbl : b < s.heap.size) (hG : G.1 = s.heap.size) (hi : 0 ≤ i.toInt ∧ i.toInt + 5 ≤ L) (hL : L ≤ 2560) (hcr : cells + 8 ≤ 601024 ∧ slots + 60 ≤ 7293033) (kk : Kt p l e s m below meth c cells slots Q G b i) : W p l e room_1 s m #[.ref b] below meth c H locs cells slots Q (F0 m 1284 ls []) := by
  have hx := hC.1
  have hb := hC.2.1
  obtain ⟨p0, e0⟩ : ∃ z, xs (ix (i + 1)) = z := ⟨_, rfl⟩
  obtain ⟨p1, e1⟩ : ∃ z, xs (ix (i + 2)) = z := ⟨_, rfl⟩
  refine lv_aload_n hx hb dL_law_1284 rfl (lv_at hl 2 rfl) ?_
  refine lv_aload_n hx hb dL_law_1285 rfl (lv_at hl 1 rfl) ?_
  refine lv_iload hx hb dL_law_1286 (lv_at hl 0 rfl) ?_
  refine lv_iconst (v := 1) hx hb dL_law_1288 (by decide) ?_
  refine lv_iadd hx hb dL_law_1289 ?_
  refine g_scr hC hY hX hbl hG (i_k hi hL 1 (by decide)) e0 dL_law_1290 ?_
  refine lv_aload_n hx hb dL_law_1291 rfl (lv_at hl 1 rfl) ?_
  refine lv_iload hx hb dL_law_1292 (lv_at hl 0 rfl) ?_
  refine lv_iconst (v := 2) hx hb dL_law_1294 (by decide) ?_
  refine lv_iadd hx hb dL_law_1295 ?_
  refine g_scr hC hY hX hbl hG (i_k hi hL 2 (by decide)) e1 dL_law_1296 ?_
  refine lv_aload_n hx hb dL_law_1297 rfl (lv_at hl 4 rfl) ?_
  refine g_calli hY (g_runL (n := 4) hC (c_L_nextChange l G ad σ n σ n th o od hst hI.1 hI.2.2.2.1 p0 p1) gL_law_L_nextChange rfl ⟨rfl, rfl⟩ (by decide +kernel) ⟨Nat.le_of_ble_eq_true rfl, Nat.le_of_ble_eq_true rfl⟩ hY rfl hl.1 rfl (Nat.le_of_ble_eq_true rfl) dL_law_1298 ⟨by show _ ≤ 601024; omega, by show _ ≤ 7293033; omega⟩) (fun r H locs hw hY => ?_)
  obtain rfl := hw
  refine lv_istore (lv' := [(6, .int (cdLX n 7200 p0 p1)), (5, .int i), (0, .ref b), (1, .ref (ad 0)), (2, .ref (ad 5)), (3, .ref (ad 21)), (4, .ref (ad 22))]) hx hb dL_law_1301 hl (by decide) rfl (fun ls hl => ?_)
  refine lv_aload_n hx hb dL_law_1303 rfl (lv_at hl 4 rfl) ?_
  refine lv_aload_n hx hb dL_law_1304 rfl (lv_at hl 2 rfl) ?_
  refine lv_iload hx hb dL_law_1305 (lv_at hl 1 rfl) ?_
  refine lv_iconst (v := 1) hx hb dL_law_1307 (by decide) ?_
  refine lv_iadd hx hb dL_law_1308 ?_
  refine g_scr hC hY hX hbl hG (i_k hi hL 1 (by decide)) e0 dL_law_1309 ?_
  refine lv_aload_n hx hb dL_law_1310 rfl (lv_at hl 2 rfl) ?_
  refine lv_iload hx hb dL_law_1311 (lv_at hl 1 rfl) ?_
  refine lv_iconst (v := 2) hx hb dL_law_1313 (by decide) ?_
  refine lv_iadd hx hb dL_law_1314 ?_
  refine g_scr hC hY hX hbl hG (i_k hi hL 2 (by decide)) e1 dL_law_1315 ?_
  refine g_calli hY (g_runV (n := 2) (q := (RX2, TX2, 17)) (r := 5) hC (c_X2_nextChange l G ad σ n σ n th (if cdLX n 7200 p0 p1 = 0 then vp_updL o 0 ((ncG σ (ix p0) 7200 (ntF σ (ix p0) p1)).toInt64) else o) od hI.1 hI.2.2.2.1 (fun i hi => (hI.2.2.1 i hi).1) p0 p1) gL_law_X2_nextChange rfl ⟨rfl, rfl⟩ (by decide +kernel) ⟨Nat.le_of_ble_eq_true rfl, Nat.le_of_ble_eq_true rfl⟩ hY (by omega) rfl (ci := 2) rfl rfl hl.1 rfl (Nat.le_of_ble_eq_true rfl) dL_law_1316 ⟨by show _ ≤ 601024; omega, by show _ ≤ 7293033; omega⟩) (fun r2 H locs h2 hY => ?_)
  refine lv_istore (lv' := [(7, .int r2), (6, .int (cdLX n 7200 p0 p1)), (5, .int i), (0, .ref b), (1, .ref (ad 0)), (2, .ref (ad 5)), (3, .ref (ad 21)), (4, .ref (ad 22))]) hx hb dL_law_1319 hl (by decide) rfl (fun ls hl => ?_)
  refine lv_aload_n hx hb dL_law_1321 rfl (lv_at hl 5 rfl) ?_
  refine g_calli hY (g_runV (n := 0) (q := (RX2, TX2, 17)) (r := 5) hC (c_X2_thrown l G _ _ _ _ _ _ _ _) gL_law_X2_thrown rfl ⟨rfl, rfl⟩ (by decide +kernel) ⟨Nat.le_of_ble_eq_true rfl, Nat.le_of_ble_eq_true rfl⟩ hY (by omega) rfl (ci := 2) rfl rfl hl.1 rfl (Nat.le_of_ble_eq_true rfl) dL_law_1322 ⟨by show _ ≤ 601024; omega, by show _ ≤ 7293033; omega⟩) (fun r3 H locs h3 hY => ?_)
  obtain rfl := h3
  refine lv_iload hx hb dL_law_1325 (lv_at hl 1 rfl) ?_
  refine b_icmp_eq (tgt := 1332) hx hb dL_law_1327 (by decide) (fun _ => ?_) (fun h => absurd rfl h)
  refine lv_iload hx hb dL_law_1332 (lv_at hl 1 rfl) ?_
  refine b_if_ne (tgt := 1349) hx hb dL_law_1334 (by decide) (fun h => ?_) (fun h => ?_)
  · have hcd : ¬ cdLX n 7200 p0 p1 = 0 := fun q => h (by rw [q]; rfl)
    simp only [if_neg hcd] at hY
    refine lv_goto (tgt := 1689) hx hb dL_law_1349 (by decide) ?_
    exact W.widen (by omega) (by omega) (kk σ n ad _ _ _ _ _ _ hI hY (lv_sub hl [2, 3, 4, 5, 6, 7] rfl))
  · have hcd : cdLX n 7200 p0 p1 = 0 := i_ext h
    simp only [if_pos hcd] at hY
    have hr : (0 ≤ p0.toInt ∧ p0.toInt < (n : Int)) ∧ 0 ≤ p1.toInt ∧ p1.toInt < 7200 := by
      unfold cdLX at hcd
      (repeat' split at hcd) <;> first | (exact absurd hcd (by decide)) | omega
    have ev : r2.toInt64 = (ncG σ (ix p0) 7200 (ntF σ (ix p0) p1)).toInt64 := by
      rw [h2 hcd]
      exact congrArg Int32.toInt64 (show _ = _ from nc_eq hI (ix_lt hr.1) hr.2).symm
    refine lv_aload_n hx hb dL_law_1337 rfl (lv_at hl 6 rfl) ?_
    refine lv_iconst (v := 0) hx hb dL_law_1338 (by decide) ?_
    refine rdO hC hY dL_law_1339 ?_
    refine lv_iload hx hb dL_law_1340 (lv_at hl 0 rfl) ?_
    refine lv_i2l hx hb dL_law_1342 rfl ?_
    refine W.eq (g2 := F0 m 1343 ls [.long (ncG σ (ix p0) 7200 (ntF σ (ix p0) p1)).toInt64, .long (ncG σ (ix p0) 7200 (ntF σ (ix p0) p1)).toInt64]) (by rw [ev]; rfl) ?_
    refine g_lcmp hx hb dL_law_1343 ?_
    refine b_if_eq (tgt := 1349) hx hb dL_law_1344 (by decide) (fun _ => ?_) (fun h => absurd rfl h)
    refine lv_goto (tgt := 1689) hx hb dL_law_1349 (by decide) ?_
    exact W.widen (by omega) (by omega) (kk σ n ad _ _ _ _ _ _ hI hY (lv_sub hl [2, 3, 4, 5, 6, 7] rfl))

set_option maxHeartbeats 4000000 in
set_option maxRecDepth 100000 in
theorem t_voids (l : Launch) (hst : l.stackTraces = false) (hC : CallFix p m c cL_law 9 s #[.ref b] wsL_law RL) (hI : Inv σ n) (hY : SyS G ad σ n σ n th o od s H locs) (hl : lv_has ls 9 (lawlv b ad i)) (hX : va_X b L xs s s.heap) (hbl : b < s.heap.size) (hG : G.1 = s.heap.size) (hi : 0 ≤ i.toInt ∧ i.toInt + 5 ≤ L) (hL : L ≤ 2560) (hcr : cells + 8 ≤ 601024 ∧ slots + 60 ≤ 7293033) (kk : Kt p l e s m below meth c cells slots Q G b i) : W p l e room_1 s m #[.ref b] below meth c H locs cells slots Q (F0 m 1352 ls []) := by
  have hx := hC.1
  have hb := hC.2.1
  obtain ⟨p0, e0⟩ : ∃ z, xs (ix (i + 1)) = z := ⟨_, rfl⟩
  obtain ⟨p1, e1⟩ : ∃ z, xs (ix (i + 2)) = z := ⟨_, rfl⟩
  refine lv_aload_n hx hb dL_law_1352 rfl (lv_at hl 2 rfl) ?_
  refine lv_aload_n hx hb dL_law_1353 rfl (lv_at hl 1 rfl) ?_
  refine lv_iload hx hb dL_law_1354 (lv_at hl 0 rfl) ?_
  refine lv_iconst (v := 1) hx hb dL_law_1356 (by decide) ?_
  refine lv_iadd hx hb dL_law_1357 ?_
  refine g_scr hC hY hX hbl hG (i_k hi hL 1 (by decide)) e0 dL_law_1358 ?_
  refine lv_aload_n hx hb dL_law_1359 rfl (lv_at hl 1 rfl) ?_
  refine lv_iload hx hb dL_law_1360 (lv_at hl 0 rfl) ?_
  refine lv_iconst (v := 2) hx hb dL_law_1362 (by decide) ?_
  refine lv_iadd hx hb dL_law_1363 ?_
  refine g_scr hC hY hX hbl hG (i_k hi hL 2 (by decide)) e1 dL_law_1364 ?_
  refine lv_aload_n hx hb dL_law_1365 rfl (lv_at hl 4 rfl) ?_
  refine g_calli hY (g_runL (n := 4) hC (c_L_voids l G ad σ n σ n th o od hst hI.1 hI.2.2.2.1 p0 p1) gL_law_L_voids rfl ⟨rfl, rfl⟩ (by decide +kernel) ⟨Nat.le_of_ble_eq_true rfl, Nat.le_of_ble_eq_true rfl⟩ hY rfl hl.1 rfl (Nat.le_of_ble_eq_true rfl) dL_law_1366 ⟨by show _ ≤ 601024; omega, by show _ ≤ 7293033; omega⟩) (fun r H locs hw hY => ?_)
  obtain rfl := hw
  refine lv_istore (lv' := [(6, .int (cdUX 6 20 p0 p1)), (5, .int i), (0, .ref b), (1, .ref (ad 0)), (2, .ref (ad 5)), (3, .ref (ad 21)), (4, .ref (ad 22))]) hx hb dL_law_1369 hl (by decide) rfl (fun ls hl => ?_)
  refine lv_aload_n hx hb dL_law_1371 rfl (lv_at hl 4 rfl) ?_
  refine lv_aload_n hx hb dL_law_1372 rfl (lv_at hl 2 rfl) ?_
  refine lv_iload hx hb dL_law_1373 (lv_at hl 1 rfl) ?_
  refine lv_iconst (v := 1) hx hb dL_law_1375 (by decide) ?_
  refine lv_iadd hx hb dL_law_1376 ?_
  refine g_scr hC hY hX hbl hG (i_k hi hL 1 (by decide)) e0 dL_law_1377 ?_
  refine lv_aload_n hx hb dL_law_1378 rfl (lv_at hl 2 rfl) ?_
  refine lv_iload hx hb dL_law_1379 (lv_at hl 1 rfl) ?_
  refine lv_iconst (v := 2) hx hb dL_law_1381 (by decide) ?_
  refine lv_iadd hx hb dL_law_1382 ?_
  refine g_scr hC hY hX hbl hG (i_k hi hL 2 (by decide)) e1 dL_law_1383 ?_
  refine g_calli hY (g_runV (n := 2) (q := (RX2, TX2, 17)) (r := 5) hC (c_X2_voids l G ad σ n σ n th (if cdUX 6 20 p0 p1 = 0 then vp_updL o 0 ((360 - dlP σ n p0 (p1 * 360) (p1 * 360 + 360) 24).toInt64) else o) od hI.1  p0 p1) gL_law_X2_voids rfl ⟨rfl, rfl⟩ (by decide +kernel) ⟨Nat.le_of_ble_eq_true rfl, Nat.le_of_ble_eq_true rfl⟩ hY (by omega) rfl (ci := 2) rfl rfl hl.1 rfl (Nat.le_of_ble_eq_true rfl) dL_law_1384 ⟨by show _ ≤ 601024; omega, by show _ ≤ 7293033; omega⟩) (fun r2 H locs h2 hY => ?_)
  refine lv_istore (lv' := [(7, .int r2), (6, .int (cdUX 6 20 p0 p1)), (5, .int i), (0, .ref b), (1, .ref (ad 0)), (2, .ref (ad 5)), (3, .ref (ad 21)), (4, .ref (ad 22))]) hx hb dL_law_1387 hl (by decide) rfl (fun ls hl => ?_)
  refine lv_aload_n hx hb dL_law_1389 rfl (lv_at hl 5 rfl) ?_
  refine g_calli hY (g_runV (n := 0) (q := (RX2, TX2, 17)) (r := 5) hC (c_X2_thrown l G _ _ _ _ _ _ _ _) gL_law_X2_thrown rfl ⟨rfl, rfl⟩ (by decide +kernel) ⟨Nat.le_of_ble_eq_true rfl, Nat.le_of_ble_eq_true rfl⟩ hY (by omega) rfl (ci := 2) rfl rfl hl.1 rfl (Nat.le_of_ble_eq_true rfl) dL_law_1390 ⟨by show _ ≤ 601024; omega, by show _ ≤ 7293033; omega⟩) (fun r3 H locs h3 hY => ?_)
  obtain rfl := h3
  refine lv_iload hx hb dL_law_1393 (lv_at hl 1 rfl) ?_
  refine b_icmp_eq (tgt := 1400) hx hb dL_law_1395 (by decide) (fun _ => ?_) (fun h => absurd rfl h)
  refine lv_iload hx hb dL_law_1400 (lv_at hl 1 rfl) ?_
  refine b_if_ne (tgt := 1417) hx hb dL_law_1402 (by decide) (fun h => ?_) (fun h => ?_)
  · have hcd : ¬ cdUX 6 20 p0 p1 = 0 := fun q => h (by rw [q]; rfl)
    simp only [if_neg hcd] at hY
    refine lv_goto (tgt := 1689) hx hb dL_law_1417 (by decide) ?_
    exact W.widen (by omega) (by omega) (kk σ n ad _ _ _ _ _ _ hI hY (lv_sub hl [2, 3, 4, 5, 6, 7] rfl))
  · have hcd : cdUX 6 20 p0 p1 = 0 := i_ext h
    simp only [if_pos hcd] at hY
    have hr : (0 ≤ p0.toInt ∧ p0.toInt < 6) ∧ 0 ≤ p1.toInt ∧ p1.toInt < 20 := by
      unfold cdUX at hcd
      (repeat' split at hcd) <;> first | (exact absurd hcd (by decide)) | omega
    have ev : r2.toInt64 = (360 - dlP σ n p0 (p1 * 360) (p1 * 360 + 360) 24).toInt64 := by
      rw [h2 hcd]
      exact congrArg Int32.toInt64 (show _ = _ from vo_eq hI hr.2).symm
    refine lv_aload_n hx hb dL_law_1405 rfl (lv_at hl 6 rfl) ?_
    refine lv_iconst (v := 0) hx hb dL_law_1406 (by decide) ?_
    refine rdO hC hY dL_law_1407 ?_
    refine lv_iload hx hb dL_law_1408 (lv_at hl 0 rfl) ?_
    refine lv_i2l hx hb dL_law_1410 rfl ?_
    refine W.eq (g2 := F0 m 1411 ls [.long (360 - dlP σ n p0 (p1 * 360) (p1 * 360 + 360) 24).toInt64, .long (360 - dlP σ n p0 (p1 * 360) (p1 * 360 + 360) 24).toInt64]) (by rw [ev]; rfl) ?_
    refine g_lcmp hx hb dL_law_1411 ?_
    refine b_if_eq (tgt := 1417) hx hb dL_law_1412 (by decide) (fun _ => ?_) (fun h => absurd rfl h)
    refine lv_goto (tgt := 1689) hx hb dL_law_1417 (by decide) ?_
    exact W.widen (by omega) (by omega) (kk σ n ad _ _ _ _ _ _ hI hY (lv_sub hl [2, 3, 4, 5, 6, 7] rfl))

set_option maxHeartbeats 4000000 in
set_option maxRecDepth 100000 in
theorem t_part (l : Launch) (hst : l.stackTraces = false) (hC : CallFix p m c cL_law 9 s #[.ref b] wsL_law RL) (hI : Inv σ n) (hY : SyS G ad σ n σ n th o od s H locs) (hl : lv_has ls 9 (lawlv b ad i)) (hX : va_X b L xs s s.heap) (hbl : b < s.heap.size) (hG : G.1 = s.heap.size) (hi : 0 ≤ i.toInt ∧ i.toInt + 5 ≤ L) (hL : L ≤ 2560) (hcr : cells + 8 ≤ 601024 ∧ slots + 60 ≤ 7293033) (kk : Kt p l e s m below meth c cells slots Q G b i) : W p l e room_1 s m #[.ref b] below meth c H locs cells slots Q (F0 m 1420 ls []) := by
  have hx := hC.1
  have hb := hC.2.1
  obtain ⟨p0, e0⟩ : ∃ z, xs (ix (i + 1)) = z := ⟨_, rfl⟩
  obtain ⟨p1, e1⟩ : ∃ z, xs (ix (i + 2)) = z := ⟨_, rfl⟩
  refine lv_aload_n hx hb dL_law_1420 rfl (lv_at hl 2 rfl) ?_
  refine lv_aload_n hx hb dL_law_1421 rfl (lv_at hl 1 rfl) ?_
  refine lv_iload hx hb dL_law_1422 (lv_at hl 0 rfl) ?_
  refine lv_iconst (v := 1) hx hb dL_law_1424 (by decide) ?_
  refine lv_iadd hx hb dL_law_1425 ?_
  refine g_scr hC hY hX hbl hG (i_k hi hL 1 (by decide)) e0 dL_law_1426 ?_
  refine lv_aload_n hx hb dL_law_1427 rfl (lv_at hl 1 rfl) ?_
  refine lv_iload hx hb dL_law_1428 (lv_at hl 0 rfl) ?_
  refine lv_iconst (v := 2) hx hb dL_law_1430 (by decide) ?_
  refine lv_iadd hx hb dL_law_1431 ?_
  refine g_scr hC hY hX hbl hG (i_k hi hL 2 (by decide)) e1 dL_law_1432 ?_
  refine lv_aload_n hx hb dL_law_1433 rfl (lv_at hl 4 rfl) ?_
  refine g_calli hY (g_runL (n := 4) hC (c_L_part l G ad σ n σ n th o od hst hI.1 hI.2.2.2.1 p0 p1) gL_law_L_part rfl ⟨rfl, rfl⟩ (by decide +kernel) ⟨Nat.le_of_ble_eq_true rfl, Nat.le_of_ble_eq_true rfl⟩ hY rfl hl.1 rfl (Nat.le_of_ble_eq_true rfl) dL_law_1434 ⟨by show _ ≤ 601024; omega, by show _ ≤ 7293033; omega⟩) (fun r H locs hw hY => ?_)
  obtain rfl := hw
  refine lv_istore (lv' := [(6, .int (cdLX n 20 p0 p1)), (5, .int i), (0, .ref b), (1, .ref (ad 0)), (2, .ref (ad 5)), (3, .ref (ad 21)), (4, .ref (ad 22))]) hx hb dL_law_1437 hl (by decide) rfl (fun ls hl => ?_)
  refine lv_aload_n hx hb dL_law_1439 rfl (lv_at hl 4 rfl) ?_
  refine lv_aload_n hx hb dL_law_1440 rfl (lv_at hl 2 rfl) ?_
  refine lv_iload hx hb dL_law_1441 (lv_at hl 1 rfl) ?_
  refine lv_iconst (v := 1) hx hb dL_law_1443 (by decide) ?_
  refine lv_iadd hx hb dL_law_1444 ?_
  refine g_scr hC hY hX hbl hG (i_k hi hL 1 (by decide)) e0 dL_law_1445 ?_
  refine lv_aload_n hx hb dL_law_1446 rfl (lv_at hl 2 rfl) ?_
  refine lv_iload hx hb dL_law_1447 (lv_at hl 1 rfl) ?_
  refine lv_iconst (v := 2) hx hb dL_law_1449 (by decide) ?_
  refine lv_iadd hx hb dL_law_1450 ?_
  refine g_scr hC hY hX hbl hG (i_k hi hL 2 (by decide)) e1 dL_law_1451 ?_
  refine g_calli hY (g_runV (n := 2) (q := (RX2, TX2, 17)) (r := 5) hC (c_X2_part l G ad σ n σ n th (if cdLX n 20 p0 p1 = 0 then vp_updL o 0 ((ptF σ (ix p0) p1 (σ 2 (ix p1))).toInt64) else o) od hI.1 hI.2.2.2.1 p0 p1) gL_law_X2_part rfl ⟨rfl, rfl⟩ (by decide +kernel) ⟨Nat.le_of_ble_eq_true rfl, Nat.le_of_ble_eq_true rfl⟩ hY (by omega) rfl (ci := 2) rfl rfl hl.1 rfl (Nat.le_of_ble_eq_true rfl) dL_law_1452 ⟨by show _ ≤ 601024; omega, by show _ ≤ 7293033; omega⟩) (fun r2 H locs h2 hY => ?_)
  refine lv_istore (lv' := [(7, .int r2), (6, .int (cdLX n 20 p0 p1)), (5, .int i), (0, .ref b), (1, .ref (ad 0)), (2, .ref (ad 5)), (3, .ref (ad 21)), (4, .ref (ad 22))]) hx hb dL_law_1455 hl (by decide) rfl (fun ls hl => ?_)
  refine lv_aload_n hx hb dL_law_1457 rfl (lv_at hl 5 rfl) ?_
  refine g_calli hY (g_runV (n := 0) (q := (RX2, TX2, 17)) (r := 5) hC (c_X2_thrown l G _ _ _ _ _ _ _ _) gL_law_X2_thrown rfl ⟨rfl, rfl⟩ (by decide +kernel) ⟨Nat.le_of_ble_eq_true rfl, Nat.le_of_ble_eq_true rfl⟩ hY (by omega) rfl (ci := 2) rfl rfl hl.1 rfl (Nat.le_of_ble_eq_true rfl) dL_law_1458 ⟨by show _ ≤ 601024; omega, by show _ ≤ 7293033; omega⟩) (fun r3 H locs h3 hY => ?_)
  obtain rfl := h3
  refine lv_iload hx hb dL_law_1461 (lv_at hl 1 rfl) ?_
  refine b_icmp_eq (tgt := 1468) hx hb dL_law_1463 (by decide) (fun _ => ?_) (fun h => absurd rfl h)
  refine lv_iload hx hb dL_law_1468 (lv_at hl 1 rfl) ?_
  refine b_if_ne (tgt := 1485) hx hb dL_law_1470 (by decide) (fun h => ?_) (fun h => ?_)
  · have hcd : ¬ cdLX n 20 p0 p1 = 0 := fun q => h (by rw [q]; rfl)
    simp only [if_neg hcd] at hY
    refine lv_goto (tgt := 1689) hx hb dL_law_1485 (by decide) ?_
    exact W.widen (by omega) (by omega) (kk σ n ad _ _ _ _ _ _ hI hY (lv_sub hl [2, 3, 4, 5, 6, 7] rfl))
  · have hcd : cdLX n 20 p0 p1 = 0 := i_ext h
    simp only [if_pos hcd] at hY
    have hr : (0 ≤ p0.toInt ∧ p0.toInt < (n : Int)) ∧ 0 ≤ p1.toInt ∧ p1.toInt < 20 := by
      unfold cdLX at hcd
      (repeat' split at hcd) <;> first | (exact absurd hcd (by decide)) | omega
    have ev : r2.toInt64 = (ptF σ (ix p0) p1 (σ 2 (ix p1))).toInt64 := by
      rw [h2 hcd]
      exact congrArg Int32.toInt64 (show _ = _ from pt_eq hI (ix_lt hr.1) hr.2).symm
    refine lv_aload_n hx hb dL_law_1473 rfl (lv_at hl 6 rfl) ?_
    refine lv_iconst (v := 0) hx hb dL_law_1474 (by decide) ?_
    refine rdO hC hY dL_law_1475 ?_
    refine lv_iload hx hb dL_law_1476 (lv_at hl 0 rfl) ?_
    refine lv_i2l hx hb dL_law_1478 rfl ?_
    refine W.eq (g2 := F0 m 1479 ls [.long (ptF σ (ix p0) p1 (σ 2 (ix p1))).toInt64, .long (ptF σ (ix p0) p1 (σ 2 (ix p1))).toInt64]) (by rw [ev]; rfl) ?_
    refine g_lcmp hx hb dL_law_1479 ?_
    refine b_if_eq (tgt := 1485) hx hb dL_law_1480 (by decide) (fun _ => ?_) (fun h => absurd rfl h)
    refine lv_goto (tgt := 1689) hx hb dL_law_1485 (by decide) ?_
    exact W.widen (by omega) (by omega) (kk σ n ad _ _ _ _ _ _ hI hY (lv_sub hl [2, 3, 4, 5, 6, 7] rfl))

set_option maxHeartbeats 4000000 in
set_option maxRecDepth 100000 in
theorem t_owners (l : Launch) (hst : l.stackTraces = false) (hC : CallFix p m c cL_law 9 s #[.ref b] wsL_law RL) (hI : Inv σ n) (hY : SyS G ad σ n σ n th o od s H locs) (hl : lv_has ls 9 (lawlv b ad i)) (hX : va_X b L xs s s.heap) (hbl : b < s.heap.size) (hG : G.1 = s.heap.size) (hi : 0 ≤ i.toInt ∧ i.toInt + 5 ≤ L) (hL : L ≤ 2560) (hcr : cells + 8 ≤ 601024 ∧ slots + 60 ≤ 7293033) (kk : Kt p l e s m below meth c cells slots Q G b i) : W p l e room_1 s m #[.ref b] below meth c H locs cells slots Q (F0 m 1488 ls []) := by
  have hx := hC.1
  have hb := hC.2.1
  obtain ⟨p0, e0⟩ : ∃ z, xs (ix (i + 1)) = z := ⟨_, rfl⟩
  refine lv_aload_n hx hb dL_law_1488 rfl (lv_at hl 2 rfl) ?_
  refine lv_aload_n hx hb dL_law_1489 rfl (lv_at hl 1 rfl) ?_
  refine lv_iload hx hb dL_law_1490 (lv_at hl 0 rfl) ?_
  refine lv_iconst (v := 1) hx hb dL_law_1492 (by decide) ?_
  refine lv_iadd hx hb dL_law_1493 ?_
  refine g_scr hC hY hX hbl hG (i_k hi hL 1 (by decide)) e0 dL_law_1494 ?_
  refine lv_aload_n hx hb dL_law_1495 rfl (lv_at hl 4 rfl) ?_
  refine g_calli hY (g_runL (n := 3) hC (c_L_owners l G ad σ n σ n th o od hst hI.1 hI.2.2.2.1 p0) gL_law_L_owners rfl ⟨rfl, rfl⟩ (by decide +kernel) ⟨Nat.le_of_ble_eq_true rfl, Nat.le_of_ble_eq_true rfl⟩ hY rfl hl.1 rfl (Nat.le_of_ble_eq_true rfl) dL_law_1496 ⟨by show _ ≤ 601024; omega, by show _ ≤ 7293033; omega⟩) (fun r H locs hw hY => ?_)
  obtain rfl := hw
  refine lv_istore (lv' := [(6, .int (cdU1 20 p0)), (5, .int i), (0, .ref b), (1, .ref (ad 0)), (2, .ref (ad 5)), (3, .ref (ad 21)), (4, .ref (ad 22))]) hx hb dL_law_1499 hl (by decide) rfl (fun ls hl => ?_)
  refine lv_aload_n hx hb dL_law_1501 rfl (lv_at hl 4 rfl) ?_
  refine lv_aload_n hx hb dL_law_1502 rfl (lv_at hl 2 rfl) ?_
  refine lv_iload hx hb dL_law_1503 (lv_at hl 1 rfl) ?_
  refine lv_iconst (v := 1) hx hb dL_law_1505 (by decide) ?_
  refine lv_iadd hx hb dL_law_1506 ?_
  refine g_scr hC hY hX hbl hG (i_k hi hL 1 (by decide)) e0 dL_law_1507 ?_
  refine g_calli hY (g_runV (n := 1) (q := (RX2, TX2, 17)) (r := 5) hC (c_X2_owners l G ad σ n σ n th (if cdU1 20 p0 = 0 then vp_updL o 0 ((owP σ n p0 24).toInt64) else o) od hI.1 hI.2.2.2.1 p0) gL_law_X2_owners rfl ⟨rfl, rfl⟩ (by decide +kernel) ⟨Nat.le_of_ble_eq_true rfl, Nat.le_of_ble_eq_true rfl⟩ hY (by omega) rfl (ci := 2) rfl rfl hl.1 rfl (Nat.le_of_ble_eq_true rfl) dL_law_1508 ⟨by show _ ≤ 601024; omega, by show _ ≤ 7293033; omega⟩) (fun r2 H locs h2 hY => ?_)
  refine lv_istore (lv' := [(7, .int r2), (6, .int (cdU1 20 p0)), (5, .int i), (0, .ref b), (1, .ref (ad 0)), (2, .ref (ad 5)), (3, .ref (ad 21)), (4, .ref (ad 22))]) hx hb dL_law_1511 hl (by decide) rfl (fun ls hl => ?_)
  refine lv_aload_n hx hb dL_law_1513 rfl (lv_at hl 5 rfl) ?_
  refine g_calli hY (g_runV (n := 0) (q := (RX2, TX2, 17)) (r := 5) hC (c_X2_thrown l G _ _ _ _ _ _ _ _) gL_law_X2_thrown rfl ⟨rfl, rfl⟩ (by decide +kernel) ⟨Nat.le_of_ble_eq_true rfl, Nat.le_of_ble_eq_true rfl⟩ hY (by omega) rfl (ci := 2) rfl rfl hl.1 rfl (Nat.le_of_ble_eq_true rfl) dL_law_1514 ⟨by show _ ≤ 601024; omega, by show _ ≤ 7293033; omega⟩) (fun r3 H locs h3 hY => ?_)
  obtain rfl := h3
  refine lv_iload hx hb dL_law_1517 (lv_at hl 1 rfl) ?_
  refine b_icmp_eq (tgt := 1524) hx hb dL_law_1519 (by decide) (fun _ => ?_) (fun h => absurd rfl h)
  refine lv_iload hx hb dL_law_1524 (lv_at hl 1 rfl) ?_
  refine b_if_ne (tgt := 1541) hx hb dL_law_1526 (by decide) (fun h => ?_) (fun h => ?_)
  · have hcd : ¬ cdU1 20 p0 = 0 := fun q => h (by rw [q]; rfl)
    simp only [if_neg hcd] at hY
    refine lv_goto (tgt := 1689) hx hb dL_law_1541 (by decide) ?_
    exact W.widen (by omega) (by omega) (kk σ n ad _ _ _ _ _ _ hI hY (lv_sub hl [2, 3, 4, 5, 6, 7] rfl))
  · have hcd : cdU1 20 p0 = 0 := i_ext h
    simp only [if_pos hcd] at hY
    have hr : 0 ≤ p0.toInt ∧ p0.toInt < 20 := by
      unfold cdU1 at hcd
      (repeat' split at hcd) <;> first | (exact absurd hcd (by decide)) | omega
    have ev : r2.toInt64 = (owP σ n p0 24).toInt64 := by
      rw [h2 hcd]
      exact congrArg Int32.toInt64 (show _ = _ from ow_eq hI hr).symm
    refine lv_aload_n hx hb dL_law_1529 rfl (lv_at hl 6 rfl) ?_
    refine lv_iconst (v := 0) hx hb dL_law_1530 (by decide) ?_
    refine rdO hC hY dL_law_1531 ?_
    refine lv_iload hx hb dL_law_1532 (lv_at hl 0 rfl) ?_
    refine lv_i2l hx hb dL_law_1534 rfl ?_
    refine W.eq (g2 := F0 m 1535 ls [.long (owP σ n p0 24).toInt64, .long (owP σ n p0 24).toInt64]) (by rw [ev]; rfl) ?_
    refine g_lcmp hx hb dL_law_1535 ?_
    refine b_if_eq (tgt := 1541) hx hb dL_law_1536 (by decide) (fun _ => ?_) (fun h => absurd rfl h)
    refine lv_goto (tgt := 1689) hx hb dL_law_1541 (by decide) ?_
    exact W.widen (by omega) (by omega) (kk σ n ad _ _ _ _ _ _ hI hY (lv_sub hl [2, 3, 4, 5, 6, 7] rfl))

set_option maxHeartbeats 4000000 in
set_option maxRecDepth 100000 in
theorem t_balance (l : Launch) (hst : l.stackTraces = false) (hC : CallFix p m c cL_law 9 s #[.ref b] wsL_law RL) (hI : Inv σ n) (hY : SyS G ad σ n σ n th o od s H locs) (hl : lv_has ls 9 (lawlv b ad i)) (hX : va_X b L xs s s.heap) (hbl : b < s.heap.size) (hG : G.1 = s.heap.size) (hi : 0 ≤ i.toInt ∧ i.toInt + 5 ≤ L) (hL : L ≤ 2560) (hcr : cells + 8 ≤ 601024 ∧ slots + 60 ≤ 7293033) (kk : Kt p l e s m below meth c cells slots Q G b i) : W p l e room_1 s m #[.ref b] below meth c H locs cells slots Q (F0 m 1544 ls []) := by
  have hx := hC.1
  have hb := hC.2.1
  obtain ⟨p0, e0⟩ : ∃ z, xs (ix (i + 1)) = z := ⟨_, rfl⟩
  obtain ⟨p1, e1⟩ : ∃ z, xs (ix (i + 2)) = z := ⟨_, rfl⟩
  refine lv_aload_n hx hb dL_law_1544 rfl (lv_at hl 2 rfl) ?_
  refine lv_aload_n hx hb dL_law_1545 rfl (lv_at hl 1 rfl) ?_
  refine lv_iload hx hb dL_law_1546 (lv_at hl 0 rfl) ?_
  refine lv_iconst (v := 1) hx hb dL_law_1548 (by decide) ?_
  refine lv_iadd hx hb dL_law_1549 ?_
  refine g_scr hC hY hX hbl hG (i_k hi hL 1 (by decide)) e0 dL_law_1550 ?_
  refine lv_aload_n hx hb dL_law_1551 rfl (lv_at hl 1 rfl) ?_
  refine lv_iload hx hb dL_law_1552 (lv_at hl 0 rfl) ?_
  refine lv_iconst (v := 2) hx hb dL_law_1554 (by decide) ?_
  refine lv_iadd hx hb dL_law_1555 ?_
  refine g_scr hC hY hX hbl hG (i_k hi hL 2 (by decide)) e1 dL_law_1556 ?_
  refine lv_aload_n hx hb dL_law_1557 rfl (lv_at hl 4 rfl) ?_
  refine g_calli hY (g_runL (n := 4) hC (c_L_balance l G ad σ n σ n th o od hst hI.1 hI.2.2.2.1 p0 p1) gL_law_L_balance rfl ⟨rfl, rfl⟩ (by decide +kernel) ⟨Nat.le_of_ble_eq_true rfl, Nat.le_of_ble_eq_true rfl⟩ hY rfl hl.1 rfl (Nat.le_of_ble_eq_true rfl) dL_law_1558 ⟨by show _ ≤ 601024; omega, by show _ ≤ 7293033; omega⟩) (fun r H locs hw hY => ?_)
  obtain rfl := hw
  refine lv_istore (lv' := [(6, .int (cdLX n 20 p0 p1)), (5, .int i), (0, .ref b), (1, .ref (ad 0)), (2, .ref (ad 5)), (3, .ref (ad 21)), (4, .ref (ad 22))]) hx hb dL_law_1561 hl (by decide) rfl (fun ls hl => ?_)
  refine lv_aload_n hx hb dL_law_1563 rfl (lv_at hl 4 rfl) ?_
  refine lv_aload_n hx hb dL_law_1564 rfl (lv_at hl 2 rfl) ?_
  refine lv_iload hx hb dL_law_1565 (lv_at hl 1 rfl) ?_
  refine lv_iconst (v := 1) hx hb dL_law_1567 (by decide) ?_
  refine lv_iadd hx hb dL_law_1568 ?_
  refine g_scr hC hY hX hbl hG (i_k hi hL 1 (by decide)) e0 dL_law_1569 ?_
  refine lv_aload_n hx hb dL_law_1570 rfl (lv_at hl 2 rfl) ?_
  refine lv_iload hx hb dL_law_1571 (lv_at hl 1 rfl) ?_
  refine lv_iconst (v := 2) hx hb dL_law_1573 (by decide) ?_
  refine lv_iadd hx hb dL_law_1574 ?_
  refine g_scr hC hY hX hbl hG (i_k hi hL 2 (by decide)) e1 dL_law_1575 ?_
  refine g_calli hY (g_runV (n := 2) (q := (RX2, TX2, 17)) (r := 5) hC (c_X2_balance l G ad σ n σ n th (if cdLX n 20 p0 p1 = 0 then vp_updL o 0 ((ptF σ (ix p0) p1 (σ 2 (ix p1)) - σ 10 (ix p0) * diF σ (ix p0) p1 / 30).toInt64) else o) od hI.1 hI.2.2.2.1 p0 p1) gL_law_X2_balance rfl ⟨rfl, rfl⟩ (by decide +kernel) ⟨Nat.le_of_ble_eq_true rfl, Nat.le_of_ble_eq_true rfl⟩ hY (by omega) rfl (ci := 2) rfl rfl hl.1 rfl (Nat.le_of_ble_eq_true rfl) dL_law_1576 ⟨by show _ ≤ 601024; omega, by show _ ≤ 7293033; omega⟩) (fun r2 H locs h2 hY => ?_)
  refine lv_istore (lv' := [(7, .int r2), (6, .int (cdLX n 20 p0 p1)), (5, .int i), (0, .ref b), (1, .ref (ad 0)), (2, .ref (ad 5)), (3, .ref (ad 21)), (4, .ref (ad 22))]) hx hb dL_law_1579 hl (by decide) rfl (fun ls hl => ?_)
  refine lv_aload_n hx hb dL_law_1581 rfl (lv_at hl 5 rfl) ?_
  refine g_calli hY (g_runV (n := 0) (q := (RX2, TX2, 17)) (r := 5) hC (c_X2_thrown l G _ _ _ _ _ _ _ _) gL_law_X2_thrown rfl ⟨rfl, rfl⟩ (by decide +kernel) ⟨Nat.le_of_ble_eq_true rfl, Nat.le_of_ble_eq_true rfl⟩ hY (by omega) rfl (ci := 2) rfl rfl hl.1 rfl (Nat.le_of_ble_eq_true rfl) dL_law_1582 ⟨by show _ ≤ 601024; omega, by show _ ≤ 7293033; omega⟩) (fun r3 H locs h3 hY => ?_)
  obtain rfl := h3
  refine lv_iload hx hb dL_law_1585 (lv_at hl 1 rfl) ?_
  refine b_icmp_eq (tgt := 1592) hx hb dL_law_1587 (by decide) (fun _ => ?_) (fun h => absurd rfl h)
  refine lv_iload hx hb dL_law_1592 (lv_at hl 1 rfl) ?_
  refine b_if_ne (tgt := 1609) hx hb dL_law_1594 (by decide) (fun h => ?_) (fun h => ?_)
  · have hcd : ¬ cdLX n 20 p0 p1 = 0 := fun q => h (by rw [q]; rfl)
    simp only [if_neg hcd] at hY
    refine lv_goto (tgt := 1689) hx hb dL_law_1609 (by decide) ?_
    exact W.widen (by omega) (by omega) (kk σ n ad _ _ _ _ _ _ hI hY (lv_sub hl [2, 3, 4, 5, 6, 7] rfl))
  · have hcd : cdLX n 20 p0 p1 = 0 := i_ext h
    simp only [if_pos hcd] at hY
    have hr : (0 ≤ p0.toInt ∧ p0.toInt < (n : Int)) ∧ 0 ≤ p1.toInt ∧ p1.toInt < 20 := by
      unfold cdLX at hcd
      (repeat' split at hcd) <;> first | (exact absurd hcd (by decide)) | omega
    have ev : r2.toInt64 = (ptF σ (ix p0) p1 (σ 2 (ix p1)) - σ 10 (ix p0) * diF σ (ix p0) p1 / 30).toInt64 := by
      rw [h2 hcd]
      exact congrArg Int32.toInt64 (show _ = _ from by rw [pt_eq hI (ix_lt hr.1) hr.2, di_eq (hI.2.2.2.1 _ (ix_lt hr.1)) hr.2]).symm
    refine lv_aload_n hx hb dL_law_1597 rfl (lv_at hl 6 rfl) ?_
    refine lv_iconst (v := 0) hx hb dL_law_1598 (by decide) ?_
    refine rdO hC hY dL_law_1599 ?_
    refine lv_iload hx hb dL_law_1600 (lv_at hl 0 rfl) ?_
    refine lv_i2l hx hb dL_law_1602 rfl ?_
    refine W.eq (g2 := F0 m 1603 ls [.long (ptF σ (ix p0) p1 (σ 2 (ix p1)) - σ 10 (ix p0) * diF σ (ix p0) p1 / 30).toInt64, .long (ptF σ (ix p0) p1 (σ 2 (ix p1)) - σ 10 (ix p0) * diF σ (ix p0) p1 / 30).toInt64]) (by rw [ev]; rfl) ?_
    refine g_lcmp hx hb dL_law_1603 ?_
    refine b_if_eq (tgt := 1609) hx hb dL_law_1604 (by decide) (fun _ => ?_) (fun h => absurd rfl h)
    refine lv_goto (tgt := 1689) hx hb dL_law_1609 (by decide) ?_
    exact W.widen (by omega) (by omega) (kk σ n ad _ _ _ _ _ _ hI hY (lv_sub hl [2, 3, 4, 5, 6, 7] rfl))

set_option maxHeartbeats 4000000 in
set_option maxRecDepth 100000 in
theorem t_share (l : Launch) (hst : l.stackTraces = false) (hC : CallFix p m c cL_law 9 s #[.ref b] wsL_law RL) (hI : Inv σ n) (hY : SyS G ad σ n σ n th o od s H locs) (hl : lv_has ls 9 (lawlv b ad i)) (hX : va_X b L xs s s.heap) (hbl : b < s.heap.size) (hG : G.1 = s.heap.size) (hi : 0 ≤ i.toInt ∧ i.toInt + 5 ≤ L) (hL : L ≤ 2560) (hcr : cells + 8 ≤ 601024 ∧ slots + 60 ≤ 7293033) (kk : Kt p l e s m below meth c cells slots Q G b i) : W p l e room_1 s m #[.ref b] below meth c H locs cells slots Q (F0 m 1612 ls []) := by
  have hx := hC.1
  have hb := hC.2.1
  obtain ⟨p0, e0⟩ : ∃ z, xs (ix (i + 1)) = z := ⟨_, rfl⟩
  refine lv_aload_n hx hb dL_law_1612 rfl (lv_at hl 2 rfl) ?_
  refine lv_aload_n hx hb dL_law_1613 rfl (lv_at hl 1 rfl) ?_
  refine lv_iload hx hb dL_law_1614 (lv_at hl 0 rfl) ?_
  refine lv_iconst (v := 1) hx hb dL_law_1616 (by decide) ?_
  refine lv_iadd hx hb dL_law_1617 ?_
  refine g_scr hC hY hX hbl hG (i_k hi hL 1 (by decide)) e0 dL_law_1618 ?_
  refine lv_aload hx hb dL_law_1619 (lv_at hl 5 rfl) ?_
  refine va_calli (g_runL (n := 3) hC (c_L_share l G ad σ n σ n th o od hst p0) gL_law_L_share rfl ⟨rfl, rfl⟩ (by decide +kernel) ⟨Nat.le_of_ble_eq_true rfl, Nat.le_of_ble_eq_true rfl⟩ hY rfl hl.1 rfl (Nat.le_of_ble_eq_true rfl) dL_law_1621 ⟨by show _ ≤ 601024; omega, by show _ ≤ 7293033; omega⟩) hY.2.2.2.1 (fun _ _ h => h) (fun _ h => h) (fun r od1 t H locs ht hvm hp hz _ _ hS => ?_)
  obtain ⟨rfl, hod⟩ := hp
  have hY : SyS G ad σ n σ n th o od1 s H locs := hY.back hz ht hvm hS
  refine lv_istore (lv' := [(6, .int (cdU1 6 p0)), (5, .int i), (0, .ref b), (1, .ref (ad 0)), (2, .ref (ad 5)), (3, .ref (ad 21)), (4, .ref (ad 22))]) hx hb dL_law_1624 hl (by decide) rfl (fun ls hl => ?_)
  refine lv_aload_n hx hb dL_law_1626 rfl (lv_at hl 4 rfl) ?_
  refine lv_aload_n hx hb dL_law_1627 rfl (lv_at hl 2 rfl) ?_
  refine lv_iload hx hb dL_law_1628 (lv_at hl 1 rfl) ?_
  refine lv_iconst (v := 1) hx hb dL_law_1630 (by decide) ?_
  refine lv_iadd hx hb dL_law_1631 ?_
  refine g_scr hC hY hX hbl hG (i_k hi hL 1 (by decide)) e0 dL_law_1632 ?_
  refine g_calld hY (g_runV (n := 1) (q := (RX2, TX2, 17)) (r := 5) hC (c_X2_share l G ad σ n σ n th o od1 hI.1  p0) gL_law_X2_share rfl ⟨rfl, rfl⟩ (by decide +kernel) ⟨Nat.le_of_ble_eq_true rfl, Nat.le_of_ble_eq_true rfl⟩ hY (by omega) rfl (ci := 2) rfl rfl hl.1 rfl (Nat.le_of_ble_eq_true rfl) dL_law_1633 ⟨by show _ ≤ 601024; omega, by show _ ≤ 7293033; omega⟩) (fun r2 H locs h2 hY => ?_)
  refine lv_dstore (lv' := [(7, .double r2), (6, .int (cdU1 6 p0)), (5, .int i), (0, .ref b), (1, .ref (ad 0)), (2, .ref (ad 5)), (3, .ref (ad 21)), (4, .ref (ad 22))]) hx hb dL_law_1636 hl (by decide) rfl (fun ls hl => ?_)
  refine lv_aload_n hx hb dL_law_1638 rfl (lv_at hl 5 rfl) ?_
  refine g_calli hY (g_runV (n := 0) (q := (RX2, TX2, 17)) (r := 5) hC (c_X2_thrown l G _ _ _ _ _ _ _ _) gL_law_X2_thrown rfl ⟨rfl, rfl⟩ (by decide +kernel) ⟨Nat.le_of_ble_eq_true rfl, Nat.le_of_ble_eq_true rfl⟩ hY (by omega) rfl (ci := 2) rfl rfl hl.1 rfl (Nat.le_of_ble_eq_true rfl) dL_law_1639 ⟨by show _ ≤ 601024; omega, by show _ ≤ 7293033; omega⟩) (fun r3 H locs h3 hY => ?_)
  obtain rfl := h3
  refine lv_iload hx hb dL_law_1642 (lv_at hl 1 rfl) ?_
  refine b_icmp_eq (tgt := 1649) hx hb dL_law_1644 (by decide) (fun _ => ?_) (fun h => absurd rfl h)
  refine lv_iload hx hb dL_law_1649 (lv_at hl 1 rfl) ?_
  refine b_if_ne (tgt := 1686) hx hb dL_law_1651 (by decide) (fun h => ?_) (fun h => ?_)
  · have hcd : ¬ cdU1 6 p0 = 0 := fun q => h (by rw [q]; rfl)
    refine lv_goto (tgt := 1689) hx hb dL_law_1686 (by decide) ?_
    exact W.widen (by omega) (by omega) (kk σ n ad _ _ _ _ _ _ hI hY (lv_sub hl [2, 3, 4, 5, 6, 7] rfl))
  · have hcd : cdU1 6 p0 = 0 := i_ext h
    have hr : 0 ≤ p0.toInt ∧ p0.toInt < 6 := by
      unfold cdU1 at hcd
      (repeat' split at hcd) <;> first | (exact absurd hcd (by decide)) | omega
    have ev : od1 0 = r2 := by rw [hod hcd, h2 hcd]; exact sh_eq hI
    have hnn : Jvm.FP.Core.val64 r2 ≠ .nan := by rw [h2 hcd]; exact shM_ok _ _
    refine lv_aload hx hb dL_law_1654 (lv_at hl 7 rfl) ?_
    refine lv_iconst (v := 0) hx hb dL_law_1656 (by decide) ?_
    refine rdOD hC hY dL_law_1657 ?_
    refine lv_dload hx hb dL_law_1658 (lv_at hl 0 rfl) ?_
    refine lv_dcmp hx hb dL_law_1660 ?_
    refine W.eq (g2 := F0 m 1661 ls [.int 0]) (by rw [ev, show Jvm.FP.dcmp r2 r2 = some .eq from Jvm.FP.Core.dcmp_self hnn]; rfl) ?_
    refine b_if_eq (tgt := 1686) hx hb dL_law_1661 (by decide) (fun _ => ?_) (fun h => absurd rfl h)
    refine lv_goto (tgt := 1689) hx hb dL_law_1686 (by decide) ?_
    exact W.widen (by omega) (by omega) (kk σ n ad _ _ _ _ _ _ hI hY (lv_sub hl [2, 3, 4, 5, 6, 7] rfl))

end LT

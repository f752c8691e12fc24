/-! the law: an int of the script, a turn, the loop -/
theorem c_L_draw (l : Launch) (G : GG) (ad : Nat → Nat) (σ : St) (n : Nat) (τ : St) {b L : Nat} {xs : Nat → Int32} (hbG : b < G.1) (hL : L ≤ 260) (v : Int32) (hv : 0 ≤ v.toInt ∧ v.toInt < L) : Met l yL_draw wsL_draw ({ frames := 0, cells := 0, slots := 0, locals := 0 }) (va_Pc [.ref b, .int v] (fun U => SyS G ad σ n τ U U.heap [] ∧ va_X b L xs U U.heap)) (Qi G (3 * n + 9) ad (ctS G ad σ n τ) (fun r => 0 ≤ r.toInt)) 0 0 (gF G) := by
  refine Met.ofW (cc := cL_draw) (maxL := 2) (ret := (some .int)) (by decide) rfl ?_
  intro p e s m args below meth c s₁ B hml hv'
  obtain ⟨rfl, hY, hX⟩ := hv'
  have hts := atoms_spec (ws := wsL_draw) B.pre
  have hC : CallFix p m c cL_draw 2 s _ wsL_draw RL := ⟨B.exec, B.bytes, hml, findClass_of_methodNamed B.named, hts⟩
  have hx := hC.1
  have hb := hC.2.1
  have hr := B.returns
  have hlocks := B.notSynchronized
  have hlo : G.1 ≤ s.heap.size := hY.2.2.2.2.1
  have hl := lv_entry ([.ref b, .int v]) (n := 2) (Nat.le_of_ble_eq_true rfl)
  rw [lg_entry_eq]
  generalize (lg_sl ([.ref b, .int v]) ++ List.replicate (2 - (lg_sl ([.ref b, .int v])).length) Slot.unset).toArray = ls at hl ⊢
  have hl : lv_has ls 2 [(0, .ref b), (1, .int v)] := hl
  refine lv_iload_n hx hb dL_draw_0 rfl (lv_at hl 1 rfl) ?_
  refine lv_aload_n hx hb dL_draw_1 rfl (lv_at hl 0 rfl) ?_
  refine va_slen hx hb hX (by omega) (show ¬ G.1 ≤ b by omega) hY.2.2.2.1 dL_draw_2 ?_
  have hLi : (Int32.ofNat L).toInt = L := i_nI (by omega)
  refine b_icmp_ge (tgt := 15) hx hb dL_draw_3 (by decide) (fun h => absurd h (by omega)) (fun _ => ?_)
  refine lv_aload_n hx hb dL_draw_6 rfl (lv_at hl 0 rfl) ?_
  refine lv_iload_n hx hb dL_draw_7 rfl (lv_at hl 1 rfl) ?_
  refine va_sld hx hb hX (by omega) (show ¬ G.1 ≤ b by omega) hY.2.2.2.1 (fun q => q.elim (fun h => by have h1 := i_lt.mp h; have h2 : (0 : Int32).toInt = 0 := rfl; omega) (fun h => absurd (ix_lt hv) (Nat.not_lt.mpr h))) dL_draw_8 ?_
  refine lv_ldc (v := 2147483647) hx hb hC.2.2.2.1 (hC.2.2.2.2 _ (by decide +kernel)) dL_draw_9 ?_
  refine lv_iand hx hb dL_draw_11 ?_
  obtain ⟨j, hj, ej⟩ := pk_andE (xs v.toNatClampNeg) (m := 2147483647) 31 (by decide)
  rw [ej]
  refine lv_goto (tgt := 24) hx hb dL_draw_12 (by decide) ?_
  exact g_iret hC hr hlocks hY ⟨Nat.le_refl _, Nat.le_refl _⟩ dL_draw_24 (by rw [i_nI (by omega)]; omega)
section LT
variable {p : Program} {e : Env} {s : State} {m : MethodId} {below : List Frame} {meth : Method} {c : Code} {Q : State → Prop} {G : GG} {b L : Nat} {xs : Nat → Int32} {H : Heap} {locs : List Loc} {cells slots : Nat} {ls : Array Slot} {ad : Nat → Nat} {σ : St} {n : Nat} {τ : St}
theorem g_draw {l : Launch} {pc : Nat} {rest : List Value} {v : Int32} (hC : CallFix p m c cL_law 13 s #[.ref b] wsL_law RL) (hY : SyS G ad σ n τ s H locs) (hX : va_X b L xs s s.heap) (hbl : b < s.heap.size) (hG : G.1 = s.heap.size) (hL : L ≤ 260) (hv : 0 ≤ v.toInt ∧ v.toInt < L) (hsize : ls.size = 13) (hW : (rest.map fun v => v.category).sum ≤ 8) (hcr : cells ≤ 600104 ∧ slots ≤ 7301314) (hdg : decode cL_law pc = .ok (.invokestatic 110, 3))
    (kk : ∀ (r : Int32) (H1 : Heap) (locs1 : List Loc), 0 ≤ r.toInt → SyS G ad σ n τ s H1 locs1 → W p l e room_1 s m #[.ref b] below meth c H1 locs1 cells slots Q (F0 m (pc + 3) ls (.int r :: rest))) : W p l e room_1 s m #[.ref b] below meth c H locs cells slots Q (F0 m pc ls (.int v :: .ref b :: rest)) := by
  have hM := c_L_draw l G ad σ n τ (b := b) (L := L) (xs := xs) (by omega) hL v hv
  refine g_calli hY (va_runS (As := [.ref b, .int v]) (rest := rest) hC hM (va_cwS 2 hC.2.2.2.2 gL_law_L_draw rfl rfl rfl (by decide +kernel) ⟨Nat.le_of_ble_eq_true rfl, Nat.le_of_ble_eq_true rfl⟩) ⟨fun a U g mk z => ⟨z.1, z.2.1.pre rfl (State.WarmedH.refl U), va_X.moved (State.WarmedH.refl U).alike z.2.2⟩, fun U hU hW => ⟨rfl, hY.pre hU hW, va_X.moved hW.alike (hX.kept (by rw [hU]; exact hY.2.2.2.1.2.1 b hbl (show ¬ G.1 ≤ b by omega)))⟩⟩ rfl rfl hsize rfl (lv_room hW) hdg ⟨hcr.1, hcr.2⟩) kk

set_option maxHeartbeats 4000000 in
set_option maxRecDepth 100000 in
theorem law_turn {st k : Int32} (l : Launch) (hst : l.stackTraces = false) (hC : CallFix p m c cL_law 13 s #[.ref b] wsL_law RL) (hLI : LI σ n τ) (hY : SyS G ad σ n τ s H locs) (hl : lv_has ls 13 [(0, .ref b), (1, .ref (ad 0)), (2, .ref (ad 5)), (3, .ref (ad 6)), (4, .ref (ad 7)), (5, .ref (ad 8)), (6, .int 1), (7, .int st), (8, .int (k))]) (hX : va_X b L xs s s.heap) (hbl : b < s.heap.size) (hG : G.1 = s.heap.size) (hL : L ≤ 260) (hk : 0 ≤ k.toInt ∧ k.toInt < st.toInt) (hs : st.toInt ≤ 60 ∧ 3 * st.toInt ≤ (L : Int)) (hcs : cells + 4000 ≤ 600104 ∧ slots + 24000 ≤ 7301314)
    (kk : ∀ (u : Nat → Nat) (σ' : St) (n' : Nat) (τ' : St) (H' : Heap) (locs' : List Loc) (ls' : Array Slot), LI σ' n' τ' → SyS G u σ' n' τ' s H' locs' → lv_has ls' 13 [(0, .ref b), (1, .ref (u 0)), (2, .ref (u 5)), (3, .ref (u 6)), (4, .ref (u 7)), (5, .ref (u 8)), (6, .int 1), (7, .int st), (8, .int (k + 1))] → W p l e room_1 s m #[.ref b] below meth c H' locs' (cells + 4000) (slots + 24000) Q (F0 m 98 ls' [])) : W p l e room_1 s m #[.ref b] below meth c H locs cells slots Q (F0 m 110 ls []) := by
  have hx := hC.1
  have hb := hC.2.1
  have hn24 := hLI.1.1
  refine lv_aload_n hx hb dL_law_110 rfl (lv_at hl 0 rfl) ?_
  refine lv_iconst (v := 3) hx hb dL_law_111 (by decide) ?_
  refine lv_iload hx hb dL_law_112 (lv_at hl 8 rfl) ?_
  refine lv_imul hx hb dL_law_114 ?_
  refine lv_topi (fun v1 e1 => ?_)
  have q1 : v1.toInt = 3 * k.toInt := by rw [e1]; exact i_mulR rfl rfl (by omega)
  refine lv_iconst (v := 1) hx hb dL_law_115 (by decide) ?_
  refine lv_iadd hx hb dL_law_116 ?_
  refine lv_topi (fun v2 e2 => ?_)
  have q2 : v2.toInt = v1.toInt + 1 := by rw [e2]; exact i_addR rfl rfl (by omega)
  refine g_draw hC hY hX hbl hG hL ⟨by omega, by omega⟩ hl.1 (Nat.le_of_ble_eq_true rfl) ⟨by omega, by omega⟩ dL_law_117 (fun a3 H locs ga3 hY => ?_)
  refine lv_istore (lv' := [(9, .int a3), (0, .ref b), (1, .ref (ad 0)), (2, .ref (ad 5)), (3, .ref (ad 6)), (4, .ref (ad 7)), (5, .ref (ad 8)), (6, .int 1), (7, .int st), (8, .int k)]) hx hb dL_law_120 hl (by decide) rfl (fun ls hl => ?_)
  refine lv_aload_n hx hb dL_law_122 rfl (lv_at hl 1 rfl) ?_
  refine lv_iconst (v := 3) hx hb dL_law_123 (by decide) ?_
  refine lv_iload hx hb dL_law_124 (lv_at hl 9 rfl) ?_
  refine lv_imul hx hb dL_law_126 ?_
  refine g_top (y := v1) e1.symm ?_
  refine lv_iconst (v := 2) hx hb dL_law_127 (by decide) ?_
  refine lv_iadd hx hb dL_law_128 ?_
  refine lv_topi (fun v4 e4 => ?_)
  have q4 : v4.toInt = v1.toInt + 2 := by rw [e4]; exact i_addR rfl rfl (by omega)
  refine g_draw hC hY hX hbl hG hL ⟨by omega, by omega⟩ hl.1 (Nat.le_of_ble_eq_true rfl) ⟨by omega, by omega⟩ dL_law_129 (fun a5 H locs ga5 hY => ?_)
  refine lv_istore (lv' := [(10, .int a5), (9, .int a3), (0, .ref b), (1, .ref (ad 0)), (2, .ref (ad 5)), (3, .ref (ad 6)), (4, .ref (ad 7)), (5, .ref (ad 8)), (6, .int 1), (7, .int st), (8, .int k)]) hx hb dL_law_132 hl (by decide) rfl (fun ls hl => ?_)
  refine lv_aload_n hx hb dL_law_134 rfl (lv_at hl 3 rfl) ?_
  refine lv_aload_n hx hb dL_law_135 rfl (lv_at hl 4 rfl) ?_
  refine lv_aload_n hx hb dL_law_136 rfl (lv_at hl 5 rfl) ?_
  refine lv_aload hx hb dL_law_137 (lv_at hl 6 rfl) ?_
  refine lv_aload hx hb dL_law_139 (lv_at hl 7 rfl) ?_
  refine lv_aload_n hx hb dL_law_141 rfl (lv_at hl 2 rfl) ?_
  refine lv_iconst (v := 3) hx hb dL_law_142 (by decide) ?_
  refine lv_iload hx hb dL_law_143 (lv_at hl 10 rfl) ?_
  refine lv_imul hx hb dL_law_145 ?_
  refine g_top (y := v1) e1.symm ?_
  refine g_draw hC hY hX hbl hG hL ⟨by omega, by omega⟩ hl.1 (Nat.le_of_ble_eq_true rfl) ⟨by omega, by omega⟩ dL_law_146 (fun a6 H locs ga6 hY => ?_)
  refine lv_iload hx hb dL_law_149 (lv_at hl 1 rfl) ?_
  refine lv_iload hx hb dL_law_151 (lv_at hl 0 rfl) ?_
  refine gn_callL hY (g_runS (n := 8) hC (c_L_step l G ad σ n τ hst hLI a6 a3 a5 (by omega) (by omega) (by omega)) gL_law_L_step rfl ⟨rfl, rfl⟩ (by decide +kernel) ⟨Nat.le_of_ble_eq_true rfl, Nat.le_of_ble_eq_true rfl⟩ hY rfl hl.1 rfl (Nat.le_of_ble_eq_true rfl) dL_law_153 ⟨by show _ ≤ (600104 : Nat); omega, by show _ ≤ (7301314 : Nat); omega⟩) (fun u σ2 n2 τ2 H locs hu hLI2 hY => ?_)
  have hl : lv_has ls 13 [(10, .int a5), (9, .int a3), (0, .ref b), (1, .ref (u 0)), (2, .ref (u 5)), (3, .ref (u 6)), (4, .ref (u 7)), (5, .ref (u 8)), (6, .int 1), (7, .int st), (8, .int k)] := by rw [hu 0 (by omega), hu 5 (by omega), hu 6 (by omega), hu 7 (by omega), hu 8 (by omega)]; exact hl
  have hn2 := hLI2.2.1
  have hnI2 : (nI n2).toInt = (n2 : Int) := i_nI (by omega)
  refine lv_istore (lv' := [(6, .int 1), (10, .int a5), (9, .int a3), (0, .ref b), (1, .ref (u 0)), (2, .ref (u 5)), (3, .ref (u 6)), (4, .ref (u 7)), (5, .ref (u 8)), (7, .int st), (8, .int k)]) hx hb dL_law_156 hl (by decide) rfl (fun ls hl => ?_)
  refine lv_iload hx hb dL_law_158 (lv_at hl 0 rfl) ?_
  refine b_if_eq (tgt := 289) hx hb dL_law_160 (by decide) (fun h => absurd h (by decide)) (fun _ => ?_)
  refine lv_iload hx hb dL_law_163 (lv_at hl 10 rfl) ?_
  refine lv_iconst (v := 4) hx hb dL_law_165 (by decide) ?_
  refine g_irem hx hb dL_law_166 (by decide) ?_
  refine lv_topi (fun v9 e9 => ?_)
  have q9 : v9.toInt = k.toInt % 4 := by rw [e9]; exact i_rmR rfl rfl (by omega)
  refine lv_iconst (v := 3) hx hb dL_law_167 (by decide) ?_
  refine b_icmp_ne (tgt := 289) hx hb dL_law_168 (by decide) (fun (hh10 : ¬ v9.toInt = 3) => ?_) (fun (hh10 : v9.toInt = 3) => ?_)
  · refine lv_iinc (v := k + 1) (lv' := [(8, .int (k + 1)), (6, .int 1), (10, .int a5), (9, .int a3), (0, .ref b), (1, .ref (u 0)), (2, .ref (u 5)), (3, .ref (u 6)), (4, .ref (u 7)), (5, .ref (u 8)), (7, .int st)]) hx hb dL_law_289 hl (k := 10) rfl rfl (by decide) rfl (fun ls hl => ?_)
    refine lv_goto (tgt := 98) hx hb dL_law_292 (by decide) ?_
    exact W.widen (by omega) (by omega) (kk u σ2 n2 τ2 _ _ _ hLI2 hY (lv_sub hl [4, 5, 6, 7, 8, 9, 1, 10, 0] rfl))
  · refine lv_aload_n hx hb dL_law_171 rfl (lv_at hl 6 rfl) ?_
    refine lv_iconst (v := 0) hx hb dL_law_172 (by decide) ?_
    refine rdN1 hC hY (0) rfl (by omega) (v := nI n2) (hLI2.2.2.1) dL_law_173 ?_
    refine b_if_le (tgt := 289) hx hb dL_law_174 (by decide) (fun (hh11 : (nI n2).toInt ≤ 0) => ?_) (fun (hh11 : 0 < (nI n2).toInt) => ?_)
    · refine lv_iinc (v := k + 1) (lv' := [(8, .int (k + 1)), (6, .int 1), (10, .int a5), (9, .int a3), (0, .ref b), (1, .ref (u 0)), (2, .ref (u 5)), (3, .ref (u 6)), (4, .ref (u 7)), (5, .ref (u 8)), (7, .int st)]) hx hb dL_law_289 hl (k := 10) rfl rfl (by decide) rfl (fun ls hl => ?_)
      refine lv_goto (tgt := 98) hx hb dL_law_292 (by decide) ?_
      exact W.widen (by omega) (by omega) (kk u σ2 n2 τ2 _ _ _ hLI2 hY (lv_sub hl [4, 5, 6, 7, 8, 9, 1, 10, 0] rfl))
    · refine lv_iload hx hb dL_law_177 (lv_at hl 1 rfl) ?_
      refine lv_aload_n hx hb dL_law_179 rfl (lv_at hl 6 rfl) ?_
      refine lv_iconst (v := 0) hx hb dL_law_180 (by decide) ?_
      refine rdN1 hC hY (0) rfl (by omega) (v := nI n2) (hLI2.2.2.1) dL_law_181 ?_
      refine g_irem hx hb dL_law_182 (fun q => by have q2 := congrArg Int32.toInt q; have q3 : (0 : Int32).toInt = 0 := rfl; omega) ?_
      refine lv_topi (fun v12 e12 => ?_)
      have q12 : v12.toInt = a5.toInt % (nI n2).toInt := by rw [e12]; exact i_rmR rfl rfl (by omega)
      have bv12 := i_rmB (x := a5) (y := nI n2) ⟨by omega, by omega⟩
      rw [← e12] at bv12
      refine lv_istore (lv' := [(11, .int v12), (6, .int 1), (10, .int a5), (9, .int a3), (0, .ref b), (1, .ref (u 0)), (2, .ref (u 5)), (3, .ref (u 6)), (4, .ref (u 7)), (5, .ref (u 8)), (7, .int st), (8, .int k)]) hx hb dL_law_183 hl (by decide) rfl (fun ls hl => ?_)
      have hp2 : 0 ≤ v12.toInt ∧ v12.toInt < (n2 : Int) := ⟨by omega, by omega⟩
      have hk2 : ix v12 < n2 := ix_lt hp2
      have hr2 := hLI2.2.2.2.2.1 (ix v12) hk2
      obtain ⟨-, ⟨f1, f2, f3⟩, -⟩ := hLI2.1.2.2.2.1 (ix v12) hk2
      refine lv_iload hx hb dL_law_185 (lv_at hl 3 rfl) ?_
      refine lv_iconst (v := 3) hx hb dL_law_187 (by decide) ?_
      refine g_irem hx hb dL_law_188 (by decide) ?_
      refine lv_topi (fun v13 e13 => ?_)
      have q13 : v13.toInt = a3.toInt % 3 := by rw [e13]; exact i_rmR rfl rfl (by omega)
      refine b_if_ne (tgt := 201) hx hb dL_law_189 (by decide) (fun (hh14 : ¬ v13.toInt = 0) => ?_) (fun (hh14 : v13.toInt = 0) => ?_)
      · refine lv_aload_n hx hb dL_law_201 rfl (lv_at hl 6 rfl) ?_
        refine lv_bipush (v := 12) hx hb dL_law_202 (by decide) ?_
        refine lv_iload hx hb dL_law_204 (lv_at hl 0 rfl) ?_
        refine lv_iadd hx hb dL_law_206 ?_
        refine rdN0 hC hY (12 + ix v12) (i_ixc (C := 12) rfl ⟨by omega, by omega⟩ (by decide)) (by omega) (v := σ2 4 (ix v12)) (hr2.2.1) dL_law_207 ?_
        refine lv_bipush (v := 30) hx hb dL_law_208 (by decide) ?_
        refine lv_idiv hx hb dL_law_210 (by decide) ?_
        refine lv_topi (fun v15 e15 => ?_)
        have q15 : v15.toInt = (σ2 4 (ix v12)).toInt / 30 := by rw [e15]; exact i_divR rfl rfl (by omega)
        refine lv_iload hx hb dL_law_211 (lv_at hl 3 rfl) ?_
        refine lv_bipush (v := 9) hx hb dL_law_213 (by decide) ?_
        refine g_irem hx hb dL_law_215 (by decide) ?_
        refine lv_topi (fun v16 e16 => ?_)
        have q16 : v16.toInt = a3.toInt % 9 := by rw [e16]; exact i_rmR rfl rfl (by omega)
        refine lv_iadd hx hb dL_law_216 ?_
        refine lv_topi (fun v17 e17 => ?_)
        have q17 : v17.toInt = v15.toInt + v16.toInt := by rw [e17]; exact i_addR rfl rfl (by omega)
        refine lv_istore (lv' := [(12, .int v17), (11, .int v12), (6, .int 1), (10, .int a5), (9, .int a3), (0, .ref b), (1, .ref (u 0)), (2, .ref (u 5)), (3, .ref (u 6)), (4, .ref (u 7)), (5, .ref (u 8)), (7, .int st), (8, .int k)]) hx hb dL_law_217 hl (by decide) rfl (fun ls hl => ?_)
        refine lv_aload_n hx hb dL_law_219 rfl (lv_at hl 6 rfl) ?_
        refine lv_aload_n hx hb dL_law_220 rfl (lv_at hl 7 rfl) ?_
        refine lv_aload hx hb dL_law_221 (lv_at hl 10 rfl) ?_
        refine lv_iload hx hb dL_law_223 (lv_at hl 1 rfl) ?_
        refine lv_iload hx hb dL_law_225 (lv_at hl 0 rfl) ?_
        refine lv_sipush (v := 239) hx hb dL_law_227 (by decide) ?_
        refine b_icmp_le (tgt := 239) hx hb dL_law_230 (by decide) (fun (hh18 : v17.toInt ≤ 239) => ?_) (fun (hh18 : 239 < v17.toInt) => ?_)
        · refine lv_iload hx hb dL_law_239 (lv_at hl 0 rfl) ?_
          refine g_calli hY (g_runS (n := 5) hC (c_L_isLease l G u σ2 n2 τ2 hst hLI2 v12 v17 ⟨by omega, by omega⟩ ⟨by omega, by omega⟩) gL_law_L_isLease rfl ⟨rfl, rfl⟩ (by decide +kernel) ⟨Nat.le_of_ble_eq_true rfl, Nat.le_of_ble_eq_true rfl⟩ hY rfl hl.1 rfl (Nat.le_of_ble_eq_true rfl) dL_law_241 ⟨by show _ ≤ (600104 : Nat); omega, by show _ ≤ (7301314 : Nat); omega⟩) (fun r20 H locs hh19 hY => ?_)
          subst hh19
          refine b_if_eq (tgt := 286) hx hb dL_law_244 (by decide) (fun h => absurd h (by decide)) (fun _ => ?_)
          refine lv_aload_n hx hb dL_law_247 rfl (lv_at hl 6 rfl) ?_
          refine lv_aload_n hx hb dL_law_248 rfl (lv_at hl 7 rfl) ?_
          refine lv_aload_n hx hb dL_law_249 rfl (lv_at hl 8 rfl) ?_
          refine lv_iload hx hb dL_law_250 (lv_at hl 4 rfl) ?_
          refine lv_iconst (v := 3) hx hb dL_law_252 (by decide) ?_
          refine g_irem hx hb dL_law_253 (by decide) ?_
          refine g_top (y := v13) e13.symm ?_
          refine b_if_ne (tgt := 265) hx hb dL_law_254 (by decide) (fun (hh22 : ¬ v13.toInt = 0) => ?_) (fun (hh22 : v13.toInt = 0) => absurd hh22 (by omega))
          refine lv_aload_n hx hb dL_law_265 rfl (lv_at hl 7 rfl) ?_
          refine lv_bipush (v := 12) hx hb dL_law_266 (by decide) ?_
          refine lv_iload hx hb dL_law_268 (lv_at hl 1 rfl) ?_
          refine lv_iadd hx hb dL_law_270 ?_
          refine rdN0 hC hY (12 + ix v12) (i_ixc (C := 12) rfl ⟨by omega, by omega⟩ (by decide)) (by omega) (v := σ2 4 (ix v12)) (hr2.2.1) dL_law_271 ?_
          refine lv_sipush (v := 360) hx hb dL_law_272 (by decide) ?_
          refine lv_idiv hx hb dL_law_275 (by decide) ?_
          refine lv_topi (fun v23 e23 => ?_)
          have q23 : v23.toInt = (σ2 4 (ix v12)).toInt / 360 := by rw [e23]; exact i_divR rfl rfl (by omega)
          refine g_calli hY (g_runS (n := 4) hC (c_L_isYear l G u σ2 n2 τ2 hst hLI2 v23 ⟨by omega, by omega⟩) gL_law_L_isYear rfl ⟨rfl, rfl⟩ (by decide +kernel) ⟨Nat.le_of_ble_eq_true rfl, Nat.le_of_ble_eq_true rfl⟩ hY rfl hl.1 rfl (Nat.le_of_ble_eq_true rfl) dL_law_276 ⟨by show _ ≤ (600104 : Nat); omega, by show _ ≤ (7301314 : Nat); omega⟩) (fun r25 H locs hh24 hY => ?_)
          subst hh24
          refine b_if_eq (tgt := 286) hx hb dL_law_279 (by decide) (fun h => absurd h (by decide)) (fun _ => ?_)
          refine lv_iconst (v := 1) hx hb dL_law_282 (by decide) ?_
          refine lv_goto (tgt := 287) hx hb dL_law_283 (by decide) ?_
          refine lv_istore (lv' := [(6, .int 1), (12, .int v17), (11, .int v12), (10, .int a5), (9, .int a3), (0, .ref b), (1, .ref (u 0)), (2, .ref (u 5)), (3, .ref (u 6)), (4, .ref (u 7)), (5, .ref (u 8)), (7, .int st), (8, .int k)]) hx hb dL_law_287 hl (by decide) rfl (fun ls hl => ?_)
          refine lv_iinc (v := k + 1) (lv' := [(8, .int (k + 1)), (6, .int 1), (12, .int v17), (11, .int v12), (10, .int a5), (9, .int a3), (0, .ref b), (1, .ref (u 0)), (2, .ref (u 5)), (3, .ref (u 6)), (4, .ref (u 7)), (5, .ref (u 8)), (7, .int st)]) hx hb dL_law_289 hl (k := 12) rfl rfl (by decide) rfl (fun ls hl => ?_)
          refine lv_goto (tgt := 98) hx hb dL_law_292 (by decide) ?_
          exact W.widen (by omega) (by omega) (kk u σ2 n2 τ2 _ _ _ hLI2 hY (lv_sub hl [6, 7, 8, 9, 10, 11, 1, 12, 0] rfl))
        · refine lv_sipush (v := 239) hx hb dL_law_233 (by decide) ?_
          refine lv_goto (tgt := 241) hx hb dL_law_236 (by decide) ?_
          refine g_calli hY (g_runS (n := 5) hC (c_L_isLease l G u σ2 n2 τ2 hst hLI2 v12 239 ⟨by omega, by omega⟩ ⟨by decide, by decide⟩) gL_law_L_isLease rfl ⟨rfl, rfl⟩ (by decide +kernel) ⟨Nat.le_of_ble_eq_true rfl, Nat.le_of_ble_eq_true rfl⟩ hY rfl hl.1 rfl (Nat.le_of_ble_eq_true rfl) dL_law_241 ⟨by show _ ≤ (600104 : Nat); omega, by show _ ≤ (7301314 : Nat); omega⟩) (fun r28 H locs hh27 hY => ?_)
          subst hh27
          refine b_if_eq (tgt := 286) hx hb dL_law_244 (by decide) (fun h => absurd h (by decide)) (fun _ => ?_)
          refine lv_aload_n hx hb dL_law_247 rfl (lv_at hl 6 rfl) ?_
          refine lv_aload_n hx hb dL_law_248 rfl (lv_at hl 7 rfl) ?_
          refine lv_aload_n hx hb dL_law_249 rfl (lv_at hl 8 rfl) ?_
          refine lv_iload hx hb dL_law_250 (lv_at hl 4 rfl) ?_
          refine lv_iconst (v := 3) hx hb dL_law_252 (by decide) ?_
          refine g_irem hx hb dL_law_253 (by decide) ?_
          refine g_top (y := v13) e13.symm ?_
          refine b_if_ne (tgt := 265) hx hb dL_law_254 (by decide) (fun (hh30 : ¬ v13.toInt = 0) => ?_) (fun (hh30 : v13.toInt = 0) => absurd hh30 (by omega))
          refine lv_aload_n hx hb dL_law_265 rfl (lv_at hl 7 rfl) ?_
          refine lv_bipush (v := 12) hx hb dL_law_266 (by decide) ?_
          refine lv_iload hx hb dL_law_268 (lv_at hl 1 rfl) ?_
          refine lv_iadd hx hb dL_law_270 ?_
          refine rdN0 hC hY (12 + ix v12) (i_ixc (C := 12) rfl ⟨by omega, by omega⟩ (by decide)) (by omega) (v := σ2 4 (ix v12)) (hr2.2.1) dL_law_271 ?_
          refine lv_sipush (v := 360) hx hb dL_law_272 (by decide) ?_
          refine lv_idiv hx hb dL_law_275 (by decide) ?_
          refine lv_topi (fun v31 e31 => ?_)
          have q31 : v31.toInt = (σ2 4 (ix v12)).toInt / 360 := by rw [e31]; exact i_divR rfl rfl (by omega)
          refine g_calli hY (g_runS (n := 4) hC (c_L_isYear l G u σ2 n2 τ2 hst hLI2 v31 ⟨by omega, by omega⟩) gL_law_L_isYear rfl ⟨rfl, rfl⟩ (by decide +kernel) ⟨Nat.le_of_ble_eq_true rfl, Nat.le_of_ble_eq_true rfl⟩ hY rfl hl.1 rfl (Nat.le_of_ble_eq_true rfl) dL_law_276 ⟨by show _ ≤ (600104 : Nat); omega, by show _ ≤ (7301314 : Nat); omega⟩) (fun r33 H locs hh32 hY => ?_)
          subst hh32
          refine b_if_eq (tgt := 286) hx hb dL_law_279 (by decide) (fun h => absurd h (by decide)) (fun _ => ?_)
          refine lv_iconst (v := 1) hx hb dL_law_282 (by decide) ?_
          refine lv_goto (tgt := 287) hx hb dL_law_283 (by decide) ?_
          refine lv_istore (lv' := [(6, .int 1), (12, .int v17), (11, .int v12), (10, .int a5), (9, .int a3), (0, .ref b), (1, .ref (u 0)), (2, .ref (u 5)), (3, .ref (u 6)), (4, .ref (u 7)), (5, .ref (u 8)), (7, .int st), (8, .int k)]) hx hb dL_law_287 hl (by decide) rfl (fun ls hl => ?_)
          refine lv_iinc (v := k + 1) (lv' := [(8, .int (k + 1)), (6, .int 1), (12, .int v17), (11, .int v12), (10, .int a5), (9, .int a3), (0, .ref b), (1, .ref (u 0)), (2, .ref (u 5)), (3, .ref (u 6)), (4, .ref (u 7)), (5, .ref (u 8)), (7, .int st)]) hx hb dL_law_289 hl (k := 12) rfl rfl (by decide) rfl (fun ls hl => ?_)
          refine lv_goto (tgt := 98) hx hb dL_law_292 (by decide) ?_
          exact W.widen (by omega) (by omega) (kk u σ2 n2 τ2 _ _ _ hLI2 hY (lv_sub hl [6, 7, 8, 9, 10, 11, 1, 12, 0] rfl))
      · refine lv_iload hx hb dL_law_192 (lv_at hl 3 rfl) ?_
        refine lv_sipush (v := 240) hx hb dL_law_194 (by decide) ?_
        refine g_irem hx hb dL_law_197 (by decide) ?_
        refine lv_topi (fun v35 e35 => ?_)
        have q35 : v35.toInt = a3.toInt % 240 := by rw [e35]; exact i_rmR rfl rfl (by omega)
        refine lv_goto (tgt := 217) hx hb dL_law_198 (by decide) ?_
        refine lv_istore (lv' := [(12, .int v35), (11, .int v12), (6, .int 1), (10, .int a5), (9, .int a3), (0, .ref b), (1, .ref (u 0)), (2, .ref (u 5)), (3, .ref (u 6)), (4, .ref (u 7)), (5, .ref (u 8)), (7, .int st), (8, .int k)]) hx hb dL_law_217 hl (by decide) rfl (fun ls hl => ?_)
        refine lv_aload_n hx hb dL_law_219 rfl (lv_at hl 6 rfl) ?_
        refine lv_aload_n hx hb dL_law_220 rfl (lv_at hl 7 rfl) ?_
        refine lv_aload hx hb dL_law_221 (lv_at hl 10 rfl) ?_
        refine lv_iload hx hb dL_law_223 (lv_at hl 1 rfl) ?_
        refine lv_iload hx hb dL_law_225 (lv_at hl 0 rfl) ?_
        refine lv_sipush (v := 239) hx hb dL_law_227 (by decide) ?_
        refine b_icmp_le (tgt := 239) hx hb dL_law_230 (by decide) (fun (hh36 : v35.toInt ≤ 239) => ?_) (fun (hh36 : 239 < v35.toInt) => ?_)
        · refine lv_iload hx hb dL_law_239 (lv_at hl 0 rfl) ?_
          refine g_calli hY (g_runS (n := 5) hC (c_L_isLease l G u σ2 n2 τ2 hst hLI2 v12 v35 ⟨by omega, by omega⟩ ⟨by omega, by omega⟩) gL_law_L_isLease rfl ⟨rfl, rfl⟩ (by decide +kernel) ⟨Nat.le_of_ble_eq_true rfl, Nat.le_of_ble_eq_true rfl⟩ hY rfl hl.1 rfl (Nat.le_of_ble_eq_true rfl) dL_law_241 ⟨by show _ ≤ (600104 : Nat); omega, by show _ ≤ (7301314 : Nat); omega⟩) (fun r38 H locs hh37 hY => ?_)
          subst hh37
          refine b_if_eq (tgt := 286) hx hb dL_law_244 (by decide) (fun h => absurd h (by decide)) (fun _ => ?_)
          refine lv_aload_n hx hb dL_law_247 rfl (lv_at hl 6 rfl) ?_
          refine lv_aload_n hx hb dL_law_248 rfl (lv_at hl 7 rfl) ?_
          refine lv_aload_n hx hb dL_law_249 rfl (lv_at hl 8 rfl) ?_
          refine lv_iload hx hb dL_law_250 (lv_at hl 4 rfl) ?_
          refine lv_iconst (v := 3) hx hb dL_law_252 (by decide) ?_
          refine g_irem hx hb dL_law_253 (by decide) ?_
          refine g_top (y := v13) e13.symm ?_
          refine b_if_ne (tgt := 265) hx hb dL_law_254 (by decide) (fun (hh40 : ¬ v13.toInt = 0) => absurd hh40 (by omega)) (fun (hh40 : v13.toInt = 0) => ?_)
          refine lv_iload hx hb dL_law_257 (lv_at hl 4 rfl) ?_
          refine lv_bipush (v := 20) hx hb dL_law_259 (by decide) ?_
          refine g_irem hx hb dL_law_261 (by decide) ?_
          refine lv_topi (fun v41 e41 => ?_)
          have q41 : v41.toInt = a3.toInt % 20 := by rw [e41]; exact i_rmR rfl rfl (by omega)
          refine lv_goto (tgt := 276) hx hb dL_law_262 (by decide) ?_
          refine g_calli hY (g_runS (n := 4) hC (c_L_isYear l G u σ2 n2 τ2 hst hLI2 v41 ⟨by omega, by omega⟩) gL_law_L_isYear rfl ⟨rfl, rfl⟩ (by decide +kernel) ⟨Nat.le_of_ble_eq_true rfl, Nat.le_of_ble_eq_true rfl⟩ hY rfl hl.1 rfl (Nat.le_of_ble_eq_true rfl) dL_law_276 ⟨by show _ ≤ (600104 : Nat); omega, by show _ ≤ (7301314 : Nat); omega⟩) (fun r43 H locs hh42 hY => ?_)
          subst hh42
          refine b_if_eq (tgt := 286) hx hb dL_law_279 (by decide) (fun h => absurd h (by decide)) (fun _ => ?_)
          refine lv_iconst (v := 1) hx hb dL_law_282 (by decide) ?_
          refine lv_goto (tgt := 287) hx hb dL_law_283 (by decide) ?_
          refine lv_istore (lv' := [(6, .int 1), (12, .int v35), (11, .int v12), (10, .int a5), (9, .int a3), (0, .ref b), (1, .ref (u 0)), (2, .ref (u 5)), (3, .ref (u 6)), (4, .ref (u 7)), (5, .ref (u 8)), (7, .int st), (8, .int k)]) hx hb dL_law_287 hl (by decide) rfl (fun ls hl => ?_)
          refine lv_iinc (v := k + 1) (lv' := [(8, .int (k + 1)), (6, .int 1), (12, .int v35), (11, .int v12), (10, .int a5), (9, .int a3), (0, .ref b), (1, .ref (u 0)), (2, .ref (u 5)), (3, .ref (u 6)), (4, .ref (u 7)), (5, .ref (u 8)), (7, .int st)]) hx hb dL_law_289 hl (k := 12) rfl rfl (by decide) rfl (fun ls hl => ?_)
          refine lv_goto (tgt := 98) hx hb dL_law_292 (by decide) ?_
          exact W.widen (by omega) (by omega) (kk u σ2 n2 τ2 _ _ _ hLI2 hY (lv_sub hl [6, 7, 8, 9, 10, 11, 1, 12, 0] rfl))
        · refine lv_sipush (v := 239) hx hb dL_law_233 (by decide) ?_
          refine lv_goto (tgt := 241) hx hb dL_law_236 (by decide) ?_
          refine g_calli hY (g_runS (n := 5) hC (c_L_isLease l G u σ2 n2 τ2 hst hLI2 v12 239 ⟨by omega, by omega⟩ ⟨by decide, by decide⟩) gL_law_L_isLease rfl ⟨rfl, rfl⟩ (by decide +kernel) ⟨Nat.le_of_ble_eq_true rfl, Nat.le_of_ble_eq_true rfl⟩ hY rfl hl.1 rfl (Nat.le_of_ble_eq_true rfl) dL_law_241 ⟨by show _ ≤ (600104 : Nat); omega, by show _ ≤ (7301314 : Nat); omega⟩) (fun r46 H locs hh45 hY => ?_)
          subst hh45
          refine b_if_eq (tgt := 286) hx hb dL_law_244 (by decide) (fun h => absurd h (by decide)) (fun _ => ?_)
          refine lv_aload_n hx hb dL_law_247 rfl (lv_at hl 6 rfl) ?_
          refine lv_aload_n hx hb dL_law_248 rfl (lv_at hl 7 rfl) ?_
          refine lv_aload_n hx hb dL_law_249 rfl (lv_at hl 8 rfl) ?_
          refine lv_iload hx hb dL_law_250 (lv_at hl 4 rfl) ?_
          refine lv_iconst (v := 3) hx hb dL_law_252 (by decide) ?_
          refine g_irem hx hb dL_law_253 (by decide) ?_
          refine g_top (y := v13) e13.symm ?_
          refine b_if_ne (tgt := 265) hx hb dL_law_254 (by decide) (fun (hh48 : ¬ v13.toInt = 0) => absurd hh48 (by omega)) (fun (hh48 : v13.toInt = 0) => ?_)
          refine lv_iload hx hb dL_law_257 (lv_at hl 4 rfl) ?_
          refine lv_bipush (v := 20) hx hb dL_law_259 (by decide) ?_
          refine g_irem hx hb dL_law_261 (by decide) ?_
          refine lv_topi (fun v49 e49 => ?_)
          have q49 : v49.toInt = a3.toInt % 20 := by rw [e49]; exact i_rmR rfl rfl (by omega)
          refine lv_goto (tgt := 276) hx hb dL_law_262 (by decide) ?_
          refine g_calli hY (g_runS (n := 4) hC (c_L_isYear l G u σ2 n2 τ2 hst hLI2 v49 ⟨by omega, by omega⟩) gL_law_L_isYear rfl ⟨rfl, rfl⟩ (by decide +kernel) ⟨Nat.le_of_ble_eq_true rfl, Nat.le_of_ble_eq_true rfl⟩ hY rfl hl.1 rfl (Nat.le_of_ble_eq_true rfl) dL_law_276 ⟨by show _ ≤ (600104 : Nat); omega, by show _ ≤ (7301314 : Nat); omega⟩) (fun r51 H locs hh50 hY => ?_)
          subst hh50
          refine b_if_eq (tgt := 286) hx hb dL_law_279 (by decide) (fun h => absurd h (by decide)) (fun _ => ?_)
          refine lv_iconst (v := 1) hx hb dL_law_282 (by decide) ?_
          refine lv_goto (tgt := 287) hx hb dL_law_283 (by decide) ?_
          refine lv_istore (lv' := [(6, .int 1), (12, .int v35), (11, .int v12), (10, .int a5), (9, .int a3), (0, .ref b), (1, .ref (u 0)), (2, .ref (u 5)), (3, .ref (u 6)), (4, .ref (u 7)), (5, .ref (u 8)), (7, .int st), (8, .int k)]) hx hb dL_law_287 hl (by decide) rfl (fun ls hl => ?_)
          refine lv_iinc (v := k + 1) (lv' := [(8, .int (k + 1)), (6, .int 1), (12, .int v35), (11, .int v12), (10, .int a5), (9, .int a3), (0, .ref b), (1, .ref (u 0)), (2, .ref (u 5)), (3, .ref (u 6)), (4, .ref (u 7)), (5, .ref (u 8)), (7, .int st)]) hx hb dL_law_289 hl (k := 12) rfl rfl (by decide) rfl (fun ls hl => ?_)
          refine lv_goto (tgt := 98) hx hb dL_law_292 (by decide) ?_
          exact W.widen (by omega) (by omega) (kk u σ2 n2 τ2 _ _ _ hLI2 hY (lv_sub hl [6, 7, 8, 9, 10, 11, 1, 12, 0] rfl))

set_option maxHeartbeats 4000000 in
set_option maxRecDepth 100000 in
theorem law_loop {st : Int32} (l : Launch) (hst : l.stackTraces = false) (hC : CallFix p m c cL_law 13 s #[.ref b] wsL_law RL) (hX : va_X b L xs s s.heap) (hbl : b < s.heap.size) (hG : G.1 = s.heap.size) (hL : L ≤ 260) (hs : 0 ≤ st.toInt ∧ st.toInt ≤ 60 ∧ 3 * st.toInt ≤ (L : Int))
    (hend : ∀ (H : Heap) (ls : Array Slot), W p l e room_1 s m #[.ref b] below meth c H [] 600104 7301314 Q (F0 m 297 ls [.int 1])) : ∀ (f : Nat) (σ : St) (n : Nat) (τ : St) (ad : Nat → Nat) (H : Heap) (locs : List Loc) (ls : Array Slot) (k : Int32) (cells slots : Nat), LI σ n τ → SyS G ad σ n τ s H locs → lv_has ls 13 [(0, .ref b), (1, .ref (ad 0)), (2, .ref (ad 5)), (3, .ref (ad 6)), (4, .ref (ad 7)), (5, .ref (ad 8)), (6, .int 1), (7, .int st), (8, .int (k))] → 0 ≤ k.toInt → k.toInt ≤ 60 → st.toInt ≤ k.toInt + f → cells + 4000 * f ≤ 600104 → slots + 24000 * f ≤ 7301314 → W p l e room_1 s m #[.ref b] below meth c H locs cells slots Q (F0 m 98 ls []) := by
  have hx := hC.1
  have hb := hC.2.1
  intro f
  induction f with
  | zero =>
    intro σ n τ ad H locs ls k cells slots hLI hY hl hk0 hk1 hf hc1 hc2
    refine lv_iload hx hb dL_law_98 (lv_at hl 8 rfl) ?_
    refine lv_iload hx hb dL_law_100 (lv_at hl 7 rfl) ?_
    refine b_icmp_ge (tgt := 295) hx hb dL_law_102 (by decide) (fun h => ?_) (fun h => absurd h (by omega))
    refine lv_iload hx hb dL_law_295 (lv_at hl 6 rfl) ?_
    exact va_forget (fun q hq => by rw [← hG]; exact hY.2.2.2.1.2.2 q hq) (W.widen (by omega) (by omega) (hend H _))
  | succ f ih =>
    intro σ n τ ad H locs ls k cells slots hLI hY hl hk0 hk1 hf hc1 hc2
    refine lv_iload hx hb dL_law_98 (lv_at hl 8 rfl) ?_
    refine lv_iload hx hb dL_law_100 (lv_at hl 7 rfl) ?_
    refine b_icmp_ge (tgt := 295) hx hb dL_law_102 (by decide) (fun h => ?_) (fun h => ?_)
    · refine lv_iload hx hb dL_law_295 (lv_at hl 6 rfl) ?_
      exact va_forget (fun q hq => by rw [← hG]; exact hY.2.2.2.1.2.2 q hq) (W.widen (by omega) (by omega) (hend H _))
    · refine lv_iload hx hb dL_law_105 (lv_at hl 6 rfl) ?_
      refine b_if_eq (tgt := 295) hx hb dL_law_107 (by decide) (fun h => absurd h (by decide)) (fun _ => ?_)
      refine law_turn l hst hC hLI hY hl hX hbl hG hL ⟨hk0, h⟩ ⟨hs.2.1, hs.2.2⟩ ⟨by omega, by omega⟩ (fun u σ' n' τ' H' locs' ls' hLI' hY' hl' => ?_)
      have e1 : (k + 1).toInt = k.toInt + 1 := i_add1 (by omega)
      exact ih σ' n' τ' u H' locs' ls' (k + 1) (cells + 4000) (slots + 24000) hLI' hY' hl' (by omega) (by omega) (by omega) (by omega) (by omega)
end LT

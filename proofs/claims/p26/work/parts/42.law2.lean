/-! the law: a step -/
set_option maxHeartbeats 4000000 in
set_option maxRecDepth 100000 in
theorem s_c0 {p : Program} {e : Env} {s : State} {m : MethodId} {args : Array Value} {below : List Frame} {meth : Method} {c : Code} {H : Heap} {locs : List Loc} {ls : Array Slot} {G : GG} {ad : Nat → Nat} {σ : St} {n : Nat} {τ : St} (l : Launch) (hst : l.stackTraces = false) (hC : CallFix p m c cL_step 17 s args wsL_step RL) (hr : meth.sig.returnType = some .boolean) (hlocks : meth.locks = false) (hLI : LI σ n τ) {p5 p6 p7 p9 : Int32} (h5 : 0 ≤ p5.toInt) (h6 : 0 ≤ p6.toInt) (h7 : 0 ≤ p7.toInt) (hY : SyS G ad σ n τ s H locs) (hl : lv_has ls 17 [(0, .ref (ad 0)), (1, .ref (ad 5)), (2, .ref (ad 6)), (3, .ref (ad 7)), (4, .ref (ad 8)), (5, .int p5), (6, .int p6), (7, .int p7), (8, .int (nI n)), (9, .int p9)]) : W p l e ({ frames := 10, cells := 40, slots := 260, locals := 230 }) s m args below meth c H locs 0 0 (MQ below (QL G ad) args s 40 260 (gF G)) (F0 m 80 ls []) := by
  have hx := hC.1
  have hb := hC.2.1
  have hI9 := hLI.1
  have hn24 := hLI.1.1
  have hok := hLI.1.2.2.2.1
  have hn12 := hLI.2.1
  have hnI : (nI n).toInt = (n : Int) := i_nI (by omega)
  refine lv_iload hx hb dL_step_80 (lv_at hl 6 rfl) ?_
  refine lv_bipush (v := 6) hx hb dL_step_82 (by decide) ?_
  refine g_irem hx hb dL_step_84 (by decide) ?_
  refine lv_topi (fun v1 e1 => ?_)
  have q1 : v1.toInt = p6.toInt % 6 := by rw [e1]; exact i_rmR rfl rfl (by omega)
  refine lv_istore (lv' := [(10, .int v1), (0, .ref (ad 0)), (1, .ref (ad 5)), (2, .ref (ad 6)), (3, .ref (ad 7)), (4, .ref (ad 8)), (5, .int p5), (6, .int p6), (7, .int p7), (8, .int (nI n)), (9, .int p9)]) hx hb dL_step_85 hl (by decide) rfl (fun ls hl => ?_)
  have hx6 : ix v1 < 6 := ix_lt (N := 6) ⟨by omega, by omega⟩
  refine lv_aload_n hx hb dL_step_87 rfl (lv_at hl 3 rfl) ?_
  refine lv_iconst (v := 1) hx hb dL_step_88 (by decide) ?_
  refine lv_iload hx hb dL_step_89 (lv_at hl 0 rfl) ?_
  refine lv_iadd hx hb dL_step_91 ?_
  refine rdN1 hC hY (1 + ix v1) (i_ixc (C := 1) rfl ⟨by omega, by omega⟩ (by decide)) (by omega) (v := σ 0 (ix v1)) (hLI.2.2.2.1 _ (ix_lt (N := 6) ⟨by omega, by omega⟩)) dL_step_92 ?_
  refine lv_istore (lv' := [(11, .int (σ 0 (ix v1))), (10, .int v1), (0, .ref (ad 0)), (1, .ref (ad 5)), (2, .ref (ad 6)), (3, .ref (ad 7)), (4, .ref (ad 8)), (5, .int p5), (6, .int p6), (7, .int p7), (8, .int (nI n)), (9, .int p9)]) hx hb dL_step_93 hl (by decide) rfl (fun ls hl => ?_)
  refine lv_aload_n hx hb dL_step_95 rfl (lv_at hl 4 rfl) ?_
  refine lv_iconst (v := 1) hx hb dL_step_96 (by decide) ?_
  refine lv_iload hx hb dL_step_97 (lv_at hl 1 rfl) ?_
  refine lv_iadd hx hb dL_step_99 ?_
  refine lv_iload hx hb dL_step_100 (lv_at hl 9 rfl) ?_
  refine lv_sipush (v := 1000) hx hb dL_step_102 (by decide) ?_
  refine g_irem hx hb dL_step_105 (by decide) ?_
  refine lv_topi (fun v2 e2 => ?_)
  have q2 : v2.toInt = p7.toInt % 1000 := by rw [e2]; exact i_rmR rfl rfl (by omega)
  refine wrN1 hC hY (1 + ix v1) (i_ixc (C := 1) rfl ⟨by omega, by omega⟩ (by decide)) (by omega) dL_step_106 (fun H locs hY => ?_)
  refine lv_aload_n hx hb dL_step_107 rfl (lv_at hl 2 rfl) ?_
  refine lv_iload hx hb dL_step_108 (lv_at hl 1 rfl) ?_
  refine lv_iload hx hb dL_step_110 (lv_at hl 9 rfl) ?_
  refine lv_sipush (v := 1000) hx hb dL_step_112 (by decide) ?_
  refine g_irem hx hb dL_step_115 (by decide) ?_
  refine g_top (y := v2) e2.symm ?_
  refine gn_calli hY (gx_runV (n := 2) (q := (RX1, TX1, 5)) (r := 0) hC (c_X1_setArea l G ad σ n (us τ 1 (1 + ix v1) v2) hst v1 v2) gL_step_X1_setArea rfl ⟨rfl, rfl⟩ (by decide +kernel) ⟨Nat.le_of_ble_eq_true rfl, Nat.le_of_ble_eq_true rfl⟩ hY (by omega) rfl (ci := 1) rfl rfl hl.1 rfl (Nat.le_of_ble_eq_true rfl) dL_step_116 ⟨by show _ ≤ (40 : Nat); omega, by show _ ≤ (260 : Nat); omega⟩) (exC_0 (cdArea_0 ⟨by omega, by omega⟩ ⟨by omega, by omega⟩)) (fun r4 H locs hh3 hY => ?_)
  obtain ⟨-, rfl⟩ := hh3
  refine lv_iload hx hb dL_step_119 (lv_at hl 0 rfl) ?_
  refine b_icmp_ne (tgt := 128) hx hb dL_step_121 (by decide) (fun h => absurd rfl h) (fun _ => ?_)
  refine lv_iconst (v := 1) hx hb dL_step_124 (by decide) ?_
  refine lv_goto (tgt := 129) hx hb dL_step_125 (by decide) ?_
  exact g_zretL hC hr hlocks hY (fun _ _ => rfl) (li_area hLI (ix_lt (N := 6) ⟨by omega, by omega⟩) ⟨by omega, by omega⟩) ⟨by show _ ≤ (40 : Nat); omega, by show _ ≤ (260 : Nat); omega⟩ dL_step_129

set_option maxHeartbeats 4000000 in
set_option maxRecDepth 100000 in
theorem s_c1 {p : Program} {e : Env} {s : State} {m : MethodId} {args : Array Value} {below : List Frame} {meth : Method} {c : Code} {H : Heap} {locs : List Loc} {ls : Array Slot} {G : GG} {ad : Nat → Nat} {σ : St} {n : Nat} {τ : St} (l : Launch) (hst : l.stackTraces = false) (hC : CallFix p m c cL_step 17 s args wsL_step RL) (hr : meth.sig.returnType = some .boolean) (hlocks : meth.locks = false) (hLI : LI σ n τ) {p5 p6 p7 p9 : Int32} (h5 : 0 ≤ p5.toInt) (h6 : 0 ≤ p6.toInt) (h7 : 0 ≤ p7.toInt) (hY : SyS G ad σ n τ s H locs) (hl : lv_has ls 17 [(0, .ref (ad 0)), (1, .ref (ad 5)), (2, .ref (ad 6)), (3, .ref (ad 7)), (4, .ref (ad 8)), (5, .int p5), (6, .int p6), (7, .int p7), (8, .int (nI n)), (9, .int p9)]) : W p l e ({ frames := 10, cells := 40, slots := 260, locals := 230 }) s m args below meth c H locs 0 0 (MQ below (QL G ad) args s 40 260 (gF G)) (F0 m 130 ls []) := by
  have hx := hC.1
  have hb := hC.2.1
  have hI9 := hLI.1
  have hn24 := hLI.1.1
  have hok := hLI.1.2.2.2.1
  have hn12 := hLI.2.1
  have hnI : (nI n).toInt = (n : Int) := i_nI (by omega)
  refine lv_aload_n hx hb dL_step_130 rfl (lv_at hl 0 rfl) ?_
  refine lv_iload hx hb dL_step_131 (lv_at hl 6 rfl) ?_
  refine lv_sipush (v := 240) hx hb dL_step_133 (by decide) ?_
  refine g_irem hx hb dL_step_136 (by decide) ?_
  refine lv_topi (fun v1 e1 => ?_)
  have q1 : v1.toInt = p6.toInt % 240 := by rw [e1]; exact i_rmR rfl rfl (by omega)
  refine lv_bipush (v := 10) hx hb dL_step_137 (by decide) ?_
  refine lv_iload hx hb dL_step_139 (lv_at hl 7 rfl) ?_
  refine lv_sipush (v := 990) hx hb dL_step_141 (by decide) ?_
  refine g_irem hx hb dL_step_144 (by decide) ?_
  refine lv_topi (fun v2 e2 => ?_)
  have q2 : v2.toInt = p7.toInt % 990 := by rw [e2]; exact i_rmR rfl rfl (by omega)
  refine lv_iadd hx hb dL_step_145 ?_
  refine lv_topi (fun v3 e3 => ?_)
  have q3 : v3.toInt = 10 + v2.toInt := by rw [e3]; exact i_addR rfl rfl (by omega)
  refine gn_calli hY (gx_runV (n := 2) (q := (RX1, TX1, 5)) (r := 0) hC (c_X1_setIndex l G ad σ n τ hst v1 v3) gL_step_X1_setIndex rfl ⟨rfl, rfl⟩ (by decide +kernel) ⟨Nat.le_of_ble_eq_true rfl, Nat.le_of_ble_eq_true rfl⟩ hY (by omega) rfl (ci := 1) rfl rfl hl.1 rfl (Nat.le_of_ble_eq_true rfl) dL_step_146 ⟨by show _ ≤ (40 : Nat); omega, by show _ ≤ (260 : Nat); omega⟩) (exC_0 (cdIndex_0 ⟨by omega, by omega⟩ ⟨by omega, by omega⟩)) (fun r5 H locs hh4 hY => ?_)
  obtain ⟨-, rfl⟩ := hh4
  refine lv_bipush (v := 10) hx hb dL_step_149 (by decide) ?_
  refine b_icmp_lt (tgt := 189) hx hb dL_step_151 (by decide) (fun (hh6 : (σ 1 (ix v1)).toInt < 10) => absurd hh6 (by have z := hI9.2.2.1 (ix v1) (ix_lt (N := 240) ⟨by omega, by omega⟩); omega)) (fun (hh6 : 10 ≤ (σ 1 (ix v1)).toInt) => ?_)
  refine lv_aload_n hx hb dL_step_154 rfl (lv_at hl 0 rfl) ?_
  refine lv_iload hx hb dL_step_155 (lv_at hl 6 rfl) ?_
  refine lv_sipush (v := 240) hx hb dL_step_157 (by decide) ?_
  refine g_irem hx hb dL_step_160 (by decide) ?_
  refine g_top (y := v1) e1.symm ?_
  refine lv_bipush (v := 10) hx hb dL_step_161 (by decide) ?_
  refine lv_iload hx hb dL_step_163 (lv_at hl 7 rfl) ?_
  refine lv_sipush (v := 990) hx hb dL_step_165 (by decide) ?_
  refine g_irem hx hb dL_step_168 (by decide) ?_
  refine g_top (y := v2) e2.symm ?_
  refine lv_iadd hx hb dL_step_169 ?_
  refine g_top (y := v3) e3.symm ?_
  refine gn_calli hY (gx_runV (n := 2) (q := (RX1, TX1, 5)) (r := 0) hC (c_X1_setIndex l G ad (us σ 1 (ix v1) v3) n τ hst v1 v3) gL_step_X1_setIndex rfl ⟨rfl, rfl⟩ (by decide +kernel) ⟨Nat.le_of_ble_eq_true rfl, Nat.le_of_ble_eq_true rfl⟩ hY (by omega) rfl (ci := 1) rfl rfl hl.1 rfl (Nat.le_of_ble_eq_true rfl) dL_step_170 ⟨by show _ ≤ (40 : Nat); omega, by show _ ≤ (260 : Nat); omega⟩) (exC_0 (cdIndex_0 ⟨by omega, by omega⟩ ⟨by omega, by omega⟩)) (fun r8 H locs hh7 hY => ?_)
  obtain ⟨-, rfl⟩ := hh7
  refine lv_bipush (v := 10) hx hb dL_step_173 (by decide) ?_
  refine lv_iload hx hb dL_step_175 (lv_at hl 7 rfl) ?_
  refine lv_sipush (v := 990) hx hb dL_step_177 (by decide) ?_
  refine g_irem hx hb dL_step_180 (by decide) ?_
  refine g_top (y := v2) e2.symm ?_
  refine lv_iadd hx hb dL_step_181 ?_
  refine g_top (y := v3) e3.symm ?_
  refine b_icmp_ne (tgt := 189) hx hb dL_step_182 (by decide) (fun (hh9 : ¬ ((us σ 1 (ix v1) v3) 1 (ix v1)).toInt = v3.toInt) => absurd hh9 (by exact fun q => q (by rw [us_eq]))) (fun (hh9 : ((us σ 1 (ix v1) v3) 1 (ix v1)).toInt = v3.toInt) => ?_)
  refine lv_iconst (v := 1) hx hb dL_step_185 (by decide) ?_
  refine lv_goto (tgt := 190) hx hb dL_step_186 (by decide) ?_
  exact g_zretL hC hr hlocks hY (fun _ _ => rfl) (li_index (li_index hLI ⟨by omega, by omega⟩) ⟨by omega, by omega⟩) ⟨by show _ ≤ (40 : Nat); omega, by show _ ≤ (260 : Nat); omega⟩ dL_step_190

set_option maxHeartbeats 4000000 in
set_option maxRecDepth 100000 in
theorem s_c2 {p : Program} {e : Env} {s : State} {m : MethodId} {args : Array Value} {below : List Frame} {meth : Method} {c : Code} {H : Heap} {locs : List Loc} {ls : Array Slot} {G : GG} {ad : Nat → Nat} {σ : St} {n : Nat} {τ : St} (l : Launch) (hst : l.stackTraces = false) (hC : CallFix p m c cL_step 17 s args wsL_step RL) (hr : meth.sig.returnType = some .boolean) (hlocks : meth.locks = false) (hLI : LI σ n τ) {p5 p6 p7 p9 : Int32} (h5 : 0 ≤ p5.toInt) (h6 : 0 ≤ p6.toInt) (h7 : 0 ≤ p7.toInt) (hY : SyS G ad σ n τ s H locs) (hl : lv_has ls 17 [(0, .ref (ad 0)), (1, .ref (ad 5)), (2, .ref (ad 6)), (3, .ref (ad 7)), (4, .ref (ad 8)), (5, .int p5), (6, .int p6), (7, .int p7), (8, .int (nI n)), (9, .int p9)]) : W p l e ({ frames := 10, cells := 40, slots := 260, locals := 230 }) s m args below meth c H locs 0 0 (MQ below (QL G ad) args s 40 260 (gF G)) (F0 m 191 ls []) := by
  have hx := hC.1
  have hb := hC.2.1
  have hI9 := hLI.1
  have hn24 := hLI.1.1
  have hok := hLI.1.2.2.2.1
  have hn12 := hLI.2.1
  have hnI : (nI n).toInt = (n : Int) := i_nI (by omega)
  refine lv_aload_n hx hb dL_step_191 rfl (lv_at hl 0 rfl) ?_
  refine lv_iload hx hb dL_step_192 (lv_at hl 6 rfl) ?_
  refine lv_bipush (v := 20) hx hb dL_step_194 (by decide) ?_
  refine g_irem hx hb dL_step_196 (by decide) ?_
  refine lv_topi (fun v1 e1 => ?_)
  have q1 : v1.toInt = p6.toInt % 20 := by rw [e1]; exact i_rmR rfl rfl (by omega)
  refine lv_iload hx hb dL_step_197 (lv_at hl 7 rfl) ?_
  refine lv_ldc (v := 1000000) hx hb hC.2.2.2.1 (hC.2.2.2.2 _ (by decide +kernel)) dL_step_199 ?_
  refine g_irem hx hb dL_step_201 (by decide) ?_
  refine lv_topi (fun v2 e2 => ?_)
  have q2 : v2.toInt = p7.toInt % 1000000 := by rw [e2]; exact i_rmR rfl rfl (by omega)
  refine gn_calli hY (gx_runV (n := 2) (q := (RX1, TX1, 5)) (r := 0) hC (c_X1_setCost l G ad σ n τ hst v1 v2) gL_step_X1_setCost rfl ⟨rfl, rfl⟩ (by decide +kernel) ⟨Nat.le_of_ble_eq_true rfl, Nat.le_of_ble_eq_true rfl⟩ hY (by omega) rfl (ci := 1) rfl rfl hl.1 rfl (Nat.le_of_ble_eq_true rfl) dL_step_202 ⟨by show _ ≤ (40 : Nat); omega, by show _ ≤ (260 : Nat); omega⟩) (exC_0 (cdCost_0 ⟨by omega, by omega⟩ ⟨by omega, by omega⟩)) (fun r4 H locs hh3 hY => ?_)
  obtain ⟨-, rfl⟩ := hh3
  refine b_if_lt (tgt := 234) hx hb dL_step_205 (by decide) (fun (hh5 : (σ 2 (ix v1)).toInt < 0) => absurd hh5 (by have z := hLI.2.2.2.2.2.2.2 (ix v1) (ix_lt (N := 20) ⟨by omega, by omega⟩); omega)) (fun (hh5 : 0 ≤ (σ 2 (ix v1)).toInt) => ?_)
  refine lv_aload_n hx hb dL_step_208 rfl (lv_at hl 0 rfl) ?_
  refine lv_iload hx hb dL_step_209 (lv_at hl 6 rfl) ?_
  refine lv_bipush (v := 20) hx hb dL_step_211 (by decide) ?_
  refine g_irem hx hb dL_step_213 (by decide) ?_
  refine g_top (y := v1) e1.symm ?_
  refine lv_iload hx hb dL_step_214 (lv_at hl 7 rfl) ?_
  refine lv_ldc (v := 1000000) hx hb hC.2.2.2.1 (hC.2.2.2.2 _ (by decide +kernel)) dL_step_216 ?_
  refine g_irem hx hb dL_step_218 (by decide) ?_
  refine g_top (y := v2) e2.symm ?_
  refine gn_calli hY (gx_runV (n := 2) (q := (RX1, TX1, 5)) (r := 0) hC (c_X1_setCost l G ad (us σ 2 (ix v1) v2) n τ hst v1 v2) gL_step_X1_setCost rfl ⟨rfl, rfl⟩ (by decide +kernel) ⟨Nat.le_of_ble_eq_true rfl, Nat.le_of_ble_eq_true rfl⟩ hY (by omega) rfl (ci := 1) rfl rfl hl.1 rfl (Nat.le_of_ble_eq_true rfl) dL_step_219 ⟨by show _ ≤ (40 : Nat); omega, by show _ ≤ (260 : Nat); omega⟩) (exC_0 (cdCost_0 ⟨by omega, by omega⟩ ⟨by omega, by omega⟩)) (fun r7 H locs hh6 hY => ?_)
  obtain ⟨-, rfl⟩ := hh6
  refine lv_iload hx hb dL_step_222 (lv_at hl 7 rfl) ?_
  refine lv_ldc (v := 1000000) hx hb hC.2.2.2.1 (hC.2.2.2.2 _ (by decide +kernel)) dL_step_224 ?_
  refine g_irem hx hb dL_step_226 (by decide) ?_
  refine g_top (y := v2) e2.symm ?_
  refine b_icmp_ne (tgt := 234) hx hb dL_step_227 (by decide) (fun (hh8 : ¬ ((us σ 2 (ix v1) v2) 2 (ix v1)).toInt = v2.toInt) => absurd hh8 (by exact fun q => q (by rw [us_eq]))) (fun (hh8 : ((us σ 2 (ix v1) v2) 2 (ix v1)).toInt = v2.toInt) => ?_)
  refine lv_iconst (v := 1) hx hb dL_step_230 (by decide) ?_
  refine lv_goto (tgt := 235) hx hb dL_step_231 (by decide) ?_
  exact g_zretL hC hr hlocks hY (fun _ _ => rfl) (li_cost (li_cost hLI ⟨by omega, by omega⟩) ⟨by omega, by omega⟩) ⟨by show _ ≤ (40 : Nat); omega, by show _ ≤ (260 : Nat); omega⟩ dL_step_235

set_option maxHeartbeats 4000000 in
set_option maxRecDepth 100000 in
theorem s_c3 {p : Program} {e : Env} {s : State} {m : MethodId} {args : Array Value} {below : List Frame} {meth : Method} {c : Code} {H : Heap} {locs : List Loc} {ls : Array Slot} {G : GG} {ad : Nat → Nat} {σ : St} {n : Nat} {τ : St} (l : Launch) (hst : l.stackTraces = false) (hC : CallFix p m c cL_step 17 s args wsL_step RL) (hr : meth.sig.returnType = some .boolean) (hlocks : meth.locks = false) (hLI : LI σ n τ) {p5 p6 p7 p9 : Int32} (h5 : 0 ≤ p5.toInt) (h6 : 0 ≤ p6.toInt) (h7 : 0 ≤ p7.toInt) (hY : SyS G ad σ n τ s H locs) (hl : lv_has ls 17 [(0, .ref (ad 0)), (1, .ref (ad 5)), (2, .ref (ad 6)), (3, .ref (ad 7)), (4, .ref (ad 8)), (5, .int p5), (6, .int p6), (7, .int p7), (8, .int (nI n)), (9, .int p9)]) : W p l e ({ frames := 10, cells := 40, slots := 260, locals := 230 }) s m args below meth c H locs 0 0 (MQ below (QL G ad) args s 40 260 (gF G)) (F0 m 236 ls []) := by
  have hx := hC.1
  have hb := hC.2.1
  have hI9 := hLI.1
  have hn24 := hLI.1.1
  have hok := hLI.1.2.2.2.1
  have hn12 := hLI.2.1
  have hnI : (nI n).toInt = (n : Int) := i_nI (by omega)
  refine lv_iload hx hb dL_step_236 (lv_at hl 8 rfl) ?_
  refine lv_bipush (v := 12) hx hb dL_step_238 (by decide) ?_
  refine b_icmp_eq (tgt := 313) hx hb dL_step_240 (by decide) (fun (hh1 : (nI n).toInt = 12) => ?_) (fun (hh1 : ¬ (nI n).toInt = 12) => ?_)
  · refine lv_iconst (v := 1) hx hb dL_step_313 (by decide) ?_
    refine lv_goto (tgt := 318) hx hb dL_step_314 (by decide) ?_
    exact g_zretL hC hr hlocks hY (fun _ _ => rfl) hLI ⟨by show _ ≤ (40 : Nat); omega, by show _ ≤ (260 : Nat); omega⟩ dL_step_318
  · refine lv_aload_n hx hb dL_step_243 rfl (lv_at hl 0 rfl) ?_
    refine lv_aload_n hx hb dL_step_244 rfl (lv_at hl 1 rfl) ?_
    refine lv_aload_n hx hb dL_step_245 rfl (lv_at hl 2 rfl) ?_
    refine lv_aload hx hb dL_step_246 (lv_at hl 4 rfl) ?_
    refine lv_iload hx hb dL_step_248 (lv_at hl 6 rfl) ?_
    refine lv_bipush (v := 6) hx hb dL_step_250 (by decide) ?_
    refine g_irem hx hb dL_step_252 (by decide) ?_
    refine lv_topi (fun v2 e2 => ?_)
    have q2 : v2.toInt = p6.toInt % 6 := by rw [e2]; exact i_rmR rfl rfl (by omega)
    refine lv_iload hx hb dL_step_253 (lv_at hl 6 rfl) ?_
    refine lv_bipush (v := 6) hx hb dL_step_255 (by decide) ?_
    refine lv_idiv hx hb dL_step_257 (by decide) ?_
    refine lv_topi (fun v3 e3 => ?_)
    have q3 : v3.toInt = p6.toInt / 6 := by rw [e3]; exact i_divR rfl rfl (by omega)
    refine lv_sipush (v := 7200) hx hb dL_step_258 (by decide) ?_
    refine g_irem hx hb dL_step_261 (by decide) ?_
    refine lv_topi (fun v4 e4 => ?_)
    have q4 : v4.toInt = v3.toInt % 7200 := by rw [e4]; exact i_rmR rfl rfl (by omega)
    refine lv_iconst (v := 1) hx hb dL_step_262 (by decide) ?_
    refine lv_iload hx hb dL_step_263 (lv_at hl 7 rfl) ?_
    refine lv_iload hx hb dL_step_265 (lv_at hl 7 rfl) ?_
    refine lv_iconst (v := 3) hx hb dL_step_267 (by decide) ?_
    refine g_irem hx hb dL_step_268 (by decide) ?_
    refine lv_topi (fun v5 e5 => ?_)
    have q5 : v5.toInt = p7.toInt % 3 := by rw [e5]; exact i_rmR rfl rfl (by omega)
    refine b_if_ne (tgt := 278) hx hb dL_step_269 (by decide) (fun (hh6 : ¬ v5.toInt = 0) => ?_) (fun (hh6 : v5.toInt = 0) => ?_)
    · refine lv_sipush (v := 500) hx hb dL_step_278 (by decide) ?_
      refine g_irem hx hb dL_step_281 (by decide) ?_
      refine lv_topi (fun v7 e7 => ?_)
      have q7 : v7.toInt = p7.toInt % 500 := by rw [e7]; exact i_rmR rfl rfl (by omega)
      refine lv_iadd hx hb dL_step_282 ?_
      refine lv_topi (fun v8 e8 => ?_)
      have q8 : v8.toInt = 1 + v7.toInt := by rw [e8]; exact i_addR rfl rfl (by omega)
      refine lv_iconst (v := 1) hx hb dL_step_283 (by decide) ?_
      refine lv_iload hx hb dL_step_284 (lv_at hl 7 rfl) ?_
      refine lv_sipush (v := 3000) hx hb dL_step_286 (by decide) ?_
      refine lv_idiv hx hb dL_step_289 (by decide) ?_
      refine lv_topi (fun v9 e9 => ?_)
      have q9 : v9.toInt = p7.toInt / 3000 := by rw [e9]; exact i_divR rfl rfl (by omega)
      refine lv_iload hx hb dL_step_290 (lv_at hl 6 rfl) ?_
      refine lv_iconst (v := 2) hx hb dL_step_292 (by decide) ?_
      refine g_irem hx hb dL_step_293 (by decide) ?_
      refine lv_topi (fun v10 e10 => ?_)
      have q10 : v10.toInt = p6.toInt % 2 := by rw [e10]; exact i_rmR rfl rfl (by omega)
      refine b_if_ne (tgt := 302) hx hb dL_step_294 (by decide) (fun (hh11 : ¬ v10.toInt = 0) => ?_) (fun (hh11 : v10.toInt = 0) => ?_)
      · refine lv_sipush (v := 900) hx hb dL_step_302 (by decide) ?_
        refine g_irem hx hb dL_step_305 (by decide) ?_
        refine lv_topi (fun v12 e12 => ?_)
        have q12 : v12.toInt = v9.toInt % 900 := by rw [e12]; exact i_rmR rfl rfl (by omega)
        refine lv_iadd hx hb dL_step_306 ?_
        refine lv_topi (fun v13 e13 => ?_)
        have q13 : v13.toInt = 1 + v12.toInt := by rw [e13]; exact i_addR rfl rfl (by omega)
        refine gn_callL hY (g_runS (n := 8) hC (c_L_lets l G ad σ n τ hst hLI v2 v4 v8 v13 ⟨by omega, by omega⟩ ⟨by omega, by omega⟩ ⟨by omega, by omega⟩ ⟨by omega, by omega⟩ (by omega)) gL_step_L_lets rfl ⟨rfl, rfl⟩ (by decide +kernel) ⟨Nat.le_of_ble_eq_true rfl, Nat.le_of_ble_eq_true rfl⟩ hY rfl hl.1 rfl (Nat.le_of_ble_eq_true rfl) dL_step_307 ⟨by show _ ≤ (40 : Nat); omega, by show _ ≤ (260 : Nat); omega⟩) (fun u σ2 n2 τ2 H locs hu hLI2 hY => ?_)
        refine b_if_eq (tgt := 317) hx hb dL_step_310 (by decide) (fun h => absurd h (by decide)) (fun _ => ?_)
        refine lv_iconst (v := 1) hx hb dL_step_313 (by decide) ?_
        refine lv_goto (tgt := 318) hx hb dL_step_314 (by decide) ?_
        exact g_zretL hC hr hlocks hY hu hLI2 ⟨by show _ ≤ (40 : Nat); omega, by show _ ≤ (260 : Nat); omega⟩ dL_step_318
      · refine lv_ldc (v := 99999) hx hb hC.2.2.2.1 (hC.2.2.2.2 _ (by decide +kernel)) dL_step_297 ?_
        refine lv_goto (tgt := 305) hx hb dL_step_299 (by decide) ?_
        refine g_irem hx hb dL_step_305 (by decide) ?_
        refine lv_topi (fun v16 e16 => ?_)
        have q16 : v16.toInt = v9.toInt % 99999 := by rw [e16]; exact i_rmR rfl rfl (by omega)
        refine lv_iadd hx hb dL_step_306 ?_
        refine lv_topi (fun v17 e17 => ?_)
        have q17 : v17.toInt = 1 + v16.toInt := by rw [e17]; exact i_addR rfl rfl (by omega)
        refine gn_callL hY (g_runS (n := 8) hC (c_L_lets l G ad σ n τ hst hLI v2 v4 v8 v17 ⟨by omega, by omega⟩ ⟨by omega, by omega⟩ ⟨by omega, by omega⟩ ⟨by omega, by omega⟩ (by omega)) gL_step_L_lets rfl ⟨rfl, rfl⟩ (by decide +kernel) ⟨Nat.le_of_ble_eq_true rfl, Nat.le_of_ble_eq_true rfl⟩ hY rfl hl.1 rfl (Nat.le_of_ble_eq_true rfl) dL_step_307 ⟨by show _ ≤ (40 : Nat); omega, by show _ ≤ (260 : Nat); omega⟩) (fun u σ2 n2 τ2 H locs hu hLI2 hY => ?_)
        refine b_if_eq (tgt := 317) hx hb dL_step_310 (by decide) (fun h => absurd h (by decide)) (fun _ => ?_)
        refine lv_iconst (v := 1) hx hb dL_step_313 (by decide) ?_
        refine lv_goto (tgt := 318) hx hb dL_step_314 (by decide) ?_
        exact g_zretL hC hr hlocks hY hu hLI2 ⟨by show _ ≤ (40 : Nat); omega, by show _ ≤ (260 : Nat); omega⟩ dL_step_318
    · refine lv_sipush (v := 3000) hx hb dL_step_272 (by decide) ?_
      refine lv_goto (tgt := 281) hx hb dL_step_275 (by decide) ?_
      refine g_irem hx hb dL_step_281 (by decide) ?_
      refine lv_topi (fun v20 e20 => ?_)
      have q20 : v20.toInt = p7.toInt % 3000 := by rw [e20]; exact i_rmR rfl rfl (by omega)
      refine lv_iadd hx hb dL_step_282 ?_
      refine lv_topi (fun v21 e21 => ?_)
      have q21 : v21.toInt = 1 + v20.toInt := by rw [e21]; exact i_addR rfl rfl (by omega)
      refine lv_iconst (v := 1) hx hb dL_step_283 (by decide) ?_
      refine lv_iload hx hb dL_step_284 (lv_at hl 7 rfl) ?_
      refine lv_sipush (v := 3000) hx hb dL_step_286 (by decide) ?_
      refine lv_idiv hx hb dL_step_289 (by decide) ?_
      refine lv_topi (fun v22 e22 => ?_)
      have q22 : v22.toInt = p7.toInt / 3000 := by rw [e22]; exact i_divR rfl rfl (by omega)
      refine lv_iload hx hb dL_step_290 (lv_at hl 6 rfl) ?_
      refine lv_iconst (v := 2) hx hb dL_step_292 (by decide) ?_
      refine g_irem hx hb dL_step_293 (by decide) ?_
      refine lv_topi (fun v23 e23 => ?_)
      have q23 : v23.toInt = p6.toInt % 2 := by rw [e23]; exact i_rmR rfl rfl (by omega)
      refine b_if_ne (tgt := 302) hx hb dL_step_294 (by decide) (fun (hh24 : ¬ v23.toInt = 0) => ?_) (fun (hh24 : v23.toInt = 0) => ?_)
      · refine lv_sipush (v := 900) hx hb dL_step_302 (by decide) ?_
        refine g_irem hx hb dL_step_305 (by decide) ?_
        refine lv_topi (fun v25 e25 => ?_)
        have q25 : v25.toInt = v22.toInt % 900 := by rw [e25]; exact i_rmR rfl rfl (by omega)
        refine lv_iadd hx hb dL_step_306 ?_
        refine lv_topi (fun v26 e26 => ?_)
        have q26 : v26.toInt = 1 + v25.toInt := by rw [e26]; exact i_addR rfl rfl (by omega)
        refine gn_callL hY (g_runS (n := 8) hC (c_L_lets l G ad σ n τ hst hLI v2 v4 v21 v26 ⟨by omega, by omega⟩ ⟨by omega, by omega⟩ ⟨by omega, by omega⟩ ⟨by omega, by omega⟩ (by omega)) gL_step_L_lets rfl ⟨rfl, rfl⟩ (by decide +kernel) ⟨Nat.le_of_ble_eq_true rfl, Nat.le_of_ble_eq_true rfl⟩ hY rfl hl.1 rfl (Nat.le_of_ble_eq_true rfl) dL_step_307 ⟨by show _ ≤ (40 : Nat); omega, by show _ ≤ (260 : Nat); omega⟩) (fun u σ2 n2 τ2 H locs hu hLI2 hY => ?_)
        refine b_if_eq (tgt := 317) hx hb dL_step_310 (by decide) (fun h => absurd h (by decide)) (fun _ => ?_)
        refine lv_iconst (v := 1) hx hb dL_step_313 (by decide) ?_
        refine lv_goto (tgt := 318) hx hb dL_step_314 (by decide) ?_
        exact g_zretL hC hr hlocks hY hu hLI2 ⟨by show _ ≤ (40 : Nat); omega, by show _ ≤ (260 : Nat); omega⟩ dL_step_318
      · refine lv_ldc (v := 99999) hx hb hC.2.2.2.1 (hC.2.2.2.2 _ (by decide +kernel)) dL_step_297 ?_
        refine lv_goto (tgt := 305) hx hb dL_step_299 (by decide) ?_
        refine g_irem hx hb dL_step_305 (by decide) ?_
        refine lv_topi (fun v29 e29 => ?_)
        have q29 : v29.toInt = v22.toInt % 99999 := by rw [e29]; exact i_rmR rfl rfl (by omega)
        refine lv_iadd hx hb dL_step_306 ?_
        refine lv_topi (fun v30 e30 => ?_)
        have q30 : v30.toInt = 1 + v29.toInt := by rw [e30]; exact i_addR rfl rfl (by omega)
        refine gn_callL hY (g_runS (n := 8) hC (c_L_lets l G ad σ n τ hst hLI v2 v4 v21 v30 ⟨by omega, by omega⟩ ⟨by omega, by omega⟩ ⟨by omega, by omega⟩ ⟨by omega, by omega⟩ (by omega)) gL_step_L_lets rfl ⟨rfl, rfl⟩ (by decide +kernel) ⟨Nat.le_of_ble_eq_true rfl, Nat.le_of_ble_eq_true rfl⟩ hY rfl hl.1 rfl (Nat.le_of_ble_eq_true rfl) dL_step_307 ⟨by show _ ≤ (40 : Nat); omega, by show _ ≤ (260 : Nat); omega⟩) (fun u σ2 n2 τ2 H locs hu hLI2 hY => ?_)
        refine b_if_eq (tgt := 317) hx hb dL_step_310 (by decide) (fun h => absurd h (by decide)) (fun _ => ?_)
        refine lv_iconst (v := 1) hx hb dL_step_313 (by decide) ?_
        refine lv_goto (tgt := 318) hx hb dL_step_314 (by decide) ?_
        exact g_zretL hC hr hlocks hY hu hLI2 ⟨by show _ ≤ (40 : Nat); omega, by show _ ≤ (260 : Nat); omega⟩ dL_step_318

set_option maxHeartbeats 4000000 in
set_option maxRecDepth 100000 in
theorem s_c6z {p : Program} {e : Env} {s : State} {m : MethodId} {args : Array Value} {below : List Frame} {meth : Method} {c : Code} {H : Heap} {locs : List Loc} {ls : Array Slot} {G : GG} {ad : Nat → Nat} {σ : St} {n : Nat} {τ : St} (l : Launch) (hst : l.stackTraces = false) (hC : CallFix p m c cL_step 17 s args wsL_step RL) (hr : meth.sig.returnType = some .boolean) (hlocks : meth.locks = false) (hLI : LI σ n τ) {p5 p6 p7 p9 : Int32} (h5 : 0 ≤ p5.toInt) (h6 : 0 ≤ p6.toInt) (h7 : 0 ≤ p7.toInt) (hz : n = 0) (hz0 : p9.toInt = 0) (hY : SyS G ad σ n τ s H locs) (hl : lv_has ls 17 [(0, .ref (ad 0)), (1, .ref (ad 5)), (2, .ref (ad 6)), (3, .ref (ad 7)), (4, .ref (ad 8)), (5, .int p5), (6, .int p6), (7, .int p7), (8, .int (nI n)), (9, .int p9)]) : W p l e ({ frames := 10, cells := 40, slots := 260, locals := 230 }) s m args below meth c H locs 0 0 (MQ below (QL G ad) args s 40 260 (gF G)) (F0 m 319 ls []) := by
  have hx := hC.1
  have hb := hC.2.1
  have hI9 := hLI.1
  have hn24 := hLI.1.1
  have hok := hLI.1.2.2.2.1
  have hn12 := hLI.2.1
  have hnI : (nI n).toInt = (n : Int) := i_nI (by omega)
  have hixz : ((ix p9 : Nat) : Int) = p9.toInt := ix_toInt (by omega)
  refine lv_aload_n hx hb dL_step_319 rfl (lv_at hl 1 rfl) ?_
  refine lv_bipush (v := 12) hx hb dL_step_320 (by decide) ?_
  refine lv_iload hx hb dL_step_322 (lv_at hl 9 rfl) ?_
  refine lv_iadd hx hb dL_step_324 ?_
  refine rdN0 hC hY (12 + ix p9) (i_ixc (C := 12) rfl ⟨by omega, by omega⟩ (by decide)) (by omega) (v := τ 0 (12 + ix p9)) (rfl) dL_step_325 ?_
  refine lv_iconst (v := 1) hx hb dL_step_326 (by decide) ?_
  refine lv_iadd hx hb dL_step_327 ?_
  refine lv_iload hx hb dL_step_328 (lv_at hl 7 rfl) ?_
  refine lv_sipush (v := 900) hx hb dL_step_330 (by decide) ?_
  refine g_irem hx hb dL_step_333 (by decide) ?_
  refine lv_iadd hx hb dL_step_334 ?_
  refine lv_istore (lv' := [(12, .int (((τ 0 (12 + ix p9)) + 1) + (rmI p7 900))), (0, .ref (ad 0)), (1, .ref (ad 5)), (2, .ref (ad 6)), (3, .ref (ad 7)), (4, .ref (ad 8)), (5, .int p5), (6, .int p6), (7, .int p7), (8, .int (nI n)), (9, .int p9)]) hx hb dL_step_335 hl (by decide) rfl (fun ls hl => ?_)
  refine lv_iload hx hb dL_step_337 (lv_at hl 9 rfl) ?_
  refine b_if_eq (tgt := 354) hx hb dL_step_339 (by decide) (fun (hh1 : (nI n).toInt = 0) => ?_) (fun (hh1 : ¬ (nI n).toInt = 0) => absurd hh1 (by omega))
  refine lv_aload_n hx hb dL_step_354 rfl (lv_at hl 1 rfl) ?_
  refine g_calli hY (g_runV (n := 0) (q := (RX1, TX1, 5)) (r := 0) hC (c_X1_leases l G ad σ n τ ) gL_step_X1_leases rfl ⟨rfl, rfl⟩ (by decide +kernel) ⟨Nat.le_of_ble_eq_true rfl, Nat.le_of_ble_eq_true rfl⟩ hY (by omega) rfl (ci := 1) rfl rfl hl.1 rfl (Nat.le_of_ble_eq_true rfl) dL_step_355 ⟨by show _ ≤ (40 : Nat); omega, by show _ ≤ (260 : Nat); omega⟩) (fun r3 H locs hh2 hY => ?_)
  subst hh2
  refine lv_iload hx hb dL_step_358 (lv_at hl 9 rfl) ?_
  refine b_icmp_ne (tgt := 367) hx hb dL_step_360 (by decide) (fun h => absurd rfl h) (fun _ => ?_)
  refine lv_iconst (v := 1) hx hb dL_step_363 (by decide) ?_
  refine lv_goto (tgt := 368) hx hb dL_step_364 (by decide) ?_
  exact g_zretL hC hr hlocks hY (fun _ _ => rfl) (hLI) ⟨by show _ ≤ (40 : Nat); omega, by show _ ≤ (260 : Nat); omega⟩ dL_step_368

set_option maxHeartbeats 4000000 in
set_option maxRecDepth 100000 in
theorem s_c6 {p : Program} {e : Env} {s : State} {m : MethodId} {args : Array Value} {below : List Frame} {meth : Method} {c : Code} {H : Heap} {locs : List Loc} {ls : Array Slot} {G : GG} {ad : Nat → Nat} {σ : St} {n : Nat} {τ : St} (l : Launch) (hst : l.stackTraces = false) (hC : CallFix p m c cL_step 17 s args wsL_step RL) (hr : meth.sig.returnType = some .boolean) (hlocks : meth.locks = false) (hLI : LI σ n τ) {p5 p6 p7 p9 : Int32} (h5 : 0 ≤ p5.toInt) (h6 : 0 ≤ p6.toInt) (h7 : 0 ≤ p7.toInt) (hp : 0 ≤ p9.toInt ∧ p9.toInt < (n : Int)) (hY : SyS G ad σ n τ s H locs) (hl : lv_has ls 17 [(0, .ref (ad 0)), (1, .ref (ad 5)), (2, .ref (ad 6)), (3, .ref (ad 7)), (4, .ref (ad 8)), (5, .int p5), (6, .int p6), (7, .int p7), (8, .int (nI n)), (9, .int p9)]) : W p l e ({ frames := 10, cells := 40, slots := 260, locals := 230 }) s m args below meth c H locs 0 0 (MQ below (QL G ad) args s 40 260 (gF G)) (F0 m 319 ls []) := by
  have hx := hC.1
  have hb := hC.2.1
  have hI9 := hLI.1
  have hn24 := hLI.1.1
  have hok := hLI.1.2.2.2.1
  have hn12 := hLI.2.1
  have hnI : (nI n).toInt = (n : Int) := i_nI (by omega)
  have hk : ix p9 < n := ix_lt hp
  obtain ⟨r1, r2, r3, r4, r5, r6, r7, r8, r9⟩ := hLI.2.2.2.2.1 (ix p9) hk
  obtain ⟨s1, s2, s3⟩ := hLI.2.2.2.2.2.2.1 (ix p9) hk
  have hL := hok (ix p9) hk
  obtain ⟨f0, ⟨f1, f2, f3⟩, ⟨f4, f5⟩, ⟨f6, f7⟩, f8, ⟨f9, f10⟩, ⟨f11, f12⟩, ⟨f13, f14⟩, -⟩ := id hL
  refine lv_aload_n hx hb dL_step_319 rfl (lv_at hl 1 rfl) ?_
  refine lv_bipush (v := 12) hx hb dL_step_320 (by decide) ?_
  refine lv_iload hx hb dL_step_322 (lv_at hl 9 rfl) ?_
  refine lv_iadd hx hb dL_step_324 ?_
  refine rdN0 hC hY (12 + ix p9) (i_ixc (C := 12) rfl ⟨by omega, by omega⟩ (by decide)) (by omega) (v := σ 4 (ix p9)) (r2) dL_step_325 ?_
  refine lv_iconst (v := 1) hx hb dL_step_326 (by decide) ?_
  refine lv_iadd hx hb dL_step_327 ?_
  refine lv_topi (fun v1 e1 => ?_)
  have q1 : v1.toInt = (σ 4 (ix p9)).toInt + 1 := by rw [e1]; exact i_addR rfl rfl (by omega)
  refine lv_iload hx hb dL_step_328 (lv_at hl 7 rfl) ?_
  refine lv_sipush (v := 900) hx hb dL_step_330 (by decide) ?_
  refine g_irem hx hb dL_step_333 (by decide) ?_
  refine lv_topi (fun v2 e2 => ?_)
  have q2 : v2.toInt = p7.toInt % 900 := by rw [e2]; exact i_rmR rfl rfl (by omega)
  refine lv_iadd hx hb dL_step_334 ?_
  refine lv_topi (fun v3 e3 => ?_)
  have q3 : v3.toInt = v1.toInt + v2.toInt := by rw [e3]; exact i_addR rfl rfl (by omega)
  refine lv_istore (lv' := [(12, .int v3), (0, .ref (ad 0)), (1, .ref (ad 5)), (2, .ref (ad 6)), (3, .ref (ad 7)), (4, .ref (ad 8)), (5, .int p5), (6, .int p6), (7, .int p7), (8, .int (nI n)), (9, .int p9)]) hx hb dL_step_335 hl (by decide) rfl (fun ls hl => ?_)
  refine lv_iload hx hb dL_step_337 (lv_at hl 9 rfl) ?_
  refine b_if_eq (tgt := 354) hx hb dL_step_339 (by decide) (fun (hh4 : (nI n).toInt = 0) => absurd hh4 (by omega)) (fun (hh4 : ¬ (nI n).toInt = 0) => ?_)
  refine lv_iload hx hb dL_step_342 (lv_at hl 0 rfl) ?_
  refine lv_aload_n hx hb dL_step_344 rfl (lv_at hl 2 rfl) ?_
  refine lv_bipush (v := 24) hx hb dL_step_345 (by decide) ?_
  refine lv_iload hx hb dL_step_347 (lv_at hl 10 rfl) ?_
  refine lv_iadd hx hb dL_step_349 ?_
  refine rdN0 hC hY (24 + ix p9) (i_ixc (C := 24) rfl ⟨by omega, by omega⟩ (by decide)) (by omega) (v := σ 5 (ix p9)) (r3) dL_step_350 ?_
  refine b_icmp_lt (tgt := 369) hx hb dL_step_351 (by decide) (fun (hh5 : v3.toInt < (σ 5 (ix p9)).toInt) => ?_) (fun (hh5 : (σ 5 (ix p9)).toInt ≤ v3.toInt) => ?_)
  · refine lv_aload_n hx hb dL_step_369 rfl (lv_at hl 2 rfl) ?_
    refine lv_bipush (v := 24) hx hb dL_step_370 (by decide) ?_
    refine lv_iload hx hb dL_step_372 (lv_at hl 10 rfl) ?_
    refine lv_iadd hx hb dL_step_374 ?_
    refine rdN0 hC hY (24 + ix p9) (i_ixc (C := 24) rfl ⟨by omega, by omega⟩ (by decide)) (by omega) (v := σ 5 (ix p9)) (r3) dL_step_375 ?_
    refine lv_istore (lv' := [(13, .int (σ 5 (ix p9))), (12, .int v3), (0, .ref (ad 0)), (1, .ref (ad 5)), (2, .ref (ad 6)), (3, .ref (ad 7)), (4, .ref (ad 8)), (5, .int p5), (6, .int p6), (7, .int p7), (8, .int (nI n)), (9, .int p9)]) hx hb dL_step_376 hl (by decide) rfl (fun ls hl => ?_)
    refine lv_aload_n hx hb dL_step_378 rfl (lv_at hl 3 rfl) ?_
    refine lv_bipush (v := 24) hx hb dL_step_379 (by decide) ?_
    refine lv_iload hx hb dL_step_381 (lv_at hl 11 rfl) ?_
    refine lv_iadd hx hb dL_step_383 ?_
    refine lv_iload hx hb dL_step_384 (lv_at hl 1 rfl) ?_
    refine wrN0 hC hY (24 + ix p9) (i_ixc (C := 24) rfl ⟨by omega, by omega⟩ (by decide)) (by omega) dL_step_386 (fun H locs hY => ?_)
    refine lv_aload_n hx hb dL_step_387 rfl (lv_at hl 2 rfl) ?_
    refine lv_iload hx hb dL_step_388 (lv_at hl 11 rfl) ?_
    refine lv_iload hx hb dL_step_390 (lv_at hl 1 rfl) ?_
    refine gn_calli hY (gx_runV (n := 2) (q := (RX1, TX1, 5)) (r := 0) hC (c_X1_end l G ad σ n (us τ 0 (24 + ix p9) v3) hst hn24 hok p9 v3) gL_step_X1_end rfl ⟨rfl, rfl⟩ (by decide +kernel) ⟨Nat.le_of_ble_eq_true rfl, Nat.le_of_ble_eq_true rfl⟩ hY (by omega) rfl (ci := 1) rfl rfl hl.1 rfl (Nat.le_of_ble_eq_true rfl) dL_step_392 ⟨by show _ ≤ (40 : Nat); omega, by show _ ≤ (260 : Nat); omega⟩) (exC_0 (cdEnd_0 ⟨by omega, by omega⟩ ⟨by omega, by omega⟩)) (fun r7 H locs hh6 hY => ?_)
    obtain ⟨-, rfl⟩ := hh6
    have hI2 : Inv (us σ 5 (ix p9) v3) n := inv_end hI9 (cdEnd_0 ⟨by omega, by omega⟩ ⟨by omega, by omega⟩)
    refine lv_iload hx hb dL_step_395 (lv_at hl 0 rfl) ?_
    refine b_icmp_ne (tgt := 415) hx hb dL_step_397 (by decide) (fun h => absurd rfl h) (fun _ => ?_)
    refine lv_aload_n hx hb dL_step_400 rfl (lv_at hl 2 rfl) ?_
    refine lv_iload hx hb dL_step_401 (lv_at hl 11 rfl) ?_
    refine lv_iload hx hb dL_step_403 (lv_at hl 1 rfl) ?_
    refine gn_calli hY (gx_runV (n := 2) (q := (RX1, TX1, 5)) (r := 0) hC (c_X1_rentOn l G ad (us σ 5 (ix p9) v3) n (us τ 0 (24 + ix p9) v3) hst hn24 hI2.2.2.2.1 p9 v3) gL_step_X1_rentOn rfl ⟨rfl, rfl⟩ (by decide +kernel) ⟨Nat.le_of_ble_eq_true rfl, Nat.le_of_ble_eq_true rfl⟩ hY (by omega) rfl (ci := 1) rfl rfl hl.1 rfl (Nat.le_of_ble_eq_true rfl) dL_step_405 ⟨by show _ ≤ (40 : Nat); omega, by show _ ≤ (260 : Nat); omega⟩) (exC_0 (cdLX_0 ⟨by omega, by omega⟩ ⟨by omega, by omega⟩)) (fun r9 H locs hh8 hY => ?_)
    obtain ⟨-, rfl⟩ := hh8
    refine b_if_ne (tgt := 415) hx hb dL_step_408 (by decide) (fun (hh10 : ¬ (rfF (us σ 5 (ix p9) v3) (ix p9) v3).toInt = 0) => absurd hh10 (by exact fun q => q (by rw [rf_no (fun z => by have z1 := z.1; unfold rOn at z1; rw [us_eq] at z1; omega)]; rfl))) (fun (hh10 : (rfF (us σ 5 (ix p9) v3) (ix p9) v3).toInt = 0) => ?_)
    refine lv_iconst (v := 1) hx hb dL_step_411 (by decide) ?_
    refine lv_goto (tgt := 416) hx hb dL_step_412 (by decide) ?_
    exact g_zretL hC hr hlocks hY (fun _ _ => rfl) (li_1 hLI hk ⟨by decide, by decide, by decide, by decide⟩ (Or.inl ⟨rfl, rfl, rfl⟩) hI2 (fun h => absurd h (by decide))) ⟨by show _ ≤ (40 : Nat); omega, by show _ ≤ (260 : Nat); omega⟩ dL_step_416
  · refine lv_aload_n hx hb dL_step_354 rfl (lv_at hl 1 rfl) ?_
    refine g_calli hY (g_runV (n := 0) (q := (RX1, TX1, 5)) (r := 0) hC (c_X1_leases l G ad σ n τ ) gL_step_X1_leases rfl ⟨rfl, rfl⟩ (by decide +kernel) ⟨Nat.le_of_ble_eq_true rfl, Nat.le_of_ble_eq_true rfl⟩ hY (by omega) rfl (ci := 1) rfl rfl hl.1 rfl (Nat.le_of_ble_eq_true rfl) dL_step_355 ⟨by show _ ≤ (40 : Nat); omega, by show _ ≤ (260 : Nat); omega⟩) (fun r12 H locs hh11 hY => ?_)
    subst hh11
    refine lv_iload hx hb dL_step_358 (lv_at hl 9 rfl) ?_
    refine b_icmp_ne (tgt := 367) hx hb dL_step_360 (by decide) (fun h => absurd rfl h) (fun _ => ?_)
    refine lv_iconst (v := 1) hx hb dL_step_363 (by decide) ?_
    refine lv_goto (tgt := 368) hx hb dL_step_364 (by decide) ?_
    exact g_zretL hC hr hlocks hY (fun _ _ => rfl) (hLI) ⟨by show _ ≤ (40 : Nat); omega, by show _ ≤ (260 : Nat); omega⟩ dL_step_368

set_option maxHeartbeats 4000000 in
set_option maxRecDepth 100000 in
theorem s_c7z {p : Program} {e : Env} {s : State} {m : MethodId} {args : Array Value} {below : List Frame} {meth : Method} {c : Code} {H : Heap} {locs : List Loc} {ls : Array Slot} {G : GG} {ad : Nat → Nat} {σ : St} {n : Nat} {τ : St} (l : Launch) (hst : l.stackTraces = false) (hC : CallFix p m c cL_step 17 s args wsL_step RL) (hr : meth.sig.returnType = some .boolean) (hlocks : meth.locks = false) (hLI : LI σ n τ) {p5 p6 p7 p9 : Int32} (h5 : 0 ≤ p5.toInt) (h6 : 0 ≤ p6.toInt) (h7 : 0 ≤ p7.toInt) (hz : n = 0) (hz0 : p9.toInt = 0) (hY : SyS G ad σ n τ s H locs) (hl : lv_has ls 17 [(0, .ref (ad 0)), (1, .ref (ad 5)), (2, .ref (ad 6)), (3, .ref (ad 7)), (4, .ref (ad 8)), (5, .int p5), (6, .int p6), (7, .int p7), (8, .int (nI n)), (9, .int p9)]) : W p l e ({ frames := 10, cells := 40, slots := 260, locals := 230 }) s m args below meth c H locs 0 0 (MQ below (QL G ad) args s 40 260 (gF G)) (F0 m 417 ls []) := by
  have hx := hC.1
  have hb := hC.2.1
  have hI9 := hLI.1
  have hn24 := hLI.1.1
  have hok := hLI.1.2.2.2.1
  have hn12 := hLI.2.1
  have hnI : (nI n).toInt = (n : Int) := i_nI (by omega)
  have hixz : ((ix p9 : Nat) : Int) = p9.toInt := ix_toInt (by omega)
  refine lv_aload_n hx hb dL_step_417 rfl (lv_at hl 1 rfl) ?_
  refine lv_bipush (v := 12) hx hb dL_step_418 (by decide) ?_
  refine lv_iload hx hb dL_step_420 (lv_at hl 9 rfl) ?_
  refine lv_iadd hx hb dL_step_422 ?_
  refine rdN0 hC hY (12 + ix p9) (i_ixc (C := 12) rfl ⟨by omega, by omega⟩ (by decide)) (by omega) (v := τ 0 (12 + ix p9)) (rfl) dL_step_423 ?_
  refine lv_iconst (v := 1) hx hb dL_step_424 (by decide) ?_
  refine lv_iadd hx hb dL_step_425 ?_
  refine lv_iload hx hb dL_step_426 (lv_at hl 7 rfl) ?_
  refine lv_sipush (v := 700) hx hb dL_step_428 (by decide) ?_
  refine g_irem hx hb dL_step_431 (by decide) ?_
  refine lv_iadd hx hb dL_step_432 ?_
  refine lv_istore (lv' := [(14, .int (((τ 0 (12 + ix p9)) + 1) + (rmI p7 700))), (0, .ref (ad 0)), (1, .ref (ad 5)), (2, .ref (ad 6)), (3, .ref (ad 7)), (4, .ref (ad 8)), (5, .int p5), (6, .int p6), (7, .int p7), (8, .int (nI n)), (9, .int p9)]) hx hb dL_step_433 hl (by decide) rfl (fun ls hl => ?_)
  refine lv_iload hx hb dL_step_435 (lv_at hl 9 rfl) ?_
  refine b_if_eq (tgt := 465) hx hb dL_step_437 (by decide) (fun (hh1 : (nI n).toInt = 0) => ?_) (fun (hh1 : ¬ (nI n).toInt = 0) => absurd hh1 (by omega))
  refine lv_aload_n hx hb dL_step_465 rfl (lv_at hl 1 rfl) ?_
  refine g_calli hY (g_runV (n := 0) (q := (RX1, TX1, 5)) (r := 0) hC (c_X1_leases l G ad σ n τ ) gL_step_X1_leases rfl ⟨rfl, rfl⟩ (by decide +kernel) ⟨Nat.le_of_ble_eq_true rfl, Nat.le_of_ble_eq_true rfl⟩ hY (by omega) rfl (ci := 1) rfl rfl hl.1 rfl (Nat.le_of_ble_eq_true rfl) dL_step_466 ⟨by show _ ≤ (40 : Nat); omega, by show _ ≤ (260 : Nat); omega⟩) (fun r3 H locs hh2 hY => ?_)
  subst hh2
  refine lv_iload hx hb dL_step_469 (lv_at hl 9 rfl) ?_
  refine b_icmp_ne (tgt := 478) hx hb dL_step_471 (by decide) (fun h => absurd rfl h) (fun _ => ?_)
  refine lv_iconst (v := 1) hx hb dL_step_474 (by decide) ?_
  refine lv_goto (tgt := 479) hx hb dL_step_475 (by decide) ?_
  exact g_zretL hC hr hlocks hY (fun _ _ => rfl) (hLI) ⟨by show _ ≤ (40 : Nat); omega, by show _ ≤ (260 : Nat); omega⟩ dL_step_479

set_option maxHeartbeats 4000000 in
set_option maxRecDepth 100000 in
theorem s_c7 {p : Program} {e : Env} {s : State} {m : MethodId} {args : Array Value} {below : List Frame} {meth : Method} {c : Code} {H : Heap} {locs : List Loc} {ls : Array Slot} {G : GG} {ad : Nat → Nat} {σ : St} {n : Nat} {τ : St} (l : Launch) (hst : l.stackTraces = false) (hC : CallFix p m c cL_step 17 s args wsL_step RL) (hr : meth.sig.returnType = some .boolean) (hlocks : meth.locks = false) (hLI : LI σ n τ) {p5 p6 p7 p9 : Int32} (h5 : 0 ≤ p5.toInt) (h6 : 0 ≤ p6.toInt) (h7 : 0 ≤ p7.toInt) (hp : 0 ≤ p9.toInt ∧ p9.toInt < (n : Int)) (hY : SyS G ad σ n τ s H locs) (hl : lv_has ls 17 [(0, .ref (ad 0)), (1, .ref (ad 5)), (2, .ref (ad 6)), (3, .ref (ad 7)), (4, .ref (ad 8)), (5, .int p5), (6, .int p6), (7, .int p7), (8, .int (nI n)), (9, .int p9)]) : W p l e ({ frames := 10, cells := 40, slots := 260, locals := 230 }) s m args below meth c H locs 0 0 (MQ below (QL G ad) args s 40 260 (gF G)) (F0 m 417 ls []) := by
  have hx := hC.1
  have hb := hC.2.1
  have hI9 := hLI.1
  have hn24 := hLI.1.1
  have hok := hLI.1.2.2.2.1
  have hn12 := hLI.2.1
  have hnI : (nI n).toInt = (n : Int) := i_nI (by omega)
  have hk : ix p9 < n := ix_lt hp
  obtain ⟨r1, r2, r3, r4, r5, r6, r7, r8, r9⟩ := hLI.2.2.2.2.1 (ix p9) hk
  obtain ⟨s1, s2, s3⟩ := hLI.2.2.2.2.2.2.1 (ix p9) hk
  have hL := hok (ix p9) hk
  obtain ⟨f0, ⟨f1, f2, f3⟩, ⟨f4, f5⟩, ⟨f6, f7⟩, f8, ⟨f9, f10⟩, ⟨f11, f12⟩, ⟨f13, f14⟩, -⟩ := id hL
  refine lv_aload_n hx hb dL_step_417 rfl (lv_at hl 1 rfl) ?_
  refine lv_bipush (v := 12) hx hb dL_step_418 (by decide) ?_
  refine lv_iload hx hb dL_step_420 (lv_at hl 9 rfl) ?_
  refine lv_iadd hx hb dL_step_422 ?_
  refine rdN0 hC hY (12 + ix p9) (i_ixc (C := 12) rfl ⟨by omega, by omega⟩ (by decide)) (by omega) (v := σ 4 (ix p9)) (r2) dL_step_423 ?_
  refine lv_iconst (v := 1) hx hb dL_step_424 (by decide) ?_
  refine lv_iadd hx hb dL_step_425 ?_
  refine lv_topi (fun v1 e1 => ?_)
  have q1 : v1.toInt = (σ 4 (ix p9)).toInt + 1 := by rw [e1]; exact i_addR rfl rfl (by omega)
  refine lv_iload hx hb dL_step_426 (lv_at hl 7 rfl) ?_
  refine lv_sipush (v := 700) hx hb dL_step_428 (by decide) ?_
  refine g_irem hx hb dL_step_431 (by decide) ?_
  refine lv_topi (fun v2 e2 => ?_)
  have q2 : v2.toInt = p7.toInt % 700 := by rw [e2]; exact i_rmR rfl rfl (by omega)
  refine lv_iadd hx hb dL_step_432 ?_
  refine lv_topi (fun v3 e3 => ?_)
  have q3 : v3.toInt = v1.toInt + v2.toInt := by rw [e3]; exact i_addR rfl rfl (by omega)
  refine lv_istore (lv' := [(14, .int v3), (0, .ref (ad 0)), (1, .ref (ad 5)), (2, .ref (ad 6)), (3, .ref (ad 7)), (4, .ref (ad 8)), (5, .int p5), (6, .int p6), (7, .int p7), (8, .int (nI n)), (9, .int p9)]) hx hb dL_step_433 hl (by decide) rfl (fun ls hl => ?_)
  refine lv_iload hx hb dL_step_435 (lv_at hl 9 rfl) ?_
  refine b_if_eq (tgt := 465) hx hb dL_step_437 (by decide) (fun (hh4 : (nI n).toInt = 0) => absurd hh4 (by omega)) (fun (hh4 : ¬ (nI n).toInt = 0) => ?_)
  refine lv_iload hx hb dL_step_440 (lv_at hl 0 rfl) ?_
  refine lv_aload_n hx hb dL_step_442 rfl (lv_at hl 2 rfl) ?_
  refine lv_bipush (v := 24) hx hb dL_step_443 (by decide) ?_
  refine lv_iload hx hb dL_step_445 (lv_at hl 10 rfl) ?_
  refine lv_iadd hx hb dL_step_447 ?_
  refine rdN0 hC hY (24 + ix p9) (i_ixc (C := 24) rfl ⟨by omega, by omega⟩ (by decide)) (by omega) (v := σ 5 (ix p9)) (r3) dL_step_448 ?_
  refine b_icmp_ge (tgt := 465) hx hb dL_step_449 (by decide) (fun (hh5 : (σ 5 (ix p9)).toInt ≤ v3.toInt) => ?_) (fun (hh5 : v3.toInt < (σ 5 (ix p9)).toInt) => ?_)
  · refine lv_aload_n hx hb dL_step_465 rfl (lv_at hl 1 rfl) ?_
    refine g_calli hY (g_runV (n := 0) (q := (RX1, TX1, 5)) (r := 0) hC (c_X1_leases l G ad σ n τ ) gL_step_X1_leases rfl ⟨rfl, rfl⟩ (by decide +kernel) ⟨Nat.le_of_ble_eq_true rfl, Nat.le_of_ble_eq_true rfl⟩ hY (by omega) rfl (ci := 1) rfl rfl hl.1 rfl (Nat.le_of_ble_eq_true rfl) dL_step_466 ⟨by show _ ≤ (40 : Nat); omega, by show _ ≤ (260 : Nat); omega⟩) (fun r7 H locs hh6 hY => ?_)
    subst hh6
    refine lv_iload hx hb dL_step_469 (lv_at hl 9 rfl) ?_
    refine b_icmp_ne (tgt := 478) hx hb dL_step_471 (by decide) (fun h => absurd rfl h) (fun _ => ?_)
    refine lv_iconst (v := 1) hx hb dL_step_474 (by decide) ?_
    refine lv_goto (tgt := 479) hx hb dL_step_475 (by decide) ?_
    exact g_zretL hC hr hlocks hY (fun _ _ => rfl) (hLI) ⟨by show _ ≤ (40 : Nat); omega, by show _ ≤ (260 : Nat); omega⟩ dL_step_479
  · refine lv_aload hx hb dL_step_452 (lv_at hl 5 rfl) ?_
    refine lv_bipush (v := 12) hx hb dL_step_454 (by decide) ?_
    refine lv_iload hx hb dL_step_456 (lv_at hl 10 rfl) ?_
    refine lv_iadd hx hb dL_step_458 ?_
    refine rdN3 hC hY (12 + ix p9) (i_ixc (C := 12) rfl ⟨by omega, by omega⟩ (by decide)) (by omega) (v := σ 12 (ix p9)) (r8) dL_step_459 ?_
    refine lv_bipush (v := 6) hx hb dL_step_460 (by decide) ?_
    refine b_icmp_ne (tgt := 480) hx hb dL_step_462 (by decide) (fun (hh8 : ¬ (σ 12 (ix p9)).toInt = 6) => ?_) (fun (hh8 : (σ 12 (ix p9)).toInt = 6) => ?_)
    · have hpl : plF σ (ix p9) v3 < 6 := pl_6 hL (by omega)
      refine lv_aload_n hx hb dL_step_480 rfl (lv_at hl 1 rfl) ?_
      refine lv_iload hx hb dL_step_481 (lv_at hl 10 rfl) ?_
      refine lv_iload hx hb dL_step_483 (lv_at hl 0 rfl) ?_
      refine lv_iconst (v := 1) hx hb dL_step_485 (by decide) ?_
      refine lv_iload hx hb dL_step_486 (lv_at hl 8 rfl) ?_
      refine lv_sipush (v := 700) hx hb dL_step_488 (by decide) ?_
      refine lv_idiv hx hb dL_step_491 (by decide) ?_
      refine lv_topi (fun v9 e9 => ?_)
      have q9 : v9.toInt = p7.toInt / 700 := by rw [e9]; exact i_divR rfl rfl (by omega)
      refine lv_ldc (v := 99999) hx hb hC.2.2.2.1 (hC.2.2.2.2 _ (by decide +kernel)) dL_step_492 ?_
      refine g_irem hx hb dL_step_494 (by decide) ?_
      refine lv_topi (fun v10 e10 => ?_)
      have q10 : v10.toInt = v9.toInt % 99999 := by rw [e10]; exact i_rmR rfl rfl (by omega)
      refine lv_iadd hx hb dL_step_495 ?_
      refine lv_topi (fun v11 e11 => ?_)
      have q11 : v11.toInt = 1 + v10.toInt := by rw [e11]; exact i_addR rfl rfl (by omega)
      refine gn_calli hY (gx_runV (n := 3) (q := (RX1, TX1, 5)) (r := 0) hC (c_X1_step l G ad σ n τ hst hn24 hok p9 v3 v11) gL_step_X1_step rfl ⟨rfl, rfl⟩ (by decide +kernel) ⟨Nat.le_of_ble_eq_true rfl, Nat.le_of_ble_eq_true rfl⟩ hY (by omega) rfl (ci := 1) rfl rfl hl.1 rfl (Nat.le_of_ble_eq_true rfl) dL_step_496 ⟨by show _ ≤ (40 : Nat); omega, by show _ ≤ (260 : Nat); omega⟩) (exC_0 (cdStep_0 ⟨by omega, by omega⟩ ⟨by omega, by omega⟩ ⟨by omega, by omega⟩ hpl)) (fun r13 H locs hh12 hY => ?_)
      obtain ⟨-, rfl⟩ := hh12
      have hps := ps_int (r := v11) hL hpl
      have hI2 : Inv (psS σ (ix p9) v3 v11) n := inv_step hI9 (cdStep_0 ⟨by omega, by omega⟩ ⟨by omega, by omega⟩ ⟨by omega, by omega⟩ hpl)
      refine lv_istore (lv' := [(15, .int (psS σ (ix p9) v3 v11 12 (ix p9))), (14, .int v3), (0, .ref (ad 0)), (1, .ref (ad 5)), (2, .ref (ad 6)), (3, .ref (ad 7)), (4, .ref (ad 8)), (5, .int p5), (6, .int p6), (7, .int p7), (8, .int (nI n)), (9, .int p9)]) hx hb dL_step_499 hl (by decide) rfl (fun ls hl => ?_)
      refine lv_iload hx hb dL_step_501 (lv_at hl 0 rfl) ?_
      refine lv_aload hx hb dL_step_503 (lv_at hl 6 rfl) ?_
      refine lv_bipush (v := 12) hx hb dL_step_505 (by decide) ?_
      refine lv_iload hx hb dL_step_507 (lv_at hl 11 rfl) ?_
      refine lv_iadd hx hb dL_step_509 ?_
      refine rdN3 hC hY (12 + ix p9) (i_ixc (C := 12) rfl ⟨by omega, by omega⟩ (by decide)) (by omega) (v := σ 12 (ix p9)) (r8) dL_step_510 ?_
      refine b_icmp_eq (tgt := 529) hx hb dL_step_511 (by decide) (fun (hh14 : (psS σ (ix p9) v3 v11 12 (ix p9)).toInt = (σ 12 (ix p9)).toInt) => ?_) (fun (hh14 : ¬ (psS σ (ix p9) v3 v11 12 (ix p9)).toInt = (σ 12 (ix p9)).toInt) => ?_)
      · refine lv_iconst (v := 1) hx hb dL_step_529 (by decide) ?_
        refine lv_goto (tgt := 534) hx hb dL_step_530 (by decide) ?_
        refine lv_istore (lv' := [(16, .int 1), (15, .int (psS σ (ix p9) v3 v11 12 (ix p9))), (14, .int v3), (0, .ref (ad 0)), (1, .ref (ad 5)), (2, .ref (ad 6)), (3, .ref (ad 7)), (4, .ref (ad 8)), (5, .int p5), (6, .int p6), (7, .int p7), (8, .int (nI n)), (9, .int p9)]) hx hb dL_step_534 hl (by decide) rfl (fun ls hl => ?_)
        refine lv_aload hx hb dL_step_536 (lv_at hl 7 rfl) ?_
        refine lv_bipush (v := 12) hx hb dL_step_538 (by decide) ?_
        refine lv_iload hx hb dL_step_540 (lv_at hl 12 rfl) ?_
        refine lv_iadd hx hb dL_step_542 ?_
        refine lv_iload hx hb dL_step_543 (lv_at hl 1 rfl) ?_
        refine wrN3 hC hY (12 + ix p9) (i_ixc (C := 12) rfl ⟨by omega, by omega⟩ (by decide)) (by omega) dL_step_545 (fun H locs hY => ?_)
        refine lv_iload hx hb dL_step_546 (lv_at hl 0 rfl) ?_
        refine b_if_eq (tgt := 595) hx hb dL_step_548 (by decide) (fun h => absurd h (by decide)) (fun _ => ?_)
        refine lv_iload hx hb dL_step_551 (lv_at hl 2 rfl) ?_
        refine lv_aload_n hx hb dL_step_553 rfl (lv_at hl 4 rfl) ?_
        refine lv_bipush (v := 12) hx hb dL_step_554 (by decide) ?_
        refine lv_iload hx hb dL_step_556 (lv_at hl 12 rfl) ?_
        refine lv_iadd hx hb dL_step_558 ?_
        refine rdN0 hC hY (12 + ix p9) (i_ixc (C := 12) rfl ⟨by omega, by omega⟩ (by decide)) (by omega) (v := σ 4 (ix p9)) (by rw [us_ne (by omega)]; exact r2) dL_step_559 ?_
        refine lv_aload hx hb dL_step_560 (lv_at hl 7 rfl) ?_
        refine lv_iload hx hb dL_step_562 (lv_at hl 12 rfl) ?_
        refine rdN3 hC hY (ix p9) (ix_of (by omega)) (by omega) (v := σ 7 (ix p9)) (by rw [us_ne (by omega)]; exact r7) dL_step_564 ?_
        refine lv_iadd hx hb dL_step_565 ?_
        refine lv_topi (fun v16 e16 => ?_)
        have q16 : v16.toInt = (σ 4 (ix p9)).toInt + (σ 7 (ix p9)).toInt := by rw [e16]; exact i_addR rfl rfl (by omega)
        refine b_icmp_lt (tgt := 591) hx hb dL_step_566 (by decide) (fun (hh17 : v3.toInt < v16.toInt) => ?_) (fun (hh17 : v16.toInt ≤ v3.toInt) => ?_)
        · refine lv_iconst (v := 1) hx hb dL_step_591 (by decide) ?_
          refine lv_goto (tgt := 596) hx hb dL_step_592 (by decide) ?_
          exact g_zretL hC hr hlocks hY (fun _ _ => rfl) (li_step hLI hk hpl ⟨by omega, by omega⟩ hI2) ⟨by show _ ≤ (40 : Nat); omega, by show _ ≤ (260 : Nat); omega⟩ dL_step_596
        · refine lv_aload_n hx hb dL_step_569 rfl (lv_at hl 3 rfl) ?_
          refine lv_iload hx hb dL_step_570 (lv_at hl 12 rfl) ?_
          refine lv_iload hx hb dL_step_572 (lv_at hl 2 rfl) ?_
          refine gn_calli hY (gx_runV (n := 2) (q := (RX1, TX1, 5)) (r := 0) hC (c_X1_rentOn l G ad (psS σ (ix p9) v3 v11) n (us τ 3 (12 + ix p9) (psS σ (ix p9) v3 v11 12 (ix p9))) hst hn24 hI2.2.2.2.1 p9 v3) gL_step_X1_rentOn rfl ⟨rfl, rfl⟩ (by decide +kernel) ⟨Nat.le_of_ble_eq_true rfl, Nat.le_of_ble_eq_true rfl⟩ hY (by omega) rfl (ci := 1) rfl rfl hl.1 rfl (Nat.le_of_ble_eq_true rfl) dL_step_574 ⟨by show _ ≤ (40 : Nat); omega, by show _ ≤ (260 : Nat); omega⟩) (exC_0 (cdLX_0 ⟨by omega, by omega⟩ ⟨by omega, by omega⟩)) (fun r19 H locs hh18 hY => ?_)
          obtain ⟨-, rfl⟩ := hh18
          refine lv_iconst (v := 1) hx hb dL_step_577 (by decide) ?_
          refine lv_iload hx hb dL_step_578 (lv_at hl 10 rfl) ?_
          refine lv_sipush (v := 700) hx hb dL_step_580 (by decide) ?_
          refine lv_idiv hx hb dL_step_583 (by decide) ?_
          refine g_top (y := v9) e9.symm ?_
          refine lv_ldc (v := 99999) hx hb hC.2.2.2.1 (hC.2.2.2.2 _ (by decide +kernel)) dL_step_584 ?_
          refine g_irem hx hb dL_step_586 (by decide) ?_
          refine g_top (y := v10) e10.symm ?_
          refine lv_iadd hx hb dL_step_587 ?_
          refine g_top (y := v11) e11.symm ?_
          refine b_icmp_lt (tgt := 595) hx hb dL_step_588 (by decide) (fun (hh20 : (rfF (psS σ (ix p9) v3 v11) (ix p9) v3).toInt < v11.toInt) => absurd hh20 (by have z := step_rent hI9 hk s1 hpl ⟨by omega, by omega⟩ hI2 ⟨by omega, by omega⟩ (by rw [← e16]; omega); omega)) (fun (hh20 : v11.toInt ≤ (rfF (psS σ (ix p9) v3 v11) (ix p9) v3).toInt) => ?_)
          refine lv_iconst (v := 1) hx hb dL_step_591 (by decide) ?_
          refine lv_goto (tgt := 596) hx hb dL_step_592 (by decide) ?_
          exact g_zretL hC hr hlocks hY (fun _ _ => rfl) (li_step hLI hk hpl ⟨by omega, by omega⟩ hI2) ⟨by show _ ≤ (40 : Nat); omega, by show _ ≤ (260 : Nat); omega⟩ dL_step_596
      · refine lv_iload hx hb dL_step_514 (lv_at hl 0 rfl) ?_
        refine lv_aload hx hb dL_step_516 (lv_at hl 6 rfl) ?_
        refine lv_bipush (v := 12) hx hb dL_step_518 (by decide) ?_
        refine lv_iload hx hb dL_step_520 (lv_at hl 11 rfl) ?_
        refine lv_iadd hx hb dL_step_522 ?_
        refine rdN3 hC hY (12 + ix p9) (i_ixc (C := 12) rfl ⟨by omega, by omega⟩ (by decide)) (by omega) (v := σ 12 (ix p9)) (r8) dL_step_523 ?_
        refine lv_iconst (v := 1) hx hb dL_step_524 (by decide) ?_
        refine lv_iadd hx hb dL_step_525 ?_
        refine b_icmp_ne (tgt := 533) hx hb dL_step_526 (by decide) (fun (hh21 : ¬ (psS σ (ix p9) v3 v11 12 (ix p9)).toInt = ((σ 12 (ix p9)) + 1).toInt) => absurd hh21 (by exact fun q => hps.2.2.2.2.1.elim (fun z => hh14 (congrArg Int32.toInt z)) (fun z => q (congrArg Int32.toInt z)))) (fun (hh21 : (psS σ (ix p9) v3 v11 12 (ix p9)).toInt = ((σ 12 (ix p9)) + 1).toInt) => ?_)
        refine lv_iconst (v := 1) hx hb dL_step_529 (by decide) ?_
        refine lv_goto (tgt := 534) hx hb dL_step_530 (by decide) ?_
        refine lv_istore (lv' := [(16, .int 1), (15, .int (psS σ (ix p9) v3 v11 12 (ix p9))), (14, .int v3), (0, .ref (ad 0)), (1, .ref (ad 5)), (2, .ref (ad 6)), (3, .ref (ad 7)), (4, .ref (ad 8)), (5, .int p5), (6, .int p6), (7, .int p7), (8, .int (nI n)), (9, .int p9)]) hx hb dL_step_534 hl (by decide) rfl (fun ls hl => ?_)
        refine lv_aload hx hb dL_step_536 (lv_at hl 7 rfl) ?_
        refine lv_bipush (v := 12) hx hb dL_step_538 (by decide) ?_
        refine lv_iload hx hb dL_step_540 (lv_at hl 12 rfl) ?_
        refine lv_iadd hx hb dL_step_542 ?_
        refine lv_iload hx hb dL_step_543 (lv_at hl 1 rfl) ?_
        refine wrN3 hC hY (12 + ix p9) (i_ixc (C := 12) rfl ⟨by omega, by omega⟩ (by decide)) (by omega) dL_step_545 (fun H locs hY => ?_)
        refine lv_iload hx hb dL_step_546 (lv_at hl 0 rfl) ?_
        refine b_if_eq (tgt := 595) hx hb dL_step_548 (by decide) (fun h => absurd h (by decide)) (fun _ => ?_)
        refine lv_iload hx hb dL_step_551 (lv_at hl 2 rfl) ?_
        refine lv_aload_n hx hb dL_step_553 rfl (lv_at hl 4 rfl) ?_
        refine lv_bipush (v := 12) hx hb dL_step_554 (by decide) ?_
        refine lv_iload hx hb dL_step_556 (lv_at hl 12 rfl) ?_
        refine lv_iadd hx hb dL_step_558 ?_
        refine rdN0 hC hY (12 + ix p9) (i_ixc (C := 12) rfl ⟨by omega, by omega⟩ (by decide)) (by omega) (v := σ 4 (ix p9)) (by rw [us_ne (by omega)]; exact r2) dL_step_559 ?_
        refine lv_aload hx hb dL_step_560 (lv_at hl 7 rfl) ?_
        refine lv_iload hx hb dL_step_562 (lv_at hl 12 rfl) ?_
        refine rdN3 hC hY (ix p9) (ix_of (by omega)) (by omega) (v := σ 7 (ix p9)) (by rw [us_ne (by omega)]; exact r7) dL_step_564 ?_
        refine lv_iadd hx hb dL_step_565 ?_
        refine lv_topi (fun v23 e23 => ?_)
        have q23 : v23.toInt = (σ 4 (ix p9)).toInt + (σ 7 (ix p9)).toInt := by rw [e23]; exact i_addR rfl rfl (by omega)
        refine b_icmp_lt (tgt := 591) hx hb dL_step_566 (by decide) (fun (hh24 : v3.toInt < v23.toInt) => ?_) (fun (hh24 : v23.toInt ≤ v3.toInt) => ?_)
        · refine lv_iconst (v := 1) hx hb dL_step_591 (by decide) ?_
          refine lv_goto (tgt := 596) hx hb dL_step_592 (by decide) ?_
          exact g_zretL hC hr hlocks hY (fun _ _ => rfl) (li_step hLI hk hpl ⟨by omega, by omega⟩ hI2) ⟨by show _ ≤ (40 : Nat); omega, by show _ ≤ (260 : Nat); omega⟩ dL_step_596
        · refine lv_aload_n hx hb dL_step_569 rfl (lv_at hl 3 rfl) ?_
          refine lv_iload hx hb dL_step_570 (lv_at hl 12 rfl) ?_
          refine lv_iload hx hb dL_step_572 (lv_at hl 2 rfl) ?_
          refine gn_calli hY (gx_runV (n := 2) (q := (RX1, TX1, 5)) (r := 0) hC (c_X1_rentOn l G ad (psS σ (ix p9) v3 v11) n (us τ 3 (12 + ix p9) (psS σ (ix p9) v3 v11 12 (ix p9))) hst hn24 hI2.2.2.2.1 p9 v3) gL_step_X1_rentOn rfl ⟨rfl, rfl⟩ (by decide +kernel) ⟨Nat.le_of_ble_eq_true rfl, Nat.le_of_ble_eq_true rfl⟩ hY (by omega) rfl (ci := 1) rfl rfl hl.1 rfl (Nat.le_of_ble_eq_true rfl) dL_step_574 ⟨by show _ ≤ (40 : Nat); omega, by show _ ≤ (260 : Nat); omega⟩) (exC_0 (cdLX_0 ⟨by omega, by omega⟩ ⟨by omega, by omega⟩)) (fun r26 H locs hh25 hY => ?_)
          obtain ⟨-, rfl⟩ := hh25
          refine lv_iconst (v := 1) hx hb dL_step_577 (by decide) ?_
          refine lv_iload hx hb dL_step_578 (lv_at hl 10 rfl) ?_
          refine lv_sipush (v := 700) hx hb dL_step_580 (by decide) ?_
          refine lv_idiv hx hb dL_step_583 (by decide) ?_
          refine g_top (y := v9) e9.symm ?_
          refine lv_ldc (v := 99999) hx hb hC.2.2.2.1 (hC.2.2.2.2 _ (by decide +kernel)) dL_step_584 ?_
          refine g_irem hx hb dL_step_586 (by decide) ?_
          refine g_top (y := v10) e10.symm ?_
          refine lv_iadd hx hb dL_step_587 ?_
          refine g_top (y := v11) e11.symm ?_
          refine b_icmp_lt (tgt := 595) hx hb dL_step_588 (by decide) (fun (hh27 : (rfF (psS σ (ix p9) v3 v11) (ix p9) v3).toInt < v11.toInt) => absurd hh27 (by have z := step_rent hI9 hk s1 hpl ⟨by omega, by omega⟩ hI2 ⟨by omega, by omega⟩ (by rw [← e23]; omega); omega)) (fun (hh27 : v11.toInt ≤ (rfF (psS σ (ix p9) v3 v11) (ix p9) v3).toInt) => ?_)
          refine lv_iconst (v := 1) hx hb dL_step_591 (by decide) ?_
          refine lv_goto (tgt := 596) hx hb dL_step_592 (by decide) ?_
          exact g_zretL hC hr hlocks hY (fun _ _ => rfl) (li_step hLI hk hpl ⟨by omega, by omega⟩ hI2) ⟨by show _ ≤ (40 : Nat); omega, by show _ ≤ (260 : Nat); omega⟩ dL_step_596
    · refine lv_aload_n hx hb dL_step_465 rfl (lv_at hl 1 rfl) ?_
      refine g_calli hY (g_runV (n := 0) (q := (RX1, TX1, 5)) (r := 0) hC (c_X1_leases l G ad σ n τ ) gL_step_X1_leases rfl ⟨rfl, rfl⟩ (by decide +kernel) ⟨Nat.le_of_ble_eq_true rfl, Nat.le_of_ble_eq_true rfl⟩ hY (by omega) rfl (ci := 1) rfl rfl hl.1 rfl (Nat.le_of_ble_eq_true rfl) dL_step_466 ⟨by show _ ≤ (40 : Nat); omega, by show _ ≤ (260 : Nat); omega⟩) (fun r29 H locs hh28 hY => ?_)
      subst hh28
      refine lv_iload hx hb dL_step_469 (lv_at hl 9 rfl) ?_
      refine b_icmp_ne (tgt := 478) hx hb dL_step_471 (by decide) (fun h => absurd rfl h) (fun _ => ?_)
      refine lv_iconst (v := 1) hx hb dL_step_474 (by decide) ?_
      refine lv_goto (tgt := 479) hx hb dL_step_475 (by decide) ?_
      exact g_zretL hC hr hlocks hY (fun _ _ => rfl) (hLI) ⟨by show _ ≤ (40 : Nat); omega, by show _ ≤ (260 : Nat); omega⟩ dL_step_479

set_option maxHeartbeats 4000000 in
set_option maxRecDepth 100000 in
theorem s_c8z {p : Program} {e : Env} {s : State} {m : MethodId} {args : Array Value} {below : List Frame} {meth : Method} {c : Code} {H : Heap} {locs : List Loc} {ls : Array Slot} {G : GG} {ad : Nat → Nat} {σ : St} {n : Nat} {τ : St} (l : Launch) (hst : l.stackTraces = false) (hC : CallFix p m c cL_step 17 s args wsL_step RL) (hr : meth.sig.returnType = some .boolean) (hlocks : meth.locks = false) (hLI : LI σ n τ) {p5 p6 p7 p9 : Int32} (h5 : 0 ≤ p5.toInt) (h6 : 0 ≤ p6.toInt) (h7 : 0 ≤ p7.toInt) (hz : n = 0) (hz0 : p9.toInt = 0) (hY : SyS G ad σ n τ s H locs) (hl : lv_has ls 17 [(0, .ref (ad 0)), (1, .ref (ad 5)), (2, .ref (ad 6)), (3, .ref (ad 7)), (4, .ref (ad 8)), (5, .int p5), (6, .int p6), (7, .int p7), (8, .int (nI n)), (9, .int p9)]) : W p l e ({ frames := 10, cells := 40, slots := 260, locals := 230 }) s m args below meth c H locs 0 0 (MQ below (QL G ad) args s 40 260 (gF G)) (F0 m 597 ls []) := by
  have hx := hC.1
  have hb := hC.2.1
  have hI9 := hLI.1
  have hn24 := hLI.1.1
  have hok := hLI.1.2.2.2.1
  have hn12 := hLI.2.1
  have hnI : (nI n).toInt = (n : Int) := i_nI (by omega)
  refine lv_iload hx hb dL_step_597 (lv_at hl 8 rfl) ?_
  refine b_if_le (tgt := 692) hx hb dL_step_599 (by decide) (fun (hh1 : (nI n).toInt ≤ 0) => ?_) (fun (hh1 : 0 < (nI n).toInt) => absurd hh1 (by omega))
  refine lv_iload hx hb dL_step_692 (lv_at hl 8 rfl) ?_
  refine b_if_eq (tgt := 732) hx hb dL_step_694 (by decide) (fun (hh2 : (nI n).toInt = 0) => ?_) (fun (hh2 : ¬ (nI n).toInt = 0) => absurd hh2 (by omega))
  refine lv_iconst (v := 1) hx hb dL_step_732 (by decide) ?_
  refine lv_goto (tgt := 737) hx hb dL_step_733 (by decide) ?_
  exact g_zretL hC hr hlocks hY (fun _ _ => rfl) (hLI) ⟨by show _ ≤ (40 : Nat); omega, by show _ ≤ (260 : Nat); omega⟩ dL_step_737

set_option maxHeartbeats 4000000 in
set_option maxRecDepth 100000 in
theorem s_c8b {p : Program} {e : Env} {s : State} {m : MethodId} {args : Array Value} {below : List Frame} {meth : Method} {c : Code} {H : Heap} {locs : List Loc} {ls : Array Slot} {G : GG} {ad : Nat → Nat} {σ : St} {n : Nat} {τ : St} (l : Launch) (hst : l.stackTraces = false) (hC : CallFix p m c cL_step 17 s args wsL_step RL) (hr : meth.sig.returnType = some .boolean) (hlocks : meth.locks = false) (hLI : LI σ n τ) {p5 p6 p7 p9 : Int32} {vf ve : Int32} (h5 : 0 ≤ p5.toInt) (h6 : 0 ≤ p6.toInt) (h7 : 0 ≤ p7.toInt) (hp : 0 ≤ p9.toInt ∧ p9.toInt < (n : Int)) (hvf : 0 ≤ vf.toInt ∧ vf.toInt ≤ 720) (hve : ve.toInt = 0 ∨ (30 ≤ ve.toInt ∧ ve.toInt ≤ 1800)) (hY : SyS G ad σ n (us (us τ 3 (ix p9) vf) 3 (24 + ix p9) ve) s H locs) (hl : lv_has ls 17 [(0, .ref (ad 0)), (1, .ref (ad 5)), (2, .ref (ad 6)), (3, .ref (ad 7)), (4, .ref (ad 8)), (5, .int p5), (6, .int p6), (7, .int p7), (8, .int (nI n)), (9, .int p9)]) : W p l e ({ frames := 10, cells := 40, slots := 260, locals := 230 }) s m args below meth c H locs 0 0 (MQ below (QL G ad) args s 40 260 (gF G)) (F0 m 673 ls []) := by
  have hx := hC.1
  have hb := hC.2.1
  have hI9 := hLI.1
  have hn24 := hLI.1.1
  have hok := hLI.1.2.2.2.1
  have hn12 := hLI.2.1
  have hnI : (nI n).toInt = (n : Int) := i_nI (by omega)
  have hk : ix p9 < n := ix_lt hp
  obtain ⟨r1, r2, r3, r4, r5, r6, r7, r8, r9⟩ := hLI.2.2.2.2.1 (ix p9) hk
  obtain ⟨s1, s2, s3⟩ := hLI.2.2.2.2.2.2.1 (ix p9) hk
  have hL := hok (ix p9) hk
  obtain ⟨f0, ⟨f1, f2, f3⟩, ⟨f4, f5⟩, ⟨f6, f7⟩, f8, ⟨f9, f10⟩, ⟨f11, f12⟩, ⟨f13, f14⟩, -⟩ := id hL
  refine lv_aload_n hx hb dL_step_673 rfl (lv_at hl 0 rfl) ?_
  refine lv_iload hx hb dL_step_674 (lv_at hl 9 rfl) ?_
  refine lv_aload hx hb dL_step_676 (lv_at hl 4 rfl) ?_
  refine lv_iload hx hb dL_step_678 (lv_at hl 9 rfl) ?_
  refine rdN3 hC hY (ix p9) (ix_of (by omega)) (by omega) (v := vf) (by rw [us_ne (by omega), us_eq]) dL_step_680 ?_
  refine lv_aload hx hb dL_step_681 (lv_at hl 4 rfl) ?_
  refine lv_bipush (v := 24) hx hb dL_step_683 (by decide) ?_
  refine lv_iload hx hb dL_step_685 (lv_at hl 9 rfl) ?_
  refine lv_iadd hx hb dL_step_687 ?_
  refine rdN3 hC hY (24 + ix p9) (i_ixc (C := 24) rfl ⟨by omega, by omega⟩ (by decide)) (by omega) (v := ve) (by rw [us_eq]) dL_step_688 ?_
  refine gn_callv hY (gx_runV (n := 3) (q := (RX1, TX1, 5)) (r := 0) hC (c_X1_setTerms l G ad σ n (us (us τ 3 (ix p9) vf) 3 (24 + ix p9) ve) hst hn24 p9 vf ve) gL_step_X1_setTerms rfl ⟨rfl, rfl⟩ (by decide +kernel) ⟨Nat.le_of_ble_eq_true rfl, Nat.le_of_ble_eq_true rfl⟩ hY (by omega) rfl (ci := 1) rfl rfl hl.1 rfl (Nat.le_of_ble_eq_true rfl) dL_step_689 ⟨by show _ ≤ (40 : Nat); omega, by show _ ≤ (260 : Nat); omega⟩) (exC_0 (cdTerms_0 ⟨by omega, by omega⟩ ⟨by omega, by omega⟩ (by omega))) (fun H locs hh1 hY => ?_)
  have hI2 : Inv (us (us σ 7 (ix p9) vf) 8 (ix p9) ve) n := inv_terms hI9 (cdTerms_0 (p0 := p9) ⟨by omega, by omega⟩ hvf hve)
  have hLI2 : LI (us (us σ 7 (ix p9) vf) 8 (ix p9) ve) n (us (us τ 3 (ix p9) vf) 3 (24 + ix p9) ve) := li_1 (li_1 hLI hk ⟨by decide, by decide, by decide, by decide⟩ (Or.inr (Or.inr (Or.inr (Or.inl ⟨rfl, rfl, rfl⟩)))) (inv_7 hI9 hk hvf) (fun h => absurd h (by decide))) hk ⟨by decide, by decide, by decide, by decide⟩ (Or.inr (Or.inr (Or.inr (Or.inr ⟨rfl, rfl, rfl⟩)))) hI2 (fun h => absurd h (by decide))
  have hrf := terms_rent hk s1 hI2
  refine lv_iload hx hb dL_step_692 (lv_at hl 8 rfl) ?_
  refine b_if_eq (tgt := 732) hx hb dL_step_694 (by decide) (fun (hh2 : (nI n).toInt = 0) => absurd hh2 (by omega)) (fun (hh2 : ¬ (nI n).toInt = 0) => ?_)
  refine lv_aload_n hx hb dL_step_697 rfl (lv_at hl 0 rfl) ?_
  refine lv_iload hx hb dL_step_698 (lv_at hl 9 rfl) ?_
  refine lv_aload_n hx hb dL_step_700 rfl (lv_at hl 1 rfl) ?_
  refine lv_bipush (v := 12) hx hb dL_step_701 (by decide) ?_
  refine lv_iload hx hb dL_step_703 (lv_at hl 9 rfl) ?_
  refine lv_iadd hx hb dL_step_705 ?_
  refine rdN0 hC hY (12 + ix p9) (i_ixc (C := 12) rfl ⟨by omega, by omega⟩ (by decide)) (by omega) (v := σ 4 (ix p9)) (by rw [us_ne (by omega), us_ne (by omega)]; exact r2) dL_step_706 ?_
  refine gn_calli hY (gx_runV (n := 2) (q := (RX1, TX1, 5)) (r := 0) hC (c_X1_rentOn l G ad (us (us σ 7 (ix p9) vf) 8 (ix p9) ve) n (us (us τ 3 (ix p9) vf) 3 (24 + ix p9) ve) hst hn24 hI2.2.2.2.1 p9 (σ 4 (ix p9))) gL_step_X1_rentOn rfl ⟨rfl, rfl⟩ (by decide +kernel) ⟨Nat.le_of_ble_eq_true rfl, Nat.le_of_ble_eq_true rfl⟩ hY (by omega) rfl (ci := 1) rfl rfl hl.1 rfl (Nat.le_of_ble_eq_true rfl) dL_step_707 ⟨by show _ ≤ (40 : Nat); omega, by show _ ≤ (260 : Nat); omega⟩) (exC_0 (cdLX_0 ⟨by omega, by omega⟩ ⟨by omega, by omega⟩)) (fun r4 H locs hh3 hY => ?_)
  obtain ⟨-, rfl⟩ := hh3
  refine lv_aload hx hb dL_step_710 (lv_at hl 4 rfl) ?_
  refine lv_iload hx hb dL_step_712 (lv_at hl 9 rfl) ?_
  refine rdN3 hC hY (ix p9) (ix_of (by omega)) (by omega) (v := vf) (by rw [us_ne (by omega), us_eq]) dL_step_714 ?_
  refine b_if_le (tgt := 722) hx hb dL_step_715 (by decide) (fun (hh5 : vf.toInt ≤ 0) => ?_) (fun (hh5 : 0 < vf.toInt) => ?_)
  · refine lv_aload_n hx hb dL_step_722 rfl (lv_at hl 1 rfl) ?_
    refine lv_bipush (v := 36) hx hb dL_step_723 (by decide) ?_
    refine lv_iload hx hb dL_step_725 (lv_at hl 9 rfl) ?_
    refine lv_iadd hx hb dL_step_727 ?_
    refine rdN0 hC hY (36 + ix p9) (i_ixc (C := 36) rfl ⟨by omega, by omega⟩ (by decide)) (by omega) (v := σ 6 (ix p9)) (by rw [us_ne (by omega), us_ne (by omega)]; exact r4) dL_step_728 ?_
    refine b_icmp_ne (tgt := 736) hx hb dL_step_729 (by decide) (fun (hh6 : ¬ (rfF (us (us σ 7 (ix p9) vf) 8 (ix p9) ve) (ix p9) (σ 4 (ix p9))).toInt = (σ 6 (ix p9)).toInt) => absurd hh6 (by exact fun q => q (by rw [hrf, if_neg (by omega)]))) (fun (hh6 : (rfF (us (us σ 7 (ix p9) vf) 8 (ix p9) ve) (ix p9) (σ 4 (ix p9))).toInt = (σ 6 (ix p9)).toInt) => ?_)
    refine lv_iconst (v := 1) hx hb dL_step_732 (by decide) ?_
    refine lv_goto (tgt := 737) hx hb dL_step_733 (by decide) ?_
    exact g_zretL hC hr hlocks hY (fun _ _ => rfl) (hLI2) ⟨by show _ ≤ (40 : Nat); omega, by show _ ≤ (260 : Nat); omega⟩ dL_step_737
  · refine lv_iconst (v := 0) hx hb dL_step_718 (by decide) ?_
    refine lv_goto (tgt := 729) hx hb dL_step_719 (by decide) ?_
    refine b_icmp_ne (tgt := 736) hx hb dL_step_729 (by decide) (fun (hh7 : ¬ (rfF (us (us σ 7 (ix p9) vf) 8 (ix p9) ve) (ix p9) (σ 4 (ix p9))).toInt = 0) => absurd hh7 (by exact fun q => q (by rw [hrf, if_pos (by omega)]; rfl))) (fun (hh7 : (rfF (us (us σ 7 (ix p9) vf) 8 (ix p9) ve) (ix p9) (σ 4 (ix p9))).toInt = 0) => ?_)
    refine lv_iconst (v := 1) hx hb dL_step_732 (by decide) ?_
    refine lv_goto (tgt := 737) hx hb dL_step_733 (by decide) ?_
    exact g_zretL hC hr hlocks hY (fun _ _ => rfl) (hLI2) ⟨by show _ ≤ (40 : Nat); omega, by show _ ≤ (260 : Nat); omega⟩ dL_step_737

set_option maxHeartbeats 4000000 in
set_option maxRecDepth 100000 in
theorem s_c8 {p : Program} {e : Env} {s : State} {m : MethodId} {args : Array Value} {below : List Frame} {meth : Method} {c : Code} {H : Heap} {locs : List Loc} {ls : Array Slot} {G : GG} {ad : Nat → Nat} {σ : St} {n : Nat} {τ : St} (l : Launch) (hst : l.stackTraces = false) (hC : CallFix p m c cL_step 17 s args wsL_step RL) (hr : meth.sig.returnType = some .boolean) (hlocks : meth.locks = false) (hLI : LI σ n τ) {p5 p6 p7 p9 : Int32} (h5 : 0 ≤ p5.toInt) (h6 : 0 ≤ p6.toInt) (h7 : 0 ≤ p7.toInt) (hp : 0 ≤ p9.toInt ∧ p9.toInt < (n : Int)) (hY : SyS G ad σ n τ s H locs) (hl : lv_has ls 17 [(0, .ref (ad 0)), (1, .ref (ad 5)), (2, .ref (ad 6)), (3, .ref (ad 7)), (4, .ref (ad 8)), (5, .int p5), (6, .int p6), (7, .int p7), (8, .int (nI n)), (9, .int p9)]) : W p l e ({ frames := 10, cells := 40, slots := 260, locals := 230 }) s m args below meth c H locs 0 0 (MQ below (QL G ad) args s 40 260 (gF G)) (F0 m 597 ls []) := by
  have hx := hC.1
  have hb := hC.2.1
  have hI9 := hLI.1
  have hn24 := hLI.1.1
  have hok := hLI.1.2.2.2.1
  have hn12 := hLI.2.1
  have hnI : (nI n).toInt = (n : Int) := i_nI (by omega)
  have hk : ix p9 < n := ix_lt hp
  obtain ⟨r1, r2, r3, r4, r5, r6, r7, r8, r9⟩ := hLI.2.2.2.2.1 (ix p9) hk
  obtain ⟨s1, s2, s3⟩ := hLI.2.2.2.2.2.2.1 (ix p9) hk
  have hL := hok (ix p9) hk
  obtain ⟨f0, ⟨f1, f2, f3⟩, ⟨f4, f5⟩, ⟨f6, f7⟩, f8, ⟨f9, f10⟩, ⟨f11, f12⟩, ⟨f13, f14⟩, -⟩ := id hL
  refine lv_iload hx hb dL_step_597 (lv_at hl 8 rfl) ?_
  refine b_if_le (tgt := 692) hx hb dL_step_599 (by decide) (fun (hh1 : (nI n).toInt ≤ 0) => absurd hh1 (by omega)) (fun (hh1 : 0 < (nI n).toInt) => ?_)
  refine lv_aload hx hb dL_step_602 (lv_at hl 4 rfl) ?_
  refine lv_iload hx hb dL_step_604 (lv_at hl 9 rfl) ?_
  refine lv_iload hx hb dL_step_606 (lv_at hl 7 rfl) ?_
  refine lv_iload hx hb dL_step_608 (lv_at hl 7 rfl) ?_
  refine lv_iconst (v := 2) hx hb dL_step_610 (by decide) ?_
  refine g_irem hx hb dL_step_611 (by decide) ?_
  refine lv_topi (fun v2 e2 => ?_)
  have q2 : v2.toInt = p7.toInt % 2 := by rw [e2]; exact i_rmR rfl rfl (by omega)
  refine b_if_ne (tgt := 621) hx hb dL_step_612 (by decide) (fun (hh3 : ¬ v2.toInt = 0) => ?_) (fun (hh3 : v2.toInt = 0) => ?_)
  · refine lv_bipush (v := 40) hx hb dL_step_621 (by decide) ?_
    refine g_irem hx hb dL_step_623 (by decide) ?_
    refine lv_topi (fun v4 e4 => ?_)
    have q4 : v4.toInt = p7.toInt % 40 := by rw [e4]; exact i_rmR rfl rfl (by omega)
    refine wrN3 hC hY (ix p9) (ix_of (by omega)) (by omega) dL_step_624 (fun H locs hY => ?_)
    refine lv_aload hx hb dL_step_625 (lv_at hl 4 rfl) ?_
    refine lv_bipush (v := 24) hx hb dL_step_627 (by decide) ?_
    refine lv_iload hx hb dL_step_629 (lv_at hl 9 rfl) ?_
    refine lv_iadd hx hb dL_step_631 ?_
    refine lv_iload hx hb dL_step_632 (lv_at hl 7 rfl) ?_
    refine lv_sipush (v := 721) hx hb dL_step_634 (by decide) ?_
    refine lv_idiv hx hb dL_step_637 (by decide) ?_
    refine lv_topi (fun v5 e5 => ?_)
    have q5 : v5.toInt = p7.toInt / 721 := by rw [e5]; exact i_divR rfl rfl (by omega)
    refine lv_iconst (v := 4) hx hb dL_step_638 (by decide) ?_
    refine g_irem hx hb dL_step_639 (by decide) ?_
    refine lv_topi (fun v6 e6 => ?_)
    have q6 : v6.toInt = v5.toInt % 4 := by rw [e6]; exact i_rmR rfl rfl (by omega)
    refine b_if_ne (tgt := 647) hx hb dL_step_640 (by decide) (fun (hh7 : ¬ v6.toInt = 0) => ?_) (fun (hh7 : v6.toInt = 0) => ?_)
    · refine lv_bipush (v := 30) hx hb dL_step_647 (by decide) ?_
      refine lv_iload hx hb dL_step_649 (lv_at hl 7 rfl) ?_
      refine lv_sipush (v := 2884) hx hb dL_step_651 (by decide) ?_
      refine lv_idiv hx hb dL_step_654 (by decide) ?_
      refine lv_topi (fun v8 e8 => ?_)
      have q8 : v8.toInt = p7.toInt / 2884 := by rw [e8]; exact i_divR rfl rfl (by omega)
      refine lv_iload hx hb dL_step_655 (lv_at hl 6 rfl) ?_
      refine lv_iconst (v := 2) hx hb dL_step_657 (by decide) ?_
      refine g_irem hx hb dL_step_658 (by decide) ?_
      refine lv_topi (fun v9 e9 => ?_)
      have q9 : v9.toInt = p6.toInt % 2 := by rw [e9]; exact i_rmR rfl rfl (by omega)
      refine b_if_ne (tgt := 668) hx hb dL_step_659 (by decide) (fun (hh10 : ¬ v9.toInt = 0) => ?_) (fun (hh10 : v9.toInt = 0) => ?_)
      · refine lv_bipush (v := 100) hx hb dL_step_668 (by decide) ?_
        refine g_irem hx hb dL_step_670 (by decide) ?_
        refine lv_topi (fun v11 e11 => ?_)
        have q11 : v11.toInt = v8.toInt % 100 := by rw [e11]; exact i_rmR rfl rfl (by omega)
        refine lv_iadd hx hb dL_step_671 ?_
        refine lv_topi (fun v12 e12 => ?_)
        have q12 : v12.toInt = 30 + v11.toInt := by rw [e12]; exact i_addR rfl rfl (by omega)
        refine wrN3 hC hY (24 + ix p9) (i_ixc (C := 24) rfl ⟨by omega, by omega⟩ (by decide)) (by omega) dL_step_672 (fun H locs hY => ?_)
        exact s_c8b (vf := v4) (ve := v12) l hst hC hr hlocks hLI h5 h6 h7 hp ⟨by omega, by omega⟩ (by first | exact Or.inl rfl | exact Or.inr ⟨by omega, by omega⟩) hY (lv_sub hl [0, 1, 2, 3, 4, 5, 6, 7, 8, 9] rfl)
      · refine lv_sipush (v := 1771) hx hb dL_step_662 (by decide) ?_
        refine lv_goto (tgt := 670) hx hb dL_step_665 (by decide) ?_
        refine g_irem hx hb dL_step_670 (by decide) ?_
        refine lv_topi (fun v13 e13 => ?_)
        have q13 : v13.toInt = v8.toInt % 1771 := by rw [e13]; exact i_rmR rfl rfl (by omega)
        refine lv_iadd hx hb dL_step_671 ?_
        refine lv_topi (fun v14 e14 => ?_)
        have q14 : v14.toInt = 30 + v13.toInt := by rw [e14]; exact i_addR rfl rfl (by omega)
        refine wrN3 hC hY (24 + ix p9) (i_ixc (C := 24) rfl ⟨by omega, by omega⟩ (by decide)) (by omega) dL_step_672 (fun H locs hY => ?_)
        exact s_c8b (vf := v4) (ve := v14) l hst hC hr hlocks hLI h5 h6 h7 hp ⟨by omega, by omega⟩ (by first | exact Or.inl rfl | exact Or.inr ⟨by omega, by omega⟩) hY (lv_sub hl [0, 1, 2, 3, 4, 5, 6, 7, 8, 9] rfl)
    · refine lv_iconst (v := 0) hx hb dL_step_643 (by decide) ?_
      refine lv_goto (tgt := 672) hx hb dL_step_644 (by decide) ?_
      refine wrN3 hC hY (24 + ix p9) (i_ixc (C := 24) rfl ⟨by omega, by omega⟩ (by decide)) (by omega) dL_step_672 (fun H locs hY => ?_)
      exact s_c8b (vf := v4) (ve := 0) l hst hC hr hlocks hLI h5 h6 h7 hp ⟨by omega, by omega⟩ (by first | exact Or.inl rfl | exact Or.inr ⟨by omega, by omega⟩) hY (lv_sub hl [0, 1, 2, 3, 4, 5, 6, 7, 8, 9] rfl)
  · refine lv_sipush (v := 721) hx hb dL_step_615 (by decide) ?_
    refine lv_goto (tgt := 623) hx hb dL_step_618 (by decide) ?_
    refine g_irem hx hb dL_step_623 (by decide) ?_
    refine lv_topi (fun v15 e15 => ?_)
    have q15 : v15.toInt = p7.toInt % 721 := by rw [e15]; exact i_rmR rfl rfl (by omega)
    refine wrN3 hC hY (ix p9) (ix_of (by omega)) (by omega) dL_step_624 (fun H locs hY => ?_)
    refine lv_aload hx hb dL_step_625 (lv_at hl 4 rfl) ?_
    refine lv_bipush (v := 24) hx hb dL_step_627 (by decide) ?_
    refine lv_iload hx hb dL_step_629 (lv_at hl 9 rfl) ?_
    refine lv_iadd hx hb dL_step_631 ?_
    refine lv_iload hx hb dL_step_632 (lv_at hl 7 rfl) ?_
    refine lv_sipush (v := 721) hx hb dL_step_634 (by decide) ?_
    refine lv_idiv hx hb dL_step_637 (by decide) ?_
    refine lv_topi (fun v16 e16 => ?_)
    have q16 : v16.toInt = p7.toInt / 721 := by rw [e16]; exact i_divR rfl rfl (by omega)
    refine lv_iconst (v := 4) hx hb dL_step_638 (by decide) ?_
    refine g_irem hx hb dL_step_639 (by decide) ?_
    refine lv_topi (fun v17 e17 => ?_)
    have q17 : v17.toInt = v16.toInt % 4 := by rw [e17]; exact i_rmR rfl rfl (by omega)
    refine b_if_ne (tgt := 647) hx hb dL_step_640 (by decide) (fun (hh18 : ¬ v17.toInt = 0) => ?_) (fun (hh18 : v17.toInt = 0) => ?_)
    · refine lv_bipush (v := 30) hx hb dL_step_647 (by decide) ?_
      refine lv_iload hx hb dL_step_649 (lv_at hl 7 rfl) ?_
      refine lv_sipush (v := 2884) hx hb dL_step_651 (by decide) ?_
      refine lv_idiv hx hb dL_step_654 (by decide) ?_
      refine lv_topi (fun v19 e19 => ?_)
      have q19 : v19.toInt = p7.toInt / 2884 := by rw [e19]; exact i_divR rfl rfl (by omega)
      refine lv_iload hx hb dL_step_655 (lv_at hl 6 rfl) ?_
      refine lv_iconst (v := 2) hx hb dL_step_657 (by decide) ?_
      refine g_irem hx hb dL_step_658 (by decide) ?_
      refine lv_topi (fun v20 e20 => ?_)
      have q20 : v20.toInt = p6.toInt % 2 := by rw [e20]; exact i_rmR rfl rfl (by omega)
      refine b_if_ne (tgt := 668) hx hb dL_step_659 (by decide) (fun (hh21 : ¬ v20.toInt = 0) => ?_) (fun (hh21 : v20.toInt = 0) => ?_)
      · refine lv_bipush (v := 100) hx hb dL_step_668 (by decide) ?_
        refine g_irem hx hb dL_step_670 (by decide) ?_
        refine lv_topi (fun v22 e22 => ?_)
        have q22 : v22.toInt = v19.toInt % 100 := by rw [e22]; exact i_rmR rfl rfl (by omega)
        refine lv_iadd hx hb dL_step_671 ?_
        refine lv_topi (fun v23 e23 => ?_)
        have q23 : v23.toInt = 30 + v22.toInt := by rw [e23]; exact i_addR rfl rfl (by omega)
        refine wrN3 hC hY (24 + ix p9) (i_ixc (C := 24) rfl ⟨by omega, by omega⟩ (by decide)) (by omega) dL_step_672 (fun H locs hY => ?_)
        exact s_c8b (vf := v15) (ve := v23) l hst hC hr hlocks hLI h5 h6 h7 hp ⟨by omega, by omega⟩ (by first | exact Or.inl rfl | exact Or.inr ⟨by omega, by omega⟩) hY (lv_sub hl [0, 1, 2, 3, 4, 5, 6, 7, 8, 9] rfl)
      · refine lv_sipush (v := 1771) hx hb dL_step_662 (by decide) ?_
        refine lv_goto (tgt := 670) hx hb dL_step_665 (by decide) ?_
        refine g_irem hx hb dL_step_670 (by decide) ?_
        refine lv_topi (fun v24 e24 => ?_)
        have q24 : v24.toInt = v19.toInt % 1771 := by rw [e24]; exact i_rmR rfl rfl (by omega)
        refine lv_iadd hx hb dL_step_671 ?_
        refine lv_topi (fun v25 e25 => ?_)
        have q25 : v25.toInt = 30 + v24.toInt := by rw [e25]; exact i_addR rfl rfl (by omega)
        refine wrN3 hC hY (24 + ix p9) (i_ixc (C := 24) rfl ⟨by omega, by omega⟩ (by decide)) (by omega) dL_step_672 (fun H locs hY => ?_)
        exact s_c8b (vf := v15) (ve := v25) l hst hC hr hlocks hLI h5 h6 h7 hp ⟨by omega, by omega⟩ (by first | exact Or.inl rfl | exact Or.inr ⟨by omega, by omega⟩) hY (lv_sub hl [0, 1, 2, 3, 4, 5, 6, 7, 8, 9] rfl)
    · refine lv_iconst (v := 0) hx hb dL_step_643 (by decide) ?_
      refine lv_goto (tgt := 672) hx hb dL_step_644 (by decide) ?_
      refine wrN3 hC hY (24 + ix p9) (i_ixc (C := 24) rfl ⟨by omega, by omega⟩ (by decide)) (by omega) dL_step_672 (fun H locs hY => ?_)
      exact s_c8b (vf := v15) (ve := 0) l hst hC hr hlocks hLI h5 h6 h7 hp ⟨by omega, by omega⟩ (by first | exact Or.inl rfl | exact Or.inr ⟨by omega, by omega⟩) hY (lv_sub hl [0, 1, 2, 3, 4, 5, 6, 7, 8, 9] rfl)

set_option maxHeartbeats 4000000 in
set_option maxRecDepth 100000 in
theorem s_c9z {p : Program} {e : Env} {s : State} {m : MethodId} {args : Array Value} {below : List Frame} {meth : Method} {c : Code} {H : Heap} {locs : List Loc} {ls : Array Slot} {G : GG} {ad : Nat → Nat} {σ : St} {n : Nat} {τ : St} (l : Launch) (hst : l.stackTraces = false) (hC : CallFix p m c cL_step 17 s args wsL_step RL) (hr : meth.sig.returnType = some .boolean) (hlocks : meth.locks = false) (hLI : LI σ n τ) {p5 p6 p7 p9 : Int32} (h5 : 0 ≤ p5.toInt) (h6 : 0 ≤ p6.toInt) (h7 : 0 ≤ p7.toInt) (hz : n = 0) (hz0 : p9.toInt = 0) (hY : SyS G ad σ n τ s H locs) (hl : lv_has ls 17 [(0, .ref (ad 0)), (1, .ref (ad 5)), (2, .ref (ad 6)), (3, .ref (ad 7)), (4, .ref (ad 8)), (5, .int p5), (6, .int p6), (7, .int p7), (8, .int (nI n)), (9, .int p9)]) : W p l e ({ frames := 10, cells := 40, slots := 260, locals := 230 }) s m args below meth c H locs 0 0 (MQ below (QL G ad) args s 40 260 (gF G)) (F0 m 738 ls []) := by
  have hx := hC.1
  have hb := hC.2.1
  have hI9 := hLI.1
  have hn24 := hLI.1.1
  have hok := hLI.1.2.2.2.1
  have hn12 := hLI.2.1
  have hnI : (nI n).toInt = (n : Int) := i_nI (by omega)
  refine lv_iload hx hb dL_step_738 (lv_at hl 8 rfl) ?_
  refine b_if_le (tgt := 803) hx hb dL_step_740 (by decide) (fun (hh1 : (nI n).toInt ≤ 0) => ?_) (fun (hh1 : 0 < (nI n).toInt) => absurd hh1 (by omega))
  refine lv_aload_n hx hb dL_step_803 rfl (lv_at hl 0 rfl) ?_
  refine g_calli hY (g_runV (n := 0) (q := (RX1, TX1, 5)) (r := 0) hC (c_X1_leases l G ad σ n τ ) gL_step_X1_leases rfl ⟨rfl, rfl⟩ (by decide +kernel) ⟨Nat.le_of_ble_eq_true rfl, Nat.le_of_ble_eq_true rfl⟩ hY (by omega) rfl (ci := 1) rfl rfl hl.1 rfl (Nat.le_of_ble_eq_true rfl) dL_step_804 ⟨by show _ ≤ (40 : Nat); omega, by show _ ≤ (260 : Nat); omega⟩) (fun r3 H locs hh2 hY => ?_)
  subst hh2
  refine lv_iload hx hb dL_step_807 (lv_at hl 8 rfl) ?_
  refine b_icmp_ne (tgt := 816) hx hb dL_step_809 (by decide) (fun h => absurd rfl h) (fun _ => ?_)
  refine lv_iconst (v := 1) hx hb dL_step_812 (by decide) ?_
  refine lv_goto (tgt := 817) hx hb dL_step_813 (by decide) ?_
  exact g_zretL hC hr hlocks hY (fun _ _ => rfl) (hLI) ⟨by show _ ≤ (40 : Nat); omega, by show _ ≤ (260 : Nat); omega⟩ dL_step_817

set_option maxHeartbeats 4000000 in
set_option maxRecDepth 100000 in
theorem s_c9b {p : Program} {e : Env} {s : State} {m : MethodId} {args : Array Value} {below : List Frame} {meth : Method} {c : Code} {H : Heap} {locs : List Loc} {ls : Array Slot} {G : GG} {ad : Nat → Nat} {σ : St} {n : Nat} {τ : St} (l : Launch) (hst : l.stackTraces = false) (hC : CallFix p m c cL_step 17 s args wsL_step RL) (hr : meth.sig.returnType = some .boolean) (hlocks : meth.locks = false) (hLI : LI σ n τ) {p5 p6 p7 p9 : Int32} {vc : Int32} (h5 : 0 ≤ p5.toInt) (h6 : 0 ≤ p6.toInt) (h7 : 0 ≤ p7.toInt) (hp : 0 ≤ p9.toInt ∧ p9.toInt < (n : Int)) (hvc : -1 ≤ vc.toInt ∧ vc.toInt ≤ 999999) (hY : SyS G ad σ n (us τ 0 (48 + ix p9) vc) s H locs) (hl : lv_has ls 17 [(0, .ref (ad 0)), (1, .ref (ad 5)), (2, .ref (ad 6)), (3, .ref (ad 7)), (4, .ref (ad 8)), (5, .int p5), (6, .int p6), (7, .int p7), (8, .int (nI n)), (9, .int p9)]) : W p l e ({ frames := 10, cells := 40, slots := 260, locals := 230 }) s m args below meth c H locs 0 0 (MQ below (QL G ad) args s 40 260 (gF G)) (F0 m 781 ls []) := by
  have hx := hC.1
  have hb := hC.2.1
  have hI9 := hLI.1
  have hn24 := hLI.1.1
  have hok := hLI.1.2.2.2.1
  have hn12 := hLI.2.1
  have hnI : (nI n).toInt = (n : Int) := i_nI (by omega)
  have hk : ix p9 < n := ix_lt hp
  obtain ⟨r1, r2, r3, r4, r5, r6, r7, r8, r9⟩ := hLI.2.2.2.2.1 (ix p9) hk
  obtain ⟨s1, s2, s3⟩ := hLI.2.2.2.2.2.2.1 (ix p9) hk
  have hL := hok (ix p9) hk
  obtain ⟨f0, ⟨f1, f2, f3⟩, ⟨f4, f5⟩, ⟨f6, f7⟩, f8, ⟨f9, f10⟩, ⟨f11, f12⟩, ⟨f13, f14⟩, -⟩ := id hL
  refine lv_aload_n hx hb dL_step_781 rfl (lv_at hl 0 rfl) ?_
  refine lv_iload hx hb dL_step_782 (lv_at hl 9 rfl) ?_
  refine lv_aload_n hx hb dL_step_784 rfl (lv_at hl 1 rfl) ?_
  refine lv_bipush (v := 48) hx hb dL_step_785 (by decide) ?_
  refine lv_iload hx hb dL_step_787 (lv_at hl 9 rfl) ?_
  refine lv_iadd hx hb dL_step_789 ?_
  refine rdN0 hC hY (48 + ix p9) (i_ixc (C := 48) rfl ⟨by omega, by omega⟩ (by decide)) (by omega) (v := vc) (by rw [us_eq]) dL_step_790 ?_
  refine lv_iload hx hb dL_step_791 (lv_at hl 6 rfl) ?_
  refine lv_bipush (v := 12) hx hb dL_step_793 (by decide) ?_
  refine lv_idiv hx hb dL_step_795 (by decide) ?_
  refine lv_topi (fun v1 e1 => ?_)
  have q1 : v1.toInt = p6.toInt / 12 := by rw [e1]; exact i_divR rfl rfl (by omega)
  refine lv_sipush (v := 10000) hx hb dL_step_796 (by decide) ?_
  refine g_irem hx hb dL_step_799 (by decide) ?_
  refine lv_topi (fun v2 e2 => ?_)
  have q2 : v2.toInt = v1.toInt % 10000 := by rw [e2]; exact i_rmR rfl rfl (by omega)
  refine gn_callv hY (gx_runV (n := 3) (q := (RX1, TX1, 5)) (r := 0) hC (c_X1_setService l G ad σ n (us τ 0 (48 + ix p9) vc) hst hn24 p9 vc v2) gL_step_X1_setService rfl ⟨rfl, rfl⟩ (by decide +kernel) ⟨Nat.le_of_ble_eq_true rfl, Nat.le_of_ble_eq_true rfl⟩ hY (by omega) rfl (ci := 1) rfl rfl hl.1 rfl (Nat.le_of_ble_eq_true rfl) dL_step_800 ⟨by show _ ≤ (40 : Nat); omega, by show _ ≤ (260 : Nat); omega⟩) (exC_0 (cdServ_0 ⟨by omega, by omega⟩ ⟨by omega, by omega⟩ ⟨by omega, by omega⟩)) (fun H locs hh3 hY => ?_)
  refine lv_aload_n hx hb dL_step_803 rfl (lv_at hl 0 rfl) ?_
  refine g_calli hY (g_runV (n := 0) (q := (RX1, TX1, 5)) (r := 0) hC (c_X1_leases l G ad (us (us σ 9 (ix p9) vc) 10 (ix p9) v2) n (us τ 0 (48 + ix p9) vc) ) gL_step_X1_leases rfl ⟨rfl, rfl⟩ (by decide +kernel) ⟨Nat.le_of_ble_eq_true rfl, Nat.le_of_ble_eq_true rfl⟩ hY (by omega) rfl (ci := 1) rfl rfl hl.1 rfl (Nat.le_of_ble_eq_true rfl) dL_step_804 ⟨by show _ ≤ (40 : Nat); omega, by show _ ≤ (260 : Nat); omega⟩) (fun r5 H locs hh4 hY => ?_)
  subst hh4
  refine lv_iload hx hb dL_step_807 (lv_at hl 8 rfl) ?_
  refine b_icmp_ne (tgt := 816) hx hb dL_step_809 (by decide) (fun h => absurd rfl h) (fun _ => ?_)
  refine lv_iconst (v := 1) hx hb dL_step_812 (by decide) ?_
  refine lv_goto (tgt := 817) hx hb dL_step_813 (by decide) ?_
  exact g_zretL hC hr hlocks hY (fun _ _ => rfl) (li_10 (li_1 hLI hk ⟨by decide, by decide, by decide, by decide⟩ (Or.inr (Or.inl ⟨rfl, rfl, rfl⟩)) (inv_9 hI9 hk hvc) (fun h => absurd h (by decide))) hk (inv_serv hI9 (cdServ_0 (p0 := p9) ⟨by omega, by omega⟩ hvc ⟨by omega, by omega⟩))) ⟨by show _ ≤ (40 : Nat); omega, by show _ ≤ (260 : Nat); omega⟩ dL_step_817

set_option maxHeartbeats 4000000 in
set_option maxRecDepth 100000 in
theorem s_c9 {p : Program} {e : Env} {s : State} {m : MethodId} {args : Array Value} {below : List Frame} {meth : Method} {c : Code} {H : Heap} {locs : List Loc} {ls : Array Slot} {G : GG} {ad : Nat → Nat} {σ : St} {n : Nat} {τ : St} (l : Launch) (hst : l.stackTraces = false) (hC : CallFix p m c cL_step 17 s args wsL_step RL) (hr : meth.sig.returnType = some .boolean) (hlocks : meth.locks = false) (hLI : LI σ n τ) {p5 p6 p7 p9 : Int32} (h5 : 0 ≤ p5.toInt) (h6 : 0 ≤ p6.toInt) (h7 : 0 ≤ p7.toInt) (hp : 0 ≤ p9.toInt ∧ p9.toInt < (n : Int)) (hY : SyS G ad σ n τ s H locs) (hl : lv_has ls 17 [(0, .ref (ad 0)), (1, .ref (ad 5)), (2, .ref (ad 6)), (3, .ref (ad 7)), (4, .ref (ad 8)), (5, .int p5), (6, .int p6), (7, .int p7), (8, .int (nI n)), (9, .int p9)]) : W p l e ({ frames := 10, cells := 40, slots := 260, locals := 230 }) s m args below meth c H locs 0 0 (MQ below (QL G ad) args s 40 260 (gF G)) (F0 m 738 ls []) := by
  have hx := hC.1
  have hb := hC.2.1
  have hI9 := hLI.1
  have hn24 := hLI.1.1
  have hok := hLI.1.2.2.2.1
  have hn12 := hLI.2.1
  have hnI : (nI n).toInt = (n : Int) := i_nI (by omega)
  have hk : ix p9 < n := ix_lt hp
  obtain ⟨r1, r2, r3, r4, r5, r6, r7, r8, r9⟩ := hLI.2.2.2.2.1 (ix p9) hk
  obtain ⟨s1, s2, s3⟩ := hLI.2.2.2.2.2.2.1 (ix p9) hk
  have hL := hok (ix p9) hk
  obtain ⟨f0, ⟨f1, f2, f3⟩, ⟨f4, f5⟩, ⟨f6, f7⟩, f8, ⟨f9, f10⟩, ⟨f11, f12⟩, ⟨f13, f14⟩, -⟩ := id hL
  refine lv_iload hx hb dL_step_738 (lv_at hl 8 rfl) ?_
  refine b_if_le (tgt := 803) hx hb dL_step_740 (by decide) (fun (hh1 : (nI n).toInt ≤ 0) => absurd hh1 (by omega)) (fun (hh1 : 0 < (nI n).toInt) => ?_)
  refine lv_aload_n hx hb dL_step_743 rfl (lv_at hl 1 rfl) ?_
  refine lv_bipush (v := 48) hx hb dL_step_744 (by decide) ?_
  refine lv_iload hx hb dL_step_746 (lv_at hl 9 rfl) ?_
  refine lv_iadd hx hb dL_step_748 ?_
  refine lv_iload hx hb dL_step_749 (lv_at hl 7 rfl) ?_
  refine lv_iconst (v := 4) hx hb dL_step_751 (by decide) ?_
  refine g_irem hx hb dL_step_752 (by decide) ?_
  refine lv_topi (fun v2 e2 => ?_)
  have q2 : v2.toInt = p7.toInt % 4 := by rw [e2]; exact i_rmR rfl rfl (by omega)
  refine b_if_ne (tgt := 760) hx hb dL_step_753 (by decide) (fun (hh3 : ¬ v2.toInt = 0) => ?_) (fun (hh3 : v2.toInt = 0) => ?_)
  · refine lv_iload hx hb dL_step_760 (lv_at hl 7 rfl) ?_
    refine lv_iconst (v := 4) hx hb dL_step_762 (by decide) ?_
    refine lv_idiv hx hb dL_step_763 (by decide) ?_
    refine lv_topi (fun v4 e4 => ?_)
    have q4 : v4.toInt = p7.toInt / 4 := by rw [e4]; exact i_divR rfl rfl (by omega)
    refine lv_iload hx hb dL_step_764 (lv_at hl 7 rfl) ?_
    refine lv_iconst (v := 3) hx hb dL_step_766 (by decide) ?_
    refine g_irem hx hb dL_step_767 (by decide) ?_
    refine lv_topi (fun v5 e5 => ?_)
    have q5 : v5.toInt = p7.toInt % 3 := by rw [e5]; exact i_rmR rfl rfl (by omega)
    refine b_if_ne (tgt := 776) hx hb dL_step_768 (by decide) (fun (hh6 : ¬ v5.toInt = 0) => ?_) (fun (hh6 : v5.toInt = 0) => ?_)
    · refine lv_sipush (v := 30000) hx hb dL_step_776 (by decide) ?_
      refine g_irem hx hb dL_step_779 (by decide) ?_
      refine lv_topi (fun v7 e7 => ?_)
      have q7 : v7.toInt = v4.toInt % 30000 := by rw [e7]; exact i_rmR rfl rfl (by omega)
      refine wrN0 hC hY (48 + ix p9) (i_ixc (C := 48) rfl ⟨by omega, by omega⟩ (by decide)) (by omega) dL_step_780 (fun H locs hY => ?_)
      exact s_c9b (vc := v7) l hst hC hr hlocks hLI h5 h6 h7 hp ⟨by have z : (-1 : Int32).toInt = -1 := rfl; have z0 : (0 : Int32).toInt = 0 := rfl; omega, by have z : (-1 : Int32).toInt = -1 := rfl; have z0 : (0 : Int32).toInt = 0 := rfl; omega⟩ hY (lv_sub hl [0, 1, 2, 3, 4, 5, 6, 7, 8, 9] rfl)
    · refine lv_ldc (v := 1000000) hx hb hC.2.2.2.1 (hC.2.2.2.2 _ (by decide +kernel)) dL_step_771 ?_
      refine lv_goto (tgt := 779) hx hb dL_step_773 (by decide) ?_
      refine g_irem hx hb dL_step_779 (by decide) ?_
      refine lv_topi (fun v8 e8 => ?_)
      have q8 : v8.toInt = v4.toInt % 1000000 := by rw [e8]; exact i_rmR rfl rfl (by omega)
      refine wrN0 hC hY (48 + ix p9) (i_ixc (C := 48) rfl ⟨by omega, by omega⟩ (by decide)) (by omega) dL_step_780 (fun H locs hY => ?_)
      exact s_c9b (vc := v8) l hst hC hr hlocks hLI h5 h6 h7 hp ⟨by have z : (-1 : Int32).toInt = -1 := rfl; have z0 : (0 : Int32).toInt = 0 := rfl; omega, by have z : (-1 : Int32).toInt = -1 := rfl; have z0 : (0 : Int32).toInt = 0 := rfl; omega⟩ hY (lv_sub hl [0, 1, 2, 3, 4, 5, 6, 7, 8, 9] rfl)
  · refine lv_iconst (v := (-1)) hx hb dL_step_756 (by decide) ?_
    refine lv_goto (tgt := 780) hx hb dL_step_757 (by decide) ?_
    refine wrN0 hC hY (48 + ix p9) (i_ixc (C := 48) rfl ⟨by omega, by omega⟩ (by decide)) (by omega) dL_step_780 (fun H locs hY => ?_)
    exact s_c9b (vc := (-1)) l hst hC hr hlocks hLI h5 h6 h7 hp ⟨by have z : (-1 : Int32).toInt = -1 := rfl; have z0 : (0 : Int32).toInt = 0 := rfl; omega, by have z : (-1 : Int32).toInt = -1 := rfl; have z0 : (0 : Int32).toInt = 0 := rfl; omega⟩ hY (lv_sub hl [0, 1, 2, 3, 4, 5, 6, 7, 8, 9] rfl)

set_option maxHeartbeats 4000000 in
set_option maxRecDepth 100000 in
theorem s_cdz {p : Program} {e : Env} {s : State} {m : MethodId} {args : Array Value} {below : List Frame} {meth : Method} {c : Code} {H : Heap} {locs : List Loc} {ls : Array Slot} {G : GG} {ad : Nat → Nat} {σ : St} {n : Nat} {τ : St} (l : Launch) (hst : l.stackTraces = false) (hC : CallFix p m c cL_step 17 s args wsL_step RL) (hr : meth.sig.returnType = some .boolean) (hlocks : meth.locks = false) (hLI : LI σ n τ) {p5 p6 p7 p9 : Int32} (h5 : 0 ≤ p5.toInt) (h6 : 0 ≤ p6.toInt) (h7 : 0 ≤ p7.toInt) (hz : n = 0) (hz0 : p9.toInt = 0) (hY : SyS G ad σ n τ s H locs) (hl : lv_has ls 17 [(0, .ref (ad 0)), (1, .ref (ad 5)), (2, .ref (ad 6)), (3, .ref (ad 7)), (4, .ref (ad 8)), (5, .int p5), (6, .int p6), (7, .int p7), (8, .int (nI n)), (9, .int p9)]) : W p l e ({ frames := 10, cells := 40, slots := 260, locals := 230 }) s m args below meth c H locs 0 0 (MQ below (QL G ad) args s 40 260 (gF G)) (F0 m 818 ls []) := by
  have hx := hC.1
  have hb := hC.2.1
  have hI9 := hLI.1
  have hn24 := hLI.1.1
  have hok := hLI.1.2.2.2.1
  have hn12 := hLI.2.1
  have hnI : (nI n).toInt = (n : Int) := i_nI (by omega)
  refine lv_iload hx hb dL_step_818 (lv_at hl 8 rfl) ?_
  refine b_if_eq (tgt := 841) hx hb dL_step_820 (by decide) (fun (hh1 : (nI n).toInt = 0) => ?_) (fun (hh1 : ¬ (nI n).toInt = 0) => absurd hh1 (by omega))
  refine lv_iconst (v := 1) hx hb dL_step_841 (by decide) ?_
  refine lv_goto (tgt := 846) hx hb dL_step_842 (by decide) ?_
  exact g_zretL hC hr hlocks hY (fun _ _ => rfl) (hLI) ⟨by show _ ≤ (40 : Nat); omega, by show _ ≤ (260 : Nat); omega⟩ dL_step_846

set_option maxHeartbeats 4000000 in
set_option maxRecDepth 100000 in
theorem s_cd {p : Program} {e : Env} {s : State} {m : MethodId} {args : Array Value} {below : List Frame} {meth : Method} {c : Code} {H : Heap} {locs : List Loc} {ls : Array Slot} {G : GG} {ad : Nat → Nat} {σ : St} {n : Nat} {τ : St} (l : Launch) (hst : l.stackTraces = false) (hC : CallFix p m c cL_step 17 s args wsL_step RL) (hr : meth.sig.returnType = some .boolean) (hlocks : meth.locks = false) (hLI : LI σ n τ) {p5 p6 p7 p9 : Int32} (h5 : 0 ≤ p5.toInt) (h6 : 0 ≤ p6.toInt) (h7 : 0 ≤ p7.toInt) (hp : 0 ≤ p9.toInt ∧ p9.toInt < (n : Int)) (hY : SyS G ad σ n τ s H locs) (hl : lv_has ls 17 [(0, .ref (ad 0)), (1, .ref (ad 5)), (2, .ref (ad 6)), (3, .ref (ad 7)), (4, .ref (ad 8)), (5, .int p5), (6, .int p6), (7, .int p7), (8, .int (nI n)), (9, .int p9)]) : W p l e ({ frames := 10, cells := 40, slots := 260, locals := 230 }) s m args below meth c H locs 0 0 (MQ below (QL G ad) args s 40 260 (gF G)) (F0 m 818 ls []) := by
  have hx := hC.1
  have hb := hC.2.1
  have hI9 := hLI.1
  have hn24 := hLI.1.1
  have hok := hLI.1.2.2.2.1
  have hn12 := hLI.2.1
  have hnI : (nI n).toInt = (n : Int) := i_nI (by omega)
  refine lv_iload hx hb dL_step_818 (lv_at hl 8 rfl) ?_
  refine b_if_eq (tgt := 841) hx hb dL_step_820 (by decide) (fun (hh1 : (nI n).toInt = 0) => absurd hh1 (by omega)) (fun (hh1 : ¬ (nI n).toInt = 0) => ?_)
  refine lv_aload_n hx hb dL_step_823 rfl (lv_at hl 0 rfl) ?_
  refine lv_aload_n hx hb dL_step_824 rfl (lv_at hl 1 rfl) ?_
  refine lv_aload_n hx hb dL_step_825 rfl (lv_at hl 3 rfl) ?_
  refine lv_iload hx hb dL_step_826 (lv_at hl 9 rfl) ?_
  refine lv_iload hx hb dL_step_828 (lv_at hl 6 rfl) ?_
  refine lv_bipush (v := 12) hx hb dL_step_830 (by decide) ?_
  refine lv_idiv hx hb dL_step_832 (by decide) ?_
  refine lv_topi (fun v2 e2 => ?_)
  have q2 : v2.toInt = p6.toInt / 12 := by rw [e2]; exact i_divR rfl rfl (by omega)
  refine lv_iload hx hb dL_step_833 (lv_at hl 7 rfl) ?_
  refine gn_callL hY (g_runS (n := 6) hC (c_L_pays l G ad σ n τ hst hLI p9 v2 p7 hp (by omega) (by omega)) gL_step_L_pays rfl ⟨rfl, rfl⟩ (by decide +kernel) ⟨Nat.le_of_ble_eq_true rfl, Nat.le_of_ble_eq_true rfl⟩ hY rfl hl.1 rfl (Nat.le_of_ble_eq_true rfl) dL_step_835 ⟨by show _ ≤ (40 : Nat); omega, by show _ ≤ (260 : Nat); omega⟩) (fun u σ2 n2 τ2 H locs hu hLI2 hY => ?_)
  refine b_if_eq (tgt := 845) hx hb dL_step_838 (by decide) (fun h => absurd h (by decide)) (fun _ => ?_)
  refine lv_iconst (v := 1) hx hb dL_step_841 (by decide) ?_
  refine lv_goto (tgt := 846) hx hb dL_step_842 (by decide) ?_
  exact g_zretL hC hr hlocks hY hu hLI2 ⟨by show _ ≤ (40 : Nat); omega, by show _ ≤ (260 : Nat); omega⟩ dL_step_846

set_option maxHeartbeats 4000000 in
set_option maxRecDepth 100000 in
theorem s_step2 {p : Program} {e : Env} {s : State} {m : MethodId} {args : Array Value} {below : List Frame} {meth : Method} {c : Code} {H : Heap} {locs : List Loc} {ls : Array Slot} {G : GG} {ad : Nat → Nat} {σ : St} {n : Nat} {τ : St} (l : Launch) (hst : l.stackTraces = false) (hC : CallFix p m c cL_step 17 s args wsL_step RL) (hr : meth.sig.returnType = some .boolean) (hlocks : meth.locks = false) (hLI : LI σ n τ) {p5 p6 p7 p9 : Int32} (h5 : 0 ≤ p5.toInt) (h6 : 0 ≤ p6.toInt) (h7 : 0 ≤ p7.toInt) (h9 : (n = 0 ∧ p9.toInt = 0) ∨ (0 ≤ p9.toInt ∧ p9.toInt < (n : Int))) (hY : SyS G ad σ n τ s H locs) (hl : lv_has ls 17 [(0, .ref (ad 0)), (1, .ref (ad 5)), (2, .ref (ad 6)), (3, .ref (ad 7)), (4, .ref (ad 8)), (5, .int p5), (6, .int p6), (7, .int p7), (8, .int (nI n)), (9, .int p9)]) : W p l e ({ frames := 10, cells := 40, slots := 260, locals := 230 }) s m args below meth c H locs 0 0 (MQ below (QL G ad) args s 40 260 (gF G)) (F0 m 21 ls []) := by
  have hx := hC.1
  have hb := hC.2.1
  have hI9 := hLI.1
  have hn24 := hLI.1.1
  have hok := hLI.1.2.2.2.1
  have hn12 := hLI.2.1
  have hnI : (nI n).toInt = (n : Int) := i_nI (by omega)
  refine lv_iload hx hb dL_step_21 (lv_at hl 5 rfl) ?_
  refine lv_bipush (v := 12) hx hb dL_step_23 (by decide) ?_
  refine g_irem hx hb dL_step_25 (by decide) ?_
  refine lv_topi (fun v1 e1 => ?_)
  have q1 : v1.toInt = p5.toInt % 12 := by rw [e1]; exact i_rmR rfl rfl (by omega)
  rcases (show v1.toInt = 0 ∨ v1.toInt = 1 ∨ v1.toInt = 2 ∨ v1.toInt = 3 ∨ v1.toInt = 4 ∨ v1.toInt = 5 ∨ v1.toInt = 6 ∨ v1.toInt = 7 ∨ v1.toInt = 8 ∨ v1.toInt = 9 ∨ 10 ≤ v1.toInt by omega) with h | h | h | h | h | h | h | h | h | h | h
  · refine lv_tableIn (off := 54) (tgt := 80) hx hb dL_step_26 (by omega) (by omega) (by rw [h]; rfl) (by decide) ?_
    exact s_c0 l hst hC hr hlocks hLI h5 h6 h7 hY (lv_sub hl [0, 1, 2, 3, 4, 5, 6, 7, 8, 9] rfl)
  · refine lv_tableIn (off := 104) (tgt := 130) hx hb dL_step_26 (by omega) (by omega) (by rw [h]; rfl) (by decide) ?_
    exact s_c1 l hst hC hr hlocks hLI h5 h6 h7 hY (lv_sub hl [0, 1, 2, 3, 4, 5, 6, 7, 8, 9] rfl)
  · refine lv_tableIn (off := 165) (tgt := 191) hx hb dL_step_26 (by omega) (by omega) (by rw [h]; rfl) (by decide) ?_
    exact s_c2 l hst hC hr hlocks hLI h5 h6 h7 hY (lv_sub hl [0, 1, 2, 3, 4, 5, 6, 7, 8, 9] rfl)
  · refine lv_tableIn (off := 210) (tgt := 236) hx hb dL_step_26 (by omega) (by omega) (by rw [h]; rfl) (by decide) ?_
    exact s_c3 l hst hC hr hlocks hLI h5 h6 h7 hY (lv_sub hl [0, 1, 2, 3, 4, 5, 6, 7, 8, 9] rfl)
  · refine lv_tableIn (off := 210) (tgt := 236) hx hb dL_step_26 (by omega) (by omega) (by rw [h]; rfl) (by decide) ?_
    exact s_c3 l hst hC hr hlocks hLI h5 h6 h7 hY (lv_sub hl [0, 1, 2, 3, 4, 5, 6, 7, 8, 9] rfl)
  · refine lv_tableIn (off := 210) (tgt := 236) hx hb dL_step_26 (by omega) (by omega) (by rw [h]; rfl) (by decide) ?_
    exact s_c3 l hst hC hr hlocks hLI h5 h6 h7 hY (lv_sub hl [0, 1, 2, 3, 4, 5, 6, 7, 8, 9] rfl)
  · refine lv_tableIn (off := 293) (tgt := 319) hx hb dL_step_26 (by omega) (by omega) (by rw [h]; rfl) (by decide) ?_
    rcases h9 with ⟨hz, hz0⟩ | hp
    · exact s_c6z l hst hC hr hlocks hLI h5 h6 h7 hz hz0 hY (lv_sub hl [0, 1, 2, 3, 4, 5, 6, 7, 8, 9] rfl)
    · exact s_c6 l hst hC hr hlocks hLI h5 h6 h7 hp hY (lv_sub hl [0, 1, 2, 3, 4, 5, 6, 7, 8, 9] rfl)
  · refine lv_tableIn (off := 391) (tgt := 417) hx hb dL_step_26 (by omega) (by omega) (by rw [h]; rfl) (by decide) ?_
    rcases h9 with ⟨hz, hz0⟩ | hp
    · exact s_c7z l hst hC hr hlocks hLI h5 h6 h7 hz hz0 hY (lv_sub hl [0, 1, 2, 3, 4, 5, 6, 7, 8, 9] rfl)
    · exact s_c7 l hst hC hr hlocks hLI h5 h6 h7 hp hY (lv_sub hl [0, 1, 2, 3, 4, 5, 6, 7, 8, 9] rfl)
  · refine lv_tableIn (off := 571) (tgt := 597) hx hb dL_step_26 (by omega) (by omega) (by rw [h]; rfl) (by decide) ?_
    rcases h9 with ⟨hz, hz0⟩ | hp
    · exact s_c8z l hst hC hr hlocks hLI h5 h6 h7 hz hz0 hY (lv_sub hl [0, 1, 2, 3, 4, 5, 6, 7, 8, 9] rfl)
    · exact s_c8 l hst hC hr hlocks hLI h5 h6 h7 hp hY (lv_sub hl [0, 1, 2, 3, 4, 5, 6, 7, 8, 9] rfl)
  · refine lv_tableIn (off := 712) (tgt := 738) hx hb dL_step_26 (by omega) (by omega) (by rw [h]; rfl) (by decide) ?_
    rcases h9 with ⟨hz, hz0⟩ | hp
    · exact s_c9z l hst hC hr hlocks hLI h5 h6 h7 hz hz0 hY (lv_sub hl [0, 1, 2, 3, 4, 5, 6, 7, 8, 9] rfl)
    · exact s_c9 l hst hC hr hlocks hLI h5 h6 h7 hp hY (lv_sub hl [0, 1, 2, 3, 4, 5, 6, 7, 8, 9] rfl)
  · refine lv_tableOut (tgt := 818) hx hb dL_step_26 (Or.inr (by omega)) (by decide) ?_
    rcases h9 with ⟨hz, hz0⟩ | hp
    · exact s_cdz l hst hC hr hlocks hLI h5 h6 h7 hz hz0 hY (lv_sub hl [0, 1, 2, 3, 4, 5, 6, 7, 8, 9] rfl)
    · exact s_cd l hst hC hr hlocks hLI h5 h6 h7 hp hY (lv_sub hl [0, 1, 2, 3, 4, 5, 6, 7, 8, 9] rfl)

set_option maxHeartbeats 4000000 in
set_option maxRecDepth 100000 in
theorem s_step {p : Program} {e : Env} {s : State} {m : MethodId} {args : Array Value} {below : List Frame} {meth : Method} {c : Code} {H : Heap} {locs : List Loc} {ls : Array Slot} {G : GG} {ad : Nat → Nat} {σ : St} {n : Nat} {τ : St} (l : Launch) (hst : l.stackTraces = false) (hC : CallFix p m c cL_step 17 s args wsL_step RL) (hr : meth.sig.returnType = some .boolean) (hlocks : meth.locks = false) (hLI : LI σ n τ) {p5 p6 p7 : Int32} (h5 : 0 ≤ p5.toInt) (h6 : 0 ≤ p6.toInt) (h7 : 0 ≤ p7.toInt) (hY : SyS G ad σ n τ s H locs) (hl : lv_has ls 17 [(0, .ref (ad 0)), (1, .ref (ad 5)), (2, .ref (ad 6)), (3, .ref (ad 7)), (4, .ref (ad 8)), (5, .int p5), (6, .int p6), (7, .int p7)]) : W p l e ({ frames := 10, cells := 40, slots := 260, locals := 230 }) s m args below meth c H locs 0 0 (MQ below (QL G ad) args s 40 260 (gF G)) (F0 m 0 ls []) := by
  have hx := hC.1
  have hb := hC.2.1
  have hI9 := hLI.1
  have hn24 := hLI.1.1
  have hok := hLI.1.2.2.2.1
  have hn12 := hLI.2.1
  have hnI : (nI n).toInt = (n : Int) := i_nI (by omega)
  refine lv_aload_n hx hb dL_step_0 rfl (lv_at hl 2 rfl) ?_
  refine lv_iconst (v := 0) hx hb dL_step_1 (by decide) ?_
  refine rdN1 hC hY (0) rfl (by omega) (v := nI n) (hLI.2.2.1) dL_step_2 ?_
  refine lv_istore (lv' := [(8, .int (nI n)), (0, .ref (ad 0)), (1, .ref (ad 5)), (2, .ref (ad 6)), (3, .ref (ad 7)), (4, .ref (ad 8)), (5, .int p5), (6, .int p6), (7, .int p7)]) hx hb dL_step_3 hl (by decide) rfl (fun ls hl => ?_)
  refine lv_iload hx hb dL_step_5 (lv_at hl 0 rfl) ?_
  refine b_if_ne (tgt := 14) hx hb dL_step_7 (by decide) (fun (hh1 : ¬ (nI n).toInt = 0) => ?_) (fun (hh1 : (nI n).toInt = 0) => ?_)
  · refine lv_iload hx hb dL_step_14 (lv_at hl 7 rfl) ?_
    refine lv_iload hx hb dL_step_16 (lv_at hl 0 rfl) ?_
    refine g_irem hx hb dL_step_18 (fun q => by have q2 := congrArg Int32.toInt q; have q3 : (0 : Int32).toInt = 0 := rfl; omega) ?_
    refine lv_topi (fun v2 e2 => ?_)
    have q2 : v2.toInt = p6.toInt % (nI n).toInt := by rw [e2]; exact i_rmR rfl rfl (by omega)
    have bv2 := i_rmB (x := p6) (y := nI n) ⟨by omega, by omega⟩
    rw [← e2] at bv2
    refine lv_istore (lv' := [(9, .int v2), (8, .int (nI n)), (0, .ref (ad 0)), (1, .ref (ad 5)), (2, .ref (ad 6)), (3, .ref (ad 7)), (4, .ref (ad 8)), (5, .int p5), (6, .int p6), (7, .int p7)]) hx hb dL_step_19 hl (by decide) rfl (fun ls hl => ?_)
    exact s_step2 (p9 := v2) l hst hC hr hlocks hLI h5 h6 h7 (Or.inr ⟨by omega, by omega⟩) hY (lv_sub hl [2, 3, 4, 5, 6, 7, 8, 9, 1, 0] rfl)
  · refine lv_iconst (v := 0) hx hb dL_step_10 (by decide) ?_
    refine lv_goto (tgt := 19) hx hb dL_step_11 (by decide) ?_
    refine lv_istore (lv' := [(9, .int 0), (8, .int (nI n)), (0, .ref (ad 0)), (1, .ref (ad 5)), (2, .ref (ad 6)), (3, .ref (ad 7)), (4, .ref (ad 8)), (5, .int p5), (6, .int p6), (7, .int p7)]) hx hb dL_step_19 hl (by decide) rfl (fun ls hl => ?_)
    exact s_step2 (p9 := 0) l hst hC hr hlocks hLI h5 h6 h7 (Or.inl ⟨by omega, rfl⟩) hY (lv_sub hl [2, 3, 4, 5, 6, 7, 8, 9, 1, 0] rfl)

set_option maxHeartbeats 4000000 in
set_option maxRecDepth 100000 in
theorem c_L_step (l : Launch) (G : GG) (ad : Nat → Nat) (σ : St) (n : Nat) (τ : St) (hst : l.stackTraces = false) (hLI : LI σ n τ) (p5 p6 p7 : Int32) (h5 : 0 ≤ p5.toInt) (h6 : 0 ≤ p6.toInt) (h7 : 0 ≤ p7.toInt) : Met l yL_step wsL_step ({ frames := 10, cells := 40, slots := 260, locals := 230 }) (PcS G ad σ n τ [.ref (ad 0), .ref (ad 5), .ref (ad 6), .ref (ad 7), .ref (ad 8), .int p5, .int p6, .int p7]) (QL G ad) 40 260 (gF G) := by
  refine Met.ofW (cc := cL_step) (maxL := 17) (ret := (some .boolean)) (by decide) rfl ?_
  intro p e s m args below meth c s₁ B hml hv
  obtain ⟨rfl, hY⟩ := hv
  have hts := atoms_spec (ws := wsL_step) B.pre
  have hC : CallFix p m c cL_step 17 s _ wsL_step RL := ⟨B.exec, B.bytes, hml, findClass_of_methodNamed B.named, hts⟩
  have hl := lv_entry ([.ref (ad 0), .ref (ad 5), .ref (ad 6), .ref (ad 7), .ref (ad 8), .int p5, .int p6, .int p7]) (n := 17) (Nat.le_of_ble_eq_true rfl)
  rw [lg_entry_eq]
  generalize (lg_sl ([.ref (ad 0), .ref (ad 5), .ref (ad 6), .ref (ad 7), .ref (ad 8), .int p5, .int p6, .int p7]) ++ List.replicate (17 - (lg_sl ([.ref (ad 0), .ref (ad 5), .ref (ad 6), .ref (ad 7), .ref (ad 8), .int p5, .int p6, .int p7])).length) Slot.unset).toArray = ls at hl ⊢
  exact s_step l hst hC B.returns B.notSynchronized hLI h5 h6 h7 hY hl

/-! the law: the cost of a year, deposits, letting -/
set_option maxHeartbeats 4000000 in
set_option maxRecDepth 100000 in
theorem s_isCost {p : Program} {e : Env} {s : State} {m : MethodId} {args : Array Value} {below : List Frame} {meth : Method} {c : Code} {H : Heap} {locs : List Loc} {ls : Array Slot} {G : GG} {ad : Nat → Nat} {σ : St} {n : Nat} {τ : St} (l : Launch) (hst : l.stackTraces = false) (hC : CallFix p m c cL_isCost 6 s args wsL_isCost RL) (hr : meth.sig.returnType = some .boolean) (hlocks : meth.locks = false) (hLI : LI σ n τ) {p1 : Int32} (hy : 0 ≤ p1.toInt ∧ p1.toInt < 20) (hY : SyS G ad σ n τ s H locs) (hl : lv_has ls 6 [(0, .ref (ad 0)), (1, .int p1), (2, .int (ptP σ p1 n))]) : W p l e ({ frames := 9, cells := 30, slots := 180, locals := 190 }) s m args below meth c H locs 0 0 (MQ below (Qi G (3 * n + 9) ad (ctS G ad σ n τ) (fun r => r = 1)) args s 30 180 (gF G)) (F0 m 0 ls []) := by
  have hx := hC.1
  have hb := hC.2.1
  have hI9 := hLI.1
  have hn24 := hLI.1.1
  have hok := hLI.1.2.2.2.1
  have hn12 := hLI.2.1
  have hnI : (nI n).toInt = (n : Int) := i_nI (by omega)
  have hc := hLI.2.2.2.2.2.2.2 _ (ix_lt (N := 20) hy)
  refine lv_aload_n hx hb dL_isCost_0 rfl (lv_at hl 0 rfl) ?_
  refine lv_iload_n hx hb dL_isCost_1 rfl (lv_at hl 1 rfl) ?_
  refine gn_calli hY (gx_runV (n := 1) (q := (RX1, TX1, 5)) (r := 0) hC (c_X1_owners l G ad σ n τ hst p1) gL_isCost_X1_owners rfl ⟨rfl, rfl⟩ (by decide +kernel) ⟨Nat.le_of_ble_eq_true rfl, Nat.le_of_ble_eq_true rfl⟩ hY (by omega) rfl (ci := 1) rfl rfl hl.1 rfl (Nat.le_of_ble_eq_true rfl) dL_isCost_2 ⟨by show _ ≤ (30 : Nat); omega, by show _ ≤ (180 : Nat); omega⟩) (exC_0 (cdU1_0 ⟨by omega, by omega⟩)) (fun r2 H locs hh1 hY => ?_)
  obtain ⟨-, rfl⟩ := hh1
  refine lv_istore_n (lv' := [(3, .int (owP σ n p1 24)), (0, .ref (ad 0)), (1, .int p1), (2, .int (ptP σ p1 n))]) hx hb dL_isCost_5 rfl hl (by decide) rfl (fun ls hl => ?_)
  refine lv_aload_n hx hb dL_isCost_6 rfl (lv_at hl 1 rfl) ?_
  refine lv_iload_n hx hb dL_isCost_7 rfl (lv_at hl 2 rfl) ?_
  refine lv_iconst (v := 0) hx hb dL_isCost_8 (by decide) ?_
  refine gn_calli hY (gx_runV (n := 2) (q := (RX1, TX1, 5)) (r := 0) hC (c_X1_setCost l G ad σ n τ hst p1 0) gL_isCost_X1_setCost rfl ⟨rfl, rfl⟩ (by decide +kernel) ⟨Nat.le_of_ble_eq_true rfl, Nat.le_of_ble_eq_true rfl⟩ hY (by omega) rfl (ci := 1) rfl rfl hl.1 rfl (Nat.le_of_ble_eq_true rfl) dL_isCost_9 ⟨by show _ ≤ (30 : Nat); omega, by show _ ≤ (180 : Nat); omega⟩) (exC_0 (cdCost_0 hy ⟨by decide, by decide⟩)) (fun r4 H locs hh3 hY => ?_)
  obtain ⟨-, rfl⟩ := hh3
  refine lv_istore (lv' := [(4, .int (σ 2 (ix p1))), (3, .int (owP σ n p1 24)), (0, .ref (ad 0)), (1, .int p1), (2, .int (ptP σ p1 n))]) hx hb dL_isCost_12 hl (by decide) rfl (fun ls hl => ?_)
  refine lv_iload_n hx hb dL_isCost_14 rfl (lv_at hl 4 rfl) ?_
  refine lv_iload_n hx hb dL_isCost_15 rfl (lv_at hl 1 rfl) ?_
  refine lv_iadd hx hb dL_isCost_16 ?_
  refine g_top (y := σ 2 (ix p1)) (ow_sum hn24) ?_
  refine lv_iload hx hb dL_isCost_17 (lv_at hl 0 rfl) ?_
  refine b_icmp_ne (tgt := 34) hx hb dL_isCost_19 (by decide) (fun h => absurd rfl h) (fun _ => ?_)
  refine lv_aload_n hx hb dL_isCost_22 rfl (lv_at hl 2 rfl) ?_
  refine lv_iload_n hx hb dL_isCost_23 rfl (lv_at hl 3 rfl) ?_
  refine gn_calli hY (gx_runV (n := 1) (q := (RX1, TX1, 5)) (r := 0) hC (c_X1_owners l G ad (us σ 2 (ix p1) 0) n τ hst p1) gL_isCost_X1_owners rfl ⟨rfl, rfl⟩ (by decide +kernel) ⟨Nat.le_of_ble_eq_true rfl, Nat.le_of_ble_eq_true rfl⟩ hY (by omega) rfl (ci := 1) rfl rfl hl.1 rfl (Nat.le_of_ble_eq_true rfl) dL_isCost_24 ⟨by show _ ≤ (30 : Nat); omega, by show _ ≤ (180 : Nat); omega⟩) (exC_0 (cdU1_0 ⟨by omega, by omega⟩)) (fun r6 H locs hh5 hY => ?_)
  obtain ⟨-, rfl⟩ := hh5
  refine b_if_ne (tgt := 34) hx hb dL_isCost_27 (by decide) (fun (hh7 : ¬ (owP (us σ 2 (ix p1) 0) n p1 24).toInt = 0) => absurd hh7 (by exact fun q => q (by rw [ow_0 hI9 hy]; rfl))) (fun (hh7 : (owP (us σ 2 (ix p1) 0) n p1 24).toInt = 0) => ?_)
  refine lv_iconst (v := 1) hx hb dL_isCost_30 (by decide) ?_
  refine lv_goto (tgt := 35) hx hb dL_isCost_31 (by decide) ?_
  refine lv_istore (lv' := [(5, .int 1), (4, .int (σ 2 (ix p1))), (3, .int (owP σ n p1 24)), (0, .ref (ad 0)), (1, .int p1), (2, .int (ptP σ p1 n))]) hx hb dL_isCost_35 hl (by decide) rfl (fun ls hl => ?_)
  refine lv_aload_n hx hb dL_isCost_37 rfl (lv_at hl 3 rfl) ?_
  refine lv_iload_n hx hb dL_isCost_38 rfl (lv_at hl 4 rfl) ?_
  refine lv_iload hx hb dL_isCost_39 (lv_at hl 1 rfl) ?_
  refine gn_calli hY (gx_runV (n := 2) (q := (RX1, TX1, 5)) (r := 0) hC (c_X1_setCost l G ad (us σ 2 (ix p1) 0) n τ hst p1 (σ 2 (ix p1))) gL_isCost_X1_setCost rfl ⟨rfl, rfl⟩ (by decide +kernel) ⟨Nat.le_of_ble_eq_true rfl, Nat.le_of_ble_eq_true rfl⟩ hY (by omega) rfl (ci := 1) rfl rfl hl.1 rfl (Nat.le_of_ble_eq_true rfl) dL_isCost_41 ⟨by show _ ≤ (30 : Nat); omega, by show _ ≤ (180 : Nat); omega⟩) (exC_0 (cdCost_0 hy hc)) (fun r9 H locs hh8 hY => ?_)
  obtain ⟨-, rfl⟩ := hh8
  refine b_if_ne (tgt := 65) hx hb dL_isCost_44 (by decide) (fun (hh10 : ¬ ((us σ 2 (ix p1) 0) 2 (ix p1)).toInt = 0) => absurd hh10 (by exact fun q => q (by rw [us_eq]; rfl))) (fun (hh10 : ((us σ 2 (ix p1) 0) 2 (ix p1)).toInt = 0) => ?_)
  rw [us_back] at hY
  refine lv_iload hx hb dL_isCost_47 (lv_at hl 0 rfl) ?_
  refine b_if_eq (tgt := 65) hx hb dL_isCost_49 (by decide) (fun h => absurd h (by decide)) (fun _ => ?_)
  refine lv_aload_n hx hb dL_isCost_52 rfl (lv_at hl 3 rfl) ?_
  refine lv_iload_n hx hb dL_isCost_53 rfl (lv_at hl 4 rfl) ?_
  refine gn_calli hY (gx_runV (n := 1) (q := (RX1, TX1, 5)) (r := 0) hC (c_X1_owners l G ad σ n τ hst p1) gL_isCost_X1_owners rfl ⟨rfl, rfl⟩ (by decide +kernel) ⟨Nat.le_of_ble_eq_true rfl, Nat.le_of_ble_eq_true rfl⟩ hY (by omega) rfl (ci := 1) rfl rfl hl.1 rfl (Nat.le_of_ble_eq_true rfl) dL_isCost_54 ⟨by show _ ≤ (30 : Nat); omega, by show _ ≤ (180 : Nat); omega⟩) (exC_0 (cdU1_0 ⟨by omega, by omega⟩)) (fun r13 H locs hh12 hY => ?_)
  obtain ⟨-, rfl⟩ := hh12
  refine lv_iload_n hx hb dL_isCost_57 rfl (lv_at hl 2 rfl) ?_
  refine b_icmp_ne (tgt := 65) hx hb dL_isCost_58 (by decide) (fun h => absurd rfl h) (fun _ => ?_)
  refine lv_iconst (v := 1) hx hb dL_isCost_61 (by decide) ?_
  refine lv_goto (tgt := 66) hx hb dL_isCost_62 (by decide) ?_
  exact g_zret hC hr hlocks rfl hY ⟨by show _ ≤ (30 : Nat); omega, by show _ ≤ (180 : Nat); omega⟩ dL_isCost_66 rfl

set_option maxHeartbeats 4000000 in
set_option maxRecDepth 100000 in
theorem c_L_isCost (l : Launch) (G : GG) (ad : Nat → Nat) (σ : St) (n : Nat) (τ : St) (hst : l.stackTraces = false) (hLI : LI σ n τ) (p1 : Int32) (hy : 0 ≤ p1.toInt ∧ p1.toInt < 20) : Met l yL_isCost wsL_isCost ({ frames := 9, cells := 30, slots := 180, locals := 190 }) (PcS G ad σ n τ [.ref (ad 0), .int p1, .int (ptP σ p1 n)]) (Qi G (3 * n + 9) ad (ctS G ad σ n τ) (fun r => r = 1)) 30 180 (gF G) := by
  refine Met.ofW (cc := cL_isCost) (maxL := 6) (ret := (some .boolean)) (by decide) rfl ?_
  intro p e s m args below meth c s₁ B hml hv
  obtain ⟨rfl, hY⟩ := hv
  have hts := atoms_spec (ws := wsL_isCost) B.pre
  have hC : CallFix p m c cL_isCost 6 s _ wsL_isCost RL := ⟨B.exec, B.bytes, hml, findClass_of_methodNamed B.named, hts⟩
  have hl := lv_entry ([.ref (ad 0), .int p1, .int (ptP σ p1 n)]) (n := 6) (Nat.le_of_ble_eq_true rfl)
  rw [lg_entry_eq]
  generalize (lg_sl ([.ref (ad 0), .int p1, .int (ptP σ p1 n)]) ++ List.replicate (6 - (lg_sl ([.ref (ad 0), .int p1, .int (ptP σ p1 n)])).length) Slot.unset).toArray = ls at hl ⊢
  exact s_isCost l hst hC B.returns B.notSynchronized hLI hy hY hl

set_option maxHeartbeats 4000000 in
set_option maxRecDepth 100000 in
theorem s_pays {p : Program} {e : Env} {s : State} {m : MethodId} {args : Array Value} {below : List Frame} {meth : Method} {c : Code} {H : Heap} {locs : List Loc} {ls : Array Slot} {G : GG} {ad : Nat → Nat} {σ : St} {n : Nat} {τ : St} (l : Launch) (hst : l.stackTraces = false) (hC : CallFix p m c cL_pays 9 s args wsL_pays RL) (hr : meth.sig.returnType = some .boolean) (hlocks : meth.locks = false) (hLI : LI σ n τ) {p3 p4 p5 : Int32} (hp : 0 ≤ p3.toInt ∧ p3.toInt < (n : Int)) (h4 : 0 ≤ p4.toInt) (h5 : 0 ≤ p5.toInt) (hY : SyS G ad σ n τ s H locs) (hl : lv_has ls 9 [(0, .ref (ad 0)), (1, .ref (ad 5)), (2, .ref (ad 7)), (3, .int p3), (4, .int p4), (5, .int p5)]) : W p l e ({ frames := 9, cells := 18, slots := 108, locals := 190 }) s m args below meth c H locs 0 0 (MQ below (QL G ad) args s 18 108 (gF G)) (F0 m 0 ls []) := by
  have hx := hC.1
  have hb := hC.2.1
  have hI9 := hLI.1
  have hn24 := hLI.1.1
  have hok := hLI.1.2.2.2.1
  have hn12 := hLI.2.1
  have hnI : (nI n).toInt = (n : Int) := i_nI (by omega)
  have hk : ix p3 < n := ix_lt hp
  obtain ⟨r1, r2, r3, r4, r5, r6, r7, r8, r9⟩ := hLI.2.2.2.2.1 (ix p3) hk
  obtain ⟨s1, s2, s3⟩ := hLI.2.2.2.2.2.2.1 (ix p3) hk
  have hL := hok (ix p3) hk
  obtain ⟨f0, ⟨f1, f2, f3⟩, ⟨f4, f5⟩, ⟨f6, f7⟩, f8, ⟨f9, f10⟩, ⟨f11, f12⟩, ⟨f13, f14⟩, -⟩ := id hL
  refine lv_aload_n hx hb dL_pays_0 rfl (lv_at hl 1 rfl) ?_
  refine lv_bipush (v := 12) hx hb dL_pays_1 (by decide) ?_
  refine lv_iload_n hx hb dL_pays_3 rfl (lv_at hl 3 rfl) ?_
  refine lv_iadd hx hb dL_pays_4 ?_
  refine rdN0 hC hY (12 + ix p3) (i_ixc (C := 12) rfl ⟨by omega, by omega⟩ (by decide)) (by omega) (v := σ 4 (ix p3)) (r2) dL_pays_5 ?_
  refine lv_iload hx hb dL_pays_6 (lv_at hl 4 rfl) ?_
  refine lv_aload_n hx hb dL_pays_8 rfl (lv_at hl 1 rfl) ?_
  refine lv_bipush (v := 24) hx hb dL_pays_9 (by decide) ?_
  refine lv_iload_n hx hb dL_pays_11 rfl (lv_at hl 3 rfl) ?_
  refine lv_iadd hx hb dL_pays_12 ?_
  refine rdN0 hC hY (24 + ix p3) (i_ixc (C := 24) rfl ⟨by omega, by omega⟩ (by decide)) (by omega) (v := σ 5 (ix p3)) (r3) dL_pays_13 ?_
  refine lv_aload_n hx hb dL_pays_14 rfl (lv_at hl 1 rfl) ?_
  refine lv_bipush (v := 12) hx hb dL_pays_15 (by decide) ?_
  refine lv_iload_n hx hb dL_pays_17 rfl (lv_at hl 3 rfl) ?_
  refine lv_iadd hx hb dL_pays_18 ?_
  refine rdN0 hC hY (12 + ix p3) (i_ixc (C := 12) rfl ⟨by omega, by omega⟩ (by decide)) (by omega) (v := σ 4 (ix p3)) (r2) dL_pays_19 ?_
  refine lv_isub hx hb dL_pays_20 ?_
  refine lv_topi (fun v1 e1 => ?_)
  have q1 : v1.toInt = (σ 5 (ix p3)).toInt - (σ 4 (ix p3)).toInt := by rw [e1]; exact i_subR rfl rfl (by omega)
  refine g_irem hx hb dL_pays_21 (fun q => by have q2 := congrArg Int32.toInt q; have q3 : (0 : Int32).toInt = 0 := rfl; omega) ?_
  refine lv_topi (fun v2 e2 => ?_)
  have q2 : v2.toInt = p4.toInt % v1.toInt := by rw [e2]; exact i_rmR rfl rfl (by omega)
  have bv2 := i_rmB (x := p4) (y := v1) ⟨by omega, by omega⟩
  rw [← e2] at bv2
  refine lv_iadd hx hb dL_pays_22 ?_
  refine lv_topi (fun v3 e3 => ?_)
  have q3 : v3.toInt = (σ 4 (ix p3)).toInt + v2.toInt := by rw [e3]; exact i_addR rfl rfl (by omega)
  refine lv_istore (lv' := [(6, .int v3), (0, .ref (ad 0)), (1, .ref (ad 5)), (2, .ref (ad 7)), (3, .int p3), (4, .int p4), (5, .int p5)]) hx hb dL_pays_23 hl (by decide) rfl (fun ls hl => ?_)
  refine lv_aload_n hx hb dL_pays_25 rfl (lv_at hl 3 rfl) ?_
  refine lv_iload_n hx hb dL_pays_26 rfl (lv_at hl 4 rfl) ?_
  refine rdN2 hC hY (ix p3) (ix_of (by omega)) (by omega) (v := σ 11 (ix p3)) (r6) dL_pays_27 ?_
  refine lv_istore (lv' := [(7, .int (σ 11 (ix p3))), (6, .int v3), (0, .ref (ad 0)), (1, .ref (ad 5)), (2, .ref (ad 7)), (3, .int p3), (4, .int p4), (5, .int p5)]) hx hb dL_pays_28 hl (by decide) rfl (fun ls hl => ?_)
  refine lv_iload hx hb dL_pays_30 (lv_at hl 7 rfl) ?_
  refine lv_iconst (v := 3) hx hb dL_pays_32 (by decide) ?_
  refine g_irem hx hb dL_pays_33 (by decide) ?_
  refine lv_topi (fun v4 e4 => ?_)
  have q4 : v4.toInt = p5.toInt % 3 := by rw [e4]; exact i_rmR rfl rfl (by omega)
  refine b_if_ne (tgt := 110) hx hb dL_pays_34 (by decide) (fun (hh5 : ¬ v4.toInt = 0) => ?_) (fun (hh5 : v4.toInt = 0) => ?_)
  · refine lv_iconst (v := 1) hx hb dL_pays_110 (by decide) ?_
    refine lv_iload hx hb dL_pays_111 (lv_at hl 7 rfl) ?_
    refine lv_bipush (v := 6) hx hb dL_pays_113 (by decide) ?_
    refine g_irem hx hb dL_pays_115 (by decide) ?_
    refine lv_topi (fun v6 e6 => ?_)
    have q6 : v6.toInt = p5.toInt % 6 := by rw [e6]; exact i_rmR rfl rfl (by omega)
    refine lv_iadd hx hb dL_pays_116 ?_
    refine lv_topi (fun v7 e7 => ?_)
    have q7 : v7.toInt = 1 + v6.toInt := by rw [e7]; exact i_addR rfl rfl (by omega)
    refine lv_aload_n hx hb dL_pays_117 rfl (lv_at hl 2 rfl) ?_
    refine lv_iload_n hx hb dL_pays_118 rfl (lv_at hl 5 rfl) ?_
    refine lv_iload hx hb dL_pays_119 (lv_at hl 1 rfl) ?_
    refine gn_calli hY (gx_runV (n := 2) (q := (RX1, TX1, 5)) (r := 0) hC (c_X1_rentOn l G ad σ n τ hst hn24 hok p3 v3) gL_pays_X1_rentOn rfl ⟨rfl, rfl⟩ (by decide +kernel) ⟨Nat.le_of_ble_eq_true rfl, Nat.le_of_ble_eq_true rfl⟩ hY (by omega) rfl (ci := 1) rfl rfl hl.1 rfl (Nat.le_of_ble_eq_true rfl) dL_pays_121 ⟨by show _ ≤ (18 : Nat); omega, by show _ ≤ (108 : Nat); omega⟩) (exC_0 (cdLX_0 ⟨by omega, by omega⟩ ⟨by omega, by omega⟩)) (fun r9 H locs hh8 hY => ?_)
    obtain ⟨-, rfl⟩ := hh8
    refine lv_imul hx hb dL_pays_124 ?_
    have hrb := rf_b (d := v3) hI9 hk s1
    have m1 : 0 ≤ v7.toInt * (rfF σ (ix p3) v3).toInt := Int.mul_nonneg (by omega) hrb.1
    have m2 : v7.toInt * (rfF σ (ix p3) v3).toInt ≤ 6 * 9989901 := Int.mul_le_mul (by omega) hrb.2 hrb.1 (by decide)
    refine lv_topi (fun v10 e10 => ?_)
    have q10 : v10.toInt = v7.toInt * (rfF σ (ix p3) v3).toInt := by rw [e10]; exact i_mulR rfl rfl (by omega)
    have mb : 0 ≤ v10.toInt ∧ v10.toInt ≤ 59939406 := by rw [q10]; omega
    refine lv_istore (lv' := [(8, .int v10), (7, .int (σ 11 (ix p3))), (6, .int v3), (0, .ref (ad 0)), (1, .ref (ad 5)), (2, .ref (ad 7)), (3, .int p3), (4, .int p4), (5, .int p5)]) hx hb dL_pays_125 hl (by decide) rfl (fun ls hl => ?_)
    refine lv_aload_n hx hb dL_pays_127 rfl (lv_at hl 5 rfl) ?_
    refine lv_iload_n hx hb dL_pays_128 rfl (lv_at hl 6 rfl) ?_
    refine lv_iload hx hb dL_pays_129 (lv_at hl 0 rfl) ?_
    refine lv_iload hx hb dL_pays_131 (lv_at hl 1 rfl) ?_
    refine b_icmp_le (tgt := 141) hx hb dL_pays_133 (by decide) (fun (hh11 : v10.toInt ≤ (σ 11 (ix p3)).toInt) => ?_) (fun (hh11 : (σ 11 (ix p3)).toInt < v10.toInt) => ?_)
    · refine lv_iload hx hb dL_pays_141 (lv_at hl 1 rfl) ?_
      refine wrN2 hC hY (ix p3) (ix_of (by omega)) (by omega) dL_pays_143 (fun H locs hY => ?_)
      have tp : tpV σ (ix p3) v3 v7 = 0 := by
        show mxF 0 (v7 * rfF σ (ix p3) v3 - σ 11 (ix p3)) = _
        rw [← e10]
        have h0 : (0 : Int32).toInt = 0 := rfl
        have h1 : (v10 - σ 11 (ix p3)).toInt = v10.toInt - (σ 11 (ix p3)).toInt := i_sub (by omega)
        apply i_ext
        rw [i_mx, h1, h0]
        exact if_neg (by omega)
      refine lv_aload_n hx hb dL_pays_144 rfl (lv_at hl 3 rfl) ?_
      refine lv_iload_n hx hb dL_pays_145 rfl (lv_at hl 6 rfl) ?_
      refine lv_iload hx hb dL_pays_146 (lv_at hl 2 rfl) ?_
      refine lv_iconst (v := 1) hx hb dL_pays_148 (by decide) ?_
      refine lv_iload hx hb dL_pays_149 (lv_at hl 8 rfl) ?_
      refine lv_bipush (v := 6) hx hb dL_pays_151 (by decide) ?_
      refine g_irem hx hb dL_pays_153 (by decide) ?_
      refine g_top (y := v6) e6.symm ?_
      refine lv_iadd hx hb dL_pays_154 ?_
      refine g_top (y := v7) e7.symm ?_
      refine gn_calli hY (gx_runV (n := 3) (q := (RX1, TX1, 5)) (r := 0) hC (c_X1_topUp l G ad σ n (us τ 2 (ix p3) (σ 11 (ix p3))) hst hn24 hok p3 v3 v7) gL_pays_X1_topUp rfl ⟨rfl, rfl⟩ (by decide +kernel) ⟨Nat.le_of_ble_eq_true rfl, Nat.le_of_ble_eq_true rfl⟩ hY (by omega) rfl (ci := 1) rfl rfl hl.1 rfl (Nat.le_of_ble_eq_true rfl) dL_pays_155 ⟨by show _ ≤ (18 : Nat); omega, by show _ ≤ (108 : Nat); omega⟩) (exC_0 (cdTop_0 ⟨by omega, by omega⟩ ⟨by omega, by omega⟩ ⟨by omega, by omega⟩)) (fun r13 H locs hh12 hY => ?_)
      obtain ⟨-, rfl⟩ := hh12
      refine lv_aload_n hx hb dL_pays_158 rfl (lv_at hl 5 rfl) ?_
      refine lv_iload_n hx hb dL_pays_159 rfl (lv_at hl 6 rfl) ?_
      refine rdN2 hC hY (ix p3) (ix_of (by omega)) (by omega) (v := σ 11 (ix p3)) (by rw [us_eq]) dL_pays_160 ?_
      refine lv_iload hx hb dL_pays_161 (lv_at hl 1 rfl) ?_
      refine lv_isub hx hb dL_pays_163 ?_
      refine b_icmp_ne (tgt := 182) hx hb dL_pays_164 (by decide) (fun (hh14 : ¬ (tpV σ (ix p3) v3 v7).toInt = ((σ 11 (ix p3)) - (σ 11 (ix p3))).toInt) => absurd hh14 (by exact fun q => q (by rw [tp, Int32.sub_self]))) (fun (hh14 : (tpV σ (ix p3) v3 v7).toInt = ((σ 11 (ix p3)) - (σ 11 (ix p3))).toInt) => ?_)
      refine lv_aload_n hx hb dL_pays_167 rfl (lv_at hl 3 rfl) ?_
      refine lv_iload_n hx hb dL_pays_168 rfl (lv_at hl 6 rfl) ?_
      refine gn_calli hY (gx_runV (n := 1) (q := (RX1, TX1, 5)) (r := 0) hC (c_X1_held l G ad (us σ 11 (ix p3) (σ 11 (ix p3) + tpV σ (ix p3) v3 v7)) n (us τ 2 (ix p3) (σ 11 (ix p3))) hst hn24 p3) gL_pays_X1_held rfl ⟨rfl, rfl⟩ (by decide +kernel) ⟨Nat.le_of_ble_eq_true rfl, Nat.le_of_ble_eq_true rfl⟩ hY (by omega) rfl (ci := 1) rfl rfl hl.1 rfl (Nat.le_of_ble_eq_true rfl) dL_pays_169 ⟨by show _ ≤ (18 : Nat); omega, by show _ ≤ (108 : Nat); omega⟩) (exC_0 (cdHeld_0 ⟨by omega, by omega⟩)) (fun r16 H locs hh15 hY => ?_)
      obtain ⟨-, rfl⟩ := hh15
      refine lv_aload_n hx hb dL_pays_172 rfl (lv_at hl 5 rfl) ?_
      refine lv_iload_n hx hb dL_pays_173 rfl (lv_at hl 6 rfl) ?_
      refine rdN2 hC hY (ix p3) (ix_of (by omega)) (by omega) (v := σ 11 (ix p3)) (by rw [us_eq]) dL_pays_174 ?_
      refine b_icmp_ne (tgt := 182) hx hb dL_pays_175 (by decide) (fun (hh17 : ¬ ((us σ 11 (ix p3) (σ 11 (ix p3) + tpV σ (ix p3) v3 v7)) 11 (ix p3)).toInt = (σ 11 (ix p3)).toInt) => absurd hh17 (by exact fun q => q (by rw [us_eq, tp, Int32.add_zero]))) (fun (hh17 : ((us σ 11 (ix p3) (σ 11 (ix p3) + tpV σ (ix p3) v3 v7)) 11 (ix p3)).toInt = (σ 11 (ix p3)).toInt) => ?_)
      refine lv_iconst (v := 1) hx hb dL_pays_178 (by decide) ?_
      refine lv_goto (tgt := 183) hx hb dL_pays_179 (by decide) ?_
      exact g_zretL hC hr hlocks hY (fun _ _ => rfl) (by have h := li_1 (x := σ 11 (ix p3)) hLI hk ⟨by decide, by decide, by decide, by decide⟩ (Or.inr (Or.inr (Or.inl ⟨rfl, rfl, rfl⟩))) (by rw [us_self]; exact hI9) (fun _ => ⟨s2, s3⟩); rw [us_self] at h; rw [tp, Int32.add_zero, us_self]; exact h) ⟨by show _ ≤ (18 : Nat); omega, by show _ ≤ (108 : Nat); omega⟩ dL_pays_183
    · refine lv_iload hx hb dL_pays_136 (lv_at hl 0 rfl) ?_
      refine lv_goto (tgt := 143) hx hb dL_pays_138 (by decide) ?_
      refine wrN2 hC hY (ix p3) (ix_of (by omega)) (by omega) dL_pays_143 (fun H locs hY => ?_)
      have tp : tpV σ (ix p3) v3 v7 = v10 - σ 11 (ix p3) := by
        show mxF 0 (v7 * rfF σ (ix p3) v3 - σ 11 (ix p3)) = _
        rw [← e10]
        have h0 : (0 : Int32).toInt = 0 := rfl
        have h1 : (v10 - σ 11 (ix p3)).toInt = v10.toInt - (σ 11 (ix p3)).toInt := i_sub (by omega)
        apply i_ext
        rw [i_mx, h1, h0]
        exact if_pos (by omega)
      refine lv_aload_n hx hb dL_pays_144 rfl (lv_at hl 3 rfl) ?_
      refine lv_iload_n hx hb dL_pays_145 rfl (lv_at hl 6 rfl) ?_
      refine lv_iload hx hb dL_pays_146 (lv_at hl 2 rfl) ?_
      refine lv_iconst (v := 1) hx hb dL_pays_148 (by decide) ?_
      refine lv_iload hx hb dL_pays_149 (lv_at hl 8 rfl) ?_
      refine lv_bipush (v := 6) hx hb dL_pays_151 (by decide) ?_
      refine g_irem hx hb dL_pays_153 (by decide) ?_
      refine g_top (y := v6) e6.symm ?_
      refine lv_iadd hx hb dL_pays_154 ?_
      refine g_top (y := v7) e7.symm ?_
      refine gn_calli hY (gx_runV (n := 3) (q := (RX1, TX1, 5)) (r := 0) hC (c_X1_topUp l G ad σ n (us τ 2 (ix p3) v10) hst hn24 hok p3 v3 v7) gL_pays_X1_topUp rfl ⟨rfl, rfl⟩ (by decide +kernel) ⟨Nat.le_of_ble_eq_true rfl, Nat.le_of_ble_eq_true rfl⟩ hY (by omega) rfl (ci := 1) rfl rfl hl.1 rfl (Nat.le_of_ble_eq_true rfl) dL_pays_155 ⟨by show _ ≤ (18 : Nat); omega, by show _ ≤ (108 : Nat); omega⟩) (exC_0 (cdTop_0 ⟨by omega, by omega⟩ ⟨by omega, by omega⟩ ⟨by omega, by omega⟩)) (fun r19 H locs hh18 hY => ?_)
      obtain ⟨-, rfl⟩ := hh18
      refine lv_aload_n hx hb dL_pays_158 rfl (lv_at hl 5 rfl) ?_
      refine lv_iload_n hx hb dL_pays_159 rfl (lv_at hl 6 rfl) ?_
      refine rdN2 hC hY (ix p3) (ix_of (by omega)) (by omega) (v := v10) (by rw [us_eq]) dL_pays_160 ?_
      refine lv_iload hx hb dL_pays_161 (lv_at hl 1 rfl) ?_
      refine lv_isub hx hb dL_pays_163 ?_
      refine b_icmp_ne (tgt := 182) hx hb dL_pays_164 (by decide) (fun (hh20 : ¬ (tpV σ (ix p3) v3 v7).toInt = (v10 - (σ 11 (ix p3))).toInt) => absurd hh20 (by exact fun q => q (by rw [tp]))) (fun (hh20 : (tpV σ (ix p3) v3 v7).toInt = (v10 - (σ 11 (ix p3))).toInt) => ?_)
      refine lv_aload_n hx hb dL_pays_167 rfl (lv_at hl 3 rfl) ?_
      refine lv_iload_n hx hb dL_pays_168 rfl (lv_at hl 6 rfl) ?_
      refine gn_calli hY (gx_runV (n := 1) (q := (RX1, TX1, 5)) (r := 0) hC (c_X1_held l G ad (us σ 11 (ix p3) (σ 11 (ix p3) + tpV σ (ix p3) v3 v7)) n (us τ 2 (ix p3) v10) hst hn24 p3) gL_pays_X1_held rfl ⟨rfl, rfl⟩ (by decide +kernel) ⟨Nat.le_of_ble_eq_true rfl, Nat.le_of_ble_eq_true rfl⟩ hY (by omega) rfl (ci := 1) rfl rfl hl.1 rfl (Nat.le_of_ble_eq_true rfl) dL_pays_169 ⟨by show _ ≤ (18 : Nat); omega, by show _ ≤ (108 : Nat); omega⟩) (exC_0 (cdHeld_0 ⟨by omega, by omega⟩)) (fun r22 H locs hh21 hY => ?_)
      obtain ⟨-, rfl⟩ := hh21
      refine lv_aload_n hx hb dL_pays_172 rfl (lv_at hl 5 rfl) ?_
      refine lv_iload_n hx hb dL_pays_173 rfl (lv_at hl 6 rfl) ?_
      refine rdN2 hC hY (ix p3) (ix_of (by omega)) (by omega) (v := v10) (by rw [us_eq]) dL_pays_174 ?_
      refine b_icmp_ne (tgt := 182) hx hb dL_pays_175 (by decide) (fun (hh23 : ¬ ((us σ 11 (ix p3) (σ 11 (ix p3) + tpV σ (ix p3) v3 v7)) 11 (ix p3)).toInt = v10.toInt) => absurd hh23 (by exact fun q => q (by rw [us_eq, tp, i_as]))) (fun (hh23 : ((us σ 11 (ix p3) (σ 11 (ix p3) + tpV σ (ix p3) v3 v7)) 11 (ix p3)).toInt = v10.toInt) => ?_)
      refine lv_iconst (v := 1) hx hb dL_pays_178 (by decide) ?_
      refine lv_goto (tgt := 183) hx hb dL_pays_179 (by decide) ?_
      exact g_zretL hC hr hlocks hY (fun _ _ => rfl) (by rw [tp, i_as]; exact li_1 hLI hk ⟨by decide, by decide, by decide, by decide⟩ (Or.inr (Or.inr (Or.inl ⟨rfl, rfl, rfl⟩))) (inv_11 hI9 hk) (fun _ => mb)) ⟨by show _ ≤ (18 : Nat); omega, by show _ ≤ (108 : Nat); omega⟩ dL_pays_183
  · refine lv_iconst (v := 1) hx hb dL_pays_37 (by decide) ?_
    refine lv_iload hx hb dL_pays_38 (lv_at hl 7 rfl) ?_
    refine lv_sipush (v := 5000) hx hb dL_pays_40 (by decide) ?_
    refine g_irem hx hb dL_pays_43 (by decide) ?_
    refine lv_topi (fun v24 e24 => ?_)
    have q24 : v24.toInt = p5.toInt % 5000 := by rw [e24]; exact i_rmR rfl rfl (by omega)
    refine lv_iadd hx hb dL_pays_44 ?_
    refine lv_topi (fun v25 e25 => ?_)
    have q25 : v25.toInt = 1 + v24.toInt := by rw [e25]; exact i_addR rfl rfl (by omega)
    refine lv_istore (lv' := [(8, .int v25), (7, .int (σ 11 (ix p3))), (6, .int v3), (0, .ref (ad 0)), (1, .ref (ad 5)), (2, .ref (ad 7)), (3, .int p3), (4, .int p4), (5, .int p5)]) hx hb dL_pays_45 hl (by decide) rfl (fun ls hl => ?_)
    refine lv_aload_n hx hb dL_pays_47 rfl (lv_at hl 5 rfl) ?_
    refine lv_iload_n hx hb dL_pays_48 rfl (lv_at hl 6 rfl) ?_
    refine lv_dup2_11 hx hb dL_pays_49 rfl rfl ?_
    refine rdN2 hC hY (ix p3) (ix_of (by omega)) (by omega) (v := σ 11 (ix p3)) (r6) dL_pays_50 ?_
    refine lv_iload hx hb dL_pays_51 (lv_at hl 0 rfl) ?_
    refine lv_iload hx hb dL_pays_53 (lv_at hl 1 rfl) ?_
    refine b_icmp_le (tgt := 62) hx hb dL_pays_55 (by decide) (fun (hh26 : v25.toInt ≤ (σ 11 (ix p3)).toInt) => ?_) (fun (hh26 : (σ 11 (ix p3)).toInt < v25.toInt) => ?_)
    · refine lv_iload hx hb dL_pays_62 (lv_at hl 0 rfl) ?_
      refine lv_isub hx hb dL_pays_64 ?_
      refine lv_topi (fun v27 e27 => ?_)
      have q27 : v27.toInt = (σ 11 (ix p3)).toInt - v25.toInt := by rw [e27]; exact i_subR rfl rfl (by omega)
      refine wrN2 hC hY (ix p3) (ix_of (by omega)) (by omega) dL_pays_65 (fun H locs hY => ?_)
      refine lv_iload hx hb dL_pays_66 (lv_at hl 0 rfl) ?_
      refine lv_iload hx hb dL_pays_68 (lv_at hl 1 rfl) ?_
      refine b_icmp_le (tgt := 91) hx hb dL_pays_70 (by decide) (fun (hh28 : v25.toInt ≤ (σ 11 (ix p3)).toInt) => ?_) (fun (hh28 : (σ 11 (ix p3)).toInt < v25.toInt) => absurd hh28 (by omega))
      refine lv_aload_n hx hb dL_pays_91 rfl (lv_at hl 3 rfl) ?_
      refine lv_iload_n hx hb dL_pays_92 rfl (lv_at hl 6 rfl) ?_
      refine lv_iload hx hb dL_pays_93 (lv_at hl 0 rfl) ?_
      refine gn_calli hY (gx_runV (n := 2) (q := (RX1, TX1, 5)) (r := 0) hC (c_X1_draw l G ad σ n (us τ 2 (ix p3) v27) hst hn24 p3 v25) gL_pays_X1_draw rfl ⟨rfl, rfl⟩ (by decide +kernel) ⟨Nat.le_of_ble_eq_true rfl, Nat.le_of_ble_eq_true rfl⟩ hY (by omega) rfl (ci := 1) rfl rfl hl.1 rfl (Nat.le_of_ble_eq_true rfl) dL_pays_95 ⟨by show _ ≤ (18 : Nat); omega, by show _ ≤ (108 : Nat); omega⟩) (exC_0 (cdDraw_0 ⟨by omega, by omega⟩ ⟨by omega, by omega⟩ (by omega))) (fun r30 H locs hh29 hY => ?_)
      obtain ⟨-, rfl⟩ := hh29
      refine lv_aload_n hx hb dL_pays_98 rfl (lv_at hl 5 rfl) ?_
      refine lv_iload_n hx hb dL_pays_99 rfl (lv_at hl 6 rfl) ?_
      refine rdN2 hC hY (ix p3) (ix_of (by omega)) (by omega) (v := v27) (by rw [us_eq]) dL_pays_100 ?_
      refine b_icmp_ne (tgt := 108) hx hb dL_pays_101 (by decide) (fun (hh31 : ¬ (us σ 11 (ix p3) (σ 11 (ix p3) - v25) 11 (ix p3)).toInt = v27.toInt) => absurd hh31 (by exact fun q => q (by rw [us_eq, e27]))) (fun (hh31 : (us σ 11 (ix p3) (σ 11 (ix p3) - v25) 11 (ix p3)).toInt = v27.toInt) => ?_)
      refine lv_iconst (v := 1) hx hb dL_pays_104 (by decide) ?_
      refine lv_goto (tgt := 109) hx hb dL_pays_105 (by decide) ?_
      exact g_zretL hC hr hlocks hY (fun _ _ => rfl) (by rw [← e27]; exact li_1 hLI hk ⟨by decide, by decide, by decide, by decide⟩ (Or.inr (Or.inr (Or.inl ⟨rfl, rfl, rfl⟩))) (inv_11 hI9 hk) (fun _ => by omega)) ⟨by show _ ≤ (18 : Nat); omega, by show _ ≤ (108 : Nat); omega⟩ dL_pays_109
    · refine lv_iconst (v := 0) hx hb dL_pays_58 (by decide) ?_
      refine lv_goto (tgt := 64) hx hb dL_pays_59 (by decide) ?_
      refine lv_isub hx hb dL_pays_64 ?_
      refine g_top (y := σ 11 (ix p3)) (Int32.sub_zero _) ?_
      refine wrN2 hC hY (ix p3) (ix_of (by omega)) (by omega) dL_pays_65 (fun H locs hY => ?_)
      refine lv_iload hx hb dL_pays_66 (lv_at hl 0 rfl) ?_
      refine lv_iload hx hb dL_pays_68 (lv_at hl 1 rfl) ?_
      refine b_icmp_le (tgt := 91) hx hb dL_pays_70 (by decide) (fun (hh32 : v25.toInt ≤ (σ 11 (ix p3)).toInt) => absurd hh32 (by omega)) (fun (hh32 : (σ 11 (ix p3)).toInt < v25.toInt) => ?_)
      refine lv_aload_n hx hb dL_pays_73 rfl (lv_at hl 3 rfl) ?_
      refine lv_iload_n hx hb dL_pays_74 rfl (lv_at hl 6 rfl) ?_
      refine gn_calli hY (gx_runV (n := 1) (q := (RX1, TX1, 5)) (r := 0) hC (c_X1_held l G ad σ n (us τ 2 (ix p3) (σ 11 (ix p3))) hst hn24 p3) gL_pays_X1_held rfl ⟨rfl, rfl⟩ (by decide +kernel) ⟨Nat.le_of_ble_eq_true rfl, Nat.le_of_ble_eq_true rfl⟩ hY (by omega) rfl (ci := 1) rfl rfl hl.1 rfl (Nat.le_of_ble_eq_true rfl) dL_pays_75 ⟨by show _ ≤ (18 : Nat); omega, by show _ ≤ (108 : Nat); omega⟩) (exC_0 (cdHeld_0 ⟨by omega, by omega⟩)) (fun r34 H locs hh33 hY => ?_)
      obtain ⟨-, rfl⟩ := hh33
      refine lv_iload hx hb dL_pays_78 (lv_at hl 1 rfl) ?_
      refine b_icmp_ne (tgt := 87) hx hb dL_pays_80 (by decide) (fun h => absurd rfl h) (fun _ => ?_)
      refine lv_iconst (v := 1) hx hb dL_pays_83 (by decide) ?_
      refine lv_goto (tgt := 109) hx hb dL_pays_84 (by decide) ?_
      exact g_zretL hC hr hlocks hY (fun _ _ => rfl) (by have h := li_1 (x := σ 11 (ix p3)) hLI hk ⟨by decide, by decide, by decide, by decide⟩ (Or.inr (Or.inr (Or.inl ⟨rfl, rfl, rfl⟩))) (by rw [us_self]; exact hI9) (fun _ => ⟨s2, s3⟩); rw [us_self] at h; exact h) ⟨by show _ ≤ (18 : Nat); omega, by show _ ≤ (108 : Nat); omega⟩ dL_pays_109

set_option maxHeartbeats 4000000 in
set_option maxRecDepth 100000 in
theorem c_L_pays (l : Launch) (G : GG) (ad : Nat → Nat) (σ : St) (n : Nat) (τ : St) (hst : l.stackTraces = false) (hLI : LI σ n τ) (p3 p4 p5 : Int32) (hp : 0 ≤ p3.toInt ∧ p3.toInt < (n : Int)) (h4 : 0 ≤ p4.toInt) (h5 : 0 ≤ p5.toInt) : Met l yL_pays wsL_pays ({ frames := 9, cells := 18, slots := 108, locals := 190 }) (PcS G ad σ n τ [.ref (ad 0), .ref (ad 5), .ref (ad 7), .int p3, .int p4, .int p5]) (QL G ad) 18 108 (gF G) := by
  refine Met.ofW (cc := cL_pays) (maxL := 9) (ret := (some .boolean)) (by decide) rfl ?_
  intro p e s m args below meth c s₁ B hml hv
  obtain ⟨rfl, hY⟩ := hv
  have hts := atoms_spec (ws := wsL_pays) B.pre
  have hC : CallFix p m c cL_pays 9 s _ wsL_pays RL := ⟨B.exec, B.bytes, hml, findClass_of_methodNamed B.named, hts⟩
  have hl := lv_entry ([.ref (ad 0), .ref (ad 5), .ref (ad 7), .int p3, .int p4, .int p5]) (n := 9) (Nat.le_of_ble_eq_true rfl)
  rw [lg_entry_eq]
  generalize (lg_sl ([.ref (ad 0), .ref (ad 5), .ref (ad 7), .int p3, .int p4, .int p5]) ++ List.replicate (9 - (lg_sl ([.ref (ad 0), .ref (ad 5), .ref (ad 7), .int p3, .int p4, .int p5])).length) Slot.unset).toArray = ls at hl ⊢
  exact s_pays l hst hC B.returns B.notSynchronized hLI hp h4 h5 hY hl

set_option maxHeartbeats 4000000 in
set_option maxRecDepth 100000 in
theorem s_lets2 {p : Program} {e : Env} {s : State} {m : MethodId} {args : Array Value} {below : List Frame} {meth : Method} {c : Code} {H : Heap} {locs : List Loc} {ls : Array Slot} {G : GG} {ad : Nat → Nat} {σ : St} {n : Nat} {τ : St} (l : Launch) (hst : l.stackTraces = false) (hC : CallFix p m c cL_lets 10 s args wsL_lets RL) (hr : meth.sig.returnType = some .boolean) (hlocks : meth.locks = false) (hLI : LI σ n τ) {p4 p5 p7 p8 : Int32} (h4 : 0 ≤ p4.toInt ∧ p4.toInt < 6) (h5 : 0 ≤ p5.toInt ∧ p5.toInt < 7200) (h7 : 1 ≤ p7.toInt ∧ p7.toInt ≤ 99999) (hn : n < 12) (h8 : p5.toInt < p8.toInt ∧ p8.toInt ≤ 7200) (hY : SyS G ad σ n τ s H locs) (hl : lv_has ls 10 [(0, .ref (ad 0)), (1, .ref (ad 5)), (2, .ref (ad 6)), (3, .ref (ad 8)), (4, .int p4), (5, .int p5), (7, .int p7), (8, .int p8)]) : W p l e ({ frames := 9, cells := 32, slots := 204, locals := 190 }) s m args below meth c H locs 0 0 (MQ below (QL G ad) args s 32 204 (gF G)) (F0 m 24 ls []) := by
  have hx := hC.1
  have hb := hC.2.1
  have hI9 := hLI.1
  have hn24 := hLI.1.1
  have hok := hLI.1.2.2.2.1
  have hn12 := hLI.2.1
  have hnI : (nI n).toInt = (n : Int) := i_nI (by omega)
  refine lv_iconst (v := 0) hx hb dL_lets_24 (by decide) ?_
  refine lv_istore (lv' := [(9, .int 0), (0, .ref (ad 0)), (1, .ref (ad 5)), (2, .ref (ad 6)), (3, .ref (ad 8)), (4, .int p4), (5, .int p5), (7, .int p7), (8, .int p8)]) hx hb dL_lets_25 hl (by decide) rfl (fun ls hl => ?_)
  refine w_loopC (X := Int32) (fun i x H locs ls => match x with | x9 => (x9.toInt = i ∧ i ≤ n ∧ ∀ q, q < i → ¬ ((σ 3 q).toInt = p4.toInt ∧ (σ 4 q).toInt < p8.toInt ∧ p5.toInt < (σ 5 q).toInt)) ∧ SyS G ad σ n τ s H locs ∧ lv_has ls 10 [(9, .int x9), (0, .ref (ad 0)), (1, .ref (ad 5)), (2, .ref (ad 6)), (3, .ref (ad 8)), (4, .int p4), (5, .int p5), (7, .int p7), (8, .int p8)]) (n) 0 0 _ _ ?_ ?_ (0) ⟨⟨rfl, Nat.zero_le _, fun q h => absurd h (by omega)⟩, hY, lv_sub hl [0, 1, 2, 3, 4, 5, 6, 7, 8] rfl⟩
  · intro i x H locs ls hI ih
    obtain ⟨x9, rfl⟩ : ∃ z, z = x := ⟨_, rfl⟩
    obtain ⟨hI, hY, hl⟩ := hI
    obtain ⟨h0, h9, hno⟩ := hI
    refine lv_iload hx hb dL_lets_27 (lv_at hl 0 rfl) ?_
    refine lv_aload_n hx hb dL_lets_29 rfl (lv_at hl 3 rfl) ?_
    refine lv_iconst (v := 0) hx hb dL_lets_30 (by decide) ?_
    refine rdN1 hC hY (0) rfl (by omega) (v := nI n) (hLI.2.2.1) dL_lets_31 ?_
    refine b_icmp_ge (tgt := 90) hx hb dL_lets_32 (by decide) (fun (hh1 : (nI n).toInt ≤ x9.toInt) => ?_) (fun (hh1 : x9.toInt < (nI n).toInt) => ?_)
    · have hin : i = n := by omega
      have hcd : cdLet σ n p4 p5 p8 p7 = 0 := let_0 hI9 hn h4 h5 h8 h7 (fun q hq => hno q (by omega))
      have hI2 := inv_let hI9 hcd
      have hLI2 := li_let hLI hn hI2
      have hzr := (hLI.2.2.2.2.2.1 n (Nat.le_refl _) hn).2.2.1
      refine lv_aload_n hx hb dL_lets_90 rfl (lv_at hl 3 rfl) ?_
      refine lv_iconst (v := 0) hx hb dL_lets_91 (by decide) ?_
      refine rdN1 hC hY (0) rfl (by omega) (v := nI n) (hLI.2.2.1) dL_lets_92 ?_
      refine lv_istore (lv' := [(9, .int (nI n)), (0, .ref (ad 0)), (1, .ref (ad 5)), (2, .ref (ad 6)), (3, .ref (ad 8)), (4, .int p4), (5, .int p5), (7, .int p7), (8, .int p8)]) hx hb dL_lets_93 hl (by decide) rfl (fun ls hl => ?_)
      refine lv_aload_n hx hb dL_lets_95 rfl (lv_at hl 2 rfl) ?_
      refine lv_iload hx hb dL_lets_96 (lv_at hl 0 rfl) ?_
      refine lv_iload hx hb dL_lets_98 (lv_at hl 5 rfl) ?_
      refine wrN0 hC hY (n) (i_nI (by omega)) (by omega) dL_lets_100 (fun H locs hY => ?_)
      refine lv_aload_n hx hb dL_lets_101 rfl (lv_at hl 2 rfl) ?_
      refine lv_bipush (v := 12) hx hb dL_lets_102 (by decide) ?_
      refine lv_iload hx hb dL_lets_104 (lv_at hl 0 rfl) ?_
      refine lv_iadd hx hb dL_lets_106 ?_
      refine lv_iload hx hb dL_lets_107 (lv_at hl 6 rfl) ?_
      refine wrN0 hC hY (12 + n) (i_cn (C := 12) rfl (i_nI (by omega)) (by omega)) (by omega) dL_lets_109 (fun H locs hY => ?_)
      refine lv_aload_n hx hb dL_lets_110 rfl (lv_at hl 2 rfl) ?_
      refine lv_bipush (v := 24) hx hb dL_lets_111 (by decide) ?_
      refine lv_iload hx hb dL_lets_113 (lv_at hl 0 rfl) ?_
      refine lv_iadd hx hb dL_lets_115 ?_
      refine lv_iload hx hb dL_lets_116 (lv_at hl 8 rfl) ?_
      refine wrN0 hC hY (24 + n) (i_cn (C := 24) rfl (i_nI (by omega)) (by omega)) (by omega) dL_lets_118 (fun H locs hY => ?_)
      refine lv_aload_n hx hb dL_lets_119 rfl (lv_at hl 2 rfl) ?_
      refine lv_bipush (v := 36) hx hb dL_lets_120 (by decide) ?_
      refine lv_iload hx hb dL_lets_122 (lv_at hl 0 rfl) ?_
      refine lv_iadd hx hb dL_lets_124 ?_
      refine lv_iload hx hb dL_lets_125 (lv_at hl 7 rfl) ?_
      refine wrN0 hC hY (36 + n) (i_cn (C := 36) rfl (i_nI (by omega)) (by omega)) (by omega) dL_lets_127 (fun H locs hY => ?_)
      refine lv_aload_n hx hb dL_lets_128 rfl (lv_at hl 2 rfl) ?_
      refine lv_bipush (v := 48) hx hb dL_lets_129 (by decide) ?_
      refine lv_iload hx hb dL_lets_131 (lv_at hl 0 rfl) ?_
      refine lv_iadd hx hb dL_lets_133 ?_
      refine lv_iconst (v := (-1)) hx hb dL_lets_134 (by decide) ?_
      refine wrN0 hC hY (48 + n) (i_cn (C := 48) rfl (i_nI (by omega)) (by omega)) (by omega) dL_lets_135 (fun H locs hY => ?_)
      refine lv_aload_n hx hb dL_lets_136 rfl (lv_at hl 3 rfl) ?_
      refine lv_iconst (v := 0) hx hb dL_lets_137 (by decide) ?_
      refine lv_dup2_11 hx hb dL_lets_138 rfl rfl ?_
      refine rdN1 hC hY (0) rfl (by omega) (v := nI n) (by rw [us_ne (by omega), us_ne (by omega), us_ne (by omega), us_ne (by omega), us_ne (by omega)]; exact hLI.2.2.1) dL_lets_139 ?_
      refine lv_iconst (v := 1) hx hb dL_lets_140 (by decide) ?_
      refine lv_iadd hx hb dL_lets_141 ?_
      refine g_top (y := nI (n + 1)) (nI_1 n) ?_
      refine wrN1 hC hY (0) rfl (by omega) dL_lets_142 (fun H locs hY => ?_)
      refine lv_aload_n hx hb dL_lets_143 rfl (lv_at hl 1 rfl) ?_
      refine lv_iload hx hb dL_lets_144 (lv_at hl 5 rfl) ?_
      refine lv_iload hx hb dL_lets_146 (lv_at hl 6 rfl) ?_
      refine lv_iload hx hb dL_lets_148 (lv_at hl 8 rfl) ?_
      refine lv_iload hx hb dL_lets_150 (lv_at hl 7 rfl) ?_
      refine gn_callU hY (gx_runV (n := 4) (q := (RX1, TX1, 5)) (r := 0) hC (c_X1_let l G ad σ n (us (us (us (us (us (us τ 0 (n) p4) 0 (12 + n) p5) 0 (24 + n) p8) 0 (36 + n) p7) 0 (48 + n) (-1)) 1 (0) (nI (n + 1))) hst hn24 (fun h => hI9.2.2.2.2.1 n (Nat.le_refl _) h) p4 p5 p8 p7) gL_lets_X1_let rfl ⟨rfl, rfl⟩ (by decide +kernel) ⟨Nat.le_of_ble_eq_true rfl, Nat.le_of_ble_eq_true rfl⟩ hY (by omega) rfl (ci := 1) rfl rfl hl.1 rfl (Nat.le_of_ble_eq_true rfl) dL_lets_152 ⟨by show _ ≤ (32 : Nat); omega, by show _ ≤ (204 : Nat); omega⟩) (exC_0 (hcd)) (fun r u H locs hh2 hY => ?_)
      obtain ⟨-, rfl, hu⟩ := hh2
      have hY : SyS G u (ltS σ n p4 p5 p8 p7) (n + 1) (us (us (us (us (us (us τ 0 (n) p4) 0 (12 + n) p5) 0 (24 + n) p8) 0 (36 + n) p7) 0 (48 + n) (-1)) 1 (0) (nI (n + 1))) s H locs := by rw [show 3 * n + 9 + 3 = 3 * (n + 1) + 9 by omega] at hY; exact hY
      have hl : lv_has ls 10 [(9, .int (nI n)), (0, .ref (u 0)), (1, .ref (u 5)), (2, .ref (u 6)), (3, .ref (u 8)), (4, .int p4), (5, .int p5), (7, .int p7), (8, .int p8)] := by rw [hu 0 (by omega), hu 5 (by omega), hu 6 (by omega), hu 8 (by omega)]; exact hl
      have hnI1 : (nI (n + 1)).toInt = ((n + 1 : Nat) : Int) := i_nI (by omega)
      have hon := fun d hd => let_on (d := d) hI2 hd
      have hs2 := (hLI2.2.2.2.2.2.2.1 n (by omega)).1
      refine lv_iload hx hb dL_lets_155 (lv_at hl 0 rfl) ?_
      refine b_icmp_ne (tgt := 235) hx hb dL_lets_157 (by decide) (fun h => absurd rfl h) (fun _ => ?_)
      refine lv_aload_n hx hb dL_lets_160 rfl (lv_at hl 1 rfl) ?_
      refine g_calli hY (g_runV (n := 0) (q := (RX1, TX1, 5)) (r := 0) hC (c_X1_leases l G u (ltS σ n p4 p5 p8 p7) (n + 1) (us (us (us (us (us (us τ 0 (n) p4) 0 (12 + n) p5) 0 (24 + n) p8) 0 (36 + n) p7) 0 (48 + n) (-1)) 1 (0) (nI (n + 1))) ) gL_lets_X1_leases rfl ⟨rfl, rfl⟩ (by decide +kernel) ⟨Nat.le_of_ble_eq_true rfl, Nat.le_of_ble_eq_true rfl⟩ hY (by omega) rfl (ci := 1) rfl rfl hl.1 rfl (Nat.le_of_ble_eq_true rfl) dL_lets_161 ⟨by show _ ≤ (32 : Nat); omega, by show _ ≤ (204 : Nat); omega⟩) (fun r4 H locs hh3 hY => ?_)
      subst hh3
      refine lv_iload hx hb dL_lets_164 (lv_at hl 0 rfl) ?_
      refine lv_iconst (v := 1) hx hb dL_lets_166 (by decide) ?_
      refine lv_iadd hx hb dL_lets_167 ?_
      refine g_top (y := nI (n + 1)) (nI_1 n) ?_
      refine b_icmp_ne (tgt := 235) hx hb dL_lets_168 (by decide) (fun h => absurd rfl h) (fun _ => ?_)
      refine lv_aload_n hx hb dL_lets_171 rfl (lv_at hl 1 rfl) ?_
      refine lv_iload hx hb dL_lets_172 (lv_at hl 5 rfl) ?_
      refine lv_iload hx hb dL_lets_174 (lv_at hl 6 rfl) ?_
      refine gn_calli hY (gx_runV (n := 2) (q := (RX1, TX1, 5)) (r := 0) hC (c_X1_leaseOn l G u (ltS σ n p4 p5 p8 p7) (n + 1) (us (us (us (us (us (us τ 0 (n) p4) 0 (12 + n) p5) 0 (24 + n) p8) 0 (36 + n) p7) 0 (48 + n) (-1)) 1 (0) (nI (n + 1))) hst p4 p5) gL_lets_X1_leaseOn rfl ⟨rfl, rfl⟩ (by decide +kernel) ⟨Nat.le_of_ble_eq_true rfl, Nat.le_of_ble_eq_true rfl⟩ hY (by omega) rfl (ci := 1) rfl rfl hl.1 rfl (Nat.le_of_ble_eq_true rfl) dL_lets_176 ⟨by show _ ≤ (32 : Nat); omega, by show _ ≤ (204 : Nat); omega⟩) (exC_0 (cdLOn_0 ⟨by omega, by omega⟩ ⟨by omega, by omega⟩)) (fun r6 H locs hh5 hY => ?_)
      obtain ⟨-, rfl⟩ := hh5
      refine lv_iload hx hb dL_lets_179 (lv_at hl 0 rfl) ?_
      refine b_icmp_ne (tgt := 235) hx hb dL_lets_181 (by decide) (fun (hh7 : ¬ (lnG (ltS σ n p4 p5 p8 p7) (n + 1) p4 p5 24 0).toInt = (nI n).toInt) => absurd hh7 (by exact fun q => q ((hon _ ⟨by omega, by omega⟩).trans hnI.symm))) (fun (hh7 : (lnG (ltS σ n p4 p5 p8 p7) (n + 1) p4 p5 24 0).toInt = (nI n).toInt) => ?_)
      refine lv_aload_n hx hb dL_lets_184 rfl (lv_at hl 1 rfl) ?_
      refine lv_iload hx hb dL_lets_185 (lv_at hl 5 rfl) ?_
      refine lv_iload hx hb dL_lets_187 (lv_at hl 8 rfl) ?_
      refine lv_iconst (v := 1) hx hb dL_lets_189 (by decide) ?_
      refine lv_isub hx hb dL_lets_190 ?_
      refine lv_topi (fun v8 e8 => ?_)
      have q8 : v8.toInt = p8.toInt - 1 := by rw [e8]; exact i_subR rfl rfl (by omega)
      refine gn_calli hY (gx_runV (n := 2) (q := (RX1, TX1, 5)) (r := 0) hC (c_X1_leaseOn l G u (ltS σ n p4 p5 p8 p7) (n + 1) (us (us (us (us (us (us τ 0 (n) p4) 0 (12 + n) p5) 0 (24 + n) p8) 0 (36 + n) p7) 0 (48 + n) (-1)) 1 (0) (nI (n + 1))) hst p4 v8) gL_lets_X1_leaseOn rfl ⟨rfl, rfl⟩ (by decide +kernel) ⟨Nat.le_of_ble_eq_true rfl, Nat.le_of_ble_eq_true rfl⟩ hY (by omega) rfl (ci := 1) rfl rfl hl.1 rfl (Nat.le_of_ble_eq_true rfl) dL_lets_191 ⟨by show _ ≤ (32 : Nat); omega, by show _ ≤ (204 : Nat); omega⟩) (exC_0 (cdLOn_0 ⟨by omega, by omega⟩ ⟨by omega, by omega⟩)) (fun r10 H locs hh9 hY => ?_)
      obtain ⟨-, rfl⟩ := hh9
      refine lv_iload hx hb dL_lets_194 (lv_at hl 0 rfl) ?_
      refine b_icmp_ne (tgt := 235) hx hb dL_lets_196 (by decide) (fun (hh11 : ¬ (lnG (ltS σ n p4 p5 p8 p7) (n + 1) p4 v8 24 0).toInt = (nI n).toInt) => absurd hh11 (by exact fun q => q ((hon _ ⟨by omega, by omega⟩).trans hnI.symm))) (fun (hh11 : (lnG (ltS σ n p4 p5 p8 p7) (n + 1) p4 v8 24 0).toInt = (nI n).toInt) => ?_)
      refine lv_aload_n hx hb dL_lets_199 rfl (lv_at hl 1 rfl) ?_
      refine lv_iload hx hb dL_lets_200 (lv_at hl 0 rfl) ?_
      refine lv_iload hx hb dL_lets_202 (lv_at hl 6 rfl) ?_
      refine gn_calli hY (gx_runV (n := 2) (q := (RX1, TX1, 5)) (r := 0) hC (c_X1_rentOn l G u (ltS σ n p4 p5 p8 p7) (n + 1) (us (us (us (us (us (us τ 0 (n) p4) 0 (12 + n) p5) 0 (24 + n) p8) 0 (36 + n) p7) 0 (48 + n) (-1)) 1 (0) (nI (n + 1))) hst (by omega) hI2.2.2.2.1 (nI n) p5) gL_lets_X1_rentOn rfl ⟨rfl, rfl⟩ (by decide +kernel) ⟨Nat.le_of_ble_eq_true rfl, Nat.le_of_ble_eq_true rfl⟩ hY (by omega) rfl (ci := 1) rfl rfl hl.1 rfl (Nat.le_of_ble_eq_true rfl) dL_lets_204 ⟨by show _ ≤ (32 : Nat); omega, by show _ ≤ (204 : Nat); omega⟩) (exC_0 (cdLX_0 ⟨by omega, by omega⟩ ⟨by omega, by omega⟩)) (fun r13 H locs hh12 hY => ?_)
      obtain ⟨-, rfl⟩ := hh12
      refine lv_iload hx hb dL_lets_207 (lv_at hl 7 rfl) ?_
      refine b_icmp_ne (tgt := 235) hx hb dL_lets_209 (by decide) (fun (hh14 : ¬ (rfF (ltS σ n p4 p5 p8 p7) (ix (nI n)) p5).toInt = p7.toInt) => absurd hh14 (by exact fun q => q (by rw [i_ixnI (by omega), let_rent hLI hn hI2 hs2]))) (fun (hh14 : (rfF (ltS σ n p4 p5 p8 p7) (ix (nI n)) p5).toInt = p7.toInt) => ?_)
      refine lv_aload_n hx hb dL_lets_212 rfl (lv_at hl 1 rfl) ?_
      refine lv_iload hx hb dL_lets_213 (lv_at hl 0 rfl) ?_
      refine gn_calli hY (gx_runV (n := 1) (q := (RX1, TX1, 5)) (r := 0) hC (c_X1_held l G u (ltS σ n p4 p5 p8 p7) (n + 1) (us (us (us (us (us (us τ 0 (n) p4) 0 (12 + n) p5) 0 (24 + n) p8) 0 (36 + n) p7) 0 (48 + n) (-1)) 1 (0) (nI (n + 1))) hst (by omega) (nI n)) gL_lets_X1_held rfl ⟨rfl, rfl⟩ (by decide +kernel) ⟨Nat.le_of_ble_eq_true rfl, Nat.le_of_ble_eq_true rfl⟩ hY (by omega) rfl (ci := 1) rfl rfl hl.1 rfl (Nat.le_of_ble_eq_true rfl) dL_lets_215 ⟨by show _ ≤ (32 : Nat); omega, by show _ ≤ (204 : Nat); omega⟩) (exC_0 (cdHeld_0 ⟨by omega, by omega⟩)) (fun r16 H locs hh15 hY => ?_)
      obtain ⟨-, rfl⟩ := hh15
      refine b_if_ne (tgt := 235) hx hb dL_lets_218 (by decide) (fun (hh17 : ¬ ((ltS σ n p4 p5 p8 p7) 11 (ix (nI n))).toInt = 0) => absurd hh17 (by exact fun q => q (by rw [i_ixnI (by omega), let_11 hLI hn]; rfl))) (fun (hh17 : ((ltS σ n p4 p5 p8 p7) 11 (ix (nI n))).toInt = 0) => ?_)
      refine lv_aload_n hx hb dL_lets_221 rfl (lv_at hl 4 rfl) ?_
      refine lv_bipush (v := 12) hx hb dL_lets_222 (by decide) ?_
      refine lv_iload hx hb dL_lets_224 (lv_at hl 0 rfl) ?_
      refine lv_iadd hx hb dL_lets_226 ?_
      refine rdN3 hC hY (12 + n) (i_cn (C := 12) rfl (i_nI (by omega)) (by omega)) (by omega) (v := 0) (by rw [us_ne (by omega), us_ne (by omega), us_ne (by omega), us_ne (by omega), us_ne (by omega), us_ne (by omega)]; exact hzr) dL_lets_227 ?_
      refine b_if_ne (tgt := 235) hx hb dL_lets_228 (by decide) (fun h => absurd h (by decide)) (fun _ => ?_)
      refine lv_iconst (v := 1) hx hb dL_lets_231 (by decide) ?_
      refine lv_goto (tgt := 236) hx hb dL_lets_232 (by decide) ?_
      exact g_zretL hC hr hlocks hY (fun q hq => hu q (by omega)) hLI2 ⟨by show _ ≤ (32 : Nat); omega, by show _ ≤ (204 : Nat); omega⟩ dL_lets_236
    · have hix : ix x9 = i := i_ix h0
      have hk9 : ix x9 < n := by omega
      obtain ⟨r1, r2, r3, -⟩ := hLI.2.2.2.2.1 (ix x9) hk9
      refine lv_aload_n hx hb dL_lets_35 rfl (lv_at hl 2 rfl) ?_
      refine lv_iload hx hb dL_lets_36 (lv_at hl 0 rfl) ?_
      refine rdN0 hC hY (ix x9) (ix_of (by omega)) (by omega) (v := σ 3 (ix x9)) (r1) dL_lets_38 ?_
      refine lv_iload hx hb dL_lets_39 (lv_at hl 5 rfl) ?_
      refine b_icmp_ne (tgt := 84) hx hb dL_lets_41 (by decide) (fun (hh19 : ¬ (σ 3 (ix x9)).toInt = p4.toInt) => ?_) (fun (hh19 : (σ 3 (ix x9)).toInt = p4.toInt) => ?_)
      · refine lv_iinc (v := x9 + 1) (lv' := [(9, .int (x9 + 1)), (0, .ref (ad 0)), (1, .ref (ad 5)), (2, .ref (ad 6)), (3, .ref (ad 8)), (4, .int p4), (5, .int p5), (7, .int p7), (8, .int p8)]) hx hb dL_lets_84 hl (k := 0) rfl rfl (by decide) rfl (fun ls hl => ?_)
        refine lv_goto (tgt := 27) hx hb dL_lets_87 (by decide) ?_
        exact W.widen (by omega) (by omega) (ih (x9 + 1) _ _ _ ⟨⟨by rw [i_add1 (by omega)]; omega, by omega, fun q hq => by by_cases hqi : q < i <;> first | exact hno q hqi | (have hqe : q = ix x9 := by omega); (subst hqe; omega)⟩, hY, lv_sub hl [0, 1, 2, 3, 4, 5, 6, 7, 8] rfl⟩)
      · refine lv_aload_n hx hb dL_lets_44 rfl (lv_at hl 2 rfl) ?_
        refine lv_bipush (v := 12) hx hb dL_lets_45 (by decide) ?_
        refine lv_iload hx hb dL_lets_47 (lv_at hl 0 rfl) ?_
        refine lv_iadd hx hb dL_lets_49 ?_
        refine rdN0 hC hY (12 + ix x9) (i_ixc (C := 12) rfl ⟨by omega, by omega⟩ (by decide)) (by omega) (v := σ 4 (ix x9)) (r2) dL_lets_50 ?_
        refine lv_iload hx hb dL_lets_51 (lv_at hl 8 rfl) ?_
        refine b_icmp_ge (tgt := 84) hx hb dL_lets_53 (by decide) (fun (hh20 : p8.toInt ≤ (σ 4 (ix x9)).toInt) => ?_) (fun (hh20 : (σ 4 (ix x9)).toInt < p8.toInt) => ?_)
        · refine lv_iinc (v := x9 + 1) (lv' := [(9, .int (x9 + 1)), (0, .ref (ad 0)), (1, .ref (ad 5)), (2, .ref (ad 6)), (3, .ref (ad 8)), (4, .int p4), (5, .int p5), (7, .int p7), (8, .int p8)]) hx hb dL_lets_84 hl (k := 0) rfl rfl (by decide) rfl (fun ls hl => ?_)
          refine lv_goto (tgt := 27) hx hb dL_lets_87 (by decide) ?_
          exact W.widen (by omega) (by omega) (ih (x9 + 1) _ _ _ ⟨⟨by rw [i_add1 (by omega)]; omega, by omega, fun q hq => by by_cases hqi : q < i <;> first | exact hno q hqi | (have hqe : q = ix x9 := by omega); (subst hqe; omega)⟩, hY, lv_sub hl [0, 1, 2, 3, 4, 5, 6, 7, 8] rfl⟩)
        · refine lv_iload hx hb dL_lets_56 (lv_at hl 6 rfl) ?_
          refine lv_aload_n hx hb dL_lets_58 rfl (lv_at hl 2 rfl) ?_
          refine lv_bipush (v := 24) hx hb dL_lets_59 (by decide) ?_
          refine lv_iload hx hb dL_lets_61 (lv_at hl 0 rfl) ?_
          refine lv_iadd hx hb dL_lets_63 ?_
          refine rdN0 hC hY (24 + ix x9) (i_ixc (C := 24) rfl ⟨by omega, by omega⟩ (by decide)) (by omega) (v := σ 5 (ix x9)) (r3) dL_lets_64 ?_
          refine b_icmp_ge (tgt := 84) hx hb dL_lets_65 (by decide) (fun (hh21 : (σ 5 (ix x9)).toInt ≤ p5.toInt) => ?_) (fun (hh21 : p5.toInt < (σ 5 (ix x9)).toInt) => ?_)
          · refine lv_iinc (v := x9 + 1) (lv' := [(9, .int (x9 + 1)), (0, .ref (ad 0)), (1, .ref (ad 5)), (2, .ref (ad 6)), (3, .ref (ad 8)), (4, .int p4), (5, .int p5), (7, .int p7), (8, .int p8)]) hx hb dL_lets_84 hl (k := 0) rfl rfl (by decide) rfl (fun ls hl => ?_)
            refine lv_goto (tgt := 27) hx hb dL_lets_87 (by decide) ?_
            exact W.widen (by omega) (by omega) (ih (x9 + 1) _ _ _ ⟨⟨by rw [i_add1 (by omega)]; omega, by omega, fun q hq => by by_cases hqi : q < i <;> first | exact hno q hqi | (have hqe : q = ix x9 := by omega); (subst hqe; omega)⟩, hY, lv_sub hl [0, 1, 2, 3, 4, 5, 6, 7, 8] rfl⟩)
          · refine lv_aload_n hx hb dL_lets_68 rfl (lv_at hl 1 rfl) ?_
            refine g_calli hY (g_runV (n := 0) (q := (RX1, TX1, 5)) (r := 0) hC (c_X1_leases l G ad σ n τ ) gL_lets_X1_leases rfl ⟨rfl, rfl⟩ (by decide +kernel) ⟨Nat.le_of_ble_eq_true rfl, Nat.le_of_ble_eq_true rfl⟩ hY (by omega) rfl (ci := 1) rfl rfl hl.1 rfl (Nat.le_of_ble_eq_true rfl) dL_lets_69 ⟨by show _ ≤ (32 : Nat); omega, by show _ ≤ (204 : Nat); omega⟩) (fun r23 H locs hh22 hY => ?_)
            subst hh22
            refine lv_aload_n hx hb dL_lets_72 rfl (lv_at hl 3 rfl) ?_
            refine lv_iconst (v := 0) hx hb dL_lets_73 (by decide) ?_
            refine rdN1 hC hY (0) rfl (by omega) (v := nI n) (hLI.2.2.1) dL_lets_74 ?_
            refine b_icmp_ne (tgt := 82) hx hb dL_lets_75 (by decide) (fun h => absurd rfl h) (fun _ => ?_)
            refine lv_iconst (v := 1) hx hb dL_lets_78 (by decide) ?_
            refine lv_goto (tgt := 83) hx hb dL_lets_79 (by decide) ?_
            exact g_zretL hC hr hlocks hY (fun _ _ => rfl) hLI ⟨by show _ ≤ (32 : Nat); omega, by show _ ≤ (204 : Nat); omega⟩ dL_lets_83
  · intro i x H locs ls hI
    obtain ⟨x9, rfl⟩ : ∃ z, z = x := ⟨_, rfl⟩
    obtain ⟨hI, -, -⟩ := hI
    obtain ⟨h0, h9, hno⟩ := hI
    omega

set_option maxHeartbeats 4000000 in
set_option maxRecDepth 100000 in
theorem s_lets {p : Program} {e : Env} {s : State} {m : MethodId} {args : Array Value} {below : List Frame} {meth : Method} {c : Code} {H : Heap} {locs : List Loc} {ls : Array Slot} {G : GG} {ad : Nat → Nat} {σ : St} {n : Nat} {τ : St} (l : Launch) (hst : l.stackTraces = false) (hC : CallFix p m c cL_lets 10 s args wsL_lets RL) (hr : meth.sig.returnType = some .boolean) (hlocks : meth.locks = false) (hLI : LI σ n τ) {p4 p5 p6 p7 : Int32} (h4 : 0 ≤ p4.toInt ∧ p4.toInt < 6) (h5 : 0 ≤ p5.toInt ∧ p5.toInt < 7200) (h6 : 1 ≤ p6.toInt ∧ p6.toInt ≤ 10000) (h7 : 1 ≤ p7.toInt ∧ p7.toInt ≤ 99999) (hn : n < 12) (hY : SyS G ad σ n τ s H locs) (hl : lv_has ls 10 [(0, .ref (ad 0)), (1, .ref (ad 5)), (2, .ref (ad 6)), (3, .ref (ad 8)), (4, .int p4), (5, .int p5), (6, .int p6), (7, .int p7)]) : W p l e ({ frames := 9, cells := 32, slots := 204, locals := 190 }) s m args below meth c H locs 0 0 (MQ below (QL G ad) args s 32 204 (gF G)) (F0 m 0 ls []) := by
  have hx := hC.1
  have hb := hC.2.1
  have hI9 := hLI.1
  have hn24 := hLI.1.1
  have hok := hLI.1.2.2.2.1
  have hn12 := hLI.2.1
  have hnI : (nI n).toInt = (n : Int) := i_nI (by omega)
  refine lv_iload hx hb dL_lets_0 (lv_at hl 5 rfl) ?_
  refine lv_iload hx hb dL_lets_2 (lv_at hl 6 rfl) ?_
  refine lv_iadd hx hb dL_lets_4 ?_
  refine lv_topi (fun v1 e1 => ?_)
  have q1 : v1.toInt = p5.toInt + p6.toInt := by rw [e1]; exact i_addR rfl rfl (by omega)
  refine lv_sipush (v := 7200) hx hb dL_lets_5 (by decide) ?_
  refine b_icmp_le (tgt := 17) hx hb dL_lets_8 (by decide) (fun (hh2 : v1.toInt ≤ 7200) => ?_) (fun (hh2 : 7200 < v1.toInt) => ?_)
  · refine lv_iload hx hb dL_lets_17 (lv_at hl 5 rfl) ?_
    refine lv_iload hx hb dL_lets_19 (lv_at hl 6 rfl) ?_
    refine lv_iadd hx hb dL_lets_21 ?_
    refine g_top (y := v1) e1.symm ?_
    refine lv_istore (lv' := [(8, .int v1), (0, .ref (ad 0)), (1, .ref (ad 5)), (2, .ref (ad 6)), (3, .ref (ad 8)), (4, .int p4), (5, .int p5), (6, .int p6), (7, .int p7)]) hx hb dL_lets_22 hl (by decide) rfl (fun ls hl => ?_)
    exact s_lets2 (p8 := v1) l hst hC hr hlocks hLI h4 h5 h7 hn ⟨by have z : (7200 : Int32).toInt = 7200 := rfl; omega, by have z : (7200 : Int32).toInt = 7200 := rfl; omega⟩ hY (lv_sub hl [1, 2, 3, 4, 5, 6, 8, 0] rfl)
  · refine lv_sipush (v := 7200) hx hb dL_lets_11 (by decide) ?_
    refine lv_goto (tgt := 22) hx hb dL_lets_14 (by decide) ?_
    refine lv_istore (lv' := [(8, .int 7200), (0, .ref (ad 0)), (1, .ref (ad 5)), (2, .ref (ad 6)), (3, .ref (ad 8)), (4, .int p4), (5, .int p5), (6, .int p6), (7, .int p7)]) hx hb dL_lets_22 hl (by decide) rfl (fun ls hl => ?_)
    exact s_lets2 (p8 := 7200) l hst hC hr hlocks hLI h4 h5 h7 hn ⟨by have z : (7200 : Int32).toInt = 7200 := rfl; omega, by have z : (7200 : Int32).toInt = 7200 := rfl; omega⟩ hY (lv_sub hl [1, 2, 3, 4, 5, 6, 8, 0] rfl)

set_option maxHeartbeats 4000000 in
set_option maxRecDepth 100000 in
theorem c_L_lets (l : Launch) (G : GG) (ad : Nat → Nat) (σ : St) (n : Nat) (τ : St) (hst : l.stackTraces = false) (hLI : LI σ n τ) (p4 p5 p6 p7 : Int32) (h4 : 0 ≤ p4.toInt ∧ p4.toInt < 6) (h5 : 0 ≤ p5.toInt ∧ p5.toInt < 7200) (h6 : 1 ≤ p6.toInt ∧ p6.toInt ≤ 10000) (h7 : 1 ≤ p7.toInt ∧ p7.toInt ≤ 99999) (hn : n < 12) : Met l yL_lets wsL_lets ({ frames := 9, cells := 32, slots := 204, locals := 190 }) (PcS G ad σ n τ [.ref (ad 0), .ref (ad 5), .ref (ad 6), .ref (ad 8), .int p4, .int p5, .int p6, .int p7]) (QL G ad) 32 204 (gF G) := by
  refine Met.ofW (cc := cL_lets) (maxL := 10) (ret := (some .boolean)) (by decide) rfl ?_
  intro p e s m args below meth c s₁ B hml hv
  obtain ⟨rfl, hY⟩ := hv
  have hts := atoms_spec (ws := wsL_lets) B.pre
  have hC : CallFix p m c cL_lets 10 s _ wsL_lets RL := ⟨B.exec, B.bytes, hml, findClass_of_methodNamed B.named, hts⟩
  have hl := lv_entry ([.ref (ad 0), .ref (ad 5), .ref (ad 6), .ref (ad 8), .int p4, .int p5, .int p6, .int p7]) (n := 10) (Nat.le_of_ble_eq_true rfl)
  rw [lg_entry_eq]
  generalize (lg_sl ([.ref (ad 0), .ref (ad 5), .ref (ad 6), .ref (ad 8), .int p4, .int p5, .int p6, .int p7]) ++ List.replicate (10 - (lg_sl ([.ref (ad 0), .ref (ad 5), .ref (ad 6), .ref (ad 8), .int p4, .int p5, .int p6, .int p7])).length) Slot.unset).toArray = ls at hl ⊢
  exact s_lets l hst hC B.returns B.notSynchronized hLI h4 h5 h6 h7 hn hY hl

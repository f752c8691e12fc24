/-! the law: a year -/
set_option maxHeartbeats 4000000 in
set_option maxRecDepth 100000 in
theorem s_isYear {p : Program} {e : Env} {s : State} {m : MethodId} {args : Array Value} {below : List Frame} {meth : Method} {c : Code} {H : Heap} {locs : List Loc} {ls : Array Slot} {G : GG} {ad : Nat → Nat} {σ : St} {n : Nat} {τ : St} (l : Launch) (hst : l.stackTraces = false) (hC : CallFix p m c cL_isYear 14 s args wsL_isYear RL) (hr : meth.sig.returnType = some .boolean) (hlocks : meth.locks = false) (hLI : LI σ n τ) {p3 : Int32} (hy : 0 ≤ p3.toInt ∧ p3.toInt < 20) (hY : SyS G ad σ n τ s H locs) (hl : lv_has ls 14 [(0, .ref (ad 0)), (1, .ref (ad 5)), (2, .ref (ad 6)), (3, .int p3)]) : W p l e ({ frames := 10, cells := 900, slots := 5400, locals := 230 }) s m args below meth c H locs 0 0 (MQ below (Qi G (3 * n + 9) ad (ctS G ad σ n τ) (fun r => r = 1)) args s 900 5400 (gF G)) (F0 m 0 ls []) := by
  have hx := hC.1
  have hb := hC.2.1
  have hI9 := hLI.1
  have hn24 := hLI.1.1
  have hok := hLI.1.2.2.2.1
  have hn12 := hLI.2.1
  have hnI : (nI n).toInt = (n : Int) := i_nI (by omega)
  have hcst := hLI.2.2.2.2.2.2.2 _ (ix_lt (N := 20) hy)
  refine lv_iconst (v := 0) hx hb dL_isYear_0 (by decide) ?_
  refine lv_istore (lv' := [(4, .int 0), (0, .ref (ad 0)), (1, .ref (ad 5)), (2, .ref (ad 6)), (3, .int p3)]) hx hb dL_isYear_1 hl (by decide) rfl (fun ls hl => ?_)
  refine lv_iconst (v := 0) hx hb dL_isYear_3 (by decide) ?_
  refine lv_istore (lv' := [(5, .int 0), (4, .int 0), (0, .ref (ad 0)), (1, .ref (ad 5)), (2, .ref (ad 6)), (3, .int p3)]) hx hb dL_isYear_4 hl (by decide) rfl (fun ls hl => ?_)
  refine lv_iconst (v := 0) hx hb dL_isYear_6 (by decide) ?_
  refine lv_istore (lv' := [(6, .int 0), (5, .int 0), (4, .int 0), (0, .ref (ad 0)), (1, .ref (ad 5)), (2, .ref (ad 6)), (3, .int p3)]) hx hb dL_isYear_7 hl (by decide) rfl (fun ls hl => ?_)
  refine lv_dconst0 hx hb dL_isYear_9 ?_
  refine lv_dstore (lv' := [(7, .double Jvm.FP.dconst0), (6, .int 0), (5, .int 0), (4, .int 0), (0, .ref (ad 0)), (1, .ref (ad 5)), (2, .ref (ad 6)), (3, .int p3)]) hx hb dL_isYear_10 hl (by decide) rfl (fun ls hl => ?_)
  refine lv_iconst (v := 1) hx hb dL_isYear_12 (by decide) ?_
  refine lv_istore (lv' := [(9, .int 1), (7, .double Jvm.FP.dconst0), (6, .int 0), (5, .int 0), (4, .int 0), (0, .ref (ad 0)), (1, .ref (ad 5)), (2, .ref (ad 6)), (3, .int p3)]) hx hb dL_isYear_13 hl (by decide) rfl (fun ls hl => ?_)
  refine lv_iconst (v := 0) hx hb dL_isYear_15 (by decide) ?_
  refine lv_istore (lv' := [(10, .int 0), (9, .int 1), (7, .double Jvm.FP.dconst0), (6, .int 0), (5, .int 0), (4, .int 0), (0, .ref (ad 0)), (1, .ref (ad 5)), (2, .ref (ad 6)), (3, .int p3)]) hx hb dL_isYear_16 hl (by decide) rfl (fun ls hl => ?_)
  refine w_loopC (X := Int32 × Int32 × Int32 × UInt64) (fun i x H locs ls => match x with | (x10, x5, x6, x7) => (x10.toInt = i ∧ i ≤ 6 ∧ x5.toInt = vdS σ n p3 i ∧ x6 = aaP σ i ∧ x7 = shP σ i) ∧ SyS G ad σ n τ s H locs ∧ lv_has ls 14 [(10, .int x10), (5, .int x5), (6, .int x6), (7, .double x7), (9, .int 1), (4, .int 0), (0, .ref (ad 0)), (1, .ref (ad 5)), (2, .ref (ad 6)), (3, .int p3)]) (6) 30 180 _ _ ?_ ?_ ((0, 0, 0, Jvm.FP.dconst0)) ⟨⟨rfl, Nat.zero_le _, rfl, rfl, rfl⟩, hY, lv_sub hl [0, 4, 3, 2, 1, 5, 6, 7, 8, 9] rfl⟩
  · intro i x H locs ls hI ih
    obtain ⟨x10, x5, x6, x7⟩ := x
    obtain ⟨hI, hY, hl⟩ := hI
    obtain ⟨h0, h9, h5, h6, h7⟩ := hI
    refine lv_iload hx hb dL_isYear_18 (lv_at hl 0 rfl) ?_
    refine lv_bipush (v := 6) hx hb dL_isYear_20 (by decide) ?_
    refine b_icmp_ge (tgt := 137) hx hb dL_isYear_22 (by decide) (fun (hh1 : 6 ≤ x10.toInt) => ?_) (fun (hh1 : x10.toInt < 6) => ?_)
    · have hi6 : i = 6 := by omega
      subst hi6
      subst h6 h7
      refine lv_iconst (v := 0) hx hb dL_isYear_137 (by decide) ?_
      refine lv_istore (lv' := [(10, .int 0), (5, .int x5), (6, .int (aaP σ 6)), (7, .double (shP σ 6)), (9, .int 1), (4, .int 0), (0, .ref (ad 0)), (1, .ref (ad 5)), (2, .ref (ad 6)), (3, .int p3)]) hx hb dL_isYear_138 hl (by decide) rfl (fun ls hl => ?_)
      refine w_loopC (X := Int32 × Int32 × Int32) (fun i x H locs ls => match x with | (y10, y4, y5) => (y10.toInt = i ∧ i ≤ n ∧ y4 = ptP σ p3 i ∧ y5.toInt = vdS σ n p3 6 - itS σ p3 i) ∧ SyS G ad σ n τ s H locs ∧ lv_has ls 14 [(10, .int y10), (4, .int y4), (5, .int y5), (6, .int (aaP σ 6)), (7, .double (shP σ 6)), (9, .int 1), (0, .ref (ad 0)), (1, .ref (ad 5)), (2, .ref (ad 6)), (3, .int p3)]) (n) 48 288 _ _ ?_ ?_ ((0, 0, x5)) ⟨⟨rfl, Nat.zero_le _, rfl, by show x5.toInt = _ - (0 : Int); omega⟩, hY, lv_sub hl [0, 5, 1, 2, 3, 4, 6, 7, 8, 9] rfl⟩
      · intro i x H locs ls hI ih
        obtain ⟨y10, y4, y5⟩ := x
        obtain ⟨hI, hY, hl⟩ := hI
        obtain ⟨g0, g9, g4, g5⟩ := hI
        refine lv_iload hx hb dL_isYear_140 (lv_at hl 0 rfl) ?_
        refine lv_aload_n hx hb dL_isYear_142 rfl (lv_at hl 8 rfl) ?_
        refine lv_iconst (v := 0) hx hb dL_isYear_143 (by decide) ?_
        refine rdN1 hC hY (0) rfl (by omega) (v := nI n) (hLI.2.2.1) dL_isYear_144 ?_
        refine b_icmp_ge (tgt := 377) hx hb dL_isYear_145 (by decide) (fun (hh2 : (nI n).toInt ≤ y10.toInt) => ?_) (fun (hh2 : y10.toInt < (nI n).toInt) => ?_)
        · have hin9 : i = n := by omega
          rw [hin9] at g4 g5
          subst g4
          refine lv_iload hx hb dL_isYear_377 (lv_at hl 5 rfl) ?_
          refine b_if_eq (tgt := 442) hx hb dL_isYear_379 (by decide) (fun h => absurd h (by decide)) (fun _ => ?_)
          refine lv_iload hx hb dL_isYear_382 (lv_at hl 2 rfl) ?_
          refine b_if_ne (tgt := 442) hx hb dL_isYear_384 (by decide) (fun (hh4 : ¬ y5.toInt = 0) => absurd hh4 (by have z := it_six hI9 n (Nat.le_refl _) (y := p3); have z2 := vds_6 (σ := σ) (n := n) (y := p3); omega)) (fun (hh4 : y5.toInt = 0) => ?_)
          refine lv_aload_n hx hb dL_isYear_387 rfl (lv_at hl 6 rfl) ?_
          refine lv_iload_n hx hb dL_isYear_388 rfl (lv_at hl 9 rfl) ?_
          refine gn_calli hY (gx_runV (n := 1) (q := (RX1, TX1, 5)) (r := 0) hC (c_X1_owners l G ad σ n τ hst p3) gL_isYear_X1_owners rfl ⟨rfl, rfl⟩ (by decide +kernel) ⟨Nat.le_of_ble_eq_true rfl, Nat.le_of_ble_eq_true rfl⟩ hY (by omega) rfl (ci := 1) rfl rfl hl.1 rfl (Nat.le_of_ble_eq_true rfl) dL_isYear_389 ⟨by show _ ≤ (900 : Nat); omega, by show _ ≤ (5400 : Nat); omega⟩) (exC_0 (cdU1_0 ⟨by omega, by omega⟩)) (fun r6 H locs hh5 hY => ?_)
          obtain ⟨-, rfl⟩ := hh5
          refine b_if_lt (tgt := 442) hx hb dL_isYear_392 (by decide) (fun (hh7 : (owP σ n p3 24).toInt < 0) => absurd hh7 (by have z := ow_nn hI9 hy hcst; omega)) (fun (hh7 : 0 ≤ (owP σ n p3 24).toInt) => ?_)
          refine lv_aload_n hx hb dL_isYear_395 rfl (lv_at hl 6 rfl) ?_
          refine lv_iload_n hx hb dL_isYear_396 rfl (lv_at hl 9 rfl) ?_
          refine lv_iload hx hb dL_isYear_397 (lv_at hl 1 rfl) ?_
          refine g_calli hY (g_runS (n := 3) hC (c_L_isCost l G ad σ n τ hst hLI p3 hy) gL_isYear_L_isCost rfl ⟨rfl, rfl⟩ (by decide +kernel) ⟨Nat.le_of_ble_eq_true rfl, Nat.le_of_ble_eq_true rfl⟩ hY rfl hl.1 rfl (Nat.le_of_ble_eq_true rfl) dL_isYear_399 ⟨by show _ ≤ (900 : Nat); omega, by show _ ≤ (5400 : Nat); omega⟩) (fun r9 H locs hh8 hY => ?_)
          subst hh8
          refine b_if_eq (tgt := 442) hx hb dL_isYear_402 (by decide) (fun h => absurd h (by decide)) (fun _ => ?_)
          refine lv_iload hx hb dL_isYear_405 (lv_at hl 3 rfl) ?_
          refine b_if_ne (tgt := 420) hx hb dL_isYear_407 (by decide) (fun (hh11 : ¬ (aaP σ 6).toInt = 0) => ?_) (fun (hh11 : (aaP σ 6).toInt = 0) => ?_)
          · refine lv_dload hx hb dL_isYear_420 (lv_at hl 4 rfl) ?_
            refine lv_ldc2d (v := 4607173411600762667) hx hb hC.2.2.2.1 (hC.2.2.2.2 _ (by decide +kernel)) dL_isYear_422 ?_
            refine lv_dcmp hx hb dL_isYear_425 ?_
            refine g_top (y := 1) ((sp_last hI9).1 (by have z := aa_b hI9 6 (by decide); omega)).1 ?_
            refine b_if_le (tgt := 442) hx hb dL_isYear_426 (by decide) (fun h => absurd h (by decide)) (fun _ => ?_)
            refine lv_dload hx hb dL_isYear_429 (lv_at hl 4 rfl) ?_
            refine lv_ldc2d (v := 4607186922399644778) hx hb hC.2.2.2.1 (hC.2.2.2.2 _ (by decide +kernel)) dL_isYear_431 ?_
            refine lv_dcmp hx hb dL_isYear_434 ?_
            refine g_top (y := (-1)) ((sp_last hI9).1 (by have z := aa_b hI9 6 (by decide); omega)).2 ?_
            refine b_if_ge (tgt := 442) hx hb dL_isYear_435 (by decide) (fun h => absurd h (by decide)) (fun _ => ?_)
            refine lv_iconst (v := 1) hx hb dL_isYear_438 (by decide) ?_
            refine lv_goto (tgt := 443) hx hb dL_isYear_439 (by decide) ?_
            exact g_zret hC hr hlocks rfl hY ⟨by show _ ≤ (900 : Nat); omega, by show _ ≤ (5400 : Nat); omega⟩ dL_isYear_443 rfl
          · refine lv_dload hx hb dL_isYear_410 (lv_at hl 4 rfl) ?_
            refine lv_dconst0 hx hb dL_isYear_412 ?_
            refine lv_dcmp hx hb dL_isYear_413 ?_
            refine b_if_ne (tgt := 442) hx hb dL_isYear_414 (by decide) (fun (hh14 : ¬ (Op.cmpValue (Jvm.FP.dcmp (shP σ 6) Jvm.FP.dconst0) .l).toInt = 0) => absurd hh14 (by exact fun q => q ((sp_last hI9).2 (by omega)))) (fun (hh14 : (Op.cmpValue (Jvm.FP.dcmp (shP σ 6) Jvm.FP.dconst0) .l).toInt = 0) => ?_)
            refine lv_goto (tgt := 438) hx hb dL_isYear_417 (by decide) ?_
            refine lv_iconst (v := 1) hx hb dL_isYear_438 (by decide) ?_
            refine lv_goto (tgt := 443) hx hb dL_isYear_439 (by decide) ?_
            exact g_zret hC hr hlocks rfl hY ⟨by show _ ≤ (900 : Nat); omega, by show _ ≤ (5400 : Nat); omega⟩ dL_isYear_443 rfl
        · refine lv_iload hx hb dL_isYear_148 (lv_at hl 5 rfl) ?_
          refine b_if_eq (tgt := 377) hx hb dL_isYear_150 (by decide) (fun h => absurd h (by decide)) (fun _ => ?_)
          have hp : 0 ≤ y10.toInt ∧ y10.toInt < (n : Int) := ⟨by omega, by omega⟩
          have hk : ix y10 < n := ix_lt hp
          obtain ⟨r1, r2, r3, r4, r5, r6, r7, r8, r9⟩ := hLI.2.2.2.2.1 (ix y10) hk
          obtain ⟨s1, s2, s3⟩ := hLI.2.2.2.2.2.2.1 (ix y10) hk
          have hL := hok (ix y10) hk
          obtain ⟨f0, ⟨f1, f2, f3⟩, ⟨f4, f5⟩, ⟨f6, f7⟩, f8, ⟨f9, f10⟩, ⟨f11, f12⟩, ⟨f13, f14⟩, -⟩ := id hL
          have hiy : ix y10 = i := i_ix g0
          have hdi : (diF σ (ix y10) p3).toInt = its σ (ix y10) p3 := di_int hL hy
          have hdi2 : (diF σ (ix y10) p3).toInt = its σ i p3 := by rw [hdi, hiy]
          have hwn := wd_nn (σ := σ) (k := ix y10) (a := 360 * p3.toInt) (D := 360) (by decide)
          have hin0 : 0 ≤ its σ (ix y10) p3 := hwn.1
          have hin1 : its σ (ix y10) p3 ≤ 360 := hwn.2
          have hib := it_b (σ := σ) (y := p3) i
          have hvb := vds_b hI9 (y := p3) 6
          refine w_cut 243 (fun (x : Int32) H locs ls => match x with | x13 => (x13 = diF σ (ix y10) p3) ∧ SyS G ad σ n τ s H locs ∧ lv_has ls 14 [(10, .int y10), (4, .int y4), (5, .int y5), (6, .int (aaP σ 6)), (7, .double (shP σ 6)), (9, .int 1), (0, .ref (ad 0)), (1, .ref (ad 5)), (2, .ref (ad 6)), (3, .int p3), (13, .int x13)]) (fun tail => ?_) (fun x H locs ls hP => ?_)
          · refine lv_aload_n hx hb dL_isYear_153 rfl (lv_at hl 7 rfl) ?_
            refine lv_bipush (v := 12) hx hb dL_isYear_154 (by decide) ?_
            refine lv_iload hx hb dL_isYear_156 (lv_at hl 0 rfl) ?_
            refine lv_iadd hx hb dL_isYear_158 ?_
            refine rdN0 hC hY (12 + ix y10) (i_ixc (C := 12) rfl ⟨by omega, by omega⟩ (by decide)) (by omega) (v := σ 4 (ix y10)) (r2) dL_isYear_159 ?_
            refine lv_sipush (v := 360) hx hb dL_isYear_160 (by decide) ?_
            refine lv_iload_n hx hb dL_isYear_163 rfl (lv_at hl 9 rfl) ?_
            refine lv_imul hx hb dL_isYear_164 ?_
            refine lv_topi (fun v16 e16 => ?_)
            have q16 : v16.toInt = 360 * p3.toInt := by rw [e16]; exact i_mulR rfl rfl (by omega)
            refine b_icmp_le (tgt := 178) hx hb dL_isYear_165 (by decide) (fun (hh17 : (σ 4 (ix y10)).toInt ≤ v16.toInt) => ?_) (fun (hh17 : v16.toInt < (σ 4 (ix y10)).toInt) => ?_)
            · refine lv_sipush (v := 360) hx hb dL_isYear_178 (by decide) ?_
              refine lv_iload_n hx hb dL_isYear_181 rfl (lv_at hl 9 rfl) ?_
              refine lv_imul hx hb dL_isYear_182 ?_
              refine g_top (y := v16) e16.symm ?_
              refine lv_istore (lv' := [(11, .int v16), (10, .int y10), (4, .int y4), (5, .int y5), (6, .int (aaP σ 6)), (7, .double (shP σ 6)), (9, .int 1), (0, .ref (ad 0)), (1, .ref (ad 5)), (2, .ref (ad 6)), (3, .int p3)]) hx hb dL_isYear_183 hl (by decide) rfl (fun ls hl => ?_)
              refine lv_aload_n hx hb dL_isYear_185 rfl (lv_at hl 8 rfl) ?_
              refine lv_bipush (v := 24) hx hb dL_isYear_186 (by decide) ?_
              refine lv_iload hx hb dL_isYear_188 (lv_at hl 1 rfl) ?_
              refine lv_iadd hx hb dL_isYear_190 ?_
              refine rdN0 hC hY (24 + ix y10) (i_ixc (C := 24) rfl ⟨by omega, by omega⟩ (by decide)) (by omega) (v := σ 5 (ix y10)) (r3) dL_isYear_191 ?_
              refine lv_sipush (v := 360) hx hb dL_isYear_192 (by decide) ?_
              refine lv_iload_n hx hb dL_isYear_195 rfl (lv_at hl 10 rfl) ?_
              refine lv_imul hx hb dL_isYear_196 ?_
              refine g_top (y := v16) e16.symm ?_
              refine lv_sipush (v := 360) hx hb dL_isYear_197 (by decide) ?_
              refine lv_iadd hx hb dL_isYear_200 ?_
              refine lv_topi (fun v18 e18 => ?_)
              have q18 : v18.toInt = v16.toInt + 360 := by rw [e18]; exact i_addR rfl rfl (by omega)
              refine b_icmp_ge (tgt := 214) hx hb dL_isYear_201 (by decide) (fun (hh19 : v18.toInt ≤ (σ 5 (ix y10)).toInt) => ?_) (fun (hh19 : (σ 5 (ix y10)).toInt < v18.toInt) => ?_)
              · refine lv_sipush (v := 360) hx hb dL_isYear_214 (by decide) ?_
                refine lv_iload_n hx hb dL_isYear_217 rfl (lv_at hl 10 rfl) ?_
                refine lv_imul hx hb dL_isYear_218 ?_
                refine g_top (y := v16) e16.symm ?_
                refine lv_sipush (v := 360) hx hb dL_isYear_219 (by decide) ?_
                refine lv_iadd hx hb dL_isYear_222 ?_
                refine g_top (y := v18) e18.symm ?_
                refine lv_istore (lv' := [(12, .int v18), (11, .int v16), (10, .int y10), (4, .int y4), (5, .int y5), (6, .int (aaP σ 6)), (7, .double (shP σ 6)), (9, .int 1), (0, .ref (ad 0)), (1, .ref (ad 5)), (2, .ref (ad 6)), (3, .int p3)]) hx hb dL_isYear_223 hl (by decide) rfl (fun ls hl => ?_)
                refine lv_iload hx hb dL_isYear_225 (lv_at hl 0 rfl) ?_
                refine lv_iload hx hb dL_isYear_227 (lv_at hl 1 rfl) ?_
                refine b_icmp_le (tgt := 240) hx hb dL_isYear_229 (by decide) (fun (hh20 : v18.toInt ≤ v16.toInt) => ?_) (fun (hh20 : v16.toInt < v18.toInt) => ?_)
                · refine lv_iconst (v := 0) hx hb dL_isYear_240 (by decide) ?_
                  refine lv_istore (lv' := [(13, .int 0), (12, .int v18), (11, .int v16), (10, .int y10), (4, .int y4), (5, .int y5), (6, .int (aaP σ 6)), (7, .double (shP σ 6)), (9, .int 1), (0, .ref (ad 0)), (1, .ref (ad 5)), (2, .ref (ad 6)), (3, .int p3)]) hx hb dL_isYear_241 hl (by decide) rfl (fun ls hl => ?_)
                  exact tail _ _ _ _ ⟨i_ext (by rw [hdi]; show _ = wdD σ (ix y10) (360 * p3.toInt) 360; unfold wdD; have z : (0 : Int32).toInt = 0 := rfl; (repeat' split) <;> omega), hY, lv_sub hl [3, 4, 5, 6, 7, 8, 9, 10, 11, 12, 0] rfl⟩
                · refine lv_iload hx hb dL_isYear_232 (lv_at hl 0 rfl) ?_
                  refine lv_iload hx hb dL_isYear_234 (lv_at hl 1 rfl) ?_
                  refine lv_isub hx hb dL_isYear_236 ?_
                  refine lv_topi (fun v21 e21 => ?_)
                  have q21 : v21.toInt = v18.toInt - v16.toInt := by rw [e21]; exact i_subR rfl rfl (by omega)
                  refine lv_goto (tgt := 241) hx hb dL_isYear_237 (by decide) ?_
                  refine lv_istore (lv' := [(13, .int v21), (12, .int v18), (11, .int v16), (10, .int y10), (4, .int y4), (5, .int y5), (6, .int (aaP σ 6)), (7, .double (shP σ 6)), (9, .int 1), (0, .ref (ad 0)), (1, .ref (ad 5)), (2, .ref (ad 6)), (3, .int p3)]) hx hb dL_isYear_241 hl (by decide) rfl (fun ls hl => ?_)
                  exact tail _ _ _ _ ⟨i_ext (by rw [hdi]; show _ = wdD σ (ix y10) (360 * p3.toInt) 360; unfold wdD; have z : (0 : Int32).toInt = 0 := rfl; (repeat' split) <;> omega), hY, lv_sub hl [3, 4, 5, 6, 7, 8, 9, 10, 11, 12, 0] rfl⟩
              · refine lv_aload_n hx hb dL_isYear_204 rfl (lv_at hl 8 rfl) ?_
                refine lv_bipush (v := 24) hx hb dL_isYear_205 (by decide) ?_
                refine lv_iload hx hb dL_isYear_207 (lv_at hl 1 rfl) ?_
                refine lv_iadd hx hb dL_isYear_209 ?_
                refine rdN0 hC hY (24 + ix y10) (i_ixc (C := 24) rfl ⟨by omega, by omega⟩ (by decide)) (by omega) (v := σ 5 (ix y10)) (r3) dL_isYear_210 ?_
                refine lv_goto (tgt := 223) hx hb dL_isYear_211 (by decide) ?_
                refine lv_istore (lv' := [(12, .int (σ 5 (ix y10))), (11, .int v16), (10, .int y10), (4, .int y4), (5, .int y5), (6, .int (aaP σ 6)), (7, .double (shP σ 6)), (9, .int 1), (0, .ref (ad 0)), (1, .ref (ad 5)), (2, .ref (ad 6)), (3, .int p3)]) hx hb dL_isYear_223 hl (by decide) rfl (fun ls hl => ?_)
                refine lv_iload hx hb dL_isYear_225 (lv_at hl 0 rfl) ?_
                refine lv_iload hx hb dL_isYear_227 (lv_at hl 1 rfl) ?_
                refine b_icmp_le (tgt := 240) hx hb dL_isYear_229 (by decide) (fun (hh22 : (σ 5 (ix y10)).toInt ≤ v16.toInt) => ?_) (fun (hh22 : v16.toInt < (σ 5 (ix y10)).toInt) => ?_)
                · refine lv_iconst (v := 0) hx hb dL_isYear_240 (by decide) ?_
                  refine lv_istore (lv' := [(13, .int 0), (12, .int (σ 5 (ix y10))), (11, .int v16), (10, .int y10), (4, .int y4), (5, .int y5), (6, .int (aaP σ 6)), (7, .double (shP σ 6)), (9, .int 1), (0, .ref (ad 0)), (1, .ref (ad 5)), (2, .ref (ad 6)), (3, .int p3)]) hx hb dL_isYear_241 hl (by decide) rfl (fun ls hl => ?_)
                  exact tail _ _ _ _ ⟨i_ext (by rw [hdi]; show _ = wdD σ (ix y10) (360 * p3.toInt) 360; unfold wdD; have z : (0 : Int32).toInt = 0 := rfl; (repeat' split) <;> omega), hY, lv_sub hl [3, 4, 5, 6, 7, 8, 9, 10, 11, 12, 0] rfl⟩
                · refine lv_iload hx hb dL_isYear_232 (lv_at hl 0 rfl) ?_
                  refine lv_iload hx hb dL_isYear_234 (lv_at hl 1 rfl) ?_
                  refine lv_isub hx hb dL_isYear_236 ?_
                  refine lv_topi (fun v23 e23 => ?_)
                  have q23 : v23.toInt = (σ 5 (ix y10)).toInt - v16.toInt := by rw [e23]; exact i_subR rfl rfl (by omega)
                  refine lv_goto (tgt := 241) hx hb dL_isYear_237 (by decide) ?_
                  refine lv_istore (lv' := [(13, .int v23), (12, .int (σ 5 (ix y10))), (11, .int v16), (10, .int y10), (4, .int y4), (5, .int y5), (6, .int (aaP σ 6)), (7, .double (shP σ 6)), (9, .int 1), (0, .ref (ad 0)), (1, .ref (ad 5)), (2, .ref (ad 6)), (3, .int p3)]) hx hb dL_isYear_241 hl (by decide) rfl (fun ls hl => ?_)
                  exact tail _ _ _ _ ⟨i_ext (by rw [hdi]; show _ = wdD σ (ix y10) (360 * p3.toInt) 360; unfold wdD; have z : (0 : Int32).toInt = 0 := rfl; (repeat' split) <;> omega), hY, lv_sub hl [3, 4, 5, 6, 7, 8, 9, 10, 11, 12, 0] rfl⟩
            · refine lv_aload_n hx hb dL_isYear_168 rfl (lv_at hl 7 rfl) ?_
              refine lv_bipush (v := 12) hx hb dL_isYear_169 (by decide) ?_
              refine lv_iload hx hb dL_isYear_171 (lv_at hl 0 rfl) ?_
              refine lv_iadd hx hb dL_isYear_173 ?_
              refine rdN0 hC hY (12 + ix y10) (i_ixc (C := 12) rfl ⟨by omega, by omega⟩ (by decide)) (by omega) (v := σ 4 (ix y10)) (r2) dL_isYear_174 ?_
              refine lv_goto (tgt := 183) hx hb dL_isYear_175 (by decide) ?_
              refine lv_istore (lv' := [(11, .int (σ 4 (ix y10))), (10, .int y10), (4, .int y4), (5, .int y5), (6, .int (aaP σ 6)), (7, .double (shP σ 6)), (9, .int 1), (0, .ref (ad 0)), (1, .ref (ad 5)), (2, .ref (ad 6)), (3, .int p3)]) hx hb dL_isYear_183 hl (by decide) rfl (fun ls hl => ?_)
              refine lv_aload_n hx hb dL_isYear_185 rfl (lv_at hl 8 rfl) ?_
              refine lv_bipush (v := 24) hx hb dL_isYear_186 (by decide) ?_
              refine lv_iload hx hb dL_isYear_188 (lv_at hl 1 rfl) ?_
              refine lv_iadd hx hb dL_isYear_190 ?_
              refine rdN0 hC hY (24 + ix y10) (i_ixc (C := 24) rfl ⟨by omega, by omega⟩ (by decide)) (by omega) (v := σ 5 (ix y10)) (r3) dL_isYear_191 ?_
              refine lv_sipush (v := 360) hx hb dL_isYear_192 (by decide) ?_
              refine lv_iload_n hx hb dL_isYear_195 rfl (lv_at hl 10 rfl) ?_
              refine lv_imul hx hb dL_isYear_196 ?_
              refine g_top (y := v16) e16.symm ?_
              refine lv_sipush (v := 360) hx hb dL_isYear_197 (by decide) ?_
              refine lv_iadd hx hb dL_isYear_200 ?_
              refine lv_topi (fun v24 e24 => ?_)
              have q24 : v24.toInt = v16.toInt + 360 := by rw [e24]; exact i_addR rfl rfl (by omega)
              refine b_icmp_ge (tgt := 214) hx hb dL_isYear_201 (by decide) (fun (hh25 : v24.toInt ≤ (σ 5 (ix y10)).toInt) => ?_) (fun (hh25 : (σ 5 (ix y10)).toInt < v24.toInt) => ?_)
              · refine lv_sipush (v := 360) hx hb dL_isYear_214 (by decide) ?_
                refine lv_iload_n hx hb dL_isYear_217 rfl (lv_at hl 10 rfl) ?_
                refine lv_imul hx hb dL_isYear_218 ?_
                refine g_top (y := v16) e16.symm ?_
                refine lv_sipush (v := 360) hx hb dL_isYear_219 (by decide) ?_
                refine lv_iadd hx hb dL_isYear_222 ?_
                refine g_top (y := v24) e24.symm ?_
                refine lv_istore (lv' := [(12, .int v24), (11, .int (σ 4 (ix y10))), (10, .int y10), (4, .int y4), (5, .int y5), (6, .int (aaP σ 6)), (7, .double (shP σ 6)), (9, .int 1), (0, .ref (ad 0)), (1, .ref (ad 5)), (2, .ref (ad 6)), (3, .int p3)]) hx hb dL_isYear_223 hl (by decide) rfl (fun ls hl => ?_)
                refine lv_iload hx hb dL_isYear_225 (lv_at hl 0 rfl) ?_
                refine lv_iload hx hb dL_isYear_227 (lv_at hl 1 rfl) ?_
                refine b_icmp_le (tgt := 240) hx hb dL_isYear_229 (by decide) (fun (hh26 : v24.toInt ≤ (σ 4 (ix y10)).toInt) => ?_) (fun (hh26 : (σ 4 (ix y10)).toInt < v24.toInt) => ?_)
                · refine lv_iconst (v := 0) hx hb dL_isYear_240 (by decide) ?_
                  refine lv_istore (lv' := [(13, .int 0), (12, .int v24), (11, .int (σ 4 (ix y10))), (10, .int y10), (4, .int y4), (5, .int y5), (6, .int (aaP σ 6)), (7, .double (shP σ 6)), (9, .int 1), (0, .ref (ad 0)), (1, .ref (ad 5)), (2, .ref (ad 6)), (3, .int p3)]) hx hb dL_isYear_241 hl (by decide) rfl (fun ls hl => ?_)
                  exact tail _ _ _ _ ⟨i_ext (by rw [hdi]; show _ = wdD σ (ix y10) (360 * p3.toInt) 360; unfold wdD; have z : (0 : Int32).toInt = 0 := rfl; (repeat' split) <;> omega), hY, lv_sub hl [3, 4, 5, 6, 7, 8, 9, 10, 11, 12, 0] rfl⟩
                · refine lv_iload hx hb dL_isYear_232 (lv_at hl 0 rfl) ?_
                  refine lv_iload hx hb dL_isYear_234 (lv_at hl 1 rfl) ?_
                  refine lv_isub hx hb dL_isYear_236 ?_
                  refine lv_topi (fun v27 e27 => ?_)
                  have q27 : v27.toInt = v24.toInt - (σ 4 (ix y10)).toInt := by rw [e27]; exact i_subR rfl rfl (by omega)
                  refine lv_goto (tgt := 241) hx hb dL_isYear_237 (by decide) ?_
                  refine lv_istore (lv' := [(13, .int v27), (12, .int v24), (11, .int (σ 4 (ix y10))), (10, .int y10), (4, .int y4), (5, .int y5), (6, .int (aaP σ 6)), (7, .double (shP σ 6)), (9, .int 1), (0, .ref (ad 0)), (1, .ref (ad 5)), (2, .ref (ad 6)), (3, .int p3)]) hx hb dL_isYear_241 hl (by decide) rfl (fun ls hl => ?_)
                  exact tail _ _ _ _ ⟨i_ext (by rw [hdi]; show _ = wdD σ (ix y10) (360 * p3.toInt) 360; unfold wdD; have z : (0 : Int32).toInt = 0 := rfl; (repeat' split) <;> omega), hY, lv_sub hl [3, 4, 5, 6, 7, 8, 9, 10, 11, 12, 0] rfl⟩
              · refine lv_aload_n hx hb dL_isYear_204 rfl (lv_at hl 8 rfl) ?_
                refine lv_bipush (v := 24) hx hb dL_isYear_205 (by decide) ?_
                refine lv_iload hx hb dL_isYear_207 (lv_at hl 1 rfl) ?_
                refine lv_iadd hx hb dL_isYear_209 ?_
                refine rdN0 hC hY (24 + ix y10) (i_ixc (C := 24) rfl ⟨by omega, by omega⟩ (by decide)) (by omega) (v := σ 5 (ix y10)) (r3) dL_isYear_210 ?_
                refine lv_goto (tgt := 223) hx hb dL_isYear_211 (by decide) ?_
                refine lv_istore (lv' := [(12, .int (σ 5 (ix y10))), (11, .int (σ 4 (ix y10))), (10, .int y10), (4, .int y4), (5, .int y5), (6, .int (aaP σ 6)), (7, .double (shP σ 6)), (9, .int 1), (0, .ref (ad 0)), (1, .ref (ad 5)), (2, .ref (ad 6)), (3, .int p3)]) hx hb dL_isYear_223 hl (by decide) rfl (fun ls hl => ?_)
                refine lv_iload hx hb dL_isYear_225 (lv_at hl 0 rfl) ?_
                refine lv_iload hx hb dL_isYear_227 (lv_at hl 1 rfl) ?_
                refine b_icmp_le (tgt := 240) hx hb dL_isYear_229 (by decide) (fun (hh28 : (σ 5 (ix y10)).toInt ≤ (σ 4 (ix y10)).toInt) => ?_) (fun (hh28 : (σ 4 (ix y10)).toInt < (σ 5 (ix y10)).toInt) => ?_)
                · refine lv_iconst (v := 0) hx hb dL_isYear_240 (by decide) ?_
                  refine lv_istore (lv' := [(13, .int 0), (12, .int (σ 5 (ix y10))), (11, .int (σ 4 (ix y10))), (10, .int y10), (4, .int y4), (5, .int y5), (6, .int (aaP σ 6)), (7, .double (shP σ 6)), (9, .int 1), (0, .ref (ad 0)), (1, .ref (ad 5)), (2, .ref (ad 6)), (3, .int p3)]) hx hb dL_isYear_241 hl (by decide) rfl (fun ls hl => ?_)
                  exact tail _ _ _ _ ⟨i_ext (by rw [hdi]; show _ = wdD σ (ix y10) (360 * p3.toInt) 360; unfold wdD; have z : (0 : Int32).toInt = 0 := rfl; (repeat' split) <;> omega), hY, lv_sub hl [3, 4, 5, 6, 7, 8, 9, 10, 11, 12, 0] rfl⟩
                · refine lv_iload hx hb dL_isYear_232 (lv_at hl 0 rfl) ?_
                  refine lv_iload hx hb dL_isYear_234 (lv_at hl 1 rfl) ?_
                  refine lv_isub hx hb dL_isYear_236 ?_
                  refine lv_topi (fun v29 e29 => ?_)
                  have q29 : v29.toInt = (σ 5 (ix y10)).toInt - (σ 4 (ix y10)).toInt := by rw [e29]; exact i_subR rfl rfl (by omega)
                  refine lv_goto (tgt := 241) hx hb dL_isYear_237 (by decide) ?_
                  refine lv_istore (lv' := [(13, .int v29), (12, .int (σ 5 (ix y10))), (11, .int (σ 4 (ix y10))), (10, .int y10), (4, .int y4), (5, .int y5), (6, .int (aaP σ 6)), (7, .double (shP σ 6)), (9, .int 1), (0, .ref (ad 0)), (1, .ref (ad 5)), (2, .ref (ad 6)), (3, .int p3)]) hx hb dL_isYear_241 hl (by decide) rfl (fun ls hl => ?_)
                  exact tail _ _ _ _ ⟨i_ext (by rw [hdi]; show _ = wdD σ (ix y10) (360 * p3.toInt) 360; unfold wdD; have z : (0 : Int32).toInt = 0 := rfl; (repeat' split) <;> omega), hY, lv_sub hl [3, 4, 5, 6, 7, 8, 9, 10, 11, 12, 0] rfl⟩
          · obtain ⟨x13, rfl⟩ : ∃ z, z = x := ⟨_, rfl⟩
            obtain ⟨hP, hY, hl⟩ := hP
            subst hP
            obtain ⟨t1, t2, t3, t4, t5, t6⟩ := pt_ok hI9 hk hy hcst
            have hbl := bl_ok hI9 hk hy hcst
            refine lv_iload hx hb dL_isYear_243 (lv_at hl 1 rfl) ?_
            refine lv_aload_n hx hb dL_isYear_245 rfl (lv_at hl 6 rfl) ?_
            refine lv_iload hx hb dL_isYear_246 (lv_at hl 0 rfl) ?_
            refine lv_iload_n hx hb dL_isYear_248 rfl (lv_at hl 9 rfl) ?_
            refine gn_calli hY (gx_runV (n := 2) (q := (RX1, TX1, 5)) (r := 0) hC (c_X1_part l G ad σ n τ hst hn24 y10 p3) gL_isYear_X1_part rfl ⟨rfl, rfl⟩ (by decide +kernel) ⟨Nat.le_of_ble_eq_true rfl, Nat.le_of_ble_eq_true rfl⟩ hY (by omega) rfl (ci := 1) rfl rfl hl.1 rfl (Nat.le_of_ble_eq_true rfl) dL_isYear_249 ⟨by show _ ≤ (900 : Nat); omega, by show _ ≤ (5400 : Nat); omega⟩) (exC_0 (cdLX_0 ⟨by omega, by omega⟩ ⟨by omega, by omega⟩)) (fun r31 H locs hh30 hY => ?_)
            obtain ⟨-, rfl⟩ := hh30
            refine lv_iadd hx hb dL_isYear_252 ?_
            refine lv_istore (lv' := [(4, .int (y4 + (ptF σ (ix y10) p3 (σ 2 (ix p3))))), (10, .int y10), (5, .int y5), (6, .int (aaP σ 6)), (7, .double (shP σ 6)), (9, .int 1), (0, .ref (ad 0)), (1, .ref (ad 5)), (2, .ref (ad 6)), (3, .int p3), (13, .int (diF σ (ix y10) p3))]) hx hb dL_isYear_253 hl (by decide) rfl (fun ls hl => ?_)
            refine lv_iload hx hb dL_isYear_255 (lv_at hl 2 rfl) ?_
            refine lv_iload hx hb dL_isYear_257 (lv_at hl 10 rfl) ?_
            refine lv_isub hx hb dL_isYear_259 ?_
            refine lv_topi (fun v32 e32 => ?_)
            have q32 : v32.toInt = y5.toInt - (diF σ (ix y10) p3).toInt := by rw [e32]; exact i_subR rfl rfl (by omega)
            refine lv_istore (lv' := [(5, .int v32), (4, .int (y4 + (ptF σ (ix y10) p3 (σ 2 (ix p3))))), (10, .int y10), (6, .int (aaP σ 6)), (7, .double (shP σ 6)), (9, .int 1), (0, .ref (ad 0)), (1, .ref (ad 5)), (2, .ref (ad 6)), (3, .int p3), (13, .int (diF σ (ix y10) p3))]) hx hb dL_isYear_260 hl (by decide) rfl (fun ls hl => ?_)
            refine lv_aload_n hx hb dL_isYear_262 rfl (lv_at hl 6 rfl) ?_
            refine lv_iload hx hb dL_isYear_263 (lv_at hl 2 rfl) ?_
            refine lv_iload_n hx hb dL_isYear_265 rfl (lv_at hl 9 rfl) ?_
            refine gn_calli hY (gx_runV (n := 2) (q := (RX1, TX1, 5)) (r := 0) hC (c_X1_part l G ad σ n τ hst hn24 y10 p3) gL_isYear_X1_part rfl ⟨rfl, rfl⟩ (by decide +kernel) ⟨Nat.le_of_ble_eq_true rfl, Nat.le_of_ble_eq_true rfl⟩ hY (by omega) rfl (ci := 1) rfl rfl hl.1 rfl (Nat.le_of_ble_eq_true rfl) dL_isYear_266 ⟨by show _ ≤ (900 : Nat); omega, by show _ ≤ (5400 : Nat); omega⟩) (exC_0 (cdLX_0 ⟨by omega, by omega⟩ ⟨by omega, by omega⟩)) (fun r34 H locs hh33 hY => ?_)
            obtain ⟨-, rfl⟩ := hh33
            refine b_if_lt (tgt := 368) hx hb dL_isYear_269 (by decide) (fun (hh35 : (ptF σ (ix y10) p3 (σ 2 (ix p3))).toInt < 0) => absurd hh35 (by omega)) (fun (hh35 : 0 ≤ (ptF σ (ix y10) p3 (σ 2 (ix p3))).toInt) => ?_)
            refine lv_iload hx hb dL_isYear_272 (lv_at hl 10 rfl) ?_
            refine b_if_gt (tgt := 297) hx hb dL_isYear_274 (by decide) (fun (hh36 : 0 < (diF σ (ix y10) p3).toInt) => ?_) (fun (hh36 : (diF σ (ix y10) p3).toInt ≤ 0) => ?_)
            · refine lv_aload_n hx hb dL_isYear_297 rfl (lv_at hl 7 rfl) ?_
              refine lv_bipush (v := 48) hx hb dL_isYear_298 (by decide) ?_
              refine lv_iload hx hb dL_isYear_300 (lv_at hl 2 rfl) ?_
              refine lv_iadd hx hb dL_isYear_302 ?_
              refine rdN0 hC hY (48 + ix y10) (i_ixc (C := 48) rfl ⟨by omega, by omega⟩ (by decide)) (by omega) (v := σ 9 (ix y10)) (r5) dL_isYear_303 ?_
              refine lv_iconst (v := (-1)) hx hb dL_isYear_304 (by decide) ?_
              refine b_icmp_eq (tgt := 332) hx hb dL_isYear_305 (by decide) (fun (hh37 : (σ 9 (ix y10)).toInt = (-1)) => ?_) (fun (hh37 : ¬ (σ 9 (ix y10)).toInt = (-1)) => ?_)
              · refine lv_iload hx hb dL_isYear_332 (lv_at hl 3 rfl) ?_
                refine b_if_gt (tgt := 347) hx hb dL_isYear_334 (by decide) (fun (hh38 : 0 < (aaP σ 6).toInt) => ?_) (fun (hh38 : (aaP σ 6).toInt ≤ 0) => ?_)
                · refine lv_aload_n hx hb dL_isYear_347 rfl (lv_at hl 6 rfl) ?_
                  refine lv_iload hx hb dL_isYear_348 (lv_at hl 2 rfl) ?_
                  refine lv_iload_n hx hb dL_isYear_350 rfl (lv_at hl 9 rfl) ?_
                  refine gn_calli hY (gx_runV (n := 2) (q := (RX1, TX1, 5)) (r := 0) hC (c_X1_balance l G ad σ n τ hst hn24 y10 p3) gL_isYear_X1_balance rfl ⟨rfl, rfl⟩ (by decide +kernel) ⟨Nat.le_of_ble_eq_true rfl, Nat.le_of_ble_eq_true rfl⟩ hY (by omega) rfl (ci := 1) rfl rfl hl.1 rfl (Nat.le_of_ble_eq_true rfl) dL_isYear_351 ⟨by show _ ≤ (900 : Nat); omega, by show _ ≤ (5400 : Nat); omega⟩) (exC_0 (cdLX_0 ⟨by omega, by omega⟩ ⟨by omega, by omega⟩)) (fun r40 H locs hh39 hY => ?_)
                  obtain ⟨-, rfl⟩ := hh39
                  refine lv_aload_n hx hb dL_isYear_354 rfl (lv_at hl 6 rfl) ?_
                  refine lv_iload hx hb dL_isYear_355 (lv_at hl 2 rfl) ?_
                  refine lv_iload_n hx hb dL_isYear_357 rfl (lv_at hl 9 rfl) ?_
                  refine gn_calli hY (gx_runV (n := 2) (q := (RX1, TX1, 5)) (r := 0) hC (c_X1_part l G ad σ n τ hst hn24 y10 p3) gL_isYear_X1_part rfl ⟨rfl, rfl⟩ (by decide +kernel) ⟨Nat.le_of_ble_eq_true rfl, Nat.le_of_ble_eq_true rfl⟩ hY (by omega) rfl (ci := 1) rfl rfl hl.1 rfl (Nat.le_of_ble_eq_true rfl) dL_isYear_358 ⟨by show _ ≤ (900 : Nat); omega, by show _ ≤ (5400 : Nat); omega⟩) (exC_0 (cdLX_0 ⟨by omega, by omega⟩ ⟨by omega, by omega⟩)) (fun r42 H locs hh41 hY => ?_)
                  obtain ⟨-, rfl⟩ := hh41
                  refine b_icmp_gt (tgt := 368) hx hb dL_isYear_361 (by decide) (fun (hh43 : (ptF σ (ix y10) p3 (σ 2 (ix p3))).toInt < (ptF σ (ix y10) p3 (σ 2 (ix p3)) - σ 10 (ix y10) * diF σ (ix y10) p3 / 30).toInt) => absurd hh43 (by have z := hbl.1; omega)) (fun (hh43 : (ptF σ (ix y10) p3 (σ 2 (ix p3)) - σ 10 (ix y10) * diF σ (ix y10) p3 / 30).toInt ≤ (ptF σ (ix y10) p3 (σ 2 (ix p3))).toInt) => ?_)
                  refine lv_iconst (v := 1) hx hb dL_isYear_364 (by decide) ?_
                  refine lv_goto (tgt := 369) hx hb dL_isYear_365 (by decide) ?_
                  refine lv_istore (lv' := [(9, .int 1), (5, .int v32), (4, .int (y4 + (ptF σ (ix y10) p3 (σ 2 (ix p3))))), (10, .int y10), (6, .int (aaP σ 6)), (7, .double (shP σ 6)), (0, .ref (ad 0)), (1, .ref (ad 5)), (2, .ref (ad 6)), (3, .int p3), (13, .int (diF σ (ix y10) p3))]) hx hb dL_isYear_369 hl (by decide) rfl (fun ls hl => ?_)
                  refine lv_iinc (v := y10 + 1) (lv' := [(10, .int (y10 + 1)), (9, .int 1), (5, .int v32), (4, .int (y4 + (ptF σ (ix y10) p3 (σ 2 (ix p3))))), (6, .int (aaP σ 6)), (7, .double (shP σ 6)), (0, .ref (ad 0)), (1, .ref (ad 5)), (2, .ref (ad 6)), (3, .int p3), (13, .int (diF σ (ix y10) p3))]) hx hb dL_isYear_371 hl (k := 3) rfl rfl (by decide) rfl (fun ls hl => ?_)
                  refine lv_goto (tgt := 140) hx hb dL_isYear_374 (by decide) ?_
                  exact W.widen (by omega) (by omega) (ih (y10 + 1, y4 + (ptF σ (ix y10) p3 (σ 2 (ix p3))), v32) _ _ _ ⟨⟨by rw [i_add1 (by omega)]; omega, by omega, by rw [g4, hiy]; rfl, by show _ = _ - (itS σ p3 i + its σ i p3); omega⟩, hY, lv_sub hl [0, 3, 2, 4, 5, 1, 6, 7, 8, 9] rfl⟩)
                · refine lv_aload_n hx hb dL_isYear_337 rfl (lv_at hl 6 rfl) ?_
                  refine lv_iload hx hb dL_isYear_338 (lv_at hl 2 rfl) ?_
                  refine lv_iload_n hx hb dL_isYear_340 rfl (lv_at hl 9 rfl) ?_
                  refine gn_calli hY (gx_runV (n := 2) (q := (RX1, TX1, 5)) (r := 0) hC (c_X1_part l G ad σ n τ hst hn24 y10 p3) gL_isYear_X1_part rfl ⟨rfl, rfl⟩ (by decide +kernel) ⟨Nat.le_of_ble_eq_true rfl, Nat.le_of_ble_eq_true rfl⟩ hY (by omega) rfl (ci := 1) rfl rfl hl.1 rfl (Nat.le_of_ble_eq_true rfl) dL_isYear_341 ⟨by show _ ≤ (900 : Nat); omega, by show _ ≤ (5400 : Nat); omega⟩) (exC_0 (cdLX_0 ⟨by omega, by omega⟩ ⟨by omega, by omega⟩)) (fun r45 H locs hh44 hY => ?_)
                  obtain ⟨-, rfl⟩ := hh44
                  refine b_if_ne (tgt := 368) hx hb dL_isYear_344 (by decide) (fun (hh46 : ¬ (ptF σ (ix y10) p3 (σ 2 (ix p3))).toInt = 0) => absurd hh46 (by exact fun q => q (t5 (by have z := aa_b hI9 6 (by decide); omega)))) (fun (hh46 : (ptF σ (ix y10) p3 (σ 2 (ix p3))).toInt = 0) => ?_)
                  refine lv_aload_n hx hb dL_isYear_347 rfl (lv_at hl 6 rfl) ?_
                  refine lv_iload hx hb dL_isYear_348 (lv_at hl 2 rfl) ?_
                  refine lv_iload_n hx hb dL_isYear_350 rfl (lv_at hl 9 rfl) ?_
                  refine gn_calli hY (gx_runV (n := 2) (q := (RX1, TX1, 5)) (r := 0) hC (c_X1_balance l G ad σ n τ hst hn24 y10 p3) gL_isYear_X1_balance rfl ⟨rfl, rfl⟩ (by decide +kernel) ⟨Nat.le_of_ble_eq_true rfl, Nat.le_of_ble_eq_true rfl⟩ hY (by omega) rfl (ci := 1) rfl rfl hl.1 rfl (Nat.le_of_ble_eq_true rfl) dL_isYear_351 ⟨by show _ ≤ (900 : Nat); omega, by show _ ≤ (5400 : Nat); omega⟩) (exC_0 (cdLX_0 ⟨by omega, by omega⟩ ⟨by omega, by omega⟩)) (fun r48 H locs hh47 hY => ?_)
                  obtain ⟨-, rfl⟩ := hh47
                  refine lv_aload_n hx hb dL_isYear_354 rfl (lv_at hl 6 rfl) ?_
                  refine lv_iload hx hb dL_isYear_355 (lv_at hl 2 rfl) ?_
                  refine lv_iload_n hx hb dL_isYear_357 rfl (lv_at hl 9 rfl) ?_
                  refine gn_calli hY (gx_runV (n := 2) (q := (RX1, TX1, 5)) (r := 0) hC (c_X1_part l G ad σ n τ hst hn24 y10 p3) gL_isYear_X1_part rfl ⟨rfl, rfl⟩ (by decide +kernel) ⟨Nat.le_of_ble_eq_true rfl, Nat.le_of_ble_eq_true rfl⟩ hY (by omega) rfl (ci := 1) rfl rfl hl.1 rfl (Nat.le_of_ble_eq_true rfl) dL_isYear_358 ⟨by show _ ≤ (900 : Nat); omega, by show _ ≤ (5400 : Nat); omega⟩) (exC_0 (cdLX_0 ⟨by omega, by omega⟩ ⟨by omega, by omega⟩)) (fun r50 H locs hh49 hY => ?_)
                  obtain ⟨-, rfl⟩ := hh49
                  refine b_icmp_gt (tgt := 368) hx hb dL_isYear_361 (by decide) (fun (hh51 : (ptF σ (ix y10) p3 (σ 2 (ix p3))).toInt < (ptF σ (ix y10) p3 (σ 2 (ix p3)) - σ 10 (ix y10) * diF σ (ix y10) p3 / 30).toInt) => absurd hh51 (by have z := hbl.1; omega)) (fun (hh51 : (ptF σ (ix y10) p3 (σ 2 (ix p3)) - σ 10 (ix y10) * diF σ (ix y10) p3 / 30).toInt ≤ (ptF σ (ix y10) p3 (σ 2 (ix p3))).toInt) => ?_)
                  refine lv_iconst (v := 1) hx hb dL_isYear_364 (by decide) ?_
                  refine lv_goto (tgt := 369) hx hb dL_isYear_365 (by decide) ?_
                  refine lv_istore (lv' := [(9, .int 1), (5, .int v32), (4, .int (y4 + (ptF σ (ix y10) p3 (σ 2 (ix p3))))), (10, .int y10), (6, .int (aaP σ 6)), (7, .double (shP σ 6)), (0, .ref (ad 0)), (1, .ref (ad 5)), (2, .ref (ad 6)), (3, .int p3), (13, .int (diF σ (ix y10) p3))]) hx hb dL_isYear_369 hl (by decide) rfl (fun ls hl => ?_)
                  refine lv_iinc (v := y10 + 1) (lv' := [(10, .int (y10 + 1)), (9, .int 1), (5, .int v32), (4, .int (y4 + (ptF σ (ix y10) p3 (σ 2 (ix p3))))), (6, .int (aaP σ 6)), (7, .double (shP σ 6)), (0, .ref (ad 0)), (1, .ref (ad 5)), (2, .ref (ad 6)), (3, .int p3), (13, .int (diF σ (ix y10) p3))]) hx hb dL_isYear_371 hl (k := 3) rfl rfl (by decide) rfl (fun ls hl => ?_)
                  refine lv_goto (tgt := 140) hx hb dL_isYear_374 (by decide) ?_
                  exact W.widen (by omega) (by omega) (ih (y10 + 1, y4 + (ptF σ (ix y10) p3 (σ 2 (ix p3))), v32) _ _ _ ⟨⟨by rw [i_add1 (by omega)]; omega, by omega, by rw [g4, hiy]; rfl, by show _ = _ - (itS σ p3 i + its σ i p3); omega⟩, hY, lv_sub hl [0, 3, 2, 4, 5, 1, 6, 7, 8, 9] rfl⟩)
              · refine lv_aload_n hx hb dL_isYear_308 rfl (lv_at hl 6 rfl) ?_
                refine lv_iload hx hb dL_isYear_309 (lv_at hl 2 rfl) ?_
                refine lv_iload_n hx hb dL_isYear_311 rfl (lv_at hl 9 rfl) ?_
                refine gn_calli hY (gx_runV (n := 2) (q := (RX1, TX1, 5)) (r := 0) hC (c_X1_part l G ad σ n τ hst hn24 y10 p3) gL_isYear_X1_part rfl ⟨rfl, rfl⟩ (by decide +kernel) ⟨Nat.le_of_ble_eq_true rfl, Nat.le_of_ble_eq_true rfl⟩ hY (by omega) rfl (ci := 1) rfl rfl hl.1 rfl (Nat.le_of_ble_eq_true rfl) dL_isYear_312 ⟨by show _ ≤ (900 : Nat); omega, by show _ ≤ (5400 : Nat); omega⟩) (exC_0 (cdLX_0 ⟨by omega, by omega⟩ ⟨by omega, by omega⟩)) (fun r53 H locs hh52 hY => ?_)
                obtain ⟨-, rfl⟩ := hh52
                refine lv_aload_n hx hb dL_isYear_315 rfl (lv_at hl 7 rfl) ?_
                refine lv_bipush (v := 48) hx hb dL_isYear_316 (by decide) ?_
                refine lv_iload hx hb dL_isYear_318 (lv_at hl 2 rfl) ?_
                refine lv_iadd hx hb dL_isYear_320 ?_
                refine rdN0 hC hY (48 + ix y10) (i_ixc (C := 48) rfl ⟨by omega, by omega⟩ (by decide)) (by omega) (v := σ 9 (ix y10)) (r5) dL_isYear_321 ?_
                refine lv_iload hx hb dL_isYear_322 (lv_at hl 10 rfl) ?_
                refine lv_imul hx hb dL_isYear_324 ?_
                refine lv_sipush (v := 360) hx hb dL_isYear_325 (by decide) ?_
                refine lv_idiv hx hb dL_isYear_328 (by decide) ?_
                refine b_icmp_gt (tgt := 368) hx hb dL_isYear_329 (by decide) (fun (hh54 : (((σ 9 (ix y10)) * (diF σ (ix y10) p3)) / 360).toInt < (ptF σ (ix y10) p3 (σ 2 (ix p3))).toInt) => absurd hh54 (by omega)) (fun (hh54 : (ptF σ (ix y10) p3 (σ 2 (ix p3))).toInt ≤ (((σ 9 (ix y10)) * (diF σ (ix y10) p3)) / 360).toInt) => ?_)
                refine lv_iload hx hb dL_isYear_332 (lv_at hl 3 rfl) ?_
                refine b_if_gt (tgt := 347) hx hb dL_isYear_334 (by decide) (fun (hh55 : 0 < (aaP σ 6).toInt) => ?_) (fun (hh55 : (aaP σ 6).toInt ≤ 0) => ?_)
                · refine lv_aload_n hx hb dL_isYear_347 rfl (lv_at hl 6 rfl) ?_
                  refine lv_iload hx hb dL_isYear_348 (lv_at hl 2 rfl) ?_
                  refine lv_iload_n hx hb dL_isYear_350 rfl (lv_at hl 9 rfl) ?_
                  refine gn_calli hY (gx_runV (n := 2) (q := (RX1, TX1, 5)) (r := 0) hC (c_X1_balance l G ad σ n τ hst hn24 y10 p3) gL_isYear_X1_balance rfl ⟨rfl, rfl⟩ (by decide +kernel) ⟨Nat.le_of_ble_eq_true rfl, Nat.le_of_ble_eq_true rfl⟩ hY (by omega) rfl (ci := 1) rfl rfl hl.1 rfl (Nat.le_of_ble_eq_true rfl) dL_isYear_351 ⟨by show _ ≤ (900 : Nat); omega, by show _ ≤ (5400 : Nat); omega⟩) (exC_0 (cdLX_0 ⟨by omega, by omega⟩ ⟨by omega, by omega⟩)) (fun r57 H locs hh56 hY => ?_)
                  obtain ⟨-, rfl⟩ := hh56
                  refine lv_aload_n hx hb dL_isYear_354 rfl (lv_at hl 6 rfl) ?_
                  refine lv_iload hx hb dL_isYear_355 (lv_at hl 2 rfl) ?_
                  refine lv_iload_n hx hb dL_isYear_357 rfl (lv_at hl 9 rfl) ?_
                  refine gn_calli hY (gx_runV (n := 2) (q := (RX1, TX1, 5)) (r := 0) hC (c_X1_part l G ad σ n τ hst hn24 y10 p3) gL_isYear_X1_part rfl ⟨rfl, rfl⟩ (by decide +kernel) ⟨Nat.le_of_ble_eq_true rfl, Nat.le_of_ble_eq_true rfl⟩ hY (by omega) rfl (ci := 1) rfl rfl hl.1 rfl (Nat.le_of_ble_eq_true rfl) dL_isYear_358 ⟨by show _ ≤ (900 : Nat); omega, by show _ ≤ (5400 : Nat); omega⟩) (exC_0 (cdLX_0 ⟨by omega, by omega⟩ ⟨by omega, by omega⟩)) (fun r59 H locs hh58 hY => ?_)
                  obtain ⟨-, rfl⟩ := hh58
                  refine b_icmp_gt (tgt := 368) hx hb dL_isYear_361 (by decide) (fun (hh60 : (ptF σ (ix y10) p3 (σ 2 (ix p3))).toInt < (ptF σ (ix y10) p3 (σ 2 (ix p3)) - σ 10 (ix y10) * diF σ (ix y10) p3 / 30).toInt) => absurd hh60 (by have z := hbl.1; omega)) (fun (hh60 : (ptF σ (ix y10) p3 (σ 2 (ix p3)) - σ 10 (ix y10) * diF σ (ix y10) p3 / 30).toInt ≤ (ptF σ (ix y10) p3 (σ 2 (ix p3))).toInt) => ?_)
                  refine lv_iconst (v := 1) hx hb dL_isYear_364 (by decide) ?_
                  refine lv_goto (tgt := 369) hx hb dL_isYear_365 (by decide) ?_
                  refine lv_istore (lv' := [(9, .int 1), (5, .int v32), (4, .int (y4 + (ptF σ (ix y10) p3 (σ 2 (ix p3))))), (10, .int y10), (6, .int (aaP σ 6)), (7, .double (shP σ 6)), (0, .ref (ad 0)), (1, .ref (ad 5)), (2, .ref (ad 6)), (3, .int p3), (13, .int (diF σ (ix y10) p3))]) hx hb dL_isYear_369 hl (by decide) rfl (fun ls hl => ?_)
                  refine lv_iinc (v := y10 + 1) (lv' := [(10, .int (y10 + 1)), (9, .int 1), (5, .int v32), (4, .int (y4 + (ptF σ (ix y10) p3 (σ 2 (ix p3))))), (6, .int (aaP σ 6)), (7, .double (shP σ 6)), (0, .ref (ad 0)), (1, .ref (ad 5)), (2, .ref (ad 6)), (3, .int p3), (13, .int (diF σ (ix y10) p3))]) hx hb dL_isYear_371 hl (k := 3) rfl rfl (by decide) rfl (fun ls hl => ?_)
                  refine lv_goto (tgt := 140) hx hb dL_isYear_374 (by decide) ?_
                  exact W.widen (by omega) (by omega) (ih (y10 + 1, y4 + (ptF σ (ix y10) p3 (σ 2 (ix p3))), v32) _ _ _ ⟨⟨by rw [i_add1 (by omega)]; omega, by omega, by rw [g4, hiy]; rfl, by show _ = _ - (itS σ p3 i + its σ i p3); omega⟩, hY, lv_sub hl [0, 3, 2, 4, 5, 1, 6, 7, 8, 9] rfl⟩)
                · refine lv_aload_n hx hb dL_isYear_337 rfl (lv_at hl 6 rfl) ?_
                  refine lv_iload hx hb dL_isYear_338 (lv_at hl 2 rfl) ?_
                  refine lv_iload_n hx hb dL_isYear_340 rfl (lv_at hl 9 rfl) ?_
                  refine gn_calli hY (gx_runV (n := 2) (q := (RX1, TX1, 5)) (r := 0) hC (c_X1_part l G ad σ n τ hst hn24 y10 p3) gL_isYear_X1_part rfl ⟨rfl, rfl⟩ (by decide +kernel) ⟨Nat.le_of_ble_eq_true rfl, Nat.le_of_ble_eq_true rfl⟩ hY (by omega) rfl (ci := 1) rfl rfl hl.1 rfl (Nat.le_of_ble_eq_true rfl) dL_isYear_341 ⟨by show _ ≤ (900 : Nat); omega, by show _ ≤ (5400 : Nat); omega⟩) (exC_0 (cdLX_0 ⟨by omega, by omega⟩ ⟨by omega, by omega⟩)) (fun r62 H locs hh61 hY => ?_)
                  obtain ⟨-, rfl⟩ := hh61
                  refine b_if_ne (tgt := 368) hx hb dL_isYear_344 (by decide) (fun (hh63 : ¬ (ptF σ (ix y10) p3 (σ 2 (ix p3))).toInt = 0) => absurd hh63 (by exact fun q => q (t5 (by have z := aa_b hI9 6 (by decide); omega)))) (fun (hh63 : (ptF σ (ix y10) p3 (σ 2 (ix p3))).toInt = 0) => ?_)
                  refine lv_aload_n hx hb dL_isYear_347 rfl (lv_at hl 6 rfl) ?_
                  refine lv_iload hx hb dL_isYear_348 (lv_at hl 2 rfl) ?_
                  refine lv_iload_n hx hb dL_isYear_350 rfl (lv_at hl 9 rfl) ?_
                  refine gn_calli hY (gx_runV (n := 2) (q := (RX1, TX1, 5)) (r := 0) hC (c_X1_balance l G ad σ n τ hst hn24 y10 p3) gL_isYear_X1_balance rfl ⟨rfl, rfl⟩ (by decide +kernel) ⟨Nat.le_of_ble_eq_true rfl, Nat.le_of_ble_eq_true rfl⟩ hY (by omega) rfl (ci := 1) rfl rfl hl.1 rfl (Nat.le_of_ble_eq_true rfl) dL_isYear_351 ⟨by show _ ≤ (900 : Nat); omega, by show _ ≤ (5400 : Nat); omega⟩) (exC_0 (cdLX_0 ⟨by omega, by omega⟩ ⟨by omega, by omega⟩)) (fun r65 H locs hh64 hY => ?_)
                  obtain ⟨-, rfl⟩ := hh64
                  refine lv_aload_n hx hb dL_isYear_354 rfl (lv_at hl 6 rfl) ?_
                  refine lv_iload hx hb dL_isYear_355 (lv_at hl 2 rfl) ?_
                  refine lv_iload_n hx hb dL_isYear_357 rfl (lv_at hl 9 rfl) ?_
                  refine gn_calli hY (gx_runV (n := 2) (q := (RX1, TX1, 5)) (r := 0) hC (c_X1_part l G ad σ n τ hst hn24 y10 p3) gL_isYear_X1_part rfl ⟨rfl, rfl⟩ (by decide +kernel) ⟨Nat.le_of_ble_eq_true rfl, Nat.le_of_ble_eq_true rfl⟩ hY (by omega) rfl (ci := 1) rfl rfl hl.1 rfl (Nat.le_of_ble_eq_true rfl) dL_isYear_358 ⟨by show _ ≤ (900 : Nat); omega, by show _ ≤ (5400 : Nat); omega⟩) (exC_0 (cdLX_0 ⟨by omega, by omega⟩ ⟨by omega, by omega⟩)) (fun r67 H locs hh66 hY => ?_)
                  obtain ⟨-, rfl⟩ := hh66
                  refine b_icmp_gt (tgt := 368) hx hb dL_isYear_361 (by decide) (fun (hh68 : (ptF σ (ix y10) p3 (σ 2 (ix p3))).toInt < (ptF σ (ix y10) p3 (σ 2 (ix p3)) - σ 10 (ix y10) * diF σ (ix y10) p3 / 30).toInt) => absurd hh68 (by have z := hbl.1; omega)) (fun (hh68 : (ptF σ (ix y10) p3 (σ 2 (ix p3)) - σ 10 (ix y10) * diF σ (ix y10) p3 / 30).toInt ≤ (ptF σ (ix y10) p3 (σ 2 (ix p3))).toInt) => ?_)
                  refine lv_iconst (v := 1) hx hb dL_isYear_364 (by decide) ?_
                  refine lv_goto (tgt := 369) hx hb dL_isYear_365 (by decide) ?_
                  refine lv_istore (lv' := [(9, .int 1), (5, .int v32), (4, .int (y4 + (ptF σ (ix y10) p3 (σ 2 (ix p3))))), (10, .int y10), (6, .int (aaP σ 6)), (7, .double (shP σ 6)), (0, .ref (ad 0)), (1, .ref (ad 5)), (2, .ref (ad 6)), (3, .int p3), (13, .int (diF σ (ix y10) p3))]) hx hb dL_isYear_369 hl (by decide) rfl (fun ls hl => ?_)
                  refine lv_iinc (v := y10 + 1) (lv' := [(10, .int (y10 + 1)), (9, .int 1), (5, .int v32), (4, .int (y4 + (ptF σ (ix y10) p3 (σ 2 (ix p3))))), (6, .int (aaP σ 6)), (7, .double (shP σ 6)), (0, .ref (ad 0)), (1, .ref (ad 5)), (2, .ref (ad 6)), (3, .int p3), (13, .int (diF σ (ix y10) p3))]) hx hb dL_isYear_371 hl (k := 3) rfl rfl (by decide) rfl (fun ls hl => ?_)
                  refine lv_goto (tgt := 140) hx hb dL_isYear_374 (by decide) ?_
                  exact W.widen (by omega) (by omega) (ih (y10 + 1, y4 + (ptF σ (ix y10) p3 (σ 2 (ix p3))), v32) _ _ _ ⟨⟨by rw [i_add1 (by omega)]; omega, by omega, by rw [g4, hiy]; rfl, by show _ = _ - (itS σ p3 i + its σ i p3); omega⟩, hY, lv_sub hl [0, 3, 2, 4, 5, 1, 6, 7, 8, 9] rfl⟩)
            · refine lv_aload_n hx hb dL_isYear_277 rfl (lv_at hl 6 rfl) ?_
              refine lv_iload hx hb dL_isYear_278 (lv_at hl 2 rfl) ?_
              refine lv_iload_n hx hb dL_isYear_280 rfl (lv_at hl 9 rfl) ?_
              refine gn_calli hY (gx_runV (n := 2) (q := (RX1, TX1, 5)) (r := 0) hC (c_X1_part l G ad σ n τ hst hn24 y10 p3) gL_isYear_X1_part rfl ⟨rfl, rfl⟩ (by decide +kernel) ⟨Nat.le_of_ble_eq_true rfl, Nat.le_of_ble_eq_true rfl⟩ hY (by omega) rfl (ci := 1) rfl rfl hl.1 rfl (Nat.le_of_ble_eq_true rfl) dL_isYear_281 ⟨by show _ ≤ (900 : Nat); omega, by show _ ≤ (5400 : Nat); omega⟩) (exC_0 (cdLX_0 ⟨by omega, by omega⟩ ⟨by omega, by omega⟩)) (fun r70 H locs hh69 hY => ?_)
              obtain ⟨-, rfl⟩ := hh69
              refine b_if_ne (tgt := 368) hx hb dL_isYear_284 (by decide) (fun (hh71 : ¬ (ptF σ (ix y10) p3 (σ 2 (ix p3))).toInt = 0) => absurd hh71 (by exact fun q => q (t3 (by omega)))) (fun (hh71 : (ptF σ (ix y10) p3 (σ 2 (ix p3))).toInt = 0) => ?_)
              refine lv_aload_n hx hb dL_isYear_287 rfl (lv_at hl 6 rfl) ?_
              refine lv_iload hx hb dL_isYear_288 (lv_at hl 2 rfl) ?_
              refine lv_iload_n hx hb dL_isYear_290 rfl (lv_at hl 9 rfl) ?_
              refine gn_calli hY (gx_runV (n := 2) (q := (RX1, TX1, 5)) (r := 0) hC (c_X1_balance l G ad σ n τ hst hn24 y10 p3) gL_isYear_X1_balance rfl ⟨rfl, rfl⟩ (by decide +kernel) ⟨Nat.le_of_ble_eq_true rfl, Nat.le_of_ble_eq_true rfl⟩ hY (by omega) rfl (ci := 1) rfl rfl hl.1 rfl (Nat.le_of_ble_eq_true rfl) dL_isYear_291 ⟨by show _ ≤ (900 : Nat); omega, by show _ ≤ (5400 : Nat); omega⟩) (exC_0 (cdLX_0 ⟨by omega, by omega⟩ ⟨by omega, by omega⟩)) (fun r73 H locs hh72 hY => ?_)
              obtain ⟨-, rfl⟩ := hh72
              refine b_if_ne (tgt := 368) hx hb dL_isYear_294 (by decide) (fun (hh74 : ¬ (ptF σ (ix y10) p3 (σ 2 (ix p3)) - σ 10 (ix y10) * diF σ (ix y10) p3 / 30).toInt = 0) => absurd hh74 (by exact fun q => q (hbl.2 (by omega)))) (fun (hh74 : (ptF σ (ix y10) p3 (σ 2 (ix p3)) - σ 10 (ix y10) * diF σ (ix y10) p3 / 30).toInt = 0) => ?_)
              refine lv_aload_n hx hb dL_isYear_297 rfl (lv_at hl 7 rfl) ?_
              refine lv_bipush (v := 48) hx hb dL_isYear_298 (by decide) ?_
              refine lv_iload hx hb dL_isYear_300 (lv_at hl 2 rfl) ?_
              refine lv_iadd hx hb dL_isYear_302 ?_
              refine rdN0 hC hY (48 + ix y10) (i_ixc (C := 48) rfl ⟨by omega, by omega⟩ (by decide)) (by omega) (v := σ 9 (ix y10)) (r5) dL_isYear_303 ?_
              refine lv_iconst (v := (-1)) hx hb dL_isYear_304 (by decide) ?_
              refine b_icmp_eq (tgt := 332) hx hb dL_isYear_305 (by decide) (fun (hh75 : (σ 9 (ix y10)).toInt = (-1)) => ?_) (fun (hh75 : ¬ (σ 9 (ix y10)).toInt = (-1)) => ?_)
              · refine lv_iload hx hb dL_isYear_332 (lv_at hl 3 rfl) ?_
                refine b_if_gt (tgt := 347) hx hb dL_isYear_334 (by decide) (fun (hh76 : 0 < (aaP σ 6).toInt) => ?_) (fun (hh76 : (aaP σ 6).toInt ≤ 0) => ?_)
                · refine lv_aload_n hx hb dL_isYear_347 rfl (lv_at hl 6 rfl) ?_
                  refine lv_iload hx hb dL_isYear_348 (lv_at hl 2 rfl) ?_
                  refine lv_iload_n hx hb dL_isYear_350 rfl (lv_at hl 9 rfl) ?_
                  refine gn_calli hY (gx_runV (n := 2) (q := (RX1, TX1, 5)) (r := 0) hC (c_X1_balance l G ad σ n τ hst hn24 y10 p3) gL_isYear_X1_balance rfl ⟨rfl, rfl⟩ (by decide +kernel) ⟨Nat.le_of_ble_eq_true rfl, Nat.le_of_ble_eq_true rfl⟩ hY (by omega) rfl (ci := 1) rfl rfl hl.1 rfl (Nat.le_of_ble_eq_true rfl) dL_isYear_351 ⟨by show _ ≤ (900 : Nat); omega, by show _ ≤ (5400 : Nat); omega⟩) (exC_0 (cdLX_0 ⟨by omega, by omega⟩ ⟨by omega, by omega⟩)) (fun r78 H locs hh77 hY => ?_)
                  obtain ⟨-, rfl⟩ := hh77
                  refine lv_aload_n hx hb dL_isYear_354 rfl (lv_at hl 6 rfl) ?_
                  refine lv_iload hx hb dL_isYear_355 (lv_at hl 2 rfl) ?_
                  refine lv_iload_n hx hb dL_isYear_357 rfl (lv_at hl 9 rfl) ?_
                  refine gn_calli hY (gx_runV (n := 2) (q := (RX1, TX1, 5)) (r := 0) hC (c_X1_part l G ad σ n τ hst hn24 y10 p3) gL_isYear_X1_part rfl ⟨rfl, rfl⟩ (by decide +kernel) ⟨Nat.le_of_ble_eq_true rfl, Nat.le_of_ble_eq_true rfl⟩ hY (by omega) rfl (ci := 1) rfl rfl hl.1 rfl (Nat.le_of_ble_eq_true rfl) dL_isYear_358 ⟨by show _ ≤ (900 : Nat); omega, by show _ ≤ (5400 : Nat); omega⟩) (exC_0 (cdLX_0 ⟨by omega, by omega⟩ ⟨by omega, by omega⟩)) (fun r80 H locs hh79 hY => ?_)
                  obtain ⟨-, rfl⟩ := hh79
                  refine b_icmp_gt (tgt := 368) hx hb dL_isYear_361 (by decide) (fun (hh81 : (ptF σ (ix y10) p3 (σ 2 (ix p3))).toInt < (ptF σ (ix y10) p3 (σ 2 (ix p3)) - σ 10 (ix y10) * diF σ (ix y10) p3 / 30).toInt) => absurd hh81 (by have z := hbl.1; omega)) (fun (hh81 : (ptF σ (ix y10) p3 (σ 2 (ix p3)) - σ 10 (ix y10) * diF σ (ix y10) p3 / 30).toInt ≤ (ptF σ (ix y10) p3 (σ 2 (ix p3))).toInt) => ?_)
                  refine lv_iconst (v := 1) hx hb dL_isYear_364 (by decide) ?_
                  refine lv_goto (tgt := 369) hx hb dL_isYear_365 (by decide) ?_
                  refine lv_istore (lv' := [(9, .int 1), (5, .int v32), (4, .int (y4 + (ptF σ (ix y10) p3 (σ 2 (ix p3))))), (10, .int y10), (6, .int (aaP σ 6)), (7, .double (shP σ 6)), (0, .ref (ad 0)), (1, .ref (ad 5)), (2, .ref (ad 6)), (3, .int p3), (13, .int (diF σ (ix y10) p3))]) hx hb dL_isYear_369 hl (by decide) rfl (fun ls hl => ?_)
                  refine lv_iinc (v := y10 + 1) (lv' := [(10, .int (y10 + 1)), (9, .int 1), (5, .int v32), (4, .int (y4 + (ptF σ (ix y10) p3 (σ 2 (ix p3))))), (6, .int (aaP σ 6)), (7, .double (shP σ 6)), (0, .ref (ad 0)), (1, .ref (ad 5)), (2, .ref (ad 6)), (3, .int p3), (13, .int (diF σ (ix y10) p3))]) hx hb dL_isYear_371 hl (k := 3) rfl rfl (by decide) rfl (fun ls hl => ?_)
                  refine lv_goto (tgt := 140) hx hb dL_isYear_374 (by decide) ?_
                  exact W.widen (by omega) (by omega) (ih (y10 + 1, y4 + (ptF σ (ix y10) p3 (σ 2 (ix p3))), v32) _ _ _ ⟨⟨by rw [i_add1 (by omega)]; omega, by omega, by rw [g4, hiy]; rfl, by show _ = _ - (itS σ p3 i + its σ i p3); omega⟩, hY, lv_sub hl [0, 3, 2, 4, 5, 1, 6, 7, 8, 9] rfl⟩)
                · refine lv_aload_n hx hb dL_isYear_337 rfl (lv_at hl 6 rfl) ?_
                  refine lv_iload hx hb dL_isYear_338 (lv_at hl 2 rfl) ?_
                  refine lv_iload_n hx hb dL_isYear_340 rfl (lv_at hl 9 rfl) ?_
                  refine gn_calli hY (gx_runV (n := 2) (q := (RX1, TX1, 5)) (r := 0) hC (c_X1_part l G ad σ n τ hst hn24 y10 p3) gL_isYear_X1_part rfl ⟨rfl, rfl⟩ (by decide +kernel) ⟨Nat.le_of_ble_eq_true rfl, Nat.le_of_ble_eq_true rfl⟩ hY (by omega) rfl (ci := 1) rfl rfl hl.1 rfl (Nat.le_of_ble_eq_true rfl) dL_isYear_341 ⟨by show _ ≤ (900 : Nat); omega, by show _ ≤ (5400 : Nat); omega⟩) (exC_0 (cdLX_0 ⟨by omega, by omega⟩ ⟨by omega, by omega⟩)) (fun r83 H locs hh82 hY => ?_)
                  obtain ⟨-, rfl⟩ := hh82
                  refine b_if_ne (tgt := 368) hx hb dL_isYear_344 (by decide) (fun (hh84 : ¬ (ptF σ (ix y10) p3 (σ 2 (ix p3))).toInt = 0) => absurd hh84 (by exact fun q => q (t5 (by have z := aa_b hI9 6 (by decide); omega)))) (fun (hh84 : (ptF σ (ix y10) p3 (σ 2 (ix p3))).toInt = 0) => ?_)
                  refine lv_aload_n hx hb dL_isYear_347 rfl (lv_at hl 6 rfl) ?_
                  refine lv_iload hx hb dL_isYear_348 (lv_at hl 2 rfl) ?_
                  refine lv_iload_n hx hb dL_isYear_350 rfl (lv_at hl 9 rfl) ?_
                  refine gn_calli hY (gx_runV (n := 2) (q := (RX1, TX1, 5)) (r := 0) hC (c_X1_balance l G ad σ n τ hst hn24 y10 p3) gL_isYear_X1_balance rfl ⟨rfl, rfl⟩ (by decide +kernel) ⟨Nat.le_of_ble_eq_true rfl, Nat.le_of_ble_eq_true rfl⟩ hY (by omega) rfl (ci := 1) rfl rfl hl.1 rfl (Nat.le_of_ble_eq_true rfl) dL_isYear_351 ⟨by show _ ≤ (900 : Nat); omega, by show _ ≤ (5400 : Nat); omega⟩) (exC_0 (cdLX_0 ⟨by omega, by omega⟩ ⟨by omega, by omega⟩)) (fun r86 H locs hh85 hY => ?_)
                  obtain ⟨-, rfl⟩ := hh85
                  refine lv_aload_n hx hb dL_isYear_354 rfl (lv_at hl 6 rfl) ?_
                  refine lv_iload hx hb dL_isYear_355 (lv_at hl 2 rfl) ?_
                  refine lv_iload_n hx hb dL_isYear_357 rfl (lv_at hl 9 rfl) ?_
                  refine gn_calli hY (gx_runV (n := 2) (q := (RX1, TX1, 5)) (r := 0) hC (c_X1_part l G ad σ n τ hst hn24 y10 p3) gL_isYear_X1_part rfl ⟨rfl, rfl⟩ (by decide +kernel) ⟨Nat.le_of_ble_eq_true rfl, Nat.le_of_ble_eq_true rfl⟩ hY (by omega) rfl (ci := 1) rfl rfl hl.1 rfl (Nat.le_of_ble_eq_true rfl) dL_isYear_358 ⟨by show _ ≤ (900 : Nat); omega, by show _ ≤ (5400 : Nat); omega⟩) (exC_0 (cdLX_0 ⟨by omega, by omega⟩ ⟨by omega, by omega⟩)) (fun r88 H locs hh87 hY => ?_)
                  obtain ⟨-, rfl⟩ := hh87
                  refine b_icmp_gt (tgt := 368) hx hb dL_isYear_361 (by decide) (fun (hh89 : (ptF σ (ix y10) p3 (σ 2 (ix p3))).toInt < (ptF σ (ix y10) p3 (σ 2 (ix p3)) - σ 10 (ix y10) * diF σ (ix y10) p3 / 30).toInt) => absurd hh89 (by have z := hbl.1; omega)) (fun (hh89 : (ptF σ (ix y10) p3 (σ 2 (ix p3)) - σ 10 (ix y10) * diF σ (ix y10) p3 / 30).toInt ≤ (ptF σ (ix y10) p3 (σ 2 (ix p3))).toInt) => ?_)
                  refine lv_iconst (v := 1) hx hb dL_isYear_364 (by decide) ?_
                  refine lv_goto (tgt := 369) hx hb dL_isYear_365 (by decide) ?_
                  refine lv_istore (lv' := [(9, .int 1), (5, .int v32), (4, .int (y4 + (ptF σ (ix y10) p3 (σ 2 (ix p3))))), (10, .int y10), (6, .int (aaP σ 6)), (7, .double (shP σ 6)), (0, .ref (ad 0)), (1, .ref (ad 5)), (2, .ref (ad 6)), (3, .int p3), (13, .int (diF σ (ix y10) p3))]) hx hb dL_isYear_369 hl (by decide) rfl (fun ls hl => ?_)
                  refine lv_iinc (v := y10 + 1) (lv' := [(10, .int (y10 + 1)), (9, .int 1), (5, .int v32), (4, .int (y4 + (ptF σ (ix y10) p3 (σ 2 (ix p3))))), (6, .int (aaP σ 6)), (7, .double (shP σ 6)), (0, .ref (ad 0)), (1, .ref (ad 5)), (2, .ref (ad 6)), (3, .int p3), (13, .int (diF σ (ix y10) p3))]) hx hb dL_isYear_371 hl (k := 3) rfl rfl (by decide) rfl (fun ls hl => ?_)
                  refine lv_goto (tgt := 140) hx hb dL_isYear_374 (by decide) ?_
                  exact W.widen (by omega) (by omega) (ih (y10 + 1, y4 + (ptF σ (ix y10) p3 (σ 2 (ix p3))), v32) _ _ _ ⟨⟨by rw [i_add1 (by omega)]; omega, by omega, by rw [g4, hiy]; rfl, by show _ = _ - (itS σ p3 i + its σ i p3); omega⟩, hY, lv_sub hl [0, 3, 2, 4, 5, 1, 6, 7, 8, 9] rfl⟩)
              · refine lv_aload_n hx hb dL_isYear_308 rfl (lv_at hl 6 rfl) ?_
                refine lv_iload hx hb dL_isYear_309 (lv_at hl 2 rfl) ?_
                refine lv_iload_n hx hb dL_isYear_311 rfl (lv_at hl 9 rfl) ?_
                refine gn_calli hY (gx_runV (n := 2) (q := (RX1, TX1, 5)) (r := 0) hC (c_X1_part l G ad σ n τ hst hn24 y10 p3) gL_isYear_X1_part rfl ⟨rfl, rfl⟩ (by decide +kernel) ⟨Nat.le_of_ble_eq_true rfl, Nat.le_of_ble_eq_true rfl⟩ hY (by omega) rfl (ci := 1) rfl rfl hl.1 rfl (Nat.le_of_ble_eq_true rfl) dL_isYear_312 ⟨by show _ ≤ (900 : Nat); omega, by show _ ≤ (5400 : Nat); omega⟩) (exC_0 (cdLX_0 ⟨by omega, by omega⟩ ⟨by omega, by omega⟩)) (fun r91 H locs hh90 hY => ?_)
                obtain ⟨-, rfl⟩ := hh90
                refine lv_aload_n hx hb dL_isYear_315 rfl (lv_at hl 7 rfl) ?_
                refine lv_bipush (v := 48) hx hb dL_isYear_316 (by decide) ?_
                refine lv_iload hx hb dL_isYear_318 (lv_at hl 2 rfl) ?_
                refine lv_iadd hx hb dL_isYear_320 ?_
                refine rdN0 hC hY (48 + ix y10) (i_ixc (C := 48) rfl ⟨by omega, by omega⟩ (by decide)) (by omega) (v := σ 9 (ix y10)) (r5) dL_isYear_321 ?_
                refine lv_iload hx hb dL_isYear_322 (lv_at hl 10 rfl) ?_
                refine lv_imul hx hb dL_isYear_324 ?_
                refine lv_sipush (v := 360) hx hb dL_isYear_325 (by decide) ?_
                refine lv_idiv hx hb dL_isYear_328 (by decide) ?_
                refine b_icmp_gt (tgt := 368) hx hb dL_isYear_329 (by decide) (fun (hh92 : (((σ 9 (ix y10)) * (diF σ (ix y10) p3)) / 360).toInt < (ptF σ (ix y10) p3 (σ 2 (ix p3))).toInt) => absurd hh92 (by omega)) (fun (hh92 : (ptF σ (ix y10) p3 (σ 2 (ix p3))).toInt ≤ (((σ 9 (ix y10)) * (diF σ (ix y10) p3)) / 360).toInt) => ?_)
                refine lv_iload hx hb dL_isYear_332 (lv_at hl 3 rfl) ?_
                refine b_if_gt (tgt := 347) hx hb dL_isYear_334 (by decide) (fun (hh93 : 0 < (aaP σ 6).toInt) => ?_) (fun (hh93 : (aaP σ 6).toInt ≤ 0) => ?_)
                · refine lv_aload_n hx hb dL_isYear_347 rfl (lv_at hl 6 rfl) ?_
                  refine lv_iload hx hb dL_isYear_348 (lv_at hl 2 rfl) ?_
                  refine lv_iload_n hx hb dL_isYear_350 rfl (lv_at hl 9 rfl) ?_
                  refine gn_calli hY (gx_runV (n := 2) (q := (RX1, TX1, 5)) (r := 0) hC (c_X1_balance l G ad σ n τ hst hn24 y10 p3) gL_isYear_X1_balance rfl ⟨rfl, rfl⟩ (by decide +kernel) ⟨Nat.le_of_ble_eq_true rfl, Nat.le_of_ble_eq_true rfl⟩ hY (by omega) rfl (ci := 1) rfl rfl hl.1 rfl (Nat.le_of_ble_eq_true rfl) dL_isYear_351 ⟨by show _ ≤ (900 : Nat); omega, by show _ ≤ (5400 : Nat); omega⟩) (exC_0 (cdLX_0 ⟨by omega, by omega⟩ ⟨by omega, by omega⟩)) (fun r95 H locs hh94 hY => ?_)
                  obtain ⟨-, rfl⟩ := hh94
                  refine lv_aload_n hx hb dL_isYear_354 rfl (lv_at hl 6 rfl) ?_
                  refine lv_iload hx hb dL_isYear_355 (lv_at hl 2 rfl) ?_
                  refine lv_iload_n hx hb dL_isYear_357 rfl (lv_at hl 9 rfl) ?_
                  refine gn_calli hY (gx_runV (n := 2) (q := (RX1, TX1, 5)) (r := 0) hC (c_X1_part l G ad σ n τ hst hn24 y10 p3) gL_isYear_X1_part rfl ⟨rfl, rfl⟩ (by decide +kernel) ⟨Nat.le_of_ble_eq_true rfl, Nat.le_of_ble_eq_true rfl⟩ hY (by omega) rfl (ci := 1) rfl rfl hl.1 rfl (Nat.le_of_ble_eq_true rfl) dL_isYear_358 ⟨by show _ ≤ (900 : Nat); omega, by show _ ≤ (5400 : Nat); omega⟩) (exC_0 (cdLX_0 ⟨by omega, by omega⟩ ⟨by omega, by omega⟩)) (fun r97 H locs hh96 hY => ?_)
                  obtain ⟨-, rfl⟩ := hh96
                  refine b_icmp_gt (tgt := 368) hx hb dL_isYear_361 (by decide) (fun (hh98 : (ptF σ (ix y10) p3 (σ 2 (ix p3))).toInt < (ptF σ (ix y10) p3 (σ 2 (ix p3)) - σ 10 (ix y10) * diF σ (ix y10) p3 / 30).toInt) => absurd hh98 (by have z := hbl.1; omega)) (fun (hh98 : (ptF σ (ix y10) p3 (σ 2 (ix p3)) - σ 10 (ix y10) * diF σ (ix y10) p3 / 30).toInt ≤ (ptF σ (ix y10) p3 (σ 2 (ix p3))).toInt) => ?_)
                  refine lv_iconst (v := 1) hx hb dL_isYear_364 (by decide) ?_
                  refine lv_goto (tgt := 369) hx hb dL_isYear_365 (by decide) ?_
                  refine lv_istore (lv' := [(9, .int 1), (5, .int v32), (4, .int (y4 + (ptF σ (ix y10) p3 (σ 2 (ix p3))))), (10, .int y10), (6, .int (aaP σ 6)), (7, .double (shP σ 6)), (0, .ref (ad 0)), (1, .ref (ad 5)), (2, .ref (ad 6)), (3, .int p3), (13, .int (diF σ (ix y10) p3))]) hx hb dL_isYear_369 hl (by decide) rfl (fun ls hl => ?_)
                  refine lv_iinc (v := y10 + 1) (lv' := [(10, .int (y10 + 1)), (9, .int 1), (5, .int v32), (4, .int (y4 + (ptF σ (ix y10) p3 (σ 2 (ix p3))))), (6, .int (aaP σ 6)), (7, .double (shP σ 6)), (0, .ref (ad 0)), (1, .ref (ad 5)), (2, .ref (ad 6)), (3, .int p3), (13, .int (diF σ (ix y10) p3))]) hx hb dL_isYear_371 hl (k := 3) rfl rfl (by decide) rfl (fun ls hl => ?_)
                  refine lv_goto (tgt := 140) hx hb dL_isYear_374 (by decide) ?_
                  exact W.widen (by omega) (by omega) (ih (y10 + 1, y4 + (ptF σ (ix y10) p3 (σ 2 (ix p3))), v32) _ _ _ ⟨⟨by rw [i_add1 (by omega)]; omega, by omega, by rw [g4, hiy]; rfl, by show _ = _ - (itS σ p3 i + its σ i p3); omega⟩, hY, lv_sub hl [0, 3, 2, 4, 5, 1, 6, 7, 8, 9] rfl⟩)
                · refine lv_aload_n hx hb dL_isYear_337 rfl (lv_at hl 6 rfl) ?_
                  refine lv_iload hx hb dL_isYear_338 (lv_at hl 2 rfl) ?_
                  refine lv_iload_n hx hb dL_isYear_340 rfl (lv_at hl 9 rfl) ?_
                  refine gn_calli hY (gx_runV (n := 2) (q := (RX1, TX1, 5)) (r := 0) hC (c_X1_part l G ad σ n τ hst hn24 y10 p3) gL_isYear_X1_part rfl ⟨rfl, rfl⟩ (by decide +kernel) ⟨Nat.le_of_ble_eq_true rfl, Nat.le_of_ble_eq_true rfl⟩ hY (by omega) rfl (ci := 1) rfl rfl hl.1 rfl (Nat.le_of_ble_eq_true rfl) dL_isYear_341 ⟨by show _ ≤ (900 : Nat); omega, by show _ ≤ (5400 : Nat); omega⟩) (exC_0 (cdLX_0 ⟨by omega, by omega⟩ ⟨by omega, by omega⟩)) (fun r100 H locs hh99 hY => ?_)
                  obtain ⟨-, rfl⟩ := hh99
                  refine b_if_ne (tgt := 368) hx hb dL_isYear_344 (by decide) (fun (hh101 : ¬ (ptF σ (ix y10) p3 (σ 2 (ix p3))).toInt = 0) => absurd hh101 (by exact fun q => q (t5 (by have z := aa_b hI9 6 (by decide); omega)))) (fun (hh101 : (ptF σ (ix y10) p3 (σ 2 (ix p3))).toInt = 0) => ?_)
                  refine lv_aload_n hx hb dL_isYear_347 rfl (lv_at hl 6 rfl) ?_
                  refine lv_iload hx hb dL_isYear_348 (lv_at hl 2 rfl) ?_
                  refine lv_iload_n hx hb dL_isYear_350 rfl (lv_at hl 9 rfl) ?_
                  refine gn_calli hY (gx_runV (n := 2) (q := (RX1, TX1, 5)) (r := 0) hC (c_X1_balance l G ad σ n τ hst hn24 y10 p3) gL_isYear_X1_balance rfl ⟨rfl, rfl⟩ (by decide +kernel) ⟨Nat.le_of_ble_eq_true rfl, Nat.le_of_ble_eq_true rfl⟩ hY (by omega) rfl (ci := 1) rfl rfl hl.1 rfl (Nat.le_of_ble_eq_true rfl) dL_isYear_351 ⟨by show _ ≤ (900 : Nat); omega, by show _ ≤ (5400 : Nat); omega⟩) (exC_0 (cdLX_0 ⟨by omega, by omega⟩ ⟨by omega, by omega⟩)) (fun r103 H locs hh102 hY => ?_)
                  obtain ⟨-, rfl⟩ := hh102
                  refine lv_aload_n hx hb dL_isYear_354 rfl (lv_at hl 6 rfl) ?_
                  refine lv_iload hx hb dL_isYear_355 (lv_at hl 2 rfl) ?_
                  refine lv_iload_n hx hb dL_isYear_357 rfl (lv_at hl 9 rfl) ?_
                  refine gn_calli hY (gx_runV (n := 2) (q := (RX1, TX1, 5)) (r := 0) hC (c_X1_part l G ad σ n τ hst hn24 y10 p3) gL_isYear_X1_part rfl ⟨rfl, rfl⟩ (by decide +kernel) ⟨Nat.le_of_ble_eq_true rfl, Nat.le_of_ble_eq_true rfl⟩ hY (by omega) rfl (ci := 1) rfl rfl hl.1 rfl (Nat.le_of_ble_eq_true rfl) dL_isYear_358 ⟨by show _ ≤ (900 : Nat); omega, by show _ ≤ (5400 : Nat); omega⟩) (exC_0 (cdLX_0 ⟨by omega, by omega⟩ ⟨by omega, by omega⟩)) (fun r105 H locs hh104 hY => ?_)
                  obtain ⟨-, rfl⟩ := hh104
                  refine b_icmp_gt (tgt := 368) hx hb dL_isYear_361 (by decide) (fun (hh106 : (ptF σ (ix y10) p3 (σ 2 (ix p3))).toInt < (ptF σ (ix y10) p3 (σ 2 (ix p3)) - σ 10 (ix y10) * diF σ (ix y10) p3 / 30).toInt) => absurd hh106 (by have z := hbl.1; omega)) (fun (hh106 : (ptF σ (ix y10) p3 (σ 2 (ix p3)) - σ 10 (ix y10) * diF σ (ix y10) p3 / 30).toInt ≤ (ptF σ (ix y10) p3 (σ 2 (ix p3))).toInt) => ?_)
                  refine lv_iconst (v := 1) hx hb dL_isYear_364 (by decide) ?_
                  refine lv_goto (tgt := 369) hx hb dL_isYear_365 (by decide) ?_
                  refine lv_istore (lv' := [(9, .int 1), (5, .int v32), (4, .int (y4 + (ptF σ (ix y10) p3 (σ 2 (ix p3))))), (10, .int y10), (6, .int (aaP σ 6)), (7, .double (shP σ 6)), (0, .ref (ad 0)), (1, .ref (ad 5)), (2, .ref (ad 6)), (3, .int p3), (13, .int (diF σ (ix y10) p3))]) hx hb dL_isYear_369 hl (by decide) rfl (fun ls hl => ?_)
                  refine lv_iinc (v := y10 + 1) (lv' := [(10, .int (y10 + 1)), (9, .int 1), (5, .int v32), (4, .int (y4 + (ptF σ (ix y10) p3 (σ 2 (ix p3))))), (6, .int (aaP σ 6)), (7, .double (shP σ 6)), (0, .ref (ad 0)), (1, .ref (ad 5)), (2, .ref (ad 6)), (3, .int p3), (13, .int (diF σ (ix y10) p3))]) hx hb dL_isYear_371 hl (k := 3) rfl rfl (by decide) rfl (fun ls hl => ?_)
                  refine lv_goto (tgt := 140) hx hb dL_isYear_374 (by decide) ?_
                  exact W.widen (by omega) (by omega) (ih (y10 + 1, y4 + (ptF σ (ix y10) p3 (σ 2 (ix p3))), v32) _ _ _ ⟨⟨by rw [i_add1 (by omega)]; omega, by omega, by rw [g4, hiy]; rfl, by show _ = _ - (itS σ p3 i + its σ i p3); omega⟩, hY, lv_sub hl [0, 3, 2, 4, 5, 1, 6, 7, 8, 9] rfl⟩)
      · intro i x H locs ls hI
        obtain ⟨y10, y4, y5⟩ := x
        obtain ⟨hI, -, -⟩ := hI
        obtain ⟨g0, g9, g4, g5⟩ := hI
        omega
    · have hx6 : ix x10 < 6 := ix_lt (N := 6) ⟨by omega, by omega⟩
      have hix : ix x10 = i := i_ix h0
      have hvb := vds_b hI9 (y := p3) i
      have hvd := vd_int (u := x10) hI9 hy
      obtain ⟨lo0, hi0, hsv, hsz⟩ := sh_z hI9 (i := ix x10) hx6
      refine lv_iload hx hb dL_isYear_25 (lv_at hl 2 rfl) ?_
      refine lv_aload_n hx hb dL_isYear_27 rfl (lv_at hl 8 rfl) ?_
      refine lv_iconst (v := 1) hx hb dL_isYear_28 (by decide) ?_
      refine lv_iload hx hb dL_isYear_29 (lv_at hl 0 rfl) ?_
      refine lv_iadd hx hb dL_isYear_31 ?_
      refine rdN1 hC hY (1 + ix x10) (i_ixc (C := 1) rfl ⟨by omega, by omega⟩ (by decide)) (by omega) (v := σ 0 (ix x10)) (hLI.2.2.2.1 _ hx6) dL_isYear_32 ?_
      refine lv_iadd hx hb dL_isYear_33 ?_
      refine lv_istore (lv' := [(6, .int (x6 + (σ 0 (ix x10)))), (10, .int x10), (5, .int x5), (7, .double x7), (9, .int 1), (4, .int 0), (0, .ref (ad 0)), (1, .ref (ad 5)), (2, .ref (ad 6)), (3, .int p3)]) hx hb dL_isYear_34 hl (by decide) rfl (fun ls hl => ?_)
      refine lv_dload hx hb dL_isYear_36 (lv_at hl 3 rfl) ?_
      refine lv_aload_n hx hb dL_isYear_38 rfl (lv_at hl 6 rfl) ?_
      refine lv_iload hx hb dL_isYear_39 (lv_at hl 1 rfl) ?_
      refine gn_calld hY (gx_runV (n := 1) (q := (RX1, TX1, 5)) (r := 0) hC (c_X1_share l G ad σ n τ hst x10) gL_isYear_X1_share rfl ⟨rfl, rfl⟩ (by decide +kernel) ⟨Nat.le_of_ble_eq_true rfl, Nat.le_of_ble_eq_true rfl⟩ hY (by omega) rfl (ci := 1) rfl rfl hl.1 rfl (Nat.le_of_ble_eq_true rfl) dL_isYear_41 ⟨by show _ ≤ (900 : Nat); omega, by show _ ≤ (5400 : Nat); omega⟩) (exC_0 (cdU1_0 ⟨by omega, by omega⟩)) (fun r108 H locs hh107 hY => ?_)
      obtain ⟨-, rfl⟩ := hh107
      refine lv_dadd hx hb dL_isYear_44 (n64_ok (by rw [h7, hix]; exact sp_nn hI9 (i := i + 1) (by omega))) ?_
      refine lv_dstore (lv' := [(7, .double (Jvm.FP.dadd x7 (shF σ (ix x10)))), (6, .int (x6 + (σ 0 (ix x10)))), (10, .int x10), (5, .int x5), (9, .int 1), (4, .int 0), (0, .ref (ad 0)), (1, .ref (ad 5)), (2, .ref (ad 6)), (3, .int p3)]) hx hb dL_isYear_45 hl (by decide) rfl (fun ls hl => ?_)
      refine lv_iload hx hb dL_isYear_47 (lv_at hl 3 rfl) ?_
      refine lv_sipush (v := 360) hx hb dL_isYear_49 (by decide) ?_
      refine lv_aload_n hx hb dL_isYear_52 rfl (lv_at hl 6 rfl) ?_
      refine lv_iload hx hb dL_isYear_53 (lv_at hl 2 rfl) ?_
      refine lv_iload_n hx hb dL_isYear_55 rfl (lv_at hl 9 rfl) ?_
      refine gn_calli hY (gx_runV (n := 2) (q := (RX1, TX1, 5)) (r := 0) hC (c_X1_voids l G ad σ n τ hst x10 p3) gL_isYear_X1_voids rfl ⟨rfl, rfl⟩ (by decide +kernel) ⟨Nat.le_of_ble_eq_true rfl, Nat.le_of_ble_eq_true rfl⟩ hY (by omega) rfl (ci := 1) rfl rfl hl.1 rfl (Nat.le_of_ble_eq_true rfl) dL_isYear_56 ⟨by show _ ≤ (900 : Nat); omega, by show _ ≤ (5400 : Nat); omega⟩) (exC_0 (cdUX_0 ⟨by omega, by omega⟩ ⟨by omega, by omega⟩)) (fun r110 H locs hh109 hY => ?_)
      obtain ⟨-, rfl⟩ := hh109
      refine lv_isub hx hb dL_isYear_59 ?_
      refine lv_topi (fun v111 e111 => ?_)
      have q111 : v111.toInt = 360 - (vdF σ n x10 p3).toInt := by rw [e111]; exact i_subR rfl rfl (by omega)
      refine lv_iadd hx hb dL_isYear_60 ?_
      refine lv_topi (fun v112 e112 => ?_)
      have q112 : v112.toInt = x5.toInt + v111.toInt := by rw [e112]; exact i_addR rfl rfl (by omega)
      refine lv_istore (lv' := [(5, .int v112), (7, .double (Jvm.FP.dadd x7 (shF σ (ix x10)))), (6, .int (x6 + (σ 0 (ix x10)))), (10, .int x10), (9, .int 1), (4, .int 0), (0, .ref (ad 0)), (1, .ref (ad 5)), (2, .ref (ad 6)), (3, .int p3)]) hx hb dL_isYear_61 hl (by decide) rfl (fun ls hl => ?_)
      refine lv_iload hx hb dL_isYear_63 (lv_at hl 4 rfl) ?_
      refine b_if_eq (tgt := 128) hx hb dL_isYear_65 (by decide) (fun h => absurd h (by decide)) (fun _ => ?_)
      refine lv_aload_n hx hb dL_isYear_68 rfl (lv_at hl 6 rfl) ?_
      refine lv_iload hx hb dL_isYear_69 (lv_at hl 3 rfl) ?_
      refine lv_iload_n hx hb dL_isYear_71 rfl (lv_at hl 9 rfl) ?_
      refine gn_calli hY (gx_runV (n := 2) (q := (RX1, TX1, 5)) (r := 0) hC (c_X1_voids l G ad σ n τ hst x10 p3) gL_isYear_X1_voids rfl ⟨rfl, rfl⟩ (by decide +kernel) ⟨Nat.le_of_ble_eq_true rfl, Nat.le_of_ble_eq_true rfl⟩ hY (by omega) rfl (ci := 1) rfl rfl hl.1 rfl (Nat.le_of_ble_eq_true rfl) dL_isYear_72 ⟨by show _ ≤ (900 : Nat); omega, by show _ ≤ (5400 : Nat); omega⟩) (exC_0 (cdUX_0 ⟨by omega, by omega⟩ ⟨by omega, by omega⟩)) (fun r115 H locs hh114 hY => ?_)
      obtain ⟨-, rfl⟩ := hh114
      refine b_if_lt (tgt := 128) hx hb dL_isYear_75 (by decide) (fun (hh116 : (vdF σ n x10 p3).toInt < 0) => absurd hh116 (by omega)) (fun (hh116 : 0 ≤ (vdF σ n x10 p3).toInt) => ?_)
      refine lv_aload_n hx hb dL_isYear_78 rfl (lv_at hl 6 rfl) ?_
      refine lv_iload hx hb dL_isYear_79 (lv_at hl 3 rfl) ?_
      refine lv_iload_n hx hb dL_isYear_81 rfl (lv_at hl 9 rfl) ?_
      refine gn_calli hY (gx_runV (n := 2) (q := (RX1, TX1, 5)) (r := 0) hC (c_X1_voids l G ad σ n τ hst x10 p3) gL_isYear_X1_voids rfl ⟨rfl, rfl⟩ (by decide +kernel) ⟨Nat.le_of_ble_eq_true rfl, Nat.le_of_ble_eq_true rfl⟩ hY (by omega) rfl (ci := 1) rfl rfl hl.1 rfl (Nat.le_of_ble_eq_true rfl) dL_isYear_82 ⟨by show _ ≤ (900 : Nat); omega, by show _ ≤ (5400 : Nat); omega⟩) (exC_0 (cdUX_0 ⟨by omega, by omega⟩ ⟨by omega, by omega⟩)) (fun r118 H locs hh117 hY => ?_)
      obtain ⟨-, rfl⟩ := hh117
      refine lv_sipush (v := 360) hx hb dL_isYear_85 (by decide) ?_
      refine b_icmp_gt (tgt := 128) hx hb dL_isYear_88 (by decide) (fun (hh119 : 360 < (vdF σ n x10 p3).toInt) => absurd hh119 (by omega)) (fun (hh119 : (vdF σ n x10 p3).toInt ≤ 360) => ?_)
      refine lv_aload_n hx hb dL_isYear_91 rfl (lv_at hl 8 rfl) ?_
      refine lv_iconst (v := 1) hx hb dL_isYear_92 (by decide) ?_
      refine lv_iload hx hb dL_isYear_93 (lv_at hl 3 rfl) ?_
      refine lv_iadd hx hb dL_isYear_95 ?_
      refine rdN1 hC hY (1 + ix x10) (i_ixc (C := 1) rfl ⟨by omega, by omega⟩ (by decide)) (by omega) (v := σ 0 (ix x10)) (hLI.2.2.2.1 _ hx6) dL_isYear_96 ?_
      refine b_if_ne (tgt := 104) hx hb dL_isYear_97 (by decide) (fun (hh120 : ¬ (σ 0 (ix x10)).toInt = 0) => ?_) (fun (hh120 : (σ 0 (ix x10)).toInt = 0) => ?_)
      · refine lv_iconst (v := 0) hx hb dL_isYear_104 (by decide) ?_
        refine lv_aload_n hx hb dL_isYear_105 rfl (lv_at hl 6 rfl) ?_
        refine lv_iload hx hb dL_isYear_106 (lv_at hl 3 rfl) ?_
        refine gn_calld hY (gx_runV (n := 1) (q := (RX1, TX1, 5)) (r := 0) hC (c_X1_share l G ad σ n τ hst x10) gL_isYear_X1_share rfl ⟨rfl, rfl⟩ (by decide +kernel) ⟨Nat.le_of_ble_eq_true rfl, Nat.le_of_ble_eq_true rfl⟩ hY (by omega) rfl (ci := 1) rfl rfl hl.1 rfl (Nat.le_of_ble_eq_true rfl) dL_isYear_108 ⟨by show _ ≤ (900 : Nat); omega, by show _ ≤ (5400 : Nat); omega⟩) (exC_0 (cdU1_0 ⟨by omega, by omega⟩)) (fun r122 H locs hh121 hY => ?_)
        obtain ⟨-, rfl⟩ := hh121
        refine lv_dconst0 hx hb dL_isYear_111 ?_
        refine lv_dcmp hx hb dL_isYear_112 ?_
        refine b_if_ne (tgt := 120) hx hb dL_isYear_113 (by decide) (fun (hh123 : ¬ (Op.cmpValue (Jvm.FP.dcmp (shF σ (ix x10)) Jvm.FP.dconst0) .l).toInt = 0) => ?_) (fun (hh123 : (Op.cmpValue (Jvm.FP.dcmp (shF σ (ix x10)) Jvm.FP.dconst0) .l).toInt = 0) => absurd hh123 (by exact fun q => hh120 (hsz.mp ((cmp_eq0 hsv).mp q))))
        refine lv_iconst (v := 0) hx hb dL_isYear_120 (by decide) ?_
        refine b_icmp_ne (tgt := 128) hx hb dL_isYear_121 (by decide) (fun h => absurd h (by decide)) (fun _ => ?_)
        refine lv_iconst (v := 1) hx hb dL_isYear_124 (by decide) ?_
        refine lv_goto (tgt := 129) hx hb dL_isYear_125 (by decide) ?_
        refine lv_istore (lv' := [(9, .int 1), (5, .int v112), (7, .double (Jvm.FP.dadd x7 (shF σ (ix x10)))), (6, .int (x6 + (σ 0 (ix x10)))), (10, .int x10), (4, .int 0), (0, .ref (ad 0)), (1, .ref (ad 5)), (2, .ref (ad 6)), (3, .int p3)]) hx hb dL_isYear_129 hl (by decide) rfl (fun ls hl => ?_)
        refine lv_iinc (v := x10 + 1) (lv' := [(10, .int (x10 + 1)), (9, .int 1), (5, .int v112), (7, .double (Jvm.FP.dadd x7 (shF σ (ix x10)))), (6, .int (x6 + (σ 0 (ix x10)))), (4, .int 0), (0, .ref (ad 0)), (1, .ref (ad 5)), (2, .ref (ad 6)), (3, .int p3)]) hx hb dL_isYear_131 hl (k := 4) rfl rfl (by decide) rfl (fun ls hl => ?_)
        refine lv_goto (tgt := 18) hx hb dL_isYear_134 (by decide) ?_
        exact W.widen (by omega) (by omega) (ih (x10 + 1, v112, x6 + (σ 0 (ix x10)), Jvm.FP.dadd x7 (shF σ (ix x10))) _ _ _ ⟨⟨by rw [i_add1 (by omega)]; omega, by omega, by show _ = vdS σ n p3 i + wdS σ (i : Int) (360 * p3.toInt) 360 n; rw [← h0]; omega, by rw [h6, hix]; rfl, by rw [h7, hix]; rfl⟩, hY, lv_sub hl [0, 2, 4, 3, 1, 5, 6, 7, 8, 9] rfl⟩)
      · refine lv_iconst (v := 1) hx hb dL_isYear_100 (by decide) ?_
        refine lv_goto (tgt := 105) hx hb dL_isYear_101 (by decide) ?_
        refine lv_aload_n hx hb dL_isYear_105 rfl (lv_at hl 6 rfl) ?_
        refine lv_iload hx hb dL_isYear_106 (lv_at hl 3 rfl) ?_
        refine gn_calld hY (gx_runV (n := 1) (q := (RX1, TX1, 5)) (r := 0) hC (c_X1_share l G ad σ n τ hst x10) gL_isYear_X1_share rfl ⟨rfl, rfl⟩ (by decide +kernel) ⟨Nat.le_of_ble_eq_true rfl, Nat.le_of_ble_eq_true rfl⟩ hY (by omega) rfl (ci := 1) rfl rfl hl.1 rfl (Nat.le_of_ble_eq_true rfl) dL_isYear_108 ⟨by show _ ≤ (900 : Nat); omega, by show _ ≤ (5400 : Nat); omega⟩) (exC_0 (cdU1_0 ⟨by omega, by omega⟩)) (fun r126 H locs hh125 hY => ?_)
        obtain ⟨-, rfl⟩ := hh125
        refine lv_dconst0 hx hb dL_isYear_111 ?_
        refine lv_dcmp hx hb dL_isYear_112 ?_
        refine b_if_ne (tgt := 120) hx hb dL_isYear_113 (by decide) (fun (hh127 : ¬ (Op.cmpValue (Jvm.FP.dcmp (shF σ (ix x10)) Jvm.FP.dconst0) .l).toInt = 0) => absurd hh127 (by exact fun q => q ((cmp_eq0 hsv).mpr (hsz.mpr (by omega))))) (fun (hh127 : (Op.cmpValue (Jvm.FP.dcmp (shF σ (ix x10)) Jvm.FP.dconst0) .l).toInt = 0) => ?_)
        refine lv_iconst (v := 1) hx hb dL_isYear_116 (by decide) ?_
        refine lv_goto (tgt := 121) hx hb dL_isYear_117 (by decide) ?_
        refine b_icmp_ne (tgt := 128) hx hb dL_isYear_121 (by decide) (fun h => absurd h (by decide)) (fun _ => ?_)
        refine lv_iconst (v := 1) hx hb dL_isYear_124 (by decide) ?_
        refine lv_goto (tgt := 129) hx hb dL_isYear_125 (by decide) ?_
        refine lv_istore (lv' := [(9, .int 1), (5, .int v112), (7, .double (Jvm.FP.dadd x7 (shF σ (ix x10)))), (6, .int (x6 + (σ 0 (ix x10)))), (10, .int x10), (4, .int 0), (0, .ref (ad 0)), (1, .ref (ad 5)), (2, .ref (ad 6)), (3, .int p3)]) hx hb dL_isYear_129 hl (by decide) rfl (fun ls hl => ?_)
        refine lv_iinc (v := x10 + 1) (lv' := [(10, .int (x10 + 1)), (9, .int 1), (5, .int v112), (7, .double (Jvm.FP.dadd x7 (shF σ (ix x10)))), (6, .int (x6 + (σ 0 (ix x10)))), (4, .int 0), (0, .ref (ad 0)), (1, .ref (ad 5)), (2, .ref (ad 6)), (3, .int p3)]) hx hb dL_isYear_131 hl (k := 4) rfl rfl (by decide) rfl (fun ls hl => ?_)
        refine lv_goto (tgt := 18) hx hb dL_isYear_134 (by decide) ?_
        exact W.widen (by omega) (by omega) (ih (x10 + 1, v112, x6 + (σ 0 (ix x10)), Jvm.FP.dadd x7 (shF σ (ix x10))) _ _ _ ⟨⟨by rw [i_add1 (by omega)]; omega, by omega, by show _ = vdS σ n p3 i + wdS σ (i : Int) (360 * p3.toInt) 360 n; rw [← h0]; omega, by rw [h6, hix]; rfl, by rw [h7, hix]; rfl⟩, hY, lv_sub hl [0, 2, 4, 3, 1, 5, 6, 7, 8, 9] rfl⟩)
  · intro i x H locs ls hI
    obtain ⟨x10, x5, x6, x7⟩ := x
    obtain ⟨hI, -, -⟩ := hI
    obtain ⟨h0, h9, h5, h6, h7⟩ := hI
    omega

set_option maxHeartbeats 4000000 in
set_option maxRecDepth 100000 in
theorem c_L_isYear (l : Launch) (G : GG) (ad : Nat → Nat) (σ : St) (n : Nat) (τ : St) (hst : l.stackTraces = false) (hLI : LI σ n τ) (p3 : Int32) (hy : 0 ≤ p3.toInt ∧ p3.toInt < 20) : Met l yL_isYear wsL_isYear ({ frames := 10, cells := 900, slots := 5400, locals := 230 }) (PcS G ad σ n τ [.ref (ad 0), .ref (ad 5), .ref (ad 6), .int p3]) (Qi G (3 * n + 9) ad (ctS G ad σ n τ) (fun r => r = 1)) 900 5400 (gF G) := by
  refine Met.ofW (cc := cL_isYear) (maxL := 14) (ret := (some .boolean)) (by decide) rfl ?_
  intro p e s m args below meth c s₁ B hml hv
  obtain ⟨rfl, hY⟩ := hv
  have hts := atoms_spec (ws := wsL_isYear) B.pre
  have hC : CallFix p m c cL_isYear 14 s _ wsL_isYear RL := ⟨B.exec, B.bytes, hml, findClass_of_methodNamed B.named, hts⟩
  have hl := lv_entry ([.ref (ad 0), .ref (ad 5), .ref (ad 6), .int p3]) (n := 14) (Nat.le_of_ble_eq_true rfl)
  rw [lg_entry_eq]
  generalize (lg_sl ([.ref (ad 0), .ref (ad 5), .ref (ad 6), .int p3]) ++ List.replicate (14 - (lg_sl ([.ref (ad 0), .ref (ad 5), .ref (ad 6), .int p3])).length) Slot.unset).toArray = ls at hl ⊢
  exact s_isYear l hst hC B.returns B.notSynchronized hLI hy hY hl

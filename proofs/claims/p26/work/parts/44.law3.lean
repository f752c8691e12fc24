/-! the law: a lease and its month -/
set_option maxHeartbeats 4000000 in
set_option maxRecDepth 100000 in
theorem s_isLease3 {p : Program} {e : Env} {s : State} {m : MethodId} {args : Array Value} {below : List Frame} {meth : Method} {c : Code} {cells slots : Nat} {H : Heap} {locs : List Loc} {ls : Array Slot} {G : GG} {ad : Nat → Nat} {σ : St} {n : Nat} {τ : St} (l : Launch) (hst : l.stackTraces = false) (hC : CallFix p m c cL_isLease 12 s args wsL_isLease RL) (hr : meth.sig.returnType = some .boolean) (hlocks : meth.locks = false) (hLI : LI σ n τ) {p3 p4 v6 nx : Int32} (hp : 0 ≤ p3.toInt ∧ p3.toInt < (n : Int)) (h4 : 0 ≤ p4.toInt ∧ p4.toInt < 240) (hv : v6.toInt = 30 * p4.toInt) (hnx : nx = nxF σ (ix p3) v6) (hY : SyS G ad σ n τ s H locs) (hl : lv_has ls 12 [(0, .ref (ad 0)), (1, .ref (ad 5)), (2, .ref (ad 8)), (3, .int p3), (4, .int p4), (5, .int (bdP σ (ix p3) p4 30)), (6, .int v6), (7, .int 1), (8, .int nx)]) (hcs : cells ≤ 2766 ∧ slots ≤ 16596) : W p l e ({ frames := 9, cells := 3000, slots := 18000, locals := 190 }) s m args below meth c H locs cells slots (MQ below (Qi G (3 * n + 9) ad (ctS G ad σ n τ) (fun r => r = 1)) args s 3000 18000 (gF G)) (F0 m 313 ls []) := by
  have hx := hC.1
  have hb := hC.2.1
  have hI9 := hLI.1
  have hn24 := hLI.1.1
  have hok := hLI.1.2.2.2.1
  have hn12 := hLI.2.1
  have hnI : (nI n).toInt = (n : Int) := i_nI (by omega)
  have hk : ix p3 < n := ix_lt hp
  obtain ⟨r1, r2, r3, r4, r5, r6, r7, r8, r9⟩ := hLI.2.2.2.2.1 (ix p3) hk
  obtain ⟨s1, s2, s3⟩ := hLI.2.2.2.2.2.2.1 (ix p3) hk
  have hL := hok (ix p3) hk
  obtain ⟨f0, ⟨f1, f2, f3⟩, ⟨f4, f5⟩, ⟨f6, f7⟩, f8, ⟨f9, f10⟩, ⟨f11, f12⟩, ⟨f13, f14⟩, -⟩ := id hL
  have hff := ff_int hL
  have hb30 : (p4 * 30).toInt = p4.toInt * 30 := i_mulR rfl rfl (by omega)
  refine lv_iload hx hb dL_isLease_313 (lv_at hl 7 rfl) ?_
  refine b_if_eq (tgt := 365) hx hb dL_isLease_315 (by decide) (fun h => absurd h (by decide)) (fun _ => ?_)
  refine lv_iload hx hb dL_isLease_318 (lv_at hl 8 rfl) ?_
  refine lv_iconst (v := (-1)) hx hb dL_isLease_320 (by decide) ?_
  refine b_icmp_eq (tgt := 361) hx hb dL_isLease_321 (by decide) (fun (hh2 : nx.toInt = (-1)) => ?_) (fun (hh2 : ¬ nx.toInt = (-1)) => ?_)
  · refine lv_iconst (v := 1) hx hb dL_isLease_361 (by decide) ?_
    refine lv_goto (tgt := 366) hx hb dL_isLease_362 (by decide) ?_
    refine lv_istore (lv' := [(7, .int 1), (0, .ref (ad 0)), (1, .ref (ad 5)), (2, .ref (ad 8)), (3, .int p3), (4, .int p4), (5, .int (bdP σ (ix p3) p4 30)), (6, .int v6), (8, .int nx)]) hx hb dL_isLease_366 hl (by decide) rfl (fun ls hl => ?_)
    refine lv_iload hx hb dL_isLease_368 (lv_at hl 0 rfl) ?_
    refine b_if_eq (tgt := 465) hx hb dL_isLease_370 (by decide) (fun h => absurd h (by decide)) (fun _ => ?_)
    refine lv_aload_n hx hb dL_isLease_373 rfl (lv_at hl 1 rfl) ?_
    refine lv_iload_n hx hb dL_isLease_374 rfl (lv_at hl 4 rfl) ?_
    refine lv_iload hx hb dL_isLease_375 (lv_at hl 5 rfl) ?_
    refine gn_calli hY (gx_runV (n := 2) (q := (RX1, TX1, 5)) (r := 0) hC (c_X1_bill l G ad σ n τ hst hn24 hok p3 p4) gL_isLease_X1_bill rfl ⟨rfl, rfl⟩ (by decide +kernel) ⟨Nat.le_of_ble_eq_true rfl, Nat.le_of_ble_eq_true rfl⟩ hY (by omega) rfl (ci := 1) rfl rfl hl.1 rfl (Nat.le_of_ble_eq_true rfl) dL_isLease_377 ⟨by show _ ≤ (3000 : Nat); omega, by show _ ≤ (18000 : Nat); omega⟩) (exC_0 (cdLX_0 ⟨by omega, by omega⟩ ⟨by omega, by omega⟩)) (fun r5 H locs hh4 hY => ?_)
    obtain ⟨-, rfl⟩ := hh4
    refine lv_iload hx hb dL_isLease_380 (lv_at hl 6 rfl) ?_
    refine lv_bipush (v := 30) hx hb dL_isLease_382 (by decide) ?_
    refine lv_idiv hx hb dL_isLease_384 (by decide) ?_
    refine b_icmp_ne (tgt := 465) hx hb dL_isLease_385 (by decide) (fun (hh6 : ¬ (bfF σ (ix p3) p4).toInt = ((bdP σ (ix p3) p4 30) / 30).toInt) => absurd hh6 (by exact fun q => q (by rw [bill_eq hI9 hk h4]))) (fun (hh6 : (bfF σ (ix p3) p4).toInt = ((bdP σ (ix p3) p4 30) / 30).toInt) => ?_)
    refine lv_aload_n hx hb dL_isLease_388 rfl (lv_at hl 1 rfl) ?_
    refine lv_iload_n hx hb dL_isLease_389 rfl (lv_at hl 4 rfl) ?_
    refine lv_iload hx hb dL_isLease_390 (lv_at hl 5 rfl) ?_
    refine gn_calli hY (gx_runV (n := 2) (q := (RX1, TX1, 5)) (r := 0) hC (c_X1_billByDays l G ad σ n τ hst hn24 hok p3 p4) gL_isLease_X1_billByDays rfl ⟨rfl, rfl⟩ (by decide +kernel) ⟨Nat.le_of_ble_eq_true rfl, Nat.le_of_ble_eq_true rfl⟩ hY (by omega) rfl (ci := 1) rfl rfl hl.1 rfl (Nat.le_of_ble_eq_true rfl) dL_isLease_392 ⟨by show _ ≤ (3000 : Nat); omega, by show _ ≤ (18000 : Nat); omega⟩) (exC_0 (cdLX_0 ⟨by omega, by omega⟩ ⟨by omega, by omega⟩)) (fun r8 H locs hh7 hY => ?_)
    obtain ⟨-, rfl⟩ := hh7
    refine lv_iload hx hb dL_isLease_395 (lv_at hl 6 rfl) ?_
    refine lv_bipush (v := 30) hx hb dL_isLease_397 (by decide) ?_
    refine lv_idiv hx hb dL_isLease_399 (by decide) ?_
    refine b_icmp_ne (tgt := 465) hx hb dL_isLease_400 (by decide) (fun h => absurd rfl h) (fun _ => ?_)
    refine lv_aload_n hx hb dL_isLease_403 rfl (lv_at hl 1 rfl) ?_
    refine lv_iload_n hx hb dL_isLease_404 rfl (lv_at hl 4 rfl) ?_
    refine lv_iload hx hb dL_isLease_405 (lv_at hl 5 rfl) ?_
    refine lv_iload hx hb dL_isLease_407 (lv_at hl 5 rfl) ?_
    refine gn_calll hY (gx_runV (n := 3) (q := (RX1, TX1, 5)) (r := 0) hC (c_X1_bills l G ad σ n τ hst hn24 hok p3 p4 p4) gL_isLease_X1_bills rfl ⟨rfl, rfl⟩ (by decide +kernel) ⟨Nat.le_of_ble_eq_true rfl, Nat.le_of_ble_eq_true rfl⟩ hY (by omega) rfl (ci := 1) rfl rfl hl.1 rfl (Nat.le_of_ble_eq_true rfl) dL_isLease_409 ⟨by show _ ≤ (3000 : Nat); omega, by show _ ≤ (18000 : Nat); omega⟩) (exC_0 (cdBills_0 ⟨by omega, by omega⟩ ⟨by omega, by omega⟩ ⟨by omega, by omega⟩ (Int.le_refl _))) (fun r10 H locs hh9 hY => ?_)
    obtain ⟨-, rfl⟩ := hh9
    refine lv_iload hx hb dL_isLease_412 (lv_at hl 6 rfl) ?_
    refine lv_bipush (v := 30) hx hb dL_isLease_414 (by decide) ?_
    refine lv_idiv hx hb dL_isLease_416 (by decide) ?_
    refine lv_i2l hx hb dL_isLease_417 rfl ?_
    refine W.lcmp hx hb dL_isLease_418 ?_
    refine g_top (y := 0) (lg_eq (by rw [show (p4.toInt - p4.toInt + 1).toNat = 1 by omega, bs_one, bill_eq hI9 hk h4])) ?_
    refine b_if_ne (tgt := 465) hx hb dL_isLease_419 (by decide) (fun h => absurd h (by decide)) (fun _ => ?_)
    refine lv_aload_n hx hb dL_isLease_422 rfl (lv_at hl 1 rfl) ?_
    refine lv_iload_n hx hb dL_isLease_423 rfl (lv_at hl 4 rfl) ?_
    refine lv_iconst (v := 0) hx hb dL_isLease_424 (by decide) ?_
    refine lv_sipush (v := 239) hx hb dL_isLease_425 (by decide) ?_
    refine gn_calll hY (gx_runV (n := 3) (q := (RX1, TX1, 5)) (r := 0) hC (c_X1_bills l G ad σ n τ hst hn24 hok p3 0 239) gL_isLease_X1_bills rfl ⟨rfl, rfl⟩ (by decide +kernel) ⟨Nat.le_of_ble_eq_true rfl, Nat.le_of_ble_eq_true rfl⟩ hY (by omega) rfl (ci := 1) rfl rfl hl.1 rfl (Nat.le_of_ble_eq_true rfl) dL_isLease_428 ⟨by show _ ≤ (3000 : Nat); omega, by show _ ≤ (18000 : Nat); omega⟩) (exC_0 (cdBills_0 ⟨by omega, by omega⟩ ⟨by decide, by decide⟩ ⟨by decide, by decide⟩ (by decide))) (fun r13 H locs hh12 hY => ?_)
    obtain ⟨-, rfl⟩ := hh12
    refine lv_aload_n hx hb dL_isLease_431 rfl (lv_at hl 1 rfl) ?_
    refine lv_iload_n hx hb dL_isLease_432 rfl (lv_at hl 4 rfl) ?_
    refine lv_iconst (v := 0) hx hb dL_isLease_433 (by decide) ?_
    refine lv_iload hx hb dL_isLease_434 (lv_at hl 5 rfl) ?_
    refine gn_calll hY (gx_runV (n := 3) (q := (RX1, TX1, 5)) (r := 0) hC (c_X1_bills l G ad σ n τ hst hn24 hok p3 0 p4) gL_isLease_X1_bills rfl ⟨rfl, rfl⟩ (by decide +kernel) ⟨Nat.le_of_ble_eq_true rfl, Nat.le_of_ble_eq_true rfl⟩ hY (by omega) rfl (ci := 1) rfl rfl hl.1 rfl (Nat.le_of_ble_eq_true rfl) dL_isLease_436 ⟨by show _ ≤ (3000 : Nat); omega, by show _ ≤ (18000 : Nat); omega⟩) (exC_0 (cdBills_0 ⟨by omega, by omega⟩ ⟨by decide, by decide⟩ ⟨by omega, by omega⟩ (by have z2 : (239 : Int32).toInt = 239 := rfl; have z0 : (0 : Int32).toInt = 0 := rfl; omega))) (fun r15 H locs hh14 hY => ?_)
    obtain ⟨-, rfl⟩ := hh14
    refine lv_aload_n hx hb dL_isLease_439 rfl (lv_at hl 1 rfl) ?_
    refine lv_iload_n hx hb dL_isLease_440 rfl (lv_at hl 4 rfl) ?_
    refine lv_iload hx hb dL_isLease_441 (lv_at hl 5 rfl) ?_
    refine lv_sipush (v := 239) hx hb dL_isLease_443 (by decide) ?_
    refine gn_calll hY (gx_runV (n := 3) (q := (RX1, TX1, 5)) (r := 0) hC (c_X1_bills l G ad σ n τ hst hn24 hok p3 p4 239) gL_isLease_X1_bills rfl ⟨rfl, rfl⟩ (by decide +kernel) ⟨Nat.le_of_ble_eq_true rfl, Nat.le_of_ble_eq_true rfl⟩ hY (by omega) rfl (ci := 1) rfl rfl hl.1 rfl (Nat.le_of_ble_eq_true rfl) dL_isLease_446 ⟨by show _ ≤ (3000 : Nat); omega, by show _ ≤ (18000 : Nat); omega⟩) (exC_0 (cdBills_0 ⟨by omega, by omega⟩ ⟨by omega, by omega⟩ ⟨by decide, by decide⟩ (by have z2 : (239 : Int32).toInt = 239 := rfl; have z0 : (0 : Int32).toInt = 0 := rfl; omega))) (fun r17 H locs hh16 hY => ?_)
    obtain ⟨-, rfl⟩ := hh16
    refine lv_ladd hx hb dL_isLease_449 ?_
    refine lv_iload hx hb dL_isLease_450 (lv_at hl 6 rfl) ?_
    refine lv_bipush (v := 30) hx hb dL_isLease_452 (by decide) ?_
    refine lv_idiv hx hb dL_isLease_454 (by decide) ?_
    refine lv_i2l hx hb dL_isLease_455 rfl ?_
    refine lv_lsub hx hb dL_isLease_456 ?_
    refine W.lcmp hx hb dL_isLease_457 ?_
    refine g_top (y := 0) (lg_eq (by have z := bs_all (σ := σ) (k := (ix p3)) (m := p4) h4; rw [bill_eq hI9 hk h4] at z; rw [show (239 : Int32).toInt = 239 from rfl, show (0 : Int32).toInt = 0 from rfl, show ((239 : Int) - 0 + 1).toNat = 240 from rfl]; exact z)) ?_
    refine b_if_ne (tgt := 465) hx hb dL_isLease_458 (by decide) (fun h => absurd h (by decide)) (fun _ => ?_)
    refine lv_iconst (v := 1) hx hb dL_isLease_461 (by decide) ?_
    refine lv_goto (tgt := 466) hx hb dL_isLease_462 (by decide) ?_
    exact g_zret hC hr hlocks rfl hY ⟨by show _ ≤ (3000 : Nat); omega, by show _ ≤ (18000 : Nat); omega⟩ dL_isLease_466 rfl
  · have hno : ¬ nx = -1 := fun q => hh2 (by rw [q]; rfl)
    have hok2 := nx_ok (σ := σ) (k := (ix p3)) (d := v6) hI9 hk ⟨by omega, by omega⟩ (by rw [← hnx]; exact hno)
    rw [← hnx] at hok2
    obtain ⟨n1, n2, n3, n4, n5⟩ := hok2
    refine lv_iload hx hb dL_isLease_324 (lv_at hl 8 rfl) ?_
    refine lv_iload hx hb dL_isLease_326 (lv_at hl 6 rfl) ?_
    refine b_icmp_le (tgt := 365) hx hb dL_isLease_328 (by decide) (fun (hh19 : nx.toInt ≤ v6.toInt) => absurd hh19 (by omega)) (fun (hh19 : v6.toInt < nx.toInt) => ?_)
    refine lv_aload_n hx hb dL_isLease_331 rfl (lv_at hl 0 rfl) ?_
    refine lv_iload_n hx hb dL_isLease_332 rfl (lv_at hl 3 rfl) ?_
    refine lv_iload hx hb dL_isLease_333 (lv_at hl 8 rfl) ?_
    refine gn_calli hY (gx_runV (n := 2) (q := (RX1, TX1, 5)) (r := 0) hC (c_X1_rentOn l G ad σ n τ hst hn24 hok p3 nx) gL_isLease_X1_rentOn rfl ⟨rfl, rfl⟩ (by decide +kernel) ⟨Nat.le_of_ble_eq_true rfl, Nat.le_of_ble_eq_true rfl⟩ hY (by omega) rfl (ci := 1) rfl rfl hl.1 rfl (Nat.le_of_ble_eq_true rfl) dL_isLease_335 ⟨by show _ ≤ (3000 : Nat); omega, by show _ ≤ (18000 : Nat); omega⟩) (exC_0 (cdLX_0 ⟨by omega, by omega⟩ ⟨by omega, by omega⟩)) (fun r21 H locs hh20 hY => ?_)
    obtain ⟨-, rfl⟩ := hh20
    refine lv_aload_n hx hb dL_isLease_338 rfl (lv_at hl 0 rfl) ?_
    refine lv_iload_n hx hb dL_isLease_339 rfl (lv_at hl 3 rfl) ?_
    refine lv_iload hx hb dL_isLease_340 (lv_at hl 8 rfl) ?_
    refine lv_iconst (v := 1) hx hb dL_isLease_342 (by decide) ?_
    refine lv_isub hx hb dL_isLease_343 ?_
    refine gn_calli hY (gx_runV (n := 2) (q := (RX1, TX1, 5)) (r := 0) hC (c_X1_rentOn l G ad σ n τ hst hn24 hok p3 (nx - 1)) gL_isLease_X1_rentOn rfl ⟨rfl, rfl⟩ (by decide +kernel) ⟨Nat.le_of_ble_eq_true rfl, Nat.le_of_ble_eq_true rfl⟩ hY (by omega) rfl (ci := 1) rfl rfl hl.1 rfl (Nat.le_of_ble_eq_true rfl) dL_isLease_344 ⟨by show _ ≤ (3000 : Nat); omega, by show _ ≤ (18000 : Nat); omega⟩) (exC_0 (cdLX_0 ⟨by omega, by omega⟩ ⟨by omega, by omega⟩)) (fun r23 H locs hh22 hY => ?_)
    obtain ⟨-, rfl⟩ := hh22
    refine b_icmp_eq (tgt := 365) hx hb dL_isLease_347 (by decide) (fun (hh24 : (rfF σ (ix p3) nx).toInt = (rfF σ (ix p3) (nx - 1)).toInt) => absurd hh24 (by exact fun q => n4 (i_ext q))) (fun (hh24 : ¬ (rfF σ (ix p3) nx).toInt = (rfF σ (ix p3) (nx - 1)).toInt) => ?_)
    refine lv_iload hx hb dL_isLease_350 (lv_at hl 8 rfl) ?_
    refine lv_aload_n hx hb dL_isLease_352 rfl (lv_at hl 1 rfl) ?_
    refine lv_bipush (v := 24) hx hb dL_isLease_353 (by decide) ?_
    refine lv_iload_n hx hb dL_isLease_355 rfl (lv_at hl 3 rfl) ?_
    refine lv_iadd hx hb dL_isLease_356 ?_
    refine rdN0 hC hY (24 + ix p3) (i_ixc (C := 24) rfl ⟨by omega, by omega⟩ (by decide)) (by omega) (v := σ 5 (ix p3)) (r3) dL_isLease_357 ?_
    refine b_icmp_gt (tgt := 365) hx hb dL_isLease_358 (by decide) (fun (hh25 : (σ 5 (ix p3)).toInt < nx.toInt) => absurd hh25 (by omega)) (fun (hh25 : nx.toInt ≤ (σ 5 (ix p3)).toInt) => ?_)
    refine lv_iconst (v := 1) hx hb dL_isLease_361 (by decide) ?_
    refine lv_goto (tgt := 366) hx hb dL_isLease_362 (by decide) ?_
    refine lv_istore (lv' := [(7, .int 1), (0, .ref (ad 0)), (1, .ref (ad 5)), (2, .ref (ad 8)), (3, .int p3), (4, .int p4), (5, .int (bdP σ (ix p3) p4 30)), (6, .int v6), (8, .int nx)]) hx hb dL_isLease_366 hl (by decide) rfl (fun ls hl => ?_)
    refine lv_iload hx hb dL_isLease_368 (lv_at hl 0 rfl) ?_
    refine b_if_eq (tgt := 465) hx hb dL_isLease_370 (by decide) (fun h => absurd h (by decide)) (fun _ => ?_)
    refine lv_aload_n hx hb dL_isLease_373 rfl (lv_at hl 1 rfl) ?_
    refine lv_iload_n hx hb dL_isLease_374 rfl (lv_at hl 4 rfl) ?_
    refine lv_iload hx hb dL_isLease_375 (lv_at hl 5 rfl) ?_
    refine gn_calli hY (gx_runV (n := 2) (q := (RX1, TX1, 5)) (r := 0) hC (c_X1_bill l G ad σ n τ hst hn24 hok p3 p4) gL_isLease_X1_bill rfl ⟨rfl, rfl⟩ (by decide +kernel) ⟨Nat.le_of_ble_eq_true rfl, Nat.le_of_ble_eq_true rfl⟩ hY (by omega) rfl (ci := 1) rfl rfl hl.1 rfl (Nat.le_of_ble_eq_true rfl) dL_isLease_377 ⟨by show _ ≤ (3000 : Nat); omega, by show _ ≤ (18000 : Nat); omega⟩) (exC_0 (cdLX_0 ⟨by omega, by omega⟩ ⟨by omega, by omega⟩)) (fun r28 H locs hh27 hY => ?_)
    obtain ⟨-, rfl⟩ := hh27
    refine lv_iload hx hb dL_isLease_380 (lv_at hl 6 rfl) ?_
    refine lv_bipush (v := 30) hx hb dL_isLease_382 (by decide) ?_
    refine lv_idiv hx hb dL_isLease_384 (by decide) ?_
    refine b_icmp_ne (tgt := 465) hx hb dL_isLease_385 (by decide) (fun (hh29 : ¬ (bfF σ (ix p3) p4).toInt = ((bdP σ (ix p3) p4 30) / 30).toInt) => absurd hh29 (by exact fun q => q (by rw [bill_eq hI9 hk h4]))) (fun (hh29 : (bfF σ (ix p3) p4).toInt = ((bdP σ (ix p3) p4 30) / 30).toInt) => ?_)
    refine lv_aload_n hx hb dL_isLease_388 rfl (lv_at hl 1 rfl) ?_
    refine lv_iload_n hx hb dL_isLease_389 rfl (lv_at hl 4 rfl) ?_
    refine lv_iload hx hb dL_isLease_390 (lv_at hl 5 rfl) ?_
    refine gn_calli hY (gx_runV (n := 2) (q := (RX1, TX1, 5)) (r := 0) hC (c_X1_billByDays l G ad σ n τ hst hn24 hok p3 p4) gL_isLease_X1_billByDays rfl ⟨rfl, rfl⟩ (by decide +kernel) ⟨Nat.le_of_ble_eq_true rfl, Nat.le_of_ble_eq_true rfl⟩ hY (by omega) rfl (ci := 1) rfl rfl hl.1 rfl (Nat.le_of_ble_eq_true rfl) dL_isLease_392 ⟨by show _ ≤ (3000 : Nat); omega, by show _ ≤ (18000 : Nat); omega⟩) (exC_0 (cdLX_0 ⟨by omega, by omega⟩ ⟨by omega, by omega⟩)) (fun r31 H locs hh30 hY => ?_)
    obtain ⟨-, rfl⟩ := hh30
    refine lv_iload hx hb dL_isLease_395 (lv_at hl 6 rfl) ?_
    refine lv_bipush (v := 30) hx hb dL_isLease_397 (by decide) ?_
    refine lv_idiv hx hb dL_isLease_399 (by decide) ?_
    refine b_icmp_ne (tgt := 465) hx hb dL_isLease_400 (by decide) (fun h => absurd rfl h) (fun _ => ?_)
    refine lv_aload_n hx hb dL_isLease_403 rfl (lv_at hl 1 rfl) ?_
    refine lv_iload_n hx hb dL_isLease_404 rfl (lv_at hl 4 rfl) ?_
    refine lv_iload hx hb dL_isLease_405 (lv_at hl 5 rfl) ?_
    refine lv_iload hx hb dL_isLease_407 (lv_at hl 5 rfl) ?_
    refine gn_calll hY (gx_runV (n := 3) (q := (RX1, TX1, 5)) (r := 0) hC (c_X1_bills l G ad σ n τ hst hn24 hok p3 p4 p4) gL_isLease_X1_bills rfl ⟨rfl, rfl⟩ (by decide +kernel) ⟨Nat.le_of_ble_eq_true rfl, Nat.le_of_ble_eq_true rfl⟩ hY (by omega) rfl (ci := 1) rfl rfl hl.1 rfl (Nat.le_of_ble_eq_true rfl) dL_isLease_409 ⟨by show _ ≤ (3000 : Nat); omega, by show _ ≤ (18000 : Nat); omega⟩) (exC_0 (cdBills_0 ⟨by omega, by omega⟩ ⟨by omega, by omega⟩ ⟨by omega, by omega⟩ (Int.le_refl _))) (fun r33 H locs hh32 hY => ?_)
    obtain ⟨-, rfl⟩ := hh32
    refine lv_iload hx hb dL_isLease_412 (lv_at hl 6 rfl) ?_
    refine lv_bipush (v := 30) hx hb dL_isLease_414 (by decide) ?_
    refine lv_idiv hx hb dL_isLease_416 (by decide) ?_
    refine lv_i2l hx hb dL_isLease_417 rfl ?_
    refine W.lcmp hx hb dL_isLease_418 ?_
    refine g_top (y := 0) (lg_eq (by rw [show (p4.toInt - p4.toInt + 1).toNat = 1 by omega, bs_one, bill_eq hI9 hk h4])) ?_
    refine b_if_ne (tgt := 465) hx hb dL_isLease_419 (by decide) (fun h => absurd h (by decide)) (fun _ => ?_)
    refine lv_aload_n hx hb dL_isLease_422 rfl (lv_at hl 1 rfl) ?_
    refine lv_iload_n hx hb dL_isLease_423 rfl (lv_at hl 4 rfl) ?_
    refine lv_iconst (v := 0) hx hb dL_isLease_424 (by decide) ?_
    refine lv_sipush (v := 239) hx hb dL_isLease_425 (by decide) ?_
    refine gn_calll hY (gx_runV (n := 3) (q := (RX1, TX1, 5)) (r := 0) hC (c_X1_bills l G ad σ n τ hst hn24 hok p3 0 239) gL_isLease_X1_bills rfl ⟨rfl, rfl⟩ (by decide +kernel) ⟨Nat.le_of_ble_eq_true rfl, Nat.le_of_ble_eq_true rfl⟩ hY (by omega) rfl (ci := 1) rfl rfl hl.1 rfl (Nat.le_of_ble_eq_true rfl) dL_isLease_428 ⟨by show _ ≤ (3000 : Nat); omega, by show _ ≤ (18000 : Nat); omega⟩) (exC_0 (cdBills_0 ⟨by omega, by omega⟩ ⟨by decide, by decide⟩ ⟨by decide, by decide⟩ (by decide))) (fun r36 H locs hh35 hY => ?_)
    obtain ⟨-, rfl⟩ := hh35
    refine lv_aload_n hx hb dL_isLease_431 rfl (lv_at hl 1 rfl) ?_
    refine lv_iload_n hx hb dL_isLease_432 rfl (lv_at hl 4 rfl) ?_
    refine lv_iconst (v := 0) hx hb dL_isLease_433 (by decide) ?_
    refine lv_iload hx hb dL_isLease_434 (lv_at hl 5 rfl) ?_
    refine gn_calll hY (gx_runV (n := 3) (q := (RX1, TX1, 5)) (r := 0) hC (c_X1_bills l G ad σ n τ hst hn24 hok p3 0 p4) gL_isLease_X1_bills rfl ⟨rfl, rfl⟩ (by decide +kernel) ⟨Nat.le_of_ble_eq_true rfl, Nat.le_of_ble_eq_true rfl⟩ hY (by omega) rfl (ci := 1) rfl rfl hl.1 rfl (Nat.le_of_ble_eq_true rfl) dL_isLease_436 ⟨by show _ ≤ (3000 : Nat); omega, by show _ ≤ (18000 : Nat); omega⟩) (exC_0 (cdBills_0 ⟨by omega, by omega⟩ ⟨by decide, by decide⟩ ⟨by omega, by omega⟩ (by have z2 : (239 : Int32).toInt = 239 := rfl; have z0 : (0 : Int32).toInt = 0 := rfl; omega))) (fun r38 H locs hh37 hY => ?_)
    obtain ⟨-, rfl⟩ := hh37
    refine lv_aload_n hx hb dL_isLease_439 rfl (lv_at hl 1 rfl) ?_
    refine lv_iload_n hx hb dL_isLease_440 rfl (lv_at hl 4 rfl) ?_
    refine lv_iload hx hb dL_isLease_441 (lv_at hl 5 rfl) ?_
    refine lv_sipush (v := 239) hx hb dL_isLease_443 (by decide) ?_
    refine gn_calll hY (gx_runV (n := 3) (q := (RX1, TX1, 5)) (r := 0) hC (c_X1_bills l G ad σ n τ hst hn24 hok p3 p4 239) gL_isLease_X1_bills rfl ⟨rfl, rfl⟩ (by decide +kernel) ⟨Nat.le_of_ble_eq_true rfl, Nat.le_of_ble_eq_true rfl⟩ hY (by omega) rfl (ci := 1) rfl rfl hl.1 rfl (Nat.le_of_ble_eq_true rfl) dL_isLease_446 ⟨by show _ ≤ (3000 : Nat); omega, by show _ ≤ (18000 : Nat); omega⟩) (exC_0 (cdBills_0 ⟨by omega, by omega⟩ ⟨by omega, by omega⟩ ⟨by decide, by decide⟩ (by have z2 : (239 : Int32).toInt = 239 := rfl; have z0 : (0 : Int32).toInt = 0 := rfl; omega))) (fun r40 H locs hh39 hY => ?_)
    obtain ⟨-, rfl⟩ := hh39
    refine lv_ladd hx hb dL_isLease_449 ?_
    refine lv_iload hx hb dL_isLease_450 (lv_at hl 6 rfl) ?_
    refine lv_bipush (v := 30) hx hb dL_isLease_452 (by decide) ?_
    refine lv_idiv hx hb dL_isLease_454 (by decide) ?_
    refine lv_i2l hx hb dL_isLease_455 rfl ?_
    refine lv_lsub hx hb dL_isLease_456 ?_
    refine W.lcmp hx hb dL_isLease_457 ?_
    refine g_top (y := 0) (lg_eq (by have z := bs_all (σ := σ) (k := (ix p3)) (m := p4) h4; rw [bill_eq hI9 hk h4] at z; rw [show (239 : Int32).toInt = 239 from rfl, show (0 : Int32).toInt = 0 from rfl, show ((239 : Int) - 0 + 1).toNat = 240 from rfl]; exact z)) ?_
    refine b_if_ne (tgt := 465) hx hb dL_isLease_458 (by decide) (fun h => absurd h (by decide)) (fun _ => ?_)
    refine lv_iconst (v := 1) hx hb dL_isLease_461 (by decide) ?_
    refine lv_goto (tgt := 466) hx hb dL_isLease_462 (by decide) ?_
    exact g_zret hC hr hlocks rfl hY ⟨by show _ ≤ (3000 : Nat); omega, by show _ ≤ (18000 : Nat); omega⟩ dL_isLease_466 rfl

set_option maxHeartbeats 4000000 in
set_option maxRecDepth 100000 in
theorem s_isLease2 {p : Program} {e : Env} {s : State} {m : MethodId} {args : Array Value} {below : List Frame} {meth : Method} {c : Code} {cells slots : Nat} {H : Heap} {locs : List Loc} {ls : Array Slot} {G : GG} {ad : Nat → Nat} {σ : St} {n : Nat} {τ : St} (l : Launch) (hst : l.stackTraces = false) (hC : CallFix p m c cL_isLease 12 s args wsL_isLease RL) (hr : meth.sig.returnType = some .boolean) (hlocks : meth.locks = false) (hLI : LI σ n τ) {p3 p4 v6 nx w9 : Int32} (hp : 0 ≤ p3.toInt ∧ p3.toInt < (n : Int)) (h4 : 0 ≤ p4.toInt ∧ p4.toInt < 240) (hv : v6.toInt = 30 * p4.toInt) (hnx : nx = nxF σ (ix p3) v6) (hw : w9.toInt ≤ v6.toInt + 200) (hw2 : nx = -1 ∨ w9.toInt ≤ nx.toInt) (hY : SyS G ad σ n τ s H locs) (hl : lv_has ls 12 [(0, .ref (ad 0)), (1, .ref (ad 5)), (2, .ref (ad 8)), (3, .int p3), (4, .int p4), (5, .int (bdP σ (ix p3) p4 30)), (6, .int v6), (7, .int 1), (8, .int nx), (9, .int w9)]) (hcs : cells ≤ 366 ∧ slots ≤ 2196) : W p l e ({ frames := 9, cells := 3000, slots := 18000, locals := 190 }) s m args below meth c H locs cells slots (MQ below (Qi G (3 * n + 9) ad (ctS G ad σ n τ) (fun r => r = 1)) args s 3000 18000 (gF G)) (F0 m 257 ls []) := by
  have hx := hC.1
  have hb := hC.2.1
  have hI9 := hLI.1
  have hn24 := hLI.1.1
  have hok := hLI.1.2.2.2.1
  have hn12 := hLI.2.1
  have hnI : (nI n).toInt = (n : Int) := i_nI (by omega)
  have hk : ix p3 < n := ix_lt hp
  obtain ⟨r1, r2, r3, r4, r5, r6, r7, r8, r9⟩ := hLI.2.2.2.2.1 (ix p3) hk
  obtain ⟨s1, s2, s3⟩ := hLI.2.2.2.2.2.2.1 (ix p3) hk
  have hL := hok (ix p3) hk
  obtain ⟨f0, ⟨f1, f2, f3⟩, ⟨f4, f5⟩, ⟨f6, f7⟩, f8, ⟨f9, f10⟩, ⟨f11, f12⟩, ⟨f13, f14⟩, -⟩ := id hL
  have hff := ff_int hL
  have hb30 : (p4 * 30).toInt = p4.toInt * 30 := i_mulR rfl rfl (by omega)
  refine lv_iload hx hb dL_isLease_257 (lv_at hl 6 rfl) ?_
  refine lv_iconst (v := 1) hx hb dL_isLease_259 (by decide) ?_
  refine lv_iadd hx hb dL_isLease_260 ?_
  refine lv_topi (fun v1 e1 => ?_)
  have q1 : v1.toInt = v6.toInt + 1 := by rw [e1]; exact i_addR rfl rfl (by omega)
  refine lv_istore (lv' := [(10, .int v1), (0, .ref (ad 0)), (1, .ref (ad 5)), (2, .ref (ad 8)), (3, .int p3), (4, .int p4), (5, .int (bdP σ (ix p3) p4 30)), (6, .int v6), (7, .int 1), (8, .int nx), (9, .int w9)]) hx hb dL_isLease_261 hl (by decide) rfl (fun ls hl => ?_)
  refine w_loopC (X := Int32) (fun i x H locs ls => match x with | x10 => (x10.toInt = v6.toInt + 1 + i ∧ i ≤ 200) ∧ SyS G ad σ n τ s H locs ∧ lv_has ls 12 [(10, .int x10), (0, .ref (ad 0)), (1, .ref (ad 5)), (2, .ref (ad 8)), (3, .int p3), (4, .int p4), (5, .int (bdP σ (ix p3) p4 30)), (6, .int v6), (7, .int 1), (8, .int nx), (9, .int w9)]) (200) 12 72 _ _ ?_ ?_ (v1) ⟨⟨by show v1.toInt = v6.toInt + 1 + ((0 : Nat) : Int); omega, Nat.zero_le _⟩, hY, lv_sub hl [0, 1, 2, 3, 4, 5, 6, 7, 8, 9, 10] rfl⟩
  · intro i x H locs ls hI ih
    obtain ⟨x10, rfl⟩ : ∃ z, z = x := ⟨_, rfl⟩
    obtain ⟨hI, hY, hl⟩ := hI
    obtain ⟨h0, h9⟩ := hI
    refine lv_iload hx hb dL_isLease_263 (lv_at hl 0 rfl) ?_
    refine lv_iload hx hb dL_isLease_265 (lv_at hl 10 rfl) ?_
    refine b_icmp_ge (tgt := 313) hx hb dL_isLease_267 (by decide) (fun (hh2 : w9.toInt ≤ x10.toInt) => ?_) (fun (hh2 : x10.toInt < w9.toInt) => ?_)
    · exact s_isLease3 l hst hC hr hlocks hLI hp h4 hv hnx hY (lv_sub hl [1, 2, 3, 4, 5, 6, 7, 8, 9] rfl) ⟨by omega, by omega⟩
    · refine lv_iload hx hb dL_isLease_270 (lv_at hl 0 rfl) ?_
      refine lv_sipush (v := 7200) hx hb dL_isLease_272 (by decide) ?_
      refine b_icmp_ge (tgt := 313) hx hb dL_isLease_275 (by decide) (fun (hh3 : 7200 ≤ x10.toInt) => ?_) (fun (hh3 : x10.toInt < 7200) => ?_)
      · exact s_isLease3 l hst hC hr hlocks hLI hp h4 hv hnx hY (lv_sub hl [1, 2, 3, 4, 5, 6, 7, 8, 9] rfl) ⟨by omega, by omega⟩
      · refine lv_iload hx hb dL_isLease_278 (lv_at hl 8 rfl) ?_
        refine b_if_eq (tgt := 313) hx hb dL_isLease_280 (by decide) (fun h => absurd h (by decide)) (fun _ => ?_)
        refine lv_aload_n hx hb dL_isLease_283 rfl (lv_at hl 1 rfl) ?_
        refine lv_iload_n hx hb dL_isLease_284 rfl (lv_at hl 4 rfl) ?_
        refine lv_iload hx hb dL_isLease_285 (lv_at hl 0 rfl) ?_
        refine gn_calli hY (gx_runV (n := 2) (q := (RX1, TX1, 5)) (r := 0) hC (c_X1_rentOn l G ad σ n τ hst hn24 hok p3 x10) gL_isLease_X1_rentOn rfl ⟨rfl, rfl⟩ (by decide +kernel) ⟨Nat.le_of_ble_eq_true rfl, Nat.le_of_ble_eq_true rfl⟩ hY (by omega) rfl (ci := 1) rfl rfl hl.1 rfl (Nat.le_of_ble_eq_true rfl) dL_isLease_287 ⟨by show _ ≤ (3000 : Nat); omega, by show _ ≤ (18000 : Nat); omega⟩) (exC_0 (cdLX_0 ⟨by omega, by omega⟩ ⟨by omega, by omega⟩)) (fun r6 H locs hh5 hY => ?_)
        obtain ⟨-, rfl⟩ := hh5
        refine lv_aload_n hx hb dL_isLease_290 rfl (lv_at hl 1 rfl) ?_
        refine lv_iload_n hx hb dL_isLease_291 rfl (lv_at hl 4 rfl) ?_
        refine lv_iload hx hb dL_isLease_292 (lv_at hl 7 rfl) ?_
        refine gn_calli hY (gx_runV (n := 2) (q := (RX1, TX1, 5)) (r := 0) hC (c_X1_rentOn l G ad σ n τ hst hn24 hok p3 v6) gL_isLease_X1_rentOn rfl ⟨rfl, rfl⟩ (by decide +kernel) ⟨Nat.le_of_ble_eq_true rfl, Nat.le_of_ble_eq_true rfl⟩ hY (by omega) rfl (ci := 1) rfl rfl hl.1 rfl (Nat.le_of_ble_eq_true rfl) dL_isLease_294 ⟨by show _ ≤ (3000 : Nat); omega, by show _ ≤ (18000 : Nat); omega⟩) (exC_0 (cdLX_0 ⟨by omega, by omega⟩ ⟨by omega, by omega⟩)) (fun r8 H locs hh7 hY => ?_)
        obtain ⟨-, rfl⟩ := hh7
        refine b_icmp_ne (tgt := 304) hx hb dL_isLease_297 (by decide) (fun (hh9 : ¬ (rfF σ (ix p3) x10).toInt = (rfF σ (ix p3) v6).toInt) => absurd hh9 (by exact fun q => q (congrArg Int32.toInt (nx_run hI9 hk ⟨by omega, by omega⟩ (by omega) (by omega) (by rw [← hnx]; exact hw2.elim Or.inl (fun z => Or.inr (by omega))))))) (fun (hh9 : (rfF σ (ix p3) x10).toInt = (rfF σ (ix p3) v6).toInt) => ?_)
        refine lv_iconst (v := 1) hx hb dL_isLease_300 (by decide) ?_
        refine lv_goto (tgt := 305) hx hb dL_isLease_301 (by decide) ?_
        refine lv_istore (lv' := [(7, .int 1), (10, .int x10), (0, .ref (ad 0)), (1, .ref (ad 5)), (2, .ref (ad 8)), (3, .int p3), (4, .int p4), (5, .int (bdP σ (ix p3) p4 30)), (6, .int v6), (8, .int nx), (9, .int w9)]) hx hb dL_isLease_305 hl (by decide) rfl (fun ls hl => ?_)
        refine lv_iinc (v := x10 + 1) (lv' := [(10, .int (x10 + 1)), (7, .int 1), (0, .ref (ad 0)), (1, .ref (ad 5)), (2, .ref (ad 8)), (3, .int p3), (4, .int p4), (5, .int (bdP σ (ix p3) p4 30)), (6, .int v6), (8, .int nx), (9, .int w9)]) hx hb dL_isLease_307 hl (k := 1) rfl rfl (by decide) rfl (fun ls hl => ?_)
        refine lv_goto (tgt := 263) hx hb dL_isLease_310 (by decide) ?_
        exact W.widen (by omega) (by omega) (ih (x10 + 1) _ _ _ ⟨⟨by rw [i_add1 (by omega)]; omega, by omega⟩, hY, lv_sub hl [0, 2, 3, 4, 5, 6, 7, 8, 1, 9, 10] rfl⟩)
  · intro i x H locs ls hI
    obtain ⟨x10, rfl⟩ : ∃ z, z = x := ⟨_, rfl⟩
    obtain ⟨hI, -, -⟩ := hI
    obtain ⟨h0, h9⟩ := hI
    omega

set_option maxHeartbeats 4000000 in
set_option maxRecDepth 100000 in
theorem s_isLease {p : Program} {e : Env} {s : State} {m : MethodId} {args : Array Value} {below : List Frame} {meth : Method} {c : Code} {H : Heap} {locs : List Loc} {ls : Array Slot} {G : GG} {ad : Nat → Nat} {σ : St} {n : Nat} {τ : St} (l : Launch) (hst : l.stackTraces = false) (hC : CallFix p m c cL_isLease 12 s args wsL_isLease RL) (hr : meth.sig.returnType = some .boolean) (hlocks : meth.locks = false) (hLI : LI σ n τ) {p3 p4 : Int32} (hp : 0 ≤ p3.toInt ∧ p3.toInt < (n : Int)) (h4 : 0 ≤ p4.toInt ∧ p4.toInt < 240) (hY : SyS G ad σ n τ s H locs) (hl : lv_has ls 12 [(0, .ref (ad 0)), (1, .ref (ad 5)), (2, .ref (ad 8)), (3, .int p3), (4, .int p4)]) : W p l e ({ frames := 9, cells := 3000, slots := 18000, locals := 190 }) s m args below meth c H locs 0 0 (MQ below (Qi G (3 * n + 9) ad (ctS G ad σ n τ) (fun r => r = 1)) args s 3000 18000 (gF G)) (F0 m 0 ls []) := by
  have hx := hC.1
  have hb := hC.2.1
  have hI9 := hLI.1
  have hn24 := hLI.1.1
  have hok := hLI.1.2.2.2.1
  have hn12 := hLI.2.1
  have hnI : (nI n).toInt = (n : Int) := i_nI (by omega)
  have hk : ix p3 < n := ix_lt hp
  obtain ⟨r1, r2, r3, r4, r5, r6, r7, r8, r9⟩ := hLI.2.2.2.2.1 (ix p3) hk
  obtain ⟨s1, s2, s3⟩ := hLI.2.2.2.2.2.2.1 (ix p3) hk
  have hL := hok (ix p3) hk
  obtain ⟨f0, ⟨f1, f2, f3⟩, ⟨f4, f5⟩, ⟨f6, f7⟩, f8, ⟨f9, f10⟩, ⟨f11, f12⟩, ⟨f13, f14⟩, -⟩ := id hL
  have hff := ff_int hL
  have hb30 : (p4 * 30).toInt = p4.toInt * 30 := i_mulR rfl rfl (by omega)
  refine lv_iconst (v := 0) hx hb dL_isLease_0 (by decide) ?_
  refine lv_istore (lv' := [(5, .int 0), (0, .ref (ad 0)), (1, .ref (ad 5)), (2, .ref (ad 8)), (3, .int p3), (4, .int p4)]) hx hb dL_isLease_1 hl (by decide) rfl (fun ls hl => ?_)
  refine lv_bipush (v := 30) hx hb dL_isLease_3 (by decide) ?_
  refine lv_iload hx hb dL_isLease_5 (lv_at hl 5 rfl) ?_
  refine lv_imul hx hb dL_isLease_7 ?_
  refine lv_topi (fun v1 e1 => ?_)
  have q1 : v1.toInt = 30 * p4.toInt := by rw [e1]; exact i_mulR rfl rfl (by omega)
  refine lv_istore (lv' := [(6, .int v1), (5, .int 0), (0, .ref (ad 0)), (1, .ref (ad 5)), (2, .ref (ad 8)), (3, .int p3), (4, .int p4)]) hx hb dL_isLease_8 hl (by decide) rfl (fun ls hl => ?_)
  refine lv_iconst (v := 1) hx hb dL_isLease_10 (by decide) ?_
  refine lv_istore (lv' := [(7, .int 1), (6, .int v1), (5, .int 0), (0, .ref (ad 0)), (1, .ref (ad 5)), (2, .ref (ad 8)), (3, .int p3), (4, .int p4)]) hx hb dL_isLease_11 hl (by decide) rfl (fun ls hl => ?_)
  refine lv_iload hx hb dL_isLease_13 (lv_at hl 1 rfl) ?_
  refine lv_istore (lv' := [(8, .int v1), (7, .int 1), (6, .int v1), (5, .int 0), (0, .ref (ad 0)), (1, .ref (ad 5)), (2, .ref (ad 8)), (3, .int p3), (4, .int p4)]) hx hb dL_isLease_15 hl (by decide) rfl (fun ls hl => ?_)
  refine w_loopC (X := Int32 × Int32) (fun i x H locs ls => match x with | (x8, x5) => (x8.toInt = 30 * p4.toInt + i ∧ i ≤ 30 ∧ x5 = bdP σ (ix p3) p4 i) ∧ SyS G ad σ n τ s H locs ∧ lv_has ls 12 [(8, .int x8), (5, .int x5), (7, .int 1), (6, .int v1), (0, .ref (ad 0)), (1, .ref (ad 5)), (2, .ref (ad 8)), (3, .int p3), (4, .int p4)]) (30) 12 72 _ _ ?_ ?_ ((v1, 0)) ⟨⟨by show v1.toInt = 30 * p4.toInt + ((0 : Nat) : Int); omega, Nat.zero_le _, rfl⟩, hY, lv_sub hl [0, 3, 1, 2, 4, 5, 6, 7, 8] rfl⟩
  · intro i x H locs ls hI ih
    obtain ⟨x8, x5⟩ := x
    obtain ⟨hI, hY, hl⟩ := hI
    obtain ⟨h0, h9, hsum⟩ := hI
    refine lv_iload hx hb dL_isLease_17 (lv_at hl 0 rfl) ?_
    refine lv_iload hx hb dL_isLease_19 (lv_at hl 3 rfl) ?_
    refine lv_bipush (v := 30) hx hb dL_isLease_21 (by decide) ?_
    refine lv_iadd hx hb dL_isLease_23 ?_
    refine lv_topi (fun v2 e2 => ?_)
    have q2 : v2.toInt = v1.toInt + 30 := by rw [e2]; exact i_addR rfl rfl (by omega)
    refine b_icmp_ge (tgt := 218) hx hb dL_isLease_24 (by decide) (fun (hh3 : v2.toInt ≤ x8.toInt) => ?_) (fun (hh3 : x8.toInt < v2.toInt) => ?_)
    · have hi : i = 30 := by omega
      subst hi
      subst hsum
      refine lv_aload_n hx hb dL_isLease_218 rfl (lv_at hl 4 rfl) ?_
      refine lv_iload_n hx hb dL_isLease_219 rfl (lv_at hl 7 rfl) ?_
      refine lv_iload hx hb dL_isLease_220 (lv_at hl 3 rfl) ?_
      refine gn_calli hY (gx_runV (n := 2) (q := (RX1, TX1, 5)) (r := 0) hC (c_X1_nextChange l G ad σ n τ hst hn24 hok p3 v1) gL_isLease_X1_nextChange rfl ⟨rfl, rfl⟩ (by decide +kernel) ⟨Nat.le_of_ble_eq_true rfl, Nat.le_of_ble_eq_true rfl⟩ hY (by omega) rfl (ci := 1) rfl rfl hl.1 rfl (Nat.le_of_ble_eq_true rfl) dL_isLease_222 ⟨by show _ ≤ (3000 : Nat); omega, by show _ ≤ (18000 : Nat); omega⟩) (exC_0 (cdLX_0 ⟨by omega, by omega⟩ ⟨by omega, by omega⟩)) (fun r5 H locs hh4 hY => ?_)
      obtain ⟨-, rfl⟩ := hh4
      refine lv_topi (fun nx hnx => ?_)
      have hnx : nx = nxF σ (ix p3) v1 := hnx
      refine lv_istore (lv' := [(8, .int nx), (5, .int (bdP σ (ix p3) p4 30)), (7, .int 1), (6, .int v1), (0, .ref (ad 0)), (1, .ref (ad 5)), (2, .ref (ad 8)), (3, .int p3), (4, .int p4)]) hx hb dL_isLease_225 hl (by decide) rfl (fun ls hl => ?_)
      refine lv_iload hx hb dL_isLease_227 (lv_at hl 0 rfl) ?_
      refine lv_iconst (v := (-1)) hx hb dL_isLease_229 (by decide) ?_
      refine b_icmp_eq (tgt := 244) hx hb dL_isLease_230 (by decide) (fun (hh6 : nx.toInt = (-1)) => ?_) (fun (hh6 : ¬ nx.toInt = (-1)) => ?_)
      · refine lv_iload hx hb dL_isLease_244 (lv_at hl 3 rfl) ?_
        refine lv_sipush (v := 200) hx hb dL_isLease_246 (by decide) ?_
        refine lv_iadd hx hb dL_isLease_249 ?_
        refine lv_topi (fun v7 e7 => ?_)
        have q7 : v7.toInt = v1.toInt + 200 := by rw [e7]; exact i_addR rfl rfl (by omega)
        refine lv_goto (tgt := 255) hx hb dL_isLease_250 (by decide) ?_
        refine lv_istore (lv' := [(9, .int v7), (8, .int nx), (5, .int (bdP σ (ix p3) p4 30)), (7, .int 1), (6, .int v1), (0, .ref (ad 0)), (1, .ref (ad 5)), (2, .ref (ad 8)), (3, .int p3), (4, .int p4)]) hx hb dL_isLease_255 hl (by decide) rfl (fun ls hl => ?_)
        exact s_isLease2 (v6 := v1) (nx := nx) (w9 := v7) l hst hC hr hlocks hLI hp h4 q1 hnx (by omega) (by first | exact Or.inl (i_ext (by have z : (-1 : Int32).toInt = -1 := rfl; omega)) | exact Or.inr (by omega)) hY (lv_sub hl [5, 6, 7, 8, 9, 2, 4, 3, 1, 0] rfl) ⟨by omega, by omega⟩
      · refine lv_iload hx hb dL_isLease_233 (lv_at hl 0 rfl) ?_
        refine lv_iload hx hb dL_isLease_235 (lv_at hl 3 rfl) ?_
        refine lv_sipush (v := 200) hx hb dL_isLease_237 (by decide) ?_
        refine lv_iadd hx hb dL_isLease_240 ?_
        refine lv_topi (fun v8 e8 => ?_)
        have q8 : v8.toInt = v1.toInt + 200 := by rw [e8]; exact i_addR rfl rfl (by omega)
        refine b_icmp_le (tgt := 253) hx hb dL_isLease_241 (by decide) (fun (hh9 : nx.toInt ≤ v8.toInt) => ?_) (fun (hh9 : v8.toInt < nx.toInt) => ?_)
        · refine lv_iload hx hb dL_isLease_253 (lv_at hl 0 rfl) ?_
          refine lv_istore (lv' := [(9, .int nx), (8, .int nx), (5, .int (bdP σ (ix p3) p4 30)), (7, .int 1), (6, .int v1), (0, .ref (ad 0)), (1, .ref (ad 5)), (2, .ref (ad 8)), (3, .int p3), (4, .int p4)]) hx hb dL_isLease_255 hl (by decide) rfl (fun ls hl => ?_)
          exact s_isLease2 (v6 := v1) (nx := nx) (w9 := nx) l hst hC hr hlocks hLI hp h4 q1 hnx (by omega) (by first | exact Or.inl (i_ext (by have z : (-1 : Int32).toInt = -1 := rfl; omega)) | exact Or.inr (by omega)) hY (lv_sub hl [5, 6, 7, 8, 9, 2, 4, 3, 1, 0] rfl) ⟨by omega, by omega⟩
        · refine lv_iload hx hb dL_isLease_244 (lv_at hl 3 rfl) ?_
          refine lv_sipush (v := 200) hx hb dL_isLease_246 (by decide) ?_
          refine lv_iadd hx hb dL_isLease_249 ?_
          refine g_top (y := v8) e8.symm ?_
          refine lv_goto (tgt := 255) hx hb dL_isLease_250 (by decide) ?_
          refine lv_istore (lv' := [(9, .int v8), (8, .int nx), (5, .int (bdP σ (ix p3) p4 30)), (7, .int 1), (6, .int v1), (0, .ref (ad 0)), (1, .ref (ad 5)), (2, .ref (ad 8)), (3, .int p3), (4, .int p4)]) hx hb dL_isLease_255 hl (by decide) rfl (fun ls hl => ?_)
          exact s_isLease2 (v6 := v1) (nx := nx) (w9 := v8) l hst hC hr hlocks hLI hp h4 q1 hnx (by omega) (by first | exact Or.inl (i_ext (by have z : (-1 : Int32).toInt = -1 := rfl; omega)) | exact Or.inr (by omega)) hY (lv_sub hl [5, 6, 7, 8, 9, 2, 4, 3, 1, 0] rfl) ⟨by omega, by omega⟩
    · refine lv_iload hx hb dL_isLease_27 (lv_at hl 2 rfl) ?_
      refine b_if_eq (tgt := 218) hx hb dL_isLease_29 (by decide) (fun h => absurd h (by decide)) (fun _ => ?_)
      refine lv_aload_n hx hb dL_isLease_32 rfl (lv_at hl 4 rfl) ?_
      refine lv_iload_n hx hb dL_isLease_33 rfl (lv_at hl 7 rfl) ?_
      refine lv_iload hx hb dL_isLease_34 (lv_at hl 0 rfl) ?_
      refine gn_calli hY (gx_runV (n := 2) (q := (RX1, TX1, 5)) (r := 0) hC (c_X1_rentOn l G ad σ n τ hst hn24 hok p3 x8) gL_isLease_X1_rentOn rfl ⟨rfl, rfl⟩ (by decide +kernel) ⟨Nat.le_of_ble_eq_true rfl, Nat.le_of_ble_eq_true rfl⟩ hY (by omega) rfl (ci := 1) rfl rfl hl.1 rfl (Nat.le_of_ble_eq_true rfl) dL_isLease_36 ⟨by show _ ≤ (3000 : Nat); omega, by show _ ≤ (18000 : Nat); omega⟩) (exC_0 (cdLX_0 ⟨by omega, by omega⟩ ⟨by omega, by omega⟩)) (fun r12 H locs hh11 hY => ?_)
      obtain ⟨-, rfl⟩ := hh11
      refine lv_istore (lv' := [(9, .int (rfF σ (ix p3) x8)), (8, .int x8), (5, .int x5), (7, .int 1), (6, .int v1), (0, .ref (ad 0)), (1, .ref (ad 5)), (2, .ref (ad 8)), (3, .int p3), (4, .int p4)]) hx hb dL_isLease_39 hl (by decide) rfl (fun ls hl => ?_)
      refine lv_iload hx hb dL_isLease_41 (lv_at hl 1 rfl) ?_
      refine lv_aload_n hx hb dL_isLease_43 rfl (lv_at hl 6 rfl) ?_
      refine lv_bipush (v := 12) hx hb dL_isLease_44 (by decide) ?_
      refine lv_iload_n hx hb dL_isLease_46 rfl (lv_at hl 8 rfl) ?_
      refine lv_iadd hx hb dL_isLease_47 ?_
      refine rdN0 hC hY (12 + ix p3) (i_ixc (C := 12) rfl ⟨by omega, by omega⟩ (by decide)) (by omega) (v := σ 4 (ix p3)) (r2) dL_isLease_48 ?_
      refine b_icmp_lt (tgt := 67) hx hb dL_isLease_49 (by decide) (fun (hh13 : x8.toInt < (σ 4 (ix p3)).toInt) => ?_) (fun (hh13 : (σ 4 (ix p3)).toInt ≤ x8.toInt) => ?_)
      · refine lv_iconst (v := 0) hx hb dL_isLease_67 (by decide) ?_
        refine lv_istore (lv' := [(10, .int 0), (9, .int (rfF σ (ix p3) x8)), (8, .int x8), (5, .int x5), (7, .int 1), (6, .int v1), (0, .ref (ad 0)), (1, .ref (ad 5)), (2, .ref (ad 8)), (3, .int p3), (4, .int p4)]) hx hb dL_isLease_68 hl (by decide) rfl (fun ls hl => ?_)
        refine lv_iload hx hb dL_isLease_70 (lv_at hl 0 rfl) ?_
        refine b_if_eq (tgt := 94) hx hb dL_isLease_72 (by decide) (fun _ => ?_) (fun h => absurd h (by decide))
        refine lv_iconst (v := 0) hx hb dL_isLease_94 (by decide) ?_
        refine lv_istore (lv' := [(11, .int 0), (10, .int 0), (9, .int (rfF σ (ix p3) x8)), (8, .int x8), (5, .int x5), (7, .int 1), (6, .int v1), (0, .ref (ad 0)), (1, .ref (ad 5)), (2, .ref (ad 8)), (3, .int p3), (4, .int p4)]) hx hb dL_isLease_95 hl (by decide) rfl (fun ls hl => ?_)
        refine lv_iload hx hb dL_isLease_97 (lv_at hl 4 rfl) ?_
        refine lv_iload hx hb dL_isLease_99 (lv_at hl 2 rfl) ?_
        refine lv_iadd hx hb dL_isLease_101 ?_
        refine lv_istore (lv' := [(5, .int (x5 + (rfF σ (ix p3) x8))), (11, .int 0), (10, .int 0), (9, .int (rfF σ (ix p3) x8)), (8, .int x8), (7, .int 1), (6, .int v1), (0, .ref (ad 0)), (1, .ref (ad 5)), (2, .ref (ad 8)), (3, .int p3), (4, .int p4)]) hx hb dL_isLease_102 hl (by decide) rfl (fun ls hl => ?_)
        refine lv_iload hx hb dL_isLease_104 (lv_at hl 1 rfl) ?_
        refine b_if_eq (tgt := 118) hx hb dL_isLease_106 (by decide) (fun _ => ?_) (fun h => absurd h (by decide))
        refine lv_iload hx hb dL_isLease_118 (lv_at hl 3 rfl) ?_
        refine b_if_ne (tgt := 209) hx hb dL_isLease_120 (by decide) (fun (hh16 : ¬ (rfF σ (ix p3) x8).toInt = 0) => absurd hh16 (by exact fun q => q (by rw [rf_no (fun z => by have z1 := z.1; have z2 := z.2; unfold rOn at z1; unfold fOn at z2; omega)]; rfl))) (fun (hh16 : (rfF σ (ix p3) x8).toInt = 0) => ?_)
        refine lv_aload_n hx hb dL_isLease_123 rfl (lv_at hl 9 rfl) ?_
        refine lv_bipush (v := 12) hx hb dL_isLease_124 (by decide) ?_
        refine lv_iload_n hx hb dL_isLease_126 rfl (lv_at hl 10 rfl) ?_
        refine lv_iadd hx hb dL_isLease_127 ?_
        refine rdN3 hC hY (12 + ix p3) (i_ixc (C := 12) rfl ⟨by omega, by omega⟩ (by decide)) (by omega) (v := σ 12 (ix p3)) (r8) dL_isLease_128 ?_
        refine b_if_gt (tgt := 148) hx hb dL_isLease_129 (by decide) (fun (hh17 : 0 < (σ 12 (ix p3)).toInt) => ?_) (fun (hh17 : (σ 12 (ix p3)).toInt ≤ 0) => ?_)
        · refine lv_aload_n hx hb dL_isLease_148 rfl (lv_at hl 9 rfl) ?_
          refine lv_bipush (v := 24) hx hb dL_isLease_149 (by decide) ?_
          refine lv_iload_n hx hb dL_isLease_151 rfl (lv_at hl 10 rfl) ?_
          refine lv_iadd hx hb dL_isLease_152 ?_
          refine rdN3 hC hY (24 + ix p3) (i_ixc (C := 24) rfl ⟨by omega, by omega⟩ (by decide)) (by omega) (v := σ 8 (ix p3)) (r9) dL_isLease_153 ?_
          refine b_if_gt (tgt := 182) hx hb dL_isLease_154 (by decide) (fun (hh18 : 0 < (σ 8 (ix p3)).toInt) => ?_) (fun (hh18 : (σ 8 (ix p3)).toInt ≤ 0) => ?_)
          · refine lv_aload_n hx hb dL_isLease_182 rfl (lv_at hl 7 rfl) ?_
            refine lv_aload_n hx hb dL_isLease_183 rfl (lv_at hl 8 rfl) ?_
            refine lv_iload_n hx hb dL_isLease_184 rfl (lv_at hl 10 rfl) ?_
            refine rdN0 hC hY (ix p3) (ix_of (by omega)) (by omega) (v := σ 3 (ix p3)) (r1) dL_isLease_185 ?_
            refine lv_iload hx hb dL_isLease_186 (lv_at hl 4 rfl) ?_
            refine gn_calli hY (gx_runV (n := 2) (q := (RX1, TX1, 5)) (r := 0) hC (c_X1_leaseOn l G ad σ n τ hst (σ 3 (ix p3)) x8) gL_isLease_X1_leaseOn rfl ⟨rfl, rfl⟩ (by decide +kernel) ⟨Nat.le_of_ble_eq_true rfl, Nat.le_of_ble_eq_true rfl⟩ hY (by omega) rfl (ci := 1) rfl rfl hl.1 rfl (Nat.le_of_ble_eq_true rfl) dL_isLease_188 ⟨by show _ ≤ (3000 : Nat); omega, by show _ ≤ (18000 : Nat); omega⟩) (exC_0 (cdLOn_0 ⟨by omega, by omega⟩ ⟨by omega, by omega⟩)) (fun r20 H locs hh19 hY => ?_)
            obtain ⟨-, rfl⟩ := hh19
            refine lv_iload_n hx hb dL_isLease_191 rfl (lv_at hl 10 rfl) ?_
            refine b_icmp_ne (tgt := 199) hx hb dL_isLease_192 (by decide) (fun (hh21 : ¬ (lnG σ n (σ 3 (ix p3)) x8 24 0).toInt = p3.toInt) => ?_) (fun (hh21 : (lnG σ n (σ 3 (ix p3)) x8 24 0).toInt = p3.toInt) => absurd hh21 (by exact fun q => (show ¬ rOn σ (ix p3) x8 from fun z => by unfold rOn at z; omega) ((ln_iff hI9 hk).mp (q.trans (ix_toInt hp.1).symm))))
            refine lv_iconst (v := 0) hx hb dL_isLease_199 (by decide) ?_
            refine lv_iload hx hb dL_isLease_200 (lv_at hl 2 rfl) ?_
            refine b_icmp_ne (tgt := 209) hx hb dL_isLease_202 (by decide) (fun h => absurd h (by decide)) (fun _ => ?_)
            refine lv_iconst (v := 1) hx hb dL_isLease_205 (by decide) ?_
            refine lv_goto (tgt := 210) hx hb dL_isLease_206 (by decide) ?_
            refine lv_istore (lv' := [(7, .int 1), (5, .int (x5 + (rfF σ (ix p3) x8))), (11, .int 0), (10, .int 0), (9, .int (rfF σ (ix p3) x8)), (8, .int x8), (6, .int v1), (0, .ref (ad 0)), (1, .ref (ad 5)), (2, .ref (ad 8)), (3, .int p3), (4, .int p4)]) hx hb dL_isLease_210 hl (by decide) rfl (fun ls hl => ?_)
            refine lv_iinc (v := x8 + 1) (lv' := [(8, .int (x8 + 1)), (7, .int 1), (5, .int (x5 + (rfF σ (ix p3) x8))), (11, .int 0), (10, .int 0), (9, .int (rfF σ (ix p3) x8)), (6, .int v1), (0, .ref (ad 0)), (1, .ref (ad 5)), (2, .ref (ad 8)), (3, .int p3), (4, .int p4)]) hx hb dL_isLease_212 hl (k := 5) rfl rfl (by decide) rfl (fun ls hl => ?_)
            refine lv_goto (tgt := 17) hx hb dL_isLease_215 (by decide) ?_
            have hx8 : x8 = p4 * 30 + nI i := i_addnI (by omega) (by omega) (by omega) (by omega)
            exact W.widen (by omega) (by omega) (ih (x8 + 1, x5 + (rfF σ (ix p3) x8)) _ _ _ ⟨⟨by rw [i_add1 (by omega)]; omega, by omega, by rw [hsum, bdP, ← hx8]⟩, hY, lv_sub hl [0, 2, 1, 6, 7, 8, 9, 10, 11] rfl⟩)
          · refine lv_aload_n hx hb dL_isLease_157 rfl (lv_at hl 9 rfl) ?_
            refine lv_bipush (v := 12) hx hb dL_isLease_158 (by decide) ?_
            refine lv_iload_n hx hb dL_isLease_160 rfl (lv_at hl 10 rfl) ?_
            refine lv_iadd hx hb dL_isLease_161 ?_
            refine rdN3 hC hY (12 + ix p3) (i_ixc (C := 12) rfl ⟨by omega, by omega⟩ (by decide)) (by omega) (v := σ 12 (ix p3)) (r8) dL_isLease_162 ?_
            refine b_if_gt (tgt := 182) hx hb dL_isLease_163 (by decide) (fun (hh23 : 0 < (σ 12 (ix p3)).toInt) => ?_) (fun (hh23 : (σ 12 (ix p3)).toInt ≤ 0) => absurd hh23 (by omega))
            refine lv_aload_n hx hb dL_isLease_182 rfl (lv_at hl 7 rfl) ?_
            refine lv_aload_n hx hb dL_isLease_183 rfl (lv_at hl 8 rfl) ?_
            refine lv_iload_n hx hb dL_isLease_184 rfl (lv_at hl 10 rfl) ?_
            refine rdN0 hC hY (ix p3) (ix_of (by omega)) (by omega) (v := σ 3 (ix p3)) (r1) dL_isLease_185 ?_
            refine lv_iload hx hb dL_isLease_186 (lv_at hl 4 rfl) ?_
            refine gn_calli hY (gx_runV (n := 2) (q := (RX1, TX1, 5)) (r := 0) hC (c_X1_leaseOn l G ad σ n τ hst (σ 3 (ix p3)) x8) gL_isLease_X1_leaseOn rfl ⟨rfl, rfl⟩ (by decide +kernel) ⟨Nat.le_of_ble_eq_true rfl, Nat.le_of_ble_eq_true rfl⟩ hY (by omega) rfl (ci := 1) rfl rfl hl.1 rfl (Nat.le_of_ble_eq_true rfl) dL_isLease_188 ⟨by show _ ≤ (3000 : Nat); omega, by show _ ≤ (18000 : Nat); omega⟩) (exC_0 (cdLOn_0 ⟨by omega, by omega⟩ ⟨by omega, by omega⟩)) (fun r25 H locs hh24 hY => ?_)
            obtain ⟨-, rfl⟩ := hh24
            refine lv_iload_n hx hb dL_isLease_191 rfl (lv_at hl 10 rfl) ?_
            refine b_icmp_ne (tgt := 199) hx hb dL_isLease_192 (by decide) (fun (hh26 : ¬ (lnG σ n (σ 3 (ix p3)) x8 24 0).toInt = p3.toInt) => ?_) (fun (hh26 : (lnG σ n (σ 3 (ix p3)) x8 24 0).toInt = p3.toInt) => absurd hh26 (by exact fun q => (show ¬ rOn σ (ix p3) x8 from fun z => by unfold rOn at z; omega) ((ln_iff hI9 hk).mp (q.trans (ix_toInt hp.1).symm))))
            refine lv_iconst (v := 0) hx hb dL_isLease_199 (by decide) ?_
            refine lv_iload hx hb dL_isLease_200 (lv_at hl 2 rfl) ?_
            refine b_icmp_ne (tgt := 209) hx hb dL_isLease_202 (by decide) (fun h => absurd h (by decide)) (fun _ => ?_)
            refine lv_iconst (v := 1) hx hb dL_isLease_205 (by decide) ?_
            refine lv_goto (tgt := 210) hx hb dL_isLease_206 (by decide) ?_
            refine lv_istore (lv' := [(7, .int 1), (5, .int (x5 + (rfF σ (ix p3) x8))), (11, .int 0), (10, .int 0), (9, .int (rfF σ (ix p3) x8)), (8, .int x8), (6, .int v1), (0, .ref (ad 0)), (1, .ref (ad 5)), (2, .ref (ad 8)), (3, .int p3), (4, .int p4)]) hx hb dL_isLease_210 hl (by decide) rfl (fun ls hl => ?_)
            refine lv_iinc (v := x8 + 1) (lv' := [(8, .int (x8 + 1)), (7, .int 1), (5, .int (x5 + (rfF σ (ix p3) x8))), (11, .int 0), (10, .int 0), (9, .int (rfF σ (ix p3) x8)), (6, .int v1), (0, .ref (ad 0)), (1, .ref (ad 5)), (2, .ref (ad 8)), (3, .int p3), (4, .int p4)]) hx hb dL_isLease_212 hl (k := 5) rfl rfl (by decide) rfl (fun ls hl => ?_)
            refine lv_goto (tgt := 17) hx hb dL_isLease_215 (by decide) ?_
            have hx8 : x8 = p4 * 30 + nI i := i_addnI (by omega) (by omega) (by omega) (by omega)
            exact W.widen (by omega) (by omega) (ih (x8 + 1, x5 + (rfF σ (ix p3) x8)) _ _ _ ⟨⟨by rw [i_add1 (by omega)]; omega, by omega, by rw [hsum, bdP, ← hx8]⟩, hY, lv_sub hl [0, 2, 1, 6, 7, 8, 9, 10, 11] rfl⟩)
        · refine lv_iload hx hb dL_isLease_132 (lv_at hl 1 rfl) ?_
          refine b_if_eq (tgt := 148) hx hb dL_isLease_134 (by decide) (fun _ => ?_) (fun h => absurd h (by decide))
          refine lv_aload_n hx hb dL_isLease_148 rfl (lv_at hl 9 rfl) ?_
          refine lv_bipush (v := 24) hx hb dL_isLease_149 (by decide) ?_
          refine lv_iload_n hx hb dL_isLease_151 rfl (lv_at hl 10 rfl) ?_
          refine lv_iadd hx hb dL_isLease_152 ?_
          refine rdN3 hC hY (24 + ix p3) (i_ixc (C := 24) rfl ⟨by omega, by omega⟩ (by decide)) (by omega) (v := σ 8 (ix p3)) (r9) dL_isLease_153 ?_
          refine b_if_gt (tgt := 182) hx hb dL_isLease_154 (by decide) (fun (hh29 : 0 < (σ 8 (ix p3)).toInt) => ?_) (fun (hh29 : (σ 8 (ix p3)).toInt ≤ 0) => ?_)
          · refine lv_aload_n hx hb dL_isLease_182 rfl (lv_at hl 7 rfl) ?_
            refine lv_aload_n hx hb dL_isLease_183 rfl (lv_at hl 8 rfl) ?_
            refine lv_iload_n hx hb dL_isLease_184 rfl (lv_at hl 10 rfl) ?_
            refine rdN0 hC hY (ix p3) (ix_of (by omega)) (by omega) (v := σ 3 (ix p3)) (r1) dL_isLease_185 ?_
            refine lv_iload hx hb dL_isLease_186 (lv_at hl 4 rfl) ?_
            refine gn_calli hY (gx_runV (n := 2) (q := (RX1, TX1, 5)) (r := 0) hC (c_X1_leaseOn l G ad σ n τ hst (σ 3 (ix p3)) x8) gL_isLease_X1_leaseOn rfl ⟨rfl, rfl⟩ (by decide +kernel) ⟨Nat.le_of_ble_eq_true rfl, Nat.le_of_ble_eq_true rfl⟩ hY (by omega) rfl (ci := 1) rfl rfl hl.1 rfl (Nat.le_of_ble_eq_true rfl) dL_isLease_188 ⟨by show _ ≤ (3000 : Nat); omega, by show _ ≤ (18000 : Nat); omega⟩) (exC_0 (cdLOn_0 ⟨by omega, by omega⟩ ⟨by omega, by omega⟩)) (fun r31 H locs hh30 hY => ?_)
            obtain ⟨-, rfl⟩ := hh30
            refine lv_iload_n hx hb dL_isLease_191 rfl (lv_at hl 10 rfl) ?_
            refine b_icmp_ne (tgt := 199) hx hb dL_isLease_192 (by decide) (fun (hh32 : ¬ (lnG σ n (σ 3 (ix p3)) x8 24 0).toInt = p3.toInt) => ?_) (fun (hh32 : (lnG σ n (σ 3 (ix p3)) x8 24 0).toInt = p3.toInt) => absurd hh32 (by exact fun q => (show ¬ rOn σ (ix p3) x8 from fun z => by unfold rOn at z; omega) ((ln_iff hI9 hk).mp (q.trans (ix_toInt hp.1).symm))))
            refine lv_iconst (v := 0) hx hb dL_isLease_199 (by decide) ?_
            refine lv_iload hx hb dL_isLease_200 (lv_at hl 2 rfl) ?_
            refine b_icmp_ne (tgt := 209) hx hb dL_isLease_202 (by decide) (fun h => absurd h (by decide)) (fun _ => ?_)
            refine lv_iconst (v := 1) hx hb dL_isLease_205 (by decide) ?_
            refine lv_goto (tgt := 210) hx hb dL_isLease_206 (by decide) ?_
            refine lv_istore (lv' := [(7, .int 1), (5, .int (x5 + (rfF σ (ix p3) x8))), (11, .int 0), (10, .int 0), (9, .int (rfF σ (ix p3) x8)), (8, .int x8), (6, .int v1), (0, .ref (ad 0)), (1, .ref (ad 5)), (2, .ref (ad 8)), (3, .int p3), (4, .int p4)]) hx hb dL_isLease_210 hl (by decide) rfl (fun ls hl => ?_)
            refine lv_iinc (v := x8 + 1) (lv' := [(8, .int (x8 + 1)), (7, .int 1), (5, .int (x5 + (rfF σ (ix p3) x8))), (11, .int 0), (10, .int 0), (9, .int (rfF σ (ix p3) x8)), (6, .int v1), (0, .ref (ad 0)), (1, .ref (ad 5)), (2, .ref (ad 8)), (3, .int p3), (4, .int p4)]) hx hb dL_isLease_212 hl (k := 5) rfl rfl (by decide) rfl (fun ls hl => ?_)
            refine lv_goto (tgt := 17) hx hb dL_isLease_215 (by decide) ?_
            have hx8 : x8 = p4 * 30 + nI i := i_addnI (by omega) (by omega) (by omega) (by omega)
            exact W.widen (by omega) (by omega) (ih (x8 + 1, x5 + (rfF σ (ix p3) x8)) _ _ _ ⟨⟨by rw [i_add1 (by omega)]; omega, by omega, by rw [hsum, bdP, ← hx8]⟩, hY, lv_sub hl [0, 2, 1, 6, 7, 8, 9, 10, 11] rfl⟩)
          · refine lv_aload_n hx hb dL_isLease_157 rfl (lv_at hl 9 rfl) ?_
            refine lv_bipush (v := 12) hx hb dL_isLease_158 (by decide) ?_
            refine lv_iload_n hx hb dL_isLease_160 rfl (lv_at hl 10 rfl) ?_
            refine lv_iadd hx hb dL_isLease_161 ?_
            refine rdN3 hC hY (12 + ix p3) (i_ixc (C := 12) rfl ⟨by omega, by omega⟩ (by decide)) (by omega) (v := σ 12 (ix p3)) (r8) dL_isLease_162 ?_
            refine b_if_gt (tgt := 182) hx hb dL_isLease_163 (by decide) (fun (hh34 : 0 < (σ 12 (ix p3)).toInt) => absurd hh34 (by omega)) (fun (hh34 : (σ 12 (ix p3)).toInt ≤ 0) => ?_)
            refine lv_iload hx hb dL_isLease_166 (lv_at hl 1 rfl) ?_
            refine b_if_eq (tgt := 182) hx hb dL_isLease_168 (by decide) (fun _ => ?_) (fun h => absurd h (by decide))
            refine lv_aload_n hx hb dL_isLease_182 rfl (lv_at hl 7 rfl) ?_
            refine lv_aload_n hx hb dL_isLease_183 rfl (lv_at hl 8 rfl) ?_
            refine lv_iload_n hx hb dL_isLease_184 rfl (lv_at hl 10 rfl) ?_
            refine rdN0 hC hY (ix p3) (ix_of (by omega)) (by omega) (v := σ 3 (ix p3)) (r1) dL_isLease_185 ?_
            refine lv_iload hx hb dL_isLease_186 (lv_at hl 4 rfl) ?_
            refine gn_calli hY (gx_runV (n := 2) (q := (RX1, TX1, 5)) (r := 0) hC (c_X1_leaseOn l G ad σ n τ hst (σ 3 (ix p3)) x8) gL_isLease_X1_leaseOn rfl ⟨rfl, rfl⟩ (by decide +kernel) ⟨Nat.le_of_ble_eq_true rfl, Nat.le_of_ble_eq_true rfl⟩ hY (by omega) rfl (ci := 1) rfl rfl hl.1 rfl (Nat.le_of_ble_eq_true rfl) dL_isLease_188 ⟨by show _ ≤ (3000 : Nat); omega, by show _ ≤ (18000 : Nat); omega⟩) (exC_0 (cdLOn_0 ⟨by omega, by omega⟩ ⟨by omega, by omega⟩)) (fun r37 H locs hh36 hY => ?_)
            obtain ⟨-, rfl⟩ := hh36
            refine lv_iload_n hx hb dL_isLease_191 rfl (lv_at hl 10 rfl) ?_
            refine b_icmp_ne (tgt := 199) hx hb dL_isLease_192 (by decide) (fun (hh38 : ¬ (lnG σ n (σ 3 (ix p3)) x8 24 0).toInt = p3.toInt) => ?_) (fun (hh38 : (lnG σ n (σ 3 (ix p3)) x8 24 0).toInt = p3.toInt) => absurd hh38 (by exact fun q => (show ¬ rOn σ (ix p3) x8 from fun z => by unfold rOn at z; omega) ((ln_iff hI9 hk).mp (q.trans (ix_toInt hp.1).symm))))
            refine lv_iconst (v := 0) hx hb dL_isLease_199 (by decide) ?_
            refine lv_iload hx hb dL_isLease_200 (lv_at hl 2 rfl) ?_
            refine b_icmp_ne (tgt := 209) hx hb dL_isLease_202 (by decide) (fun h => absurd h (by decide)) (fun _ => ?_)
            refine lv_iconst (v := 1) hx hb dL_isLease_205 (by decide) ?_
            refine lv_goto (tgt := 210) hx hb dL_isLease_206 (by decide) ?_
            refine lv_istore (lv' := [(7, .int 1), (5, .int (x5 + (rfF σ (ix p3) x8))), (11, .int 0), (10, .int 0), (9, .int (rfF σ (ix p3) x8)), (8, .int x8), (6, .int v1), (0, .ref (ad 0)), (1, .ref (ad 5)), (2, .ref (ad 8)), (3, .int p3), (4, .int p4)]) hx hb dL_isLease_210 hl (by decide) rfl (fun ls hl => ?_)
            refine lv_iinc (v := x8 + 1) (lv' := [(8, .int (x8 + 1)), (7, .int 1), (5, .int (x5 + (rfF σ (ix p3) x8))), (11, .int 0), (10, .int 0), (9, .int (rfF σ (ix p3) x8)), (6, .int v1), (0, .ref (ad 0)), (1, .ref (ad 5)), (2, .ref (ad 8)), (3, .int p3), (4, .int p4)]) hx hb dL_isLease_212 hl (k := 5) rfl rfl (by decide) rfl (fun ls hl => ?_)
            refine lv_goto (tgt := 17) hx hb dL_isLease_215 (by decide) ?_
            have hx8 : x8 = p4 * 30 + nI i := i_addnI (by omega) (by omega) (by omega) (by omega)
            exact W.widen (by omega) (by omega) (ih (x8 + 1, x5 + (rfF σ (ix p3) x8)) _ _ _ ⟨⟨by rw [i_add1 (by omega)]; omega, by omega, by rw [hsum, bdP, ← hx8]⟩, hY, lv_sub hl [0, 2, 1, 6, 7, 8, 9, 10, 11] rfl⟩)
      · refine lv_iload hx hb dL_isLease_52 (lv_at hl 1 rfl) ?_
        refine lv_aload_n hx hb dL_isLease_54 rfl (lv_at hl 6 rfl) ?_
        refine lv_bipush (v := 24) hx hb dL_isLease_55 (by decide) ?_
        refine lv_iload_n hx hb dL_isLease_57 rfl (lv_at hl 8 rfl) ?_
        refine lv_iadd hx hb dL_isLease_58 ?_
        refine rdN0 hC hY (24 + ix p3) (i_ixc (C := 24) rfl ⟨by omega, by omega⟩ (by decide)) (by omega) (v := σ 5 (ix p3)) (r3) dL_isLease_59 ?_
        refine b_icmp_ge (tgt := 67) hx hb dL_isLease_60 (by decide) (fun (hh40 : (σ 5 (ix p3)).toInt ≤ x8.toInt) => ?_) (fun (hh40 : x8.toInt < (σ 5 (ix p3)).toInt) => ?_)
        · refine lv_iconst (v := 0) hx hb dL_isLease_67 (by decide) ?_
          refine lv_istore (lv' := [(10, .int 0), (9, .int (rfF σ (ix p3) x8)), (8, .int x8), (5, .int x5), (7, .int 1), (6, .int v1), (0, .ref (ad 0)), (1, .ref (ad 5)), (2, .ref (ad 8)), (3, .int p3), (4, .int p4)]) hx hb dL_isLease_68 hl (by decide) rfl (fun ls hl => ?_)
          refine lv_iload hx hb dL_isLease_70 (lv_at hl 0 rfl) ?_
          refine b_if_eq (tgt := 94) hx hb dL_isLease_72 (by decide) (fun _ => ?_) (fun h => absurd h (by decide))
          refine lv_iconst (v := 0) hx hb dL_isLease_94 (by decide) ?_
          refine lv_istore (lv' := [(11, .int 0), (10, .int 0), (9, .int (rfF σ (ix p3) x8)), (8, .int x8), (5, .int x5), (7, .int 1), (6, .int v1), (0, .ref (ad 0)), (1, .ref (ad 5)), (2, .ref (ad 8)), (3, .int p3), (4, .int p4)]) hx hb dL_isLease_95 hl (by decide) rfl (fun ls hl => ?_)
          refine lv_iload hx hb dL_isLease_97 (lv_at hl 4 rfl) ?_
          refine lv_iload hx hb dL_isLease_99 (lv_at hl 2 rfl) ?_
          refine lv_iadd hx hb dL_isLease_101 ?_
          refine lv_istore (lv' := [(5, .int (x5 + (rfF σ (ix p3) x8))), (11, .int 0), (10, .int 0), (9, .int (rfF σ (ix p3) x8)), (8, .int x8), (7, .int 1), (6, .int v1), (0, .ref (ad 0)), (1, .ref (ad 5)), (2, .ref (ad 8)), (3, .int p3), (4, .int p4)]) hx hb dL_isLease_102 hl (by decide) rfl (fun ls hl => ?_)
          refine lv_iload hx hb dL_isLease_104 (lv_at hl 1 rfl) ?_
          refine b_if_eq (tgt := 118) hx hb dL_isLease_106 (by decide) (fun _ => ?_) (fun h => absurd h (by decide))
          refine lv_iload hx hb dL_isLease_118 (lv_at hl 3 rfl) ?_
          refine b_if_ne (tgt := 209) hx hb dL_isLease_120 (by decide) (fun (hh43 : ¬ (rfF σ (ix p3) x8).toInt = 0) => absurd hh43 (by exact fun q => q (by rw [rf_no (fun z => by have z1 := z.1; have z2 := z.2; unfold rOn at z1; unfold fOn at z2; omega)]; rfl))) (fun (hh43 : (rfF σ (ix p3) x8).toInt = 0) => ?_)
          refine lv_aload_n hx hb dL_isLease_123 rfl (lv_at hl 9 rfl) ?_
          refine lv_bipush (v := 12) hx hb dL_isLease_124 (by decide) ?_
          refine lv_iload_n hx hb dL_isLease_126 rfl (lv_at hl 10 rfl) ?_
          refine lv_iadd hx hb dL_isLease_127 ?_
          refine rdN3 hC hY (12 + ix p3) (i_ixc (C := 12) rfl ⟨by omega, by omega⟩ (by decide)) (by omega) (v := σ 12 (ix p3)) (r8) dL_isLease_128 ?_
          refine b_if_gt (tgt := 148) hx hb dL_isLease_129 (by decide) (fun (hh44 : 0 < (σ 12 (ix p3)).toInt) => ?_) (fun (hh44 : (σ 12 (ix p3)).toInt ≤ 0) => ?_)
          · refine lv_aload_n hx hb dL_isLease_148 rfl (lv_at hl 9 rfl) ?_
            refine lv_bipush (v := 24) hx hb dL_isLease_149 (by decide) ?_
            refine lv_iload_n hx hb dL_isLease_151 rfl (lv_at hl 10 rfl) ?_
            refine lv_iadd hx hb dL_isLease_152 ?_
            refine rdN3 hC hY (24 + ix p3) (i_ixc (C := 24) rfl ⟨by omega, by omega⟩ (by decide)) (by omega) (v := σ 8 (ix p3)) (r9) dL_isLease_153 ?_
            refine b_if_gt (tgt := 182) hx hb dL_isLease_154 (by decide) (fun (hh45 : 0 < (σ 8 (ix p3)).toInt) => ?_) (fun (hh45 : (σ 8 (ix p3)).toInt ≤ 0) => ?_)
            · refine lv_aload_n hx hb dL_isLease_182 rfl (lv_at hl 7 rfl) ?_
              refine lv_aload_n hx hb dL_isLease_183 rfl (lv_at hl 8 rfl) ?_
              refine lv_iload_n hx hb dL_isLease_184 rfl (lv_at hl 10 rfl) ?_
              refine rdN0 hC hY (ix p3) (ix_of (by omega)) (by omega) (v := σ 3 (ix p3)) (r1) dL_isLease_185 ?_
              refine lv_iload hx hb dL_isLease_186 (lv_at hl 4 rfl) ?_
              refine gn_calli hY (gx_runV (n := 2) (q := (RX1, TX1, 5)) (r := 0) hC (c_X1_leaseOn l G ad σ n τ hst (σ 3 (ix p3)) x8) gL_isLease_X1_leaseOn rfl ⟨rfl, rfl⟩ (by decide +kernel) ⟨Nat.le_of_ble_eq_true rfl, Nat.le_of_ble_eq_true rfl⟩ hY (by omega) rfl (ci := 1) rfl rfl hl.1 rfl (Nat.le_of_ble_eq_true rfl) dL_isLease_188 ⟨by show _ ≤ (3000 : Nat); omega, by show _ ≤ (18000 : Nat); omega⟩) (exC_0 (cdLOn_0 ⟨by omega, by omega⟩ ⟨by omega, by omega⟩)) (fun r47 H locs hh46 hY => ?_)
              obtain ⟨-, rfl⟩ := hh46
              refine lv_iload_n hx hb dL_isLease_191 rfl (lv_at hl 10 rfl) ?_
              refine b_icmp_ne (tgt := 199) hx hb dL_isLease_192 (by decide) (fun (hh48 : ¬ (lnG σ n (σ 3 (ix p3)) x8 24 0).toInt = p3.toInt) => ?_) (fun (hh48 : (lnG σ n (σ 3 (ix p3)) x8 24 0).toInt = p3.toInt) => absurd hh48 (by exact fun q => (show ¬ rOn σ (ix p3) x8 from fun z => by unfold rOn at z; omega) ((ln_iff hI9 hk).mp (q.trans (ix_toInt hp.1).symm))))
              refine lv_iconst (v := 0) hx hb dL_isLease_199 (by decide) ?_
              refine lv_iload hx hb dL_isLease_200 (lv_at hl 2 rfl) ?_
              refine b_icmp_ne (tgt := 209) hx hb dL_isLease_202 (by decide) (fun h => absurd h (by decide)) (fun _ => ?_)
              refine lv_iconst (v := 1) hx hb dL_isLease_205 (by decide) ?_
              refine lv_goto (tgt := 210) hx hb dL_isLease_206 (by decide) ?_
              refine lv_istore (lv' := [(7, .int 1), (5, .int (x5 + (rfF σ (ix p3) x8))), (11, .int 0), (10, .int 0), (9, .int (rfF σ (ix p3) x8)), (8, .int x8), (6, .int v1), (0, .ref (ad 0)), (1, .ref (ad 5)), (2, .ref (ad 8)), (3, .int p3), (4, .int p4)]) hx hb dL_isLease_210 hl (by decide) rfl (fun ls hl => ?_)
              refine lv_iinc (v := x8 + 1) (lv' := [(8, .int (x8 + 1)), (7, .int 1), (5, .int (x5 + (rfF σ (ix p3) x8))), (11, .int 0), (10, .int 0), (9, .int (rfF σ (ix p3) x8)), (6, .int v1), (0, .ref (ad 0)), (1, .ref (ad 5)), (2, .ref (ad 8)), (3, .int p3), (4, .int p4)]) hx hb dL_isLease_212 hl (k := 5) rfl rfl (by decide) rfl (fun ls hl => ?_)
              refine lv_goto (tgt := 17) hx hb dL_isLease_215 (by decide) ?_
              have hx8 : x8 = p4 * 30 + nI i := i_addnI (by omega) (by omega) (by omega) (by omega)
              exact W.widen (by omega) (by omega) (ih (x8 + 1, x5 + (rfF σ (ix p3) x8)) _ _ _ ⟨⟨by rw [i_add1 (by omega)]; omega, by omega, by rw [hsum, bdP, ← hx8]⟩, hY, lv_sub hl [0, 2, 1, 6, 7, 8, 9, 10, 11] rfl⟩)
            · refine lv_aload_n hx hb dL_isLease_157 rfl (lv_at hl 9 rfl) ?_
              refine lv_bipush (v := 12) hx hb dL_isLease_158 (by decide) ?_
              refine lv_iload_n hx hb dL_isLease_160 rfl (lv_at hl 10 rfl) ?_
              refine lv_iadd hx hb dL_isLease_161 ?_
              refine rdN3 hC hY (12 + ix p3) (i_ixc (C := 12) rfl ⟨by omega, by omega⟩ (by decide)) (by omega) (v := σ 12 (ix p3)) (r8) dL_isLease_162 ?_
              refine b_if_gt (tgt := 182) hx hb dL_isLease_163 (by decide) (fun (hh50 : 0 < (σ 12 (ix p3)).toInt) => ?_) (fun (hh50 : (σ 12 (ix p3)).toInt ≤ 0) => absurd hh50 (by omega))
              refine lv_aload_n hx hb dL_isLease_182 rfl (lv_at hl 7 rfl) ?_
              refine lv_aload_n hx hb dL_isLease_183 rfl (lv_at hl 8 rfl) ?_
              refine lv_iload_n hx hb dL_isLease_184 rfl (lv_at hl 10 rfl) ?_
              refine rdN0 hC hY (ix p3) (ix_of (by omega)) (by omega) (v := σ 3 (ix p3)) (r1) dL_isLease_185 ?_
              refine lv_iload hx hb dL_isLease_186 (lv_at hl 4 rfl) ?_
              refine gn_calli hY (gx_runV (n := 2) (q := (RX1, TX1, 5)) (r := 0) hC (c_X1_leaseOn l G ad σ n τ hst (σ 3 (ix p3)) x8) gL_isLease_X1_leaseOn rfl ⟨rfl, rfl⟩ (by decide +kernel) ⟨Nat.le_of_ble_eq_true rfl, Nat.le_of_ble_eq_true rfl⟩ hY (by omega) rfl (ci := 1) rfl rfl hl.1 rfl (Nat.le_of_ble_eq_true rfl) dL_isLease_188 ⟨by show _ ≤ (3000 : Nat); omega, by show _ ≤ (18000 : Nat); omega⟩) (exC_0 (cdLOn_0 ⟨by omega, by omega⟩ ⟨by omega, by omega⟩)) (fun r52 H locs hh51 hY => ?_)
              obtain ⟨-, rfl⟩ := hh51
              refine lv_iload_n hx hb dL_isLease_191 rfl (lv_at hl 10 rfl) ?_
              refine b_icmp_ne (tgt := 199) hx hb dL_isLease_192 (by decide) (fun (hh53 : ¬ (lnG σ n (σ 3 (ix p3)) x8 24 0).toInt = p3.toInt) => ?_) (fun (hh53 : (lnG σ n (σ 3 (ix p3)) x8 24 0).toInt = p3.toInt) => absurd hh53 (by exact fun q => (show ¬ rOn σ (ix p3) x8 from fun z => by unfold rOn at z; omega) ((ln_iff hI9 hk).mp (q.trans (ix_toInt hp.1).symm))))
              refine lv_iconst (v := 0) hx hb dL_isLease_199 (by decide) ?_
              refine lv_iload hx hb dL_isLease_200 (lv_at hl 2 rfl) ?_
              refine b_icmp_ne (tgt := 209) hx hb dL_isLease_202 (by decide) (fun h => absurd h (by decide)) (fun _ => ?_)
              refine lv_iconst (v := 1) hx hb dL_isLease_205 (by decide) ?_
              refine lv_goto (tgt := 210) hx hb dL_isLease_206 (by decide) ?_
              refine lv_istore (lv' := [(7, .int 1), (5, .int (x5 + (rfF σ (ix p3) x8))), (11, .int 0), (10, .int 0), (9, .int (rfF σ (ix p3) x8)), (8, .int x8), (6, .int v1), (0, .ref (ad 0)), (1, .ref (ad 5)), (2, .ref (ad 8)), (3, .int p3), (4, .int p4)]) hx hb dL_isLease_210 hl (by decide) rfl (fun ls hl => ?_)
              refine lv_iinc (v := x8 + 1) (lv' := [(8, .int (x8 + 1)), (7, .int 1), (5, .int (x5 + (rfF σ (ix p3) x8))), (11, .int 0), (10, .int 0), (9, .int (rfF σ (ix p3) x8)), (6, .int v1), (0, .ref (ad 0)), (1, .ref (ad 5)), (2, .ref (ad 8)), (3, .int p3), (4, .int p4)]) hx hb dL_isLease_212 hl (k := 5) rfl rfl (by decide) rfl (fun ls hl => ?_)
              refine lv_goto (tgt := 17) hx hb dL_isLease_215 (by decide) ?_
              have hx8 : x8 = p4 * 30 + nI i := i_addnI (by omega) (by omega) (by omega) (by omega)
              exact W.widen (by omega) (by omega) (ih (x8 + 1, x5 + (rfF σ (ix p3) x8)) _ _ _ ⟨⟨by rw [i_add1 (by omega)]; omega, by omega, by rw [hsum, bdP, ← hx8]⟩, hY, lv_sub hl [0, 2, 1, 6, 7, 8, 9, 10, 11] rfl⟩)
          · refine lv_iload hx hb dL_isLease_132 (lv_at hl 1 rfl) ?_
            refine b_if_eq (tgt := 148) hx hb dL_isLease_134 (by decide) (fun _ => ?_) (fun h => absurd h (by decide))
            refine lv_aload_n hx hb dL_isLease_148 rfl (lv_at hl 9 rfl) ?_
            refine lv_bipush (v := 24) hx hb dL_isLease_149 (by decide) ?_
            refine lv_iload_n hx hb dL_isLease_151 rfl (lv_at hl 10 rfl) ?_
            refine lv_iadd hx hb dL_isLease_152 ?_
            refine rdN3 hC hY (24 + ix p3) (i_ixc (C := 24) rfl ⟨by omega, by omega⟩ (by decide)) (by omega) (v := σ 8 (ix p3)) (r9) dL_isLease_153 ?_
            refine b_if_gt (tgt := 182) hx hb dL_isLease_154 (by decide) (fun (hh56 : 0 < (σ 8 (ix p3)).toInt) => ?_) (fun (hh56 : (σ 8 (ix p3)).toInt ≤ 0) => ?_)
            · refine lv_aload_n hx hb dL_isLease_182 rfl (lv_at hl 7 rfl) ?_
              refine lv_aload_n hx hb dL_isLease_183 rfl (lv_at hl 8 rfl) ?_
              refine lv_iload_n hx hb dL_isLease_184 rfl (lv_at hl 10 rfl) ?_
              refine rdN0 hC hY (ix p3) (ix_of (by omega)) (by omega) (v := σ 3 (ix p3)) (r1) dL_isLease_185 ?_
              refine lv_iload hx hb dL_isLease_186 (lv_at hl 4 rfl) ?_
              refine gn_calli hY (gx_runV (n := 2) (q := (RX1, TX1, 5)) (r := 0) hC (c_X1_leaseOn l G ad σ n τ hst (σ 3 (ix p3)) x8) gL_isLease_X1_leaseOn rfl ⟨rfl, rfl⟩ (by decide +kernel) ⟨Nat.le_of_ble_eq_true rfl, Nat.le_of_ble_eq_true rfl⟩ hY (by omega) rfl (ci := 1) rfl rfl hl.1 rfl (Nat.le_of_ble_eq_true rfl) dL_isLease_188 ⟨by show _ ≤ (3000 : Nat); omega, by show _ ≤ (18000 : Nat); omega⟩) (exC_0 (cdLOn_0 ⟨by omega, by omega⟩ ⟨by omega, by omega⟩)) (fun r58 H locs hh57 hY => ?_)
              obtain ⟨-, rfl⟩ := hh57
              refine lv_iload_n hx hb dL_isLease_191 rfl (lv_at hl 10 rfl) ?_
              refine b_icmp_ne (tgt := 199) hx hb dL_isLease_192 (by decide) (fun (hh59 : ¬ (lnG σ n (σ 3 (ix p3)) x8 24 0).toInt = p3.toInt) => ?_) (fun (hh59 : (lnG σ n (σ 3 (ix p3)) x8 24 0).toInt = p3.toInt) => absurd hh59 (by exact fun q => (show ¬ rOn σ (ix p3) x8 from fun z => by unfold rOn at z; omega) ((ln_iff hI9 hk).mp (q.trans (ix_toInt hp.1).symm))))
              refine lv_iconst (v := 0) hx hb dL_isLease_199 (by decide) ?_
              refine lv_iload hx hb dL_isLease_200 (lv_at hl 2 rfl) ?_
              refine b_icmp_ne (tgt := 209) hx hb dL_isLease_202 (by decide) (fun h => absurd h (by decide)) (fun _ => ?_)
              refine lv_iconst (v := 1) hx hb dL_isLease_205 (by decide) ?_
              refine lv_goto (tgt := 210) hx hb dL_isLease_206 (by decide) ?_
              refine lv_istore (lv' := [(7, .int 1), (5, .int (x5 + (rfF σ (ix p3) x8))), (11, .int 0), (10, .int 0), (9, .int (rfF σ (ix p3) x8)), (8, .int x8), (6, .int v1), (0, .ref (ad 0)), (1, .ref (ad 5)), (2, .ref (ad 8)), (3, .int p3), (4, .int p4)]) hx hb dL_isLease_210 hl (by decide) rfl (fun ls hl => ?_)
              refine lv_iinc (v := x8 + 1) (lv' := [(8, .int (x8 + 1)), (7, .int 1), (5, .int (x5 + (rfF σ (ix p3) x8))), (11, .int 0), (10, .int 0), (9, .int (rfF σ (ix p3) x8)), (6, .int v1), (0, .ref (ad 0)), (1, .ref (ad 5)), (2, .ref (ad 8)), (3, .int p3), (4, .int p4)]) hx hb dL_isLease_212 hl (k := 5) rfl rfl (by decide) rfl (fun ls hl => ?_)
              refine lv_goto (tgt := 17) hx hb dL_isLease_215 (by decide) ?_
              have hx8 : x8 = p4 * 30 + nI i := i_addnI (by omega) (by omega) (by omega) (by omega)
              exact W.widen (by omega) (by omega) (ih (x8 + 1, x5 + (rfF σ (ix p3) x8)) _ _ _ ⟨⟨by rw [i_add1 (by omega)]; omega, by omega, by rw [hsum, bdP, ← hx8]⟩, hY, lv_sub hl [0, 2, 1, 6, 7, 8, 9, 10, 11] rfl⟩)
            · refine lv_aload_n hx hb dL_isLease_157 rfl (lv_at hl 9 rfl) ?_
              refine lv_bipush (v := 12) hx hb dL_isLease_158 (by decide) ?_
              refine lv_iload_n hx hb dL_isLease_160 rfl (lv_at hl 10 rfl) ?_
              refine lv_iadd hx hb dL_isLease_161 ?_
              refine rdN3 hC hY (12 + ix p3) (i_ixc (C := 12) rfl ⟨by omega, by omega⟩ (by decide)) (by omega) (v := σ 12 (ix p3)) (r8) dL_isLease_162 ?_
              refine b_if_gt (tgt := 182) hx hb dL_isLease_163 (by decide) (fun (hh61 : 0 < (σ 12 (ix p3)).toInt) => absurd hh61 (by omega)) (fun (hh61 : (σ 12 (ix p3)).toInt ≤ 0) => ?_)
              refine lv_iload hx hb dL_isLease_166 (lv_at hl 1 rfl) ?_
              refine b_if_eq (tgt := 182) hx hb dL_isLease_168 (by decide) (fun _ => ?_) (fun h => absurd h (by decide))
              refine lv_aload_n hx hb dL_isLease_182 rfl (lv_at hl 7 rfl) ?_
              refine lv_aload_n hx hb dL_isLease_183 rfl (lv_at hl 8 rfl) ?_
              refine lv_iload_n hx hb dL_isLease_184 rfl (lv_at hl 10 rfl) ?_
              refine rdN0 hC hY (ix p3) (ix_of (by omega)) (by omega) (v := σ 3 (ix p3)) (r1) dL_isLease_185 ?_
              refine lv_iload hx hb dL_isLease_186 (lv_at hl 4 rfl) ?_
              refine gn_calli hY (gx_runV (n := 2) (q := (RX1, TX1, 5)) (r := 0) hC (c_X1_leaseOn l G ad σ n τ hst (σ 3 (ix p3)) x8) gL_isLease_X1_leaseOn rfl ⟨rfl, rfl⟩ (by decide +kernel) ⟨Nat.le_of_ble_eq_true rfl, Nat.le_of_ble_eq_true rfl⟩ hY (by omega) rfl (ci := 1) rfl rfl hl.1 rfl (Nat.le_of_ble_eq_true rfl) dL_isLease_188 ⟨by show _ ≤ (3000 : Nat); omega, by show _ ≤ (18000 : Nat); omega⟩) (exC_0 (cdLOn_0 ⟨by omega, by omega⟩ ⟨by omega, by omega⟩)) (fun r64 H locs hh63 hY => ?_)
              obtain ⟨-, rfl⟩ := hh63
              refine lv_iload_n hx hb dL_isLease_191 rfl (lv_at hl 10 rfl) ?_
              refine b_icmp_ne (tgt := 199) hx hb dL_isLease_192 (by decide) (fun (hh65 : ¬ (lnG σ n (σ 3 (ix p3)) x8 24 0).toInt = p3.toInt) => ?_) (fun (hh65 : (lnG σ n (σ 3 (ix p3)) x8 24 0).toInt = p3.toInt) => absurd hh65 (by exact fun q => (show ¬ rOn σ (ix p3) x8 from fun z => by unfold rOn at z; omega) ((ln_iff hI9 hk).mp (q.trans (ix_toInt hp.1).symm))))
              refine lv_iconst (v := 0) hx hb dL_isLease_199 (by decide) ?_
              refine lv_iload hx hb dL_isLease_200 (lv_at hl 2 rfl) ?_
              refine b_icmp_ne (tgt := 209) hx hb dL_isLease_202 (by decide) (fun h => absurd h (by decide)) (fun _ => ?_)
              refine lv_iconst (v := 1) hx hb dL_isLease_205 (by decide) ?_
              refine lv_goto (tgt := 210) hx hb dL_isLease_206 (by decide) ?_
              refine lv_istore (lv' := [(7, .int 1), (5, .int (x5 + (rfF σ (ix p3) x8))), (11, .int 0), (10, .int 0), (9, .int (rfF σ (ix p3) x8)), (8, .int x8), (6, .int v1), (0, .ref (ad 0)), (1, .ref (ad 5)), (2, .ref (ad 8)), (3, .int p3), (4, .int p4)]) hx hb dL_isLease_210 hl (by decide) rfl (fun ls hl => ?_)
              refine lv_iinc (v := x8 + 1) (lv' := [(8, .int (x8 + 1)), (7, .int 1), (5, .int (x5 + (rfF σ (ix p3) x8))), (11, .int 0), (10, .int 0), (9, .int (rfF σ (ix p3) x8)), (6, .int v1), (0, .ref (ad 0)), (1, .ref (ad 5)), (2, .ref (ad 8)), (3, .int p3), (4, .int p4)]) hx hb dL_isLease_212 hl (k := 5) rfl rfl (by decide) rfl (fun ls hl => ?_)
              refine lv_goto (tgt := 17) hx hb dL_isLease_215 (by decide) ?_
              have hx8 : x8 = p4 * 30 + nI i := i_addnI (by omega) (by omega) (by omega) (by omega)
              exact W.widen (by omega) (by omega) (ih (x8 + 1, x5 + (rfF σ (ix p3) x8)) _ _ _ ⟨⟨by rw [i_add1 (by omega)]; omega, by omega, by rw [hsum, bdP, ← hx8]⟩, hY, lv_sub hl [0, 2, 1, 6, 7, 8, 9, 10, 11] rfl⟩)
        · refine lv_iconst (v := 1) hx hb dL_isLease_63 (by decide) ?_
          refine lv_goto (tgt := 68) hx hb dL_isLease_64 (by decide) ?_
          refine lv_istore (lv' := [(10, .int 1), (9, .int (rfF σ (ix p3) x8)), (8, .int x8), (5, .int x5), (7, .int 1), (6, .int v1), (0, .ref (ad 0)), (1, .ref (ad 5)), (2, .ref (ad 8)), (3, .int p3), (4, .int p4)]) hx hb dL_isLease_68 hl (by decide) rfl (fun ls hl => ?_)
          refine lv_iload hx hb dL_isLease_70 (lv_at hl 0 rfl) ?_
          refine b_if_eq (tgt := 94) hx hb dL_isLease_72 (by decide) (fun h => absurd h (by decide)) (fun _ => ?_)
          refine lv_iload hx hb dL_isLease_75 (lv_at hl 2 rfl) ?_
          refine lv_aload_n hx hb dL_isLease_77 rfl (lv_at hl 7 rfl) ?_
          refine lv_bipush (v := 12) hx hb dL_isLease_78 (by decide) ?_
          refine lv_iload_n hx hb dL_isLease_80 rfl (lv_at hl 9 rfl) ?_
          refine lv_iadd hx hb dL_isLease_81 ?_
          refine rdN0 hC hY (12 + ix p3) (i_ixc (C := 12) rfl ⟨by omega, by omega⟩ (by decide)) (by omega) (v := σ 4 (ix p3)) (r2) dL_isLease_82 ?_
          refine lv_aload_n hx hb dL_isLease_83 rfl (lv_at hl 8 rfl) ?_
          refine lv_iload_n hx hb dL_isLease_84 rfl (lv_at hl 9 rfl) ?_
          refine rdN3 hC hY (ix p3) (ix_of (by omega)) (by omega) (v := σ 7 (ix p3)) (r7) dL_isLease_85 ?_
          refine lv_iadd hx hb dL_isLease_86 ?_
          refine lv_topi (fun v68 e68 => ?_)
          have q68 : v68.toInt = (σ 4 (ix p3)).toInt + (σ 7 (ix p3)).toInt := by rw [e68]; exact i_addR rfl rfl (by omega)
          refine b_icmp_lt (tgt := 94) hx hb dL_isLease_87 (by decide) (fun (hh69 : x8.toInt < v68.toInt) => ?_) (fun (hh69 : v68.toInt ≤ x8.toInt) => ?_)
          · refine lv_iconst (v := 0) hx hb dL_isLease_94 (by decide) ?_
            refine lv_istore (lv' := [(11, .int 0), (10, .int 1), (9, .int (rfF σ (ix p3) x8)), (8, .int x8), (5, .int x5), (7, .int 1), (6, .int v1), (0, .ref (ad 0)), (1, .ref (ad 5)), (2, .ref (ad 8)), (3, .int p3), (4, .int p4)]) hx hb dL_isLease_95 hl (by decide) rfl (fun ls hl => ?_)
            refine lv_iload hx hb dL_isLease_97 (lv_at hl 4 rfl) ?_
            refine lv_iload hx hb dL_isLease_99 (lv_at hl 2 rfl) ?_
            refine lv_iadd hx hb dL_isLease_101 ?_
            refine lv_istore (lv' := [(5, .int (x5 + (rfF σ (ix p3) x8))), (11, .int 0), (10, .int 1), (9, .int (rfF σ (ix p3) x8)), (8, .int x8), (7, .int 1), (6, .int v1), (0, .ref (ad 0)), (1, .ref (ad 5)), (2, .ref (ad 8)), (3, .int p3), (4, .int p4)]) hx hb dL_isLease_102 hl (by decide) rfl (fun ls hl => ?_)
            refine lv_iload hx hb dL_isLease_104 (lv_at hl 1 rfl) ?_
            refine b_if_eq (tgt := 118) hx hb dL_isLease_106 (by decide) (fun _ => ?_) (fun h => absurd h (by decide))
            refine lv_iload hx hb dL_isLease_118 (lv_at hl 3 rfl) ?_
            refine b_if_ne (tgt := 209) hx hb dL_isLease_120 (by decide) (fun (hh71 : ¬ (rfF σ (ix p3) x8).toInt = 0) => absurd hh71 (by exact fun q => q (by rw [rf_no (fun z => by have z1 := z.1; have z2 := z.2; unfold rOn at z1; unfold fOn at z2; omega)]; rfl))) (fun (hh71 : (rfF σ (ix p3) x8).toInt = 0) => ?_)
            refine lv_aload_n hx hb dL_isLease_123 rfl (lv_at hl 9 rfl) ?_
            refine lv_bipush (v := 12) hx hb dL_isLease_124 (by decide) ?_
            refine lv_iload_n hx hb dL_isLease_126 rfl (lv_at hl 10 rfl) ?_
            refine lv_iadd hx hb dL_isLease_127 ?_
            refine rdN3 hC hY (12 + ix p3) (i_ixc (C := 12) rfl ⟨by omega, by omega⟩ (by decide)) (by omega) (v := σ 12 (ix p3)) (r8) dL_isLease_128 ?_
            refine b_if_gt (tgt := 148) hx hb dL_isLease_129 (by decide) (fun (hh72 : 0 < (σ 12 (ix p3)).toInt) => ?_) (fun (hh72 : (σ 12 (ix p3)).toInt ≤ 0) => ?_)
            · refine lv_aload_n hx hb dL_isLease_148 rfl (lv_at hl 9 rfl) ?_
              refine lv_bipush (v := 24) hx hb dL_isLease_149 (by decide) ?_
              refine lv_iload_n hx hb dL_isLease_151 rfl (lv_at hl 10 rfl) ?_
              refine lv_iadd hx hb dL_isLease_152 ?_
              refine rdN3 hC hY (24 + ix p3) (i_ixc (C := 24) rfl ⟨by omega, by omega⟩ (by decide)) (by omega) (v := σ 8 (ix p3)) (r9) dL_isLease_153 ?_
              refine b_if_gt (tgt := 182) hx hb dL_isLease_154 (by decide) (fun (hh73 : 0 < (σ 8 (ix p3)).toInt) => ?_) (fun (hh73 : (σ 8 (ix p3)).toInt ≤ 0) => ?_)
              · refine lv_aload_n hx hb dL_isLease_182 rfl (lv_at hl 7 rfl) ?_
                refine lv_aload_n hx hb dL_isLease_183 rfl (lv_at hl 8 rfl) ?_
                refine lv_iload_n hx hb dL_isLease_184 rfl (lv_at hl 10 rfl) ?_
                refine rdN0 hC hY (ix p3) (ix_of (by omega)) (by omega) (v := σ 3 (ix p3)) (r1) dL_isLease_185 ?_
                refine lv_iload hx hb dL_isLease_186 (lv_at hl 4 rfl) ?_
                refine gn_calli hY (gx_runV (n := 2) (q := (RX1, TX1, 5)) (r := 0) hC (c_X1_leaseOn l G ad σ n τ hst (σ 3 (ix p3)) x8) gL_isLease_X1_leaseOn rfl ⟨rfl, rfl⟩ (by decide +kernel) ⟨Nat.le_of_ble_eq_true rfl, Nat.le_of_ble_eq_true rfl⟩ hY (by omega) rfl (ci := 1) rfl rfl hl.1 rfl (Nat.le_of_ble_eq_true rfl) dL_isLease_188 ⟨by show _ ≤ (3000 : Nat); omega, by show _ ≤ (18000 : Nat); omega⟩) (exC_0 (cdLOn_0 ⟨by omega, by omega⟩ ⟨by omega, by omega⟩)) (fun r75 H locs hh74 hY => ?_)
                obtain ⟨-, rfl⟩ := hh74
                refine lv_iload_n hx hb dL_isLease_191 rfl (lv_at hl 10 rfl) ?_
                refine b_icmp_ne (tgt := 199) hx hb dL_isLease_192 (by decide) (fun (hh76 : ¬ (lnG σ n (σ 3 (ix p3)) x8 24 0).toInt = p3.toInt) => absurd hh76 (by exact fun q => q (((ln_iff hI9 hk).mpr ⟨by omega, by omega⟩).trans (ix_toInt hp.1)))) (fun (hh76 : (lnG σ n (σ 3 (ix p3)) x8 24 0).toInt = p3.toInt) => ?_)
                refine lv_iconst (v := 1) hx hb dL_isLease_195 (by decide) ?_
                refine lv_goto (tgt := 200) hx hb dL_isLease_196 (by decide) ?_
                refine lv_iload hx hb dL_isLease_200 (lv_at hl 2 rfl) ?_
                refine b_icmp_ne (tgt := 209) hx hb dL_isLease_202 (by decide) (fun h => absurd h (by decide)) (fun _ => ?_)
                refine lv_iconst (v := 1) hx hb dL_isLease_205 (by decide) ?_
                refine lv_goto (tgt := 210) hx hb dL_isLease_206 (by decide) ?_
                refine lv_istore (lv' := [(7, .int 1), (5, .int (x5 + (rfF σ (ix p3) x8))), (11, .int 0), (10, .int 1), (9, .int (rfF σ (ix p3) x8)), (8, .int x8), (6, .int v1), (0, .ref (ad 0)), (1, .ref (ad 5)), (2, .ref (ad 8)), (3, .int p3), (4, .int p4)]) hx hb dL_isLease_210 hl (by decide) rfl (fun ls hl => ?_)
                refine lv_iinc (v := x8 + 1) (lv' := [(8, .int (x8 + 1)), (7, .int 1), (5, .int (x5 + (rfF σ (ix p3) x8))), (11, .int 0), (10, .int 1), (9, .int (rfF σ (ix p3) x8)), (6, .int v1), (0, .ref (ad 0)), (1, .ref (ad 5)), (2, .ref (ad 8)), (3, .int p3), (4, .int p4)]) hx hb dL_isLease_212 hl (k := 5) rfl rfl (by decide) rfl (fun ls hl => ?_)
                refine lv_goto (tgt := 17) hx hb dL_isLease_215 (by decide) ?_
                have hx8 : x8 = p4 * 30 + nI i := i_addnI (by omega) (by omega) (by omega) (by omega)
                exact W.widen (by omega) (by omega) (ih (x8 + 1, x5 + (rfF σ (ix p3) x8)) _ _ _ ⟨⟨by rw [i_add1 (by omega)]; omega, by omega, by rw [hsum, bdP, ← hx8]⟩, hY, lv_sub hl [0, 2, 1, 6, 7, 8, 9, 10, 11] rfl⟩)
              · refine lv_aload_n hx hb dL_isLease_157 rfl (lv_at hl 9 rfl) ?_
                refine lv_bipush (v := 12) hx hb dL_isLease_158 (by decide) ?_
                refine lv_iload_n hx hb dL_isLease_160 rfl (lv_at hl 10 rfl) ?_
                refine lv_iadd hx hb dL_isLease_161 ?_
                refine rdN3 hC hY (12 + ix p3) (i_ixc (C := 12) rfl ⟨by omega, by omega⟩ (by decide)) (by omega) (v := σ 12 (ix p3)) (r8) dL_isLease_162 ?_
                refine b_if_gt (tgt := 182) hx hb dL_isLease_163 (by decide) (fun (hh78 : 0 < (σ 12 (ix p3)).toInt) => ?_) (fun (hh78 : (σ 12 (ix p3)).toInt ≤ 0) => absurd hh78 (by omega))
                refine lv_aload_n hx hb dL_isLease_182 rfl (lv_at hl 7 rfl) ?_
                refine lv_aload_n hx hb dL_isLease_183 rfl (lv_at hl 8 rfl) ?_
                refine lv_iload_n hx hb dL_isLease_184 rfl (lv_at hl 10 rfl) ?_
                refine rdN0 hC hY (ix p3) (ix_of (by omega)) (by omega) (v := σ 3 (ix p3)) (r1) dL_isLease_185 ?_
                refine lv_iload hx hb dL_isLease_186 (lv_at hl 4 rfl) ?_
                refine gn_calli hY (gx_runV (n := 2) (q := (RX1, TX1, 5)) (r := 0) hC (c_X1_leaseOn l G ad σ n τ hst (σ 3 (ix p3)) x8) gL_isLease_X1_leaseOn rfl ⟨rfl, rfl⟩ (by decide +kernel) ⟨Nat.le_of_ble_eq_true rfl, Nat.le_of_ble_eq_true rfl⟩ hY (by omega) rfl (ci := 1) rfl rfl hl.1 rfl (Nat.le_of_ble_eq_true rfl) dL_isLease_188 ⟨by show _ ≤ (3000 : Nat); omega, by show _ ≤ (18000 : Nat); omega⟩) (exC_0 (cdLOn_0 ⟨by omega, by omega⟩ ⟨by omega, by omega⟩)) (fun r80 H locs hh79 hY => ?_)
                obtain ⟨-, rfl⟩ := hh79
                refine lv_iload_n hx hb dL_isLease_191 rfl (lv_at hl 10 rfl) ?_
                refine b_icmp_ne (tgt := 199) hx hb dL_isLease_192 (by decide) (fun (hh81 : ¬ (lnG σ n (σ 3 (ix p3)) x8 24 0).toInt = p3.toInt) => absurd hh81 (by exact fun q => q (((ln_iff hI9 hk).mpr ⟨by omega, by omega⟩).trans (ix_toInt hp.1)))) (fun (hh81 : (lnG σ n (σ 3 (ix p3)) x8 24 0).toInt = p3.toInt) => ?_)
                refine lv_iconst (v := 1) hx hb dL_isLease_195 (by decide) ?_
                refine lv_goto (tgt := 200) hx hb dL_isLease_196 (by decide) ?_
                refine lv_iload hx hb dL_isLease_200 (lv_at hl 2 rfl) ?_
                refine b_icmp_ne (tgt := 209) hx hb dL_isLease_202 (by decide) (fun h => absurd h (by decide)) (fun _ => ?_)
                refine lv_iconst (v := 1) hx hb dL_isLease_205 (by decide) ?_
                refine lv_goto (tgt := 210) hx hb dL_isLease_206 (by decide) ?_
                refine lv_istore (lv' := [(7, .int 1), (5, .int (x5 + (rfF σ (ix p3) x8))), (11, .int 0), (10, .int 1), (9, .int (rfF σ (ix p3) x8)), (8, .int x8), (6, .int v1), (0, .ref (ad 0)), (1, .ref (ad 5)), (2, .ref (ad 8)), (3, .int p3), (4, .int p4)]) hx hb dL_isLease_210 hl (by decide) rfl (fun ls hl => ?_)
                refine lv_iinc (v := x8 + 1) (lv' := [(8, .int (x8 + 1)), (7, .int 1), (5, .int (x5 + (rfF σ (ix p3) x8))), (11, .int 0), (10, .int 1), (9, .int (rfF σ (ix p3) x8)), (6, .int v1), (0, .ref (ad 0)), (1, .ref (ad 5)), (2, .ref (ad 8)), (3, .int p3), (4, .int p4)]) hx hb dL_isLease_212 hl (k := 5) rfl rfl (by decide) rfl (fun ls hl => ?_)
                refine lv_goto (tgt := 17) hx hb dL_isLease_215 (by decide) ?_
                have hx8 : x8 = p4 * 30 + nI i := i_addnI (by omega) (by omega) (by omega) (by omega)
                exact W.widen (by omega) (by omega) (ih (x8 + 1, x5 + (rfF σ (ix p3) x8)) _ _ _ ⟨⟨by rw [i_add1 (by omega)]; omega, by omega, by rw [hsum, bdP, ← hx8]⟩, hY, lv_sub hl [0, 2, 1, 6, 7, 8, 9, 10, 11] rfl⟩)
            · refine lv_iload hx hb dL_isLease_132 (lv_at hl 1 rfl) ?_
              refine b_if_eq (tgt := 148) hx hb dL_isLease_134 (by decide) (fun _ => ?_) (fun h => absurd h (by decide))
              refine lv_aload_n hx hb dL_isLease_148 rfl (lv_at hl 9 rfl) ?_
              refine lv_bipush (v := 24) hx hb dL_isLease_149 (by decide) ?_
              refine lv_iload_n hx hb dL_isLease_151 rfl (lv_at hl 10 rfl) ?_
              refine lv_iadd hx hb dL_isLease_152 ?_
              refine rdN3 hC hY (24 + ix p3) (i_ixc (C := 24) rfl ⟨by omega, by omega⟩ (by decide)) (by omega) (v := σ 8 (ix p3)) (r9) dL_isLease_153 ?_
              refine b_if_gt (tgt := 182) hx hb dL_isLease_154 (by decide) (fun (hh84 : 0 < (σ 8 (ix p3)).toInt) => ?_) (fun (hh84 : (σ 8 (ix p3)).toInt ≤ 0) => ?_)
              · refine lv_aload_n hx hb dL_isLease_182 rfl (lv_at hl 7 rfl) ?_
                refine lv_aload_n hx hb dL_isLease_183 rfl (lv_at hl 8 rfl) ?_
                refine lv_iload_n hx hb dL_isLease_184 rfl (lv_at hl 10 rfl) ?_
                refine rdN0 hC hY (ix p3) (ix_of (by omega)) (by omega) (v := σ 3 (ix p3)) (r1) dL_isLease_185 ?_
                refine lv_iload hx hb dL_isLease_186 (lv_at hl 4 rfl) ?_
                refine gn_calli hY (gx_runV (n := 2) (q := (RX1, TX1, 5)) (r := 0) hC (c_X1_leaseOn l G ad σ n τ hst (σ 3 (ix p3)) x8) gL_isLease_X1_leaseOn rfl ⟨rfl, rfl⟩ (by decide +kernel) ⟨Nat.le_of_ble_eq_true rfl, Nat.le_of_ble_eq_true rfl⟩ hY (by omega) rfl (ci := 1) rfl rfl hl.1 rfl (Nat.le_of_ble_eq_true rfl) dL_isLease_188 ⟨by show _ ≤ (3000 : Nat); omega, by show _ ≤ (18000 : Nat); omega⟩) (exC_0 (cdLOn_0 ⟨by omega, by omega⟩ ⟨by omega, by omega⟩)) (fun r86 H locs hh85 hY => ?_)
                obtain ⟨-, rfl⟩ := hh85
                refine lv_iload_n hx hb dL_isLease_191 rfl (lv_at hl 10 rfl) ?_
                refine b_icmp_ne (tgt := 199) hx hb dL_isLease_192 (by decide) (fun (hh87 : ¬ (lnG σ n (σ 3 (ix p3)) x8 24 0).toInt = p3.toInt) => absurd hh87 (by exact fun q => q (((ln_iff hI9 hk).mpr ⟨by omega, by omega⟩).trans (ix_toInt hp.1)))) (fun (hh87 : (lnG σ n (σ 3 (ix p3)) x8 24 0).toInt = p3.toInt) => ?_)
                refine lv_iconst (v := 1) hx hb dL_isLease_195 (by decide) ?_
                refine lv_goto (tgt := 200) hx hb dL_isLease_196 (by decide) ?_
                refine lv_iload hx hb dL_isLease_200 (lv_at hl 2 rfl) ?_
                refine b_icmp_ne (tgt := 209) hx hb dL_isLease_202 (by decide) (fun h => absurd h (by decide)) (fun _ => ?_)
                refine lv_iconst (v := 1) hx hb dL_isLease_205 (by decide) ?_
                refine lv_goto (tgt := 210) hx hb dL_isLease_206 (by decide) ?_
                refine lv_istore (lv' := [(7, .int 1), (5, .int (x5 + (rfF σ (ix p3) x8))), (11, .int 0), (10, .int 1), (9, .int (rfF σ (ix p3) x8)), (8, .int x8), (6, .int v1), (0, .ref (ad 0)), (1, .ref (ad 5)), (2, .ref (ad 8)), (3, .int p3), (4, .int p4)]) hx hb dL_isLease_210 hl (by decide) rfl (fun ls hl => ?_)
                refine lv_iinc (v := x8 + 1) (lv' := [(8, .int (x8 + 1)), (7, .int 1), (5, .int (x5 + (rfF σ (ix p3) x8))), (11, .int 0), (10, .int 1), (9, .int (rfF σ (ix p3) x8)), (6, .int v1), (0, .ref (ad 0)), (1, .ref (ad 5)), (2, .ref (ad 8)), (3, .int p3), (4, .int p4)]) hx hb dL_isLease_212 hl (k := 5) rfl rfl (by decide) rfl (fun ls hl => ?_)
                refine lv_goto (tgt := 17) hx hb dL_isLease_215 (by decide) ?_
                have hx8 : x8 = p4 * 30 + nI i := i_addnI (by omega) (by omega) (by omega) (by omega)
                exact W.widen (by omega) (by omega) (ih (x8 + 1, x5 + (rfF σ (ix p3) x8)) _ _ _ ⟨⟨by rw [i_add1 (by omega)]; omega, by omega, by rw [hsum, bdP, ← hx8]⟩, hY, lv_sub hl [0, 2, 1, 6, 7, 8, 9, 10, 11] rfl⟩)
              · refine lv_aload_n hx hb dL_isLease_157 rfl (lv_at hl 9 rfl) ?_
                refine lv_bipush (v := 12) hx hb dL_isLease_158 (by decide) ?_
                refine lv_iload_n hx hb dL_isLease_160 rfl (lv_at hl 10 rfl) ?_
                refine lv_iadd hx hb dL_isLease_161 ?_
                refine rdN3 hC hY (12 + ix p3) (i_ixc (C := 12) rfl ⟨by omega, by omega⟩ (by decide)) (by omega) (v := σ 12 (ix p3)) (r8) dL_isLease_162 ?_
                refine b_if_gt (tgt := 182) hx hb dL_isLease_163 (by decide) (fun (hh89 : 0 < (σ 12 (ix p3)).toInt) => absurd hh89 (by omega)) (fun (hh89 : (σ 12 (ix p3)).toInt ≤ 0) => ?_)
                refine lv_iload hx hb dL_isLease_166 (lv_at hl 1 rfl) ?_
                refine b_if_eq (tgt := 182) hx hb dL_isLease_168 (by decide) (fun _ => ?_) (fun h => absurd h (by decide))
                refine lv_aload_n hx hb dL_isLease_182 rfl (lv_at hl 7 rfl) ?_
                refine lv_aload_n hx hb dL_isLease_183 rfl (lv_at hl 8 rfl) ?_
                refine lv_iload_n hx hb dL_isLease_184 rfl (lv_at hl 10 rfl) ?_
                refine rdN0 hC hY (ix p3) (ix_of (by omega)) (by omega) (v := σ 3 (ix p3)) (r1) dL_isLease_185 ?_
                refine lv_iload hx hb dL_isLease_186 (lv_at hl 4 rfl) ?_
                refine gn_calli hY (gx_runV (n := 2) (q := (RX1, TX1, 5)) (r := 0) hC (c_X1_leaseOn l G ad σ n τ hst (σ 3 (ix p3)) x8) gL_isLease_X1_leaseOn rfl ⟨rfl, rfl⟩ (by decide +kernel) ⟨Nat.le_of_ble_eq_true rfl, Nat.le_of_ble_eq_true rfl⟩ hY (by omega) rfl (ci := 1) rfl rfl hl.1 rfl (Nat.le_of_ble_eq_true rfl) dL_isLease_188 ⟨by show _ ≤ (3000 : Nat); omega, by show _ ≤ (18000 : Nat); omega⟩) (exC_0 (cdLOn_0 ⟨by omega, by omega⟩ ⟨by omega, by omega⟩)) (fun r92 H locs hh91 hY => ?_)
                obtain ⟨-, rfl⟩ := hh91
                refine lv_iload_n hx hb dL_isLease_191 rfl (lv_at hl 10 rfl) ?_
                refine b_icmp_ne (tgt := 199) hx hb dL_isLease_192 (by decide) (fun (hh93 : ¬ (lnG σ n (σ 3 (ix p3)) x8 24 0).toInt = p3.toInt) => absurd hh93 (by exact fun q => q (((ln_iff hI9 hk).mpr ⟨by omega, by omega⟩).trans (ix_toInt hp.1)))) (fun (hh93 : (lnG σ n (σ 3 (ix p3)) x8 24 0).toInt = p3.toInt) => ?_)
                refine lv_iconst (v := 1) hx hb dL_isLease_195 (by decide) ?_
                refine lv_goto (tgt := 200) hx hb dL_isLease_196 (by decide) ?_
                refine lv_iload hx hb dL_isLease_200 (lv_at hl 2 rfl) ?_
                refine b_icmp_ne (tgt := 209) hx hb dL_isLease_202 (by decide) (fun h => absurd h (by decide)) (fun _ => ?_)
                refine lv_iconst (v := 1) hx hb dL_isLease_205 (by decide) ?_
                refine lv_goto (tgt := 210) hx hb dL_isLease_206 (by decide) ?_
                refine lv_istore (lv' := [(7, .int 1), (5, .int (x5 + (rfF σ (ix p3) x8))), (11, .int 0), (10, .int 1), (9, .int (rfF σ (ix p3) x8)), (8, .int x8), (6, .int v1), (0, .ref (ad 0)), (1, .ref (ad 5)), (2, .ref (ad 8)), (3, .int p3), (4, .int p4)]) hx hb dL_isLease_210 hl (by decide) rfl (fun ls hl => ?_)
                refine lv_iinc (v := x8 + 1) (lv' := [(8, .int (x8 + 1)), (7, .int 1), (5, .int (x5 + (rfF σ (ix p3) x8))), (11, .int 0), (10, .int 1), (9, .int (rfF σ (ix p3) x8)), (6, .int v1), (0, .ref (ad 0)), (1, .ref (ad 5)), (2, .ref (ad 8)), (3, .int p3), (4, .int p4)]) hx hb dL_isLease_212 hl (k := 5) rfl rfl (by decide) rfl (fun ls hl => ?_)
                refine lv_goto (tgt := 17) hx hb dL_isLease_215 (by decide) ?_
                have hx8 : x8 = p4 * 30 + nI i := i_addnI (by omega) (by omega) (by omega) (by omega)
                exact W.widen (by omega) (by omega) (ih (x8 + 1, x5 + (rfF σ (ix p3) x8)) _ _ _ ⟨⟨by rw [i_add1 (by omega)]; omega, by omega, by rw [hsum, bdP, ← hx8]⟩, hY, lv_sub hl [0, 2, 1, 6, 7, 8, 9, 10, 11] rfl⟩)
          · refine lv_iconst (v := 1) hx hb dL_isLease_90 (by decide) ?_
            refine lv_goto (tgt := 95) hx hb dL_isLease_91 (by decide) ?_
            refine lv_istore (lv' := [(11, .int 1), (10, .int 1), (9, .int (rfF σ (ix p3) x8)), (8, .int x8), (5, .int x5), (7, .int 1), (6, .int v1), (0, .ref (ad 0)), (1, .ref (ad 5)), (2, .ref (ad 8)), (3, .int p3), (4, .int p4)]) hx hb dL_isLease_95 hl (by decide) rfl (fun ls hl => ?_)
            refine lv_iload hx hb dL_isLease_97 (lv_at hl 4 rfl) ?_
            refine lv_iload hx hb dL_isLease_99 (lv_at hl 2 rfl) ?_
            refine lv_iadd hx hb dL_isLease_101 ?_
            refine lv_istore (lv' := [(5, .int (x5 + (rfF σ (ix p3) x8))), (11, .int 1), (10, .int 1), (9, .int (rfF σ (ix p3) x8)), (8, .int x8), (7, .int 1), (6, .int v1), (0, .ref (ad 0)), (1, .ref (ad 5)), (2, .ref (ad 8)), (3, .int p3), (4, .int p4)]) hx hb dL_isLease_102 hl (by decide) rfl (fun ls hl => ?_)
            refine lv_iload hx hb dL_isLease_104 (lv_at hl 1 rfl) ?_
            refine b_if_eq (tgt := 118) hx hb dL_isLease_106 (by decide) (fun h => absurd h (by decide)) (fun _ => ?_)
            have hrf := rf_int (d := x8) hI9 hk s1 ⟨⟨by omega, by omega⟩, by unfold fOn; omega⟩
            have hab := ac_b (d := x8) hL s1
            refine lv_iload hx hb dL_isLease_109 (lv_at hl 3 rfl) ?_
            refine lv_iconst (v := 1) hx hb dL_isLease_111 (by decide) ?_
            refine b_icmp_lt (tgt := 209) hx hb dL_isLease_112 (by decide) (fun (hh96 : (rfF σ (ix p3) x8).toInt < 1) => absurd hh96 (by omega)) (fun (hh96 : 1 ≤ (rfF σ (ix p3) x8).toInt) => ?_)
            refine lv_goto (tgt := 123) hx hb dL_isLease_115 (by decide) ?_
            refine lv_aload_n hx hb dL_isLease_123 rfl (lv_at hl 9 rfl) ?_
            refine lv_bipush (v := 12) hx hb dL_isLease_124 (by decide) ?_
            refine lv_iload_n hx hb dL_isLease_126 rfl (lv_at hl 10 rfl) ?_
            refine lv_iadd hx hb dL_isLease_127 ?_
            refine rdN3 hC hY (12 + ix p3) (i_ixc (C := 12) rfl ⟨by omega, by omega⟩ (by decide)) (by omega) (v := σ 12 (ix p3)) (r8) dL_isLease_128 ?_
            refine b_if_gt (tgt := 148) hx hb dL_isLease_129 (by decide) (fun (hh97 : 0 < (σ 12 (ix p3)).toInt) => ?_) (fun (hh97 : (σ 12 (ix p3)).toInt ≤ 0) => ?_)
            · refine lv_aload_n hx hb dL_isLease_148 rfl (lv_at hl 9 rfl) ?_
              refine lv_bipush (v := 24) hx hb dL_isLease_149 (by decide) ?_
              refine lv_iload_n hx hb dL_isLease_151 rfl (lv_at hl 10 rfl) ?_
              refine lv_iadd hx hb dL_isLease_152 ?_
              refine rdN3 hC hY (24 + ix p3) (i_ixc (C := 24) rfl ⟨by omega, by omega⟩ (by decide)) (by omega) (v := σ 8 (ix p3)) (r9) dL_isLease_153 ?_
              refine b_if_gt (tgt := 182) hx hb dL_isLease_154 (by decide) (fun (hh98 : 0 < (σ 8 (ix p3)).toInt) => ?_) (fun (hh98 : (σ 8 (ix p3)).toInt ≤ 0) => ?_)
              · refine lv_aload_n hx hb dL_isLease_182 rfl (lv_at hl 7 rfl) ?_
                refine lv_aload_n hx hb dL_isLease_183 rfl (lv_at hl 8 rfl) ?_
                refine lv_iload_n hx hb dL_isLease_184 rfl (lv_at hl 10 rfl) ?_
                refine rdN0 hC hY (ix p3) (ix_of (by omega)) (by omega) (v := σ 3 (ix p3)) (r1) dL_isLease_185 ?_
                refine lv_iload hx hb dL_isLease_186 (lv_at hl 4 rfl) ?_
                refine gn_calli hY (gx_runV (n := 2) (q := (RX1, TX1, 5)) (r := 0) hC (c_X1_leaseOn l G ad σ n τ hst (σ 3 (ix p3)) x8) gL_isLease_X1_leaseOn rfl ⟨rfl, rfl⟩ (by decide +kernel) ⟨Nat.le_of_ble_eq_true rfl, Nat.le_of_ble_eq_true rfl⟩ hY (by omega) rfl (ci := 1) rfl rfl hl.1 rfl (Nat.le_of_ble_eq_true rfl) dL_isLease_188 ⟨by show _ ≤ (3000 : Nat); omega, by show _ ≤ (18000 : Nat); omega⟩) (exC_0 (cdLOn_0 ⟨by omega, by omega⟩ ⟨by omega, by omega⟩)) (fun r100 H locs hh99 hY => ?_)
                obtain ⟨-, rfl⟩ := hh99
                refine lv_iload_n hx hb dL_isLease_191 rfl (lv_at hl 10 rfl) ?_
                refine b_icmp_ne (tgt := 199) hx hb dL_isLease_192 (by decide) (fun (hh101 : ¬ (lnG σ n (σ 3 (ix p3)) x8 24 0).toInt = p3.toInt) => absurd hh101 (by exact fun q => q (((ln_iff hI9 hk).mpr ⟨by omega, by omega⟩).trans (ix_toInt hp.1)))) (fun (hh101 : (lnG σ n (σ 3 (ix p3)) x8 24 0).toInt = p3.toInt) => ?_)
                refine lv_iconst (v := 1) hx hb dL_isLease_195 (by decide) ?_
                refine lv_goto (tgt := 200) hx hb dL_isLease_196 (by decide) ?_
                refine lv_iload hx hb dL_isLease_200 (lv_at hl 2 rfl) ?_
                refine b_icmp_ne (tgt := 209) hx hb dL_isLease_202 (by decide) (fun h => absurd h (by decide)) (fun _ => ?_)
                refine lv_iconst (v := 1) hx hb dL_isLease_205 (by decide) ?_
                refine lv_goto (tgt := 210) hx hb dL_isLease_206 (by decide) ?_
                refine lv_istore (lv' := [(7, .int 1), (5, .int (x5 + (rfF σ (ix p3) x8))), (11, .int 1), (10, .int 1), (9, .int (rfF σ (ix p3) x8)), (8, .int x8), (6, .int v1), (0, .ref (ad 0)), (1, .ref (ad 5)), (2, .ref (ad 8)), (3, .int p3), (4, .int p4)]) hx hb dL_isLease_210 hl (by decide) rfl (fun ls hl => ?_)
                refine lv_iinc (v := x8 + 1) (lv' := [(8, .int (x8 + 1)), (7, .int 1), (5, .int (x5 + (rfF σ (ix p3) x8))), (11, .int 1), (10, .int 1), (9, .int (rfF σ (ix p3) x8)), (6, .int v1), (0, .ref (ad 0)), (1, .ref (ad 5)), (2, .ref (ad 8)), (3, .int p3), (4, .int p4)]) hx hb dL_isLease_212 hl (k := 5) rfl rfl (by decide) rfl (fun ls hl => ?_)
                refine lv_goto (tgt := 17) hx hb dL_isLease_215 (by decide) ?_
                have hx8 : x8 = p4 * 30 + nI i := i_addnI (by omega) (by omega) (by omega) (by omega)
                exact W.widen (by omega) (by omega) (ih (x8 + 1, x5 + (rfF σ (ix p3) x8)) _ _ _ ⟨⟨by rw [i_add1 (by omega)]; omega, by omega, by rw [hsum, bdP, ← hx8]⟩, hY, lv_sub hl [0, 2, 1, 6, 7, 8, 9, 10, 11] rfl⟩)
              · refine lv_aload_n hx hb dL_isLease_157 rfl (lv_at hl 9 rfl) ?_
                refine lv_bipush (v := 12) hx hb dL_isLease_158 (by decide) ?_
                refine lv_iload_n hx hb dL_isLease_160 rfl (lv_at hl 10 rfl) ?_
                refine lv_iadd hx hb dL_isLease_161 ?_
                refine rdN3 hC hY (12 + ix p3) (i_ixc (C := 12) rfl ⟨by omega, by omega⟩ (by decide)) (by omega) (v := σ 12 (ix p3)) (r8) dL_isLease_162 ?_
                refine b_if_gt (tgt := 182) hx hb dL_isLease_163 (by decide) (fun (hh103 : 0 < (σ 12 (ix p3)).toInt) => ?_) (fun (hh103 : (σ 12 (ix p3)).toInt ≤ 0) => absurd hh103 (by omega))
                refine lv_aload_n hx hb dL_isLease_182 rfl (lv_at hl 7 rfl) ?_
                refine lv_aload_n hx hb dL_isLease_183 rfl (lv_at hl 8 rfl) ?_
                refine lv_iload_n hx hb dL_isLease_184 rfl (lv_at hl 10 rfl) ?_
                refine rdN0 hC hY (ix p3) (ix_of (by omega)) (by omega) (v := σ 3 (ix p3)) (r1) dL_isLease_185 ?_
                refine lv_iload hx hb dL_isLease_186 (lv_at hl 4 rfl) ?_
                refine gn_calli hY (gx_runV (n := 2) (q := (RX1, TX1, 5)) (r := 0) hC (c_X1_leaseOn l G ad σ n τ hst (σ 3 (ix p3)) x8) gL_isLease_X1_leaseOn rfl ⟨rfl, rfl⟩ (by decide +kernel) ⟨Nat.le_of_ble_eq_true rfl, Nat.le_of_ble_eq_true rfl⟩ hY (by omega) rfl (ci := 1) rfl rfl hl.1 rfl (Nat.le_of_ble_eq_true rfl) dL_isLease_188 ⟨by show _ ≤ (3000 : Nat); omega, by show _ ≤ (18000 : Nat); omega⟩) (exC_0 (cdLOn_0 ⟨by omega, by omega⟩ ⟨by omega, by omega⟩)) (fun r105 H locs hh104 hY => ?_)
                obtain ⟨-, rfl⟩ := hh104
                refine lv_iload_n hx hb dL_isLease_191 rfl (lv_at hl 10 rfl) ?_
                refine b_icmp_ne (tgt := 199) hx hb dL_isLease_192 (by decide) (fun (hh106 : ¬ (lnG σ n (σ 3 (ix p3)) x8 24 0).toInt = p3.toInt) => absurd hh106 (by exact fun q => q (((ln_iff hI9 hk).mpr ⟨by omega, by omega⟩).trans (ix_toInt hp.1)))) (fun (hh106 : (lnG σ n (σ 3 (ix p3)) x8 24 0).toInt = p3.toInt) => ?_)
                refine lv_iconst (v := 1) hx hb dL_isLease_195 (by decide) ?_
                refine lv_goto (tgt := 200) hx hb dL_isLease_196 (by decide) ?_
                refine lv_iload hx hb dL_isLease_200 (lv_at hl 2 rfl) ?_
                refine b_icmp_ne (tgt := 209) hx hb dL_isLease_202 (by decide) (fun h => absurd h (by decide)) (fun _ => ?_)
                refine lv_iconst (v := 1) hx hb dL_isLease_205 (by decide) ?_
                refine lv_goto (tgt := 210) hx hb dL_isLease_206 (by decide) ?_
                refine lv_istore (lv' := [(7, .int 1), (5, .int (x5 + (rfF σ (ix p3) x8))), (11, .int 1), (10, .int 1), (9, .int (rfF σ (ix p3) x8)), (8, .int x8), (6, .int v1), (0, .ref (ad 0)), (1, .ref (ad 5)), (2, .ref (ad 8)), (3, .int p3), (4, .int p4)]) hx hb dL_isLease_210 hl (by decide) rfl (fun ls hl => ?_)
                refine lv_iinc (v := x8 + 1) (lv' := [(8, .int (x8 + 1)), (7, .int 1), (5, .int (x5 + (rfF σ (ix p3) x8))), (11, .int 1), (10, .int 1), (9, .int (rfF σ (ix p3) x8)), (6, .int v1), (0, .ref (ad 0)), (1, .ref (ad 5)), (2, .ref (ad 8)), (3, .int p3), (4, .int p4)]) hx hb dL_isLease_212 hl (k := 5) rfl rfl (by decide) rfl (fun ls hl => ?_)
                refine lv_goto (tgt := 17) hx hb dL_isLease_215 (by decide) ?_
                have hx8 : x8 = p4 * 30 + nI i := i_addnI (by omega) (by omega) (by omega) (by omega)
                exact W.widen (by omega) (by omega) (ih (x8 + 1, x5 + (rfF σ (ix p3) x8)) _ _ _ ⟨⟨by rw [i_add1 (by omega)]; omega, by omega, by rw [hsum, bdP, ← hx8]⟩, hY, lv_sub hl [0, 2, 1, 6, 7, 8, 9, 10, 11] rfl⟩)
            · refine lv_iload hx hb dL_isLease_132 (lv_at hl 1 rfl) ?_
              refine b_if_eq (tgt := 148) hx hb dL_isLease_134 (by decide) (fun h => absurd h (by decide)) (fun _ => ?_)
              refine lv_iload hx hb dL_isLease_137 (lv_at hl 3 rfl) ?_
              refine lv_aload_n hx hb dL_isLease_139 rfl (lv_at hl 8 rfl) ?_
              refine lv_bipush (v := 36) hx hb dL_isLease_140 (by decide) ?_
              refine lv_iload_n hx hb dL_isLease_142 rfl (lv_at hl 10 rfl) ?_
              refine lv_iadd hx hb dL_isLease_143 ?_
              refine rdN0 hC hY (36 + ix p3) (i_ixc (C := 36) rfl ⟨by omega, by omega⟩ (by decide)) (by omega) (v := σ 6 (ix p3)) (r4) dL_isLease_144 ?_
              refine b_icmp_lt (tgt := 209) hx hb dL_isLease_145 (by decide) (fun (hh109 : (rfF σ (ix p3) x8).toInt < (σ 6 (ix p3)).toInt) => absurd hh109 (by have z := ac_st0 (d := x8) (σ := σ) (k := ix p3) (by omega); have z2 := hrf.1; rw [z] at z2; omega)) (fun (hh109 : (σ 6 (ix p3)).toInt ≤ (rfF σ (ix p3) x8).toInt) => ?_)
              refine lv_aload_n hx hb dL_isLease_148 rfl (lv_at hl 9 rfl) ?_
              refine lv_bipush (v := 24) hx hb dL_isLease_149 (by decide) ?_
              refine lv_iload_n hx hb dL_isLease_151 rfl (lv_at hl 10 rfl) ?_
              refine lv_iadd hx hb dL_isLease_152 ?_
              refine rdN3 hC hY (24 + ix p3) (i_ixc (C := 24) rfl ⟨by omega, by omega⟩ (by decide)) (by omega) (v := σ 8 (ix p3)) (r9) dL_isLease_153 ?_
              refine b_if_gt (tgt := 182) hx hb dL_isLease_154 (by decide) (fun (hh110 : 0 < (σ 8 (ix p3)).toInt) => ?_) (fun (hh110 : (σ 8 (ix p3)).toInt ≤ 0) => ?_)
              · refine lv_aload_n hx hb dL_isLease_182 rfl (lv_at hl 7 rfl) ?_
                refine lv_aload_n hx hb dL_isLease_183 rfl (lv_at hl 8 rfl) ?_
                refine lv_iload_n hx hb dL_isLease_184 rfl (lv_at hl 10 rfl) ?_
                refine rdN0 hC hY (ix p3) (ix_of (by omega)) (by omega) (v := σ 3 (ix p3)) (r1) dL_isLease_185 ?_
                refine lv_iload hx hb dL_isLease_186 (lv_at hl 4 rfl) ?_
                refine gn_calli hY (gx_runV (n := 2) (q := (RX1, TX1, 5)) (r := 0) hC (c_X1_leaseOn l G ad σ n τ hst (σ 3 (ix p3)) x8) gL_isLease_X1_leaseOn rfl ⟨rfl, rfl⟩ (by decide +kernel) ⟨Nat.le_of_ble_eq_true rfl, Nat.le_of_ble_eq_true rfl⟩ hY (by omega) rfl (ci := 1) rfl rfl hl.1 rfl (Nat.le_of_ble_eq_true rfl) dL_isLease_188 ⟨by show _ ≤ (3000 : Nat); omega, by show _ ≤ (18000 : Nat); omega⟩) (exC_0 (cdLOn_0 ⟨by omega, by omega⟩ ⟨by omega, by omega⟩)) (fun r112 H locs hh111 hY => ?_)
                obtain ⟨-, rfl⟩ := hh111
                refine lv_iload_n hx hb dL_isLease_191 rfl (lv_at hl 10 rfl) ?_
                refine b_icmp_ne (tgt := 199) hx hb dL_isLease_192 (by decide) (fun (hh113 : ¬ (lnG σ n (σ 3 (ix p3)) x8 24 0).toInt = p3.toInt) => absurd hh113 (by exact fun q => q (((ln_iff hI9 hk).mpr ⟨by omega, by omega⟩).trans (ix_toInt hp.1)))) (fun (hh113 : (lnG σ n (σ 3 (ix p3)) x8 24 0).toInt = p3.toInt) => ?_)
                refine lv_iconst (v := 1) hx hb dL_isLease_195 (by decide) ?_
                refine lv_goto (tgt := 200) hx hb dL_isLease_196 (by decide) ?_
                refine lv_iload hx hb dL_isLease_200 (lv_at hl 2 rfl) ?_
                refine b_icmp_ne (tgt := 209) hx hb dL_isLease_202 (by decide) (fun h => absurd h (by decide)) (fun _ => ?_)
                refine lv_iconst (v := 1) hx hb dL_isLease_205 (by decide) ?_
                refine lv_goto (tgt := 210) hx hb dL_isLease_206 (by decide) ?_
                refine lv_istore (lv' := [(7, .int 1), (5, .int (x5 + (rfF σ (ix p3) x8))), (11, .int 1), (10, .int 1), (9, .int (rfF σ (ix p3) x8)), (8, .int x8), (6, .int v1), (0, .ref (ad 0)), (1, .ref (ad 5)), (2, .ref (ad 8)), (3, .int p3), (4, .int p4)]) hx hb dL_isLease_210 hl (by decide) rfl (fun ls hl => ?_)
                refine lv_iinc (v := x8 + 1) (lv' := [(8, .int (x8 + 1)), (7, .int 1), (5, .int (x5 + (rfF σ (ix p3) x8))), (11, .int 1), (10, .int 1), (9, .int (rfF σ (ix p3) x8)), (6, .int v1), (0, .ref (ad 0)), (1, .ref (ad 5)), (2, .ref (ad 8)), (3, .int p3), (4, .int p4)]) hx hb dL_isLease_212 hl (k := 5) rfl rfl (by decide) rfl (fun ls hl => ?_)
                refine lv_goto (tgt := 17) hx hb dL_isLease_215 (by decide) ?_
                have hx8 : x8 = p4 * 30 + nI i := i_addnI (by omega) (by omega) (by omega) (by omega)
                exact W.widen (by omega) (by omega) (ih (x8 + 1, x5 + (rfF σ (ix p3) x8)) _ _ _ ⟨⟨by rw [i_add1 (by omega)]; omega, by omega, by rw [hsum, bdP, ← hx8]⟩, hY, lv_sub hl [0, 2, 1, 6, 7, 8, 9, 10, 11] rfl⟩)
              · refine lv_aload_n hx hb dL_isLease_157 rfl (lv_at hl 9 rfl) ?_
                refine lv_bipush (v := 12) hx hb dL_isLease_158 (by decide) ?_
                refine lv_iload_n hx hb dL_isLease_160 rfl (lv_at hl 10 rfl) ?_
                refine lv_iadd hx hb dL_isLease_161 ?_
                refine rdN3 hC hY (12 + ix p3) (i_ixc (C := 12) rfl ⟨by omega, by omega⟩ (by decide)) (by omega) (v := σ 12 (ix p3)) (r8) dL_isLease_162 ?_
                refine b_if_gt (tgt := 182) hx hb dL_isLease_163 (by decide) (fun (hh115 : 0 < (σ 12 (ix p3)).toInt) => absurd hh115 (by omega)) (fun (hh115 : (σ 12 (ix p3)).toInt ≤ 0) => ?_)
                refine lv_iload hx hb dL_isLease_166 (lv_at hl 1 rfl) ?_
                refine b_if_eq (tgt := 182) hx hb dL_isLease_168 (by decide) (fun h => absurd h (by decide)) (fun _ => ?_)
                refine lv_iload hx hb dL_isLease_171 (lv_at hl 3 rfl) ?_
                refine lv_aload_n hx hb dL_isLease_173 rfl (lv_at hl 8 rfl) ?_
                refine lv_bipush (v := 36) hx hb dL_isLease_174 (by decide) ?_
                refine lv_iload_n hx hb dL_isLease_176 rfl (lv_at hl 10 rfl) ?_
                refine lv_iadd hx hb dL_isLease_177 ?_
                refine rdN0 hC hY (36 + ix p3) (i_ixc (C := 36) rfl ⟨by omega, by omega⟩ (by decide)) (by omega) (v := σ 6 (ix p3)) (r4) dL_isLease_178 ?_
                refine b_icmp_ne (tgt := 209) hx hb dL_isLease_179 (by decide) (fun (hh117 : ¬ (rfF σ (ix p3) x8).toInt = (σ 6 (ix p3)).toInt) => absurd hh117 (by exact fun q => q (by rw [hrf.2.2 (hx_0 (fun z => by omega)), ac_st0 (by omega)]))) (fun (hh117 : (rfF σ (ix p3) x8).toInt = (σ 6 (ix p3)).toInt) => ?_)
                refine lv_aload_n hx hb dL_isLease_182 rfl (lv_at hl 7 rfl) ?_
                refine lv_aload_n hx hb dL_isLease_183 rfl (lv_at hl 8 rfl) ?_
                refine lv_iload_n hx hb dL_isLease_184 rfl (lv_at hl 10 rfl) ?_
                refine rdN0 hC hY (ix p3) (ix_of (by omega)) (by omega) (v := σ 3 (ix p3)) (r1) dL_isLease_185 ?_
                refine lv_iload hx hb dL_isLease_186 (lv_at hl 4 rfl) ?_
                refine gn_calli hY (gx_runV (n := 2) (q := (RX1, TX1, 5)) (r := 0) hC (c_X1_leaseOn l G ad σ n τ hst (σ 3 (ix p3)) x8) gL_isLease_X1_leaseOn rfl ⟨rfl, rfl⟩ (by decide +kernel) ⟨Nat.le_of_ble_eq_true rfl, Nat.le_of_ble_eq_true rfl⟩ hY (by omega) rfl (ci := 1) rfl rfl hl.1 rfl (Nat.le_of_ble_eq_true rfl) dL_isLease_188 ⟨by show _ ≤ (3000 : Nat); omega, by show _ ≤ (18000 : Nat); omega⟩) (exC_0 (cdLOn_0 ⟨by omega, by omega⟩ ⟨by omega, by omega⟩)) (fun r119 H locs hh118 hY => ?_)
                obtain ⟨-, rfl⟩ := hh118
                refine lv_iload_n hx hb dL_isLease_191 rfl (lv_at hl 10 rfl) ?_
                refine b_icmp_ne (tgt := 199) hx hb dL_isLease_192 (by decide) (fun (hh120 : ¬ (lnG σ n (σ 3 (ix p3)) x8 24 0).toInt = p3.toInt) => absurd hh120 (by exact fun q => q (((ln_iff hI9 hk).mpr ⟨by omega, by omega⟩).trans (ix_toInt hp.1)))) (fun (hh120 : (lnG σ n (σ 3 (ix p3)) x8 24 0).toInt = p3.toInt) => ?_)
                refine lv_iconst (v := 1) hx hb dL_isLease_195 (by decide) ?_
                refine lv_goto (tgt := 200) hx hb dL_isLease_196 (by decide) ?_
                refine lv_iload hx hb dL_isLease_200 (lv_at hl 2 rfl) ?_
                refine b_icmp_ne (tgt := 209) hx hb dL_isLease_202 (by decide) (fun h => absurd h (by decide)) (fun _ => ?_)
                refine lv_iconst (v := 1) hx hb dL_isLease_205 (by decide) ?_
                refine lv_goto (tgt := 210) hx hb dL_isLease_206 (by decide) ?_
                refine lv_istore (lv' := [(7, .int 1), (5, .int (x5 + (rfF σ (ix p3) x8))), (11, .int 1), (10, .int 1), (9, .int (rfF σ (ix p3) x8)), (8, .int x8), (6, .int v1), (0, .ref (ad 0)), (1, .ref (ad 5)), (2, .ref (ad 8)), (3, .int p3), (4, .int p4)]) hx hb dL_isLease_210 hl (by decide) rfl (fun ls hl => ?_)
                refine lv_iinc (v := x8 + 1) (lv' := [(8, .int (x8 + 1)), (7, .int 1), (5, .int (x5 + (rfF σ (ix p3) x8))), (11, .int 1), (10, .int 1), (9, .int (rfF σ (ix p3) x8)), (6, .int v1), (0, .ref (ad 0)), (1, .ref (ad 5)), (2, .ref (ad 8)), (3, .int p3), (4, .int p4)]) hx hb dL_isLease_212 hl (k := 5) rfl rfl (by decide) rfl (fun ls hl => ?_)
                refine lv_goto (tgt := 17) hx hb dL_isLease_215 (by decide) ?_
                have hx8 : x8 = p4 * 30 + nI i := i_addnI (by omega) (by omega) (by omega) (by omega)
                exact W.widen (by omega) (by omega) (ih (x8 + 1, x5 + (rfF σ (ix p3) x8)) _ _ _ ⟨⟨by rw [i_add1 (by omega)]; omega, by omega, by rw [hsum, bdP, ← hx8]⟩, hY, lv_sub hl [0, 2, 1, 6, 7, 8, 9, 10, 11] rfl⟩)
  · intro i x H locs ls hI
    obtain ⟨x8, x5⟩ := x
    obtain ⟨hI, -, -⟩ := hI
    obtain ⟨h0, h9, hsum⟩ := hI
    omega

set_option maxHeartbeats 4000000 in
set_option maxRecDepth 100000 in
theorem c_L_isLease (l : Launch) (G : GG) (ad : Nat → Nat) (σ : St) (n : Nat) (τ : St) (hst : l.stackTraces = false) (hLI : LI σ n τ) (p3 p4 : Int32) (hp : 0 ≤ p3.toInt ∧ p3.toInt < (n : Int)) (h4 : 0 ≤ p4.toInt ∧ p4.toInt < 240) : Met l yL_isLease wsL_isLease ({ frames := 9, cells := 3000, slots := 18000, locals := 190 }) (PcS G ad σ n τ [.ref (ad 0), .ref (ad 5), .ref (ad 8), .int p3, .int p4]) (Qi G (3 * n + 9) ad (ctS G ad σ n τ) (fun r => r = 1)) 3000 18000 (gF G) := by
  refine Met.ofW (cc := cL_isLease) (maxL := 12) (ret := (some .boolean)) (by decide) rfl ?_
  intro p e s m args below meth c s₁ B hml hv
  obtain ⟨rfl, hY⟩ := hv
  have hts := atoms_spec (ws := wsL_isLease) B.pre
  have hC : CallFix p m c cL_isLease 12 s _ wsL_isLease RL := ⟨B.exec, B.bytes, hml, findClass_of_methodNamed B.named, hts⟩
  have hl := lv_entry ([.ref (ad 0), .ref (ad 5), .ref (ad 8), .int p3, .int p4]) (n := 12) (Nat.le_of_ble_eq_true rfl)
  rw [lg_entry_eq]
  generalize (lg_sl ([.ref (ad 0), .ref (ad 5), .ref (ad 8), .int p3, .int p4]) ++ List.replicate (12 - (lg_sl ([.ref (ad 0), .ref (ad 5), .ref (ad 8), .int p3, .int p4])).length) Slot.unset).toArray = ls at hl ⊢
  exact s_isLease l hst hC B.returns B.notSynchronized hLI hp h4 hY hl

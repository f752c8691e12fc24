/-! the reference's methods -/
set_option maxHeartbeats 4000000 in
set_option maxRecDepth 100000 in
theorem c_X2_setArea (l : Launch) (G : GG) (ad : Nat → Nat) (σ : St) (n : Nat) (τ : St) (j : Nat) (th : Int32) (o : OL) (od : OD) (hj : j ≤ 24) (p0 p1 : Int32)  : Met l yX2_setArea wsX2_setArea ({ frames := 4, cells := 0, slots := 0, locals := 120 }) (PcS G ad σ n τ j th o od [.ref (ad 5), .int p0, .int p1]) (Qi G (3 * n + 23) ad (ctS G ad σ n (if cdArea p0 p1 = 0 then (us τ 0 (ix p0) p1) else τ) j (cdArea p0 p1) o od) (fun r => cdArea p0 p1 = 0 → r = τ 0 (ix p0))) 0 0 (gF G) := by
  refine Met.ofW (cc := cX2_setArea) (maxL := 4) (ret := (some .int)) (by decide) rfl ?_
  intro p e s m args below meth c s₁ B hml hv
  obtain ⟨rfl, hY⟩ := hv
  have hts := atoms_spec (ws := wsX2_setArea) B.pre
  have hC : CallFix p m c cX2_setArea 4 s _ wsX2_setArea RX2 := ⟨B.exec, B.bytes, hml, findClass_of_methodNamed B.named, hts⟩
  have hx := hC.1
  have hb := hC.2.1
  have hr := B.returns
  have hlocks := B.notSynchronized
  have hin2 : ∀ w ∈ wsX20, w ∈ wsX2_setArea := by decide +kernel
  have hl := lv_entry ([.ref (ad 5), .int p0, .int p1]) (n := 4) (Nat.le_of_ble_eq_true rfl)
  rw [lg_entry_eq]
  generalize (lg_sl ([.ref (ad 5), .int p0, .int p1]) ++ List.replicate (4 - (lg_sl ([.ref (ad 5), .int p0, .int p1])).length) Slot.unset).toArray = ls at hl ⊢
  have hl : lv_has ls 4 [(0, .ref (ad 5)), (1, .int p0), (2, .int p1)] := hl
  have hnj : (nI j).toInt = (j : Int) := i_nI (by omega)
  refine lv_aload_n hx hb dX2_setArea_0 rfl (lv_at hl 0 rfl) ?_
  refine lv_iload_n hx hb dX2_setArea_1 rfl (lv_at hl 1 rfl) ?_
  refine lv_iconst (v := 0) hx hb dX2_setArea_2 (by decide) ?_
  refine lv_iconst (v := 5) hx hb dX2_setArea_3 (by decide) ?_
  refine g_calli hY (g_runS (n := 3) hC (c_X2_isIn l G ad σ n τ j th o od p0 0 5 0 5 rfl rfl) gX2_setArea_X2_isIn rfl ⟨rfl, rfl⟩ (by decide +kernel) ⟨Nat.le_of_ble_eq_true rfl, Nat.le_of_ble_eq_true rfl⟩ hY rfl hl.1 rfl (Nat.le_of_ble_eq_true rfl) dX2_setArea_4 ⟨Nat.le_of_ble_eq_true rfl, Nat.le_of_ble_eq_true rfl⟩) (fun r1 H locs h2 hY => ?_)
  rcases h2 with ⟨rfl, h3⟩ | ⟨rfl, h3⟩
  · refine b_if_ne (tgt := 14) hx hb dX2_setArea_7 (by decide) (fun _ => ?_) (fun h => absurd h (by decide))
    refine lv_iload_n hx hb dX2_setArea_14 rfl (lv_at hl 2 rfl) ?_
    refine lv_iconst (v := 0) hx hb dX2_setArea_15 (by decide) ?_
    refine lv_sipush (v := 999) hx hb dX2_setArea_16 (by decide) ?_
    refine g_calli hY (g_runS (n := 3) hC (c_X2_isIn l G ad σ n τ j th o od p1 0 999 0 999 rfl rfl) gX2_setArea_X2_isIn rfl ⟨rfl, rfl⟩ (by decide +kernel) ⟨Nat.le_of_ble_eq_true rfl, Nat.le_of_ble_eq_true rfl⟩ hY rfl hl.1 rfl (Nat.le_of_ble_eq_true rfl) dX2_setArea_19 ⟨Nat.le_of_ble_eq_true rfl, Nat.le_of_ble_eq_true rfl⟩) (fun r5 H locs h6 hY => ?_)
    rcases h6 with ⟨rfl, h7⟩ | ⟨rfl, h7⟩
    · refine b_if_eq (tgt := 29) hx hb dX2_setArea_22 (by decide) (fun h => absurd h (by decide)) (fun _ => ?_)
      refine lv_iconst (v := 0) hx hb dX2_setArea_25 (by decide) ?_
      refine lv_goto (tgt := 30) hx hb dX2_setArea_26 (by decide) ?_
      refine g_calli hY (g_runV (n := 1) (q := (RX2, TX2, 17)) (r := 5) hC (c_X2_holds l G ad σ n τ j th o od 0) gX2_setArea_X2_holds rfl ⟨rfl, rfl⟩ (by decide +kernel) ⟨Nat.le_of_ble_eq_true rfl, Nat.le_of_ble_eq_true rfl⟩ hY (by omega) rfl (ci := 2) rfl rfl hl.1 rfl (Nat.le_of_ble_eq_true rfl) dX2_setArea_30 ⟨Nat.le_of_ble_eq_true rfl, Nat.le_of_ble_eq_true rfl⟩) (fun r9 H locs h10 hY => ?_)
      obtain ⟨rfl, -⟩ := h10.resolve_right (fun q => q.2 rfl)
      refine b_if_ne (tgt := 38) hx hb dX2_setArea_33 (by decide) (fun _ => ?_) (fun h => absurd h (by decide))
      refine lv_aload_n hx hb dX2_setArea_38 rfl (lv_at hl 0 rfl) ?_
      refine gtM_areas hC hin2 hY (by decide +kernel) dX2_setArea_39 ?_
      refine lv_iload_n hx hb dX2_setArea_42 rfl (lv_at hl 1 rfl) ?_
      refine rdM0 hC hY ⟨by omega, by omega⟩ dX2_setArea_43 ?_
      refine lv_istore_n (lv' := [(3, .int (τ 0 (ix p0))), (0, .ref (ad 5)), (1, .int p0), (2, .int p1)]) hx hb dX2_setArea_44 rfl hl (by decide) rfl (fun ls hl => ?_)
      refine lv_aload_n hx hb dX2_setArea_45 rfl (lv_at hl 1 rfl) ?_
      refine gtM_areas hC hin2 hY (by decide +kernel) dX2_setArea_46 ?_
      refine lv_iload_n hx hb dX2_setArea_49 rfl (lv_at hl 2 rfl) ?_
      refine lv_iload_n hx hb dX2_setArea_50 rfl (lv_at hl 3 rfl) ?_
      refine wrM0 hC hY ⟨by omega, by omega⟩ dX2_setArea_51 (fun H locs hY => ?_)
      refine lv_iload_n hx hb dX2_setArea_52 rfl (lv_at hl 0 rfl) ?_
      have hcd : cdArea p0 p1 = 0 := by unfold cdArea; (repeat' split) <;> first | rfl | omega
      rw [hcd]
      rw [if_pos rfl]
      exact g_iret hC hr hlocks hY ⟨Nat.le_of_ble_eq_true rfl, Nat.le_of_ble_eq_true rfl⟩ dX2_setArea_53 (fun _ => rfl)
    · refine b_if_eq (tgt := 29) hx hb dX2_setArea_22 (by decide) (fun _ => ?_) (fun h => absurd h (by decide))
      refine lv_iconst (v := 2) hx hb dX2_setArea_29 (by decide) ?_
      refine g_calli hY (g_runV (n := 1) (q := (RX2, TX2, 17)) (r := 5) hC (c_X2_holds l G ad σ n τ j th o od 2) gX2_setArea_X2_holds rfl ⟨rfl, rfl⟩ (by decide +kernel) ⟨Nat.le_of_ble_eq_true rfl, Nat.le_of_ble_eq_true rfl⟩ hY (by omega) rfl (ci := 2) rfl rfl hl.1 rfl (Nat.le_of_ble_eq_true rfl) dX2_setArea_30 ⟨Nat.le_of_ble_eq_true rfl, Nat.le_of_ble_eq_true rfl⟩) (fun r13 H locs h14 hY => ?_)
      obtain ⟨rfl, -⟩ := h14.resolve_left (fun q => absurd q.2 (by decide))
      refine b_if_ne (tgt := 38) hx hb dX2_setArea_33 (by decide) (fun h => absurd h (by decide)) (fun _ => ?_)
      refine lv_iconst (v := 0) hx hb dX2_setArea_36 (by decide) ?_
      have hcd : cdArea p0 p1 = 2 := by unfold cdArea; (repeat' split) <;> first | rfl | omega
      rw [hcd]
      rw [if_neg (by decide)]
      exact g_iret hC hr hlocks hY ⟨Nat.le_of_ble_eq_true rfl, Nat.le_of_ble_eq_true rfl⟩ dX2_setArea_37 (fun q => absurd q (by decide))
  · refine b_if_ne (tgt := 14) hx hb dX2_setArea_7 (by decide) (fun h => absurd h (by decide)) (fun _ => ?_)
    refine lv_iconst (v := 1) hx hb dX2_setArea_10 (by decide) ?_
    refine lv_goto (tgt := 30) hx hb dX2_setArea_11 (by decide) ?_
    refine g_calli hY (g_runV (n := 1) (q := (RX2, TX2, 17)) (r := 5) hC (c_X2_holds l G ad σ n τ j th o od 1) gX2_setArea_X2_holds rfl ⟨rfl, rfl⟩ (by decide +kernel) ⟨Nat.le_of_ble_eq_true rfl, Nat.le_of_ble_eq_true rfl⟩ hY (by omega) rfl (ci := 2) rfl rfl hl.1 rfl (Nat.le_of_ble_eq_true rfl) dX2_setArea_30 ⟨Nat.le_of_ble_eq_true rfl, Nat.le_of_ble_eq_true rfl⟩) (fun r17 H locs h18 hY => ?_)
    obtain ⟨rfl, -⟩ := h18.resolve_left (fun q => absurd q.2 (by decide))
    refine b_if_ne (tgt := 38) hx hb dX2_setArea_33 (by decide) (fun h => absurd h (by decide)) (fun _ => ?_)
    refine lv_iconst (v := 0) hx hb dX2_setArea_36 (by decide) ?_
    have hcd : cdArea p0 p1 = 1 := by unfold cdArea; (repeat' split) <;> first | rfl | omega
    rw [hcd]
    rw [if_neg (by decide)]
    exact g_iret hC hr hlocks hY ⟨Nat.le_of_ble_eq_true rfl, Nat.le_of_ble_eq_true rfl⟩ dX2_setArea_37 (fun q => absurd q (by decide))

set_option maxHeartbeats 4000000 in
set_option maxRecDepth 100000 in
theorem c_X2_setIndex (l : Launch) (G : GG) (ad : Nat → Nat) (σ : St) (n : Nat) (τ : St) (j : Nat) (th : Int32) (o : OL) (od : OD) (hj : j ≤ 24) (p0 p1 : Int32)  : Met l yX2_setIndex wsX2_setIndex ({ frames := 4, cells := 0, slots := 0, locals := 120 }) (PcS G ad σ n τ j th o od [.ref (ad 5), .int p0, .int p1]) (Qi G (3 * n + 23) ad (ctS G ad σ n (if cdIndex p0 p1 = 0 then (us τ 1 (ix p0) p1) else τ) j (cdIndex p0 p1) o od) (fun r => cdIndex p0 p1 = 0 → r = τ 1 (ix p0))) 0 0 (gF G) := by
  refine Met.ofW (cc := cX2_setIndex) (maxL := 4) (ret := (some .int)) (by decide) rfl ?_
  intro p e s m args below meth c s₁ B hml hv
  obtain ⟨rfl, hY⟩ := hv
  have hts := atoms_spec (ws := wsX2_setIndex) B.pre
  have hC : CallFix p m c cX2_setIndex 4 s _ wsX2_setIndex RX2 := ⟨B.exec, B.bytes, hml, findClass_of_methodNamed B.named, hts⟩
  have hx := hC.1
  have hb := hC.2.1
  have hr := B.returns
  have hlocks := B.notSynchronized
  have hin2 : ∀ w ∈ wsX20, w ∈ wsX2_setIndex := by decide +kernel
  have hl := lv_entry ([.ref (ad 5), .int p0, .int p1]) (n := 4) (Nat.le_of_ble_eq_true rfl)
  rw [lg_entry_eq]
  generalize (lg_sl ([.ref (ad 5), .int p0, .int p1]) ++ List.replicate (4 - (lg_sl ([.ref (ad 5), .int p0, .int p1])).length) Slot.unset).toArray = ls at hl ⊢
  have hl : lv_has ls 4 [(0, .ref (ad 5)), (1, .int p0), (2, .int p1)] := hl
  have hnj : (nI j).toInt = (j : Int) := i_nI (by omega)
  refine lv_aload_n hx hb dX2_setIndex_0 rfl (lv_at hl 0 rfl) ?_
  refine lv_iload_n hx hb dX2_setIndex_1 rfl (lv_at hl 1 rfl) ?_
  refine lv_iconst (v := 0) hx hb dX2_setIndex_2 (by decide) ?_
  refine lv_sipush (v := 239) hx hb dX2_setIndex_3 (by decide) ?_
  refine g_calli hY (g_runS (n := 3) hC (c_X2_isIn l G ad σ n τ j th o od p0 0 239 0 239 rfl rfl) gX2_setIndex_X2_isIn rfl ⟨rfl, rfl⟩ (by decide +kernel) ⟨Nat.le_of_ble_eq_true rfl, Nat.le_of_ble_eq_true rfl⟩ hY rfl hl.1 rfl (Nat.le_of_ble_eq_true rfl) dX2_setIndex_6 ⟨Nat.le_of_ble_eq_true rfl, Nat.le_of_ble_eq_true rfl⟩) (fun r1 H locs h2 hY => ?_)
  rcases h2 with ⟨rfl, h3⟩ | ⟨rfl, h3⟩
  · refine b_if_ne (tgt := 16) hx hb dX2_setIndex_9 (by decide) (fun _ => ?_) (fun h => absurd h (by decide))
    refine lv_iload_n hx hb dX2_setIndex_16 rfl (lv_at hl 2 rfl) ?_
    refine lv_bipush (v := 10) hx hb dX2_setIndex_17 (by decide) ?_
    refine lv_sipush (v := 999) hx hb dX2_setIndex_19 (by decide) ?_
    refine g_calli hY (g_runS (n := 3) hC (c_X2_isIn l G ad σ n τ j th o od p1 10 999 10 999 rfl rfl) gX2_setIndex_X2_isIn rfl ⟨rfl, rfl⟩ (by decide +kernel) ⟨Nat.le_of_ble_eq_true rfl, Nat.le_of_ble_eq_true rfl⟩ hY rfl hl.1 rfl (Nat.le_of_ble_eq_true rfl) dX2_setIndex_22 ⟨Nat.le_of_ble_eq_true rfl, Nat.le_of_ble_eq_true rfl⟩) (fun r5 H locs h6 hY => ?_)
    rcases h6 with ⟨rfl, h7⟩ | ⟨rfl, h7⟩
    · refine b_if_eq (tgt := 32) hx hb dX2_setIndex_25 (by decide) (fun h => absurd h (by decide)) (fun _ => ?_)
      refine lv_iconst (v := 0) hx hb dX2_setIndex_28 (by decide) ?_
      refine lv_goto (tgt := 33) hx hb dX2_setIndex_29 (by decide) ?_
      refine g_calli hY (g_runV (n := 1) (q := (RX2, TX2, 17)) (r := 5) hC (c_X2_holds l G ad σ n τ j th o od 0) gX2_setIndex_X2_holds rfl ⟨rfl, rfl⟩ (by decide +kernel) ⟨Nat.le_of_ble_eq_true rfl, Nat.le_of_ble_eq_true rfl⟩ hY (by omega) rfl (ci := 2) rfl rfl hl.1 rfl (Nat.le_of_ble_eq_true rfl) dX2_setIndex_33 ⟨Nat.le_of_ble_eq_true rfl, Nat.le_of_ble_eq_true rfl⟩) (fun r9 H locs h10 hY => ?_)
      obtain ⟨rfl, -⟩ := h10.resolve_right (fun q => q.2 rfl)
      refine b_if_ne (tgt := 41) hx hb dX2_setIndex_36 (by decide) (fun _ => ?_) (fun h => absurd h (by decide))
      refine lv_aload_n hx hb dX2_setIndex_41 rfl (lv_at hl 0 rfl) ?_
      refine gtM_indices hC hin2 hY (by decide +kernel) dX2_setIndex_42 ?_
      refine lv_iload_n hx hb dX2_setIndex_45 rfl (lv_at hl 1 rfl) ?_
      refine rdM1 hC hY ⟨by omega, by omega⟩ dX2_setIndex_46 ?_
      refine lv_istore_n (lv' := [(3, .int (τ 1 (ix p0))), (0, .ref (ad 5)), (1, .int p0), (2, .int p1)]) hx hb dX2_setIndex_47 rfl hl (by decide) rfl (fun ls hl => ?_)
      refine lv_aload_n hx hb dX2_setIndex_48 rfl (lv_at hl 1 rfl) ?_
      refine gtM_indices hC hin2 hY (by decide +kernel) dX2_setIndex_49 ?_
      refine lv_iload_n hx hb dX2_setIndex_52 rfl (lv_at hl 2 rfl) ?_
      refine lv_iload_n hx hb dX2_setIndex_53 rfl (lv_at hl 3 rfl) ?_
      refine wrM1 hC hY ⟨by omega, by omega⟩ dX2_setIndex_54 (fun H locs hY => ?_)
      refine lv_iload_n hx hb dX2_setIndex_55 rfl (lv_at hl 0 rfl) ?_
      have hcd : cdIndex p0 p1 = 0 := by unfold cdIndex; (repeat' split) <;> first | rfl | omega
      rw [hcd]
      rw [if_pos rfl]
      exact g_iret hC hr hlocks hY ⟨Nat.le_of_ble_eq_true rfl, Nat.le_of_ble_eq_true rfl⟩ dX2_setIndex_56 (fun _ => rfl)
    · refine b_if_eq (tgt := 32) hx hb dX2_setIndex_25 (by decide) (fun _ => ?_) (fun h => absurd h (by decide))
      refine lv_iconst (v := 2) hx hb dX2_setIndex_32 (by decide) ?_
      refine g_calli hY (g_runV (n := 1) (q := (RX2, TX2, 17)) (r := 5) hC (c_X2_holds l G ad σ n τ j th o od 2) gX2_setIndex_X2_holds rfl ⟨rfl, rfl⟩ (by decide +kernel) ⟨Nat.le_of_ble_eq_true rfl, Nat.le_of_ble_eq_true rfl⟩ hY (by omega) rfl (ci := 2) rfl rfl hl.1 rfl (Nat.le_of_ble_eq_true rfl) dX2_setIndex_33 ⟨Nat.le_of_ble_eq_true rfl, Nat.le_of_ble_eq_true rfl⟩) (fun r13 H locs h14 hY => ?_)
      obtain ⟨rfl, -⟩ := h14.resolve_left (fun q => absurd q.2 (by decide))
      refine b_if_ne (tgt := 41) hx hb dX2_setIndex_36 (by decide) (fun h => absurd h (by decide)) (fun _ => ?_)
      refine lv_iconst (v := 0) hx hb dX2_setIndex_39 (by decide) ?_
      have hcd : cdIndex p0 p1 = 2 := by unfold cdIndex; (repeat' split) <;> first | rfl | omega
      rw [hcd]
      rw [if_neg (by decide)]
      exact g_iret hC hr hlocks hY ⟨Nat.le_of_ble_eq_true rfl, Nat.le_of_ble_eq_true rfl⟩ dX2_setIndex_40 (fun q => absurd q (by decide))
  · refine b_if_ne (tgt := 16) hx hb dX2_setIndex_9 (by decide) (fun h => absurd h (by decide)) (fun _ => ?_)
    refine lv_iconst (v := 1) hx hb dX2_setIndex_12 (by decide) ?_
    refine lv_goto (tgt := 33) hx hb dX2_setIndex_13 (by decide) ?_
    refine g_calli hY (g_runV (n := 1) (q := (RX2, TX2, 17)) (r := 5) hC (c_X2_holds l G ad σ n τ j th o od 1) gX2_setIndex_X2_holds rfl ⟨rfl, rfl⟩ (by decide +kernel) ⟨Nat.le_of_ble_eq_true rfl, Nat.le_of_ble_eq_true rfl⟩ hY (by omega) rfl (ci := 2) rfl rfl hl.1 rfl (Nat.le_of_ble_eq_true rfl) dX2_setIndex_33 ⟨Nat.le_of_ble_eq_true rfl, Nat.le_of_ble_eq_true rfl⟩) (fun r17 H locs h18 hY => ?_)
    obtain ⟨rfl, -⟩ := h18.resolve_left (fun q => absurd q.2 (by decide))
    refine b_if_ne (tgt := 41) hx hb dX2_setIndex_36 (by decide) (fun h => absurd h (by decide)) (fun _ => ?_)
    refine lv_iconst (v := 0) hx hb dX2_setIndex_39 (by decide) ?_
    have hcd : cdIndex p0 p1 = 1 := by unfold cdIndex; (repeat' split) <;> first | rfl | omega
    rw [hcd]
    rw [if_neg (by decide)]
    exact g_iret hC hr hlocks hY ⟨Nat.le_of_ble_eq_true rfl, Nat.le_of_ble_eq_true rfl⟩ dX2_setIndex_40 (fun q => absurd q (by decide))

set_option maxHeartbeats 4000000 in
set_option maxRecDepth 100000 in
theorem c_X2_setCost (l : Launch) (G : GG) (ad : Nat → Nat) (σ : St) (n : Nat) (τ : St) (j : Nat) (th : Int32) (o : OL) (od : OD) (hj : j ≤ 24) (p0 p1 : Int32)  : Met l yX2_setCost wsX2_setCost ({ frames := 4, cells := 0, slots := 0, locals := 120 }) (PcS G ad σ n τ j th o od [.ref (ad 5), .int p0, .int p1]) (Qi G (3 * n + 23) ad (ctS G ad σ n (if cdCost p0 p1 = 0 then (us τ 2 (ix p0) p1) else τ) j (cdCost p0 p1) o od) (fun r => cdCost p0 p1 = 0 → r = τ 2 (ix p0))) 0 0 (gF G) := by
  refine Met.ofW (cc := cX2_setCost) (maxL := 4) (ret := (some .int)) (by decide) rfl ?_
  intro p e s m args below meth c s₁ B hml hv
  obtain ⟨rfl, hY⟩ := hv
  have hts := atoms_spec (ws := wsX2_setCost) B.pre
  have hC : CallFix p m c cX2_setCost 4 s _ wsX2_setCost RX2 := ⟨B.exec, B.bytes, hml, findClass_of_methodNamed B.named, hts⟩
  have hx := hC.1
  have hb := hC.2.1
  have hr := B.returns
  have hlocks := B.notSynchronized
  have hin2 : ∀ w ∈ wsX20, w ∈ wsX2_setCost := by decide +kernel
  have hl := lv_entry ([.ref (ad 5), .int p0, .int p1]) (n := 4) (Nat.le_of_ble_eq_true rfl)
  rw [lg_entry_eq]
  generalize (lg_sl ([.ref (ad 5), .int p0, .int p1]) ++ List.replicate (4 - (lg_sl ([.ref (ad 5), .int p0, .int p1])).length) Slot.unset).toArray = ls at hl ⊢
  have hl : lv_has ls 4 [(0, .ref (ad 5)), (1, .int p0), (2, .int p1)] := hl
  have hnj : (nI j).toInt = (j : Int) := i_nI (by omega)
  refine lv_aload_n hx hb dX2_setCost_0 rfl (lv_at hl 0 rfl) ?_
  refine lv_iload_n hx hb dX2_setCost_1 rfl (lv_at hl 1 rfl) ?_
  refine lv_iconst (v := 0) hx hb dX2_setCost_2 (by decide) ?_
  refine lv_bipush (v := 19) hx hb dX2_setCost_3 (by decide) ?_
  refine g_calli hY (g_runS (n := 3) hC (c_X2_isIn l G ad σ n τ j th o od p0 0 19 0 19 rfl rfl) gX2_setCost_X2_isIn rfl ⟨rfl, rfl⟩ (by decide +kernel) ⟨Nat.le_of_ble_eq_true rfl, Nat.le_of_ble_eq_true rfl⟩ hY rfl hl.1 rfl (Nat.le_of_ble_eq_true rfl) dX2_setCost_5 ⟨Nat.le_of_ble_eq_true rfl, Nat.le_of_ble_eq_true rfl⟩) (fun r1 H locs h2 hY => ?_)
  rcases h2 with ⟨rfl, h3⟩ | ⟨rfl, h3⟩
  · refine b_if_ne (tgt := 15) hx hb dX2_setCost_8 (by decide) (fun _ => ?_) (fun h => absurd h (by decide))
    refine lv_iload_n hx hb dX2_setCost_15 rfl (lv_at hl 2 rfl) ?_
    refine lv_iconst (v := 0) hx hb dX2_setCost_16 (by decide) ?_
    refine lv_ldc (v := 999999) hx hb hC.2.2.2.1 (hC.2.2.2.2 _ (by decide +kernel)) dX2_setCost_17 ?_
    refine g_calli hY (g_runS (n := 3) hC (c_X2_isIn l G ad σ n τ j th o od p1 0 999999 0 999999 rfl rfl) gX2_setCost_X2_isIn rfl ⟨rfl, rfl⟩ (by decide +kernel) ⟨Nat.le_of_ble_eq_true rfl, Nat.le_of_ble_eq_true rfl⟩ hY rfl hl.1 rfl (Nat.le_of_ble_eq_true rfl) dX2_setCost_19 ⟨Nat.le_of_ble_eq_true rfl, Nat.le_of_ble_eq_true rfl⟩) (fun r5 H locs h6 hY => ?_)
    rcases h6 with ⟨rfl, h7⟩ | ⟨rfl, h7⟩
    · refine b_if_eq (tgt := 29) hx hb dX2_setCost_22 (by decide) (fun h => absurd h (by decide)) (fun _ => ?_)
      refine lv_iconst (v := 0) hx hb dX2_setCost_25 (by decide) ?_
      refine lv_goto (tgt := 30) hx hb dX2_setCost_26 (by decide) ?_
      refine g_calli hY (g_runV (n := 1) (q := (RX2, TX2, 17)) (r := 5) hC (c_X2_holds l G ad σ n τ j th o od 0) gX2_setCost_X2_holds rfl ⟨rfl, rfl⟩ (by decide +kernel) ⟨Nat.le_of_ble_eq_true rfl, Nat.le_of_ble_eq_true rfl⟩ hY (by omega) rfl (ci := 2) rfl rfl hl.1 rfl (Nat.le_of_ble_eq_true rfl) dX2_setCost_30 ⟨Nat.le_of_ble_eq_true rfl, Nat.le_of_ble_eq_true rfl⟩) (fun r9 H locs h10 hY => ?_)
      obtain ⟨rfl, -⟩ := h10.resolve_right (fun q => q.2 rfl)
      refine b_if_ne (tgt := 38) hx hb dX2_setCost_33 (by decide) (fun _ => ?_) (fun h => absurd h (by decide))
      refine lv_aload_n hx hb dX2_setCost_38 rfl (lv_at hl 0 rfl) ?_
      refine gtM_costs hC hin2 hY (by decide +kernel) dX2_setCost_39 ?_
      refine lv_iload_n hx hb dX2_setCost_42 rfl (lv_at hl 1 rfl) ?_
      refine rdM2 hC hY ⟨by omega, by omega⟩ dX2_setCost_43 ?_
      refine lv_istore_n (lv' := [(3, .int (τ 2 (ix p0))), (0, .ref (ad 5)), (1, .int p0), (2, .int p1)]) hx hb dX2_setCost_44 rfl hl (by decide) rfl (fun ls hl => ?_)
      refine lv_aload_n hx hb dX2_setCost_45 rfl (lv_at hl 1 rfl) ?_
      refine gtM_costs hC hin2 hY (by decide +kernel) dX2_setCost_46 ?_
      refine lv_iload_n hx hb dX2_setCost_49 rfl (lv_at hl 2 rfl) ?_
      refine lv_iload_n hx hb dX2_setCost_50 rfl (lv_at hl 3 rfl) ?_
      refine wrM2 hC hY ⟨by omega, by omega⟩ dX2_setCost_51 (fun H locs hY => ?_)
      refine lv_iload_n hx hb dX2_setCost_52 rfl (lv_at hl 0 rfl) ?_
      have hcd : cdCost p0 p1 = 0 := by unfold cdCost; (repeat' split) <;> first | rfl | omega
      rw [hcd]
      rw [if_pos rfl]
      exact g_iret hC hr hlocks hY ⟨Nat.le_of_ble_eq_true rfl, Nat.le_of_ble_eq_true rfl⟩ dX2_setCost_53 (fun _ => rfl)
    · refine b_if_eq (tgt := 29) hx hb dX2_setCost_22 (by decide) (fun _ => ?_) (fun h => absurd h (by decide))
      refine lv_iconst (v := 2) hx hb dX2_setCost_29 (by decide) ?_
      refine g_calli hY (g_runV (n := 1) (q := (RX2, TX2, 17)) (r := 5) hC (c_X2_holds l G ad σ n τ j th o od 2) gX2_setCost_X2_holds rfl ⟨rfl, rfl⟩ (by decide +kernel) ⟨Nat.le_of_ble_eq_true rfl, Nat.le_of_ble_eq_true rfl⟩ hY (by omega) rfl (ci := 2) rfl rfl hl.1 rfl (Nat.le_of_ble_eq_true rfl) dX2_setCost_30 ⟨Nat.le_of_ble_eq_true rfl, Nat.le_of_ble_eq_true rfl⟩) (fun r13 H locs h14 hY => ?_)
      obtain ⟨rfl, -⟩ := h14.resolve_left (fun q => absurd q.2 (by decide))
      refine b_if_ne (tgt := 38) hx hb dX2_setCost_33 (by decide) (fun h => absurd h (by decide)) (fun _ => ?_)
      refine lv_iconst (v := 0) hx hb dX2_setCost_36 (by decide) ?_
      have hcd : cdCost p0 p1 = 2 := by unfold cdCost; (repeat' split) <;> first | rfl | omega
      rw [hcd]
      rw [if_neg (by decide)]
      exact g_iret hC hr hlocks hY ⟨Nat.le_of_ble_eq_true rfl, Nat.le_of_ble_eq_true rfl⟩ dX2_setCost_37 (fun q => absurd q (by decide))
  · refine b_if_ne (tgt := 15) hx hb dX2_setCost_8 (by decide) (fun h => absurd h (by decide)) (fun _ => ?_)
    refine lv_iconst (v := 1) hx hb dX2_setCost_11 (by decide) ?_
    refine lv_goto (tgt := 30) hx hb dX2_setCost_12 (by decide) ?_
    refine g_calli hY (g_runV (n := 1) (q := (RX2, TX2, 17)) (r := 5) hC (c_X2_holds l G ad σ n τ j th o od 1) gX2_setCost_X2_holds rfl ⟨rfl, rfl⟩ (by decide +kernel) ⟨Nat.le_of_ble_eq_true rfl, Nat.le_of_ble_eq_true rfl⟩ hY (by omega) rfl (ci := 2) rfl rfl hl.1 rfl (Nat.le_of_ble_eq_true rfl) dX2_setCost_30 ⟨Nat.le_of_ble_eq_true rfl, Nat.le_of_ble_eq_true rfl⟩) (fun r17 H locs h18 hY => ?_)
    obtain ⟨rfl, -⟩ := h18.resolve_left (fun q => absurd q.2 (by decide))
    refine b_if_ne (tgt := 38) hx hb dX2_setCost_33 (by decide) (fun h => absurd h (by decide)) (fun _ => ?_)
    refine lv_iconst (v := 0) hx hb dX2_setCost_36 (by decide) ?_
    have hcd : cdCost p0 p1 = 1 := by unfold cdCost; (repeat' split) <;> first | rfl | omega
    rw [hcd]
    rw [if_neg (by decide)]
    exact g_iret hC hr hlocks hY ⟨Nat.le_of_ble_eq_true rfl, Nat.le_of_ble_eq_true rfl⟩ dX2_setCost_37 (fun q => absurd q (by decide))

def cdLetM (σ : St) (n : Nat) (p0 p1 p2 p3 : Int32) : Int32 := if 0 ≤ p0.toInt ∧ p0.toInt < 6 then (if (0 ≤ p1.toInt ∧ p1.toInt ≤ 7199) ∧ p1.toInt < p2.toInt ∧ p2.toInt ≤ 7200 ∧ 1 ≤ p3.toInt ∧ p3.toInt ≤ 99999 then (if n = 24 ∨ ¬ (ilP σ p0 p1 p2 n).toInt = 0 then 3 else 0) else 2) else 1
abbrev ltS (σ : St) (n : Nat) (p0 p1 p2 p3 : Int32) : St := us (us (us (us (us σ 3 n p0) 4 n p1) 5 n p2) 6 n p3) 9 n (-1)
set_option maxHeartbeats 4000000 in
set_option maxRecDepth 100000 in
theorem c_X2_let (l : Launch) (G : GG) (ad : Nat → Nat) (σ : St) (n : Nat) (τ : St) (j : Nat) (th : Int32) (o : OL) (od : OD) (hj : j ≤ 24) (p0 p1 p2 p3 : Int32)  : Met l yX2_let wsX2_let ({ frames := 4, cells := 0, slots := 0, locals := 120 }) (PcS G ad σ n τ j th o od [.ref (ad 5), .int p0, .int p1, .int p2, .int p3]) (Qi G (3 * n + 23) ad (ctS G ad σ n (if cdLetM τ j p0 p1 p2 p3 = 0 then (ltS τ j p0 p1 p2 p3) else τ) (if cdLetM τ j p0 p1 p2 p3 = 0 then (j + 1) else j) (cdLetM τ j p0 p1 p2 p3) o od) (fun r => cdLetM τ j p0 p1 p2 p3 = 0 → r = nI j)) 0 0 (gF G) := by
  refine Met.ofW (cc := cX2_let) (maxL := 7) (ret := (some .int)) (by decide) rfl ?_
  intro p e s m args below meth c s₁ B hml hv
  obtain ⟨rfl, hY⟩ := hv
  have hts := atoms_spec (ws := wsX2_let) B.pre
  have hC : CallFix p m c cX2_let 7 s _ wsX2_let RX2 := ⟨B.exec, B.bytes, hml, findClass_of_methodNamed B.named, hts⟩
  have hx := hC.1
  have hb := hC.2.1
  have hr := B.returns
  have hlocks := B.notSynchronized
  have hin2 : ∀ w ∈ wsX20, w ∈ wsX2_let := by decide +kernel
  have hl := lv_entry ([.ref (ad 5), .int p0, .int p1, .int p2, .int p3]) (n := 7) (Nat.le_of_ble_eq_true rfl)
  rw [lg_entry_eq]
  generalize (lg_sl ([.ref (ad 5), .int p0, .int p1, .int p2, .int p3]) ++ List.replicate (7 - (lg_sl ([.ref (ad 5), .int p0, .int p1, .int p2, .int p3])).length) Slot.unset).toArray = ls at hl ⊢
  have hl : lv_has ls 7 [(0, .ref (ad 5)), (1, .int p0), (2, .int p1), (3, .int p2), (4, .int p3)] := hl
  have hnj : (nI j).toInt = (j : Int) := i_nI (by omega)
  refine lv_iload_n hx hb dX2_let_0 rfl (lv_at hl 1 rfl) ?_
  refine lv_iconst (v := 0) hx hb dX2_let_1 (by decide) ?_
  refine lv_iconst (v := 5) hx hb dX2_let_2 (by decide) ?_
  refine g_calli hY (g_runS (n := 3) hC (c_X2_isIn l G ad σ n τ j th o od p0 0 5 0 5 rfl rfl) gX2_let_X2_isIn rfl ⟨rfl, rfl⟩ (by decide +kernel) ⟨Nat.le_of_ble_eq_true rfl, Nat.le_of_ble_eq_true rfl⟩ hY rfl hl.1 rfl (Nat.le_of_ble_eq_true rfl) dX2_let_3 ⟨Nat.le_of_ble_eq_true rfl, Nat.le_of_ble_eq_true rfl⟩) (fun r1 H locs h2 hY => ?_)
  rcases h2 with ⟨rfl, h3⟩ | ⟨rfl, h3⟩
  · refine lv_istore (lv' := [(5, .int 1), (0, .ref (ad 5)), (1, .int p0), (2, .int p1), (3, .int p2), (4, .int p3)]) hx hb dX2_let_6 hl (by decide) rfl (fun ls hl => ?_)
    refine lv_iload_n hx hb dX2_let_8 rfl (lv_at hl 3 rfl) ?_
    refine lv_iconst (v := 0) hx hb dX2_let_9 (by decide) ?_
    refine lv_sipush (v := 7199) hx hb dX2_let_10 (by decide) ?_
    refine g_calli hY (g_runS (n := 3) hC (c_X2_isIn l G ad σ n τ j th o od p1 0 7199 0 7199 rfl rfl) gX2_let_X2_isIn rfl ⟨rfl, rfl⟩ (by decide +kernel) ⟨Nat.le_of_ble_eq_true rfl, Nat.le_of_ble_eq_true rfl⟩ hY rfl hl.1 rfl (Nat.le_of_ble_eq_true rfl) dX2_let_13 ⟨Nat.le_of_ble_eq_true rfl, Nat.le_of_ble_eq_true rfl⟩) (fun r4 H locs h5 hY => ?_)
    rcases h5 with ⟨rfl, h6⟩ | ⟨rfl, h6⟩
    · refine b_if_eq (tgt := 46) hx hb dX2_let_16 (by decide) (fun h => absurd h (by decide)) (fun _ => ?_)
      refine lv_iload_n hx hb dX2_let_19 rfl (lv_at hl 4 rfl) ?_
      refine lv_iload_n hx hb dX2_let_20 rfl (lv_at hl 3 rfl) ?_
      refine b_icmp_le (tgt := 46) hx hb dX2_let_21 (by decide) (fun (h8 : p2.toInt ≤ p1.toInt) => ?_) (fun (h8 : p1.toInt < p2.toInt) => ?_)
      · refine lv_iconst (v := 0) hx hb dX2_let_46 (by decide) ?_
        refine lv_istore (lv' := [(6, .int 0), (5, .int 1), (0, .ref (ad 5)), (1, .int p0), (2, .int p1), (3, .int p2), (4, .int p3)]) hx hb dX2_let_47 hl (by decide) rfl (fun ls hl => ?_)
        refine lv_aload_n hx hb dX2_let_49 rfl (lv_at hl 2 rfl) ?_
        refine lv_iload hx hb dX2_let_50 (lv_at hl 1 rfl) ?_
        refine b_if_ne (tgt := 59) hx hb dX2_let_52 (by decide) (fun _ => ?_) (fun h => absurd h (by decide))
        refine lv_iload hx hb dX2_let_59 (lv_at hl 0 rfl) ?_
        refine b_if_ne (tgt := 68) hx hb dX2_let_61 (by decide) (fun h => absurd h (by decide)) (fun _ => ?_)
        refine lv_iconst (v := 2) hx hb dX2_let_64 (by decide) ?_
        refine lv_goto (tgt := 92) hx hb dX2_let_65 (by decide) ?_
        refine g_calli hY (g_runV (n := 1) (q := (RX2, TX2, 17)) (r := 5) hC (c_X2_holds l G ad σ n τ j th o od 2) gX2_let_X2_holds rfl ⟨rfl, rfl⟩ (by decide +kernel) ⟨Nat.le_of_ble_eq_true rfl, Nat.le_of_ble_eq_true rfl⟩ hY (by omega) rfl (ci := 2) rfl rfl hl.1 rfl (Nat.le_of_ble_eq_true rfl) dX2_let_92 ⟨Nat.le_of_ble_eq_true rfl, Nat.le_of_ble_eq_true rfl⟩) (fun r11 H locs h12 hY => ?_)
        obtain ⟨rfl, -⟩ := h12.resolve_left (fun q => absurd q.2 (by decide))
        refine b_if_ne (tgt := 100) hx hb dX2_let_95 (by decide) (fun h => absurd h (by decide)) (fun _ => ?_)
        refine lv_iconst (v := 0) hx hb dX2_let_98 (by decide) ?_
        have hcd : cdLetM τ j p0 p1 p2 p3 = 2 := by unfold cdLetM; (repeat' split) <;> first | rfl | omega
        rw [hcd]
        rw [if_neg (by decide), if_neg (by decide)]
        exact g_iret hC hr hlocks hY ⟨Nat.le_of_ble_eq_true rfl, Nat.le_of_ble_eq_true rfl⟩ dX2_let_99 (fun q => absurd q (by decide))
      · refine lv_iload_n hx hb dX2_let_24 rfl (lv_at hl 4 rfl) ?_
        refine lv_sipush (v := 7200) hx hb dX2_let_25 (by decide) ?_
        refine b_icmp_gt (tgt := 46) hx hb dX2_let_28 (by decide) (fun (h14 : 7200 < p2.toInt) => ?_) (fun (h14 : p2.toInt ≤ 7200) => ?_)
        · refine lv_iconst (v := 0) hx hb dX2_let_46 (by decide) ?_
          refine lv_istore (lv' := [(6, .int 0), (5, .int 1), (0, .ref (ad 5)), (1, .int p0), (2, .int p1), (3, .int p2), (4, .int p3)]) hx hb dX2_let_47 hl (by decide) rfl (fun ls hl => ?_)
          refine lv_aload_n hx hb dX2_let_49 rfl (lv_at hl 2 rfl) ?_
          refine lv_iload hx hb dX2_let_50 (lv_at hl 1 rfl) ?_
          refine b_if_ne (tgt := 59) hx hb dX2_let_52 (by decide) (fun _ => ?_) (fun h => absurd h (by decide))
          refine lv_iload hx hb dX2_let_59 (lv_at hl 0 rfl) ?_
          refine b_if_ne (tgt := 68) hx hb dX2_let_61 (by decide) (fun h => absurd h (by decide)) (fun _ => ?_)
          refine lv_iconst (v := 2) hx hb dX2_let_64 (by decide) ?_
          refine lv_goto (tgt := 92) hx hb dX2_let_65 (by decide) ?_
          refine g_calli hY (g_runV (n := 1) (q := (RX2, TX2, 17)) (r := 5) hC (c_X2_holds l G ad σ n τ j th o od 2) gX2_let_X2_holds rfl ⟨rfl, rfl⟩ (by decide +kernel) ⟨Nat.le_of_ble_eq_true rfl, Nat.le_of_ble_eq_true rfl⟩ hY (by omega) rfl (ci := 2) rfl rfl hl.1 rfl (Nat.le_of_ble_eq_true rfl) dX2_let_92 ⟨Nat.le_of_ble_eq_true rfl, Nat.le_of_ble_eq_true rfl⟩) (fun r17 H locs h18 hY => ?_)
          obtain ⟨rfl, -⟩ := h18.resolve_left (fun q => absurd q.2 (by decide))
          refine b_if_ne (tgt := 100) hx hb dX2_let_95 (by decide) (fun h => absurd h (by decide)) (fun _ => ?_)
          refine lv_iconst (v := 0) hx hb dX2_let_98 (by decide) ?_
          have hcd : cdLetM τ j p0 p1 p2 p3 = 2 := by unfold cdLetM; (repeat' split) <;> first | rfl | omega
          rw [hcd]
          rw [if_neg (by decide), if_neg (by decide)]
          exact g_iret hC hr hlocks hY ⟨Nat.le_of_ble_eq_true rfl, Nat.le_of_ble_eq_true rfl⟩ dX2_let_99 (fun q => absurd q (by decide))
        · refine lv_iload hx hb dX2_let_31 (lv_at hl 5 rfl) ?_
          refine lv_iconst (v := 1) hx hb dX2_let_33 (by decide) ?_
          refine lv_ldc (v := 99999) hx hb hC.2.2.2.1 (hC.2.2.2.2 _ (by decide +kernel)) dX2_let_34 ?_
          refine g_calli hY (g_runS (n := 3) hC (c_X2_isIn l G ad σ n τ j th o od p3 1 99999 1 99999 rfl rfl) gX2_let_X2_isIn rfl ⟨rfl, rfl⟩ (by decide +kernel) ⟨Nat.le_of_ble_eq_true rfl, Nat.le_of_ble_eq_true rfl⟩ hY rfl hl.1 rfl (Nat.le_of_ble_eq_true rfl) dX2_let_36 ⟨Nat.le_of_ble_eq_true rfl, Nat.le_of_ble_eq_true rfl⟩) (fun r20 H locs h21 hY => ?_)
          rcases h21 with ⟨rfl, h22⟩ | ⟨rfl, h22⟩
          · refine b_if_eq (tgt := 46) hx hb dX2_let_39 (by decide) (fun h => absurd h (by decide)) (fun _ => ?_)
            refine lv_iconst (v := 1) hx hb dX2_let_42 (by decide) ?_
            refine lv_goto (tgt := 47) hx hb dX2_let_43 (by decide) ?_
            refine lv_istore (lv' := [(6, .int 1), (5, .int 1), (0, .ref (ad 5)), (1, .int p0), (2, .int p1), (3, .int p2), (4, .int p3)]) hx hb dX2_let_47 hl (by decide) rfl (fun ls hl => ?_)
            refine lv_aload_n hx hb dX2_let_49 rfl (lv_at hl 2 rfl) ?_
            refine lv_iload hx hb dX2_let_50 (lv_at hl 1 rfl) ?_
            refine b_if_ne (tgt := 59) hx hb dX2_let_52 (by decide) (fun _ => ?_) (fun h => absurd h (by decide))
            refine lv_iload hx hb dX2_let_59 (lv_at hl 0 rfl) ?_
            refine b_if_ne (tgt := 68) hx hb dX2_let_61 (by decide) (fun _ => ?_) (fun h => absurd h (by decide))
            refine lv_aload_n hx hb dX2_let_68 rfl (lv_at hl 2 rfl) ?_
            refine gtM_leases hC hin2 hY (by decide +kernel) dX2_let_69 ?_
            refine lv_bipush (v := 24) hx hb dX2_let_72 (by decide) ?_
            refine b_icmp_eq (tgt := 87) hx hb dX2_let_74 (by decide) (fun (h26 : (nI j).toInt = 24) => ?_) (fun (h26 : ¬ (nI j).toInt = 24) => ?_)
            · refine lv_iconst (v := 3) hx hb dX2_let_87 (by decide) ?_
              refine lv_goto (tgt := 92) hx hb dX2_let_88 (by decide) ?_
              refine g_calli hY (g_runV (n := 1) (q := (RX2, TX2, 17)) (r := 5) hC (c_X2_holds l G ad σ n τ j th o od 3) gX2_let_X2_holds rfl ⟨rfl, rfl⟩ (by decide +kernel) ⟨Nat.le_of_ble_eq_true rfl, Nat.le_of_ble_eq_true rfl⟩ hY (by omega) rfl (ci := 2) rfl rfl hl.1 rfl (Nat.le_of_ble_eq_true rfl) dX2_let_92 ⟨Nat.le_of_ble_eq_true rfl, Nat.le_of_ble_eq_true rfl⟩) (fun r27 H locs h28 hY => ?_)
              obtain ⟨rfl, -⟩ := h28.resolve_left (fun q => absurd q.2 (by decide))
              refine b_if_ne (tgt := 100) hx hb dX2_let_95 (by decide) (fun h => absurd h (by decide)) (fun _ => ?_)
              refine lv_iconst (v := 0) hx hb dX2_let_98 (by decide) ?_
              have hcd : cdLetM τ j p0 p1 p2 p3 = 3 := by unfold cdLetM; (repeat' split) <;> first | rfl | omega
              rw [hcd]
              rw [if_neg (by decide), if_neg (by decide)]
              exact g_iret hC hr hlocks hY ⟨Nat.le_of_ble_eq_true rfl, Nat.le_of_ble_eq_true rfl⟩ dX2_let_99 (fun q => absurd q (by decide))
            · refine lv_aload_n hx hb dX2_let_77 rfl (lv_at hl 2 rfl) ?_
              refine lv_iload_n hx hb dX2_let_78 rfl (lv_at hl 3 rfl) ?_
              refine lv_iload_n hx hb dX2_let_79 rfl (lv_at hl 4 rfl) ?_
              refine lv_iload_n hx hb dX2_let_80 rfl (lv_at hl 5 rfl) ?_
              refine g_calli hY (g_runV (n := 3) (q := (RX2, TX2, 17)) (r := 5) hC (c_X2_isLet l G ad σ n τ j th o od hj p0 p1 p2) gX2_let_X2_isLet rfl ⟨rfl, rfl⟩ (by decide +kernel) ⟨Nat.le_of_ble_eq_true rfl, Nat.le_of_ble_eq_true rfl⟩ hY (by omega) rfl (ci := 2) rfl rfl hl.1 rfl (Nat.le_of_ble_eq_true rfl) dX2_let_81 ⟨Nat.le_of_ble_eq_true rfl, Nat.le_of_ble_eq_true rfl⟩) (fun r30 H locs h31 hY => ?_)
              rcases h31 with ⟨rfl, h32⟩ | ⟨rfl, h32⟩
              · refine b_if_eq (tgt := 91) hx hb dX2_let_84 (by decide) (fun h => absurd h (by decide)) (fun _ => ?_)
                refine lv_iconst (v := 3) hx hb dX2_let_87 (by decide) ?_
                refine lv_goto (tgt := 92) hx hb dX2_let_88 (by decide) ?_
                refine g_calli hY (g_runV (n := 1) (q := (RX2, TX2, 17)) (r := 5) hC (c_X2_holds l G ad σ n τ j th o od 3) gX2_let_X2_holds rfl ⟨rfl, rfl⟩ (by decide +kernel) ⟨Nat.le_of_ble_eq_true rfl, Nat.le_of_ble_eq_true rfl⟩ hY (by omega) rfl (ci := 2) rfl rfl hl.1 rfl (Nat.le_of_ble_eq_true rfl) dX2_let_92 ⟨Nat.le_of_ble_eq_true rfl, Nat.le_of_ble_eq_true rfl⟩) (fun r34 H locs h35 hY => ?_)
                obtain ⟨rfl, -⟩ := h35.resolve_left (fun q => absurd q.2 (by decide))
                refine b_if_ne (tgt := 100) hx hb dX2_let_95 (by decide) (fun h => absurd h (by decide)) (fun _ => ?_)
                refine lv_iconst (v := 0) hx hb dX2_let_98 (by decide) ?_
                have hcd : cdLetM τ j p0 p1 p2 p3 = 3 := by unfold cdLetM; (repeat' split) <;> first | rfl | omega
                rw [hcd]
                rw [if_neg (by decide), if_neg (by decide)]
                exact g_iret hC hr hlocks hY ⟨Nat.le_of_ble_eq_true rfl, Nat.le_of_ble_eq_true rfl⟩ dX2_let_99 (fun q => absurd q (by decide))
              · refine b_if_eq (tgt := 91) hx hb dX2_let_84 (by decide) (fun _ => ?_) (fun h => absurd h (by decide))
                refine lv_iconst (v := 0) hx hb dX2_let_91 (by decide) ?_
                refine g_calli hY (g_runV (n := 1) (q := (RX2, TX2, 17)) (r := 5) hC (c_X2_holds l G ad σ n τ j th o od 0) gX2_let_X2_holds rfl ⟨rfl, rfl⟩ (by decide +kernel) ⟨Nat.le_of_ble_eq_true rfl, Nat.le_of_ble_eq_true rfl⟩ hY (by omega) rfl (ci := 2) rfl rfl hl.1 rfl (Nat.le_of_ble_eq_true rfl) dX2_let_92 ⟨Nat.le_of_ble_eq_true rfl, Nat.le_of_ble_eq_true rfl⟩) (fun r38 H locs h39 hY => ?_)
                obtain ⟨rfl, -⟩ := h39.resolve_right (fun q => q.2 rfl)
                refine b_if_ne (tgt := 100) hx hb dX2_let_95 (by decide) (fun _ => ?_) (fun h => absurd h (by decide))
                refine lv_aload_n hx hb dX2_let_100 rfl (lv_at hl 2 rfl) ?_
                refine gtM_units hC hin2 hY (by decide +kernel) dX2_let_101 ?_
                refine lv_aload_n hx hb dX2_let_104 rfl (lv_at hl 2 rfl) ?_
                refine gtM_leases hC hin2 hY (by decide +kernel) dX2_let_105 ?_
                refine lv_iload_n hx hb dX2_let_108 rfl (lv_at hl 3 rfl) ?_
                refine wrM3 hC hY ⟨by omega, by omega⟩ dX2_let_109 (fun H locs hY => ?_)
                refine lv_aload_n hx hb dX2_let_110 rfl (lv_at hl 2 rfl) ?_
                refine gtM_froms hC hin2 hY (by decide +kernel) dX2_let_111 ?_
                refine lv_aload_n hx hb dX2_let_114 rfl (lv_at hl 2 rfl) ?_
                refine gtM_leases hC hin2 hY (by decide +kernel) dX2_let_115 ?_
                refine lv_iload_n hx hb dX2_let_118 rfl (lv_at hl 4 rfl) ?_
                refine wrM4 hC hY ⟨by omega, by omega⟩ dX2_let_119 (fun H locs hY => ?_)
                refine lv_aload_n hx hb dX2_let_120 rfl (lv_at hl 2 rfl) ?_
                refine gtM_tos hC hin2 hY (by decide +kernel) dX2_let_121 ?_
                refine lv_aload_n hx hb dX2_let_124 rfl (lv_at hl 2 rfl) ?_
                refine gtM_leases hC hin2 hY (by decide +kernel) dX2_let_125 ?_
                refine lv_iload_n hx hb dX2_let_128 rfl (lv_at hl 5 rfl) ?_
                refine wrM5 hC hY ⟨by omega, by omega⟩ dX2_let_129 (fun H locs hY => ?_)
                refine lv_aload_n hx hb dX2_let_130 rfl (lv_at hl 2 rfl) ?_
                refine gtM_rents hC hin2 hY (by decide +kernel) dX2_let_131 ?_
                refine lv_aload_n hx hb dX2_let_134 rfl (lv_at hl 2 rfl) ?_
                refine gtM_leases hC hin2 hY (by decide +kernel) dX2_let_135 ?_
                refine lv_iload hx hb dX2_let_138 (lv_at hl 6 rfl) ?_
                refine wrM6 hC hY ⟨by omega, by omega⟩ dX2_let_140 (fun H locs hY => ?_)
                refine lv_aload_n hx hb dX2_let_141 rfl (lv_at hl 2 rfl) ?_
                refine gtM_caps hC hin2 hY (by decide +kernel) dX2_let_142 ?_
                refine lv_aload_n hx hb dX2_let_145 rfl (lv_at hl 2 rfl) ?_
                refine gtM_leases hC hin2 hY (by decide +kernel) dX2_let_146 ?_
                refine lv_iconst (v := (-1)) hx hb dX2_let_149 (by decide) ?_
                refine wrM9 hC hY ⟨by omega, by omega⟩ dX2_let_150 (fun H locs hY => ?_)
                refine lv_aload_n hx hb dX2_let_151 rfl (lv_at hl 2 rfl) ?_
                refine lv_dup hx hb dX2_let_152 rfl ?_
                refine gtM_leases hC hin2 hY (by decide +kernel) dX2_let_153 ?_
                refine lv_iconst (v := 1) hx hb dX2_let_156 (by decide) ?_
                refine lv_iadd hx hb dX2_let_157 ?_
                rw [show (nI j) + 1 = nI (j + 1) from nI_1 j]
                refine ptM_leases hC hin2 hY (j' := j + 1) (by decide +kernel) dX2_let_158 (fun H locs hY => ?_)
                refine lv_aload_n hx hb dX2_let_161 rfl (lv_at hl 2 rfl) ?_
                refine gtM_leases hC hin2 hY (by decide +kernel) dX2_let_162 ?_
                refine lv_iconst (v := 1) hx hb dX2_let_165 (by decide) ?_
                refine lv_isub hx hb dX2_let_166 ?_
                have hcd : cdLetM τ j p0 p1 p2 p3 = 0 := by unfold cdLetM; (repeat' split) <;> first | rfl | omega
                rw [hcd]
                rw [if_pos rfl, if_pos rfl, show ltS τ j p0 p1 p2 p3 = (us (us (us (us (us τ 3 (ix (nI j)) p0) 4 (ix (nI j)) p1) 5 (ix (nI j)) p2) 6 (ix (nI j)) p3) 9 (ix (nI j)) (-1)) from by rw [i_ixnI (by omega)]]
                exact g_iret hC hr hlocks hY ⟨Nat.le_of_ble_eq_true rfl, Nat.le_of_ble_eq_true rfl⟩ dX2_let_167 (fun _ => nI_pred j)
          · refine b_if_eq (tgt := 46) hx hb dX2_let_39 (by decide) (fun _ => ?_) (fun h => absurd h (by decide))
            refine lv_iconst (v := 0) hx hb dX2_let_46 (by decide) ?_
            refine lv_istore (lv' := [(6, .int 0), (5, .int 1), (0, .ref (ad 5)), (1, .int p0), (2, .int p1), (3, .int p2), (4, .int p3)]) hx hb dX2_let_47 hl (by decide) rfl (fun ls hl => ?_)
            refine lv_aload_n hx hb dX2_let_49 rfl (lv_at hl 2 rfl) ?_
            refine lv_iload hx hb dX2_let_50 (lv_at hl 1 rfl) ?_
            refine b_if_ne (tgt := 59) hx hb dX2_let_52 (by decide) (fun _ => ?_) (fun h => absurd h (by decide))
            refine lv_iload hx hb dX2_let_59 (lv_at hl 0 rfl) ?_
            refine b_if_ne (tgt := 68) hx hb dX2_let_61 (by decide) (fun h => absurd h (by decide)) (fun _ => ?_)
            refine lv_iconst (v := 2) hx hb dX2_let_64 (by decide) ?_
            refine lv_goto (tgt := 92) hx hb dX2_let_65 (by decide) ?_
            refine g_calli hY (g_runV (n := 1) (q := (RX2, TX2, 17)) (r := 5) hC (c_X2_holds l G ad σ n τ j th o od 2) gX2_let_X2_holds rfl ⟨rfl, rfl⟩ (by decide +kernel) ⟨Nat.le_of_ble_eq_true rfl, Nat.le_of_ble_eq_true rfl⟩ hY (by omega) rfl (ci := 2) rfl rfl hl.1 rfl (Nat.le_of_ble_eq_true rfl) dX2_let_92 ⟨Nat.le_of_ble_eq_true rfl, Nat.le_of_ble_eq_true rfl⟩) (fun r44 H locs h45 hY => ?_)
            obtain ⟨rfl, -⟩ := h45.resolve_left (fun q => absurd q.2 (by decide))
            refine b_if_ne (tgt := 100) hx hb dX2_let_95 (by decide) (fun h => absurd h (by decide)) (fun _ => ?_)
            refine lv_iconst (v := 0) hx hb dX2_let_98 (by decide) ?_
            have hcd : cdLetM τ j p0 p1 p2 p3 = 2 := by unfold cdLetM; (repeat' split) <;> first | rfl | omega
            rw [hcd]
            rw [if_neg (by decide), if_neg (by decide)]
            exact g_iret hC hr hlocks hY ⟨Nat.le_of_ble_eq_true rfl, Nat.le_of_ble_eq_true rfl⟩ dX2_let_99 (fun q => absurd q (by decide))
    · refine b_if_eq (tgt := 46) hx hb dX2_let_16 (by decide) (fun _ => ?_) (fun h => absurd h (by decide))
      refine lv_iconst (v := 0) hx hb dX2_let_46 (by decide) ?_
      refine lv_istore (lv' := [(6, .int 0), (5, .int 1), (0, .ref (ad 5)), (1, .int p0), (2, .int p1), (3, .int p2), (4, .int p3)]) hx hb dX2_let_47 hl (by decide) rfl (fun ls hl => ?_)
      refine lv_aload_n hx hb dX2_let_49 rfl (lv_at hl 2 rfl) ?_
      refine lv_iload hx hb dX2_let_50 (lv_at hl 1 rfl) ?_
      refine b_if_ne (tgt := 59) hx hb dX2_let_52 (by decide) (fun _ => ?_) (fun h => absurd h (by decide))
      refine lv_iload hx hb dX2_let_59 (lv_at hl 0 rfl) ?_
      refine b_if_ne (tgt := 68) hx hb dX2_let_61 (by decide) (fun h => absurd h (by decide)) (fun _ => ?_)
      refine lv_iconst (v := 2) hx hb dX2_let_64 (by decide) ?_
      refine lv_goto (tgt := 92) hx hb dX2_let_65 (by decide) ?_
      refine g_calli hY (g_runV (n := 1) (q := (RX2, TX2, 17)) (r := 5) hC (c_X2_holds l G ad σ n τ j th o od 2) gX2_let_X2_holds rfl ⟨rfl, rfl⟩ (by decide +kernel) ⟨Nat.le_of_ble_eq_true rfl, Nat.le_of_ble_eq_true rfl⟩ hY (by omega) rfl (ci := 2) rfl rfl hl.1 rfl (Nat.le_of_ble_eq_true rfl) dX2_let_92 ⟨Nat.le_of_ble_eq_true rfl, Nat.le_of_ble_eq_true rfl⟩) (fun r50 H locs h51 hY => ?_)
      obtain ⟨rfl, -⟩ := h51.resolve_left (fun q => absurd q.2 (by decide))
      refine b_if_ne (tgt := 100) hx hb dX2_let_95 (by decide) (fun h => absurd h (by decide)) (fun _ => ?_)
      refine lv_iconst (v := 0) hx hb dX2_let_98 (by decide) ?_
      have hcd : cdLetM τ j p0 p1 p2 p3 = 2 := by unfold cdLetM; (repeat' split) <;> first | rfl | omega
      rw [hcd]
      rw [if_neg (by decide), if_neg (by decide)]
      exact g_iret hC hr hlocks hY ⟨Nat.le_of_ble_eq_true rfl, Nat.le_of_ble_eq_true rfl⟩ dX2_let_99 (fun q => absurd q (by decide))
  · refine lv_istore (lv' := [(5, .int 0), (0, .ref (ad 5)), (1, .int p0), (2, .int p1), (3, .int p2), (4, .int p3)]) hx hb dX2_let_6 hl (by decide) rfl (fun ls hl => ?_)
    refine lv_iload_n hx hb dX2_let_8 rfl (lv_at hl 3 rfl) ?_
    refine lv_iconst (v := 0) hx hb dX2_let_9 (by decide) ?_
    refine lv_sipush (v := 7199) hx hb dX2_let_10 (by decide) ?_
    refine g_calli hY (g_runS (n := 3) hC (c_X2_isIn l G ad σ n τ j th o od p1 0 7199 0 7199 rfl rfl) gX2_let_X2_isIn rfl ⟨rfl, rfl⟩ (by decide +kernel) ⟨Nat.le_of_ble_eq_true rfl, Nat.le_of_ble_eq_true rfl⟩ hY rfl hl.1 rfl (Nat.le_of_ble_eq_true rfl) dX2_let_13 ⟨Nat.le_of_ble_eq_true rfl, Nat.le_of_ble_eq_true rfl⟩) (fun r53 H locs h54 hY => ?_)
    rcases h54 with ⟨rfl, h55⟩ | ⟨rfl, h55⟩
    · refine b_if_eq (tgt := 46) hx hb dX2_let_16 (by decide) (fun h => absurd h (by decide)) (fun _ => ?_)
      refine lv_iload_n hx hb dX2_let_19 rfl (lv_at hl 4 rfl) ?_
      refine lv_iload_n hx hb dX2_let_20 rfl (lv_at hl 3 rfl) ?_
      refine b_icmp_le (tgt := 46) hx hb dX2_let_21 (by decide) (fun (h57 : p2.toInt ≤ p1.toInt) => ?_) (fun (h57 : p1.toInt < p2.toInt) => ?_)
      · refine lv_iconst (v := 0) hx hb dX2_let_46 (by decide) ?_
        refine lv_istore (lv' := [(6, .int 0), (5, .int 0), (0, .ref (ad 5)), (1, .int p0), (2, .int p1), (3, .int p2), (4, .int p3)]) hx hb dX2_let_47 hl (by decide) rfl (fun ls hl => ?_)
        refine lv_aload_n hx hb dX2_let_49 rfl (lv_at hl 2 rfl) ?_
        refine lv_iload hx hb dX2_let_50 (lv_at hl 1 rfl) ?_
        refine b_if_ne (tgt := 59) hx hb dX2_let_52 (by decide) (fun h => absurd h (by decide)) (fun _ => ?_)
        refine lv_iconst (v := 1) hx hb dX2_let_55 (by decide) ?_
        refine lv_goto (tgt := 92) hx hb dX2_let_56 (by decide) ?_
        refine g_calli hY (g_runV (n := 1) (q := (RX2, TX2, 17)) (r := 5) hC (c_X2_holds l G ad σ n τ j th o od 1) gX2_let_X2_holds rfl ⟨rfl, rfl⟩ (by decide +kernel) ⟨Nat.le_of_ble_eq_true rfl, Nat.le_of_ble_eq_true rfl⟩ hY (by omega) rfl (ci := 2) rfl rfl hl.1 rfl (Nat.le_of_ble_eq_true rfl) dX2_let_92 ⟨Nat.le_of_ble_eq_true rfl, Nat.le_of_ble_eq_true rfl⟩) (fun r59 H locs h60 hY => ?_)
        obtain ⟨rfl, -⟩ := h60.resolve_left (fun q => absurd q.2 (by decide))
        refine b_if_ne (tgt := 100) hx hb dX2_let_95 (by decide) (fun h => absurd h (by decide)) (fun _ => ?_)
        refine lv_iconst (v := 0) hx hb dX2_let_98 (by decide) ?_
        have hcd : cdLetM τ j p0 p1 p2 p3 = 1 := by unfold cdLetM; (repeat' split) <;> first | rfl | omega
        rw [hcd]
        rw [if_neg (by decide), if_neg (by decide)]
        exact g_iret hC hr hlocks hY ⟨Nat.le_of_ble_eq_true rfl, Nat.le_of_ble_eq_true rfl⟩ dX2_let_99 (fun q => absurd q (by decide))
      · refine lv_iload_n hx hb dX2_let_24 rfl (lv_at hl 4 rfl) ?_
        refine lv_sipush (v := 7200) hx hb dX2_let_25 (by decide) ?_
        refine b_icmp_gt (tgt := 46) hx hb dX2_let_28 (by decide) (fun (h62 : 7200 < p2.toInt) => ?_) (fun (h62 : p2.toInt ≤ 7200) => ?_)
        · refine lv_iconst (v := 0) hx hb dX2_let_46 (by decide) ?_
          refine lv_istore (lv' := [(6, .int 0), (5, .int 0), (0, .ref (ad 5)), (1, .int p0), (2, .int p1), (3, .int p2), (4, .int p3)]) hx hb dX2_let_47 hl (by decide) rfl (fun ls hl => ?_)
          refine lv_aload_n hx hb dX2_let_49 rfl (lv_at hl 2 rfl) ?_
          refine lv_iload hx hb dX2_let_50 (lv_at hl 1 rfl) ?_
          refine b_if_ne (tgt := 59) hx hb dX2_let_52 (by decide) (fun h => absurd h (by decide)) (fun _ => ?_)
          refine lv_iconst (v := 1) hx hb dX2_let_55 (by decide) ?_
          refine lv_goto (tgt := 92) hx hb dX2_let_56 (by decide) ?_
          refine g_calli hY (g_runV (n := 1) (q := (RX2, TX2, 17)) (r := 5) hC (c_X2_holds l G ad σ n τ j th o od 1) gX2_let_X2_holds rfl ⟨rfl, rfl⟩ (by decide +kernel) ⟨Nat.le_of_ble_eq_true rfl, Nat.le_of_ble_eq_true rfl⟩ hY (by omega) rfl (ci := 2) rfl rfl hl.1 rfl (Nat.le_of_ble_eq_true rfl) dX2_let_92 ⟨Nat.le_of_ble_eq_true rfl, Nat.le_of_ble_eq_true rfl⟩) (fun r64 H locs h65 hY => ?_)
          obtain ⟨rfl, -⟩ := h65.resolve_left (fun q => absurd q.2 (by decide))
          refine b_if_ne (tgt := 100) hx hb dX2_let_95 (by decide) (fun h => absurd h (by decide)) (fun _ => ?_)
          refine lv_iconst (v := 0) hx hb dX2_let_98 (by decide) ?_
          have hcd : cdLetM τ j p0 p1 p2 p3 = 1 := by unfold cdLetM; (repeat' split) <;> first | rfl | omega
          rw [hcd]
          rw [if_neg (by decide), if_neg (by decide)]
          exact g_iret hC hr hlocks hY ⟨Nat.le_of_ble_eq_true rfl, Nat.le_of_ble_eq_true rfl⟩ dX2_let_99 (fun q => absurd q (by decide))
        · refine lv_iload hx hb dX2_let_31 (lv_at hl 5 rfl) ?_
          refine lv_iconst (v := 1) hx hb dX2_let_33 (by decide) ?_
          refine lv_ldc (v := 99999) hx hb hC.2.2.2.1 (hC.2.2.2.2 _ (by decide +kernel)) dX2_let_34 ?_
          refine g_calli hY (g_runS (n := 3) hC (c_X2_isIn l G ad σ n τ j th o od p3 1 99999 1 99999 rfl rfl) gX2_let_X2_isIn rfl ⟨rfl, rfl⟩ (by decide +kernel) ⟨Nat.le_of_ble_eq_true rfl, Nat.le_of_ble_eq_true rfl⟩ hY rfl hl.1 rfl (Nat.le_of_ble_eq_true rfl) dX2_let_36 ⟨Nat.le_of_ble_eq_true rfl, Nat.le_of_ble_eq_true rfl⟩) (fun r67 H locs h68 hY => ?_)
          rcases h68 with ⟨rfl, h69⟩ | ⟨rfl, h69⟩
          · refine b_if_eq (tgt := 46) hx hb dX2_let_39 (by decide) (fun h => absurd h (by decide)) (fun _ => ?_)
            refine lv_iconst (v := 1) hx hb dX2_let_42 (by decide) ?_
            refine lv_goto (tgt := 47) hx hb dX2_let_43 (by decide) ?_
            refine lv_istore (lv' := [(6, .int 1), (5, .int 0), (0, .ref (ad 5)), (1, .int p0), (2, .int p1), (3, .int p2), (4, .int p3)]) hx hb dX2_let_47 hl (by decide) rfl (fun ls hl => ?_)
            refine lv_aload_n hx hb dX2_let_49 rfl (lv_at hl 2 rfl) ?_
            refine lv_iload hx hb dX2_let_50 (lv_at hl 1 rfl) ?_
            refine b_if_ne (tgt := 59) hx hb dX2_let_52 (by decide) (fun h => absurd h (by decide)) (fun _ => ?_)
            refine lv_iconst (v := 1) hx hb dX2_let_55 (by decide) ?_
            refine lv_goto (tgt := 92) hx hb dX2_let_56 (by decide) ?_
            refine g_calli hY (g_runV (n := 1) (q := (RX2, TX2, 17)) (r := 5) hC (c_X2_holds l G ad σ n τ j th o od 1) gX2_let_X2_holds rfl ⟨rfl, rfl⟩ (by decide +kernel) ⟨Nat.le_of_ble_eq_true rfl, Nat.le_of_ble_eq_true rfl⟩ hY (by omega) rfl (ci := 2) rfl rfl hl.1 rfl (Nat.le_of_ble_eq_true rfl) dX2_let_92 ⟨Nat.le_of_ble_eq_true rfl, Nat.le_of_ble_eq_true rfl⟩) (fun r72 H locs h73 hY => ?_)
            obtain ⟨rfl, -⟩ := h73.resolve_left (fun q => absurd q.2 (by decide))
            refine b_if_ne (tgt := 100) hx hb dX2_let_95 (by decide) (fun h => absurd h (by decide)) (fun _ => ?_)
            refine lv_iconst (v := 0) hx hb dX2_let_98 (by decide) ?_
            have hcd : cdLetM τ j p0 p1 p2 p3 = 1 := by unfold cdLetM; (repeat' split) <;> first | rfl | omega
            rw [hcd]
            rw [if_neg (by decide), if_neg (by decide)]
            exact g_iret hC hr hlocks hY ⟨Nat.le_of_ble_eq_true rfl, Nat.le_of_ble_eq_true rfl⟩ dX2_let_99 (fun q => absurd q (by decide))
          · refine b_if_eq (tgt := 46) hx hb dX2_let_39 (by decide) (fun _ => ?_) (fun h => absurd h (by decide))
            refine lv_iconst (v := 0) hx hb dX2_let_46 (by decide) ?_
            refine lv_istore (lv' := [(6, .int 0), (5, .int 0), (0, .ref (ad 5)), (1, .int p0), (2, .int p1), (3, .int p2), (4, .int p3)]) hx hb dX2_let_47 hl (by decide) rfl (fun ls hl => ?_)
            refine lv_aload_n hx hb dX2_let_49 rfl (lv_at hl 2 rfl) ?_
            refine lv_iload hx hb dX2_let_50 (lv_at hl 1 rfl) ?_
            refine b_if_ne (tgt := 59) hx hb dX2_let_52 (by decide) (fun h => absurd h (by decide)) (fun _ => ?_)
            refine lv_iconst (v := 1) hx hb dX2_let_55 (by decide) ?_
            refine lv_goto (tgt := 92) hx hb dX2_let_56 (by decide) ?_
            refine g_calli hY (g_runV (n := 1) (q := (RX2, TX2, 17)) (r := 5) hC (c_X2_holds l G ad σ n τ j th o od 1) gX2_let_X2_holds rfl ⟨rfl, rfl⟩ (by decide +kernel) ⟨Nat.le_of_ble_eq_true rfl, Nat.le_of_ble_eq_true rfl⟩ hY (by omega) rfl (ci := 2) rfl rfl hl.1 rfl (Nat.le_of_ble_eq_true rfl) dX2_let_92 ⟨Nat.le_of_ble_eq_true rfl, Nat.le_of_ble_eq_true rfl⟩) (fun r77 H locs h78 hY => ?_)
            obtain ⟨rfl, -⟩ := h78.resolve_left (fun q => absurd q.2 (by decide))
            refine b_if_ne (tgt := 100) hx hb dX2_let_95 (by decide) (fun h => absurd h (by decide)) (fun _ => ?_)
            refine lv_iconst (v := 0) hx hb dX2_let_98 (by decide) ?_
            have hcd : cdLetM τ j p0 p1 p2 p3 = 1 := by unfold cdLetM; (repeat' split) <;> first | rfl | omega
            rw [hcd]
            rw [if_neg (by decide), if_neg (by decide)]
            exact g_iret hC hr hlocks hY ⟨Nat.le_of_ble_eq_true rfl, Nat.le_of_ble_eq_true rfl⟩ dX2_let_99 (fun q => absurd q (by decide))
    · refine b_if_eq (tgt := 46) hx hb dX2_let_16 (by decide) (fun _ => ?_) (fun h => absurd h (by decide))
      refine lv_iconst (v := 0) hx hb dX2_let_46 (by decide) ?_
      refine lv_istore (lv' := [(6, .int 0), (5, .int 0), (0, .ref (ad 5)), (1, .int p0), (2, .int p1), (3, .int p2), (4, .int p3)]) hx hb dX2_let_47 hl (by decide) rfl (fun ls hl => ?_)
      refine lv_aload_n hx hb dX2_let_49 rfl (lv_at hl 2 rfl) ?_
      refine lv_iload hx hb dX2_let_50 (lv_at hl 1 rfl) ?_
      refine b_if_ne (tgt := 59) hx hb dX2_let_52 (by decide) (fun h => absurd h (by decide)) (fun _ => ?_)
      refine lv_iconst (v := 1) hx hb dX2_let_55 (by decide) ?_
      refine lv_goto (tgt := 92) hx hb dX2_let_56 (by decide) ?_
      refine g_calli hY (g_runV (n := 1) (q := (RX2, TX2, 17)) (r := 5) hC (c_X2_holds l G ad σ n τ j th o od 1) gX2_let_X2_holds rfl ⟨rfl, rfl⟩ (by decide +kernel) ⟨Nat.le_of_ble_eq_true rfl, Nat.le_of_ble_eq_true rfl⟩ hY (by omega) rfl (ci := 2) rfl rfl hl.1 rfl (Nat.le_of_ble_eq_true rfl) dX2_let_92 ⟨Nat.le_of_ble_eq_true rfl, Nat.le_of_ble_eq_true rfl⟩) (fun r82 H locs h83 hY => ?_)
      obtain ⟨rfl, -⟩ := h83.resolve_left (fun q => absurd q.2 (by decide))
      refine b_if_ne (tgt := 100) hx hb dX2_let_95 (by decide) (fun h => absurd h (by decide)) (fun _ => ?_)
      refine lv_iconst (v := 0) hx hb dX2_let_98 (by decide) ?_
      have hcd : cdLetM τ j p0 p1 p2 p3 = 1 := by unfold cdLetM; (repeat' split) <;> first | rfl | omega
      rw [hcd]
      rw [if_neg (by decide), if_neg (by decide)]
      exact g_iret hC hr hlocks hY ⟨Nat.le_of_ble_eq_true rfl, Nat.le_of_ble_eq_true rfl⟩ dX2_let_99 (fun q => absurd q (by decide))

set_option maxHeartbeats 4000000 in
set_option maxRecDepth 100000 in
theorem c_X2_end (l : Launch) (G : GG) (ad : Nat → Nat) (σ : St) (n : Nat) (τ : St) (j : Nat) (th : Int32) (o : OL) (od : OD) (hj : j ≤ 24) (p0 p1 : Int32)  : Met l yX2_end wsX2_end ({ frames := 4, cells := 0, slots := 0, locals := 120 }) (PcS G ad σ n τ j th o od [.ref (ad 5), .int p0, .int p1]) (Qi G (3 * n + 23) ad (ctS G ad σ n (if cdEnd τ j p0 p1 = 0 then (us τ 5 (ix p0) p1) else τ) j (cdEnd τ j p0 p1) o od) (fun r => cdEnd τ j p0 p1 = 0 → r = τ 5 (ix p0))) 0 0 (gF G) := by
  refine Met.ofW (cc := cX2_end) (maxL := 5) (ret := (some .int)) (by decide) rfl ?_
  intro p e s m args below meth c s₁ B hml hv
  obtain ⟨rfl, hY⟩ := hv
  have hts := atoms_spec (ws := wsX2_end) B.pre
  have hC : CallFix p m c cX2_end 5 s _ wsX2_end RX2 := ⟨B.exec, B.bytes, hml, findClass_of_methodNamed B.named, hts⟩
  have hx := hC.1
  have hb := hC.2.1
  have hr := B.returns
  have hlocks := B.notSynchronized
  have hin2 : ∀ w ∈ wsX20, w ∈ wsX2_end := by decide +kernel
  have hl := lv_entry ([.ref (ad 5), .int p0, .int p1]) (n := 5) (Nat.le_of_ble_eq_true rfl)
  rw [lg_entry_eq]
  generalize (lg_sl ([.ref (ad 5), .int p0, .int p1]) ++ List.replicate (5 - (lg_sl ([.ref (ad 5), .int p0, .int p1])).length) Slot.unset).toArray = ls at hl ⊢
  have hl : lv_has ls 5 [(0, .ref (ad 5)), (1, .int p0), (2, .int p1)] := hl
  have hnj : (nI j).toInt = (j : Int) := i_nI (by omega)
  refine lv_aload_n hx hb dX2_end_0 rfl (lv_at hl 0 rfl) ?_
  refine lv_iload_n hx hb dX2_end_1 rfl (lv_at hl 1 rfl) ?_
  refine g_calli hY (g_runV (n := 1) (q := (RX2, TX2, 17)) (r := 5) hC (c_X2_isLease l G ad σ n τ j th o od hj p0) gX2_end_X2_isLease rfl ⟨rfl, rfl⟩ (by decide +kernel) ⟨Nat.le_of_ble_eq_true rfl, Nat.le_of_ble_eq_true rfl⟩ hY (by omega) rfl (ci := 2) rfl rfl hl.1 rfl (Nat.le_of_ble_eq_true rfl) dX2_end_2 ⟨Nat.le_of_ble_eq_true rfl, Nat.le_of_ble_eq_true rfl⟩) (fun r1 H locs h2 hY => ?_)
  rcases h2 with ⟨rfl, h3⟩ | ⟨rfl, h3⟩
  · refine lv_istore_n (lv' := [(3, .int 1), (0, .ref (ad 5)), (1, .int p0), (2, .int p1)]) hx hb dX2_end_5 rfl hl (by decide) rfl (fun ls hl => ?_)
    refine lv_aload_n hx hb dX2_end_6 rfl (lv_at hl 1 rfl) ?_
    refine lv_iload_n hx hb dX2_end_7 rfl (lv_at hl 0 rfl) ?_
    refine b_if_ne (tgt := 15) hx hb dX2_end_8 (by decide) (fun _ => ?_) (fun h => absurd h (by decide))
    refine lv_iload_n hx hb dX2_end_15 rfl (lv_at hl 3 rfl) ?_
    refine lv_aload_n hx hb dX2_end_16 rfl (lv_at hl 1 rfl) ?_
    refine gtM_froms hC hin2 hY (by decide +kernel) dX2_end_17 ?_
    refine lv_iload_n hx hb dX2_end_20 rfl (lv_at hl 2 rfl) ?_
    refine rdM4 hC hY ⟨by omega, by omega⟩ dX2_end_21 ?_
    refine b_icmp_le (tgt := 39) hx hb dX2_end_22 (by decide) (fun (h5 : p1.toInt ≤ (τ 4 (ix p0)).toInt) => ?_) (fun (h5 : (τ 4 (ix p0)).toInt < p1.toInt) => ?_)
    · refine lv_iconst (v := 2) hx hb dX2_end_39 (by decide) ?_
      refine g_calli hY (g_runV (n := 1) (q := (RX2, TX2, 17)) (r := 5) hC (c_X2_holds l G ad σ n τ j th o od 2) gX2_end_X2_holds rfl ⟨rfl, rfl⟩ (by decide +kernel) ⟨Nat.le_of_ble_eq_true rfl, Nat.le_of_ble_eq_true rfl⟩ hY (by omega) rfl (ci := 2) rfl rfl hl.1 rfl (Nat.le_of_ble_eq_true rfl) dX2_end_40 ⟨Nat.le_of_ble_eq_true rfl, Nat.le_of_ble_eq_true rfl⟩) (fun r6 H locs h7 hY => ?_)
      obtain ⟨rfl, -⟩ := h7.resolve_left (fun q => absurd q.2 (by decide))
      refine b_if_ne (tgt := 48) hx hb dX2_end_43 (by decide) (fun h => absurd h (by decide)) (fun _ => ?_)
      refine lv_iconst (v := 0) hx hb dX2_end_46 (by decide) ?_
      have hcd : cdEnd τ j p0 p1 = 2 := by unfold cdEnd; (repeat' split) <;> first | rfl | omega
      rw [hcd]
      rw [if_neg (by decide)]
      exact g_iret hC hr hlocks hY ⟨Nat.le_of_ble_eq_true rfl, Nat.le_of_ble_eq_true rfl⟩ dX2_end_47 (fun q => absurd q (by decide))
    · refine lv_iload_n hx hb dX2_end_25 rfl (lv_at hl 3 rfl) ?_
      refine lv_aload_n hx hb dX2_end_26 rfl (lv_at hl 1 rfl) ?_
      refine gtM_tos hC hin2 hY (by decide +kernel) dX2_end_27 ?_
      refine lv_iload_n hx hb dX2_end_30 rfl (lv_at hl 2 rfl) ?_
      refine rdM5 hC hY ⟨by omega, by omega⟩ dX2_end_31 ?_
      refine b_icmp_ge (tgt := 39) hx hb dX2_end_32 (by decide) (fun (h9 : (τ 5 (ix p0)).toInt ≤ p1.toInt) => ?_) (fun (h9 : p1.toInt < (τ 5 (ix p0)).toInt) => ?_)
      · refine lv_iconst (v := 2) hx hb dX2_end_39 (by decide) ?_
        refine g_calli hY (g_runV (n := 1) (q := (RX2, TX2, 17)) (r := 5) hC (c_X2_holds l G ad σ n τ j th o od 2) gX2_end_X2_holds rfl ⟨rfl, rfl⟩ (by decide +kernel) ⟨Nat.le_of_ble_eq_true rfl, Nat.le_of_ble_eq_true rfl⟩ hY (by omega) rfl (ci := 2) rfl rfl hl.1 rfl (Nat.le_of_ble_eq_true rfl) dX2_end_40 ⟨Nat.le_of_ble_eq_true rfl, Nat.le_of_ble_eq_true rfl⟩) (fun r10 H locs h11 hY => ?_)
        obtain ⟨rfl, -⟩ := h11.resolve_left (fun q => absurd q.2 (by decide))
        refine b_if_ne (tgt := 48) hx hb dX2_end_43 (by decide) (fun h => absurd h (by decide)) (fun _ => ?_)
        refine lv_iconst (v := 0) hx hb dX2_end_46 (by decide) ?_
        have hcd : cdEnd τ j p0 p1 = 2 := by unfold cdEnd; (repeat' split) <;> first | rfl | omega
        rw [hcd]
        rw [if_neg (by decide)]
        exact g_iret hC hr hlocks hY ⟨Nat.le_of_ble_eq_true rfl, Nat.le_of_ble_eq_true rfl⟩ dX2_end_47 (fun q => absurd q (by decide))
      · refine lv_iconst (v := 0) hx hb dX2_end_35 (by decide) ?_
        refine lv_goto (tgt := 40) hx hb dX2_end_36 (by decide) ?_
        refine g_calli hY (g_runV (n := 1) (q := (RX2, TX2, 17)) (r := 5) hC (c_X2_holds l G ad σ n τ j th o od 0) gX2_end_X2_holds rfl ⟨rfl, rfl⟩ (by decide +kernel) ⟨Nat.le_of_ble_eq_true rfl, Nat.le_of_ble_eq_true rfl⟩ hY (by omega) rfl (ci := 2) rfl rfl hl.1 rfl (Nat.le_of_ble_eq_true rfl) dX2_end_40 ⟨Nat.le_of_ble_eq_true rfl, Nat.le_of_ble_eq_true rfl⟩) (fun r13 H locs h14 hY => ?_)
        obtain ⟨rfl, -⟩ := h14.resolve_right (fun q => q.2 rfl)
        refine b_if_ne (tgt := 48) hx hb dX2_end_43 (by decide) (fun _ => ?_) (fun h => absurd h (by decide))
        refine lv_aload_n hx hb dX2_end_48 rfl (lv_at hl 1 rfl) ?_
        refine gtM_tos hC hin2 hY (by decide +kernel) dX2_end_49 ?_
        refine lv_iload_n hx hb dX2_end_52 rfl (lv_at hl 2 rfl) ?_
        refine rdM5 hC hY ⟨by omega, by omega⟩ dX2_end_53 ?_
        refine lv_istore (lv' := [(4, .int (τ 5 (ix p0))), (3, .int 1), (0, .ref (ad 5)), (1, .int p0), (2, .int p1)]) hx hb dX2_end_54 hl (by decide) rfl (fun ls hl => ?_)
        refine lv_aload_n hx hb dX2_end_56 rfl (lv_at hl 2 rfl) ?_
        refine gtM_tos hC hin2 hY (by decide +kernel) dX2_end_57 ?_
        refine lv_iload_n hx hb dX2_end_60 rfl (lv_at hl 3 rfl) ?_
        refine lv_iload_n hx hb dX2_end_61 rfl (lv_at hl 4 rfl) ?_
        refine wrM5 hC hY ⟨by omega, by omega⟩ dX2_end_62 (fun H locs hY => ?_)
        refine lv_iload hx hb dX2_end_63 (lv_at hl 0 rfl) ?_
        have hcd : cdEnd τ j p0 p1 = 0 := by unfold cdEnd; (repeat' split) <;> first | rfl | omega
        rw [hcd]
        rw [if_pos rfl]
        exact g_iret hC hr hlocks hY ⟨Nat.le_of_ble_eq_true rfl, Nat.le_of_ble_eq_true rfl⟩ dX2_end_65 (fun _ => rfl)
  · refine lv_istore_n (lv' := [(3, .int 0), (0, .ref (ad 5)), (1, .int p0), (2, .int p1)]) hx hb dX2_end_5 rfl hl (by decide) rfl (fun ls hl => ?_)
    refine lv_aload_n hx hb dX2_end_6 rfl (lv_at hl 1 rfl) ?_
    refine lv_iload_n hx hb dX2_end_7 rfl (lv_at hl 0 rfl) ?_
    refine b_if_ne (tgt := 15) hx hb dX2_end_8 (by decide) (fun h => absurd h (by decide)) (fun _ => ?_)
    refine lv_iconst (v := 1) hx hb dX2_end_11 (by decide) ?_
    refine lv_goto (tgt := 40) hx hb dX2_end_12 (by decide) ?_
    refine g_calli hY (g_runV (n := 1) (q := (RX2, TX2, 17)) (r := 5) hC (c_X2_holds l G ad σ n τ j th o od 1) gX2_end_X2_holds rfl ⟨rfl, rfl⟩ (by decide +kernel) ⟨Nat.le_of_ble_eq_true rfl, Nat.le_of_ble_eq_true rfl⟩ hY (by omega) rfl (ci := 2) rfl rfl hl.1 rfl (Nat.le_of_ble_eq_true rfl) dX2_end_40 ⟨Nat.le_of_ble_eq_true rfl, Nat.le_of_ble_eq_true rfl⟩) (fun r17 H locs h18 hY => ?_)
    obtain ⟨rfl, -⟩ := h18.resolve_left (fun q => absurd q.2 (by decide))
    refine b_if_ne (tgt := 48) hx hb dX2_end_43 (by decide) (fun h => absurd h (by decide)) (fun _ => ?_)
    refine lv_iconst (v := 0) hx hb dX2_end_46 (by decide) ?_
    have hcd : cdEnd τ j p0 p1 = 1 := by unfold cdEnd; (repeat' split) <;> first | rfl | omega
    rw [hcd]
    rw [if_neg (by decide)]
    exact g_iret hC hr hlocks hY ⟨Nat.le_of_ble_eq_true rfl, Nat.le_of_ble_eq_true rfl⟩ dX2_end_47 (fun q => absurd q (by decide))

set_option maxHeartbeats 4000000 in
set_option maxRecDepth 100000 in
theorem c_X2_step (l : Launch) (G : GG) (ad : Nat → Nat) (σ : St) (n : Nat) (τ : St) (j : Nat) (th : Int32) (o : OL) (od : OD) (hj : j ≤ 24) (hI : ∀ k, k < j → okL τ k) (p0 p1 p2 : Int32)  : Met l yX2_step wsX2_step ({ frames := 4, cells := 0, slots := 0, locals := 120 }) (PcS G ad σ n τ j th o od [.ref (ad 5), .int p0, .int p1, .int p2]) (Qi G (3 * n + 23) ad (ctS G ad σ n (if cdStep τ j p0 p1 p2 = 0 then (psS τ (ix p0) p1 p2) else τ) j (cdStep τ j p0 p1 p2) o od) (fun r => cdStep τ j p0 p1 p2 = 0 → r = psS τ (ix p0) p1 p2 12 (ix p0))) 0 0 (gF G) := by
  refine Met.ofW (cc := cX2_step) (maxL := 7) (ret := (some .int)) (by decide) rfl ?_
  intro p e s m args below meth c s₁ B hml hv
  obtain ⟨rfl, hY⟩ := hv
  have hts := atoms_spec (ws := wsX2_step) B.pre
  have hC : CallFix p m c cX2_step 7 s _ wsX2_step RX2 := ⟨B.exec, B.bytes, hml, findClass_of_methodNamed B.named, hts⟩
  have hx := hC.1
  have hb := hC.2.1
  have hr := B.returns
  have hlocks := B.notSynchronized
  have hin2 : ∀ w ∈ wsX20, w ∈ wsX2_step := by decide +kernel
  have hl := lv_entry ([.ref (ad 5), .int p0, .int p1, .int p2]) (n := 7) (Nat.le_of_ble_eq_true rfl)
  rw [lg_entry_eq]
  generalize (lg_sl ([.ref (ad 5), .int p0, .int p1, .int p2]) ++ List.replicate (7 - (lg_sl ([.ref (ad 5), .int p0, .int p1, .int p2])).length) Slot.unset).toArray = ls at hl ⊢
  have hl : lv_has ls 7 [(0, .ref (ad 5)), (1, .int p0), (2, .int p1), (3, .int p2)] := hl
  have hnj : (nI j).toInt = (j : Int) := i_nI (by omega)
  refine lv_aload_n hx hb dX2_step_0 rfl (lv_at hl 0 rfl) ?_
  refine lv_iload_n hx hb dX2_step_1 rfl (lv_at hl 1 rfl) ?_
  refine g_calli hY (g_runV (n := 1) (q := (RX2, TX2, 17)) (r := 5) hC (c_X2_isLease l G ad σ n τ j th o od hj p0) gX2_step_X2_isLease rfl ⟨rfl, rfl⟩ (by decide +kernel) ⟨Nat.le_of_ble_eq_true rfl, Nat.le_of_ble_eq_true rfl⟩ hY (by omega) rfl (ci := 2) rfl rfl hl.1 rfl (Nat.le_of_ble_eq_true rfl) dX2_step_2 ⟨Nat.le_of_ble_eq_true rfl, Nat.le_of_ble_eq_true rfl⟩) (fun r1 H locs h2 hY => ?_)
  rcases h2 with ⟨rfl, h3⟩ | ⟨rfl, h3⟩
  · refine lv_istore (lv' := [(4, .int 1), (0, .ref (ad 5)), (1, .int p0), (2, .int p1), (3, .int p2)]) hx hb dX2_step_5 hl (by decide) rfl (fun ls hl => ?_)
    refine lv_iload hx hb dX2_step_7 (lv_at hl 0 rfl) ?_
    refine b_if_eq (tgt := 46) hx hb dX2_step_9 (by decide) (fun h => absurd h (by decide)) (fun _ => ?_)
    refine lv_iload_n hx hb dX2_step_12 rfl (lv_at hl 3 rfl) ?_
    refine lv_aload_n hx hb dX2_step_13 rfl (lv_at hl 1 rfl) ?_
    refine gtM_froms hC hin2 hY (by decide +kernel) dX2_step_14 ?_
    refine lv_iload_n hx hb dX2_step_17 rfl (lv_at hl 2 rfl) ?_
    refine rdM4 hC hY ⟨by omega, by omega⟩ dX2_step_18 ?_
    refine b_icmp_le (tgt := 46) hx hb dX2_step_19 (by decide) (fun (h5 : p1.toInt ≤ (τ 4 (ix p0)).toInt) => ?_) (fun (h5 : (τ 4 (ix p0)).toInt < p1.toInt) => ?_)
    · refine lv_iconst (v := 0) hx hb dX2_step_46 (by decide) ?_
      refine lv_istore (lv' := [(5, .int 0), (4, .int 1), (0, .ref (ad 5)), (1, .int p0), (2, .int p1), (3, .int p2)]) hx hb dX2_step_47 hl (by decide) rfl (fun ls hl => ?_)
      refine lv_aload_n hx hb dX2_step_49 rfl (lv_at hl 2 rfl) ?_
      refine lv_iload hx hb dX2_step_50 (lv_at hl 1 rfl) ?_
      refine b_if_ne (tgt := 59) hx hb dX2_step_52 (by decide) (fun _ => ?_) (fun h => absurd h (by decide))
      refine lv_iload hx hb dX2_step_59 (lv_at hl 0 rfl) ?_
      refine b_if_ne (tgt := 68) hx hb dX2_step_61 (by decide) (fun h => absurd h (by decide)) (fun _ => ?_)
      refine lv_iconst (v := 2) hx hb dX2_step_64 (by decide) ?_
      refine lv_goto (tgt := 84) hx hb dX2_step_65 (by decide) ?_
      refine g_calli hY (g_runV (n := 1) (q := (RX2, TX2, 17)) (r := 5) hC (c_X2_holds l G ad σ n τ j th o od 2) gX2_step_X2_holds rfl ⟨rfl, rfl⟩ (by decide +kernel) ⟨Nat.le_of_ble_eq_true rfl, Nat.le_of_ble_eq_true rfl⟩ hY (by omega) rfl (ci := 2) rfl rfl hl.1 rfl (Nat.le_of_ble_eq_true rfl) dX2_step_84 ⟨Nat.le_of_ble_eq_true rfl, Nat.le_of_ble_eq_true rfl⟩) (fun r8 H locs h9 hY => ?_)
      obtain ⟨rfl, -⟩ := h9.resolve_left (fun q => absurd q.2 (by decide))
      refine b_if_ne (tgt := 92) hx hb dX2_step_87 (by decide) (fun h => absurd h (by decide)) (fun _ => ?_)
      refine lv_iconst (v := 0) hx hb dX2_step_90 (by decide) ?_
      have hcd : cdStep τ j p0 p1 p2 = 2 := by unfold cdStep; (repeat' split) <;> first | rfl | omega
      rw [hcd]
      rw [if_neg (by decide)]
      exact g_iret hC hr hlocks hY ⟨Nat.le_of_ble_eq_true rfl, Nat.le_of_ble_eq_true rfl⟩ dX2_step_91 (fun q => absurd q (by decide))
    · refine lv_iload_n hx hb dX2_step_22 rfl (lv_at hl 3 rfl) ?_
      refine lv_aload_n hx hb dX2_step_23 rfl (lv_at hl 1 rfl) ?_
      refine gtM_tos hC hin2 hY (by decide +kernel) dX2_step_24 ?_
      refine lv_iload_n hx hb dX2_step_27 rfl (lv_at hl 2 rfl) ?_
      refine rdM5 hC hY ⟨by omega, by omega⟩ dX2_step_28 ?_
      refine b_icmp_ge (tgt := 46) hx hb dX2_step_29 (by decide) (fun (h11 : (τ 5 (ix p0)).toInt ≤ p1.toInt) => ?_) (fun (h11 : p1.toInt < (τ 5 (ix p0)).toInt) => ?_)
      · refine lv_iconst (v := 0) hx hb dX2_step_46 (by decide) ?_
        refine lv_istore (lv' := [(5, .int 0), (4, .int 1), (0, .ref (ad 5)), (1, .int p0), (2, .int p1), (3, .int p2)]) hx hb dX2_step_47 hl (by decide) rfl (fun ls hl => ?_)
        refine lv_aload_n hx hb dX2_step_49 rfl (lv_at hl 2 rfl) ?_
        refine lv_iload hx hb dX2_step_50 (lv_at hl 1 rfl) ?_
        refine b_if_ne (tgt := 59) hx hb dX2_step_52 (by decide) (fun _ => ?_) (fun h => absurd h (by decide))
        refine lv_iload hx hb dX2_step_59 (lv_at hl 0 rfl) ?_
        refine b_if_ne (tgt := 68) hx hb dX2_step_61 (by decide) (fun h => absurd h (by decide)) (fun _ => ?_)
        refine lv_iconst (v := 2) hx hb dX2_step_64 (by decide) ?_
        refine lv_goto (tgt := 84) hx hb dX2_step_65 (by decide) ?_
        refine g_calli hY (g_runV (n := 1) (q := (RX2, TX2, 17)) (r := 5) hC (c_X2_holds l G ad σ n τ j th o od 2) gX2_step_X2_holds rfl ⟨rfl, rfl⟩ (by decide +kernel) ⟨Nat.le_of_ble_eq_true rfl, Nat.le_of_ble_eq_true rfl⟩ hY (by omega) rfl (ci := 2) rfl rfl hl.1 rfl (Nat.le_of_ble_eq_true rfl) dX2_step_84 ⟨Nat.le_of_ble_eq_true rfl, Nat.le_of_ble_eq_true rfl⟩) (fun r14 H locs h15 hY => ?_)
        obtain ⟨rfl, -⟩ := h15.resolve_left (fun q => absurd q.2 (by decide))
        refine b_if_ne (tgt := 92) hx hb dX2_step_87 (by decide) (fun h => absurd h (by decide)) (fun _ => ?_)
        refine lv_iconst (v := 0) hx hb dX2_step_90 (by decide) ?_
        have hcd : cdStep τ j p0 p1 p2 = 2 := by unfold cdStep; (repeat' split) <;> first | rfl | omega
        rw [hcd]
        rw [if_neg (by decide)]
        exact g_iret hC hr hlocks hY ⟨Nat.le_of_ble_eq_true rfl, Nat.le_of_ble_eq_true rfl⟩ dX2_step_91 (fun q => absurd q (by decide))
      · refine lv_iload_n hx hb dX2_step_32 rfl (lv_at hl 4 rfl) ?_
        refine lv_iconst (v := 1) hx hb dX2_step_33 (by decide) ?_
        refine lv_ldc (v := 99999) hx hb hC.2.2.2.1 (hC.2.2.2.2 _ (by decide +kernel)) dX2_step_34 ?_
        refine g_calli hY (g_runS (n := 3) hC (c_X2_isIn l G ad σ n τ j th o od p2 1 99999 1 99999 rfl rfl) gX2_step_X2_isIn rfl ⟨rfl, rfl⟩ (by decide +kernel) ⟨Nat.le_of_ble_eq_true rfl, Nat.le_of_ble_eq_true rfl⟩ hY rfl hl.1 rfl (Nat.le_of_ble_eq_true rfl) dX2_step_36 ⟨Nat.le_of_ble_eq_true rfl, Nat.le_of_ble_eq_true rfl⟩) (fun r17 H locs h18 hY => ?_)
        rcases h18 with ⟨rfl, h19⟩ | ⟨rfl, h19⟩
        · refine b_if_eq (tgt := 46) hx hb dX2_step_39 (by decide) (fun h => absurd h (by decide)) (fun _ => ?_)
          refine lv_iconst (v := 1) hx hb dX2_step_42 (by decide) ?_
          refine lv_goto (tgt := 47) hx hb dX2_step_43 (by decide) ?_
          refine lv_istore (lv' := [(5, .int 1), (4, .int 1), (0, .ref (ad 5)), (1, .int p0), (2, .int p1), (3, .int p2)]) hx hb dX2_step_47 hl (by decide) rfl (fun ls hl => ?_)
          refine lv_aload_n hx hb dX2_step_49 rfl (lv_at hl 2 rfl) ?_
          refine lv_iload hx hb dX2_step_50 (lv_at hl 1 rfl) ?_
          refine b_if_ne (tgt := 59) hx hb dX2_step_52 (by decide) (fun _ => ?_) (fun h => absurd h (by decide))
          refine lv_iload hx hb dX2_step_59 (lv_at hl 0 rfl) ?_
          refine b_if_ne (tgt := 68) hx hb dX2_step_61 (by decide) (fun _ => ?_) (fun h => absurd h (by decide))
          have hokk := okL_s (hI _ (ix_lt h3))
          have hk1 := hokk.1
          have hk2 := hokk.2
          have hple : plF τ (ix p0) p1 ≤ 0 + stN τ (ix p0) := plG_le _ _
          have hstn : (stN τ (ix p0) : Int) = (τ 12 (ix p0)).toInt := by unfold stN; omega
          refine lv_aload_n hx hb dX2_step_68 rfl (lv_at hl 2 rfl) ?_
          refine lv_iload_n hx hb dX2_step_69 rfl (lv_at hl 3 rfl) ?_
          refine lv_iload_n hx hb dX2_step_70 rfl (lv_at hl 4 rfl) ?_
          refine g_calli hY (g_runV (n := 2) (q := (RX2, TX2, 17)) (r := 5) hC (c_X2_placeOf l G ad σ n τ j th o od hj hI p0 p1 h3) gX2_step_X2_placeOf rfl ⟨rfl, rfl⟩ (by decide +kernel) ⟨Nat.le_of_ble_eq_true rfl, Nat.le_of_ble_eq_true rfl⟩ hY (by omega) rfl (ci := 2) rfl rfl hl.1 rfl (Nat.le_of_ble_eq_true rfl) dX2_step_71 ⟨Nat.le_of_ble_eq_true rfl, Nat.le_of_ble_eq_true rfl⟩) (fun r23 H locs h24 hY => ?_)
          refine lv_bipush (v := 6) hx hb dX2_step_74 (by decide) ?_
          refine b_icmp_ne (tgt := 83) hx hb dX2_step_76 (by decide) (fun (h25 : ¬ r23.toInt = 6) => ?_) (fun (h25 : r23.toInt = 6) => ?_)
          · refine lv_iconst (v := 0) hx hb dX2_step_83 (by decide) ?_
            refine g_calli hY (g_runV (n := 1) (q := (RX2, TX2, 17)) (r := 5) hC (c_X2_holds l G ad σ n τ j th o od 0) gX2_step_X2_holds rfl ⟨rfl, rfl⟩ (by decide +kernel) ⟨Nat.le_of_ble_eq_true rfl, Nat.le_of_ble_eq_true rfl⟩ hY (by omega) rfl (ci := 2) rfl rfl hl.1 rfl (Nat.le_of_ble_eq_true rfl) dX2_step_84 ⟨Nat.le_of_ble_eq_true rfl, Nat.le_of_ble_eq_true rfl⟩) (fun r26 H locs h27 hY => ?_)
            obtain ⟨rfl, -⟩ := h27.resolve_right (fun q => q.2 rfl)
            refine b_if_ne (tgt := 92) hx hb dX2_step_87 (by decide) (fun _ => ?_) (fun h => absurd h (by decide))
            refine lv_aload_n hx hb dX2_step_92 rfl (lv_at hl 2 rfl) ?_
            refine lv_iload_n hx hb dX2_step_93 rfl (lv_at hl 3 rfl) ?_
            refine lv_iload_n hx hb dX2_step_94 rfl (lv_at hl 4 rfl) ?_
            refine g_calli hY (g_runV (n := 2) (q := (RX2, TX2, 17)) (r := 5) hC (c_X2_placeOf l G ad σ n τ j 0 o od hj hI p0 p1 h3) gX2_step_X2_placeOf rfl ⟨rfl, rfl⟩ (by decide +kernel) ⟨Nat.le_of_ble_eq_true rfl, Nat.le_of_ble_eq_true rfl⟩ hY (by omega) rfl (ci := 2) rfl rfl hl.1 rfl (Nat.le_of_ble_eq_true rfl) dX2_step_95 ⟨Nat.le_of_ble_eq_true rfl, Nat.le_of_ble_eq_true rfl⟩) (fun r29 H locs h30 hY => ?_)
            refine lv_istore (lv' := [(6, .int r29), (5, .int 1), (4, .int 1), (0, .ref (ad 5)), (1, .int p0), (2, .int p1), (3, .int p2)]) hx hb dX2_step_98 hl (by decide) rfl (fun ls hl => ?_)
            refine lv_aload_n hx hb dX2_step_100 rfl (lv_at hl 3 rfl) ?_
            refine gtM_stepDays hC hin2 hY (by decide +kernel) dX2_step_101 ?_
            refine lv_bipush (v := 6) hx hb dX2_step_104 (by decide) ?_
            refine lv_iload_n hx hb dX2_step_106 rfl (lv_at hl 4 rfl) ?_
            refine lv_imul hx hb dX2_step_107 ?_
            refine lv_iload hx hb dX2_step_108 (lv_at hl 0 rfl) ?_
            refine lv_iadd hx hb dX2_step_110 ?_
            refine lv_iload_n hx hb dX2_step_111 rfl (lv_at hl 5 rfl) ?_
            refine wrM13 hC hY (by rw [six (p := p0) (x := r29) (ix_toInt h3.1).symm h30 (by have := ix_lt h3; omega) (by omega)]; have := ix_lt h3; exact ⟨by omega, by omega⟩) dX2_step_112 (fun H locs hY => ?_)
            refine lv_aload_n hx hb dX2_step_113 rfl (lv_at hl 3 rfl) ?_
            refine gtM_stepRents hC hin2 hY (by decide +kernel) dX2_step_114 ?_
            refine lv_bipush (v := 6) hx hb dX2_step_117 (by decide) ?_
            refine lv_iload_n hx hb dX2_step_119 rfl (lv_at hl 4 rfl) ?_
            refine lv_imul hx hb dX2_step_120 ?_
            refine lv_iload hx hb dX2_step_121 (lv_at hl 0 rfl) ?_
            refine lv_iadd hx hb dX2_step_123 ?_
            refine lv_iload_n hx hb dX2_step_124 rfl (lv_at hl 6 rfl) ?_
            refine wrM14 hC hY (by rw [six (p := p0) (x := r29) (ix_toInt h3.1).symm h30 (by have := ix_lt h3; omega) (by omega)]; have := ix_lt h3; exact ⟨by omega, by omega⟩) dX2_step_125 (fun H locs hY => ?_)
            refine lv_aload_n hx hb dX2_step_126 rfl (lv_at hl 3 rfl) ?_
            refine gtM_steps hC hin2 hY (by decide +kernel) dX2_step_127 ?_
            refine lv_iload_n hx hb dX2_step_130 rfl (lv_at hl 4 rfl) ?_
            refine lv_dup2_11 hx hb dX2_step_131 rfl rfl ?_
            refine rdM12 hC hY ⟨by omega, by omega⟩ dX2_step_132 ?_
            refine lv_iload hx hb dX2_step_133 (lv_at hl 0 rfl) ?_
            refine lv_aload_n hx hb dX2_step_135 rfl (lv_at hl 3 rfl) ?_
            refine gtM_steps hC hin2 hY (by decide +kernel) dX2_step_136 ?_
            refine lv_iload_n hx hb dX2_step_139 rfl (lv_at hl 4 rfl) ?_
            refine rdM12 hC hY ⟨by omega, by omega⟩ dX2_step_140 ?_
            refine b_icmp_ne (tgt := 148) hx hb dX2_step_141 (by decide) (fun (h31 : ¬ r29.toInt = ((us (us τ 13 (ix ((6 * p0) + r29)) p1) 14 (ix ((6 * p0) + r29)) p2) 12 (ix p0)).toInt) => ?_) (fun (h31 : r29.toInt = ((us (us τ 13 (ix ((6 * p0) + r29)) p1) 14 (ix ((6 * p0) + r29)) p2) 12 (ix p0)).toInt) => ?_)
            · refine lv_iconst (v := 0) hx hb dX2_step_148 (by decide) ?_
              refine lv_iadd hx hb dX2_step_149 ?_
              refine wrM12 hC hY ⟨by omega, by omega⟩ dX2_step_150 (fun H locs hY => ?_)
              refine lv_aload_n hx hb dX2_step_151 rfl (lv_at hl 3 rfl) ?_
              refine gtM_steps hC hin2 hY (by decide +kernel) dX2_step_152 ?_
              refine lv_iload_n hx hb dX2_step_155 rfl (lv_at hl 4 rfl) ?_
              refine rdM12 hC hY ⟨by omega, by omega⟩ dX2_step_156 ?_
              have h66 := six (p := p0) (x := r29) (ix_toInt h3.1).symm h30 (by have := ix_lt h3; omega) (by omega)
              have hsn : plF τ (ix p0) p1 ≠ stN τ (ix p0) := by
                have hq : ¬ r29.toInt = (τ 12 (ix p0)).toInt := h31
                unfold stN; omega
              have hps : psS τ (ix p0) p1 p2 = (us (us (us τ 13 (ix ((6 * p0) + r29)) p1) 14 (ix ((6 * p0) + r29)) p2) 12 (ix p0) (((us (us τ 13 (ix ((6 * p0) + r29)) p1) 14 (ix ((6 * p0) + r29)) p2) 12 (ix p0)) + 0)) := by
                unfold psS; rw [if_pos (by omega), if_neg hsn, i_ix h66]; rw [show (us (us τ 13 (6 * (ix p0) + plF τ (ix p0) p1) p1) 14 (6 * (ix p0) + plF τ (ix p0) p1) p2) 12 (ix p0) + 0 = τ 12 (ix p0) from Int32.add_zero _]
              have hcd : cdStep τ j p0 p1 p2 = 0 := by unfold cdStep; (repeat' split) <;> first | rfl | omega
              rw [hcd]
              rw [if_pos rfl, hps]
              exact g_iret hC hr hlocks hY ⟨Nat.le_of_ble_eq_true rfl, Nat.le_of_ble_eq_true rfl⟩ dX2_step_157 (fun _ => rfl)
            · refine lv_iconst (v := 1) hx hb dX2_step_144 (by decide) ?_
              refine lv_goto (tgt := 149) hx hb dX2_step_145 (by decide) ?_
              refine lv_iadd hx hb dX2_step_149 ?_
              refine wrM12 hC hY ⟨by omega, by omega⟩ dX2_step_150 (fun H locs hY => ?_)
              refine lv_aload_n hx hb dX2_step_151 rfl (lv_at hl 3 rfl) ?_
              refine gtM_steps hC hin2 hY (by decide +kernel) dX2_step_152 ?_
              refine lv_iload_n hx hb dX2_step_155 rfl (lv_at hl 4 rfl) ?_
              refine rdM12 hC hY ⟨by omega, by omega⟩ dX2_step_156 ?_
              have h66 := six (p := p0) (x := r29) (ix_toInt h3.1).symm h30 (by have := ix_lt h3; omega) (by omega)
              have hsn : plF τ (ix p0) p1 = stN τ (ix p0) := by
                have hq : r29.toInt = (τ 12 (ix p0)).toInt := h31
                unfold stN; omega
              have hps : psS τ (ix p0) p1 p2 = (us (us (us τ 13 (ix ((6 * p0) + r29)) p1) 14 (ix ((6 * p0) + r29)) p2) 12 (ix p0) (((us (us τ 13 (ix ((6 * p0) + r29)) p1) 14 (ix ((6 * p0) + r29)) p2) 12 (ix p0)) + 1)) := by
                unfold psS; rw [if_pos (by omega), if_pos hsn, i_ix h66]; rfl
              have hcd : cdStep τ j p0 p1 p2 = 0 := by unfold cdStep; (repeat' split) <;> first | rfl | omega
              rw [hcd]
              rw [if_pos rfl, hps]
              exact g_iret hC hr hlocks hY ⟨Nat.le_of_ble_eq_true rfl, Nat.le_of_ble_eq_true rfl⟩ dX2_step_157 (fun _ => rfl)
          · refine lv_iconst (v := 3) hx hb dX2_step_79 (by decide) ?_
            refine lv_goto (tgt := 84) hx hb dX2_step_80 (by decide) ?_
            refine g_calli hY (g_runV (n := 1) (q := (RX2, TX2, 17)) (r := 5) hC (c_X2_holds l G ad σ n τ j th o od 3) gX2_step_X2_holds rfl ⟨rfl, rfl⟩ (by decide +kernel) ⟨Nat.le_of_ble_eq_true rfl, Nat.le_of_ble_eq_true rfl⟩ hY (by omega) rfl (ci := 2) rfl rfl hl.1 rfl (Nat.le_of_ble_eq_true rfl) dX2_step_84 ⟨Nat.le_of_ble_eq_true rfl, Nat.le_of_ble_eq_true rfl⟩) (fun r32 H locs h33 hY => ?_)
            obtain ⟨rfl, -⟩ := h33.resolve_left (fun q => absurd q.2 (by decide))
            refine b_if_ne (tgt := 92) hx hb dX2_step_87 (by decide) (fun h => absurd h (by decide)) (fun _ => ?_)
            refine lv_iconst (v := 0) hx hb dX2_step_90 (by decide) ?_
            have hcd : cdStep τ j p0 p1 p2 = 3 := by unfold cdStep; (repeat' split) <;> first | rfl | omega
            rw [hcd]
            rw [if_neg (by decide)]
            exact g_iret hC hr hlocks hY ⟨Nat.le_of_ble_eq_true rfl, Nat.le_of_ble_eq_true rfl⟩ dX2_step_91 (fun q => absurd q (by decide))
        · refine b_if_eq (tgt := 46) hx hb dX2_step_39 (by decide) (fun _ => ?_) (fun h => absurd h (by decide))
          refine lv_iconst (v := 0) hx hb dX2_step_46 (by decide) ?_
          refine lv_istore (lv' := [(5, .int 0), (4, .int 1), (0, .ref (ad 5)), (1, .int p0), (2, .int p1), (3, .int p2)]) hx hb dX2_step_47 hl (by decide) rfl (fun ls hl => ?_)
          refine lv_aload_n hx hb dX2_step_49 rfl (lv_at hl 2 rfl) ?_
          refine lv_iload hx hb dX2_step_50 (lv_at hl 1 rfl) ?_
          refine b_if_ne (tgt := 59) hx hb dX2_step_52 (by decide) (fun _ => ?_) (fun h => absurd h (by decide))
          refine lv_iload hx hb dX2_step_59 (lv_at hl 0 rfl) ?_
          refine b_if_ne (tgt := 68) hx hb dX2_step_61 (by decide) (fun h => absurd h (by decide)) (fun _ => ?_)
          refine lv_iconst (v := 2) hx hb dX2_step_64 (by decide) ?_
          refine lv_goto (tgt := 84) hx hb dX2_step_65 (by decide) ?_
          refine g_calli hY (g_runV (n := 1) (q := (RX2, TX2, 17)) (r := 5) hC (c_X2_holds l G ad σ n τ j th o od 2) gX2_step_X2_holds rfl ⟨rfl, rfl⟩ (by decide +kernel) ⟨Nat.le_of_ble_eq_true rfl, Nat.le_of_ble_eq_true rfl⟩ hY (by omega) rfl (ci := 2) rfl rfl hl.1 rfl (Nat.le_of_ble_eq_true rfl) dX2_step_84 ⟨Nat.le_of_ble_eq_true rfl, Nat.le_of_ble_eq_true rfl⟩) (fun r38 H locs h39 hY => ?_)
          obtain ⟨rfl, -⟩ := h39.resolve_left (fun q => absurd q.2 (by decide))
          refine b_if_ne (tgt := 92) hx hb dX2_step_87 (by decide) (fun h => absurd h (by decide)) (fun _ => ?_)
          refine lv_iconst (v := 0) hx hb dX2_step_90 (by decide) ?_
          have hcd : cdStep τ j p0 p1 p2 = 2 := by unfold cdStep; (repeat' split) <;> first | rfl | omega
          rw [hcd]
          rw [if_neg (by decide)]
          exact g_iret hC hr hlocks hY ⟨Nat.le_of_ble_eq_true rfl, Nat.le_of_ble_eq_true rfl⟩ dX2_step_91 (fun q => absurd q (by decide))
  · refine lv_istore (lv' := [(4, .int 0), (0, .ref (ad 5)), (1, .int p0), (2, .int p1), (3, .int p2)]) hx hb dX2_step_5 hl (by decide) rfl (fun ls hl => ?_)
    refine lv_iload hx hb dX2_step_7 (lv_at hl 0 rfl) ?_
    refine b_if_eq (tgt := 46) hx hb dX2_step_9 (by decide) (fun _ => ?_) (fun h => absurd h (by decide))
    refine lv_iconst (v := 0) hx hb dX2_step_46 (by decide) ?_
    refine lv_istore (lv' := [(5, .int 0), (4, .int 0), (0, .ref (ad 5)), (1, .int p0), (2, .int p1), (3, .int p2)]) hx hb dX2_step_47 hl (by decide) rfl (fun ls hl => ?_)
    refine lv_aload_n hx hb dX2_step_49 rfl (lv_at hl 2 rfl) ?_
    refine lv_iload hx hb dX2_step_50 (lv_at hl 1 rfl) ?_
    refine b_if_ne (tgt := 59) hx hb dX2_step_52 (by decide) (fun h => absurd h (by decide)) (fun _ => ?_)
    refine lv_iconst (v := 1) hx hb dX2_step_55 (by decide) ?_
    refine lv_goto (tgt := 84) hx hb dX2_step_56 (by decide) ?_
    refine g_calli hY (g_runV (n := 1) (q := (RX2, TX2, 17)) (r := 5) hC (c_X2_holds l G ad σ n τ j th o od 1) gX2_step_X2_holds rfl ⟨rfl, rfl⟩ (by decide +kernel) ⟨Nat.le_of_ble_eq_true rfl, Nat.le_of_ble_eq_true rfl⟩ hY (by omega) rfl (ci := 2) rfl rfl hl.1 rfl (Nat.le_of_ble_eq_true rfl) dX2_step_84 ⟨Nat.le_of_ble_eq_true rfl, Nat.le_of_ble_eq_true rfl⟩) (fun r43 H locs h44 hY => ?_)
    obtain ⟨rfl, -⟩ := h44.resolve_left (fun q => absurd q.2 (by decide))
    refine b_if_ne (tgt := 92) hx hb dX2_step_87 (by decide) (fun h => absurd h (by decide)) (fun _ => ?_)
    refine lv_iconst (v := 0) hx hb dX2_step_90 (by decide) ?_
    have hcd : cdStep τ j p0 p1 p2 = 1 := by unfold cdStep; (repeat' split) <;> first | rfl | omega
    rw [hcd]
    rw [if_neg (by decide)]
    exact g_iret hC hr hlocks hY ⟨Nat.le_of_ble_eq_true rfl, Nat.le_of_ble_eq_true rfl⟩ dX2_step_91 (fun q => absurd q (by decide))

set_option maxHeartbeats 4000000 in
set_option maxRecDepth 100000 in
theorem c_X2_setTerms (l : Launch) (G : GG) (ad : Nat → Nat) (σ : St) (n : Nat) (τ : St) (j : Nat) (th : Int32) (o : OL) (od : OD) (hj : j ≤ 24) (p0 p1 p2 : Int32)  : Met l yX2_setTerms wsX2_setTerms ({ frames := 4, cells := 0, slots := 0, locals := 120 }) (PcS G ad σ n τ j th o od [.ref (ad 5), .int p0, .int p1, .int p2]) (Qv G (3 * n + 23) ad (ctS G ad σ n (if cdTerms j p0 p1 p2 = 0 then (us (us τ 7 (ix p0) p1) 8 (ix p0) p2) else τ) j (cdTerms j p0 p1 p2) o od) (True)) 0 0 (gF G) := by
  refine Met.ofW (cc := cX2_setTerms) (maxL := 5) (ret := none) (by decide) rfl ?_
  intro p e s m args below meth c s₁ B hml hv
  obtain ⟨rfl, hY⟩ := hv
  have hts := atoms_spec (ws := wsX2_setTerms) B.pre
  have hC : CallFix p m c cX2_setTerms 5 s _ wsX2_setTerms RX2 := ⟨B.exec, B.bytes, hml, findClass_of_methodNamed B.named, hts⟩
  have hx := hC.1
  have hb := hC.2.1
  have hr := B.returns
  have hlocks := B.notSynchronized
  have hin2 : ∀ w ∈ wsX20, w ∈ wsX2_setTerms := by decide +kernel
  have hl := lv_entry ([.ref (ad 5), .int p0, .int p1, .int p2]) (n := 5) (Nat.le_of_ble_eq_true rfl)
  rw [lg_entry_eq]
  generalize (lg_sl ([.ref (ad 5), .int p0, .int p1, .int p2]) ++ List.replicate (5 - (lg_sl ([.ref (ad 5), .int p0, .int p1, .int p2])).length) Slot.unset).toArray = ls at hl ⊢
  have hl : lv_has ls 5 [(0, .ref (ad 5)), (1, .int p0), (2, .int p1), (3, .int p2)] := hl
  have hnj : (nI j).toInt = (j : Int) := i_nI (by omega)
  refine lv_iload_n hx hb dX2_setTerms_0 rfl (lv_at hl 2 rfl) ?_
  refine lv_iconst (v := 0) hx hb dX2_setTerms_1 (by decide) ?_
  refine lv_sipush (v := 720) hx hb dX2_setTerms_2 (by decide) ?_
  refine g_calli hY (g_runS (n := 3) hC (c_X2_isIn l G ad σ n τ j th o od p1 0 720 0 720 rfl rfl) gX2_setTerms_X2_isIn rfl ⟨rfl, rfl⟩ (by decide +kernel) ⟨Nat.le_of_ble_eq_true rfl, Nat.le_of_ble_eq_true rfl⟩ hY rfl hl.1 rfl (Nat.le_of_ble_eq_true rfl) dX2_setTerms_5 ⟨Nat.le_of_ble_eq_true rfl, Nat.le_of_ble_eq_true rfl⟩) (fun r1 H locs h2 hY => ?_)
  rcases h2 with ⟨rfl, h3⟩ | ⟨rfl, h3⟩
  · refine b_if_eq (tgt := 31) hx hb dX2_setTerms_8 (by decide) (fun h => absurd h (by decide)) (fun _ => ?_)
    refine lv_iload_n hx hb dX2_setTerms_11 rfl (lv_at hl 3 rfl) ?_
    refine b_if_eq (tgt := 27) hx hb dX2_setTerms_12 (by decide) (fun (h5 : p2.toInt = 0) => ?_) (fun (h5 : ¬ p2.toInt = 0) => ?_)
    · refine lv_iconst (v := 1) hx hb dX2_setTerms_27 (by decide) ?_
      refine lv_goto (tgt := 32) hx hb dX2_setTerms_28 (by decide) ?_
      refine lv_istore (lv' := [(4, .int 1), (0, .ref (ad 5)), (1, .int p0), (2, .int p1), (3, .int p2)]) hx hb dX2_setTerms_32 hl (by decide) rfl (fun ls hl => ?_)
      refine lv_aload_n hx hb dX2_setTerms_34 rfl (lv_at hl 1 rfl) ?_
      refine lv_aload_n hx hb dX2_setTerms_35 rfl (lv_at hl 1 rfl) ?_
      refine lv_iload_n hx hb dX2_setTerms_36 rfl (lv_at hl 2 rfl) ?_
      refine g_calli hY (g_runV (n := 1) (q := (RX2, TX2, 17)) (r := 5) hC (c_X2_isLease l G ad σ n τ j th o od hj p0) gX2_setTerms_X2_isLease rfl ⟨rfl, rfl⟩ (by decide +kernel) ⟨Nat.le_of_ble_eq_true rfl, Nat.le_of_ble_eq_true rfl⟩ hY (by omega) rfl (ci := 2) rfl rfl hl.1 rfl (Nat.le_of_ble_eq_true rfl) dX2_setTerms_37 ⟨Nat.le_of_ble_eq_true rfl, Nat.le_of_ble_eq_true rfl⟩) (fun r6 H locs h7 hY => ?_)
      rcases h7 with ⟨rfl, h8⟩ | ⟨rfl, h8⟩
      · refine b_if_ne (tgt := 47) hx hb dX2_setTerms_40 (by decide) (fun _ => ?_) (fun h => absurd h (by decide))
        refine lv_iload hx hb dX2_setTerms_47 (lv_at hl 0 rfl) ?_
        refine b_if_eq (tgt := 56) hx hb dX2_setTerms_49 (by decide) (fun h => absurd h (by decide)) (fun _ => ?_)
        refine lv_iconst (v := 0) hx hb dX2_setTerms_52 (by decide) ?_
        refine lv_goto (tgt := 57) hx hb dX2_setTerms_53 (by decide) ?_
        refine g_calli hY (g_runV (n := 1) (q := (RX2, TX2, 17)) (r := 5) hC (c_X2_holds l G ad σ n τ j th o od 0) gX2_setTerms_X2_holds rfl ⟨rfl, rfl⟩ (by decide +kernel) ⟨Nat.le_of_ble_eq_true rfl, Nat.le_of_ble_eq_true rfl⟩ hY (by omega) rfl (ci := 2) rfl rfl hl.1 rfl (Nat.le_of_ble_eq_true rfl) dX2_setTerms_57 ⟨Nat.le_of_ble_eq_true rfl, Nat.le_of_ble_eq_true rfl⟩) (fun r11 H locs h12 hY => ?_)
        obtain ⟨rfl, -⟩ := h12.resolve_right (fun q => q.2 rfl)
        refine b_if_eq (tgt := 77) hx hb dX2_setTerms_60 (by decide) (fun h => absurd h (by decide)) (fun _ => ?_)
        refine lv_aload_n hx hb dX2_setTerms_63 rfl (lv_at hl 1 rfl) ?_
        refine gtM_frees hC hin2 hY (by decide +kernel) dX2_setTerms_64 ?_
        refine lv_iload_n hx hb dX2_setTerms_67 rfl (lv_at hl 2 rfl) ?_
        refine lv_iload_n hx hb dX2_setTerms_68 rfl (lv_at hl 3 rfl) ?_
        refine wrM7 hC hY ⟨by omega, by omega⟩ dX2_setTerms_69 (fun H locs hY => ?_)
        refine lv_aload_n hx hb dX2_setTerms_70 rfl (lv_at hl 1 rfl) ?_
        refine gtM_everies hC hin2 hY (by decide +kernel) dX2_setTerms_71 ?_
        refine lv_iload_n hx hb dX2_setTerms_74 rfl (lv_at hl 2 rfl) ?_
        refine lv_iload_n hx hb dX2_setTerms_75 rfl (lv_at hl 4 rfl) ?_
        refine wrM8 hC hY ⟨by omega, by omega⟩ dX2_setTerms_76 (fun H locs hY => ?_)
        have hcd : cdTerms j p0 p1 p2 = 0 := by unfold cdTerms; (repeat' split) <;> first | rfl | omega
        rw [hcd]
        rw [if_pos rfl]
        exact g_vret hC hr hlocks hY ⟨Nat.le_of_ble_eq_true rfl, Nat.le_of_ble_eq_true rfl⟩ dX2_setTerms_77 (trivial)
      · refine b_if_ne (tgt := 47) hx hb dX2_setTerms_40 (by decide) (fun h => absurd h (by decide)) (fun _ => ?_)
        refine lv_iconst (v := 1) hx hb dX2_setTerms_43 (by decide) ?_
        refine lv_goto (tgt := 57) hx hb dX2_setTerms_44 (by decide) ?_
        refine g_calli hY (g_runV (n := 1) (q := (RX2, TX2, 17)) (r := 5) hC (c_X2_holds l G ad σ n τ j th o od 1) gX2_setTerms_X2_holds rfl ⟨rfl, rfl⟩ (by decide +kernel) ⟨Nat.le_of_ble_eq_true rfl, Nat.le_of_ble_eq_true rfl⟩ hY (by omega) rfl (ci := 2) rfl rfl hl.1 rfl (Nat.le_of_ble_eq_true rfl) dX2_setTerms_57 ⟨Nat.le_of_ble_eq_true rfl, Nat.le_of_ble_eq_true rfl⟩) (fun r15 H locs h16 hY => ?_)
        obtain ⟨rfl, -⟩ := h16.resolve_left (fun q => absurd q.2 (by decide))
        refine b_if_eq (tgt := 77) hx hb dX2_setTerms_60 (by decide) (fun _ => ?_) (fun h => absurd h (by decide))
        have hcd : cdTerms j p0 p1 p2 = 1 := by unfold cdTerms; (repeat' split) <;> first | rfl | omega
        rw [hcd]
        rw [if_neg (by decide)]
        exact g_vret hC hr hlocks hY ⟨Nat.le_of_ble_eq_true rfl, Nat.le_of_ble_eq_true rfl⟩ dX2_setTerms_77 (trivial)
    · refine lv_iload_n hx hb dX2_setTerms_15 rfl (lv_at hl 3 rfl) ?_
      refine lv_bipush (v := 30) hx hb dX2_setTerms_16 (by decide) ?_
      refine lv_sipush (v := 1800) hx hb dX2_setTerms_18 (by decide) ?_
      refine g_calli hY (g_runS (n := 3) hC (c_X2_isIn l G ad σ n τ j th o od p2 30 1800 30 1800 rfl rfl) gX2_setTerms_X2_isIn rfl ⟨rfl, rfl⟩ (by decide +kernel) ⟨Nat.le_of_ble_eq_true rfl, Nat.le_of_ble_eq_true rfl⟩ hY rfl hl.1 rfl (Nat.le_of_ble_eq_true rfl) dX2_setTerms_21 ⟨Nat.le_of_ble_eq_true rfl, Nat.le_of_ble_eq_true rfl⟩) (fun r18 H locs h19 hY => ?_)
      rcases h19 with ⟨rfl, h20⟩ | ⟨rfl, h20⟩
      · refine b_if_eq (tgt := 31) hx hb dX2_setTerms_24 (by decide) (fun h => absurd h (by decide)) (fun _ => ?_)
        refine lv_iconst (v := 1) hx hb dX2_setTerms_27 (by decide) ?_
        refine lv_goto (tgt := 32) hx hb dX2_setTerms_28 (by decide) ?_
        refine lv_istore (lv' := [(4, .int 1), (0, .ref (ad 5)), (1, .int p0), (2, .int p1), (3, .int p2)]) hx hb dX2_setTerms_32 hl (by decide) rfl (fun ls hl => ?_)
        refine lv_aload_n hx hb dX2_setTerms_34 rfl (lv_at hl 1 rfl) ?_
        refine lv_aload_n hx hb dX2_setTerms_35 rfl (lv_at hl 1 rfl) ?_
        refine lv_iload_n hx hb dX2_setTerms_36 rfl (lv_at hl 2 rfl) ?_
        refine g_calli hY (g_runV (n := 1) (q := (RX2, TX2, 17)) (r := 5) hC (c_X2_isLease l G ad σ n τ j th o od hj p0) gX2_setTerms_X2_isLease rfl ⟨rfl, rfl⟩ (by decide +kernel) ⟨Nat.le_of_ble_eq_true rfl, Nat.le_of_ble_eq_true rfl⟩ hY (by omega) rfl (ci := 2) rfl rfl hl.1 rfl (Nat.le_of_ble_eq_true rfl) dX2_setTerms_37 ⟨Nat.le_of_ble_eq_true rfl, Nat.le_of_ble_eq_true rfl⟩) (fun r22 H locs h23 hY => ?_)
        rcases h23 with ⟨rfl, h24⟩ | ⟨rfl, h24⟩
        · refine b_if_ne (tgt := 47) hx hb dX2_setTerms_40 (by decide) (fun _ => ?_) (fun h => absurd h (by decide))
          refine lv_iload hx hb dX2_setTerms_47 (lv_at hl 0 rfl) ?_
          refine b_if_eq (tgt := 56) hx hb dX2_setTerms_49 (by decide) (fun h => absurd h (by decide)) (fun _ => ?_)
          refine lv_iconst (v := 0) hx hb dX2_setTerms_52 (by decide) ?_
          refine lv_goto (tgt := 57) hx hb dX2_setTerms_53 (by decide) ?_
          refine g_calli hY (g_runV (n := 1) (q := (RX2, TX2, 17)) (r := 5) hC (c_X2_holds l G ad σ n τ j th o od 0) gX2_setTerms_X2_holds rfl ⟨rfl, rfl⟩ (by decide +kernel) ⟨Nat.le_of_ble_eq_true rfl, Nat.le_of_ble_eq_true rfl⟩ hY (by omega) rfl (ci := 2) rfl rfl hl.1 rfl (Nat.le_of_ble_eq_true rfl) dX2_setTerms_57 ⟨Nat.le_of_ble_eq_true rfl, Nat.le_of_ble_eq_true rfl⟩) (fun r27 H locs h28 hY => ?_)
          obtain ⟨rfl, -⟩ := h28.resolve_right (fun q => q.2 rfl)
          refine b_if_eq (tgt := 77) hx hb dX2_setTerms_60 (by decide) (fun h => absurd h (by decide)) (fun _ => ?_)
          refine lv_aload_n hx hb dX2_setTerms_63 rfl (lv_at hl 1 rfl) ?_
          refine gtM_frees hC hin2 hY (by decide +kernel) dX2_setTerms_64 ?_
          refine lv_iload_n hx hb dX2_setTerms_67 rfl (lv_at hl 2 rfl) ?_
          refine lv_iload_n hx hb dX2_setTerms_68 rfl (lv_at hl 3 rfl) ?_
          refine wrM7 hC hY ⟨by omega, by omega⟩ dX2_setTerms_69 (fun H locs hY => ?_)
          refine lv_aload_n hx hb dX2_setTerms_70 rfl (lv_at hl 1 rfl) ?_
          refine gtM_everies hC hin2 hY (by decide +kernel) dX2_setTerms_71 ?_
          refine lv_iload_n hx hb dX2_setTerms_74 rfl (lv_at hl 2 rfl) ?_
          refine lv_iload_n hx hb dX2_setTerms_75 rfl (lv_at hl 4 rfl) ?_
          refine wrM8 hC hY ⟨by omega, by omega⟩ dX2_setTerms_76 (fun H locs hY => ?_)
          have hcd : cdTerms j p0 p1 p2 = 0 := by unfold cdTerms; (repeat' split) <;> first | rfl | omega
          rw [hcd]
          rw [if_pos rfl]
          exact g_vret hC hr hlocks hY ⟨Nat.le_of_ble_eq_true rfl, Nat.le_of_ble_eq_true rfl⟩ dX2_setTerms_77 (trivial)
        · refine b_if_ne (tgt := 47) hx hb dX2_setTerms_40 (by decide) (fun h => absurd h (by decide)) (fun _ => ?_)
          refine lv_iconst (v := 1) hx hb dX2_setTerms_43 (by decide) ?_
          refine lv_goto (tgt := 57) hx hb dX2_setTerms_44 (by decide) ?_
          refine g_calli hY (g_runV (n := 1) (q := (RX2, TX2, 17)) (r := 5) hC (c_X2_holds l G ad σ n τ j th o od 1) gX2_setTerms_X2_holds rfl ⟨rfl, rfl⟩ (by decide +kernel) ⟨Nat.le_of_ble_eq_true rfl, Nat.le_of_ble_eq_true rfl⟩ hY (by omega) rfl (ci := 2) rfl rfl hl.1 rfl (Nat.le_of_ble_eq_true rfl) dX2_setTerms_57 ⟨Nat.le_of_ble_eq_true rfl, Nat.le_of_ble_eq_true rfl⟩) (fun r31 H locs h32 hY => ?_)
          obtain ⟨rfl, -⟩ := h32.resolve_left (fun q => absurd q.2 (by decide))
          refine b_if_eq (tgt := 77) hx hb dX2_setTerms_60 (by decide) (fun _ => ?_) (fun h => absurd h (by decide))
          have hcd : cdTerms j p0 p1 p2 = 1 := by unfold cdTerms; (repeat' split) <;> first | rfl | omega
          rw [hcd]
          rw [if_neg (by decide)]
          exact g_vret hC hr hlocks hY ⟨Nat.le_of_ble_eq_true rfl, Nat.le_of_ble_eq_true rfl⟩ dX2_setTerms_77 (trivial)
      · refine b_if_eq (tgt := 31) hx hb dX2_setTerms_24 (by decide) (fun _ => ?_) (fun h => absurd h (by decide))
        refine lv_iconst (v := 0) hx hb dX2_setTerms_31 (by decide) ?_
        refine lv_istore (lv' := [(4, .int 0), (0, .ref (ad 5)), (1, .int p0), (2, .int p1), (3, .int p2)]) hx hb dX2_setTerms_32 hl (by decide) rfl (fun ls hl => ?_)
        refine lv_aload_n hx hb dX2_setTerms_34 rfl (lv_at hl 1 rfl) ?_
        refine lv_aload_n hx hb dX2_setTerms_35 rfl (lv_at hl 1 rfl) ?_
        refine lv_iload_n hx hb dX2_setTerms_36 rfl (lv_at hl 2 rfl) ?_
        refine g_calli hY (g_runV (n := 1) (q := (RX2, TX2, 17)) (r := 5) hC (c_X2_isLease l G ad σ n τ j th o od hj p0) gX2_setTerms_X2_isLease rfl ⟨rfl, rfl⟩ (by decide +kernel) ⟨Nat.le_of_ble_eq_true rfl, Nat.le_of_ble_eq_true rfl⟩ hY (by omega) rfl (ci := 2) rfl rfl hl.1 rfl (Nat.le_of_ble_eq_true rfl) dX2_setTerms_37 ⟨Nat.le_of_ble_eq_true rfl, Nat.le_of_ble_eq_true rfl⟩) (fun r35 H locs h36 hY => ?_)
        rcases h36 with ⟨rfl, h37⟩ | ⟨rfl, h37⟩
        · refine b_if_ne (tgt := 47) hx hb dX2_setTerms_40 (by decide) (fun _ => ?_) (fun h => absurd h (by decide))
          refine lv_iload hx hb dX2_setTerms_47 (lv_at hl 0 rfl) ?_
          refine b_if_eq (tgt := 56) hx hb dX2_setTerms_49 (by decide) (fun _ => ?_) (fun h => absurd h (by decide))
          refine lv_iconst (v := 2) hx hb dX2_setTerms_56 (by decide) ?_
          refine g_calli hY (g_runV (n := 1) (q := (RX2, TX2, 17)) (r := 5) hC (c_X2_holds l G ad σ n τ j th o od 2) gX2_setTerms_X2_holds rfl ⟨rfl, rfl⟩ (by decide +kernel) ⟨Nat.le_of_ble_eq_true rfl, Nat.le_of_ble_eq_true rfl⟩ hY (by omega) rfl (ci := 2) rfl rfl hl.1 rfl (Nat.le_of_ble_eq_true rfl) dX2_setTerms_57 ⟨Nat.le_of_ble_eq_true rfl, Nat.le_of_ble_eq_true rfl⟩) (fun r40 H locs h41 hY => ?_)
          obtain ⟨rfl, -⟩ := h41.resolve_left (fun q => absurd q.2 (by decide))
          refine b_if_eq (tgt := 77) hx hb dX2_setTerms_60 (by decide) (fun _ => ?_) (fun h => absurd h (by decide))
          have hcd : cdTerms j p0 p1 p2 = 2 := by unfold cdTerms; (repeat' split) <;> first | rfl | omega
          rw [hcd]
          rw [if_neg (by decide)]
          exact g_vret hC hr hlocks hY ⟨Nat.le_of_ble_eq_true rfl, Nat.le_of_ble_eq_true rfl⟩ dX2_setTerms_77 (trivial)
        · refine b_if_ne (tgt := 47) hx hb dX2_setTerms_40 (by decide) (fun h => absurd h (by decide)) (fun _ => ?_)
          refine lv_iconst (v := 1) hx hb dX2_setTerms_43 (by decide) ?_
          refine lv_goto (tgt := 57) hx hb dX2_setTerms_44 (by decide) ?_
          refine g_calli hY (g_runV (n := 1) (q := (RX2, TX2, 17)) (r := 5) hC (c_X2_holds l G ad σ n τ j th o od 1) gX2_setTerms_X2_holds rfl ⟨rfl, rfl⟩ (by decide +kernel) ⟨Nat.le_of_ble_eq_true rfl, Nat.le_of_ble_eq_true rfl⟩ hY (by omega) rfl (ci := 2) rfl rfl hl.1 rfl (Nat.le_of_ble_eq_true rfl) dX2_setTerms_57 ⟨Nat.le_of_ble_eq_true rfl, Nat.le_of_ble_eq_true rfl⟩) (fun r44 H locs h45 hY => ?_)
          obtain ⟨rfl, -⟩ := h45.resolve_left (fun q => absurd q.2 (by decide))
          refine b_if_eq (tgt := 77) hx hb dX2_setTerms_60 (by decide) (fun _ => ?_) (fun h => absurd h (by decide))
          have hcd : cdTerms j p0 p1 p2 = 1 := by unfold cdTerms; (repeat' split) <;> first | rfl | omega
          rw [hcd]
          rw [if_neg (by decide)]
          exact g_vret hC hr hlocks hY ⟨Nat.le_of_ble_eq_true rfl, Nat.le_of_ble_eq_true rfl⟩ dX2_setTerms_77 (trivial)
  · refine b_if_eq (tgt := 31) hx hb dX2_setTerms_8 (by decide) (fun _ => ?_) (fun h => absurd h (by decide))
    refine lv_iconst (v := 0) hx hb dX2_setTerms_31 (by decide) ?_
    refine lv_istore (lv' := [(4, .int 0), (0, .ref (ad 5)), (1, .int p0), (2, .int p1), (3, .int p2)]) hx hb dX2_setTerms_32 hl (by decide) rfl (fun ls hl => ?_)
    refine lv_aload_n hx hb dX2_setTerms_34 rfl (lv_at hl 1 rfl) ?_
    refine lv_aload_n hx hb dX2_setTerms_35 rfl (lv_at hl 1 rfl) ?_
    refine lv_iload_n hx hb dX2_setTerms_36 rfl (lv_at hl 2 rfl) ?_
    refine g_calli hY (g_runV (n := 1) (q := (RX2, TX2, 17)) (r := 5) hC (c_X2_isLease l G ad σ n τ j th o od hj p0) gX2_setTerms_X2_isLease rfl ⟨rfl, rfl⟩ (by decide +kernel) ⟨Nat.le_of_ble_eq_true rfl, Nat.le_of_ble_eq_true rfl⟩ hY (by omega) rfl (ci := 2) rfl rfl hl.1 rfl (Nat.le_of_ble_eq_true rfl) dX2_setTerms_37 ⟨Nat.le_of_ble_eq_true rfl, Nat.le_of_ble_eq_true rfl⟩) (fun r48 H locs h49 hY => ?_)
    rcases h49 with ⟨rfl, h50⟩ | ⟨rfl, h50⟩
    · refine b_if_ne (tgt := 47) hx hb dX2_setTerms_40 (by decide) (fun _ => ?_) (fun h => absurd h (by decide))
      refine lv_iload hx hb dX2_setTerms_47 (lv_at hl 0 rfl) ?_
      refine b_if_eq (tgt := 56) hx hb dX2_setTerms_49 (by decide) (fun _ => ?_) (fun h => absurd h (by decide))
      refine lv_iconst (v := 2) hx hb dX2_setTerms_56 (by decide) ?_
      refine g_calli hY (g_runV (n := 1) (q := (RX2, TX2, 17)) (r := 5) hC (c_X2_holds l G ad σ n τ j th o od 2) gX2_setTerms_X2_holds rfl ⟨rfl, rfl⟩ (by decide +kernel) ⟨Nat.le_of_ble_eq_true rfl, Nat.le_of_ble_eq_true rfl⟩ hY (by omega) rfl (ci := 2) rfl rfl hl.1 rfl (Nat.le_of_ble_eq_true rfl) dX2_setTerms_57 ⟨Nat.le_of_ble_eq_true rfl, Nat.le_of_ble_eq_true rfl⟩) (fun r53 H locs h54 hY => ?_)
      obtain ⟨rfl, -⟩ := h54.resolve_left (fun q => absurd q.2 (by decide))
      refine b_if_eq (tgt := 77) hx hb dX2_setTerms_60 (by decide) (fun _ => ?_) (fun h => absurd h (by decide))
      have hcd : cdTerms j p0 p1 p2 = 2 := by unfold cdTerms; (repeat' split) <;> first | rfl | omega
      rw [hcd]
      rw [if_neg (by decide)]
      exact g_vret hC hr hlocks hY ⟨Nat.le_of_ble_eq_true rfl, Nat.le_of_ble_eq_true rfl⟩ dX2_setTerms_77 (trivial)
    · refine b_if_ne (tgt := 47) hx hb dX2_setTerms_40 (by decide) (fun h => absurd h (by decide)) (fun _ => ?_)
      refine lv_iconst (v := 1) hx hb dX2_setTerms_43 (by decide) ?_
      refine lv_goto (tgt := 57) hx hb dX2_setTerms_44 (by decide) ?_
      refine g_calli hY (g_runV (n := 1) (q := (RX2, TX2, 17)) (r := 5) hC (c_X2_holds l G ad σ n τ j th o od 1) gX2_setTerms_X2_holds rfl ⟨rfl, rfl⟩ (by decide +kernel) ⟨Nat.le_of_ble_eq_true rfl, Nat.le_of_ble_eq_true rfl⟩ hY (by omega) rfl (ci := 2) rfl rfl hl.1 rfl (Nat.le_of_ble_eq_true rfl) dX2_setTerms_57 ⟨Nat.le_of_ble_eq_true rfl, Nat.le_of_ble_eq_true rfl⟩) (fun r57 H locs h58 hY => ?_)
      obtain ⟨rfl, -⟩ := h58.resolve_left (fun q => absurd q.2 (by decide))
      refine b_if_eq (tgt := 77) hx hb dX2_setTerms_60 (by decide) (fun _ => ?_) (fun h => absurd h (by decide))
      have hcd : cdTerms j p0 p1 p2 = 1 := by unfold cdTerms; (repeat' split) <;> first | rfl | omega
      rw [hcd]
      rw [if_neg (by decide)]
      exact g_vret hC hr hlocks hY ⟨Nat.le_of_ble_eq_true rfl, Nat.le_of_ble_eq_true rfl⟩ dX2_setTerms_77 (trivial)

set_option maxHeartbeats 4000000 in
set_option maxRecDepth 100000 in
theorem c_X2_setService (l : Launch) (G : GG) (ad : Nat → Nat) (σ : St) (n : Nat) (τ : St) (j : Nat) (th : Int32) (o : OL) (od : OD) (hj : j ≤ 24) (p0 p1 p2 : Int32)  : Met l yX2_setService wsX2_setService ({ frames := 4, cells := 0, slots := 0, locals := 120 }) (PcS G ad σ n τ j th o od [.ref (ad 5), .int p0, .int p1, .int p2]) (Qv G (3 * n + 23) ad (ctS G ad σ n (if cdServ j p0 p1 p2 = 0 then (us (us τ 9 (ix p0) p1) 10 (ix p0) p2) else τ) j (cdServ j p0 p1 p2) o od) (True)) 0 0 (gF G) := by
  refine Met.ofW (cc := cX2_setService) (maxL := 5) (ret := none) (by decide) rfl ?_
  intro p e s m args below meth c s₁ B hml hv
  obtain ⟨rfl, hY⟩ := hv
  have hts := atoms_spec (ws := wsX2_setService) B.pre
  have hC : CallFix p m c cX2_setService 5 s _ wsX2_setService RX2 := ⟨B.exec, B.bytes, hml, findClass_of_methodNamed B.named, hts⟩
  have hx := hC.1
  have hb := hC.2.1
  have hr := B.returns
  have hlocks := B.notSynchronized
  have hin2 : ∀ w ∈ wsX20, w ∈ wsX2_setService := by decide +kernel
  have hl := lv_entry ([.ref (ad 5), .int p0, .int p1, .int p2]) (n := 5) (Nat.le_of_ble_eq_true rfl)
  rw [lg_entry_eq]
  generalize (lg_sl ([.ref (ad 5), .int p0, .int p1, .int p2]) ++ List.replicate (5 - (lg_sl ([.ref (ad 5), .int p0, .int p1, .int p2])).length) Slot.unset).toArray = ls at hl ⊢
  have hl : lv_has ls 5 [(0, .ref (ad 5)), (1, .int p0), (2, .int p1), (3, .int p2)] := hl
  have hnj : (nI j).toInt = (j : Int) := i_nI (by omega)
  refine lv_iload_n hx hb dX2_setService_0 rfl (lv_at hl 2 rfl) ?_
  refine lv_iconst (v := (-1)) hx hb dX2_setService_1 (by decide) ?_
  refine lv_ldc (v := 999999) hx hb hC.2.2.2.1 (hC.2.2.2.2 _ (by decide +kernel)) dX2_setService_2 ?_
  refine g_calli hY (g_runS (n := 3) hC (c_X2_isIn l G ad σ n τ j th o od p1 (-1) 999999 (-1) 999999 rfl rfl) gX2_setService_X2_isIn rfl ⟨rfl, rfl⟩ (by decide +kernel) ⟨Nat.le_of_ble_eq_true rfl, Nat.le_of_ble_eq_true rfl⟩ hY rfl hl.1 rfl (Nat.le_of_ble_eq_true rfl) dX2_setService_4 ⟨Nat.le_of_ble_eq_true rfl, Nat.le_of_ble_eq_true rfl⟩) (fun r1 H locs h2 hY => ?_)
  rcases h2 with ⟨rfl, h3⟩ | ⟨rfl, h3⟩
  · refine b_if_eq (tgt := 25) hx hb dX2_setService_7 (by decide) (fun h => absurd h (by decide)) (fun _ => ?_)
    refine lv_iload_n hx hb dX2_setService_10 rfl (lv_at hl 3 rfl) ?_
    refine lv_iconst (v := 0) hx hb dX2_setService_11 (by decide) ?_
    refine lv_sipush (v := 9999) hx hb dX2_setService_12 (by decide) ?_
    refine g_calli hY (g_runS (n := 3) hC (c_X2_isIn l G ad σ n τ j th o od p2 0 9999 0 9999 rfl rfl) gX2_setService_X2_isIn rfl ⟨rfl, rfl⟩ (by decide +kernel) ⟨Nat.le_of_ble_eq_true rfl, Nat.le_of_ble_eq_true rfl⟩ hY rfl hl.1 rfl (Nat.le_of_ble_eq_true rfl) dX2_setService_15 ⟨Nat.le_of_ble_eq_true rfl, Nat.le_of_ble_eq_true rfl⟩) (fun r5 H locs h6 hY => ?_)
    rcases h6 with ⟨rfl, h7⟩ | ⟨rfl, h7⟩
    · refine b_if_eq (tgt := 25) hx hb dX2_setService_18 (by decide) (fun h => absurd h (by decide)) (fun _ => ?_)
      refine lv_iconst (v := 1) hx hb dX2_setService_21 (by decide) ?_
      refine lv_goto (tgt := 26) hx hb dX2_setService_22 (by decide) ?_
      refine lv_istore (lv' := [(4, .int 1), (0, .ref (ad 5)), (1, .int p0), (2, .int p1), (3, .int p2)]) hx hb dX2_setService_26 hl (by decide) rfl (fun ls hl => ?_)
      refine lv_aload_n hx hb dX2_setService_28 rfl (lv_at hl 1 rfl) ?_
      refine lv_aload_n hx hb dX2_setService_29 rfl (lv_at hl 1 rfl) ?_
      refine lv_iload_n hx hb dX2_setService_30 rfl (lv_at hl 2 rfl) ?_
      refine g_calli hY (g_runV (n := 1) (q := (RX2, TX2, 17)) (r := 5) hC (c_X2_isLease l G ad σ n τ j th o od hj p0) gX2_setService_X2_isLease rfl ⟨rfl, rfl⟩ (by decide +kernel) ⟨Nat.le_of_ble_eq_true rfl, Nat.le_of_ble_eq_true rfl⟩ hY (by omega) rfl (ci := 2) rfl rfl hl.1 rfl (Nat.le_of_ble_eq_true rfl) dX2_setService_31 ⟨Nat.le_of_ble_eq_true rfl, Nat.le_of_ble_eq_true rfl⟩) (fun r9 H locs h10 hY => ?_)
      rcases h10 with ⟨rfl, h11⟩ | ⟨rfl, h11⟩
      · refine b_if_ne (tgt := 41) hx hb dX2_setService_34 (by decide) (fun _ => ?_) (fun h => absurd h (by decide))
        refine lv_iload hx hb dX2_setService_41 (lv_at hl 0 rfl) ?_
        refine b_if_eq (tgt := 50) hx hb dX2_setService_43 (by decide) (fun h => absurd h (by decide)) (fun _ => ?_)
        refine lv_iconst (v := 0) hx hb dX2_setService_46 (by decide) ?_
        refine lv_goto (tgt := 51) hx hb dX2_setService_47 (by decide) ?_
        refine g_calli hY (g_runV (n := 1) (q := (RX2, TX2, 17)) (r := 5) hC (c_X2_holds l G ad σ n τ j th o od 0) gX2_setService_X2_holds rfl ⟨rfl, rfl⟩ (by decide +kernel) ⟨Nat.le_of_ble_eq_true rfl, Nat.le_of_ble_eq_true rfl⟩ hY (by omega) rfl (ci := 2) rfl rfl hl.1 rfl (Nat.le_of_ble_eq_true rfl) dX2_setService_51 ⟨Nat.le_of_ble_eq_true rfl, Nat.le_of_ble_eq_true rfl⟩) (fun r14 H locs h15 hY => ?_)
        obtain ⟨rfl, -⟩ := h15.resolve_right (fun q => q.2 rfl)
        refine b_if_eq (tgt := 71) hx hb dX2_setService_54 (by decide) (fun h => absurd h (by decide)) (fun _ => ?_)
        refine lv_aload_n hx hb dX2_setService_57 rfl (lv_at hl 1 rfl) ?_
        refine gtM_caps hC hin2 hY (by decide +kernel) dX2_setService_58 ?_
        refine lv_iload_n hx hb dX2_setService_61 rfl (lv_at hl 2 rfl) ?_
        refine lv_iload_n hx hb dX2_setService_62 rfl (lv_at hl 3 rfl) ?_
        refine wrM9 hC hY ⟨by omega, by omega⟩ dX2_setService_63 (fun H locs hY => ?_)
        refine lv_aload_n hx hb dX2_setService_64 rfl (lv_at hl 1 rfl) ?_
        refine gtM_prepaids hC hin2 hY (by decide +kernel) dX2_setService_65 ?_
        refine lv_iload_n hx hb dX2_setService_68 rfl (lv_at hl 2 rfl) ?_
        refine lv_iload_n hx hb dX2_setService_69 rfl (lv_at hl 4 rfl) ?_
        refine wrM10 hC hY ⟨by omega, by omega⟩ dX2_setService_70 (fun H locs hY => ?_)
        have hcd : cdServ j p0 p1 p2 = 0 := by unfold cdServ; (repeat' split) <;> first | rfl | omega
        rw [hcd]
        rw [if_pos rfl]
        exact g_vret hC hr hlocks hY ⟨Nat.le_of_ble_eq_true rfl, Nat.le_of_ble_eq_true rfl⟩ dX2_setService_71 (trivial)
      · refine b_if_ne (tgt := 41) hx hb dX2_setService_34 (by decide) (fun h => absurd h (by decide)) (fun _ => ?_)
        refine lv_iconst (v := 1) hx hb dX2_setService_37 (by decide) ?_
        refine lv_goto (tgt := 51) hx hb dX2_setService_38 (by decide) ?_
        refine g_calli hY (g_runV (n := 1) (q := (RX2, TX2, 17)) (r := 5) hC (c_X2_holds l G ad σ n τ j th o od 1) gX2_setService_X2_holds rfl ⟨rfl, rfl⟩ (by decide +kernel) ⟨Nat.le_of_ble_eq_true rfl, Nat.le_of_ble_eq_true rfl⟩ hY (by omega) rfl (ci := 2) rfl rfl hl.1 rfl (Nat.le_of_ble_eq_true rfl) dX2_setService_51 ⟨Nat.le_of_ble_eq_true rfl, Nat.le_of_ble_eq_true rfl⟩) (fun r18 H locs h19 hY => ?_)
        obtain ⟨rfl, -⟩ := h19.resolve_left (fun q => absurd q.2 (by decide))
        refine b_if_eq (tgt := 71) hx hb dX2_setService_54 (by decide) (fun _ => ?_) (fun h => absurd h (by decide))
        have hcd : cdServ j p0 p1 p2 = 1 := by unfold cdServ; (repeat' split) <;> first | rfl | omega
        rw [hcd]
        rw [if_neg (by decide)]
        exact g_vret hC hr hlocks hY ⟨Nat.le_of_ble_eq_true rfl, Nat.le_of_ble_eq_true rfl⟩ dX2_setService_71 (trivial)
    · refine b_if_eq (tgt := 25) hx hb dX2_setService_18 (by decide) (fun _ => ?_) (fun h => absurd h (by decide))
      refine lv_iconst (v := 0) hx hb dX2_setService_25 (by decide) ?_
      refine lv_istore (lv' := [(4, .int 0), (0, .ref (ad 5)), (1, .int p0), (2, .int p1), (3, .int p2)]) hx hb dX2_setService_26 hl (by decide) rfl (fun ls hl => ?_)
      refine lv_aload_n hx hb dX2_setService_28 rfl (lv_at hl 1 rfl) ?_
      refine lv_aload_n hx hb dX2_setService_29 rfl (lv_at hl 1 rfl) ?_
      refine lv_iload_n hx hb dX2_setService_30 rfl (lv_at hl 2 rfl) ?_
      refine g_calli hY (g_runV (n := 1) (q := (RX2, TX2, 17)) (r := 5) hC (c_X2_isLease l G ad σ n τ j th o od hj p0) gX2_setService_X2_isLease rfl ⟨rfl, rfl⟩ (by decide +kernel) ⟨Nat.le_of_ble_eq_true rfl, Nat.le_of_ble_eq_true rfl⟩ hY (by omega) rfl (ci := 2) rfl rfl hl.1 rfl (Nat.le_of_ble_eq_true rfl) dX2_setService_31 ⟨Nat.le_of_ble_eq_true rfl, Nat.le_of_ble_eq_true rfl⟩) (fun r22 H locs h23 hY => ?_)
      rcases h23 with ⟨rfl, h24⟩ | ⟨rfl, h24⟩
      · refine b_if_ne (tgt := 41) hx hb dX2_setService_34 (by decide) (fun _ => ?_) (fun h => absurd h (by decide))
        refine lv_iload hx hb dX2_setService_41 (lv_at hl 0 rfl) ?_
        refine b_if_eq (tgt := 50) hx hb dX2_setService_43 (by decide) (fun _ => ?_) (fun h => absurd h (by decide))
        refine lv_iconst (v := 2) hx hb dX2_setService_50 (by decide) ?_
        refine g_calli hY (g_runV (n := 1) (q := (RX2, TX2, 17)) (r := 5) hC (c_X2_holds l G ad σ n τ j th o od 2) gX2_setService_X2_holds rfl ⟨rfl, rfl⟩ (by decide +kernel) ⟨Nat.le_of_ble_eq_true rfl, Nat.le_of_ble_eq_true rfl⟩ hY (by omega) rfl (ci := 2) rfl rfl hl.1 rfl (Nat.le_of_ble_eq_true rfl) dX2_setService_51 ⟨Nat.le_of_ble_eq_true rfl, Nat.le_of_ble_eq_true rfl⟩) (fun r27 H locs h28 hY => ?_)
        obtain ⟨rfl, -⟩ := h28.resolve_left (fun q => absurd q.2 (by decide))
        refine b_if_eq (tgt := 71) hx hb dX2_setService_54 (by decide) (fun _ => ?_) (fun h => absurd h (by decide))
        have hcd : cdServ j p0 p1 p2 = 2 := by unfold cdServ; (repeat' split) <;> first | rfl | omega
        rw [hcd]
        rw [if_neg (by decide)]
        exact g_vret hC hr hlocks hY ⟨Nat.le_of_ble_eq_true rfl, Nat.le_of_ble_eq_true rfl⟩ dX2_setService_71 (trivial)
      · refine b_if_ne (tgt := 41) hx hb dX2_setService_34 (by decide) (fun h => absurd h (by decide)) (fun _ => ?_)
        refine lv_iconst (v := 1) hx hb dX2_setService_37 (by decide) ?_
        refine lv_goto (tgt := 51) hx hb dX2_setService_38 (by decide) ?_
        refine g_calli hY (g_runV (n := 1) (q := (RX2, TX2, 17)) (r := 5) hC (c_X2_holds l G ad σ n τ j th o od 1) gX2_setService_X2_holds rfl ⟨rfl, rfl⟩ (by decide +kernel) ⟨Nat.le_of_ble_eq_true rfl, Nat.le_of_ble_eq_true rfl⟩ hY (by omega) rfl (ci := 2) rfl rfl hl.1 rfl (Nat.le_of_ble_eq_true rfl) dX2_setService_51 ⟨Nat.le_of_ble_eq_true rfl, Nat.le_of_ble_eq_true rfl⟩) (fun r31 H locs h32 hY => ?_)
        obtain ⟨rfl, -⟩ := h32.resolve_left (fun q => absurd q.2 (by decide))
        refine b_if_eq (tgt := 71) hx hb dX2_setService_54 (by decide) (fun _ => ?_) (fun h => absurd h (by decide))
        have hcd : cdServ j p0 p1 p2 = 1 := by unfold cdServ; (repeat' split) <;> first | rfl | omega
        rw [hcd]
        rw [if_neg (by decide)]
        exact g_vret hC hr hlocks hY ⟨Nat.le_of_ble_eq_true rfl, Nat.le_of_ble_eq_true rfl⟩ dX2_setService_71 (trivial)
  · refine b_if_eq (tgt := 25) hx hb dX2_setService_7 (by decide) (fun _ => ?_) (fun h => absurd h (by decide))
    refine lv_iconst (v := 0) hx hb dX2_setService_25 (by decide) ?_
    refine lv_istore (lv' := [(4, .int 0), (0, .ref (ad 5)), (1, .int p0), (2, .int p1), (3, .int p2)]) hx hb dX2_setService_26 hl (by decide) rfl (fun ls hl => ?_)
    refine lv_aload_n hx hb dX2_setService_28 rfl (lv_at hl 1 rfl) ?_
    refine lv_aload_n hx hb dX2_setService_29 rfl (lv_at hl 1 rfl) ?_
    refine lv_iload_n hx hb dX2_setService_30 rfl (lv_at hl 2 rfl) ?_
    refine g_calli hY (g_runV (n := 1) (q := (RX2, TX2, 17)) (r := 5) hC (c_X2_isLease l G ad σ n τ j th o od hj p0) gX2_setService_X2_isLease rfl ⟨rfl, rfl⟩ (by decide +kernel) ⟨Nat.le_of_ble_eq_true rfl, Nat.le_of_ble_eq_true rfl⟩ hY (by omega) rfl (ci := 2) rfl rfl hl.1 rfl (Nat.le_of_ble_eq_true rfl) dX2_setService_31 ⟨Nat.le_of_ble_eq_true rfl, Nat.le_of_ble_eq_true rfl⟩) (fun r35 H locs h36 hY => ?_)
    rcases h36 with ⟨rfl, h37⟩ | ⟨rfl, h37⟩
    · refine b_if_ne (tgt := 41) hx hb dX2_setService_34 (by decide) (fun _ => ?_) (fun h => absurd h (by decide))
      refine lv_iload hx hb dX2_setService_41 (lv_at hl 0 rfl) ?_
      refine b_if_eq (tgt := 50) hx hb dX2_setService_43 (by decide) (fun _ => ?_) (fun h => absurd h (by decide))
      refine lv_iconst (v := 2) hx hb dX2_setService_50 (by decide) ?_
      refine g_calli hY (g_runV (n := 1) (q := (RX2, TX2, 17)) (r := 5) hC (c_X2_holds l G ad σ n τ j th o od 2) gX2_setService_X2_holds rfl ⟨rfl, rfl⟩ (by decide +kernel) ⟨Nat.le_of_ble_eq_true rfl, Nat.le_of_ble_eq_true rfl⟩ hY (by omega) rfl (ci := 2) rfl rfl hl.1 rfl (Nat.le_of_ble_eq_true rfl) dX2_setService_51 ⟨Nat.le_of_ble_eq_true rfl, Nat.le_of_ble_eq_true rfl⟩) (fun r40 H locs h41 hY => ?_)
      obtain ⟨rfl, -⟩ := h41.resolve_left (fun q => absurd q.2 (by decide))
      refine b_if_eq (tgt := 71) hx hb dX2_setService_54 (by decide) (fun _ => ?_) (fun h => absurd h (by decide))
      have hcd : cdServ j p0 p1 p2 = 2 := by unfold cdServ; (repeat' split) <;> first | rfl | omega
      rw [hcd]
      rw [if_neg (by decide)]
      exact g_vret hC hr hlocks hY ⟨Nat.le_of_ble_eq_true rfl, Nat.le_of_ble_eq_true rfl⟩ dX2_setService_71 (trivial)
    · refine b_if_ne (tgt := 41) hx hb dX2_setService_34 (by decide) (fun h => absurd h (by decide)) (fun _ => ?_)
      refine lv_iconst (v := 1) hx hb dX2_setService_37 (by decide) ?_
      refine lv_goto (tgt := 51) hx hb dX2_setService_38 (by decide) ?_
      refine g_calli hY (g_runV (n := 1) (q := (RX2, TX2, 17)) (r := 5) hC (c_X2_holds l G ad σ n τ j th o od 1) gX2_setService_X2_holds rfl ⟨rfl, rfl⟩ (by decide +kernel) ⟨Nat.le_of_ble_eq_true rfl, Nat.le_of_ble_eq_true rfl⟩ hY (by omega) rfl (ci := 2) rfl rfl hl.1 rfl (Nat.le_of_ble_eq_true rfl) dX2_setService_51 ⟨Nat.le_of_ble_eq_true rfl, Nat.le_of_ble_eq_true rfl⟩) (fun r44 H locs h45 hY => ?_)
      obtain ⟨rfl, -⟩ := h45.resolve_left (fun q => absurd q.2 (by decide))
      refine b_if_eq (tgt := 71) hx hb dX2_setService_54 (by decide) (fun _ => ?_) (fun h => absurd h (by decide))
      have hcd : cdServ j p0 p1 p2 = 1 := by unfold cdServ; (repeat' split) <;> first | rfl | omega
      rw [hcd]
      rw [if_neg (by decide)]
      exact g_vret hC hr hlocks hY ⟨Nat.le_of_ble_eq_true rfl, Nat.le_of_ble_eq_true rfl⟩ dX2_setService_71 (trivial)

abbrev tmV (σ : St) (k : Nat) (d t : Int32) : Int32 := mxF 0 (t * rmF σ k d - σ 11 k)
set_option maxHeartbeats 4000000 in
set_option maxRecDepth 100000 in
theorem c_X2_topUp (l : Launch) (G : GG) (ad : Nat → Nat) (σ : St) (n : Nat) (τ : St) (j : Nat) (th : Int32) (o : OL) (od : OD) (hj : j ≤ 24) (hI : ∀ k, k < j → okL τ k) (hX : ∀ i, i < 240 → 10 ≤ (τ 1 i).toInt) (p0 p1 p2 : Int32)  : Met l yX2_topUp wsX2_topUp ({ frames := 4, cells := 0, slots := 0, locals := 120 }) (PcS G ad σ n τ j th o od [.ref (ad 5), .int p0, .int p1, .int p2]) (Qi G (3 * n + 23) ad (ctS G ad σ n (if cdTop τ j p0 p1 p2 = 0 then (us τ 11 (ix p0) (τ 11 (ix p0) + tmV τ (ix p0) p1 p2)) else τ) j (cdTop τ j p0 p1 p2) o od) (fun r => cdTop τ j p0 p1 p2 = 0 → r = tmV τ (ix p0) p1 p2)) 0 0 (gF G) := by
  refine Met.ofW (cc := cX2_topUp) (maxL := 6) (ret := (some .int)) (by decide) rfl ?_
  intro p e s m args below meth c s₁ B hml hv
  obtain ⟨rfl, hY⟩ := hv
  have hts := atoms_spec (ws := wsX2_topUp) B.pre
  have hC : CallFix p m c cX2_topUp 6 s _ wsX2_topUp RX2 := ⟨B.exec, B.bytes, hml, findClass_of_methodNamed B.named, hts⟩
  have hx := hC.1
  have hb := hC.2.1
  have hr := B.returns
  have hlocks := B.notSynchronized
  have hin2 : ∀ w ∈ wsX20, w ∈ wsX2_topUp := by decide +kernel
  have hl := lv_entry ([.ref (ad 5), .int p0, .int p1, .int p2]) (n := 6) (Nat.le_of_ble_eq_true rfl)
  rw [lg_entry_eq]
  generalize (lg_sl ([.ref (ad 5), .int p0, .int p1, .int p2]) ++ List.replicate (6 - (lg_sl ([.ref (ad 5), .int p0, .int p1, .int p2])).length) Slot.unset).toArray = ls at hl ⊢
  have hl : lv_has ls 6 [(0, .ref (ad 5)), (1, .int p0), (2, .int p1), (3, .int p2)] := hl
  have hnj : (nI j).toInt = (j : Int) := i_nI (by omega)
  refine lv_aload_n hx hb dX2_topUp_0 rfl (lv_at hl 0 rfl) ?_
  refine lv_iload_n hx hb dX2_topUp_1 rfl (lv_at hl 1 rfl) ?_
  refine g_calli hY (g_runV (n := 1) (q := (RX2, TX2, 17)) (r := 5) hC (c_X2_isLease l G ad σ n τ j th o od hj p0) gX2_topUp_X2_isLease rfl ⟨rfl, rfl⟩ (by decide +kernel) ⟨Nat.le_of_ble_eq_true rfl, Nat.le_of_ble_eq_true rfl⟩ hY (by omega) rfl (ci := 2) rfl rfl hl.1 rfl (Nat.le_of_ble_eq_true rfl) dX2_topUp_2 ⟨Nat.le_of_ble_eq_true rfl, Nat.le_of_ble_eq_true rfl⟩) (fun r1 H locs h2 hY => ?_)
  rcases h2 with ⟨rfl, h3⟩ | ⟨rfl, h3⟩
  · refine lv_istore (lv' := [(4, .int 1), (0, .ref (ad 5)), (1, .int p0), (2, .int p1), (3, .int p2)]) hx hb dX2_topUp_5 hl (by decide) rfl (fun ls hl => ?_)
    refine lv_aload_n hx hb dX2_topUp_7 rfl (lv_at hl 1 rfl) ?_
    refine lv_iload hx hb dX2_topUp_8 (lv_at hl 0 rfl) ?_
    refine b_if_ne (tgt := 17) hx hb dX2_topUp_10 (by decide) (fun _ => ?_) (fun h => absurd h (by decide))
    refine lv_aload_n hx hb dX2_topUp_17 rfl (lv_at hl 1 rfl) ?_
    refine lv_iload_n hx hb dX2_topUp_18 rfl (lv_at hl 2 rfl) ?_
    refine lv_iload_n hx hb dX2_topUp_19 rfl (lv_at hl 3 rfl) ?_
    refine g_calli hY (g_runV (n := 2) (q := (RX2, TX2, 17)) (r := 5) hC (c_X2_isDayOf l G ad σ n τ j th o od hj p0 p1 h3) gX2_topUp_X2_isDayOf rfl ⟨rfl, rfl⟩ (by decide +kernel) ⟨Nat.le_of_ble_eq_true rfl, Nat.le_of_ble_eq_true rfl⟩ hY (by omega) rfl (ci := 2) rfl rfl hl.1 rfl (Nat.le_of_ble_eq_true rfl) dX2_topUp_20 ⟨Nat.le_of_ble_eq_true rfl, Nat.le_of_ble_eq_true rfl⟩) (fun r5 H locs h6 hY => ?_)
    rcases h6 with ⟨rfl, h7⟩ | ⟨rfl, h7⟩
    · refine b_if_eq (tgt := 40) hx hb dX2_topUp_23 (by decide) (fun h => absurd h (by decide)) (fun _ => ?_)
      refine lv_iload_n hx hb dX2_topUp_26 rfl (lv_at hl 4 rfl) ?_
      refine lv_iconst (v := 1) hx hb dX2_topUp_27 (by decide) ?_
      refine lv_bipush (v := 6) hx hb dX2_topUp_28 (by decide) ?_
      refine g_calli hY (g_runS (n := 3) hC (c_X2_isIn l G ad σ n τ j th o od p2 1 6 1 6 rfl rfl) gX2_topUp_X2_isIn rfl ⟨rfl, rfl⟩ (by decide +kernel) ⟨Nat.le_of_ble_eq_true rfl, Nat.le_of_ble_eq_true rfl⟩ hY rfl hl.1 rfl (Nat.le_of_ble_eq_true rfl) dX2_topUp_30 ⟨Nat.le_of_ble_eq_true rfl, Nat.le_of_ble_eq_true rfl⟩) (fun r9 H locs h10 hY => ?_)
      rcases h10 with ⟨rfl, h11⟩ | ⟨rfl, h11⟩
      · refine b_if_eq (tgt := 40) hx hb dX2_topUp_33 (by decide) (fun h => absurd h (by decide)) (fun _ => ?_)
        refine lv_iconst (v := 0) hx hb dX2_topUp_36 (by decide) ?_
        refine lv_goto (tgt := 41) hx hb dX2_topUp_37 (by decide) ?_
        refine g_calli hY (g_runV (n := 1) (q := (RX2, TX2, 17)) (r := 5) hC (c_X2_holds l G ad σ n τ j th o od 0) gX2_topUp_X2_holds rfl ⟨rfl, rfl⟩ (by decide +kernel) ⟨Nat.le_of_ble_eq_true rfl, Nat.le_of_ble_eq_true rfl⟩ hY (by omega) rfl (ci := 2) rfl rfl hl.1 rfl (Nat.le_of_ble_eq_true rfl) dX2_topUp_41 ⟨Nat.le_of_ble_eq_true rfl, Nat.le_of_ble_eq_true rfl⟩) (fun r13 H locs h14 hY => ?_)
        obtain ⟨rfl, -⟩ := h14.resolve_right (fun q => q.2 rfl)
        refine b_if_ne (tgt := 49) hx hb dX2_topUp_44 (by decide) (fun _ => ?_) (fun h => absurd h (by decide))
        refine lv_iload_n hx hb dX2_topUp_49 rfl (lv_at hl 4 rfl) ?_
        refine lv_aload_n hx hb dX2_topUp_50 rfl (lv_at hl 1 rfl) ?_
        refine lv_iload_n hx hb dX2_topUp_51 rfl (lv_at hl 2 rfl) ?_
        refine lv_iload_n hx hb dX2_topUp_52 rfl (lv_at hl 3 rfl) ?_
        refine g_calli hY (g_runV (n := 2) (q := (RX2, TX2, 17)) (r := 5) hC (c_X2_rentAt l G ad σ n τ j 0 o od hj hI hX p0 p1 h3) gX2_topUp_X2_rentAt rfl ⟨rfl, rfl⟩ (by decide +kernel) ⟨Nat.le_of_ble_eq_true rfl, Nat.le_of_ble_eq_true rfl⟩ hY (by omega) rfl (ci := 2) rfl rfl hl.1 rfl (Nat.le_of_ble_eq_true rfl) dX2_topUp_53 ⟨Nat.le_of_ble_eq_true rfl, Nat.le_of_ble_eq_true rfl⟩) (fun r16 H locs h17 hY => ?_)
        subst h17
        refine lv_imul hx hb dX2_topUp_56 ?_
        refine lv_aload_n hx hb dX2_topUp_57 rfl (lv_at hl 1 rfl) ?_
        refine gtM_deposits hC hin2 hY (by decide +kernel) dX2_topUp_58 ?_
        refine lv_iload_n hx hb dX2_topUp_61 rfl (lv_at hl 2 rfl) ?_
        refine rdM11 hC hY ⟨by omega, by omega⟩ dX2_topUp_62 ?_
        refine lv_isub hx hb dX2_topUp_63 ?_
        refine lv_istore (lv' := [(5, .int ((p2 * (rmF τ (ix p0) p1)) - (τ 11 (ix p0)))), (4, .int 1), (0, .ref (ad 5)), (1, .int p0), (2, .int p1), (3, .int p2)]) hx hb dX2_topUp_64 hl (by decide) rfl (fun ls hl => ?_)
        refine lv_aload_n hx hb dX2_topUp_66 rfl (lv_at hl 2 rfl) ?_
        refine gtM_deposits hC hin2 hY (by decide +kernel) dX2_topUp_67 ?_
        refine lv_iload_n hx hb dX2_topUp_70 rfl (lv_at hl 3 rfl) ?_
        refine lv_dup2_11 hx hb dX2_topUp_71 rfl rfl ?_
        refine rdM11 hC hY ⟨by omega, by omega⟩ dX2_topUp_72 ?_
        refine lv_iload hx hb dX2_topUp_73 (lv_at hl 0 rfl) ?_
        refine b_if_le (tgt := 83) hx hb dX2_topUp_75 (by decide) (fun (h18 : ((p2 * (rmF τ (ix p0) p1)) - (τ 11 (ix p0))).toInt ≤ 0) => ?_) (fun (h18 : 0 < ((p2 * (rmF τ (ix p0) p1)) - (τ 11 (ix p0))).toInt) => ?_)
        · refine lv_iconst (v := 0) hx hb dX2_topUp_83 (by decide) ?_
          refine lv_iadd hx hb dX2_topUp_84 ?_
          refine wrM11 hC hY ⟨by omega, by omega⟩ dX2_topUp_85 (fun H locs hY => ?_)
          refine lv_iload hx hb dX2_topUp_86 (lv_at hl 0 rfl) ?_
          refine b_if_le (tgt := 96) hx hb dX2_topUp_88 (by decide) (fun (h19 : ((p2 * (rmF τ (ix p0) p1)) - (τ 11 (ix p0))).toInt ≤ 0) => ?_) (fun (h19 : 0 < ((p2 * (rmF τ (ix p0) p1)) - (τ 11 (ix p0))).toInt) => absurd h19 (by omega))
          refine lv_iconst (v := 0) hx hb dX2_topUp_96 (by decide) ?_
          have hm : tmV τ (ix p0) p1 p2 = 0 := by
            have hz : (0 : Int32).toInt = 0 := rfl
            exact if_neg (by rw [Int32.lt_iff_toInt_lt]; omega)
          have hcd : cdTop τ j p0 p1 p2 = 0 := by unfold cdTop; (repeat' split) <;> first | rfl | omega
          rw [hcd]
          rw [if_pos rfl, hm]
          exact g_iret hC hr hlocks hY ⟨Nat.le_of_ble_eq_true rfl, Nat.le_of_ble_eq_true rfl⟩ dX2_topUp_97 (fun _ => rfl)
        · refine lv_iload hx hb dX2_topUp_78 (lv_at hl 0 rfl) ?_
          refine lv_goto (tgt := 84) hx hb dX2_topUp_80 (by decide) ?_
          refine lv_iadd hx hb dX2_topUp_84 ?_
          refine wrM11 hC hY ⟨by omega, by omega⟩ dX2_topUp_85 (fun H locs hY => ?_)
          refine lv_iload hx hb dX2_topUp_86 (lv_at hl 0 rfl) ?_
          refine b_if_le (tgt := 96) hx hb dX2_topUp_88 (by decide) (fun (h20 : ((p2 * (rmF τ (ix p0) p1)) - (τ 11 (ix p0))).toInt ≤ 0) => absurd h20 (by omega)) (fun (h20 : 0 < ((p2 * (rmF τ (ix p0) p1)) - (τ 11 (ix p0))).toInt) => ?_)
          refine lv_iload hx hb dX2_topUp_91 (lv_at hl 0 rfl) ?_
          refine lv_goto (tgt := 97) hx hb dX2_topUp_93 (by decide) ?_
          have hm : tmV τ (ix p0) p1 p2 = (p2 * (rmF τ (ix p0) p1)) - (τ 11 (ix p0)) := by
            have hz : (0 : Int32).toInt = 0 := rfl
            exact if_pos (by rw [Int32.lt_iff_toInt_lt]; omega)
          have hcd : cdTop τ j p0 p1 p2 = 0 := by unfold cdTop; (repeat' split) <;> first | rfl | omega
          rw [hcd]
          rw [if_pos rfl, hm]
          exact g_iret hC hr hlocks hY ⟨Nat.le_of_ble_eq_true rfl, Nat.le_of_ble_eq_true rfl⟩ dX2_topUp_97 (fun _ => rfl)
      · refine b_if_eq (tgt := 40) hx hb dX2_topUp_33 (by decide) (fun _ => ?_) (fun h => absurd h (by decide))
        refine lv_iconst (v := 2) hx hb dX2_topUp_40 (by decide) ?_
        refine g_calli hY (g_runV (n := 1) (q := (RX2, TX2, 17)) (r := 5) hC (c_X2_holds l G ad σ n τ j th o od 2) gX2_topUp_X2_holds rfl ⟨rfl, rfl⟩ (by decide +kernel) ⟨Nat.le_of_ble_eq_true rfl, Nat.le_of_ble_eq_true rfl⟩ hY (by omega) rfl (ci := 2) rfl rfl hl.1 rfl (Nat.le_of_ble_eq_true rfl) dX2_topUp_41 ⟨Nat.le_of_ble_eq_true rfl, Nat.le_of_ble_eq_true rfl⟩) (fun r22 H locs h23 hY => ?_)
        obtain ⟨rfl, -⟩ := h23.resolve_left (fun q => absurd q.2 (by decide))
        refine b_if_ne (tgt := 49) hx hb dX2_topUp_44 (by decide) (fun h => absurd h (by decide)) (fun _ => ?_)
        refine lv_iconst (v := 0) hx hb dX2_topUp_47 (by decide) ?_
        have hcd : cdTop τ j p0 p1 p2 = 2 := by unfold cdTop; (repeat' split) <;> first | rfl | omega
        rw [hcd]
        rw [if_neg (by decide)]
        exact g_iret hC hr hlocks hY ⟨Nat.le_of_ble_eq_true rfl, Nat.le_of_ble_eq_true rfl⟩ dX2_topUp_48 (fun q => absurd q (by decide))
    · refine b_if_eq (tgt := 40) hx hb dX2_topUp_23 (by decide) (fun _ => ?_) (fun h => absurd h (by decide))
      refine lv_iconst (v := 2) hx hb dX2_topUp_40 (by decide) ?_
      refine g_calli hY (g_runV (n := 1) (q := (RX2, TX2, 17)) (r := 5) hC (c_X2_holds l G ad σ n τ j th o od 2) gX2_topUp_X2_holds rfl ⟨rfl, rfl⟩ (by decide +kernel) ⟨Nat.le_of_ble_eq_true rfl, Nat.le_of_ble_eq_true rfl⟩ hY (by omega) rfl (ci := 2) rfl rfl hl.1 rfl (Nat.le_of_ble_eq_true rfl) dX2_topUp_41 ⟨Nat.le_of_ble_eq_true rfl, Nat.le_of_ble_eq_true rfl⟩) (fun r26 H locs h27 hY => ?_)
      obtain ⟨rfl, -⟩ := h27.resolve_left (fun q => absurd q.2 (by decide))
      refine b_if_ne (tgt := 49) hx hb dX2_topUp_44 (by decide) (fun h => absurd h (by decide)) (fun _ => ?_)
      refine lv_iconst (v := 0) hx hb dX2_topUp_47 (by decide) ?_
      have hcd : cdTop τ j p0 p1 p2 = 2 := by unfold cdTop; (repeat' split) <;> first | rfl | omega
      rw [hcd]
      rw [if_neg (by decide)]
      exact g_iret hC hr hlocks hY ⟨Nat.le_of_ble_eq_true rfl, Nat.le_of_ble_eq_true rfl⟩ dX2_topUp_48 (fun q => absurd q (by decide))
  · refine lv_istore (lv' := [(4, .int 0), (0, .ref (ad 5)), (1, .int p0), (2, .int p1), (3, .int p2)]) hx hb dX2_topUp_5 hl (by decide) rfl (fun ls hl => ?_)
    refine lv_aload_n hx hb dX2_topUp_7 rfl (lv_at hl 1 rfl) ?_
    refine lv_iload hx hb dX2_topUp_8 (lv_at hl 0 rfl) ?_
    refine b_if_ne (tgt := 17) hx hb dX2_topUp_10 (by decide) (fun h => absurd h (by decide)) (fun _ => ?_)
    refine lv_iconst (v := 1) hx hb dX2_topUp_13 (by decide) ?_
    refine lv_goto (tgt := 41) hx hb dX2_topUp_14 (by decide) ?_
    refine g_calli hY (g_runV (n := 1) (q := (RX2, TX2, 17)) (r := 5) hC (c_X2_holds l G ad σ n τ j th o od 1) gX2_topUp_X2_holds rfl ⟨rfl, rfl⟩ (by decide +kernel) ⟨Nat.le_of_ble_eq_true rfl, Nat.le_of_ble_eq_true rfl⟩ hY (by omega) rfl (ci := 2) rfl rfl hl.1 rfl (Nat.le_of_ble_eq_true rfl) dX2_topUp_41 ⟨Nat.le_of_ble_eq_true rfl, Nat.le_of_ble_eq_true rfl⟩) (fun r30 H locs h31 hY => ?_)
    obtain ⟨rfl, -⟩ := h31.resolve_left (fun q => absurd q.2 (by decide))
    refine b_if_ne (tgt := 49) hx hb dX2_topUp_44 (by decide) (fun h => absurd h (by decide)) (fun _ => ?_)
    refine lv_iconst (v := 0) hx hb dX2_topUp_47 (by decide) ?_
    have hcd : cdTop τ j p0 p1 p2 = 1 := by unfold cdTop; (repeat' split) <;> first | rfl | omega
    rw [hcd]
    rw [if_neg (by decide)]
    exact g_iret hC hr hlocks hY ⟨Nat.le_of_ble_eq_true rfl, Nat.le_of_ble_eq_true rfl⟩ dX2_topUp_48 (fun q => absurd q (by decide))

set_option maxHeartbeats 4000000 in
set_option maxRecDepth 100000 in
theorem c_X2_draw (l : Launch) (G : GG) (ad : Nat → Nat) (σ : St) (n : Nat) (τ : St) (j : Nat) (th : Int32) (o : OL) (od : OD) (hj : j ≤ 24) (p0 p1 : Int32)  : Met l yX2_draw wsX2_draw ({ frames := 4, cells := 0, slots := 0, locals := 120 }) (PcS G ad σ n τ j th o od [.ref (ad 5), .int p0, .int p1]) (Qi G (3 * n + 23) ad (ctS G ad σ n (if cdDraw τ j p0 p1 = 0 then (us τ 11 (ix p0) (τ 11 (ix p0) - p1)) else τ) j (cdDraw τ j p0 p1) o od) (fun r => cdDraw τ j p0 p1 = 0 → r = us τ 11 (ix p0) (τ 11 (ix p0) - p1) 11 (ix p0))) 0 0 (gF G) := by
  refine Met.ofW (cc := cX2_draw) (maxL := 4) (ret := (some .int)) (by decide) rfl ?_
  intro p e s m args below meth c s₁ B hml hv
  obtain ⟨rfl, hY⟩ := hv
  have hts := atoms_spec (ws := wsX2_draw) B.pre
  have hC : CallFix p m c cX2_draw 4 s _ wsX2_draw RX2 := ⟨B.exec, B.bytes, hml, findClass_of_methodNamed B.named, hts⟩
  have hx := hC.1
  have hb := hC.2.1
  have hr := B.returns
  have hlocks := B.notSynchronized
  have hin2 : ∀ w ∈ wsX20, w ∈ wsX2_draw := by decide +kernel
  have hl := lv_entry ([.ref (ad 5), .int p0, .int p1]) (n := 4) (Nat.le_of_ble_eq_true rfl)
  rw [lg_entry_eq]
  generalize (lg_sl ([.ref (ad 5), .int p0, .int p1]) ++ List.replicate (4 - (lg_sl ([.ref (ad 5), .int p0, .int p1])).length) Slot.unset).toArray = ls at hl ⊢
  have hl : lv_has ls 4 [(0, .ref (ad 5)), (1, .int p0), (2, .int p1)] := hl
  have hnj : (nI j).toInt = (j : Int) := i_nI (by omega)
  refine lv_aload_n hx hb dX2_draw_0 rfl (lv_at hl 0 rfl) ?_
  refine lv_iload_n hx hb dX2_draw_1 rfl (lv_at hl 1 rfl) ?_
  refine g_calli hY (g_runV (n := 1) (q := (RX2, TX2, 17)) (r := 5) hC (c_X2_isLease l G ad σ n τ j th o od hj p0) gX2_draw_X2_isLease rfl ⟨rfl, rfl⟩ (by decide +kernel) ⟨Nat.le_of_ble_eq_true rfl, Nat.le_of_ble_eq_true rfl⟩ hY (by omega) rfl (ci := 2) rfl rfl hl.1 rfl (Nat.le_of_ble_eq_true rfl) dX2_draw_2 ⟨Nat.le_of_ble_eq_true rfl, Nat.le_of_ble_eq_true rfl⟩) (fun r1 H locs h2 hY => ?_)
  rcases h2 with ⟨rfl, h3⟩ | ⟨rfl, h3⟩
  · refine lv_istore_n (lv' := [(3, .int 1), (0, .ref (ad 5)), (1, .int p0), (2, .int p1)]) hx hb dX2_draw_5 rfl hl (by decide) rfl (fun ls hl => ?_)
    refine lv_aload_n hx hb dX2_draw_6 rfl (lv_at hl 1 rfl) ?_
    refine lv_iload_n hx hb dX2_draw_7 rfl (lv_at hl 0 rfl) ?_
    refine b_if_ne (tgt := 15) hx hb dX2_draw_8 (by decide) (fun _ => ?_) (fun h => absurd h (by decide))
    refine lv_iload_n hx hb dX2_draw_15 rfl (lv_at hl 3 rfl) ?_
    refine lv_iconst (v := 1) hx hb dX2_draw_16 (by decide) ?_
    refine lv_ldc (v := 999999) hx hb hC.2.2.2.1 (hC.2.2.2.2 _ (by decide +kernel)) dX2_draw_17 ?_
    refine g_calli hY (g_runS (n := 3) hC (c_X2_isIn l G ad σ n τ j th o od p1 1 999999 1 999999 rfl rfl) gX2_draw_X2_isIn rfl ⟨rfl, rfl⟩ (by decide +kernel) ⟨Nat.le_of_ble_eq_true rfl, Nat.le_of_ble_eq_true rfl⟩ hY rfl hl.1 rfl (Nat.le_of_ble_eq_true rfl) dX2_draw_19 ⟨Nat.le_of_ble_eq_true rfl, Nat.le_of_ble_eq_true rfl⟩) (fun r5 H locs h6 hY => ?_)
    rcases h6 with ⟨rfl, h7⟩ | ⟨rfl, h7⟩
    · refine b_if_ne (tgt := 29) hx hb dX2_draw_22 (by decide) (fun _ => ?_) (fun h => absurd h (by decide))
      refine lv_aload_n hx hb dX2_draw_29 rfl (lv_at hl 1 rfl) ?_
      refine gtM_deposits hC hin2 hY (by decide +kernel) dX2_draw_30 ?_
      refine lv_iload_n hx hb dX2_draw_33 rfl (lv_at hl 2 rfl) ?_
      refine rdM11 hC hY ⟨by omega, by omega⟩ dX2_draw_34 ?_
      refine lv_iload_n hx hb dX2_draw_35 rfl (lv_at hl 3 rfl) ?_
      refine b_icmp_ge (tgt := 43) hx hb dX2_draw_36 (by decide) (fun (h9 : p1.toInt ≤ (τ 11 (ix p0)).toInt) => ?_) (fun (h9 : (τ 11 (ix p0)).toInt < p1.toInt) => ?_)
      · refine lv_iconst (v := 0) hx hb dX2_draw_43 (by decide) ?_
        refine g_calli hY (g_runV (n := 1) (q := (RX2, TX2, 17)) (r := 5) hC (c_X2_holds l G ad σ n τ j th o od 0) gX2_draw_X2_holds rfl ⟨rfl, rfl⟩ (by decide +kernel) ⟨Nat.le_of_ble_eq_true rfl, Nat.le_of_ble_eq_true rfl⟩ hY (by omega) rfl (ci := 2) rfl rfl hl.1 rfl (Nat.le_of_ble_eq_true rfl) dX2_draw_44 ⟨Nat.le_of_ble_eq_true rfl, Nat.le_of_ble_eq_true rfl⟩) (fun r10 H locs h11 hY => ?_)
        obtain ⟨rfl, -⟩ := h11.resolve_right (fun q => q.2 rfl)
        refine b_if_ne (tgt := 52) hx hb dX2_draw_47 (by decide) (fun _ => ?_) (fun h => absurd h (by decide))
        refine lv_aload_n hx hb dX2_draw_52 rfl (lv_at hl 1 rfl) ?_
        refine gtM_deposits hC hin2 hY (by decide +kernel) dX2_draw_53 ?_
        refine lv_iload_n hx hb dX2_draw_56 rfl (lv_at hl 2 rfl) ?_
        refine lv_dup2_11 hx hb dX2_draw_57 rfl rfl ?_
        refine rdM11 hC hY ⟨by omega, by omega⟩ dX2_draw_58 ?_
        refine lv_iload_n hx hb dX2_draw_59 rfl (lv_at hl 3 rfl) ?_
        refine lv_isub hx hb dX2_draw_60 ?_
        refine wrM11 hC hY ⟨by omega, by omega⟩ dX2_draw_61 (fun H locs hY => ?_)
        refine lv_aload_n hx hb dX2_draw_62 rfl (lv_at hl 1 rfl) ?_
        refine gtM_deposits hC hin2 hY (by decide +kernel) dX2_draw_63 ?_
        refine lv_iload_n hx hb dX2_draw_66 rfl (lv_at hl 2 rfl) ?_
        refine rdM11 hC hY ⟨by omega, by omega⟩ dX2_draw_67 ?_
        have hcd : cdDraw τ j p0 p1 = 0 := by unfold cdDraw; (repeat' split) <;> first | rfl | omega
        rw [hcd]
        rw [if_pos rfl]
        exact g_iret hC hr hlocks hY ⟨Nat.le_of_ble_eq_true rfl, Nat.le_of_ble_eq_true rfl⟩ dX2_draw_68 (fun _ => rfl)
      · refine lv_iconst (v := 3) hx hb dX2_draw_39 (by decide) ?_
        refine lv_goto (tgt := 44) hx hb dX2_draw_40 (by decide) ?_
        refine g_calli hY (g_runV (n := 1) (q := (RX2, TX2, 17)) (r := 5) hC (c_X2_holds l G ad σ n τ j th o od 3) gX2_draw_X2_holds rfl ⟨rfl, rfl⟩ (by decide +kernel) ⟨Nat.le_of_ble_eq_true rfl, Nat.le_of_ble_eq_true rfl⟩ hY (by omega) rfl (ci := 2) rfl rfl hl.1 rfl (Nat.le_of_ble_eq_true rfl) dX2_draw_44 ⟨Nat.le_of_ble_eq_true rfl, Nat.le_of_ble_eq_true rfl⟩) (fun r13 H locs h14 hY => ?_)
        obtain ⟨rfl, -⟩ := h14.resolve_left (fun q => absurd q.2 (by decide))
        refine b_if_ne (tgt := 52) hx hb dX2_draw_47 (by decide) (fun h => absurd h (by decide)) (fun _ => ?_)
        refine lv_iconst (v := 0) hx hb dX2_draw_50 (by decide) ?_
        have hcd : cdDraw τ j p0 p1 = 3 := by unfold cdDraw; (repeat' split) <;> first | rfl | omega
        rw [hcd]
        rw [if_neg (by decide)]
        exact g_iret hC hr hlocks hY ⟨Nat.le_of_ble_eq_true rfl, Nat.le_of_ble_eq_true rfl⟩ dX2_draw_51 (fun q => absurd q (by decide))
    · refine b_if_ne (tgt := 29) hx hb dX2_draw_22 (by decide) (fun h => absurd h (by decide)) (fun _ => ?_)
      refine lv_iconst (v := 2) hx hb dX2_draw_25 (by decide) ?_
      refine lv_goto (tgt := 44) hx hb dX2_draw_26 (by decide) ?_
      refine g_calli hY (g_runV (n := 1) (q := (RX2, TX2, 17)) (r := 5) hC (c_X2_holds l G ad σ n τ j th o od 2) gX2_draw_X2_holds rfl ⟨rfl, rfl⟩ (by decide +kernel) ⟨Nat.le_of_ble_eq_true rfl, Nat.le_of_ble_eq_true rfl⟩ hY (by omega) rfl (ci := 2) rfl rfl hl.1 rfl (Nat.le_of_ble_eq_true rfl) dX2_draw_44 ⟨Nat.le_of_ble_eq_true rfl, Nat.le_of_ble_eq_true rfl⟩) (fun r17 H locs h18 hY => ?_)
      obtain ⟨rfl, -⟩ := h18.resolve_left (fun q => absurd q.2 (by decide))
      refine b_if_ne (tgt := 52) hx hb dX2_draw_47 (by decide) (fun h => absurd h (by decide)) (fun _ => ?_)
      refine lv_iconst (v := 0) hx hb dX2_draw_50 (by decide) ?_
      have hcd : cdDraw τ j p0 p1 = 2 := by unfold cdDraw; (repeat' split) <;> first | rfl | omega
      rw [hcd]
      rw [if_neg (by decide)]
      exact g_iret hC hr hlocks hY ⟨Nat.le_of_ble_eq_true rfl, Nat.le_of_ble_eq_true rfl⟩ dX2_draw_51 (fun q => absurd q (by decide))
  · refine lv_istore_n (lv' := [(3, .int 0), (0, .ref (ad 5)), (1, .int p0), (2, .int p1)]) hx hb dX2_draw_5 rfl hl (by decide) rfl (fun ls hl => ?_)
    refine lv_aload_n hx hb dX2_draw_6 rfl (lv_at hl 1 rfl) ?_
    refine lv_iload_n hx hb dX2_draw_7 rfl (lv_at hl 0 rfl) ?_
    refine b_if_ne (tgt := 15) hx hb dX2_draw_8 (by decide) (fun h => absurd h (by decide)) (fun _ => ?_)
    refine lv_iconst (v := 1) hx hb dX2_draw_11 (by decide) ?_
    refine lv_goto (tgt := 44) hx hb dX2_draw_12 (by decide) ?_
    refine g_calli hY (g_runV (n := 1) (q := (RX2, TX2, 17)) (r := 5) hC (c_X2_holds l G ad σ n τ j th o od 1) gX2_draw_X2_holds rfl ⟨rfl, rfl⟩ (by decide +kernel) ⟨Nat.le_of_ble_eq_true rfl, Nat.le_of_ble_eq_true rfl⟩ hY (by omega) rfl (ci := 2) rfl rfl hl.1 rfl (Nat.le_of_ble_eq_true rfl) dX2_draw_44 ⟨Nat.le_of_ble_eq_true rfl, Nat.le_of_ble_eq_true rfl⟩) (fun r21 H locs h22 hY => ?_)
    obtain ⟨rfl, -⟩ := h22.resolve_left (fun q => absurd q.2 (by decide))
    refine b_if_ne (tgt := 52) hx hb dX2_draw_47 (by decide) (fun h => absurd h (by decide)) (fun _ => ?_)
    refine lv_iconst (v := 0) hx hb dX2_draw_50 (by decide) ?_
    have hcd : cdDraw τ j p0 p1 = 1 := by unfold cdDraw; (repeat' split) <;> first | rfl | omega
    rw [hcd]
    rw [if_neg (by decide)]
    exact g_iret hC hr hlocks hY ⟨Nat.le_of_ble_eq_true rfl, Nat.le_of_ble_eq_true rfl⟩ dX2_draw_51 (fun q => absurd q (by decide))

set_option maxHeartbeats 4000000 in
set_option maxRecDepth 100000 in
theorem c_X2_held (l : Launch) (G : GG) (ad : Nat → Nat) (σ : St) (n : Nat) (τ : St) (j : Nat) (th : Int32) (o : OL) (od : OD) (hj : j ≤ 24) (p0 : Int32)  : Met l yX2_held wsX2_held ({ frames := 4, cells := 0, slots := 0, locals := 120 }) (PcS G ad σ n τ j th o od [.ref (ad 5), .int p0]) (Qi G (3 * n + 23) ad (ctS G ad σ n τ j (cdHeld j p0) o od) (fun r => cdHeld j p0 = 0 → r = τ 11 (ix p0))) 0 0 (gF G) := by
  refine Met.ofW (cc := cX2_held) (maxL := 2) (ret := (some .int)) (by decide) rfl ?_
  intro p e s m args below meth c s₁ B hml hv
  obtain ⟨rfl, hY⟩ := hv
  have hts := atoms_spec (ws := wsX2_held) B.pre
  have hC : CallFix p m c cX2_held 2 s _ wsX2_held RX2 := ⟨B.exec, B.bytes, hml, findClass_of_methodNamed B.named, hts⟩
  have hx := hC.1
  have hb := hC.2.1
  have hr := B.returns
  have hlocks := B.notSynchronized
  have hin2 : ∀ w ∈ wsX20, w ∈ wsX2_held := by decide +kernel
  have hl := lv_entry ([.ref (ad 5), .int p0]) (n := 2) (Nat.le_of_ble_eq_true rfl)
  rw [lg_entry_eq]
  generalize (lg_sl ([.ref (ad 5), .int p0]) ++ List.replicate (2 - (lg_sl ([.ref (ad 5), .int p0])).length) Slot.unset).toArray = ls at hl ⊢
  have hl : lv_has ls 2 [(0, .ref (ad 5)), (1, .int p0)] := hl
  have hnj : (nI j).toInt = (j : Int) := i_nI (by omega)
  refine lv_aload_n hx hb dX2_held_0 rfl (lv_at hl 0 rfl) ?_
  refine lv_aload_n hx hb dX2_held_1 rfl (lv_at hl 0 rfl) ?_
  refine lv_iload_n hx hb dX2_held_2 rfl (lv_at hl 1 rfl) ?_
  refine g_calli hY (g_runV (n := 1) (q := (RX2, TX2, 17)) (r := 5) hC (c_X2_isLease l G ad σ n τ j th o od hj p0) gX2_held_X2_isLease rfl ⟨rfl, rfl⟩ (by decide +kernel) ⟨Nat.le_of_ble_eq_true rfl, Nat.le_of_ble_eq_true rfl⟩ hY (by omega) rfl (ci := 2) rfl rfl hl.1 rfl (Nat.le_of_ble_eq_true rfl) dX2_held_3 ⟨Nat.le_of_ble_eq_true rfl, Nat.le_of_ble_eq_true rfl⟩) (fun r1 H locs h2 hY => ?_)
  rcases h2 with ⟨rfl, h3⟩ | ⟨rfl, h3⟩
  · refine b_if_eq (tgt := 13) hx hb dX2_held_6 (by decide) (fun h => absurd h (by decide)) (fun _ => ?_)
    refine lv_iconst (v := 0) hx hb dX2_held_9 (by decide) ?_
    refine lv_goto (tgt := 14) hx hb dX2_held_10 (by decide) ?_
    refine g_calli hY (g_runV (n := 1) (q := (RX2, TX2, 17)) (r := 5) hC (c_X2_holds l G ad σ n τ j th o od 0) gX2_held_X2_holds rfl ⟨rfl, rfl⟩ (by decide +kernel) ⟨Nat.le_of_ble_eq_true rfl, Nat.le_of_ble_eq_true rfl⟩ hY (by omega) rfl (ci := 2) rfl rfl hl.1 rfl (Nat.le_of_ble_eq_true rfl) dX2_held_14 ⟨Nat.le_of_ble_eq_true rfl, Nat.le_of_ble_eq_true rfl⟩) (fun r5 H locs h6 hY => ?_)
    obtain ⟨rfl, -⟩ := h6.resolve_right (fun q => q.2 rfl)
    refine b_if_eq (tgt := 29) hx hb dX2_held_17 (by decide) (fun h => absurd h (by decide)) (fun _ => ?_)
    refine lv_aload_n hx hb dX2_held_20 rfl (lv_at hl 0 rfl) ?_
    refine gtM_deposits hC hin2 hY (by decide +kernel) dX2_held_21 ?_
    refine lv_iload_n hx hb dX2_held_24 rfl (lv_at hl 1 rfl) ?_
    refine rdM11 hC hY ⟨by omega, by omega⟩ dX2_held_25 ?_
    refine lv_goto (tgt := 30) hx hb dX2_held_26 (by decide) ?_
    have hcd : cdHeld j p0 = 0 := by unfold cdHeld; (repeat' split) <;> first | rfl | omega
    rw [hcd]
    exact g_iret hC hr hlocks hY ⟨Nat.le_of_ble_eq_true rfl, Nat.le_of_ble_eq_true rfl⟩ dX2_held_30 (fun _ => rfl)
  · refine b_if_eq (tgt := 13) hx hb dX2_held_6 (by decide) (fun _ => ?_) (fun h => absurd h (by decide))
    refine lv_iconst (v := 1) hx hb dX2_held_13 (by decide) ?_
    refine g_calli hY (g_runV (n := 1) (q := (RX2, TX2, 17)) (r := 5) hC (c_X2_holds l G ad σ n τ j th o od 1) gX2_held_X2_holds rfl ⟨rfl, rfl⟩ (by decide +kernel) ⟨Nat.le_of_ble_eq_true rfl, Nat.le_of_ble_eq_true rfl⟩ hY (by omega) rfl (ci := 2) rfl rfl hl.1 rfl (Nat.le_of_ble_eq_true rfl) dX2_held_14 ⟨Nat.le_of_ble_eq_true rfl, Nat.le_of_ble_eq_true rfl⟩) (fun r9 H locs h10 hY => ?_)
    obtain ⟨rfl, -⟩ := h10.resolve_left (fun q => absurd q.2 (by decide))
    refine b_if_eq (tgt := 29) hx hb dX2_held_17 (by decide) (fun _ => ?_) (fun h => absurd h (by decide))
    refine lv_iconst (v := 0) hx hb dX2_held_29 (by decide) ?_
    have hcd : cdHeld j p0 = 1 := by unfold cdHeld; (repeat' split) <;> first | rfl | omega
    rw [hcd]
    exact g_iret hC hr hlocks hY ⟨Nat.le_of_ble_eq_true rfl, Nat.le_of_ble_eq_true rfl⟩ dX2_held_30 (fun q => absurd q (by decide))

set_option maxHeartbeats 4000000 in
set_option maxRecDepth 100000 in
theorem c_X2_leases (l : Launch) (G : GG) (ad : Nat → Nat) (σ : St) (n : Nat) (τ : St) (j : Nat) (th : Int32) (o : OL) (od : OD)  : Met l yX2_leases wsX2_leases ({ frames := 0, cells := 0, slots := 0, locals := 0 }) (PcS G ad σ n τ j th o od [.ref (ad 5)]) (Qi G (3 * n + 23) ad (ctS G ad σ n τ j 0 o od) (fun r => r = nI j)) 0 0 (gF G) := by
  refine Met.ofW (cc := cX2_leases) (maxL := 1) (ret := (some .int)) (by decide) rfl ?_
  intro p e s m args below meth c s₁ B hml hv
  obtain ⟨rfl, hY⟩ := hv
  have hts := atoms_spec (ws := wsX2_leases) B.pre
  have hC : CallFix p m c cX2_leases 1 s _ wsX2_leases RX2 := ⟨B.exec, B.bytes, hml, findClass_of_methodNamed B.named, hts⟩
  have hx := hC.1
  have hb := hC.2.1
  have hr := B.returns
  have hlocks := B.notSynchronized
  have hin2 : ∀ w ∈ wsX20, w ∈ wsX2_leases := by decide +kernel
  have hl := lv_entry ([.ref (ad 5)]) (n := 1) (Nat.le_of_ble_eq_true rfl)
  rw [lg_entry_eq]
  generalize (lg_sl ([.ref (ad 5)]) ++ List.replicate (1 - (lg_sl ([.ref (ad 5)])).length) Slot.unset).toArray = ls at hl ⊢
  have hl : lv_has ls 1 [(0, .ref (ad 5))] := hl
  refine lv_aload_n hx hb dX2_leases_0 rfl (lv_at hl 0 rfl) ?_
  refine lv_iconst (v := 0) hx hb dX2_leases_1 (by decide) ?_
  refine ptM_thrown hC hin2 hY (by decide +kernel) dX2_leases_2 (fun H locs hY => ?_)
  refine lv_aload_n hx hb dX2_leases_5 rfl (lv_at hl 0 rfl) ?_
  refine gtM_leases hC hin2 hY (by decide +kernel) dX2_leases_6 ?_
  exact g_iret hC hr hlocks hY ⟨Nat.le_of_ble_eq_true rfl, Nat.le_of_ble_eq_true rfl⟩ dX2_leases_9 (rfl)

def fmP (σ : St) (u d : Int32) : Nat → Int32
  | 0 => -1
  | i + 1 => if (σ 3 i).toInt = u.toInt ∧ rOn σ i d then nI i else fmP σ u d i
set_option maxHeartbeats 4000000 in
set_option maxRecDepth 100000 in
theorem c_X2_leaseOn (l : Launch) (G : GG) (ad : Nat → Nat) (σ : St) (n : Nat) (τ : St) (j : Nat) (th : Int32) (o : OL) (od : OD) (hj : j ≤ 24) (p0 p1 : Int32)  : Met l yX2_leaseOn wsX2_leaseOn ({ frames := 4, cells := 0, slots := 0, locals := 120 }) (PcS G ad σ n τ j th o od [.ref (ad 5), .int p0, .int p1]) (Qi G (3 * n + 23) ad (ctS G ad σ n τ j (cdLOn p0 p1) o od) (fun r => cdLOn p0 p1 = 0 → r = fmP τ p0 p1 j)) 0 0 (gF G) := by
  refine Met.ofW (cc := cX2_leaseOn) (maxL := 5) (ret := (some .int)) (by decide) rfl ?_
  intro p e s m args below meth c s₁ B hml hv
  obtain ⟨rfl, hY⟩ := hv
  have hts := atoms_spec (ws := wsX2_leaseOn) B.pre
  have hC : CallFix p m c cX2_leaseOn 5 s _ wsX2_leaseOn RX2 := ⟨B.exec, B.bytes, hml, findClass_of_methodNamed B.named, hts⟩
  have hx := hC.1
  have hb := hC.2.1
  have hr := B.returns
  have hlocks := B.notSynchronized
  have hin2 : ∀ w ∈ wsX20, w ∈ wsX2_leaseOn := by decide +kernel
  have hl := lv_entry ([.ref (ad 5), .int p0, .int p1]) (n := 5) (Nat.le_of_ble_eq_true rfl)
  rw [lg_entry_eq]
  generalize (lg_sl ([.ref (ad 5), .int p0, .int p1]) ++ List.replicate (5 - (lg_sl ([.ref (ad 5), .int p0, .int p1])).length) Slot.unset).toArray = ls at hl ⊢
  have hl : lv_has ls 5 [(0, .ref (ad 5)), (1, .int p0), (2, .int p1)] := hl
  have hnj : (nI j).toInt = (j : Int) := i_nI (by omega)
  refine lv_aload_n hx hb dX2_leaseOn_0 rfl (lv_at hl 0 rfl) ?_
  refine lv_iload_n hx hb dX2_leaseOn_1 rfl (lv_at hl 1 rfl) ?_
  refine lv_iconst (v := 0) hx hb dX2_leaseOn_2 (by decide) ?_
  refine lv_iconst (v := 5) hx hb dX2_leaseOn_3 (by decide) ?_
  refine g_calli hY (g_runS (n := 3) hC (c_X2_isIn l G ad σ n τ j th o od p0 0 5 0 5 rfl rfl) gX2_leaseOn_X2_isIn rfl ⟨rfl, rfl⟩ (by decide +kernel) ⟨Nat.le_of_ble_eq_true rfl, Nat.le_of_ble_eq_true rfl⟩ hY rfl hl.1 rfl (Nat.le_of_ble_eq_true rfl) dX2_leaseOn_4 ⟨Nat.le_of_ble_eq_true rfl, Nat.le_of_ble_eq_true rfl⟩) (fun r1 H locs h2 hY => ?_)
  rcases h2 with ⟨rfl, h3⟩ | ⟨rfl, h3⟩
  · refine b_if_eq (tgt := 25) hx hb dX2_leaseOn_7 (by decide) (fun h => absurd h (by decide)) (fun _ => ?_)
    refine lv_iload_n hx hb dX2_leaseOn_10 rfl (lv_at hl 2 rfl) ?_
    refine lv_iconst (v := 0) hx hb dX2_leaseOn_11 (by decide) ?_
    refine lv_sipush (v := 7199) hx hb dX2_leaseOn_12 (by decide) ?_
    refine g_calli hY (g_runS (n := 3) hC (c_X2_isIn l G ad σ n τ j th o od p1 0 7199 0 7199 rfl rfl) gX2_leaseOn_X2_isIn rfl ⟨rfl, rfl⟩ (by decide +kernel) ⟨Nat.le_of_ble_eq_true rfl, Nat.le_of_ble_eq_true rfl⟩ hY rfl hl.1 rfl (Nat.le_of_ble_eq_true rfl) dX2_leaseOn_15 ⟨Nat.le_of_ble_eq_true rfl, Nat.le_of_ble_eq_true rfl⟩) (fun r5 H locs h6 hY => ?_)
    rcases h6 with ⟨rfl, h7⟩ | ⟨rfl, h7⟩
    · refine b_if_eq (tgt := 25) hx hb dX2_leaseOn_18 (by decide) (fun h => absurd h (by decide)) (fun _ => ?_)
      refine lv_iconst (v := 0) hx hb dX2_leaseOn_21 (by decide) ?_
      refine lv_goto (tgt := 26) hx hb dX2_leaseOn_22 (by decide) ?_
      refine g_calli hY (g_runV (n := 1) (q := (RX2, TX2, 17)) (r := 5) hC (c_X2_holds l G ad σ n τ j th o od 0) gX2_leaseOn_X2_holds rfl ⟨rfl, rfl⟩ (by decide +kernel) ⟨Nat.le_of_ble_eq_true rfl, Nat.le_of_ble_eq_true rfl⟩ hY (by omega) rfl (ci := 2) rfl rfl hl.1 rfl (Nat.le_of_ble_eq_true rfl) dX2_leaseOn_26 ⟨Nat.le_of_ble_eq_true rfl, Nat.le_of_ble_eq_true rfl⟩) (fun r9 H locs h10 hY => ?_)
      obtain ⟨rfl, -⟩ := h10.resolve_right (fun q => q.2 rfl)
      refine b_if_ne (tgt := 34) hx hb dX2_leaseOn_29 (by decide) (fun _ => ?_) (fun h => absurd h (by decide))
      refine lv_iconst (v := (-1)) hx hb dX2_leaseOn_34 (by decide) ?_
      refine lv_istore_n (lv' := [(3, .int (-1)), (0, .ref (ad 5)), (1, .int p0), (2, .int p1)]) hx hb dX2_leaseOn_35 rfl hl (by decide) rfl (fun ls hl => ?_)
      refine lv_iconst (v := 0) hx hb dX2_leaseOn_36 (by decide) ?_
      refine lv_istore (lv' := [(4, .int 0), (3, .int (-1)), (0, .ref (ad 5)), (1, .int p0), (2, .int p1)]) hx hb dX2_leaseOn_37 hl (by decide) rfl (fun ls hl => ?_)
      refine w_loop (X := Int32 × Int32) (fun i x H locs ls => match x with | (x4, x3) => (x4.toInt = i ∧ i ≤ j ∧ x3 = fmP τ p0 p1 i) ∧ SyS G ad σ n τ j 0 o od s H locs ∧ lv_has ls 5 [(4, .int x4), (3, .int x3), (0, .ref (ad 5)), (1, .int p0), (2, .int p1)]) (24) ?_ ?_ ((0, (-1))) ⟨⟨rfl, Nat.zero_le _, rfl⟩, hY, lv_sub hl [0, 1, 2, 3, 4] rfl⟩
      · intro i x H locs ls hI ih
        obtain ⟨x4, x3⟩ := x
        obtain ⟨hI, hY, hl⟩ := hI
        obtain ⟨h9, h8, e⟩ := hI
        refine lv_iload hx hb dX2_leaseOn_39 (lv_at hl 0 rfl) ?_
        refine lv_aload_n hx hb dX2_leaseOn_41 rfl (lv_at hl 2 rfl) ?_
        refine gtM_leases hC hin2 hY (by decide +kernel) dX2_leaseOn_42 ?_
        refine b_icmp_ge (tgt := 82) hx hb dX2_leaseOn_45 (by decide) (fun (h12 : (nI j).toInt ≤ x4.toInt) => ?_) (fun (h12 : x4.toInt < (nI j).toInt) => ?_)
        · refine lv_iload_n hx hb dX2_leaseOn_82 rfl (lv_at hl 1 rfl) ?_
          have hcd : cdLOn p0 p1 = 0 := by unfold cdLOn; (repeat' split) <;> first | rfl | omega
          rw [hcd]
          exact g_iret hC hr hlocks hY ⟨Nat.le_of_ble_eq_true rfl, Nat.le_of_ble_eq_true rfl⟩ dX2_leaseOn_83 (fun _ => by rw [show j = i by omega, ← e])
        · refine lv_aload_n hx hb dX2_leaseOn_48 rfl (lv_at hl 2 rfl) ?_
          refine gtM_units hC hin2 hY (by decide +kernel) dX2_leaseOn_49 ?_
          refine lv_iload hx hb dX2_leaseOn_52 (lv_at hl 0 rfl) ?_
          refine rdM3 hC hY ⟨by omega, by omega⟩ dX2_leaseOn_54 ?_
          refine lv_iload_n hx hb dX2_leaseOn_55 rfl (lv_at hl 3 rfl) ?_
          refine b_icmp_ne (tgt := 74) hx hb dX2_leaseOn_56 (by decide) (fun (h13 : ¬ (τ 3 (ix x4)).toInt = p0.toInt) => ?_) (fun (h13 : (τ 3 (ix x4)).toInt = p0.toInt) => ?_)
          · refine lv_iload_n hx hb dX2_leaseOn_74 rfl (lv_at hl 1 rfl) ?_
            refine lv_istore_n (lv' := [(3, .int x3), (4, .int x4), (0, .ref (ad 5)), (1, .int p0), (2, .int p1)]) hx hb dX2_leaseOn_75 rfl hl (by decide) rfl (fun ls hl => ?_)
            refine lv_iinc (v := x4 + 1) (lv' := [(4, .int (x4 + 1)), (3, .int x3), (0, .ref (ad 5)), (1, .int p0), (2, .int p1)]) hx hb dX2_leaseOn_76 hl (k := 1) rfl rfl (by decide) rfl (fun ls hl => ?_)
            refine lv_goto (tgt := 39) hx hb dX2_leaseOn_79 (by decide) ?_
            have hix : ix x4 = i := i_ix h9
            exact ih (x4 + 1, x3) _ _ _ ⟨⟨by rw [i_add (by have : (1 : Int32).toInt = 1 := rfl; omega)]; have : (1 : Int32).toInt = 1 := rfl; omega, by omega, by rw [fmP, if_neg (by rw [← hix]; intro q; have q1 := q.1; obtain ⟨q2, q3⟩ := q.2; omega)]; exact e⟩, hY, lv_sub hl [0, 1, 2, 3, 4] rfl⟩
          · refine lv_aload_n hx hb dX2_leaseOn_59 rfl (lv_at hl 2 rfl) ?_
            refine lv_iload hx hb dX2_leaseOn_60 (lv_at hl 0 rfl) ?_
            refine lv_iload_n hx hb dX2_leaseOn_62 rfl (lv_at hl 4 rfl) ?_
            refine g_calli hY (g_runV (n := 2) (q := (RX2, TX2, 17)) (r := 5) hC (c_X2_isDayOf l G ad σ n τ j 0 o od hj x4 p1 ⟨by omega, by omega⟩) gX2_leaseOn_X2_isDayOf rfl ⟨rfl, rfl⟩ (by decide +kernel) ⟨Nat.le_of_ble_eq_true rfl, Nat.le_of_ble_eq_true rfl⟩ hY (by omega) rfl (ci := 2) rfl rfl hl.1 rfl (Nat.le_of_ble_eq_true rfl) dX2_leaseOn_63 ⟨Nat.le_of_ble_eq_true rfl, Nat.le_of_ble_eq_true rfl⟩) (fun r14 H locs h15 hY => ?_)
            rcases h15 with ⟨rfl, h16⟩ | ⟨rfl, h16⟩
            · refine b_if_eq (tgt := 74) hx hb dX2_leaseOn_66 (by decide) (fun h => absurd h (by decide)) (fun _ => ?_)
              refine lv_iload hx hb dX2_leaseOn_69 (lv_at hl 0 rfl) ?_
              refine lv_goto (tgt := 75) hx hb dX2_leaseOn_71 (by decide) ?_
              refine lv_istore_n (lv' := [(3, .int x4), (4, .int x4), (0, .ref (ad 5)), (1, .int p0), (2, .int p1)]) hx hb dX2_leaseOn_75 rfl hl (by decide) rfl (fun ls hl => ?_)
              refine lv_iinc (v := x4 + 1) (lv' := [(4, .int (x4 + 1)), (3, .int x4), (0, .ref (ad 5)), (1, .int p0), (2, .int p1)]) hx hb dX2_leaseOn_76 hl (k := 1) rfl rfl (by decide) rfl (fun ls hl => ?_)
              refine lv_goto (tgt := 39) hx hb dX2_leaseOn_79 (by decide) ?_
              have hix : ix x4 = i := i_ix h9
              exact ih (x4 + 1, x4) _ _ _ ⟨⟨by rw [i_add (by have : (1 : Int32).toInt = 1 := rfl; omega)]; have : (1 : Int32).toInt = 1 := rfl; omega, by omega, by rw [fmP, if_pos (by rw [← hix]; exact ⟨h13, h16⟩)]; exact i_eqnI h9⟩, hY, lv_sub hl [0, 1, 2, 3, 4] rfl⟩
            · refine b_if_eq (tgt := 74) hx hb dX2_leaseOn_66 (by decide) (fun _ => ?_) (fun h => absurd h (by decide))
              refine lv_iload_n hx hb dX2_leaseOn_74 rfl (lv_at hl 1 rfl) ?_
              refine lv_istore_n (lv' := [(3, .int x3), (4, .int x4), (0, .ref (ad 5)), (1, .int p0), (2, .int p1)]) hx hb dX2_leaseOn_75 rfl hl (by decide) rfl (fun ls hl => ?_)
              refine lv_iinc (v := x4 + 1) (lv' := [(4, .int (x4 + 1)), (3, .int x3), (0, .ref (ad 5)), (1, .int p0), (2, .int p1)]) hx hb dX2_leaseOn_76 hl (k := 1) rfl rfl (by decide) rfl (fun ls hl => ?_)
              refine lv_goto (tgt := 39) hx hb dX2_leaseOn_79 (by decide) ?_
              have hix : ix x4 = i := i_ix h9
              exact ih (x4 + 1, x3) _ _ _ ⟨⟨by rw [i_add (by have : (1 : Int32).toInt = 1 := rfl; omega)]; have : (1 : Int32).toInt = 1 := rfl; omega, by omega, by rw [fmP, if_neg (by rw [← hix]; intro q; have q1 := q.1; obtain ⟨q2, q3⟩ := q.2; omega)]; exact e⟩, hY, lv_sub hl [0, 1, 2, 3, 4] rfl⟩
      · intro i x H locs ls hI
        obtain ⟨x4, x3⟩ := x
        obtain ⟨hI, -, -⟩ := hI
        obtain ⟨h9, h8, e⟩ := hI
        omega
    · refine b_if_eq (tgt := 25) hx hb dX2_leaseOn_18 (by decide) (fun _ => ?_) (fun h => absurd h (by decide))
      refine lv_iconst (v := 1) hx hb dX2_leaseOn_25 (by decide) ?_
      refine g_calli hY (g_runV (n := 1) (q := (RX2, TX2, 17)) (r := 5) hC (c_X2_holds l G ad σ n τ j th o od 1) gX2_leaseOn_X2_holds rfl ⟨rfl, rfl⟩ (by decide +kernel) ⟨Nat.le_of_ble_eq_true rfl, Nat.le_of_ble_eq_true rfl⟩ hY (by omega) rfl (ci := 2) rfl rfl hl.1 rfl (Nat.le_of_ble_eq_true rfl) dX2_leaseOn_26 ⟨Nat.le_of_ble_eq_true rfl, Nat.le_of_ble_eq_true rfl⟩) (fun r20 H locs h21 hY => ?_)
      obtain ⟨rfl, -⟩ := h21.resolve_left (fun q => absurd q.2 (by decide))
      refine b_if_ne (tgt := 34) hx hb dX2_leaseOn_29 (by decide) (fun h => absurd h (by decide)) (fun _ => ?_)
      refine lv_iconst (v := 0) hx hb dX2_leaseOn_32 (by decide) ?_
      have hcd : cdLOn p0 p1 = 1 := by unfold cdLOn; (repeat' split) <;> first | rfl | omega
      rw [hcd]
      exact g_iret hC hr hlocks hY ⟨Nat.le_of_ble_eq_true rfl, Nat.le_of_ble_eq_true rfl⟩ dX2_leaseOn_33 (fun q => absurd q (by decide))
  · refine b_if_eq (tgt := 25) hx hb dX2_leaseOn_7 (by decide) (fun _ => ?_) (fun h => absurd h (by decide))
    refine lv_iconst (v := 1) hx hb dX2_leaseOn_25 (by decide) ?_
    refine g_calli hY (g_runV (n := 1) (q := (RX2, TX2, 17)) (r := 5) hC (c_X2_holds l G ad σ n τ j th o od 1) gX2_leaseOn_X2_holds rfl ⟨rfl, rfl⟩ (by decide +kernel) ⟨Nat.le_of_ble_eq_true rfl, Nat.le_of_ble_eq_true rfl⟩ hY (by omega) rfl (ci := 2) rfl rfl hl.1 rfl (Nat.le_of_ble_eq_true rfl) dX2_leaseOn_26 ⟨Nat.le_of_ble_eq_true rfl, Nat.le_of_ble_eq_true rfl⟩) (fun r24 H locs h25 hY => ?_)
    obtain ⟨rfl, -⟩ := h25.resolve_left (fun q => absurd q.2 (by decide))
    refine b_if_ne (tgt := 34) hx hb dX2_leaseOn_29 (by decide) (fun h => absurd h (by decide)) (fun _ => ?_)
    refine lv_iconst (v := 0) hx hb dX2_leaseOn_32 (by decide) ?_
    have hcd : cdLOn p0 p1 = 1 := by unfold cdLOn; (repeat' split) <;> first | rfl | omega
    rw [hcd]
    exact g_iret hC hr hlocks hY ⟨Nat.le_of_ble_eq_true rfl, Nat.le_of_ble_eq_true rfl⟩ dX2_leaseOn_33 (fun q => absurd q (by decide))

set_option maxHeartbeats 4000000 in
set_option maxRecDepth 100000 in
theorem c_X2_rentOn (l : Launch) (G : GG) (ad : Nat → Nat) (σ : St) (n : Nat) (τ : St) (j : Nat) (th : Int32) (o : OL) (od : OD) (hj : j ≤ 24) (hI : ∀ k, k < j → okL τ k) (hX : ∀ i, i < 240 → 10 ≤ (τ 1 i).toInt) (p0 p1 : Int32)  : Met l yX2_rentOn wsX2_rentOn ({ frames := 4, cells := 0, slots := 0, locals := 120 }) (PcS G ad σ n τ j th o od [.ref (ad 5), .int p0, .int p1]) (Qi G (3 * n + 23) ad (ctS G ad σ n τ j (cdLX j 7200 p0 p1) o od) (fun r => cdLX j 7200 p0 p1 = 0 → r = rmF τ (ix p0) p1)) 0 0 (gF G) := by
  refine Met.ofW (cc := cX2_rentOn) (maxL := 3) (ret := (some .int)) (by decide) rfl ?_
  intro p e s m args below meth c s₁ B hml hv
  obtain ⟨rfl, hY⟩ := hv
  have hts := atoms_spec (ws := wsX2_rentOn) B.pre
  have hC : CallFix p m c cX2_rentOn 3 s _ wsX2_rentOn RX2 := ⟨B.exec, B.bytes, hml, findClass_of_methodNamed B.named, hts⟩
  have hx := hC.1
  have hb := hC.2.1
  have hr := B.returns
  have hlocks := B.notSynchronized
  have hin2 : ∀ w ∈ wsX20, w ∈ wsX2_rentOn := by decide +kernel
  have hl := lv_entry ([.ref (ad 5), .int p0, .int p1]) (n := 3) (Nat.le_of_ble_eq_true rfl)
  rw [lg_entry_eq]
  generalize (lg_sl ([.ref (ad 5), .int p0, .int p1]) ++ List.replicate (3 - (lg_sl ([.ref (ad 5), .int p0, .int p1])).length) Slot.unset).toArray = ls at hl ⊢
  have hl : lv_has ls 3 [(0, .ref (ad 5)), (1, .int p0), (2, .int p1)] := hl
  have hnj : (nI j).toInt = (j : Int) := i_nI (by omega)
  refine lv_aload_n hx hb dX2_rentOn_0 rfl (lv_at hl 0 rfl) ?_
  refine lv_aload_n hx hb dX2_rentOn_1 rfl (lv_at hl 0 rfl) ?_
  refine lv_iload_n hx hb dX2_rentOn_2 rfl (lv_at hl 1 rfl) ?_
  refine g_calli hY (g_runV (n := 1) (q := (RX2, TX2, 17)) (r := 5) hC (c_X2_isLease l G ad σ n τ j th o od hj p0) gX2_rentOn_X2_isLease rfl ⟨rfl, rfl⟩ (by decide +kernel) ⟨Nat.le_of_ble_eq_true rfl, Nat.le_of_ble_eq_true rfl⟩ hY (by omega) rfl (ci := 2) rfl rfl hl.1 rfl (Nat.le_of_ble_eq_true rfl) dX2_rentOn_3 ⟨Nat.le_of_ble_eq_true rfl, Nat.le_of_ble_eq_true rfl⟩) (fun r1 H locs h2 hY => ?_)
  rcases h2 with ⟨rfl, h3⟩ | ⟨rfl, h3⟩
  · refine b_if_eq (tgt := 24) hx hb dX2_rentOn_6 (by decide) (fun h => absurd h (by decide)) (fun _ => ?_)
    refine lv_iload_n hx hb dX2_rentOn_9 rfl (lv_at hl 2 rfl) ?_
    refine lv_iconst (v := 0) hx hb dX2_rentOn_10 (by decide) ?_
    refine lv_sipush (v := 7199) hx hb dX2_rentOn_11 (by decide) ?_
    refine g_calli hY (g_runS (n := 3) hC (c_X2_isIn l G ad σ n τ j th o od p1 0 7199 0 7199 rfl rfl) gX2_rentOn_X2_isIn rfl ⟨rfl, rfl⟩ (by decide +kernel) ⟨Nat.le_of_ble_eq_true rfl, Nat.le_of_ble_eq_true rfl⟩ hY rfl hl.1 rfl (Nat.le_of_ble_eq_true rfl) dX2_rentOn_14 ⟨Nat.le_of_ble_eq_true rfl, Nat.le_of_ble_eq_true rfl⟩) (fun r5 H locs h6 hY => ?_)
    rcases h6 with ⟨rfl, h7⟩ | ⟨rfl, h7⟩
    · refine b_if_eq (tgt := 24) hx hb dX2_rentOn_17 (by decide) (fun h => absurd h (by decide)) (fun _ => ?_)
      refine lv_iconst (v := 0) hx hb dX2_rentOn_20 (by decide) ?_
      refine lv_goto (tgt := 25) hx hb dX2_rentOn_21 (by decide) ?_
      refine g_calli hY (g_runV (n := 1) (q := (RX2, TX2, 17)) (r := 5) hC (c_X2_holds l G ad σ n τ j th o od 0) gX2_rentOn_X2_holds rfl ⟨rfl, rfl⟩ (by decide +kernel) ⟨Nat.le_of_ble_eq_true rfl, Nat.le_of_ble_eq_true rfl⟩ hY (by omega) rfl (ci := 2) rfl rfl hl.1 rfl (Nat.le_of_ble_eq_true rfl) dX2_rentOn_25 ⟨Nat.le_of_ble_eq_true rfl, Nat.le_of_ble_eq_true rfl⟩) (fun r9 H locs h10 hY => ?_)
      obtain ⟨rfl, -⟩ := h10.resolve_right (fun q => q.2 rfl)
      refine b_if_eq (tgt := 40) hx hb dX2_rentOn_28 (by decide) (fun h => absurd h (by decide)) (fun _ => ?_)
      refine lv_aload_n hx hb dX2_rentOn_31 rfl (lv_at hl 0 rfl) ?_
      refine lv_iload_n hx hb dX2_rentOn_32 rfl (lv_at hl 1 rfl) ?_
      refine lv_iload_n hx hb dX2_rentOn_33 rfl (lv_at hl 2 rfl) ?_
      refine g_calli hY (g_runV (n := 2) (q := (RX2, TX2, 17)) (r := 5) hC (c_X2_rentAt l G ad σ n τ j 0 o od hj hI hX p0 p1 h3) gX2_rentOn_X2_rentAt rfl ⟨rfl, rfl⟩ (by decide +kernel) ⟨Nat.le_of_ble_eq_true rfl, Nat.le_of_ble_eq_true rfl⟩ hY (by omega) rfl (ci := 2) rfl rfl hl.1 rfl (Nat.le_of_ble_eq_true rfl) dX2_rentOn_34 ⟨Nat.le_of_ble_eq_true rfl, Nat.le_of_ble_eq_true rfl⟩) (fun r12 H locs h13 hY => ?_)
      subst h13
      refine lv_goto (tgt := 41) hx hb dX2_rentOn_37 (by decide) ?_
      have hcd : cdLX j 7200 p0 p1 = 0 := by unfold cdLX; (repeat' split) <;> first | rfl | omega
      rw [hcd]
      exact g_iret hC hr hlocks hY ⟨Nat.le_of_ble_eq_true rfl, Nat.le_of_ble_eq_true rfl⟩ dX2_rentOn_41 (fun _ => rfl)
    · refine b_if_eq (tgt := 24) hx hb dX2_rentOn_17 (by decide) (fun _ => ?_) (fun h => absurd h (by decide))
      refine lv_iconst (v := 1) hx hb dX2_rentOn_24 (by decide) ?_
      refine g_calli hY (g_runV (n := 1) (q := (RX2, TX2, 17)) (r := 5) hC (c_X2_holds l G ad σ n τ j th o od 1) gX2_rentOn_X2_holds rfl ⟨rfl, rfl⟩ (by decide +kernel) ⟨Nat.le_of_ble_eq_true rfl, Nat.le_of_ble_eq_true rfl⟩ hY (by omega) rfl (ci := 2) rfl rfl hl.1 rfl (Nat.le_of_ble_eq_true rfl) dX2_rentOn_25 ⟨Nat.le_of_ble_eq_true rfl, Nat.le_of_ble_eq_true rfl⟩) (fun r15 H locs h16 hY => ?_)
      obtain ⟨rfl, -⟩ := h16.resolve_left (fun q => absurd q.2 (by decide))
      refine b_if_eq (tgt := 40) hx hb dX2_rentOn_28 (by decide) (fun _ => ?_) (fun h => absurd h (by decide))
      refine lv_iconst (v := 0) hx hb dX2_rentOn_40 (by decide) ?_
      have hcd : cdLX j 7200 p0 p1 = 1 := by unfold cdLX; (repeat' split) <;> first | rfl | omega
      rw [hcd]
      exact g_iret hC hr hlocks hY ⟨Nat.le_of_ble_eq_true rfl, Nat.le_of_ble_eq_true rfl⟩ dX2_rentOn_41 (fun q => absurd q (by decide))
  · refine b_if_eq (tgt := 24) hx hb dX2_rentOn_6 (by decide) (fun _ => ?_) (fun h => absurd h (by decide))
    refine lv_iconst (v := 1) hx hb dX2_rentOn_24 (by decide) ?_
    refine g_calli hY (g_runV (n := 1) (q := (RX2, TX2, 17)) (r := 5) hC (c_X2_holds l G ad σ n τ j th o od 1) gX2_rentOn_X2_holds rfl ⟨rfl, rfl⟩ (by decide +kernel) ⟨Nat.le_of_ble_eq_true rfl, Nat.le_of_ble_eq_true rfl⟩ hY (by omega) rfl (ci := 2) rfl rfl hl.1 rfl (Nat.le_of_ble_eq_true rfl) dX2_rentOn_25 ⟨Nat.le_of_ble_eq_true rfl, Nat.le_of_ble_eq_true rfl⟩) (fun r19 H locs h20 hY => ?_)
    obtain ⟨rfl, -⟩ := h20.resolve_left (fun q => absurd q.2 (by decide))
    refine b_if_eq (tgt := 40) hx hb dX2_rentOn_28 (by decide) (fun _ => ?_) (fun h => absurd h (by decide))
    refine lv_iconst (v := 0) hx hb dX2_rentOn_40 (by decide) ?_
    have hcd : cdLX j 7200 p0 p1 = 1 := by unfold cdLX; (repeat' split) <;> first | rfl | omega
    rw [hcd]
    exact g_iret hC hr hlocks hY ⟨Nat.le_of_ble_eq_true rfl, Nat.le_of_ble_eq_true rfl⟩ dX2_rentOn_41 (fun q => absurd q (by decide))

set_option maxHeartbeats 4000000 in
set_option maxRecDepth 100000 in
theorem c_X2_bill (l : Launch) (G : GG) (ad : Nat → Nat) (σ : St) (n : Nat) (τ : St) (j : Nat) (th : Int32) (o : OL) (od : OD) (hj : j ≤ 24) (hI : ∀ k, k < j → okL τ k) (hX : ∀ i, i < 240 → 10 ≤ (τ 1 i).toInt) (p0 p1 : Int32)  : Met l yX2_bill wsX2_bill ({ frames := 4, cells := 0, slots := 0, locals := 120 }) (PcS G ad σ n τ j th o od [.ref (ad 5), .int p0, .int p1]) (Qi G (3 * n + 23) ad (ctS G ad σ n τ j (cdLX j 240 p0 p1) o od) (fun r => cdLX j 240 p0 p1 = 0 → r = bmF τ (ix p0) p1)) 0 0 (gF G) := by
  refine Met.ofW (cc := cX2_bill) (maxL := 3) (ret := (some .int)) (by decide) rfl ?_
  intro p e s m args below meth c s₁ B hml hv
  obtain ⟨rfl, hY⟩ := hv
  have hts := atoms_spec (ws := wsX2_bill) B.pre
  have hC : CallFix p m c cX2_bill 3 s _ wsX2_bill RX2 := ⟨B.exec, B.bytes, hml, findClass_of_methodNamed B.named, hts⟩
  have hx := hC.1
  have hb := hC.2.1
  have hr := B.returns
  have hlocks := B.notSynchronized
  have hin2 : ∀ w ∈ wsX20, w ∈ wsX2_bill := by decide +kernel
  have hl := lv_entry ([.ref (ad 5), .int p0, .int p1]) (n := 3) (Nat.le_of_ble_eq_true rfl)
  rw [lg_entry_eq]
  generalize (lg_sl ([.ref (ad 5), .int p0, .int p1]) ++ List.replicate (3 - (lg_sl ([.ref (ad 5), .int p0, .int p1])).length) Slot.unset).toArray = ls at hl ⊢
  have hl : lv_has ls 3 [(0, .ref (ad 5)), (1, .int p0), (2, .int p1)] := hl
  have hnj : (nI j).toInt = (j : Int) := i_nI (by omega)
  refine lv_aload_n hx hb dX2_bill_0 rfl (lv_at hl 0 rfl) ?_
  refine lv_aload_n hx hb dX2_bill_1 rfl (lv_at hl 0 rfl) ?_
  refine lv_iload_n hx hb dX2_bill_2 rfl (lv_at hl 1 rfl) ?_
  refine g_calli hY (g_runV (n := 1) (q := (RX2, TX2, 17)) (r := 5) hC (c_X2_isLease l G ad σ n τ j th o od hj p0) gX2_bill_X2_isLease rfl ⟨rfl, rfl⟩ (by decide +kernel) ⟨Nat.le_of_ble_eq_true rfl, Nat.le_of_ble_eq_true rfl⟩ hY (by omega) rfl (ci := 2) rfl rfl hl.1 rfl (Nat.le_of_ble_eq_true rfl) dX2_bill_3 ⟨Nat.le_of_ble_eq_true rfl, Nat.le_of_ble_eq_true rfl⟩) (fun r1 H locs h2 hY => ?_)
  rcases h2 with ⟨rfl, h3⟩ | ⟨rfl, h3⟩
  · refine b_if_eq (tgt := 24) hx hb dX2_bill_6 (by decide) (fun h => absurd h (by decide)) (fun _ => ?_)
    refine lv_iload_n hx hb dX2_bill_9 rfl (lv_at hl 2 rfl) ?_
    refine lv_iconst (v := 0) hx hb dX2_bill_10 (by decide) ?_
    refine lv_sipush (v := 239) hx hb dX2_bill_11 (by decide) ?_
    refine g_calli hY (g_runS (n := 3) hC (c_X2_isIn l G ad σ n τ j th o od p1 0 239 0 239 rfl rfl) gX2_bill_X2_isIn rfl ⟨rfl, rfl⟩ (by decide +kernel) ⟨Nat.le_of_ble_eq_true rfl, Nat.le_of_ble_eq_true rfl⟩ hY rfl hl.1 rfl (Nat.le_of_ble_eq_true rfl) dX2_bill_14 ⟨Nat.le_of_ble_eq_true rfl, Nat.le_of_ble_eq_true rfl⟩) (fun r5 H locs h6 hY => ?_)
    rcases h6 with ⟨rfl, h7⟩ | ⟨rfl, h7⟩
    · refine b_if_eq (tgt := 24) hx hb dX2_bill_17 (by decide) (fun h => absurd h (by decide)) (fun _ => ?_)
      refine lv_iconst (v := 0) hx hb dX2_bill_20 (by decide) ?_
      refine lv_goto (tgt := 25) hx hb dX2_bill_21 (by decide) ?_
      refine g_calli hY (g_runV (n := 1) (q := (RX2, TX2, 17)) (r := 5) hC (c_X2_holds l G ad σ n τ j th o od 0) gX2_bill_X2_holds rfl ⟨rfl, rfl⟩ (by decide +kernel) ⟨Nat.le_of_ble_eq_true rfl, Nat.le_of_ble_eq_true rfl⟩ hY (by omega) rfl (ci := 2) rfl rfl hl.1 rfl (Nat.le_of_ble_eq_true rfl) dX2_bill_25 ⟨Nat.le_of_ble_eq_true rfl, Nat.le_of_ble_eq_true rfl⟩) (fun r9 H locs h10 hY => ?_)
      obtain ⟨rfl, -⟩ := h10.resolve_right (fun q => q.2 rfl)
      refine b_if_eq (tgt := 40) hx hb dX2_bill_28 (by decide) (fun h => absurd h (by decide)) (fun _ => ?_)
      refine lv_aload_n hx hb dX2_bill_31 rfl (lv_at hl 0 rfl) ?_
      refine lv_iload_n hx hb dX2_bill_32 rfl (lv_at hl 1 rfl) ?_
      refine lv_iload_n hx hb dX2_bill_33 rfl (lv_at hl 2 rfl) ?_
      refine g_calli hY (g_runV (n := 2) (q := (RX2, TX2, 17)) (r := 5) hC (c_X2_billOf l G ad σ n τ j 0 o od hj hI hX p0 p1 ⟨by omega, by omega⟩ h3) gX2_bill_X2_billOf rfl ⟨rfl, rfl⟩ (by decide +kernel) ⟨Nat.le_of_ble_eq_true rfl, Nat.le_of_ble_eq_true rfl⟩ hY (by omega) rfl (ci := 2) rfl rfl hl.1 rfl (Nat.le_of_ble_eq_true rfl) dX2_bill_34 ⟨Nat.le_of_ble_eq_true rfl, Nat.le_of_ble_eq_true rfl⟩) (fun r12 H locs h13 hY => ?_)
      subst h13
      refine lv_goto (tgt := 41) hx hb dX2_bill_37 (by decide) ?_
      have hcd : cdLX j 240 p0 p1 = 0 := by unfold cdLX; (repeat' split) <;> first | rfl | omega
      rw [hcd]
      exact g_iret hC hr hlocks hY ⟨Nat.le_of_ble_eq_true rfl, Nat.le_of_ble_eq_true rfl⟩ dX2_bill_41 (fun _ => rfl)
    · refine b_if_eq (tgt := 24) hx hb dX2_bill_17 (by decide) (fun _ => ?_) (fun h => absurd h (by decide))
      refine lv_iconst (v := 1) hx hb dX2_bill_24 (by decide) ?_
      refine g_calli hY (g_runV (n := 1) (q := (RX2, TX2, 17)) (r := 5) hC (c_X2_holds l G ad σ n τ j th o od 1) gX2_bill_X2_holds rfl ⟨rfl, rfl⟩ (by decide +kernel) ⟨Nat.le_of_ble_eq_true rfl, Nat.le_of_ble_eq_true rfl⟩ hY (by omega) rfl (ci := 2) rfl rfl hl.1 rfl (Nat.le_of_ble_eq_true rfl) dX2_bill_25 ⟨Nat.le_of_ble_eq_true rfl, Nat.le_of_ble_eq_true rfl⟩) (fun r15 H locs h16 hY => ?_)
      obtain ⟨rfl, -⟩ := h16.resolve_left (fun q => absurd q.2 (by decide))
      refine b_if_eq (tgt := 40) hx hb dX2_bill_28 (by decide) (fun _ => ?_) (fun h => absurd h (by decide))
      refine lv_iconst (v := 0) hx hb dX2_bill_40 (by decide) ?_
      have hcd : cdLX j 240 p0 p1 = 1 := by unfold cdLX; (repeat' split) <;> first | rfl | omega
      rw [hcd]
      exact g_iret hC hr hlocks hY ⟨Nat.le_of_ble_eq_true rfl, Nat.le_of_ble_eq_true rfl⟩ dX2_bill_41 (fun q => absurd q (by decide))
  · refine b_if_eq (tgt := 24) hx hb dX2_bill_6 (by decide) (fun _ => ?_) (fun h => absurd h (by decide))
    refine lv_iconst (v := 1) hx hb dX2_bill_24 (by decide) ?_
    refine g_calli hY (g_runV (n := 1) (q := (RX2, TX2, 17)) (r := 5) hC (c_X2_holds l G ad σ n τ j th o od 1) gX2_bill_X2_holds rfl ⟨rfl, rfl⟩ (by decide +kernel) ⟨Nat.le_of_ble_eq_true rfl, Nat.le_of_ble_eq_true rfl⟩ hY (by omega) rfl (ci := 2) rfl rfl hl.1 rfl (Nat.le_of_ble_eq_true rfl) dX2_bill_25 ⟨Nat.le_of_ble_eq_true rfl, Nat.le_of_ble_eq_true rfl⟩) (fun r19 H locs h20 hY => ?_)
    obtain ⟨rfl, -⟩ := h20.resolve_left (fun q => absurd q.2 (by decide))
    refine b_if_eq (tgt := 40) hx hb dX2_bill_28 (by decide) (fun _ => ?_) (fun h => absurd h (by decide))
    refine lv_iconst (v := 0) hx hb dX2_bill_40 (by decide) ?_
    have hcd : cdLX j 240 p0 p1 = 1 := by unfold cdLX; (repeat' split) <;> first | rfl | omega
    rw [hcd]
    exact g_iret hC hr hlocks hY ⟨Nat.le_of_ble_eq_true rfl, Nat.le_of_ble_eq_true rfl⟩ dX2_bill_41 (fun q => absurd q (by decide))

set_option maxHeartbeats 4000000 in
set_option maxRecDepth 100000 in
theorem c_X2_billByDays (l : Launch) (G : GG) (ad : Nat → Nat) (σ : St) (n : Nat) (τ : St) (j : Nat) (th : Int32) (o : OL) (od : OD) (hj : j ≤ 24) (hI : ∀ k, k < j → okL τ k) (hX : ∀ i, i < 240 → 10 ≤ (τ 1 i).toInt) (p0 p1 : Int32)  : Met l yX2_billByDays wsX2_billByDays ({ frames := 4, cells := 0, slots := 0, locals := 120 }) (PcS G ad σ n τ j th o od [.ref (ad 5), .int p0, .int p1]) (Qi G (3 * n + 23) ad (ctS G ad σ n τ j (cdLX j 240 p0 p1) o od) (fun r => cdLX j 240 p0 p1 = 0 → r = bmF τ (ix p0) p1)) 0 0 (gF G) := by
  refine Met.ofW (cc := cX2_billByDays) (maxL := 3) (ret := (some .int)) (by decide) rfl ?_
  intro p e s m args below meth c s₁ B hml hv
  obtain ⟨rfl, hY⟩ := hv
  have hts := atoms_spec (ws := wsX2_billByDays) B.pre
  have hC : CallFix p m c cX2_billByDays 3 s _ wsX2_billByDays RX2 := ⟨B.exec, B.bytes, hml, findClass_of_methodNamed B.named, hts⟩
  have hx := hC.1
  have hb := hC.2.1
  have hr := B.returns
  have hlocks := B.notSynchronized
  have hin2 : ∀ w ∈ wsX20, w ∈ wsX2_billByDays := by decide +kernel
  have hl := lv_entry ([.ref (ad 5), .int p0, .int p1]) (n := 3) (Nat.le_of_ble_eq_true rfl)
  rw [lg_entry_eq]
  generalize (lg_sl ([.ref (ad 5), .int p0, .int p1]) ++ List.replicate (3 - (lg_sl ([.ref (ad 5), .int p0, .int p1])).length) Slot.unset).toArray = ls at hl ⊢
  have hl : lv_has ls 3 [(0, .ref (ad 5)), (1, .int p0), (2, .int p1)] := hl
  have hnj : (nI j).toInt = (j : Int) := i_nI (by omega)
  refine lv_aload_n hx hb dX2_billByDays_0 rfl (lv_at hl 0 rfl) ?_
  refine lv_aload_n hx hb dX2_billByDays_1 rfl (lv_at hl 0 rfl) ?_
  refine lv_iload_n hx hb dX2_billByDays_2 rfl (lv_at hl 1 rfl) ?_
  refine g_calli hY (g_runV (n := 1) (q := (RX2, TX2, 17)) (r := 5) hC (c_X2_isLease l G ad σ n τ j th o od hj p0) gX2_billByDays_X2_isLease rfl ⟨rfl, rfl⟩ (by decide +kernel) ⟨Nat.le_of_ble_eq_true rfl, Nat.le_of_ble_eq_true rfl⟩ hY (by omega) rfl (ci := 2) rfl rfl hl.1 rfl (Nat.le_of_ble_eq_true rfl) dX2_billByDays_3 ⟨Nat.le_of_ble_eq_true rfl, Nat.le_of_ble_eq_true rfl⟩) (fun r1 H locs h2 hY => ?_)
  rcases h2 with ⟨rfl, h3⟩ | ⟨rfl, h3⟩
  · refine b_if_eq (tgt := 24) hx hb dX2_billByDays_6 (by decide) (fun h => absurd h (by decide)) (fun _ => ?_)
    refine lv_iload_n hx hb dX2_billByDays_9 rfl (lv_at hl 2 rfl) ?_
    refine lv_iconst (v := 0) hx hb dX2_billByDays_10 (by decide) ?_
    refine lv_sipush (v := 239) hx hb dX2_billByDays_11 (by decide) ?_
    refine g_calli hY (g_runS (n := 3) hC (c_X2_isIn l G ad σ n τ j th o od p1 0 239 0 239 rfl rfl) gX2_billByDays_X2_isIn rfl ⟨rfl, rfl⟩ (by decide +kernel) ⟨Nat.le_of_ble_eq_true rfl, Nat.le_of_ble_eq_true rfl⟩ hY rfl hl.1 rfl (Nat.le_of_ble_eq_true rfl) dX2_billByDays_14 ⟨Nat.le_of_ble_eq_true rfl, Nat.le_of_ble_eq_true rfl⟩) (fun r5 H locs h6 hY => ?_)
    rcases h6 with ⟨rfl, h7⟩ | ⟨rfl, h7⟩
    · refine b_if_eq (tgt := 24) hx hb dX2_billByDays_17 (by decide) (fun h => absurd h (by decide)) (fun _ => ?_)
      refine lv_iconst (v := 0) hx hb dX2_billByDays_20 (by decide) ?_
      refine lv_goto (tgt := 25) hx hb dX2_billByDays_21 (by decide) ?_
      refine g_calli hY (g_runV (n := 1) (q := (RX2, TX2, 17)) (r := 5) hC (c_X2_holds l G ad σ n τ j th o od 0) gX2_billByDays_X2_holds rfl ⟨rfl, rfl⟩ (by decide +kernel) ⟨Nat.le_of_ble_eq_true rfl, Nat.le_of_ble_eq_true rfl⟩ hY (by omega) rfl (ci := 2) rfl rfl hl.1 rfl (Nat.le_of_ble_eq_true rfl) dX2_billByDays_25 ⟨Nat.le_of_ble_eq_true rfl, Nat.le_of_ble_eq_true rfl⟩) (fun r9 H locs h10 hY => ?_)
      obtain ⟨rfl, -⟩ := h10.resolve_right (fun q => q.2 rfl)
      refine b_if_eq (tgt := 40) hx hb dX2_billByDays_28 (by decide) (fun h => absurd h (by decide)) (fun _ => ?_)
      refine lv_aload_n hx hb dX2_billByDays_31 rfl (lv_at hl 0 rfl) ?_
      refine lv_iload_n hx hb dX2_billByDays_32 rfl (lv_at hl 1 rfl) ?_
      refine lv_iload_n hx hb dX2_billByDays_33 rfl (lv_at hl 2 rfl) ?_
      refine g_calli hY (g_runV (n := 2) (q := (RX2, TX2, 17)) (r := 5) hC (c_X2_billOf l G ad σ n τ j 0 o od hj hI hX p0 p1 ⟨by omega, by omega⟩ h3) gX2_billByDays_X2_billOf rfl ⟨rfl, rfl⟩ (by decide +kernel) ⟨Nat.le_of_ble_eq_true rfl, Nat.le_of_ble_eq_true rfl⟩ hY (by omega) rfl (ci := 2) rfl rfl hl.1 rfl (Nat.le_of_ble_eq_true rfl) dX2_billByDays_34 ⟨Nat.le_of_ble_eq_true rfl, Nat.le_of_ble_eq_true rfl⟩) (fun r12 H locs h13 hY => ?_)
      subst h13
      refine lv_goto (tgt := 41) hx hb dX2_billByDays_37 (by decide) ?_
      have hcd : cdLX j 240 p0 p1 = 0 := by unfold cdLX; (repeat' split) <;> first | rfl | omega
      rw [hcd]
      exact g_iret hC hr hlocks hY ⟨Nat.le_of_ble_eq_true rfl, Nat.le_of_ble_eq_true rfl⟩ dX2_billByDays_41 (fun _ => rfl)
    · refine b_if_eq (tgt := 24) hx hb dX2_billByDays_17 (by decide) (fun _ => ?_) (fun h => absurd h (by decide))
      refine lv_iconst (v := 1) hx hb dX2_billByDays_24 (by decide) ?_
      refine g_calli hY (g_runV (n := 1) (q := (RX2, TX2, 17)) (r := 5) hC (c_X2_holds l G ad σ n τ j th o od 1) gX2_billByDays_X2_holds rfl ⟨rfl, rfl⟩ (by decide +kernel) ⟨Nat.le_of_ble_eq_true rfl, Nat.le_of_ble_eq_true rfl⟩ hY (by omega) rfl (ci := 2) rfl rfl hl.1 rfl (Nat.le_of_ble_eq_true rfl) dX2_billByDays_25 ⟨Nat.le_of_ble_eq_true rfl, Nat.le_of_ble_eq_true rfl⟩) (fun r15 H locs h16 hY => ?_)
      obtain ⟨rfl, -⟩ := h16.resolve_left (fun q => absurd q.2 (by decide))
      refine b_if_eq (tgt := 40) hx hb dX2_billByDays_28 (by decide) (fun _ => ?_) (fun h => absurd h (by decide))
      refine lv_iconst (v := 0) hx hb dX2_billByDays_40 (by decide) ?_
      have hcd : cdLX j 240 p0 p1 = 1 := by unfold cdLX; (repeat' split) <;> first | rfl | omega
      rw [hcd]
      exact g_iret hC hr hlocks hY ⟨Nat.le_of_ble_eq_true rfl, Nat.le_of_ble_eq_true rfl⟩ dX2_billByDays_41 (fun q => absurd q (by decide))
  · refine b_if_eq (tgt := 24) hx hb dX2_billByDays_6 (by decide) (fun _ => ?_) (fun h => absurd h (by decide))
    refine lv_iconst (v := 1) hx hb dX2_billByDays_24 (by decide) ?_
    refine g_calli hY (g_runV (n := 1) (q := (RX2, TX2, 17)) (r := 5) hC (c_X2_holds l G ad σ n τ j th o od 1) gX2_billByDays_X2_holds rfl ⟨rfl, rfl⟩ (by decide +kernel) ⟨Nat.le_of_ble_eq_true rfl, Nat.le_of_ble_eq_true rfl⟩ hY (by omega) rfl (ci := 2) rfl rfl hl.1 rfl (Nat.le_of_ble_eq_true rfl) dX2_billByDays_25 ⟨Nat.le_of_ble_eq_true rfl, Nat.le_of_ble_eq_true rfl⟩) (fun r19 H locs h20 hY => ?_)
    obtain ⟨rfl, -⟩ := h20.resolve_left (fun q => absurd q.2 (by decide))
    refine b_if_eq (tgt := 40) hx hb dX2_billByDays_28 (by decide) (fun _ => ?_) (fun h => absurd h (by decide))
    refine lv_iconst (v := 0) hx hb dX2_billByDays_40 (by decide) ?_
    have hcd : cdLX j 240 p0 p1 = 1 := by unfold cdLX; (repeat' split) <;> first | rfl | omega
    rw [hcd]
    exact g_iret hC hr hlocks hY ⟨Nat.le_of_ble_eq_true rfl, Nat.le_of_ble_eq_true rfl⟩ dX2_billByDays_41 (fun q => absurd q (by decide))

def bmS (σ : St) (k : Nat) (f : Int32) : Nat → Int64
  | 0 => 0
  | i + 1 => bmS σ k f i + (bmF σ k (f + nI i)).toInt64
set_option maxHeartbeats 4000000 in
set_option maxRecDepth 100000 in
theorem c_X2_bills (l : Launch) (G : GG) (ad : Nat → Nat) (σ : St) (n : Nat) (τ : St) (j : Nat) (th : Int32) (o : OL) (od : OD) (hj : j ≤ 24) (hI : ∀ k, k < j → okL τ k) (hX : ∀ i, i < 240 → 10 ≤ (τ 1 i).toInt) (p0 p1 p2 : Int32)  : Met l yX2_bills wsX2_bills ({ frames := 4, cells := 0, slots := 0, locals := 120 }) (PcS G ad σ n τ j th o od [.ref (ad 5), .int p0, .int p1, .int p2]) (Ql G (3 * n + 23) ad (ctS G ad σ n τ j (cdBills j p0 p1 p2) o od) (fun r => cdBills j p0 p1 p2 = 0 → r = bmS τ (ix p0) p1 (p2.toInt - p1.toInt + 1).toNat)) 0 0 (gF G) := by
  refine Met.ofW (cc := cX2_bills) (maxL := 8) (ret := (some .long)) (by decide) rfl ?_
  intro p e s m args below meth c s₁ B hml hv
  obtain ⟨rfl, hY⟩ := hv
  have hts := atoms_spec (ws := wsX2_bills) B.pre
  have hC : CallFix p m c cX2_bills 8 s _ wsX2_bills RX2 := ⟨B.exec, B.bytes, hml, findClass_of_methodNamed B.named, hts⟩
  have hx := hC.1
  have hb := hC.2.1
  have hr := B.returns
  have hlocks := B.notSynchronized
  have hin2 : ∀ w ∈ wsX20, w ∈ wsX2_bills := by decide +kernel
  have hl := lv_entry ([.ref (ad 5), .int p0, .int p1, .int p2]) (n := 8) (Nat.le_of_ble_eq_true rfl)
  rw [lg_entry_eq]
  generalize (lg_sl ([.ref (ad 5), .int p0, .int p1, .int p2]) ++ List.replicate (8 - (lg_sl ([.ref (ad 5), .int p0, .int p1, .int p2])).length) Slot.unset).toArray = ls at hl ⊢
  have hl : lv_has ls 8 [(0, .ref (ad 5)), (1, .int p0), (2, .int p1), (3, .int p2)] := hl
  have hnj : (nI j).toInt = (j : Int) := i_nI (by omega)
  refine lv_aload_n hx hb dX2_bills_0 rfl (lv_at hl 0 rfl) ?_
  refine lv_iload_n hx hb dX2_bills_1 rfl (lv_at hl 1 rfl) ?_
  refine g_calli hY (g_runV (n := 1) (q := (RX2, TX2, 17)) (r := 5) hC (c_X2_isLease l G ad σ n τ j th o od hj p0) gX2_bills_X2_isLease rfl ⟨rfl, rfl⟩ (by decide +kernel) ⟨Nat.le_of_ble_eq_true rfl, Nat.le_of_ble_eq_true rfl⟩ hY (by omega) rfl (ci := 2) rfl rfl hl.1 rfl (Nat.le_of_ble_eq_true rfl) dX2_bills_2 ⟨Nat.le_of_ble_eq_true rfl, Nat.le_of_ble_eq_true rfl⟩) (fun r1 H locs h2 hY => ?_)
  rcases h2 with ⟨rfl, h3⟩ | ⟨rfl, h3⟩
  · refine b_if_eq (tgt := 34) hx hb dX2_bills_5 (by decide) (fun h => absurd h (by decide)) (fun _ => ?_)
    refine lv_iload_n hx hb dX2_bills_8 rfl (lv_at hl 2 rfl) ?_
    refine lv_iconst (v := 0) hx hb dX2_bills_9 (by decide) ?_
    refine lv_sipush (v := 239) hx hb dX2_bills_10 (by decide) ?_
    refine g_calli hY (g_runS (n := 3) hC (c_X2_isIn l G ad σ n τ j th o od p1 0 239 0 239 rfl rfl) gX2_bills_X2_isIn rfl ⟨rfl, rfl⟩ (by decide +kernel) ⟨Nat.le_of_ble_eq_true rfl, Nat.le_of_ble_eq_true rfl⟩ hY rfl hl.1 rfl (Nat.le_of_ble_eq_true rfl) dX2_bills_13 ⟨Nat.le_of_ble_eq_true rfl, Nat.le_of_ble_eq_true rfl⟩) (fun r5 H locs h6 hY => ?_)
    rcases h6 with ⟨rfl, h7⟩ | ⟨rfl, h7⟩
    · refine b_if_eq (tgt := 34) hx hb dX2_bills_16 (by decide) (fun h => absurd h (by decide)) (fun _ => ?_)
      refine lv_iload_n hx hb dX2_bills_19 rfl (lv_at hl 3 rfl) ?_
      refine lv_iconst (v := 0) hx hb dX2_bills_20 (by decide) ?_
      refine lv_sipush (v := 239) hx hb dX2_bills_21 (by decide) ?_
      refine g_calli hY (g_runS (n := 3) hC (c_X2_isIn l G ad σ n τ j th o od p2 0 239 0 239 rfl rfl) gX2_bills_X2_isIn rfl ⟨rfl, rfl⟩ (by decide +kernel) ⟨Nat.le_of_ble_eq_true rfl, Nat.le_of_ble_eq_true rfl⟩ hY rfl hl.1 rfl (Nat.le_of_ble_eq_true rfl) dX2_bills_24 ⟨Nat.le_of_ble_eq_true rfl, Nat.le_of_ble_eq_true rfl⟩) (fun r9 H locs h10 hY => ?_)
      rcases h10 with ⟨rfl, h11⟩ | ⟨rfl, h11⟩
      · refine b_if_eq (tgt := 34) hx hb dX2_bills_27 (by decide) (fun h => absurd h (by decide)) (fun _ => ?_)
        refine lv_iconst (v := 1) hx hb dX2_bills_30 (by decide) ?_
        refine lv_goto (tgt := 35) hx hb dX2_bills_31 (by decide) ?_
        refine lv_istore (lv' := [(4, .int 1), (0, .ref (ad 5)), (1, .int p0), (2, .int p1), (3, .int p2)]) hx hb dX2_bills_35 hl (by decide) rfl (fun ls hl => ?_)
        refine lv_aload_n hx hb dX2_bills_37 rfl (lv_at hl 1 rfl) ?_
        refine lv_iload hx hb dX2_bills_38 (lv_at hl 0 rfl) ?_
        refine b_if_ne (tgt := 47) hx hb dX2_bills_40 (by decide) (fun _ => ?_) (fun h => absurd h (by decide))
        refine lv_iload_n hx hb dX2_bills_47 rfl (lv_at hl 4 rfl) ?_
        refine lv_iload_n hx hb dX2_bills_48 rfl (lv_at hl 3 rfl) ?_
        refine b_icmp_ge (tgt := 56) hx hb dX2_bills_49 (by decide) (fun (h14 : p1.toInt ≤ p2.toInt) => ?_) (fun (h14 : p2.toInt < p1.toInt) => ?_)
        · refine lv_iconst (v := 0) hx hb dX2_bills_56 (by decide) ?_
          refine g_calli hY (g_runV (n := 1) (q := (RX2, TX2, 17)) (r := 5) hC (c_X2_holds l G ad σ n τ j th o od 0) gX2_bills_X2_holds rfl ⟨rfl, rfl⟩ (by decide +kernel) ⟨Nat.le_of_ble_eq_true rfl, Nat.le_of_ble_eq_true rfl⟩ hY (by omega) rfl (ci := 2) rfl rfl hl.1 rfl (Nat.le_of_ble_eq_true rfl) dX2_bills_57 ⟨Nat.le_of_ble_eq_true rfl, Nat.le_of_ble_eq_true rfl⟩) (fun r15 H locs h16 hY => ?_)
          obtain ⟨rfl, -⟩ := h16.resolve_right (fun q => q.2 rfl)
          refine b_if_ne (tgt := 65) hx hb dX2_bills_60 (by decide) (fun _ => ?_) (fun h => absurd h (by decide))
          refine lv_lconst (v := 0) hx hb dX2_bills_65 (by decide) ?_
          refine lv_lstore (lv' := [(5, .long 0), (4, .int 1), (0, .ref (ad 5)), (1, .int p0), (2, .int p1), (3, .int p2)]) hx hb dX2_bills_66 hl (by decide) rfl (fun ls hl => ?_)
          refine lv_iload_n hx hb dX2_bills_68 rfl (lv_at hl 4 rfl) ?_
          refine lv_istore (lv' := [(7, .int p1), (5, .long 0), (4, .int 1), (0, .ref (ad 5)), (1, .int p0), (2, .int p1), (3, .int p2)]) hx hb dX2_bills_69 hl (by decide) rfl (fun ls hl => ?_)
          refine w_loop (X := Int32 × Int64) (fun i x H locs ls => match x with | (x7, x5) => (x7.toInt = p1.toInt + i ∧ i ≤ (p2.toInt - p1.toInt + 1).toNat ∧ x5 = bmS τ (ix p0) p1 i) ∧ SyS G ad σ n τ j 0 o od s H locs ∧ lv_has ls 8 [(7, .int x7), (5, .long x5), (0, .ref (ad 5)), (1, .int p0), (2, .int p1), (3, .int p2)]) (240) ?_ ?_ ((p1, 0)) ⟨⟨by show _ = _ + (0 : Int); omega, Nat.zero_le _, rfl⟩, hY, lv_sub hl [0, 1, 3, 4, 5, 6] rfl⟩
          · intro i x H locs ls hI ih
            obtain ⟨x7, x5⟩ := x
            obtain ⟨hI, hY, hl⟩ := hI
            obtain ⟨h9, h8, e⟩ := hI
            refine lv_iload hx hb dX2_bills_71 (lv_at hl 0 rfl) ?_
            refine lv_iload_n hx hb dX2_bills_73 rfl (lv_at hl 5 rfl) ?_
            refine b_icmp_gt (tgt := 96) hx hb dX2_bills_74 (by decide) (fun (h18 : p2.toInt < x7.toInt) => ?_) (fun (h18 : x7.toInt ≤ p2.toInt) => ?_)
            · refine lv_lload hx hb dX2_bills_96 (lv_at hl 1 rfl) ?_
              have hcd : cdBills j p0 p1 p2 = 0 := by unfold cdBills; (repeat' split) <;> first | rfl | omega
              rw [hcd]
              exact g_lret hC hr hlocks hY ⟨Nat.le_of_ble_eq_true rfl, Nat.le_of_ble_eq_true rfl⟩ dX2_bills_98 (fun _ => by rw [show (p2.toInt - p1.toInt + 1).toNat = i by omega, ← e])
            · refine lv_lload hx hb dX2_bills_77 (lv_at hl 1 rfl) ?_
              refine lv_aload_n hx hb dX2_bills_79 rfl (lv_at hl 2 rfl) ?_
              refine lv_iload_n hx hb dX2_bills_80 rfl (lv_at hl 3 rfl) ?_
              refine lv_iload hx hb dX2_bills_81 (lv_at hl 0 rfl) ?_
              refine g_calli hY (g_runV (n := 2) (q := (RX2, TX2, 17)) (r := 5) hC (c_X2_billOf l G ad σ n τ j 0 o od hj hI hX p0 x7 ⟨by omega, by omega⟩ h3) gX2_bills_X2_billOf rfl ⟨rfl, rfl⟩ (by decide +kernel) ⟨Nat.le_of_ble_eq_true rfl, Nat.le_of_ble_eq_true rfl⟩ hY (by omega) rfl (ci := 2) rfl rfl hl.1 rfl (Nat.le_of_ble_eq_true rfl) dX2_bills_83 ⟨Nat.le_of_ble_eq_true rfl, Nat.le_of_ble_eq_true rfl⟩) (fun r19 H locs h20 hY => ?_)
              subst h20
              refine lv_i2l hx hb dX2_bills_86 rfl ?_
              refine lv_ladd hx hb dX2_bills_87 ?_
              refine lv_lstore (lv' := [(5, .long (x5 + ((bmF τ (ix p0) x7).toInt64))), (7, .int x7), (0, .ref (ad 5)), (1, .int p0), (2, .int p1), (3, .int p2)]) hx hb dX2_bills_88 hl (by decide) rfl (fun ls hl => ?_)
              refine lv_iinc (v := x7 + 1) (lv' := [(7, .int (x7 + 1)), (5, .long (x5 + ((bmF τ (ix p0) x7).toInt64))), (0, .ref (ad 5)), (1, .int p0), (2, .int p1), (3, .int p2)]) hx hb dX2_bills_90 hl (k := 1) rfl rfl (by decide) rfl (fun ls hl => ?_)
              refine lv_goto (tgt := 71) hx hb dX2_bills_93 (by decide) ?_
              have hx7 : x7 = p1 + nI i := i_addnI h9 (by omega) (by omega) (by omega)
              exact ih (x7 + 1, x5 + ((bmF τ (ix p0) x7).toInt64)) _ _ _ ⟨⟨by rw [i_add1 (by omega)]; omega, by omega, by rw [bmS, ← e, ← hx7]⟩, hY, lv_sub hl [0, 1, 2, 3, 4, 5] rfl⟩
          · intro i x H locs ls hI
            obtain ⟨x7, x5⟩ := x
            obtain ⟨hI, -, -⟩ := hI
            obtain ⟨h9, h8, e⟩ := hI
            omega
        · refine lv_iconst (v := 2) hx hb dX2_bills_52 (by decide) ?_
          refine lv_goto (tgt := 57) hx hb dX2_bills_53 (by decide) ?_
          refine g_calli hY (g_runV (n := 1) (q := (RX2, TX2, 17)) (r := 5) hC (c_X2_holds l G ad σ n τ j th o od 2) gX2_bills_X2_holds rfl ⟨rfl, rfl⟩ (by decide +kernel) ⟨Nat.le_of_ble_eq_true rfl, Nat.le_of_ble_eq_true rfl⟩ hY (by omega) rfl (ci := 2) rfl rfl hl.1 rfl (Nat.le_of_ble_eq_true rfl) dX2_bills_57 ⟨Nat.le_of_ble_eq_true rfl, Nat.le_of_ble_eq_true rfl⟩) (fun r21 H locs h22 hY => ?_)
          obtain ⟨rfl, -⟩ := h22.resolve_left (fun q => absurd q.2 (by decide))
          refine b_if_ne (tgt := 65) hx hb dX2_bills_60 (by decide) (fun h => absurd h (by decide)) (fun _ => ?_)
          refine lv_lconst (v := 0) hx hb dX2_bills_63 (by decide) ?_
          have hcd : cdBills j p0 p1 p2 = 2 := by unfold cdBills; (repeat' split) <;> first | rfl | omega
          rw [hcd]
          exact g_lret hC hr hlocks hY ⟨Nat.le_of_ble_eq_true rfl, Nat.le_of_ble_eq_true rfl⟩ dX2_bills_64 (fun q => absurd q (by decide))
      · refine b_if_eq (tgt := 34) hx hb dX2_bills_27 (by decide) (fun _ => ?_) (fun h => absurd h (by decide))
        refine lv_iconst (v := 0) hx hb dX2_bills_34 (by decide) ?_
        refine lv_istore (lv' := [(4, .int 0), (0, .ref (ad 5)), (1, .int p0), (2, .int p1), (3, .int p2)]) hx hb dX2_bills_35 hl (by decide) rfl (fun ls hl => ?_)
        refine lv_aload_n hx hb dX2_bills_37 rfl (lv_at hl 1 rfl) ?_
        refine lv_iload hx hb dX2_bills_38 (lv_at hl 0 rfl) ?_
        refine b_if_ne (tgt := 47) hx hb dX2_bills_40 (by decide) (fun h => absurd h (by decide)) (fun _ => ?_)
        refine lv_iconst (v := 1) hx hb dX2_bills_43 (by decide) ?_
        refine lv_goto (tgt := 57) hx hb dX2_bills_44 (by decide) ?_
        refine g_calli hY (g_runV (n := 1) (q := (RX2, TX2, 17)) (r := 5) hC (c_X2_holds l G ad σ n τ j th o od 1) gX2_bills_X2_holds rfl ⟨rfl, rfl⟩ (by decide +kernel) ⟨Nat.le_of_ble_eq_true rfl, Nat.le_of_ble_eq_true rfl⟩ hY (by omega) rfl (ci := 2) rfl rfl hl.1 rfl (Nat.le_of_ble_eq_true rfl) dX2_bills_57 ⟨Nat.le_of_ble_eq_true rfl, Nat.le_of_ble_eq_true rfl⟩) (fun r26 H locs h27 hY => ?_)
        obtain ⟨rfl, -⟩ := h27.resolve_left (fun q => absurd q.2 (by decide))
        refine b_if_ne (tgt := 65) hx hb dX2_bills_60 (by decide) (fun h => absurd h (by decide)) (fun _ => ?_)
        refine lv_lconst (v := 0) hx hb dX2_bills_63 (by decide) ?_
        have hcd : cdBills j p0 p1 p2 = 1 := by unfold cdBills; (repeat' split) <;> first | rfl | omega
        rw [hcd]
        exact g_lret hC hr hlocks hY ⟨Nat.le_of_ble_eq_true rfl, Nat.le_of_ble_eq_true rfl⟩ dX2_bills_64 (fun q => absurd q (by decide))
    · refine b_if_eq (tgt := 34) hx hb dX2_bills_16 (by decide) (fun _ => ?_) (fun h => absurd h (by decide))
      refine lv_iconst (v := 0) hx hb dX2_bills_34 (by decide) ?_
      refine lv_istore (lv' := [(4, .int 0), (0, .ref (ad 5)), (1, .int p0), (2, .int p1), (3, .int p2)]) hx hb dX2_bills_35 hl (by decide) rfl (fun ls hl => ?_)
      refine lv_aload_n hx hb dX2_bills_37 rfl (lv_at hl 1 rfl) ?_
      refine lv_iload hx hb dX2_bills_38 (lv_at hl 0 rfl) ?_
      refine b_if_ne (tgt := 47) hx hb dX2_bills_40 (by decide) (fun h => absurd h (by decide)) (fun _ => ?_)
      refine lv_iconst (v := 1) hx hb dX2_bills_43 (by decide) ?_
      refine lv_goto (tgt := 57) hx hb dX2_bills_44 (by decide) ?_
      refine g_calli hY (g_runV (n := 1) (q := (RX2, TX2, 17)) (r := 5) hC (c_X2_holds l G ad σ n τ j th o od 1) gX2_bills_X2_holds rfl ⟨rfl, rfl⟩ (by decide +kernel) ⟨Nat.le_of_ble_eq_true rfl, Nat.le_of_ble_eq_true rfl⟩ hY (by omega) rfl (ci := 2) rfl rfl hl.1 rfl (Nat.le_of_ble_eq_true rfl) dX2_bills_57 ⟨Nat.le_of_ble_eq_true rfl, Nat.le_of_ble_eq_true rfl⟩) (fun r31 H locs h32 hY => ?_)
      obtain ⟨rfl, -⟩ := h32.resolve_left (fun q => absurd q.2 (by decide))
      refine b_if_ne (tgt := 65) hx hb dX2_bills_60 (by decide) (fun h => absurd h (by decide)) (fun _ => ?_)
      refine lv_lconst (v := 0) hx hb dX2_bills_63 (by decide) ?_
      have hcd : cdBills j p0 p1 p2 = 1 := by unfold cdBills; (repeat' split) <;> first | rfl | omega
      rw [hcd]
      exact g_lret hC hr hlocks hY ⟨Nat.le_of_ble_eq_true rfl, Nat.le_of_ble_eq_true rfl⟩ dX2_bills_64 (fun q => absurd q (by decide))
  · refine b_if_eq (tgt := 34) hx hb dX2_bills_5 (by decide) (fun _ => ?_) (fun h => absurd h (by decide))
    refine lv_iconst (v := 0) hx hb dX2_bills_34 (by decide) ?_
    refine lv_istore (lv' := [(4, .int 0), (0, .ref (ad 5)), (1, .int p0), (2, .int p1), (3, .int p2)]) hx hb dX2_bills_35 hl (by decide) rfl (fun ls hl => ?_)
    refine lv_aload_n hx hb dX2_bills_37 rfl (lv_at hl 1 rfl) ?_
    refine lv_iload hx hb dX2_bills_38 (lv_at hl 0 rfl) ?_
    refine b_if_ne (tgt := 47) hx hb dX2_bills_40 (by decide) (fun h => absurd h (by decide)) (fun _ => ?_)
    refine lv_iconst (v := 1) hx hb dX2_bills_43 (by decide) ?_
    refine lv_goto (tgt := 57) hx hb dX2_bills_44 (by decide) ?_
    refine g_calli hY (g_runV (n := 1) (q := (RX2, TX2, 17)) (r := 5) hC (c_X2_holds l G ad σ n τ j th o od 1) gX2_bills_X2_holds rfl ⟨rfl, rfl⟩ (by decide +kernel) ⟨Nat.le_of_ble_eq_true rfl, Nat.le_of_ble_eq_true rfl⟩ hY (by omega) rfl (ci := 2) rfl rfl hl.1 rfl (Nat.le_of_ble_eq_true rfl) dX2_bills_57 ⟨Nat.le_of_ble_eq_true rfl, Nat.le_of_ble_eq_true rfl⟩) (fun r36 H locs h37 hY => ?_)
    obtain ⟨rfl, -⟩ := h37.resolve_left (fun q => absurd q.2 (by decide))
    refine b_if_ne (tgt := 65) hx hb dX2_bills_60 (by decide) (fun h => absurd h (by decide)) (fun _ => ?_)
    refine lv_lconst (v := 0) hx hb dX2_bills_63 (by decide) ?_
    have hcd : cdBills j p0 p1 p2 = 1 := by unfold cdBills; (repeat' split) <;> first | rfl | omega
    rw [hcd]
    exact g_lret hC hr hlocks hY ⟨Nat.le_of_ble_eq_true rfl, Nat.le_of_ble_eq_true rfl⟩ dX2_bills_64 (fun q => absurd q (by decide))

def nmG (σ : St) (k : Nat) (b : Int32) : Nat → Int32 → Int32
  | 0, _ => -1
  | f + 1, t => if t.toInt < 7200 ∧ t.toInt ≤ (σ 5 k).toInt then (if (rmF σ k t).toInt = b.toInt then nmG σ k b f (t + 1) else t) else -1
theorem nmG_s {σ : St} {k f : Nat} {b t : Int32} : nmG σ k b (f + 1) t = if t.toInt < 7200 ∧ t.toInt ≤ (σ 5 k).toInt then (if (rmF σ k t).toInt = b.toInt then nmG σ k b f (t + 1) else t) else -1 := rfl
set_option maxHeartbeats 4000000 in
set_option maxRecDepth 100000 in
theorem c_X2_nextChange (l : Launch) (G : GG) (ad : Nat → Nat) (σ : St) (n : Nat) (τ : St) (j : Nat) (th : Int32) (o : OL) (od : OD) (hj : j ≤ 24) (hI : ∀ k, k < j → okL τ k) (hX : ∀ i, i < 240 → 10 ≤ (τ 1 i).toInt) (p0 p1 : Int32)  : Met l yX2_nextChange wsX2_nextChange ({ frames := 4, cells := 0, slots := 0, locals := 120 }) (PcS G ad σ n τ j th o od [.ref (ad 5), .int p0, .int p1]) (Qi G (3 * n + 23) ad (ctS G ad σ n τ j (cdLX j 7200 p0 p1) o od) (fun r => cdLX j 7200 p0 p1 = 0 → r = nmG τ (ix p0) (rmF τ (ix p0) p1) 7300 (p1 + 1))) 0 0 (gF G) := by
  refine Met.ofW (cc := cX2_nextChange) (maxL := 6) (ret := (some .int)) (by decide) rfl ?_
  intro p e s m args below meth c s₁ B hml hv
  obtain ⟨rfl, hY⟩ := hv
  have hts := atoms_spec (ws := wsX2_nextChange) B.pre
  have hC : CallFix p m c cX2_nextChange 6 s _ wsX2_nextChange RX2 := ⟨B.exec, B.bytes, hml, findClass_of_methodNamed B.named, hts⟩
  have hx := hC.1
  have hb := hC.2.1
  have hr := B.returns
  have hlocks := B.notSynchronized
  have hin2 : ∀ w ∈ wsX20, w ∈ wsX2_nextChange := by decide +kernel
  have hl := lv_entry ([.ref (ad 5), .int p0, .int p1]) (n := 6) (Nat.le_of_ble_eq_true rfl)
  rw [lg_entry_eq]
  generalize (lg_sl ([.ref (ad 5), .int p0, .int p1]) ++ List.replicate (6 - (lg_sl ([.ref (ad 5), .int p0, .int p1])).length) Slot.unset).toArray = ls at hl ⊢
  have hl : lv_has ls 6 [(0, .ref (ad 5)), (1, .int p0), (2, .int p1)] := hl
  have hnj : (nI j).toInt = (j : Int) := i_nI (by omega)
  refine lv_aload_n hx hb dX2_nextChange_0 rfl (lv_at hl 0 rfl) ?_
  refine lv_aload_n hx hb dX2_nextChange_1 rfl (lv_at hl 0 rfl) ?_
  refine lv_iload_n hx hb dX2_nextChange_2 rfl (lv_at hl 1 rfl) ?_
  refine g_calli hY (g_runV (n := 1) (q := (RX2, TX2, 17)) (r := 5) hC (c_X2_isLease l G ad σ n τ j th o od hj p0) gX2_nextChange_X2_isLease rfl ⟨rfl, rfl⟩ (by decide +kernel) ⟨Nat.le_of_ble_eq_true rfl, Nat.le_of_ble_eq_true rfl⟩ hY (by omega) rfl (ci := 2) rfl rfl hl.1 rfl (Nat.le_of_ble_eq_true rfl) dX2_nextChange_3 ⟨Nat.le_of_ble_eq_true rfl, Nat.le_of_ble_eq_true rfl⟩) (fun r1 H locs h2 hY => ?_)
  rcases h2 with ⟨rfl, h3⟩ | ⟨rfl, h3⟩
  · refine b_if_eq (tgt := 24) hx hb dX2_nextChange_6 (by decide) (fun h => absurd h (by decide)) (fun _ => ?_)
    refine lv_iload_n hx hb dX2_nextChange_9 rfl (lv_at hl 2 rfl) ?_
    refine lv_iconst (v := 0) hx hb dX2_nextChange_10 (by decide) ?_
    refine lv_sipush (v := 7199) hx hb dX2_nextChange_11 (by decide) ?_
    refine g_calli hY (g_runS (n := 3) hC (c_X2_isIn l G ad σ n τ j th o od p1 0 7199 0 7199 rfl rfl) gX2_nextChange_X2_isIn rfl ⟨rfl, rfl⟩ (by decide +kernel) ⟨Nat.le_of_ble_eq_true rfl, Nat.le_of_ble_eq_true rfl⟩ hY rfl hl.1 rfl (Nat.le_of_ble_eq_true rfl) dX2_nextChange_14 ⟨Nat.le_of_ble_eq_true rfl, Nat.le_of_ble_eq_true rfl⟩) (fun r5 H locs h6 hY => ?_)
    rcases h6 with ⟨rfl, h7⟩ | ⟨rfl, h7⟩
    · refine b_if_eq (tgt := 24) hx hb dX2_nextChange_17 (by decide) (fun h => absurd h (by decide)) (fun _ => ?_)
      refine lv_iconst (v := 0) hx hb dX2_nextChange_20 (by decide) ?_
      refine lv_goto (tgt := 25) hx hb dX2_nextChange_21 (by decide) ?_
      refine g_calli hY (g_runV (n := 1) (q := (RX2, TX2, 17)) (r := 5) hC (c_X2_holds l G ad σ n τ j th o od 0) gX2_nextChange_X2_holds rfl ⟨rfl, rfl⟩ (by decide +kernel) ⟨Nat.le_of_ble_eq_true rfl, Nat.le_of_ble_eq_true rfl⟩ hY (by omega) rfl (ci := 2) rfl rfl hl.1 rfl (Nat.le_of_ble_eq_true rfl) dX2_nextChange_25 ⟨Nat.le_of_ble_eq_true rfl, Nat.le_of_ble_eq_true rfl⟩) (fun r9 H locs h10 hY => ?_)
      obtain ⟨rfl, -⟩ := h10.resolve_right (fun q => q.2 rfl)
      refine b_if_ne (tgt := 33) hx hb dX2_nextChange_28 (by decide) (fun _ => ?_) (fun h => absurd h (by decide))
      refine lv_aload_n hx hb dX2_nextChange_33 rfl (lv_at hl 0 rfl) ?_
      refine lv_iload_n hx hb dX2_nextChange_34 rfl (lv_at hl 1 rfl) ?_
      refine lv_iload_n hx hb dX2_nextChange_35 rfl (lv_at hl 2 rfl) ?_
      refine g_calli hY (g_runV (n := 2) (q := (RX2, TX2, 17)) (r := 5) hC (c_X2_rentAt l G ad σ n τ j 0 o od hj hI hX p0 p1 h3) gX2_nextChange_X2_rentAt rfl ⟨rfl, rfl⟩ (by decide +kernel) ⟨Nat.le_of_ble_eq_true rfl, Nat.le_of_ble_eq_true rfl⟩ hY (by omega) rfl (ci := 2) rfl rfl hl.1 rfl (Nat.le_of_ble_eq_true rfl) dX2_nextChange_36 ⟨Nat.le_of_ble_eq_true rfl, Nat.le_of_ble_eq_true rfl⟩) (fun r12 H locs h13 hY => ?_)
      subst h13
      refine lv_istore_n (lv' := [(3, .int (rmF τ (ix p0) p1)), (0, .ref (ad 5)), (1, .int p0), (2, .int p1)]) hx hb dX2_nextChange_39 rfl hl (by decide) rfl (fun ls hl => ?_)
      refine lv_iload_n hx hb dX2_nextChange_40 rfl (lv_at hl 3 rfl) ?_
      refine lv_iconst (v := 1) hx hb dX2_nextChange_41 (by decide) ?_
      refine lv_iadd hx hb dX2_nextChange_42 ?_
      refine lv_istore (lv' := [(4, .int (p1 + 1)), (3, .int (rmF τ (ix p0) p1)), (0, .ref (ad 5)), (1, .int p0), (2, .int p1)]) hx hb dX2_nextChange_43 hl (by decide) rfl (fun ls hl => ?_)
      refine w_loop (X := Int32) (fun i x H locs ls => match x with | x4 => (x4.toInt = p1.toInt + 1 + i ∧ x4.toInt ≤ 7200 ∧ nmG τ (ix p0) (rmF τ (ix p0) p1) (7300 - i) x4 = nmG τ (ix p0) (rmF τ (ix p0) p1) 7300 (p1 + 1)) ∧ SyS G ad σ n τ j 0 o od s H locs ∧ lv_has ls 6 [(4, .int x4), (3, .int (rmF τ (ix p0) p1)), (0, .ref (ad 5)), (1, .int p0), (2, .int p1)]) (7200) ?_ ?_ (p1 + 1) ⟨⟨by rw [i_add1 (by omega)]; show _ = _ + (0 : Int); omega, by rw [i_add1 (by omega)]; omega, rfl⟩, hY, lv_sub hl [0, 1, 2, 3, 4] rfl⟩
      · intro i x H locs ls hI ih
        obtain ⟨x4, rfl⟩ : ∃ z, z = x := ⟨_, rfl⟩
        obtain ⟨hI, hY, hl⟩ := hI
        obtain ⟨h9, h8, e⟩ := hI
        refine lv_iload hx hb dX2_nextChange_45 (lv_at hl 0 rfl) ?_
        refine lv_sipush (v := 7200) hx hb dX2_nextChange_47 (by decide) ?_
        refine b_icmp_ge (tgt := 88) hx hb dX2_nextChange_50 (by decide) (fun (h14 : 7200 ≤ x4.toInt) => ?_) (fun (h14 : x4.toInt < 7200) => ?_)
        · refine lv_iconst (v := (-1)) hx hb dX2_nextChange_88 (by decide) ?_
          have hf : 7300 - i = (7300 - (i + 1)) + 1 := by omega
          have hcd : cdLX j 7200 p0 p1 = 0 := by unfold cdLX; (repeat' split) <;> first | rfl | omega
          rw [hcd]
          exact g_iret hC hr hlocks hY ⟨Nat.le_of_ble_eq_true rfl, Nat.le_of_ble_eq_true rfl⟩ dX2_nextChange_89 (fun _ => by rw [← e, hf, nmG_s, if_neg (by omega)])
        · refine lv_iload hx hb dX2_nextChange_53 (lv_at hl 0 rfl) ?_
          refine lv_aload_n hx hb dX2_nextChange_55 rfl (lv_at hl 2 rfl) ?_
          refine gtM_tos hC hin2 hY (by decide +kernel) dX2_nextChange_56 ?_
          refine lv_iload_n hx hb dX2_nextChange_59 rfl (lv_at hl 3 rfl) ?_
          refine rdM5 hC hY ⟨by omega, by omega⟩ dX2_nextChange_60 ?_
          refine b_icmp_gt (tgt := 88) hx hb dX2_nextChange_61 (by decide) (fun (h15 : (τ 5 (ix p0)).toInt < x4.toInt) => ?_) (fun (h15 : x4.toInt ≤ (τ 5 (ix p0)).toInt) => ?_)
          · refine lv_iconst (v := (-1)) hx hb dX2_nextChange_88 (by decide) ?_
            have hf : 7300 - i = (7300 - (i + 1)) + 1 := by omega
            have hcd : cdLX j 7200 p0 p1 = 0 := by unfold cdLX; (repeat' split) <;> first | rfl | omega
            rw [hcd]
            exact g_iret hC hr hlocks hY ⟨Nat.le_of_ble_eq_true rfl, Nat.le_of_ble_eq_true rfl⟩ dX2_nextChange_89 (fun _ => by rw [← e, hf, nmG_s, if_neg (by omega)])
          · refine lv_aload_n hx hb dX2_nextChange_64 rfl (lv_at hl 2 rfl) ?_
            refine lv_iload_n hx hb dX2_nextChange_65 rfl (lv_at hl 3 rfl) ?_
            refine lv_iload hx hb dX2_nextChange_66 (lv_at hl 0 rfl) ?_
            refine g_calli hY (g_runV (n := 2) (q := (RX2, TX2, 17)) (r := 5) hC (c_X2_rentAt l G ad σ n τ j 0 o od hj hI hX p0 x4 h3) gX2_nextChange_X2_rentAt rfl ⟨rfl, rfl⟩ (by decide +kernel) ⟨Nat.le_of_ble_eq_true rfl, Nat.le_of_ble_eq_true rfl⟩ hY (by omega) rfl (ci := 2) rfl rfl hl.1 rfl (Nat.le_of_ble_eq_true rfl) dX2_nextChange_68 ⟨Nat.le_of_ble_eq_true rfl, Nat.le_of_ble_eq_true rfl⟩) (fun r16 H locs h17 hY => ?_)
            subst h17
            refine lv_istore (lv' := [(5, .int (rmF τ (ix p0) x4)), (4, .int x4), (3, .int (rmF τ (ix p0) p1)), (0, .ref (ad 5)), (1, .int p0), (2, .int p1)]) hx hb dX2_nextChange_71 hl (by decide) rfl (fun ls hl => ?_)
            refine lv_iload hx hb dX2_nextChange_73 (lv_at hl 0 rfl) ?_
            refine lv_iload_n hx hb dX2_nextChange_75 rfl (lv_at hl 2 rfl) ?_
            refine b_icmp_eq (tgt := 82) hx hb dX2_nextChange_76 (by decide) (fun (h18 : (rmF τ (ix p0) x4).toInt = (rmF τ (ix p0) p1).toInt) => ?_) (fun (h18 : ¬ (rmF τ (ix p0) x4).toInt = (rmF τ (ix p0) p1).toInt) => ?_)
            · refine lv_iinc (v := x4 + 1) (lv' := [(4, .int (x4 + 1)), (5, .int (rmF τ (ix p0) x4)), (3, .int (rmF τ (ix p0) p1)), (0, .ref (ad 5)), (1, .int p0), (2, .int p1)]) hx hb dX2_nextChange_82 hl (k := 1) rfl rfl (by decide) rfl (fun ls hl => ?_)
              refine lv_goto (tgt := 45) hx hb dX2_nextChange_85 (by decide) ?_
              have hf : 7300 - i = (7300 - (i + 1)) + 1 := by omega
              exact ih (x4 + 1) _ _ _ ⟨⟨by rw [i_add1 (by omega)]; omega, by rw [i_add1 (by omega)]; omega, by rw [← e, hf, nmG_s, if_pos (by omega), if_pos h18]⟩, hY, lv_sub hl [0, 2, 3, 4, 5] rfl⟩
            · refine lv_iload hx hb dX2_nextChange_79 (lv_at hl 1 rfl) ?_
              have hf : 7300 - i = (7300 - (i + 1)) + 1 := by omega
              have hcd : cdLX j 7200 p0 p1 = 0 := by unfold cdLX; (repeat' split) <;> first | rfl | omega
              rw [hcd]
              exact g_iret hC hr hlocks hY ⟨Nat.le_of_ble_eq_true rfl, Nat.le_of_ble_eq_true rfl⟩ dX2_nextChange_81 (fun _ => by rw [← e, hf, nmG_s, if_pos (by omega), if_neg h18])
      · intro i x H locs ls hI
        obtain ⟨x4, rfl⟩ : ∃ z, z = x := ⟨_, rfl⟩
        obtain ⟨hI, -, -⟩ := hI
        obtain ⟨h9, h8, e⟩ := hI
        omega
    · refine b_if_eq (tgt := 24) hx hb dX2_nextChange_17 (by decide) (fun _ => ?_) (fun h => absurd h (by decide))
      refine lv_iconst (v := 1) hx hb dX2_nextChange_24 (by decide) ?_
      refine g_calli hY (g_runV (n := 1) (q := (RX2, TX2, 17)) (r := 5) hC (c_X2_holds l G ad σ n τ j th o od 1) gX2_nextChange_X2_holds rfl ⟨rfl, rfl⟩ (by decide +kernel) ⟨Nat.le_of_ble_eq_true rfl, Nat.le_of_ble_eq_true rfl⟩ hY (by omega) rfl (ci := 2) rfl rfl hl.1 rfl (Nat.le_of_ble_eq_true rfl) dX2_nextChange_25 ⟨Nat.le_of_ble_eq_true rfl, Nat.le_of_ble_eq_true rfl⟩) (fun r20 H locs h21 hY => ?_)
      obtain ⟨rfl, -⟩ := h21.resolve_left (fun q => absurd q.2 (by decide))
      refine b_if_ne (tgt := 33) hx hb dX2_nextChange_28 (by decide) (fun h => absurd h (by decide)) (fun _ => ?_)
      refine lv_iconst (v := 0) hx hb dX2_nextChange_31 (by decide) ?_
      have hcd : cdLX j 7200 p0 p1 = 1 := by unfold cdLX; (repeat' split) <;> first | rfl | omega
      rw [hcd]
      exact g_iret hC hr hlocks hY ⟨Nat.le_of_ble_eq_true rfl, Nat.le_of_ble_eq_true rfl⟩ dX2_nextChange_32 (fun q => absurd q (by decide))
  · refine b_if_eq (tgt := 24) hx hb dX2_nextChange_6 (by decide) (fun _ => ?_) (fun h => absurd h (by decide))
    refine lv_iconst (v := 1) hx hb dX2_nextChange_24 (by decide) ?_
    refine g_calli hY (g_runV (n := 1) (q := (RX2, TX2, 17)) (r := 5) hC (c_X2_holds l G ad σ n τ j th o od 1) gX2_nextChange_X2_holds rfl ⟨rfl, rfl⟩ (by decide +kernel) ⟨Nat.le_of_ble_eq_true rfl, Nat.le_of_ble_eq_true rfl⟩ hY (by omega) rfl (ci := 2) rfl rfl hl.1 rfl (Nat.le_of_ble_eq_true rfl) dX2_nextChange_25 ⟨Nat.le_of_ble_eq_true rfl, Nat.le_of_ble_eq_true rfl⟩) (fun r24 H locs h25 hY => ?_)
    obtain ⟨rfl, -⟩ := h25.resolve_left (fun q => absurd q.2 (by decide))
    refine b_if_ne (tgt := 33) hx hb dX2_nextChange_28 (by decide) (fun h => absurd h (by decide)) (fun _ => ?_)
    refine lv_iconst (v := 0) hx hb dX2_nextChange_31 (by decide) ?_
    have hcd : cdLX j 7200 p0 p1 = 1 := by unfold cdLX; (repeat' split) <;> first | rfl | omega
    rw [hcd]
    exact g_iret hC hr hlocks hY ⟨Nat.le_of_ble_eq_true rfl, Nat.le_of_ble_eq_true rfl⟩ dX2_nextChange_32 (fun q => absurd q (by decide))

def vmP (σ : St) (u y : Int32) : Nat → Int32
  | 0 => 360
  | i + 1 => if (σ 3 i).toInt = u.toInt then vmP σ u y i - dmF σ i y else vmP σ u y i - 0
def omP (σ : St) (y : Int32) : Nat → Int32
  | 0 => σ 2 (ix y)
  | i + 1 => omP σ y i - pmF σ i y
set_option maxHeartbeats 4000000 in
set_option maxRecDepth 100000 in
theorem c_X2_voids (l : Launch) (G : GG) (ad : Nat → Nat) (σ : St) (n : Nat) (τ : St) (j : Nat) (th : Int32) (o : OL) (od : OD) (hj : j ≤ 24) (p0 p1 : Int32)  : Met l yX2_voids wsX2_voids ({ frames := 4, cells := 0, slots := 0, locals := 120 }) (PcS G ad σ n τ j th o od [.ref (ad 5), .int p0, .int p1]) (Qi G (3 * n + 23) ad (ctS G ad σ n τ j (cdUX 6 20 p0 p1) o od) (fun r => cdUX 6 20 p0 p1 = 0 → r = vmP τ p0 p1 j)) 0 0 (gF G) := by
  refine Met.ofW (cc := cX2_voids) (maxL := 5) (ret := (some .int)) (by decide) rfl ?_
  intro p e s m args below meth c s₁ B hml hv
  obtain ⟨rfl, hY⟩ := hv
  have hts := atoms_spec (ws := wsX2_voids) B.pre
  have hC : CallFix p m c cX2_voids 5 s _ wsX2_voids RX2 := ⟨B.exec, B.bytes, hml, findClass_of_methodNamed B.named, hts⟩
  have hx := hC.1
  have hb := hC.2.1
  have hr := B.returns
  have hlocks := B.notSynchronized
  have hin2 : ∀ w ∈ wsX20, w ∈ wsX2_voids := by decide +kernel
  have hl := lv_entry ([.ref (ad 5), .int p0, .int p1]) (n := 5) (Nat.le_of_ble_eq_true rfl)
  rw [lg_entry_eq]
  generalize (lg_sl ([.ref (ad 5), .int p0, .int p1]) ++ List.replicate (5 - (lg_sl ([.ref (ad 5), .int p0, .int p1])).length) Slot.unset).toArray = ls at hl ⊢
  have hl : lv_has ls 5 [(0, .ref (ad 5)), (1, .int p0), (2, .int p1)] := hl
  have hnj : (nI j).toInt = (j : Int) := i_nI (by omega)
  refine lv_aload_n hx hb dX2_voids_0 rfl (lv_at hl 0 rfl) ?_
  refine lv_iload_n hx hb dX2_voids_1 rfl (lv_at hl 1 rfl) ?_
  refine lv_iconst (v := 0) hx hb dX2_voids_2 (by decide) ?_
  refine lv_iconst (v := 5) hx hb dX2_voids_3 (by decide) ?_
  refine g_calli hY (g_runS (n := 3) hC (c_X2_isIn l G ad σ n τ j th o od p0 0 5 0 5 rfl rfl) gX2_voids_X2_isIn rfl ⟨rfl, rfl⟩ (by decide +kernel) ⟨Nat.le_of_ble_eq_true rfl, Nat.le_of_ble_eq_true rfl⟩ hY rfl hl.1 rfl (Nat.le_of_ble_eq_true rfl) dX2_voids_4 ⟨Nat.le_of_ble_eq_true rfl, Nat.le_of_ble_eq_true rfl⟩) (fun r1 H locs h2 hY => ?_)
  rcases h2 with ⟨rfl, h3⟩ | ⟨rfl, h3⟩
  · refine b_if_eq (tgt := 24) hx hb dX2_voids_7 (by decide) (fun h => absurd h (by decide)) (fun _ => ?_)
    refine lv_iload_n hx hb dX2_voids_10 rfl (lv_at hl 2 rfl) ?_
    refine lv_iconst (v := 0) hx hb dX2_voids_11 (by decide) ?_
    refine lv_bipush (v := 19) hx hb dX2_voids_12 (by decide) ?_
    refine g_calli hY (g_runS (n := 3) hC (c_X2_isIn l G ad σ n τ j th o od p1 0 19 0 19 rfl rfl) gX2_voids_X2_isIn rfl ⟨rfl, rfl⟩ (by decide +kernel) ⟨Nat.le_of_ble_eq_true rfl, Nat.le_of_ble_eq_true rfl⟩ hY rfl hl.1 rfl (Nat.le_of_ble_eq_true rfl) dX2_voids_14 ⟨Nat.le_of_ble_eq_true rfl, Nat.le_of_ble_eq_true rfl⟩) (fun r5 H locs h6 hY => ?_)
    rcases h6 with ⟨rfl, h7⟩ | ⟨rfl, h7⟩
    · refine b_if_eq (tgt := 24) hx hb dX2_voids_17 (by decide) (fun h => absurd h (by decide)) (fun _ => ?_)
      refine lv_iconst (v := 0) hx hb dX2_voids_20 (by decide) ?_
      refine lv_goto (tgt := 25) hx hb dX2_voids_21 (by decide) ?_
      refine g_calli hY (g_runV (n := 1) (q := (RX2, TX2, 17)) (r := 5) hC (c_X2_holds l G ad σ n τ j th o od 0) gX2_voids_X2_holds rfl ⟨rfl, rfl⟩ (by decide +kernel) ⟨Nat.le_of_ble_eq_true rfl, Nat.le_of_ble_eq_true rfl⟩ hY (by omega) rfl (ci := 2) rfl rfl hl.1 rfl (Nat.le_of_ble_eq_true rfl) dX2_voids_25 ⟨Nat.le_of_ble_eq_true rfl, Nat.le_of_ble_eq_true rfl⟩) (fun r9 H locs h10 hY => ?_)
      obtain ⟨rfl, -⟩ := h10.resolve_right (fun q => q.2 rfl)
      refine b_if_ne (tgt := 33) hx hb dX2_voids_28 (by decide) (fun _ => ?_) (fun h => absurd h (by decide))
      refine lv_sipush (v := 360) hx hb dX2_voids_33 (by decide) ?_
      refine lv_istore_n (lv' := [(3, .int 360), (0, .ref (ad 5)), (1, .int p0), (2, .int p1)]) hx hb dX2_voids_36 rfl hl (by decide) rfl (fun ls hl => ?_)
      refine lv_iconst (v := 0) hx hb dX2_voids_37 (by decide) ?_
      refine lv_istore (lv' := [(4, .int 0), (3, .int 360), (0, .ref (ad 5)), (1, .int p0), (2, .int p1)]) hx hb dX2_voids_38 hl (by decide) rfl (fun ls hl => ?_)
      refine w_loop (X := Int32 × Int32) (fun i x H locs ls => match x with | (x4, x3) => (x4.toInt = i ∧ i ≤ j ∧ x3 = vmP τ p0 p1 i) ∧ SyS G ad σ n τ j 0 o od s H locs ∧ lv_has ls 5 [(4, .int x4), (3, .int x3), (0, .ref (ad 5)), (1, .int p0), (2, .int p1)]) (24) ?_ ?_ ((0, 360)) ⟨⟨rfl, Nat.zero_le _, rfl⟩, hY, lv_sub hl [0, 1, 2, 3, 4] rfl⟩
      · intro i x H locs ls hI ih
        obtain ⟨x4, x3⟩ := x
        obtain ⟨hI, hY, hl⟩ := hI
        obtain ⟨h9, h8, e⟩ := hI
        refine lv_iload hx hb dX2_voids_40 (lv_at hl 0 rfl) ?_
        refine lv_aload_n hx hb dX2_voids_42 rfl (lv_at hl 2 rfl) ?_
        refine gtM_leases hC hin2 hY (by decide +kernel) dX2_voids_43 ?_
        refine b_icmp_ge (tgt := 80) hx hb dX2_voids_46 (by decide) (fun (h12 : (nI j).toInt ≤ x4.toInt) => ?_) (fun (h12 : x4.toInt < (nI j).toInt) => ?_)
        · refine lv_iload_n hx hb dX2_voids_80 rfl (lv_at hl 1 rfl) ?_
          have hcd : cdUX 6 20 p0 p1 = 0 := by unfold cdUX; (repeat' split) <;> first | rfl | omega
          rw [hcd]
          exact g_iret hC hr hlocks hY ⟨Nat.le_of_ble_eq_true rfl, Nat.le_of_ble_eq_true rfl⟩ dX2_voids_81 (fun _ => by rw [show j = i by omega, ← e])
        · refine lv_iload_n hx hb dX2_voids_49 rfl (lv_at hl 1 rfl) ?_
          refine lv_aload_n hx hb dX2_voids_50 rfl (lv_at hl 2 rfl) ?_
          refine gtM_units hC hin2 hY (by decide +kernel) dX2_voids_51 ?_
          refine lv_iload hx hb dX2_voids_54 (lv_at hl 0 rfl) ?_
          refine rdM3 hC hY ⟨by omega, by omega⟩ dX2_voids_56 ?_
          refine lv_iload_n hx hb dX2_voids_57 rfl (lv_at hl 3 rfl) ?_
          refine b_icmp_ne (tgt := 71) hx hb dX2_voids_58 (by decide) (fun (h13 : ¬ (τ 3 (ix x4)).toInt = p0.toInt) => ?_) (fun (h13 : (τ 3 (ix x4)).toInt = p0.toInt) => ?_)
          · refine lv_iconst (v := 0) hx hb dX2_voids_71 (by decide) ?_
            refine lv_isub hx hb dX2_voids_72 ?_
            refine lv_istore_n (lv' := [(3, .int (x3 - 0)), (4, .int x4), (0, .ref (ad 5)), (1, .int p0), (2, .int p1)]) hx hb dX2_voids_73 rfl hl (by decide) rfl (fun ls hl => ?_)
            refine lv_iinc (v := x4 + 1) (lv' := [(4, .int (x4 + 1)), (3, .int (x3 - 0)), (0, .ref (ad 5)), (1, .int p0), (2, .int p1)]) hx hb dX2_voids_74 hl (k := 1) rfl rfl (by decide) rfl (fun ls hl => ?_)
            refine lv_goto (tgt := 40) hx hb dX2_voids_77 (by decide) ?_
            have hix : ix x4 = i := i_ix h9
            exact ih (x4 + 1, x3 - 0) _ _ _ ⟨⟨by rw [i_add (by have : (1 : Int32).toInt = 1 := rfl; omega)]; have : (1 : Int32).toInt = 1 := rfl; omega, by omega, by rw [vmP, if_neg (by rw [← hix]; exact h13), ← e]⟩, hY, lv_sub hl [0, 1, 2, 3, 4] rfl⟩
          · refine lv_aload_n hx hb dX2_voids_61 rfl (lv_at hl 2 rfl) ?_
            refine lv_iload hx hb dX2_voids_62 (lv_at hl 0 rfl) ?_
            refine lv_iload_n hx hb dX2_voids_64 rfl (lv_at hl 4 rfl) ?_
            refine g_calli hY (g_runV (n := 2) (q := (RX2, TX2, 17)) (r := 5) hC (c_X2_daysIn l G ad σ n τ j 0 o od hj x4 p1 ⟨by omega, by omega⟩) gX2_voids_X2_daysIn rfl ⟨rfl, rfl⟩ (by decide +kernel) ⟨Nat.le_of_ble_eq_true rfl, Nat.le_of_ble_eq_true rfl⟩ hY (by omega) rfl (ci := 2) rfl rfl hl.1 rfl (Nat.le_of_ble_eq_true rfl) dX2_voids_65 ⟨Nat.le_of_ble_eq_true rfl, Nat.le_of_ble_eq_true rfl⟩) (fun r14 H locs h15 hY => ?_)
            subst h15
            refine lv_goto (tgt := 72) hx hb dX2_voids_68 (by decide) ?_
            refine lv_isub hx hb dX2_voids_72 ?_
            refine lv_istore_n (lv' := [(3, .int (x3 - (dmF τ (ix x4) p1))), (4, .int x4), (0, .ref (ad 5)), (1, .int p0), (2, .int p1)]) hx hb dX2_voids_73 rfl hl (by decide) rfl (fun ls hl => ?_)
            refine lv_iinc (v := x4 + 1) (lv' := [(4, .int (x4 + 1)), (3, .int (x3 - (dmF τ (ix x4) p1))), (0, .ref (ad 5)), (1, .int p0), (2, .int p1)]) hx hb dX2_voids_74 hl (k := 1) rfl rfl (by decide) rfl (fun ls hl => ?_)
            refine lv_goto (tgt := 40) hx hb dX2_voids_77 (by decide) ?_
            have hix : ix x4 = i := i_ix h9
            exact ih (x4 + 1, x3 - (dmF τ (ix x4) p1)) _ _ _ ⟨⟨by rw [i_add (by have : (1 : Int32).toInt = 1 := rfl; omega)]; have : (1 : Int32).toInt = 1 := rfl; omega, by omega, by rw [vmP, if_pos (by rw [← hix]; exact h13), ← e, ← hix]⟩, hY, lv_sub hl [0, 1, 2, 3, 4] rfl⟩
      · intro i x H locs ls hI
        obtain ⟨x4, x3⟩ := x
        obtain ⟨hI, -, -⟩ := hI
        obtain ⟨h9, h8, e⟩ := hI
        omega
    · refine b_if_eq (tgt := 24) hx hb dX2_voids_17 (by decide) (fun _ => ?_) (fun h => absurd h (by decide))
      refine lv_iconst (v := 1) hx hb dX2_voids_24 (by decide) ?_
      refine g_calli hY (g_runV (n := 1) (q := (RX2, TX2, 17)) (r := 5) hC (c_X2_holds l G ad σ n τ j th o od 1) gX2_voids_X2_holds rfl ⟨rfl, rfl⟩ (by decide +kernel) ⟨Nat.le_of_ble_eq_true rfl, Nat.le_of_ble_eq_true rfl⟩ hY (by omega) rfl (ci := 2) rfl rfl hl.1 rfl (Nat.le_of_ble_eq_true rfl) dX2_voids_25 ⟨Nat.le_of_ble_eq_true rfl, Nat.le_of_ble_eq_true rfl⟩) (fun r17 H locs h18 hY => ?_)
      obtain ⟨rfl, -⟩ := h18.resolve_left (fun q => absurd q.2 (by decide))
      refine b_if_ne (tgt := 33) hx hb dX2_voids_28 (by decide) (fun h => absurd h (by decide)) (fun _ => ?_)
      refine lv_iconst (v := 0) hx hb dX2_voids_31 (by decide) ?_
      have hcd : cdUX 6 20 p0 p1 = 1 := by unfold cdUX; (repeat' split) <;> first | rfl | omega
      rw [hcd]
      exact g_iret hC hr hlocks hY ⟨Nat.le_of_ble_eq_true rfl, Nat.le_of_ble_eq_true rfl⟩ dX2_voids_32 (fun q => absurd q (by decide))
  · refine b_if_eq (tgt := 24) hx hb dX2_voids_7 (by decide) (fun _ => ?_) (fun h => absurd h (by decide))
    refine lv_iconst (v := 1) hx hb dX2_voids_24 (by decide) ?_
    refine g_calli hY (g_runV (n := 1) (q := (RX2, TX2, 17)) (r := 5) hC (c_X2_holds l G ad σ n τ j th o od 1) gX2_voids_X2_holds rfl ⟨rfl, rfl⟩ (by decide +kernel) ⟨Nat.le_of_ble_eq_true rfl, Nat.le_of_ble_eq_true rfl⟩ hY (by omega) rfl (ci := 2) rfl rfl hl.1 rfl (Nat.le_of_ble_eq_true rfl) dX2_voids_25 ⟨Nat.le_of_ble_eq_true rfl, Nat.le_of_ble_eq_true rfl⟩) (fun r21 H locs h22 hY => ?_)
    obtain ⟨rfl, -⟩ := h22.resolve_left (fun q => absurd q.2 (by decide))
    refine b_if_ne (tgt := 33) hx hb dX2_voids_28 (by decide) (fun h => absurd h (by decide)) (fun _ => ?_)
    refine lv_iconst (v := 0) hx hb dX2_voids_31 (by decide) ?_
    have hcd : cdUX 6 20 p0 p1 = 1 := by unfold cdUX; (repeat' split) <;> first | rfl | omega
    rw [hcd]
    exact g_iret hC hr hlocks hY ⟨Nat.le_of_ble_eq_true rfl, Nat.le_of_ble_eq_true rfl⟩ dX2_voids_32 (fun q => absurd q (by decide))

set_option maxHeartbeats 4000000 in
set_option maxRecDepth 100000 in
theorem c_X2_part (l : Launch) (G : GG) (ad : Nat → Nat) (σ : St) (n : Nat) (τ : St) (j : Nat) (th : Int32) (o : OL) (od : OD) (hj : j ≤ 24) (hI : ∀ k, k < j → okL τ k) (p0 p1 : Int32)  : Met l yX2_part wsX2_part ({ frames := 4, cells := 0, slots := 0, locals := 120 }) (PcS G ad σ n τ j th o od [.ref (ad 5), .int p0, .int p1]) (Qi G (3 * n + 23) ad (ctS G ad σ n τ j (cdLX j 20 p0 p1) o od) (fun r => cdLX j 20 p0 p1 = 0 → r = pmF τ (ix p0) p1)) 0 0 (gF G) := by
  refine Met.ofW (cc := cX2_part) (maxL := 3) (ret := (some .int)) (by decide) rfl ?_
  intro p e s m args below meth c s₁ B hml hv
  obtain ⟨rfl, hY⟩ := hv
  have hts := atoms_spec (ws := wsX2_part) B.pre
  have hC : CallFix p m c cX2_part 3 s _ wsX2_part RX2 := ⟨B.exec, B.bytes, hml, findClass_of_methodNamed B.named, hts⟩
  have hx := hC.1
  have hb := hC.2.1
  have hr := B.returns
  have hlocks := B.notSynchronized
  have hin2 : ∀ w ∈ wsX20, w ∈ wsX2_part := by decide +kernel
  have hl := lv_entry ([.ref (ad 5), .int p0, .int p1]) (n := 3) (Nat.le_of_ble_eq_true rfl)
  rw [lg_entry_eq]
  generalize (lg_sl ([.ref (ad 5), .int p0, .int p1]) ++ List.replicate (3 - (lg_sl ([.ref (ad 5), .int p0, .int p1])).length) Slot.unset).toArray = ls at hl ⊢
  have hl : lv_has ls 3 [(0, .ref (ad 5)), (1, .int p0), (2, .int p1)] := hl
  have hnj : (nI j).toInt = (j : Int) := i_nI (by omega)
  refine lv_aload_n hx hb dX2_part_0 rfl (lv_at hl 0 rfl) ?_
  refine lv_aload_n hx hb dX2_part_1 rfl (lv_at hl 0 rfl) ?_
  refine lv_iload_n hx hb dX2_part_2 rfl (lv_at hl 1 rfl) ?_
  refine g_calli hY (g_runV (n := 1) (q := (RX2, TX2, 17)) (r := 5) hC (c_X2_isLease l G ad σ n τ j th o od hj p0) gX2_part_X2_isLease rfl ⟨rfl, rfl⟩ (by decide +kernel) ⟨Nat.le_of_ble_eq_true rfl, Nat.le_of_ble_eq_true rfl⟩ hY (by omega) rfl (ci := 2) rfl rfl hl.1 rfl (Nat.le_of_ble_eq_true rfl) dX2_part_3 ⟨Nat.le_of_ble_eq_true rfl, Nat.le_of_ble_eq_true rfl⟩) (fun r1 H locs h2 hY => ?_)
  rcases h2 with ⟨rfl, h3⟩ | ⟨rfl, h3⟩
  · refine b_if_eq (tgt := 23) hx hb dX2_part_6 (by decide) (fun h => absurd h (by decide)) (fun _ => ?_)
    refine lv_iload_n hx hb dX2_part_9 rfl (lv_at hl 2 rfl) ?_
    refine lv_iconst (v := 0) hx hb dX2_part_10 (by decide) ?_
    refine lv_bipush (v := 19) hx hb dX2_part_11 (by decide) ?_
    refine g_calli hY (g_runS (n := 3) hC (c_X2_isIn l G ad σ n τ j th o od p1 0 19 0 19 rfl rfl) gX2_part_X2_isIn rfl ⟨rfl, rfl⟩ (by decide +kernel) ⟨Nat.le_of_ble_eq_true rfl, Nat.le_of_ble_eq_true rfl⟩ hY rfl hl.1 rfl (Nat.le_of_ble_eq_true rfl) dX2_part_13 ⟨Nat.le_of_ble_eq_true rfl, Nat.le_of_ble_eq_true rfl⟩) (fun r5 H locs h6 hY => ?_)
    rcases h6 with ⟨rfl, h7⟩ | ⟨rfl, h7⟩
    · refine b_if_eq (tgt := 23) hx hb dX2_part_16 (by decide) (fun h => absurd h (by decide)) (fun _ => ?_)
      refine lv_iconst (v := 0) hx hb dX2_part_19 (by decide) ?_
      refine lv_goto (tgt := 24) hx hb dX2_part_20 (by decide) ?_
      refine g_calli hY (g_runV (n := 1) (q := (RX2, TX2, 17)) (r := 5) hC (c_X2_holds l G ad σ n τ j th o od 0) gX2_part_X2_holds rfl ⟨rfl, rfl⟩ (by decide +kernel) ⟨Nat.le_of_ble_eq_true rfl, Nat.le_of_ble_eq_true rfl⟩ hY (by omega) rfl (ci := 2) rfl rfl hl.1 rfl (Nat.le_of_ble_eq_true rfl) dX2_part_24 ⟨Nat.le_of_ble_eq_true rfl, Nat.le_of_ble_eq_true rfl⟩) (fun r9 H locs h10 hY => ?_)
      obtain ⟨rfl, -⟩ := h10.resolve_right (fun q => q.2 rfl)
      refine b_if_eq (tgt := 39) hx hb dX2_part_27 (by decide) (fun h => absurd h (by decide)) (fun _ => ?_)
      refine lv_aload_n hx hb dX2_part_30 rfl (lv_at hl 0 rfl) ?_
      refine lv_iload_n hx hb dX2_part_31 rfl (lv_at hl 1 rfl) ?_
      refine lv_iload_n hx hb dX2_part_32 rfl (lv_at hl 2 rfl) ?_
      refine g_calli hY (g_runV (n := 2) (q := (RX2, TX2, 17)) (r := 5) hC (c_X2_partOf l G ad σ n τ j 0 o od hj hI p0 p1 ⟨by omega, by omega⟩ h3) gX2_part_X2_partOf rfl ⟨rfl, rfl⟩ (by decide +kernel) ⟨Nat.le_of_ble_eq_true rfl, Nat.le_of_ble_eq_true rfl⟩ hY (by omega) rfl (ci := 2) rfl rfl hl.1 rfl (Nat.le_of_ble_eq_true rfl) dX2_part_33 ⟨Nat.le_of_ble_eq_true rfl, Nat.le_of_ble_eq_true rfl⟩) (fun r12 H locs h13 hY => ?_)
      subst h13
      refine lv_goto (tgt := 40) hx hb dX2_part_36 (by decide) ?_
      have hcd : cdLX j 20 p0 p1 = 0 := by unfold cdLX; (repeat' split) <;> first | rfl | omega
      rw [hcd]
      exact g_iret hC hr hlocks hY ⟨Nat.le_of_ble_eq_true rfl, Nat.le_of_ble_eq_true rfl⟩ dX2_part_40 (fun _ => rfl)
    · refine b_if_eq (tgt := 23) hx hb dX2_part_16 (by decide) (fun _ => ?_) (fun h => absurd h (by decide))
      refine lv_iconst (v := 1) hx hb dX2_part_23 (by decide) ?_
      refine g_calli hY (g_runV (n := 1) (q := (RX2, TX2, 17)) (r := 5) hC (c_X2_holds l G ad σ n τ j th o od 1) gX2_part_X2_holds rfl ⟨rfl, rfl⟩ (by decide +kernel) ⟨Nat.le_of_ble_eq_true rfl, Nat.le_of_ble_eq_true rfl⟩ hY (by omega) rfl (ci := 2) rfl rfl hl.1 rfl (Nat.le_of_ble_eq_true rfl) dX2_part_24 ⟨Nat.le_of_ble_eq_true rfl, Nat.le_of_ble_eq_true rfl⟩) (fun r15 H locs h16 hY => ?_)
      obtain ⟨rfl, -⟩ := h16.resolve_left (fun q => absurd q.2 (by decide))
      refine b_if_eq (tgt := 39) hx hb dX2_part_27 (by decide) (fun _ => ?_) (fun h => absurd h (by decide))
      refine lv_iconst (v := 0) hx hb dX2_part_39 (by decide) ?_
      have hcd : cdLX j 20 p0 p1 = 1 := by unfold cdLX; (repeat' split) <;> first | rfl | omega
      rw [hcd]
      exact g_iret hC hr hlocks hY ⟨Nat.le_of_ble_eq_true rfl, Nat.le_of_ble_eq_true rfl⟩ dX2_part_40 (fun q => absurd q (by decide))
  · refine b_if_eq (tgt := 23) hx hb dX2_part_6 (by decide) (fun _ => ?_) (fun h => absurd h (by decide))
    refine lv_iconst (v := 1) hx hb dX2_part_23 (by decide) ?_
    refine g_calli hY (g_runV (n := 1) (q := (RX2, TX2, 17)) (r := 5) hC (c_X2_holds l G ad σ n τ j th o od 1) gX2_part_X2_holds rfl ⟨rfl, rfl⟩ (by decide +kernel) ⟨Nat.le_of_ble_eq_true rfl, Nat.le_of_ble_eq_true rfl⟩ hY (by omega) rfl (ci := 2) rfl rfl hl.1 rfl (Nat.le_of_ble_eq_true rfl) dX2_part_24 ⟨Nat.le_of_ble_eq_true rfl, Nat.le_of_ble_eq_true rfl⟩) (fun r19 H locs h20 hY => ?_)
    obtain ⟨rfl, -⟩ := h20.resolve_left (fun q => absurd q.2 (by decide))
    refine b_if_eq (tgt := 39) hx hb dX2_part_27 (by decide) (fun _ => ?_) (fun h => absurd h (by decide))
    refine lv_iconst (v := 0) hx hb dX2_part_39 (by decide) ?_
    have hcd : cdLX j 20 p0 p1 = 1 := by unfold cdLX; (repeat' split) <;> first | rfl | omega
    rw [hcd]
    exact g_iret hC hr hlocks hY ⟨Nat.le_of_ble_eq_true rfl, Nat.le_of_ble_eq_true rfl⟩ dX2_part_40 (fun q => absurd q (by decide))

set_option maxHeartbeats 4000000 in
set_option maxRecDepth 100000 in
theorem c_X2_balance (l : Launch) (G : GG) (ad : Nat → Nat) (σ : St) (n : Nat) (τ : St) (j : Nat) (th : Int32) (o : OL) (od : OD) (hj : j ≤ 24) (hI : ∀ k, k < j → okL τ k) (p0 p1 : Int32)  : Met l yX2_balance wsX2_balance ({ frames := 4, cells := 0, slots := 0, locals := 120 }) (PcS G ad σ n τ j th o od [.ref (ad 5), .int p0, .int p1]) (Qi G (3 * n + 23) ad (ctS G ad σ n τ j (cdLX j 20 p0 p1) o od) (fun r => cdLX j 20 p0 p1 = 0 → r = pmF τ (ix p0) p1 - τ 10 (ix p0) * dmF τ (ix p0) p1 / 30)) 0 0 (gF G) := by
  refine Met.ofW (cc := cX2_balance) (maxL := 3) (ret := (some .int)) (by decide) rfl ?_
  intro p e s m args below meth c s₁ B hml hv
  obtain ⟨rfl, hY⟩ := hv
  have hts := atoms_spec (ws := wsX2_balance) B.pre
  have hC : CallFix p m c cX2_balance 3 s _ wsX2_balance RX2 := ⟨B.exec, B.bytes, hml, findClass_of_methodNamed B.named, hts⟩
  have hx := hC.1
  have hb := hC.2.1
  have hr := B.returns
  have hlocks := B.notSynchronized
  have hin2 : ∀ w ∈ wsX20, w ∈ wsX2_balance := by decide +kernel
  have hl := lv_entry ([.ref (ad 5), .int p0, .int p1]) (n := 3) (Nat.le_of_ble_eq_true rfl)
  rw [lg_entry_eq]
  generalize (lg_sl ([.ref (ad 5), .int p0, .int p1]) ++ List.replicate (3 - (lg_sl ([.ref (ad 5), .int p0, .int p1])).length) Slot.unset).toArray = ls at hl ⊢
  have hl : lv_has ls 3 [(0, .ref (ad 5)), (1, .int p0), (2, .int p1)] := hl
  have hnj : (nI j).toInt = (j : Int) := i_nI (by omega)
  refine lv_aload_n hx hb dX2_balance_0 rfl (lv_at hl 0 rfl) ?_
  refine lv_aload_n hx hb dX2_balance_1 rfl (lv_at hl 0 rfl) ?_
  refine lv_iload_n hx hb dX2_balance_2 rfl (lv_at hl 1 rfl) ?_
  refine g_calli hY (g_runV (n := 1) (q := (RX2, TX2, 17)) (r := 5) hC (c_X2_isLease l G ad σ n τ j th o od hj p0) gX2_balance_X2_isLease rfl ⟨rfl, rfl⟩ (by decide +kernel) ⟨Nat.le_of_ble_eq_true rfl, Nat.le_of_ble_eq_true rfl⟩ hY (by omega) rfl (ci := 2) rfl rfl hl.1 rfl (Nat.le_of_ble_eq_true rfl) dX2_balance_3 ⟨Nat.le_of_ble_eq_true rfl, Nat.le_of_ble_eq_true rfl⟩) (fun r1 H locs h2 hY => ?_)
  rcases h2 with ⟨rfl, h3⟩ | ⟨rfl, h3⟩
  · refine b_if_eq (tgt := 23) hx hb dX2_balance_6 (by decide) (fun h => absurd h (by decide)) (fun _ => ?_)
    refine lv_iload_n hx hb dX2_balance_9 rfl (lv_at hl 2 rfl) ?_
    refine lv_iconst (v := 0) hx hb dX2_balance_10 (by decide) ?_
    refine lv_bipush (v := 19) hx hb dX2_balance_11 (by decide) ?_
    refine g_calli hY (g_runS (n := 3) hC (c_X2_isIn l G ad σ n τ j th o od p1 0 19 0 19 rfl rfl) gX2_balance_X2_isIn rfl ⟨rfl, rfl⟩ (by decide +kernel) ⟨Nat.le_of_ble_eq_true rfl, Nat.le_of_ble_eq_true rfl⟩ hY rfl hl.1 rfl (Nat.le_of_ble_eq_true rfl) dX2_balance_13 ⟨Nat.le_of_ble_eq_true rfl, Nat.le_of_ble_eq_true rfl⟩) (fun r5 H locs h6 hY => ?_)
    rcases h6 with ⟨rfl, h7⟩ | ⟨rfl, h7⟩
    · refine b_if_eq (tgt := 23) hx hb dX2_balance_16 (by decide) (fun h => absurd h (by decide)) (fun _ => ?_)
      refine lv_iconst (v := 0) hx hb dX2_balance_19 (by decide) ?_
      refine lv_goto (tgt := 24) hx hb dX2_balance_20 (by decide) ?_
      refine g_calli hY (g_runV (n := 1) (q := (RX2, TX2, 17)) (r := 5) hC (c_X2_holds l G ad σ n τ j th o od 0) gX2_balance_X2_holds rfl ⟨rfl, rfl⟩ (by decide +kernel) ⟨Nat.le_of_ble_eq_true rfl, Nat.le_of_ble_eq_true rfl⟩ hY (by omega) rfl (ci := 2) rfl rfl hl.1 rfl (Nat.le_of_ble_eq_true rfl) dX2_balance_24 ⟨Nat.le_of_ble_eq_true rfl, Nat.le_of_ble_eq_true rfl⟩) (fun r9 H locs h10 hY => ?_)
      obtain ⟨rfl, -⟩ := h10.resolve_right (fun q => q.2 rfl)
      refine b_if_ne (tgt := 32) hx hb dX2_balance_27 (by decide) (fun _ => ?_) (fun h => absurd h (by decide))
      refine lv_aload_n hx hb dX2_balance_32 rfl (lv_at hl 0 rfl) ?_
      refine lv_iload_n hx hb dX2_balance_33 rfl (lv_at hl 1 rfl) ?_
      refine lv_iload_n hx hb dX2_balance_34 rfl (lv_at hl 2 rfl) ?_
      refine g_calli hY (g_runV (n := 2) (q := (RX2, TX2, 17)) (r := 5) hC (c_X2_partOf l G ad σ n τ j 0 o od hj hI p0 p1 ⟨by omega, by omega⟩ h3) gX2_balance_X2_partOf rfl ⟨rfl, rfl⟩ (by decide +kernel) ⟨Nat.le_of_ble_eq_true rfl, Nat.le_of_ble_eq_true rfl⟩ hY (by omega) rfl (ci := 2) rfl rfl hl.1 rfl (Nat.le_of_ble_eq_true rfl) dX2_balance_35 ⟨Nat.le_of_ble_eq_true rfl, Nat.le_of_ble_eq_true rfl⟩) (fun r12 H locs h13 hY => ?_)
      subst h13
      refine lv_aload_n hx hb dX2_balance_38 rfl (lv_at hl 0 rfl) ?_
      refine gtM_prepaids hC hin2 hY (by decide +kernel) dX2_balance_39 ?_
      refine lv_iload_n hx hb dX2_balance_42 rfl (lv_at hl 1 rfl) ?_
      refine rdM10 hC hY ⟨by omega, by omega⟩ dX2_balance_43 ?_
      refine lv_aload_n hx hb dX2_balance_44 rfl (lv_at hl 0 rfl) ?_
      refine lv_iload_n hx hb dX2_balance_45 rfl (lv_at hl 1 rfl) ?_
      refine lv_iload_n hx hb dX2_balance_46 rfl (lv_at hl 2 rfl) ?_
      refine g_calli hY (g_runV (n := 2) (q := (RX2, TX2, 17)) (r := 5) hC (c_X2_daysIn l G ad σ n τ j 0 o od hj p0 p1 h3) gX2_balance_X2_daysIn rfl ⟨rfl, rfl⟩ (by decide +kernel) ⟨Nat.le_of_ble_eq_true rfl, Nat.le_of_ble_eq_true rfl⟩ hY (by omega) rfl (ci := 2) rfl rfl hl.1 rfl (Nat.le_of_ble_eq_true rfl) dX2_balance_47 ⟨Nat.le_of_ble_eq_true rfl, Nat.le_of_ble_eq_true rfl⟩) (fun r14 H locs h15 hY => ?_)
      subst h15
      refine lv_imul hx hb dX2_balance_50 ?_
      refine lv_bipush (v := 30) hx hb dX2_balance_51 (by decide) ?_
      refine lv_idiv hx hb dX2_balance_53 (by decide) ?_
      refine lv_isub hx hb dX2_balance_54 ?_
      have hcd : cdLX j 20 p0 p1 = 0 := by unfold cdLX; (repeat' split) <;> first | rfl | omega
      rw [hcd]
      exact g_iret hC hr hlocks hY ⟨Nat.le_of_ble_eq_true rfl, Nat.le_of_ble_eq_true rfl⟩ dX2_balance_55 (fun _ => rfl)
    · refine b_if_eq (tgt := 23) hx hb dX2_balance_16 (by decide) (fun _ => ?_) (fun h => absurd h (by decide))
      refine lv_iconst (v := 1) hx hb dX2_balance_23 (by decide) ?_
      refine g_calli hY (g_runV (n := 1) (q := (RX2, TX2, 17)) (r := 5) hC (c_X2_holds l G ad σ n τ j th o od 1) gX2_balance_X2_holds rfl ⟨rfl, rfl⟩ (by decide +kernel) ⟨Nat.le_of_ble_eq_true rfl, Nat.le_of_ble_eq_true rfl⟩ hY (by omega) rfl (ci := 2) rfl rfl hl.1 rfl (Nat.le_of_ble_eq_true rfl) dX2_balance_24 ⟨Nat.le_of_ble_eq_true rfl, Nat.le_of_ble_eq_true rfl⟩) (fun r17 H locs h18 hY => ?_)
      obtain ⟨rfl, -⟩ := h18.resolve_left (fun q => absurd q.2 (by decide))
      refine b_if_ne (tgt := 32) hx hb dX2_balance_27 (by decide) (fun h => absurd h (by decide)) (fun _ => ?_)
      refine lv_iconst (v := 0) hx hb dX2_balance_30 (by decide) ?_
      have hcd : cdLX j 20 p0 p1 = 1 := by unfold cdLX; (repeat' split) <;> first | rfl | omega
      rw [hcd]
      exact g_iret hC hr hlocks hY ⟨Nat.le_of_ble_eq_true rfl, Nat.le_of_ble_eq_true rfl⟩ dX2_balance_31 (fun q => absurd q (by decide))
  · refine b_if_eq (tgt := 23) hx hb dX2_balance_6 (by decide) (fun _ => ?_) (fun h => absurd h (by decide))
    refine lv_iconst (v := 1) hx hb dX2_balance_23 (by decide) ?_
    refine g_calli hY (g_runV (n := 1) (q := (RX2, TX2, 17)) (r := 5) hC (c_X2_holds l G ad σ n τ j th o od 1) gX2_balance_X2_holds rfl ⟨rfl, rfl⟩ (by decide +kernel) ⟨Nat.le_of_ble_eq_true rfl, Nat.le_of_ble_eq_true rfl⟩ hY (by omega) rfl (ci := 2) rfl rfl hl.1 rfl (Nat.le_of_ble_eq_true rfl) dX2_balance_24 ⟨Nat.le_of_ble_eq_true rfl, Nat.le_of_ble_eq_true rfl⟩) (fun r21 H locs h22 hY => ?_)
    obtain ⟨rfl, -⟩ := h22.resolve_left (fun q => absurd q.2 (by decide))
    refine b_if_ne (tgt := 32) hx hb dX2_balance_27 (by decide) (fun h => absurd h (by decide)) (fun _ => ?_)
    refine lv_iconst (v := 0) hx hb dX2_balance_30 (by decide) ?_
    have hcd : cdLX j 20 p0 p1 = 1 := by unfold cdLX; (repeat' split) <;> first | rfl | omega
    rw [hcd]
    exact g_iret hC hr hlocks hY ⟨Nat.le_of_ble_eq_true rfl, Nat.le_of_ble_eq_true rfl⟩ dX2_balance_31 (fun q => absurd q (by decide))

set_option maxHeartbeats 4000000 in
set_option maxRecDepth 100000 in
theorem c_X2_owners (l : Launch) (G : GG) (ad : Nat → Nat) (σ : St) (n : Nat) (τ : St) (j : Nat) (th : Int32) (o : OL) (od : OD) (hj : j ≤ 24) (hI : ∀ k, k < j → okL τ k) (p0 : Int32)  : Met l yX2_owners wsX2_owners ({ frames := 4, cells := 0, slots := 0, locals := 120 }) (PcS G ad σ n τ j th o od [.ref (ad 5), .int p0]) (Qi G (3 * n + 23) ad (ctS G ad σ n τ j (cdU1 20 p0) o od) (fun r => cdU1 20 p0 = 0 → r = omP τ p0 j)) 0 0 (gF G) := by
  refine Met.ofW (cc := cX2_owners) (maxL := 4) (ret := (some .int)) (by decide) rfl ?_
  intro p e s m args below meth c s₁ B hml hv
  obtain ⟨rfl, hY⟩ := hv
  have hts := atoms_spec (ws := wsX2_owners) B.pre
  have hC : CallFix p m c cX2_owners 4 s _ wsX2_owners RX2 := ⟨B.exec, B.bytes, hml, findClass_of_methodNamed B.named, hts⟩
  have hx := hC.1
  have hb := hC.2.1
  have hr := B.returns
  have hlocks := B.notSynchronized
  have hin2 : ∀ w ∈ wsX20, w ∈ wsX2_owners := by decide +kernel
  have hl := lv_entry ([.ref (ad 5), .int p0]) (n := 4) (Nat.le_of_ble_eq_true rfl)
  rw [lg_entry_eq]
  generalize (lg_sl ([.ref (ad 5), .int p0]) ++ List.replicate (4 - (lg_sl ([.ref (ad 5), .int p0])).length) Slot.unset).toArray = ls at hl ⊢
  have hl : lv_has ls 4 [(0, .ref (ad 5)), (1, .int p0)] := hl
  have hnj : (nI j).toInt = (j : Int) := i_nI (by omega)
  refine lv_aload_n hx hb dX2_owners_0 rfl (lv_at hl 0 rfl) ?_
  refine lv_iload_n hx hb dX2_owners_1 rfl (lv_at hl 1 rfl) ?_
  refine lv_iconst (v := 0) hx hb dX2_owners_2 (by decide) ?_
  refine lv_bipush (v := 19) hx hb dX2_owners_3 (by decide) ?_
  refine g_calli hY (g_runS (n := 3) hC (c_X2_isIn l G ad σ n τ j th o od p0 0 19 0 19 rfl rfl) gX2_owners_X2_isIn rfl ⟨rfl, rfl⟩ (by decide +kernel) ⟨Nat.le_of_ble_eq_true rfl, Nat.le_of_ble_eq_true rfl⟩ hY rfl hl.1 rfl (Nat.le_of_ble_eq_true rfl) dX2_owners_5 ⟨Nat.le_of_ble_eq_true rfl, Nat.le_of_ble_eq_true rfl⟩) (fun r1 H locs h2 hY => ?_)
  rcases h2 with ⟨rfl, h3⟩ | ⟨rfl, h3⟩
  · refine b_if_eq (tgt := 15) hx hb dX2_owners_8 (by decide) (fun h => absurd h (by decide)) (fun _ => ?_)
    refine lv_iconst (v := 0) hx hb dX2_owners_11 (by decide) ?_
    refine lv_goto (tgt := 16) hx hb dX2_owners_12 (by decide) ?_
    refine g_calli hY (g_runV (n := 1) (q := (RX2, TX2, 17)) (r := 5) hC (c_X2_holds l G ad σ n τ j th o od 0) gX2_owners_X2_holds rfl ⟨rfl, rfl⟩ (by decide +kernel) ⟨Nat.le_of_ble_eq_true rfl, Nat.le_of_ble_eq_true rfl⟩ hY (by omega) rfl (ci := 2) rfl rfl hl.1 rfl (Nat.le_of_ble_eq_true rfl) dX2_owners_16 ⟨Nat.le_of_ble_eq_true rfl, Nat.le_of_ble_eq_true rfl⟩) (fun r5 H locs h6 hY => ?_)
    obtain ⟨rfl, -⟩ := h6.resolve_right (fun q => q.2 rfl)
    refine b_if_ne (tgt := 24) hx hb dX2_owners_19 (by decide) (fun _ => ?_) (fun h => absurd h (by decide))
    refine lv_aload_n hx hb dX2_owners_24 rfl (lv_at hl 0 rfl) ?_
    refine gtM_costs hC hin2 hY (by decide +kernel) dX2_owners_25 ?_
    refine lv_iload_n hx hb dX2_owners_28 rfl (lv_at hl 1 rfl) ?_
    refine rdM2 hC hY ⟨by omega, by omega⟩ dX2_owners_29 ?_
    refine lv_istore_n (lv' := [(2, .int (τ 2 (ix p0))), (0, .ref (ad 5)), (1, .int p0)]) hx hb dX2_owners_30 rfl hl (by decide) rfl (fun ls hl => ?_)
    refine lv_iconst (v := 0) hx hb dX2_owners_31 (by decide) ?_
    refine lv_istore_n (lv' := [(3, .int 0), (2, .int (τ 2 (ix p0))), (0, .ref (ad 5)), (1, .int p0)]) hx hb dX2_owners_32 rfl hl (by decide) rfl (fun ls hl => ?_)
    refine w_loop (X := Int32 × Int32) (fun i x H locs ls => match x with | (x3, x2) => (x3.toInt = i ∧ i ≤ j ∧ x2 = omP τ p0 i) ∧ SyS G ad σ n τ j 0 o od s H locs ∧ lv_has ls 4 [(3, .int x3), (2, .int x2), (0, .ref (ad 5)), (1, .int p0)]) (24) ?_ ?_ ((0, τ 2 (ix p0))) ⟨⟨rfl, Nat.zero_le _, rfl⟩, hY, lv_sub hl [0, 1, 2, 3] rfl⟩
    · intro i x H locs ls hI ih
      obtain ⟨x3, x2⟩ := x
      obtain ⟨hI, hY, hl⟩ := hI
      obtain ⟨h9, h8, e⟩ := hI
      refine lv_iload_n hx hb dX2_owners_33 rfl (lv_at hl 0 rfl) ?_
      refine lv_aload_n hx hb dX2_owners_34 rfl (lv_at hl 2 rfl) ?_
      refine gtM_leases hC hin2 hY (by decide +kernel) dX2_owners_35 ?_
      refine b_icmp_ge (tgt := 56) hx hb dX2_owners_38 (by decide) (fun (h8 : (nI j).toInt ≤ x3.toInt) => ?_) (fun (h8 : x3.toInt < (nI j).toInt) => ?_)
      · refine lv_iload_n hx hb dX2_owners_56 rfl (lv_at hl 1 rfl) ?_
        have hcd : cdU1 20 p0 = 0 := by unfold cdU1; (repeat' split) <;> first | rfl | omega
        rw [hcd]
        exact g_iret hC hr hlocks hY ⟨Nat.le_of_ble_eq_true rfl, Nat.le_of_ble_eq_true rfl⟩ dX2_owners_57 (fun _ => by rw [show j = i by omega, ← e])
      · refine lv_iload_n hx hb dX2_owners_41 rfl (lv_at hl 1 rfl) ?_
        refine lv_aload_n hx hb dX2_owners_42 rfl (lv_at hl 2 rfl) ?_
        refine lv_iload_n hx hb dX2_owners_43 rfl (lv_at hl 0 rfl) ?_
        refine lv_iload_n hx hb dX2_owners_44 rfl (lv_at hl 3 rfl) ?_
        refine g_calli hY (g_runV (n := 2) (q := (RX2, TX2, 17)) (r := 5) hC (c_X2_partOf l G ad σ n τ j 0 o od hj hI x3 p0 ⟨by omega, by omega⟩ ⟨by omega, by omega⟩) gX2_owners_X2_partOf rfl ⟨rfl, rfl⟩ (by decide +kernel) ⟨Nat.le_of_ble_eq_true rfl, Nat.le_of_ble_eq_true rfl⟩ hY (by omega) rfl (ci := 2) rfl rfl hl.1 rfl (Nat.le_of_ble_eq_true rfl) dX2_owners_45 ⟨Nat.le_of_ble_eq_true rfl, Nat.le_of_ble_eq_true rfl⟩) (fun r9 H locs h10 hY => ?_)
        subst h10
        refine lv_isub hx hb dX2_owners_48 ?_
        refine lv_istore_n (lv' := [(2, .int (x2 - (pmF τ (ix x3) p0))), (3, .int x3), (0, .ref (ad 5)), (1, .int p0)]) hx hb dX2_owners_49 rfl hl (by decide) rfl (fun ls hl => ?_)
        refine lv_iinc (v := x3 + 1) (lv' := [(3, .int (x3 + 1)), (2, .int (x2 - (pmF τ (ix x3) p0))), (0, .ref (ad 5)), (1, .int p0)]) hx hb dX2_owners_50 hl (k := 1) rfl rfl (by decide) rfl (fun ls hl => ?_)
        refine lv_goto (tgt := 33) hx hb dX2_owners_53 (by decide) ?_
        have hix : ix x3 = i := i_ix h9
        exact ih (x3 + 1, x2 - (pmF τ (ix x3) p0)) _ _ _ ⟨⟨by rw [i_add (by have : (1 : Int32).toInt = 1 := rfl; omega)]; have : (1 : Int32).toInt = 1 := rfl; omega, by omega, by rw [omP, ← e, ← hix]⟩, hY, lv_sub hl [0, 1, 2, 3] rfl⟩
    · intro i x H locs ls hI
      obtain ⟨x3, x2⟩ := x
      obtain ⟨hI, -, -⟩ := hI
      obtain ⟨h9, h8, e⟩ := hI
      omega
  · refine b_if_eq (tgt := 15) hx hb dX2_owners_8 (by decide) (fun _ => ?_) (fun h => absurd h (by decide))
    refine lv_iconst (v := 1) hx hb dX2_owners_15 (by decide) ?_
    refine g_calli hY (g_runV (n := 1) (q := (RX2, TX2, 17)) (r := 5) hC (c_X2_holds l G ad σ n τ j th o od 1) gX2_owners_X2_holds rfl ⟨rfl, rfl⟩ (by decide +kernel) ⟨Nat.le_of_ble_eq_true rfl, Nat.le_of_ble_eq_true rfl⟩ hY (by omega) rfl (ci := 2) rfl rfl hl.1 rfl (Nat.le_of_ble_eq_true rfl) dX2_owners_16 ⟨Nat.le_of_ble_eq_true rfl, Nat.le_of_ble_eq_true rfl⟩) (fun r12 H locs h13 hY => ?_)
    obtain ⟨rfl, -⟩ := h13.resolve_left (fun q => absurd q.2 (by decide))
    refine b_if_ne (tgt := 24) hx hb dX2_owners_19 (by decide) (fun h => absurd h (by decide)) (fun _ => ?_)
    refine lv_iconst (v := 0) hx hb dX2_owners_22 (by decide) ?_
    have hcd : cdU1 20 p0 = 1 := by unfold cdU1; (repeat' split) <;> first | rfl | omega
    rw [hcd]
    exact g_iret hC hr hlocks hY ⟨Nat.le_of_ble_eq_true rfl, Nat.le_of_ble_eq_true rfl⟩ dX2_owners_23 (fun q => absurd q (by decide))


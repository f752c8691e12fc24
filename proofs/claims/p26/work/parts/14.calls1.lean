def cdArea (p0 p1 : Int32) : Int32 := if 0 ≤ p0.toInt ∧ p0.toInt < 6 then (if 0 ≤ p1.toInt ∧ p1.toInt ≤ 999 then 0 else 2) else 1
set_option maxHeartbeats 4000000 in
set_option maxRecDepth 100000 in
theorem c_X1_setArea (l : Launch) (G : GG) (ad : Nat → Nat) (σ : St) (n : Nat) (τ : St) (hst : l.stackTraces = false) (p0 p1 : Int32)  : vx_Met l yX1_setArea wsX1_setArea ({ frames := 8, cells := 6, slots := 36, locals := 160 }) (PcS G ad σ n τ [.ref (ad 0), .int p0, .int p1]) (Qi G (3 * n + 9) ad (ctS G ad (us σ 0 (ix p0) p1) n τ) (fun r => cdArea p0 p1 = 0 ∧ r = σ 0 (ix p0))) (XG G (3 * n + 9) ad (ctS G ad σ n τ) (fun E => exC E (cdArea p0 p1))) 6 36 (gF G) := by
  refine vx_ofW (cc := cX1_setArea) (maxL := 4) (ret := (some .int)) (by decide) rfl ?_
  intro p e s m args below meth c s₁ B hml hxt hv
  obtain ⟨rfl, hY⟩ := hv
  have hts := atoms_spec (ws := wsX1_setArea) B.pre
  have hC : CallFix p m c cX1_setArea 4 s _ wsX1_setArea RX1 := ⟨B.exec, B.bytes, hml, findClass_of_methodNamed B.named, hts⟩
  have hx := hC.1
  have hb := hC.2.1
  have hr := B.returns
  have hlocks := B.notSynchronized
  have hin1 : ∀ w ∈ wsX10, w ∈ wsX1_setArea := by decide +kernel
  have hl := lv_entry ([.ref (ad 0), .int p0, .int p1]) (n := 4) (Nat.le_of_ble_eq_true rfl)
  rw [lg_entry_eq]
  generalize (lg_sl ([.ref (ad 0), .int p0, .int p1]) ++ List.replicate (4 - (lg_sl ([.ref (ad 0), .int p0, .int p1])).length) Slot.unset).toArray = ls at hl ⊢
  have hl : lv_has ls 4 [(0, .ref (ad 0)), (1, .int p0), (2, .int p1)] := hl
  refine lv_iload_n hx hb dX1_setArea_0 rfl (lv_at hl 1 rfl) ?_
  refine lv_aload_n hx hb dX1_setArea_1 rfl (lv_at hl 0 rfl) ?_
  refine gtV_areas hC hin1 hY (by decide +kernel) dX1_setArea_2 ?_
  refine g_alen hC hY 1 (by omega) 0 rfl rfl (v := 6) rfl dX1_setArea_5 ?_
  refine gx_callv hY (gx_runS (n := 2) hC (c_X1_checkNumber l G ad σ n τ hst p0 6 6 rfl) gX1_setArea_X1_checkNumber rfl ⟨rfl, rfl⟩ (by decide +kernel) ⟨Nat.le_of_ble_eq_true rfl, Nat.le_of_ble_eq_true rfl⟩ hY rfl hl.1 rfl (Nat.le_of_ble_eq_true rfl) dX1_setArea_6 ⟨Nat.le_of_ble_eq_true rfl, Nat.le_of_ble_eq_true rfl⟩) hxt hlocks ⟨Nat.le_of_ble_eq_true rfl, Nat.le_of_ble_eq_true rfl⟩ (fun E h => Or.inl ⟨h.1, by have q := h.2; unfold cdArea; (repeat' split) <;> first | rfl | omega⟩) (fun H locs h2 hY => ?_)
  refine lv_iload_n hx hb dX1_setArea_9 rfl (lv_at hl 2 rfl) ?_
  refine lv_iconst (v := 0) hx hb dX1_setArea_10 (by decide) ?_
  refine lv_sipush (v := 999) hx hb dX1_setArea_11 (by decide) ?_
  refine gx_callv hY (gx_runS (n := 3) hC (c_X1_checkRange l G ad σ n τ hst p1 0 999 0 999 rfl rfl) gX1_setArea_X1_checkRange rfl ⟨rfl, rfl⟩ (by decide +kernel) ⟨Nat.le_of_ble_eq_true rfl, Nat.le_of_ble_eq_true rfl⟩ hY rfl hl.1 rfl (Nat.le_of_ble_eq_true rfl) dX1_setArea_14 ⟨Nat.le_of_ble_eq_true rfl, Nat.le_of_ble_eq_true rfl⟩) hxt hlocks ⟨Nat.le_of_ble_eq_true rfl, Nat.le_of_ble_eq_true rfl⟩ (fun E h => Or.inr <| Or.inl ⟨h.1, by have q := h.2; unfold cdArea; (repeat' split) <;> first | rfl | omega⟩) (fun H locs h4 hY => ?_)
  refine lv_aload_n hx hb dX1_setArea_17 rfl (lv_at hl 0 rfl) ?_
  refine gtV_areas hC hin1 hY (by decide +kernel) dX1_setArea_18 ?_
  refine lv_iload_n hx hb dX1_setArea_21 rfl (lv_at hl 1 rfl) ?_
  refine rdA0 hC hY h2 dX1_setArea_22 ?_
  refine lv_istore_n (lv' := [(3, .int (σ 0 (ix p0))), (0, .ref (ad 0)), (1, .int p0), (2, .int p1)]) hx hb dX1_setArea_23 rfl hl (by decide) rfl (fun ls hl => ?_)
  refine lv_aload_n hx hb dX1_setArea_24 rfl (lv_at hl 1 rfl) ?_
  refine gtV_areas hC hin1 hY (by decide +kernel) dX1_setArea_25 ?_
  refine lv_iload_n hx hb dX1_setArea_28 rfl (lv_at hl 2 rfl) ?_
  refine lv_iload_n hx hb dX1_setArea_29 rfl (lv_at hl 3 rfl) ?_
  refine wrA0 hC hY h2 dX1_setArea_30 (fun H locs hY => ?_)
  refine lv_iload_n hx hb dX1_setArea_31 rfl (lv_at hl 0 rfl) ?_
  exact vx_ret (g_iret hC hr hlocks hY ⟨Nat.le_of_ble_eq_true rfl, Nat.le_of_ble_eq_true rfl⟩ dX1_setArea_32 (⟨by unfold cdArea; (repeat' split) <;> first | rfl | omega, rfl⟩))

def cdIndex (p0 p1 : Int32) : Int32 := if 0 ≤ p0.toInt ∧ p0.toInt < 240 then (if 10 ≤ p1.toInt ∧ p1.toInt ≤ 999 then 0 else 2) else 1
set_option maxHeartbeats 4000000 in
set_option maxRecDepth 100000 in
theorem c_X1_setIndex (l : Launch) (G : GG) (ad : Nat → Nat) (σ : St) (n : Nat) (τ : St) (hst : l.stackTraces = false) (p0 p1 : Int32)  : vx_Met l yX1_setIndex wsX1_setIndex ({ frames := 8, cells := 6, slots := 36, locals := 160 }) (PcS G ad σ n τ [.ref (ad 0), .int p0, .int p1]) (Qi G (3 * n + 9) ad (ctS G ad (us σ 1 (ix p0) p1) n τ) (fun r => cdIndex p0 p1 = 0 ∧ r = σ 1 (ix p0))) (XG G (3 * n + 9) ad (ctS G ad σ n τ) (fun E => exC E (cdIndex p0 p1))) 6 36 (gF G) := by
  refine vx_ofW (cc := cX1_setIndex) (maxL := 4) (ret := (some .int)) (by decide) rfl ?_
  intro p e s m args below meth c s₁ B hml hxt hv
  obtain ⟨rfl, hY⟩ := hv
  have hts := atoms_spec (ws := wsX1_setIndex) B.pre
  have hC : CallFix p m c cX1_setIndex 4 s _ wsX1_setIndex RX1 := ⟨B.exec, B.bytes, hml, findClass_of_methodNamed B.named, hts⟩
  have hx := hC.1
  have hb := hC.2.1
  have hr := B.returns
  have hlocks := B.notSynchronized
  have hin1 : ∀ w ∈ wsX10, w ∈ wsX1_setIndex := by decide +kernel
  have hl := lv_entry ([.ref (ad 0), .int p0, .int p1]) (n := 4) (Nat.le_of_ble_eq_true rfl)
  rw [lg_entry_eq]
  generalize (lg_sl ([.ref (ad 0), .int p0, .int p1]) ++ List.replicate (4 - (lg_sl ([.ref (ad 0), .int p0, .int p1])).length) Slot.unset).toArray = ls at hl ⊢
  have hl : lv_has ls 4 [(0, .ref (ad 0)), (1, .int p0), (2, .int p1)] := hl
  refine lv_iload_n hx hb dX1_setIndex_0 rfl (lv_at hl 1 rfl) ?_
  refine lv_aload_n hx hb dX1_setIndex_1 rfl (lv_at hl 0 rfl) ?_
  refine gtV_indices hC hin1 hY (by decide +kernel) dX1_setIndex_2 ?_
  refine g_alen hC hY 2 (by omega) 0 rfl rfl (v := 240) rfl dX1_setIndex_5 ?_
  refine gx_callv hY (gx_runS (n := 2) hC (c_X1_checkNumber l G ad σ n τ hst p0 240 240 rfl) gX1_setIndex_X1_checkNumber rfl ⟨rfl, rfl⟩ (by decide +kernel) ⟨Nat.le_of_ble_eq_true rfl, Nat.le_of_ble_eq_true rfl⟩ hY rfl hl.1 rfl (Nat.le_of_ble_eq_true rfl) dX1_setIndex_6 ⟨Nat.le_of_ble_eq_true rfl, Nat.le_of_ble_eq_true rfl⟩) hxt hlocks ⟨Nat.le_of_ble_eq_true rfl, Nat.le_of_ble_eq_true rfl⟩ (fun E h => Or.inl ⟨h.1, by have q := h.2; unfold cdIndex; (repeat' split) <;> first | rfl | omega⟩) (fun H locs h2 hY => ?_)
  refine lv_iload_n hx hb dX1_setIndex_9 rfl (lv_at hl 2 rfl) ?_
  refine lv_bipush (v := 10) hx hb dX1_setIndex_10 (by decide) ?_
  refine lv_sipush (v := 999) hx hb dX1_setIndex_12 (by decide) ?_
  refine gx_callv hY (gx_runS (n := 3) hC (c_X1_checkRange l G ad σ n τ hst p1 10 999 10 999 rfl rfl) gX1_setIndex_X1_checkRange rfl ⟨rfl, rfl⟩ (by decide +kernel) ⟨Nat.le_of_ble_eq_true rfl, Nat.le_of_ble_eq_true rfl⟩ hY rfl hl.1 rfl (Nat.le_of_ble_eq_true rfl) dX1_setIndex_15 ⟨Nat.le_of_ble_eq_true rfl, Nat.le_of_ble_eq_true rfl⟩) hxt hlocks ⟨Nat.le_of_ble_eq_true rfl, Nat.le_of_ble_eq_true rfl⟩ (fun E h => Or.inr <| Or.inl ⟨h.1, by have q := h.2; unfold cdIndex; (repeat' split) <;> first | rfl | omega⟩) (fun H locs h4 hY => ?_)
  refine lv_aload_n hx hb dX1_setIndex_18 rfl (lv_at hl 0 rfl) ?_
  refine gtV_indices hC hin1 hY (by decide +kernel) dX1_setIndex_19 ?_
  refine lv_iload_n hx hb dX1_setIndex_22 rfl (lv_at hl 1 rfl) ?_
  refine rdA1 hC hY h2 dX1_setIndex_23 ?_
  refine lv_istore_n (lv' := [(3, .int (σ 1 (ix p0))), (0, .ref (ad 0)), (1, .int p0), (2, .int p1)]) hx hb dX1_setIndex_24 rfl hl (by decide) rfl (fun ls hl => ?_)
  refine lv_aload_n hx hb dX1_setIndex_25 rfl (lv_at hl 1 rfl) ?_
  refine gtV_indices hC hin1 hY (by decide +kernel) dX1_setIndex_26 ?_
  refine lv_iload_n hx hb dX1_setIndex_29 rfl (lv_at hl 2 rfl) ?_
  refine lv_iload_n hx hb dX1_setIndex_30 rfl (lv_at hl 3 rfl) ?_
  refine wrA1 hC hY h2 dX1_setIndex_31 (fun H locs hY => ?_)
  refine lv_iload_n hx hb dX1_setIndex_32 rfl (lv_at hl 0 rfl) ?_
  exact vx_ret (g_iret hC hr hlocks hY ⟨Nat.le_of_ble_eq_true rfl, Nat.le_of_ble_eq_true rfl⟩ dX1_setIndex_33 (⟨by unfold cdIndex; (repeat' split) <;> first | rfl | omega, rfl⟩))

def cdCost (p0 p1 : Int32) : Int32 := if 0 ≤ p0.toInt ∧ p0.toInt < 20 then (if 0 ≤ p1.toInt ∧ p1.toInt ≤ 999999 then 0 else 2) else 1
set_option maxHeartbeats 4000000 in
set_option maxRecDepth 100000 in
theorem c_X1_setCost (l : Launch) (G : GG) (ad : Nat → Nat) (σ : St) (n : Nat) (τ : St) (hst : l.stackTraces = false) (p0 p1 : Int32)  : vx_Met l yX1_setCost wsX1_setCost ({ frames := 8, cells := 6, slots := 36, locals := 160 }) (PcS G ad σ n τ [.ref (ad 0), .int p0, .int p1]) (Qi G (3 * n + 9) ad (ctS G ad (us σ 2 (ix p0) p1) n τ) (fun r => cdCost p0 p1 = 0 ∧ r = σ 2 (ix p0))) (XG G (3 * n + 9) ad (ctS G ad σ n τ) (fun E => exC E (cdCost p0 p1))) 6 36 (gF G) := by
  refine vx_ofW (cc := cX1_setCost) (maxL := 4) (ret := (some .int)) (by decide) rfl ?_
  intro p e s m args below meth c s₁ B hml hxt hv
  obtain ⟨rfl, hY⟩ := hv
  have hts := atoms_spec (ws := wsX1_setCost) B.pre
  have hC : CallFix p m c cX1_setCost 4 s _ wsX1_setCost RX1 := ⟨B.exec, B.bytes, hml, findClass_of_methodNamed B.named, hts⟩
  have hx := hC.1
  have hb := hC.2.1
  have hr := B.returns
  have hlocks := B.notSynchronized
  have hin1 : ∀ w ∈ wsX10, w ∈ wsX1_setCost := by decide +kernel
  have hl := lv_entry ([.ref (ad 0), .int p0, .int p1]) (n := 4) (Nat.le_of_ble_eq_true rfl)
  rw [lg_entry_eq]
  generalize (lg_sl ([.ref (ad 0), .int p0, .int p1]) ++ List.replicate (4 - (lg_sl ([.ref (ad 0), .int p0, .int p1])).length) Slot.unset).toArray = ls at hl ⊢
  have hl : lv_has ls 4 [(0, .ref (ad 0)), (1, .int p0), (2, .int p1)] := hl
  refine lv_iload_n hx hb dX1_setCost_0 rfl (lv_at hl 1 rfl) ?_
  refine lv_aload_n hx hb dX1_setCost_1 rfl (lv_at hl 0 rfl) ?_
  refine gtV_costs hC hin1 hY (by decide +kernel) dX1_setCost_2 ?_
  refine g_alen hC hY 3 (by omega) 0 rfl rfl (v := 20) rfl dX1_setCost_5 ?_
  refine gx_callv hY (gx_runS (n := 2) hC (c_X1_checkNumber l G ad σ n τ hst p0 20 20 rfl) gX1_setCost_X1_checkNumber rfl ⟨rfl, rfl⟩ (by decide +kernel) ⟨Nat.le_of_ble_eq_true rfl, Nat.le_of_ble_eq_true rfl⟩ hY rfl hl.1 rfl (Nat.le_of_ble_eq_true rfl) dX1_setCost_6 ⟨Nat.le_of_ble_eq_true rfl, Nat.le_of_ble_eq_true rfl⟩) hxt hlocks ⟨Nat.le_of_ble_eq_true rfl, Nat.le_of_ble_eq_true rfl⟩ (fun E h => Or.inl ⟨h.1, by have q := h.2; unfold cdCost; (repeat' split) <;> first | rfl | omega⟩) (fun H locs h2 hY => ?_)
  refine lv_iload_n hx hb dX1_setCost_9 rfl (lv_at hl 2 rfl) ?_
  refine lv_iconst (v := 0) hx hb dX1_setCost_10 (by decide) ?_
  refine lv_ldc (v := 999999) hx hb hC.2.2.2.1 (hC.2.2.2.2 _ (by decide +kernel)) dX1_setCost_11 ?_
  refine gx_callv hY (gx_runS (n := 3) hC (c_X1_checkRange l G ad σ n τ hst p1 0 999999 0 999999 rfl rfl) gX1_setCost_X1_checkRange rfl ⟨rfl, rfl⟩ (by decide +kernel) ⟨Nat.le_of_ble_eq_true rfl, Nat.le_of_ble_eq_true rfl⟩ hY rfl hl.1 rfl (Nat.le_of_ble_eq_true rfl) dX1_setCost_13 ⟨Nat.le_of_ble_eq_true rfl, Nat.le_of_ble_eq_true rfl⟩) hxt hlocks ⟨Nat.le_of_ble_eq_true rfl, Nat.le_of_ble_eq_true rfl⟩ (fun E h => Or.inr <| Or.inl ⟨h.1, by have q := h.2; unfold cdCost; (repeat' split) <;> first | rfl | omega⟩) (fun H locs h4 hY => ?_)
  refine lv_aload_n hx hb dX1_setCost_16 rfl (lv_at hl 0 rfl) ?_
  refine gtV_costs hC hin1 hY (by decide +kernel) dX1_setCost_17 ?_
  refine lv_iload_n hx hb dX1_setCost_20 rfl (lv_at hl 1 rfl) ?_
  refine rdA2 hC hY h2 dX1_setCost_21 ?_
  refine lv_istore_n (lv' := [(3, .int (σ 2 (ix p0))), (0, .ref (ad 0)), (1, .int p0), (2, .int p1)]) hx hb dX1_setCost_22 rfl hl (by decide) rfl (fun ls hl => ?_)
  refine lv_aload_n hx hb dX1_setCost_23 rfl (lv_at hl 1 rfl) ?_
  refine gtV_costs hC hin1 hY (by decide +kernel) dX1_setCost_24 ?_
  refine lv_iload_n hx hb dX1_setCost_27 rfl (lv_at hl 2 rfl) ?_
  refine lv_iload_n hx hb dX1_setCost_28 rfl (lv_at hl 3 rfl) ?_
  refine wrA2 hC hY h2 dX1_setCost_29 (fun H locs hY => ?_)
  refine lv_iload_n hx hb dX1_setCost_30 rfl (lv_at hl 0 rfl) ?_
  exact vx_ret (g_iret hC hr hlocks hY ⟨Nat.le_of_ble_eq_true rfl, Nat.le_of_ble_eq_true rfl⟩ dX1_setCost_31 (⟨by unfold cdCost; (repeat' split) <;> first | rfl | omega, rfl⟩))

def cdEnd (σ : St) (n : Nat) (p0 p1 : Int32) : Int32 := if 0 ≤ p0.toInt ∧ p0.toInt < (n : Int) then (if (σ 4 (ix p0)).toInt < p1.toInt ∧ p1.toInt < (σ 5 (ix p0)).toInt then 0 else 2) else 1
set_option maxHeartbeats 4000000 in
set_option maxRecDepth 100000 in
theorem c_X1_end (l : Launch) (G : GG) (ad : Nat → Nat) (σ : St) (n : Nat) (τ : St) (hst : l.stackTraces = false) (hn : n ≤ 24) (hI : ∀ k, k < n → okL σ k) (p0 p1 : Int32)  : vx_Met l yX1_end wsX1_end ({ frames := 8, cells := 6, slots := 36, locals := 160 }) (PcS G ad σ n τ [.ref (ad 0), .int p0, .int p1]) (Qi G (3 * n + 9) ad (ctS G ad (us σ 5 (ix p0) p1) n τ) (fun r => cdEnd σ n p0 p1 = 0 ∧ r = σ 5 (ix p0))) (XG G (3 * n + 9) ad (ctS G ad σ n τ) (fun E => exC E (cdEnd σ n p0 p1))) 6 36 (gF G) := by
  refine vx_ofW (cc := cX1_end) (maxL := 5) (ret := (some .int)) (by decide) rfl ?_
  intro p e s m args below meth c s₁ B hml hxt hv
  obtain ⟨rfl, hY⟩ := hv
  have hts := atoms_spec (ws := wsX1_end) B.pre
  have hC : CallFix p m c cX1_end 5 s _ wsX1_end RX1 := ⟨B.exec, B.bytes, hml, findClass_of_methodNamed B.named, hts⟩
  have hx := hC.1
  have hb := hC.2.1
  have hr := B.returns
  have hlocks := B.notSynchronized
  have hin0 : ∀ w ∈ wsX00, w ∈ wsX1_end := by decide +kernel
  have hin1 : ∀ w ∈ wsX10, w ∈ wsX1_end := by decide +kernel
  have hl := lv_entry ([.ref (ad 0), .int p0, .int p1]) (n := 5) (Nat.le_of_ble_eq_true rfl)
  rw [lg_entry_eq]
  generalize (lg_sl ([.ref (ad 0), .int p0, .int p1]) ++ List.replicate (5 - (lg_sl ([.ref (ad 0), .int p0, .int p1])).length) Slot.unset).toArray = ls at hl ⊢
  have hl : lv_has ls 5 [(0, .ref (ad 0)), (1, .int p0), (2, .int p1)] := hl
  refine lv_aload_n hx hb dX1_end_0 rfl (lv_at hl 0 rfl) ?_
  refine lv_iload_n hx hb dX1_end_1 rfl (lv_at hl 1 rfl) ?_
  refine gx_callq hY (gx_runV (n := 1) (q := (RX1, TX1, 5)) (r := 0) hC (c_X1_find l G ad σ n τ hst hn p0) gX1_end_X1_find rfl ⟨rfl, rfl⟩ (by decide +kernel) ⟨Nat.le_of_ble_eq_true rfl, Nat.le_of_ble_eq_true rfl⟩ hY (by omega) rfl (ci := 1) rfl rfl hl.1 rfl (Nat.le_of_ble_eq_true rfl) dX1_end_2 ⟨Nat.le_of_ble_eq_true rfl, Nat.le_of_ble_eq_true rfl⟩) hxt hlocks ⟨Nat.le_of_ble_eq_true rfl, Nat.le_of_ble_eq_true rfl⟩ (fun E h => Or.inl ⟨h.1, by have q := h.2; unfold cdEnd; (repeat' split) <;> first | rfl | omega⟩) (fun r1 H locs h2 hY => ?_)
  obtain ⟨rfl, h3⟩ := h2
  refine lv_astore_n (lv' := [(3, .ref (ad (3 * ix p0 + 9))), (0, .ref (ad 0)), (1, .int p0), (2, .int p1)]) hx hb dX1_end_5 rfl hl (by decide) rfl (fun ls hl => ?_)
  refine lv_iload_n hx hb dX1_end_6 rfl (lv_at hl 3 rfl) ?_
  refine lv_aload_n hx hb dX1_end_7 rfl (lv_at hl 0 rfl) ?_
  refine gtN_from hC hin0 hY (k := ix p0) (ix_lt h3) (by decide) dX1_end_8 ?_
  refine lv_iconst (v := 1) hx hb dX1_end_11 (by decide) ?_
  refine lv_iadd hx hb dX1_end_12 ?_
  refine lv_aload_n hx hb dX1_end_13 rfl (lv_at hl 0 rfl) ?_
  refine gtN_to hC hin0 hY (k := ix p0) (ix_lt h3) (by decide) dX1_end_14 ?_
  refine lv_iconst (v := 1) hx hb dX1_end_17 (by decide) ?_
  refine lv_isub hx hb dX1_end_18 ?_
  refine gx_callv hY (gx_runS (n := 3) hC (c_X1_checkRange l G ad σ n τ hst p1 ((σ 4 (ix p0)) + 1) ((σ 5 (ix p0)) - 1) ((σ 4 (ix p0)).toInt + 1) ((σ 5 (ix p0)).toInt - 1) (ok_f1 (hI _ (ix_lt h3))) (ok_t1 (hI _ (ix_lt h3)))) gX1_end_X1_checkRange rfl ⟨rfl, rfl⟩ (by decide +kernel) ⟨Nat.le_of_ble_eq_true rfl, Nat.le_of_ble_eq_true rfl⟩ hY rfl hl.1 rfl (Nat.le_of_ble_eq_true rfl) dX1_end_19 ⟨Nat.le_of_ble_eq_true rfl, Nat.le_of_ble_eq_true rfl⟩) hxt hlocks ⟨Nat.le_of_ble_eq_true rfl, Nat.le_of_ble_eq_true rfl⟩ (fun E h => Or.inr <| Or.inl ⟨h.1, by have q := h.2; unfold cdEnd; (repeat' split) <;> first | rfl | omega⟩) (fun H locs h5 hY => ?_)
  refine lv_aload_n hx hb dX1_end_22 rfl (lv_at hl 0 rfl) ?_
  refine gtN_to hC hin0 hY (k := ix p0) (ix_lt h3) (by decide) dX1_end_23 ?_
  refine lv_istore (lv' := [(4, .int (σ 5 (ix p0))), (3, .ref (ad (3 * ix p0 + 9))), (0, .ref (ad 0)), (1, .int p0), (2, .int p1)]) hx hb dX1_end_26 hl (by decide) rfl (fun ls hl => ?_)
  refine lv_aload_n hx hb dX1_end_28 rfl (lv_at hl 1 rfl) ?_
  refine lv_iload_n hx hb dX1_end_29 rfl (lv_at hl 4 rfl) ?_
  refine ptN_to hC hin0 hY (k := ix p0) (ix_lt h3) (by decide) dX1_end_30 (fun H locs hY => ?_)
  refine lv_iload hx hb dX1_end_33 (lv_at hl 0 rfl) ?_
  exact vx_ret (g_iret hC hr hlocks hY ⟨Nat.le_of_ble_eq_true rfl, Nat.le_of_ble_eq_true rfl⟩ dX1_end_35 (⟨by unfold cdEnd; (repeat' split) <;> first | rfl | omega, rfl⟩))

def cdStep (σ : St) (n : Nat) (p0 p1 p2 : Int32) : Int32 := if 0 ≤ p0.toInt ∧ p0.toInt < (n : Int) then (if ((σ 4 (ix p0)).toInt < p1.toInt ∧ p1.toInt < (σ 5 (ix p0)).toInt) ∧ 1 ≤ p2.toInt ∧ p2.toInt ≤ 99999 then (if plF σ (ix p0) p1 < 6 then 0 else 3) else 2) else 1
set_option maxHeartbeats 4000000 in
set_option maxRecDepth 100000 in
theorem c_X1_step (l : Launch) (G : GG) (ad : Nat → Nat) (σ : St) (n : Nat) (τ : St) (hst : l.stackTraces = false) (hn : n ≤ 24) (hI : ∀ k, k < n → okL σ k) (p0 p1 p2 : Int32)  : vx_Met l yX1_step wsX1_step ({ frames := 8, cells := 6, slots := 36, locals := 160 }) (PcS G ad σ n τ [.ref (ad 0), .int p0, .int p1, .int p2]) (Qi G (3 * n + 9) ad (ctS G ad (psS σ (ix p0) p1 p2) n τ) (fun r => cdStep σ n p0 p1 p2 = 0 ∧ r = psS σ (ix p0) p1 p2 12 (ix p0))) (XG G (3 * n + 9) ad (ctS G ad σ n τ) (fun E => exC E (cdStep σ n p0 p1 p2))) 6 36 (gF G) := by
  refine vx_ofW (cc := cX1_step) (maxL := 5) (ret := (some .int)) (by decide) rfl ?_
  intro p e s m args below meth c s₁ B hml hxt hv
  obtain ⟨rfl, hY⟩ := hv
  have hts := atoms_spec (ws := wsX1_step) B.pre
  have hC : CallFix p m c cX1_step 5 s _ wsX1_step RX1 := ⟨B.exec, B.bytes, hml, findClass_of_methodNamed B.named, hts⟩
  have hx := hC.1
  have hb := hC.2.1
  have hr := B.returns
  have hlocks := B.notSynchronized
  have hin0 : ∀ w ∈ wsX00, w ∈ wsX1_step := by decide +kernel
  have hin1 : ∀ w ∈ wsX10, w ∈ wsX1_step := by decide +kernel
  have hl := lv_entry ([.ref (ad 0), .int p0, .int p1, .int p2]) (n := 5) (Nat.le_of_ble_eq_true rfl)
  rw [lg_entry_eq]
  generalize (lg_sl ([.ref (ad 0), .int p0, .int p1, .int p2]) ++ List.replicate (5 - (lg_sl ([.ref (ad 0), .int p0, .int p1, .int p2])).length) Slot.unset).toArray = ls at hl ⊢
  have hl : lv_has ls 5 [(0, .ref (ad 0)), (1, .int p0), (2, .int p1), (3, .int p2)] := hl
  refine lv_aload_n hx hb dX1_step_0 rfl (lv_at hl 0 rfl) ?_
  refine lv_iload_n hx hb dX1_step_1 rfl (lv_at hl 1 rfl) ?_
  refine gx_callq hY (gx_runV (n := 1) (q := (RX1, TX1, 5)) (r := 0) hC (c_X1_find l G ad σ n τ hst hn p0) gX1_step_X1_find rfl ⟨rfl, rfl⟩ (by decide +kernel) ⟨Nat.le_of_ble_eq_true rfl, Nat.le_of_ble_eq_true rfl⟩ hY (by omega) rfl (ci := 1) rfl rfl hl.1 rfl (Nat.le_of_ble_eq_true rfl) dX1_step_2 ⟨Nat.le_of_ble_eq_true rfl, Nat.le_of_ble_eq_true rfl⟩) hxt hlocks ⟨Nat.le_of_ble_eq_true rfl, Nat.le_of_ble_eq_true rfl⟩ (fun E h => Or.inl ⟨h.1, by have q := h.2; unfold cdStep; (repeat' split) <;> first | rfl | omega⟩) (fun r1 H locs h2 hY => ?_)
  obtain ⟨rfl, h3⟩ := h2
  refine lv_astore (lv' := [(4, .ref (ad (3 * ix p0 + 9))), (0, .ref (ad 0)), (1, .int p0), (2, .int p1), (3, .int p2)]) hx hb dX1_step_5 hl (by decide) rfl (fun ls hl => ?_)
  refine lv_iload_n hx hb dX1_step_7 rfl (lv_at hl 3 rfl) ?_
  refine lv_aload hx hb dX1_step_8 (lv_at hl 0 rfl) ?_
  refine gtN_from hC hin0 hY (k := ix p0) (ix_lt h3) (by decide) dX1_step_10 ?_
  refine lv_iconst (v := 1) hx hb dX1_step_13 (by decide) ?_
  refine lv_iadd hx hb dX1_step_14 ?_
  refine lv_aload hx hb dX1_step_15 (lv_at hl 0 rfl) ?_
  refine gtN_to hC hin0 hY (k := ix p0) (ix_lt h3) (by decide) dX1_step_17 ?_
  refine lv_iconst (v := 1) hx hb dX1_step_20 (by decide) ?_
  refine lv_isub hx hb dX1_step_21 ?_
  refine gx_callv hY (gx_runS (n := 3) hC (c_X1_checkRange l G ad σ n τ hst p1 ((σ 4 (ix p0)) + 1) ((σ 5 (ix p0)) - 1) ((σ 4 (ix p0)).toInt + 1) ((σ 5 (ix p0)).toInt - 1) (ok_f1 (hI _ (ix_lt h3))) (ok_t1 (hI _ (ix_lt h3)))) gX1_step_X1_checkRange rfl ⟨rfl, rfl⟩ (by decide +kernel) ⟨Nat.le_of_ble_eq_true rfl, Nat.le_of_ble_eq_true rfl⟩ hY rfl hl.1 rfl (Nat.le_of_ble_eq_true rfl) dX1_step_22 ⟨Nat.le_of_ble_eq_true rfl, Nat.le_of_ble_eq_true rfl⟩) hxt hlocks ⟨Nat.le_of_ble_eq_true rfl, Nat.le_of_ble_eq_true rfl⟩ (fun E h => Or.inr <| Or.inl ⟨h.1, by have q := h.2; unfold cdStep; (repeat' split) <;> first | rfl | omega⟩) (fun H locs h5 hY => ?_)
  refine lv_iload_n hx hb dX1_step_25 rfl (lv_at hl 4 rfl) ?_
  refine lv_iconst (v := 1) hx hb dX1_step_26 (by decide) ?_
  refine lv_ldc (v := 99999) hx hb hC.2.2.2.1 (hC.2.2.2.2 _ (by decide +kernel)) dX1_step_27 ?_
  refine gx_callv hY (gx_runS (n := 3) hC (c_X1_checkRange l G ad σ n τ hst p2 1 99999 1 99999 rfl rfl) gX1_step_X1_checkRange rfl ⟨rfl, rfl⟩ (by decide +kernel) ⟨Nat.le_of_ble_eq_true rfl, Nat.le_of_ble_eq_true rfl⟩ hY rfl hl.1 rfl (Nat.le_of_ble_eq_true rfl) dX1_step_29 ⟨Nat.le_of_ble_eq_true rfl, Nat.le_of_ble_eq_true rfl⟩) hxt hlocks ⟨Nat.le_of_ble_eq_true rfl, Nat.le_of_ble_eq_true rfl⟩ (fun E h => Or.inr <| Or.inl ⟨h.1, by have q := h.2; unfold cdStep; (repeat' split) <;> first | rfl | omega⟩) (fun H locs h7 hY => ?_)
  refine lv_aload hx hb dX1_step_32 (lv_at hl 0 rfl) ?_
  refine lv_iload_n hx hb dX1_step_34 rfl (lv_at hl 3 rfl) ?_
  refine lv_iload_n hx hb dX1_step_35 rfl (lv_at hl 4 rfl) ?_
  refine g_calli hY (g_runV (n := 2) (q := (RX0, TX0, 12)) (r := 3 * ix p0 + 9) hC (c_X0_putStep l G ad σ n τ (ix p0) (ix_lt h3) p1 p2 (okL_s (hI _ (ix_lt h3)))) gX1_step_X0_putStep rfl ⟨rfl, rfl⟩ (by decide +kernel) ⟨Nat.le_of_ble_eq_true rfl, Nat.le_of_ble_eq_true rfl⟩ hY (r_lt (ix_lt h3)) (ct_L (ix p0)) (ci := 0) rfl rfl hl.1 rfl (Nat.le_of_ble_eq_true rfl) dX1_step_36 ⟨Nat.le_of_ble_eq_true rfl, Nat.le_of_ble_eq_true rfl⟩) (fun r8 H locs h9 hY => ?_)
  rcases h9 with ⟨rfl, h10⟩ | ⟨rfl, h10⟩
  · refine b_if_ne (tgt := 52) hx hb dX1_step_39 (by decide) (fun _ => ?_) (fun h => absurd h (by decide))
    refine lv_aload hx hb dX1_step_52 (lv_at hl 0 rfl) ?_
    refine gtN_steps hC hin0 hY (k := ix p0) (ix_lt h3) (by decide) dX1_step_54 ?_
    exact vx_ret (g_iret hC hr hlocks hY ⟨Nat.le_of_ble_eq_true rfl, Nat.le_of_ble_eq_true rfl⟩ dX1_step_57 (⟨by unfold cdStep; (repeat' split) <;> first | rfl | omega, rfl⟩))
  · refine b_if_ne (tgt := 52) hx hb dX1_step_39 (by decide) (fun h => absurd h (by decide)) (fun _ => ?_)
    rw [show psS σ (ix p0) p1 p2 = σ from if_neg h10] at hY
    exact g_throw hC hst hY hxt hlocks (E := xS) (text := "no more steps") (by decide +kernel) (by decide +kernel) (by decide +kernel) (by decide) (fun w h => List.mem_cons_of_mem _ (List.mem_append_left _ (List.mem_append_left _ (List.mem_append_right _ h)))) at_S1 at_G1 hY.2.2.2.2.2.1.2.2 hl.1 dX1_step_42 dX1_step_45 dX1_step_46 dX1_step_48 dX1_step_51 ⟨Nat.le_of_ble_eq_true rfl, Nat.le_of_ble_eq_true rfl, Nat.le_of_ble_eq_true rfl, Nat.le_of_ble_eq_true rfl⟩ ⟨Nat.le_of_ble_eq_true rfl, Nat.le_of_ble_eq_true rfl⟩ (Or.inr (Or.inr ⟨rfl, by unfold cdStep; (repeat' split) <;> first | rfl | omega⟩))

def cdTerms (n : Nat) (p0 p1 p2 : Int32) : Int32 := if 0 ≤ p0.toInt ∧ p0.toInt < (n : Int) then (if (0 ≤ p1.toInt ∧ p1.toInt ≤ 720) ∧ (p2.toInt = 0 ∨ (30 ≤ p2.toInt ∧ p2.toInt ≤ 1800)) then 0 else 2) else 1
set_option maxHeartbeats 4000000 in
set_option maxRecDepth 100000 in
theorem c_X1_setTerms (l : Launch) (G : GG) (ad : Nat → Nat) (σ : St) (n : Nat) (τ : St) (hst : l.stackTraces = false) (hn : n ≤ 24) (p0 p1 p2 : Int32)  : vx_Met l yX1_setTerms wsX1_setTerms ({ frames := 8, cells := 6, slots := 36, locals := 160 }) (PcS G ad σ n τ [.ref (ad 0), .int p0, .int p1, .int p2]) (Qv G (3 * n + 9) ad (ctS G ad (us (us σ 7 (ix p0) p1) 8 (ix p0) p2) n τ) (cdTerms n p0 p1 p2 = 0)) (XG G (3 * n + 9) ad (ctS G ad σ n τ) (fun E => exC E (cdTerms n p0 p1 p2))) 6 36 (gF G) := by
  refine vx_ofW (cc := cX1_setTerms) (maxL := 5) (ret := none) (by decide) rfl ?_
  intro p e s m args below meth c s₁ B hml hxt hv
  obtain ⟨rfl, hY⟩ := hv
  have hts := atoms_spec (ws := wsX1_setTerms) B.pre
  have hC : CallFix p m c cX1_setTerms 5 s _ wsX1_setTerms RX1 := ⟨B.exec, B.bytes, hml, findClass_of_methodNamed B.named, hts⟩
  have hx := hC.1
  have hb := hC.2.1
  have hr := B.returns
  have hlocks := B.notSynchronized
  have hin0 : ∀ w ∈ wsX00, w ∈ wsX1_setTerms := by decide +kernel
  have hin1 : ∀ w ∈ wsX10, w ∈ wsX1_setTerms := by decide +kernel
  have hl := lv_entry ([.ref (ad 0), .int p0, .int p1, .int p2]) (n := 5) (Nat.le_of_ble_eq_true rfl)
  rw [lg_entry_eq]
  generalize (lg_sl ([.ref (ad 0), .int p0, .int p1, .int p2]) ++ List.replicate (5 - (lg_sl ([.ref (ad 0), .int p0, .int p1, .int p2])).length) Slot.unset).toArray = ls at hl ⊢
  have hl : lv_has ls 5 [(0, .ref (ad 0)), (1, .int p0), (2, .int p1), (3, .int p2)] := hl
  refine lv_aload_n hx hb dX1_setTerms_0 rfl (lv_at hl 0 rfl) ?_
  refine lv_iload_n hx hb dX1_setTerms_1 rfl (lv_at hl 1 rfl) ?_
  refine gx_callq hY (gx_runV (n := 1) (q := (RX1, TX1, 5)) (r := 0) hC (c_X1_find l G ad σ n τ hst hn p0) gX1_setTerms_X1_find rfl ⟨rfl, rfl⟩ (by decide +kernel) ⟨Nat.le_of_ble_eq_true rfl, Nat.le_of_ble_eq_true rfl⟩ hY (by omega) rfl (ci := 1) rfl rfl hl.1 rfl (Nat.le_of_ble_eq_true rfl) dX1_setTerms_2 ⟨Nat.le_of_ble_eq_true rfl, Nat.le_of_ble_eq_true rfl⟩) hxt hlocks ⟨Nat.le_of_ble_eq_true rfl, Nat.le_of_ble_eq_true rfl⟩ (fun E h => Or.inl ⟨h.1, by have q := h.2; unfold cdTerms; (repeat' split) <;> first | rfl | omega⟩) (fun r1 H locs h2 hY => ?_)
  obtain ⟨rfl, h3⟩ := h2
  refine lv_astore (lv' := [(4, .ref (ad (3 * ix p0 + 9))), (0, .ref (ad 0)), (1, .int p0), (2, .int p1), (3, .int p2)]) hx hb dX1_setTerms_5 hl (by decide) rfl (fun ls hl => ?_)
  refine lv_iload_n hx hb dX1_setTerms_7 rfl (lv_at hl 3 rfl) ?_
  refine lv_iconst (v := 0) hx hb dX1_setTerms_8 (by decide) ?_
  refine lv_sipush (v := 720) hx hb dX1_setTerms_9 (by decide) ?_
  refine gx_callv hY (gx_runS (n := 3) hC (c_X1_checkRange l G ad σ n τ hst p1 0 720 0 720 rfl rfl) gX1_setTerms_X1_checkRange rfl ⟨rfl, rfl⟩ (by decide +kernel) ⟨Nat.le_of_ble_eq_true rfl, Nat.le_of_ble_eq_true rfl⟩ hY rfl hl.1 rfl (Nat.le_of_ble_eq_true rfl) dX1_setTerms_12 ⟨Nat.le_of_ble_eq_true rfl, Nat.le_of_ble_eq_true rfl⟩) hxt hlocks ⟨Nat.le_of_ble_eq_true rfl, Nat.le_of_ble_eq_true rfl⟩ (fun E h => Or.inr <| Or.inl ⟨h.1, by have q := h.2; unfold cdTerms; (repeat' split) <;> first | rfl | omega⟩) (fun H locs h5 hY => ?_)
  refine lv_iload_n hx hb dX1_setTerms_15 rfl (lv_at hl 4 rfl) ?_
  refine b_if_eq (tgt := 28) hx hb dX1_setTerms_16 (by decide) (fun (h6 : p2.toInt = 0) => ?_) (fun (h6 : ¬ p2.toInt = 0) => ?_)
  · refine lv_aload hx hb dX1_setTerms_28 (lv_at hl 0 rfl) ?_
    refine lv_iload_n hx hb dX1_setTerms_30 rfl (lv_at hl 3 rfl) ?_
    refine ptN_free hC hin0 hY (k := ix p0) (ix_lt h3) (by decide) dX1_setTerms_31 (fun H locs hY => ?_)
    refine lv_aload hx hb dX1_setTerms_34 (lv_at hl 0 rfl) ?_
    refine lv_iload_n hx hb dX1_setTerms_36 rfl (lv_at hl 4 rfl) ?_
    refine ptN_every hC hin0 hY (k := ix p0) (ix_lt h3) (by decide) dX1_setTerms_37 (fun H locs hY => ?_)
    exact vx_ret (g_vret hC hr hlocks hY ⟨Nat.le_of_ble_eq_true rfl, Nat.le_of_ble_eq_true rfl⟩ dX1_setTerms_40 (by unfold cdTerms; (repeat' split) <;> first | rfl | omega))
  · refine lv_iload_n hx hb dX1_setTerms_19 rfl (lv_at hl 4 rfl) ?_
    refine lv_bipush (v := 30) hx hb dX1_setTerms_20 (by decide) ?_
    refine lv_sipush (v := 1800) hx hb dX1_setTerms_22 (by decide) ?_
    refine gx_callv hY (gx_runS (n := 3) hC (c_X1_checkRange l G ad σ n τ hst p2 30 1800 30 1800 rfl rfl) gX1_setTerms_X1_checkRange rfl ⟨rfl, rfl⟩ (by decide +kernel) ⟨Nat.le_of_ble_eq_true rfl, Nat.le_of_ble_eq_true rfl⟩ hY rfl hl.1 rfl (Nat.le_of_ble_eq_true rfl) dX1_setTerms_25 ⟨Nat.le_of_ble_eq_true rfl, Nat.le_of_ble_eq_true rfl⟩) hxt hlocks ⟨Nat.le_of_ble_eq_true rfl, Nat.le_of_ble_eq_true rfl⟩ (fun E h => Or.inr <| Or.inl ⟨h.1, by have q := h.2; unfold cdTerms; (repeat' split) <;> first | rfl | omega⟩) (fun H locs h8 hY => ?_)
    refine lv_aload hx hb dX1_setTerms_28 (lv_at hl 0 rfl) ?_
    refine lv_iload_n hx hb dX1_setTerms_30 rfl (lv_at hl 3 rfl) ?_
    refine ptN_free hC hin0 hY (k := ix p0) (ix_lt h3) (by decide) dX1_setTerms_31 (fun H locs hY => ?_)
    refine lv_aload hx hb dX1_setTerms_34 (lv_at hl 0 rfl) ?_
    refine lv_iload_n hx hb dX1_setTerms_36 rfl (lv_at hl 4 rfl) ?_
    refine ptN_every hC hin0 hY (k := ix p0) (ix_lt h3) (by decide) dX1_setTerms_37 (fun H locs hY => ?_)
    exact vx_ret (g_vret hC hr hlocks hY ⟨Nat.le_of_ble_eq_true rfl, Nat.le_of_ble_eq_true rfl⟩ dX1_setTerms_40 (by unfold cdTerms; (repeat' split) <;> first | rfl | omega))

def cdServ (n : Nat) (p0 p1 p2 : Int32) : Int32 := if 0 ≤ p0.toInt ∧ p0.toInt < (n : Int) then (if (-1 ≤ p1.toInt ∧ p1.toInt ≤ 999999) ∧ (0 ≤ p2.toInt ∧ p2.toInt ≤ 9999) then 0 else 2) else 1
set_option maxHeartbeats 4000000 in
set_option maxRecDepth 100000 in
theorem c_X1_setService (l : Launch) (G : GG) (ad : Nat → Nat) (σ : St) (n : Nat) (τ : St) (hst : l.stackTraces = false) (hn : n ≤ 24) (p0 p1 p2 : Int32)  : vx_Met l yX1_setService wsX1_setService ({ frames := 8, cells := 6, slots := 36, locals := 160 }) (PcS G ad σ n τ [.ref (ad 0), .int p0, .int p1, .int p2]) (Qv G (3 * n + 9) ad (ctS G ad (us (us σ 9 (ix p0) p1) 10 (ix p0) p2) n τ) (cdServ n p0 p1 p2 = 0)) (XG G (3 * n + 9) ad (ctS G ad σ n τ) (fun E => exC E (cdServ n p0 p1 p2))) 6 36 (gF G) := by
  refine vx_ofW (cc := cX1_setService) (maxL := 5) (ret := none) (by decide) rfl ?_
  intro p e s m args below meth c s₁ B hml hxt hv
  obtain ⟨rfl, hY⟩ := hv
  have hts := atoms_spec (ws := wsX1_setService) B.pre
  have hC : CallFix p m c cX1_setService 5 s _ wsX1_setService RX1 := ⟨B.exec, B.bytes, hml, findClass_of_methodNamed B.named, hts⟩
  have hx := hC.1
  have hb := hC.2.1
  have hr := B.returns
  have hlocks := B.notSynchronized
  have hin0 : ∀ w ∈ wsX00, w ∈ wsX1_setService := by decide +kernel
  have hin1 : ∀ w ∈ wsX10, w ∈ wsX1_setService := by decide +kernel
  have hl := lv_entry ([.ref (ad 0), .int p0, .int p1, .int p2]) (n := 5) (Nat.le_of_ble_eq_true rfl)
  rw [lg_entry_eq]
  generalize (lg_sl ([.ref (ad 0), .int p0, .int p1, .int p2]) ++ List.replicate (5 - (lg_sl ([.ref (ad 0), .int p0, .int p1, .int p2])).length) Slot.unset).toArray = ls at hl ⊢
  have hl : lv_has ls 5 [(0, .ref (ad 0)), (1, .int p0), (2, .int p1), (3, .int p2)] := hl
  refine lv_aload_n hx hb dX1_setService_0 rfl (lv_at hl 0 rfl) ?_
  refine lv_iload_n hx hb dX1_setService_1 rfl (lv_at hl 1 rfl) ?_
  refine gx_callq hY (gx_runV (n := 1) (q := (RX1, TX1, 5)) (r := 0) hC (c_X1_find l G ad σ n τ hst hn p0) gX1_setService_X1_find rfl ⟨rfl, rfl⟩ (by decide +kernel) ⟨Nat.le_of_ble_eq_true rfl, Nat.le_of_ble_eq_true rfl⟩ hY (by omega) rfl (ci := 1) rfl rfl hl.1 rfl (Nat.le_of_ble_eq_true rfl) dX1_setService_2 ⟨Nat.le_of_ble_eq_true rfl, Nat.le_of_ble_eq_true rfl⟩) hxt hlocks ⟨Nat.le_of_ble_eq_true rfl, Nat.le_of_ble_eq_true rfl⟩ (fun E h => Or.inl ⟨h.1, by have q := h.2; unfold cdServ; (repeat' split) <;> first | rfl | omega⟩) (fun r1 H locs h2 hY => ?_)
  obtain ⟨rfl, h3⟩ := h2
  refine lv_astore (lv' := [(4, .ref (ad (3 * ix p0 + 9))), (0, .ref (ad 0)), (1, .int p0), (2, .int p1), (3, .int p2)]) hx hb dX1_setService_5 hl (by decide) rfl (fun ls hl => ?_)
  refine lv_iload_n hx hb dX1_setService_7 rfl (lv_at hl 3 rfl) ?_
  refine lv_iconst (v := (-1)) hx hb dX1_setService_8 (by decide) ?_
  refine b_icmp_eq (tgt := 19) hx hb dX1_setService_9 (by decide) (fun (h4 : p1.toInt = (-1)) => ?_) (fun (h4 : ¬ p1.toInt = (-1)) => ?_)
  · refine lv_iload_n hx hb dX1_setService_19 rfl (lv_at hl 4 rfl) ?_
    refine lv_iconst (v := 0) hx hb dX1_setService_20 (by decide) ?_
    refine lv_sipush (v := 9999) hx hb dX1_setService_21 (by decide) ?_
    refine gx_callv hY (gx_runS (n := 3) hC (c_X1_checkRange l G ad σ n τ hst p2 0 9999 0 9999 rfl rfl) gX1_setService_X1_checkRange rfl ⟨rfl, rfl⟩ (by decide +kernel) ⟨Nat.le_of_ble_eq_true rfl, Nat.le_of_ble_eq_true rfl⟩ hY rfl hl.1 rfl (Nat.le_of_ble_eq_true rfl) dX1_setService_24 ⟨Nat.le_of_ble_eq_true rfl, Nat.le_of_ble_eq_true rfl⟩) hxt hlocks ⟨Nat.le_of_ble_eq_true rfl, Nat.le_of_ble_eq_true rfl⟩ (fun E h => Or.inr <| Or.inl ⟨h.1, by have q := h.2; unfold cdServ; (repeat' split) <;> first | rfl | omega⟩) (fun H locs h6 hY => ?_)
    refine lv_aload hx hb dX1_setService_27 (lv_at hl 0 rfl) ?_
    refine lv_iload_n hx hb dX1_setService_29 rfl (lv_at hl 3 rfl) ?_
    refine ptN_cap hC hin0 hY (k := ix p0) (ix_lt h3) (by decide) dX1_setService_30 (fun H locs hY => ?_)
    refine lv_aload hx hb dX1_setService_33 (lv_at hl 0 rfl) ?_
    refine lv_iload_n hx hb dX1_setService_35 rfl (lv_at hl 4 rfl) ?_
    refine ptN_prepaid hC hin0 hY (k := ix p0) (ix_lt h3) (by decide) dX1_setService_36 (fun H locs hY => ?_)
    exact vx_ret (g_vret hC hr hlocks hY ⟨Nat.le_of_ble_eq_true rfl, Nat.le_of_ble_eq_true rfl⟩ dX1_setService_39 (by unfold cdServ; (repeat' split) <;> first | rfl | omega))
  · refine lv_iload_n hx hb dX1_setService_12 rfl (lv_at hl 3 rfl) ?_
    refine lv_iconst (v := 0) hx hb dX1_setService_13 (by decide) ?_
    refine lv_ldc (v := 999999) hx hb hC.2.2.2.1 (hC.2.2.2.2 _ (by decide +kernel)) dX1_setService_14 ?_
    refine gx_callv hY (gx_runS (n := 3) hC (c_X1_checkRange l G ad σ n τ hst p1 0 999999 0 999999 rfl rfl) gX1_setService_X1_checkRange rfl ⟨rfl, rfl⟩ (by decide +kernel) ⟨Nat.le_of_ble_eq_true rfl, Nat.le_of_ble_eq_true rfl⟩ hY rfl hl.1 rfl (Nat.le_of_ble_eq_true rfl) dX1_setService_16 ⟨Nat.le_of_ble_eq_true rfl, Nat.le_of_ble_eq_true rfl⟩) hxt hlocks ⟨Nat.le_of_ble_eq_true rfl, Nat.le_of_ble_eq_true rfl⟩ (fun E h => Or.inr <| Or.inl ⟨h.1, by have q := h.2; unfold cdServ; (repeat' split) <;> first | rfl | omega⟩) (fun H locs h8 hY => ?_)
    refine lv_iload_n hx hb dX1_setService_19 rfl (lv_at hl 4 rfl) ?_
    refine lv_iconst (v := 0) hx hb dX1_setService_20 (by decide) ?_
    refine lv_sipush (v := 9999) hx hb dX1_setService_21 (by decide) ?_
    refine gx_callv hY (gx_runS (n := 3) hC (c_X1_checkRange l G ad σ n τ hst p2 0 9999 0 9999 rfl rfl) gX1_setService_X1_checkRange rfl ⟨rfl, rfl⟩ (by decide +kernel) ⟨Nat.le_of_ble_eq_true rfl, Nat.le_of_ble_eq_true rfl⟩ hY rfl hl.1 rfl (Nat.le_of_ble_eq_true rfl) dX1_setService_24 ⟨Nat.le_of_ble_eq_true rfl, Nat.le_of_ble_eq_true rfl⟩) hxt hlocks ⟨Nat.le_of_ble_eq_true rfl, Nat.le_of_ble_eq_true rfl⟩ (fun E h => Or.inr <| Or.inl ⟨h.1, by have q := h.2; unfold cdServ; (repeat' split) <;> first | rfl | omega⟩) (fun H locs h10 hY => ?_)
    refine lv_aload hx hb dX1_setService_27 (lv_at hl 0 rfl) ?_
    refine lv_iload_n hx hb dX1_setService_29 rfl (lv_at hl 3 rfl) ?_
    refine ptN_cap hC hin0 hY (k := ix p0) (ix_lt h3) (by decide) dX1_setService_30 (fun H locs hY => ?_)
    refine lv_aload hx hb dX1_setService_33 (lv_at hl 0 rfl) ?_
    refine lv_iload_n hx hb dX1_setService_35 rfl (lv_at hl 4 rfl) ?_
    refine ptN_prepaid hC hin0 hY (k := ix p0) (ix_lt h3) (by decide) dX1_setService_36 (fun H locs hY => ?_)
    exact vx_ret (g_vret hC hr hlocks hY ⟨Nat.le_of_ble_eq_true rfl, Nat.le_of_ble_eq_true rfl⟩ dX1_setService_39 (by unfold cdServ; (repeat' split) <;> first | rfl | omega))

def cdTop (σ : St) (n : Nat) (p0 p1 p2 : Int32) : Int32 := if 0 ≤ p0.toInt ∧ p0.toInt < (n : Int) then (if ((σ 4 (ix p0)).toInt ≤ p1.toInt ∧ p1.toInt < (σ 5 (ix p0)).toInt) ∧ 1 ≤ p2.toInt ∧ p2.toInt ≤ 6 then 0 else 2) else 1
abbrev tpV (σ : St) (k : Nat) (d t : Int32) : Int32 := mxF 0 (t * rfF σ k d - σ 11 k)
set_option maxHeartbeats 4000000 in
set_option maxRecDepth 100000 in
theorem c_X1_topUp (l : Launch) (G : GG) (ad : Nat → Nat) (σ : St) (n : Nat) (τ : St) (hst : l.stackTraces = false) (hn : n ≤ 24) (hI : ∀ k, k < n → okL σ k) (p0 p1 p2 : Int32)  : vx_Met l yX1_topUp wsX1_topUp ({ frames := 8, cells := 6, slots := 36, locals := 160 }) (PcS G ad σ n τ [.ref (ad 0), .int p0, .int p1, .int p2]) (Qi G (3 * n + 9) ad (ctS G ad (us σ 11 (ix p0) (σ 11 (ix p0) + tpV σ (ix p0) p1 p2)) n τ) (fun r => cdTop σ n p0 p1 p2 = 0 ∧ r = tpV σ (ix p0) p1 p2)) (XG G (3 * n + 9) ad (ctS G ad σ n τ) (fun E => exC E (cdTop σ n p0 p1 p2))) 6 36 (gF G) := by
  refine vx_ofW (cc := cX1_topUp) (maxL := 6) (ret := (some .int)) (by decide) rfl ?_
  intro p e s m args below meth c s₁ B hml hxt hv
  obtain ⟨rfl, hY⟩ := hv
  have hts := atoms_spec (ws := wsX1_topUp) B.pre
  have hC : CallFix p m c cX1_topUp 6 s _ wsX1_topUp RX1 := ⟨B.exec, B.bytes, hml, findClass_of_methodNamed B.named, hts⟩
  have hx := hC.1
  have hb := hC.2.1
  have hr := B.returns
  have hlocks := B.notSynchronized
  have hin0 : ∀ w ∈ wsX00, w ∈ wsX1_topUp := by decide +kernel
  have hin1 : ∀ w ∈ wsX10, w ∈ wsX1_topUp := by decide +kernel
  have hl := lv_entry ([.ref (ad 0), .int p0, .int p1, .int p2]) (n := 6) (Nat.le_of_ble_eq_true rfl)
  rw [lg_entry_eq]
  generalize (lg_sl ([.ref (ad 0), .int p0, .int p1, .int p2]) ++ List.replicate (6 - (lg_sl ([.ref (ad 0), .int p0, .int p1, .int p2])).length) Slot.unset).toArray = ls at hl ⊢
  have hl : lv_has ls 6 [(0, .ref (ad 0)), (1, .int p0), (2, .int p1), (3, .int p2)] := hl
  refine lv_aload_n hx hb dX1_topUp_0 rfl (lv_at hl 0 rfl) ?_
  refine lv_iload_n hx hb dX1_topUp_1 rfl (lv_at hl 1 rfl) ?_
  refine gx_callq hY (gx_runV (n := 1) (q := (RX1, TX1, 5)) (r := 0) hC (c_X1_find l G ad σ n τ hst hn p0) gX1_topUp_X1_find rfl ⟨rfl, rfl⟩ (by decide +kernel) ⟨Nat.le_of_ble_eq_true rfl, Nat.le_of_ble_eq_true rfl⟩ hY (by omega) rfl (ci := 1) rfl rfl hl.1 rfl (Nat.le_of_ble_eq_true rfl) dX1_topUp_2 ⟨Nat.le_of_ble_eq_true rfl, Nat.le_of_ble_eq_true rfl⟩) hxt hlocks ⟨Nat.le_of_ble_eq_true rfl, Nat.le_of_ble_eq_true rfl⟩ (fun E h => Or.inl ⟨h.1, by have q := h.2; unfold cdTop; (repeat' split) <;> first | rfl | omega⟩) (fun r1 H locs h2 hY => ?_)
  obtain ⟨rfl, h3⟩ := h2
  refine lv_astore (lv' := [(4, .ref (ad (3 * ix p0 + 9))), (0, .ref (ad 0)), (1, .int p0), (2, .int p1), (3, .int p2)]) hx hb dX1_topUp_5 hl (by decide) rfl (fun ls hl => ?_)
  refine lv_iload_n hx hb dX1_topUp_7 rfl (lv_at hl 3 rfl) ?_
  refine lv_aload hx hb dX1_topUp_8 (lv_at hl 0 rfl) ?_
  refine gtN_from hC hin0 hY (k := ix p0) (ix_lt h3) (by decide) dX1_topUp_10 ?_
  refine lv_aload hx hb dX1_topUp_13 (lv_at hl 0 rfl) ?_
  refine gtN_to hC hin0 hY (k := ix p0) (ix_lt h3) (by decide) dX1_topUp_15 ?_
  refine lv_iconst (v := 1) hx hb dX1_topUp_18 (by decide) ?_
  refine lv_isub hx hb dX1_topUp_19 ?_
  refine gx_callv hY (gx_runS (n := 3) hC (c_X1_checkRange l G ad σ n τ hst p1 (σ 4 (ix p0)) ((σ 5 (ix p0)) - 1) ((σ 4 (ix p0)).toInt) ((σ 5 (ix p0)).toInt - 1) rfl (ok_t1 (hI _ (ix_lt h3)))) gX1_topUp_X1_checkRange rfl ⟨rfl, rfl⟩ (by decide +kernel) ⟨Nat.le_of_ble_eq_true rfl, Nat.le_of_ble_eq_true rfl⟩ hY rfl hl.1 rfl (Nat.le_of_ble_eq_true rfl) dX1_topUp_20 ⟨Nat.le_of_ble_eq_true rfl, Nat.le_of_ble_eq_true rfl⟩) hxt hlocks ⟨Nat.le_of_ble_eq_true rfl, Nat.le_of_ble_eq_true rfl⟩ (fun E h => Or.inr <| Or.inl ⟨h.1, by have q := h.2; unfold cdTop; (repeat' split) <;> first | rfl | omega⟩) (fun H locs h5 hY => ?_)
  refine lv_iload_n hx hb dX1_topUp_23 rfl (lv_at hl 4 rfl) ?_
  refine lv_iconst (v := 1) hx hb dX1_topUp_24 (by decide) ?_
  refine lv_bipush (v := 6) hx hb dX1_topUp_25 (by decide) ?_
  refine gx_callv hY (gx_runS (n := 3) hC (c_X1_checkRange l G ad σ n τ hst p2 1 6 1 6 rfl rfl) gX1_topUp_X1_checkRange rfl ⟨rfl, rfl⟩ (by decide +kernel) ⟨Nat.le_of_ble_eq_true rfl, Nat.le_of_ble_eq_true rfl⟩ hY rfl hl.1 rfl (Nat.le_of_ble_eq_true rfl) dX1_topUp_27 ⟨Nat.le_of_ble_eq_true rfl, Nat.le_of_ble_eq_true rfl⟩) hxt hlocks ⟨Nat.le_of_ble_eq_true rfl, Nat.le_of_ble_eq_true rfl⟩ (fun E h => Or.inr <| Or.inl ⟨h.1, by have q := h.2; unfold cdTop; (repeat' split) <;> first | rfl | omega⟩) (fun H locs h7 hY => ?_)
  refine lv_iconst (v := 0) hx hb dX1_topUp_30 (by decide) ?_
  refine lv_iload_n hx hb dX1_topUp_31 rfl (lv_at hl 4 rfl) ?_
  refine lv_aload_n hx hb dX1_topUp_32 rfl (lv_at hl 1 rfl) ?_
  refine lv_aload hx hb dX1_topUp_33 (lv_at hl 0 rfl) ?_
  refine lv_iload_n hx hb dX1_topUp_35 rfl (lv_at hl 3 rfl) ?_
  refine g_calli hY (g_runV (n := 2) (q := (RX1, TX1, 5)) (r := 0) hC (c_X1_rentFor l G ad σ n τ (ix p0) (ix_lt h3) p1 (hI _ (ix_lt h3)) (by have hq := (hI _ (ix_lt h3)); obtain ⟨-, ⟨q1, q2, q3⟩, -⟩ := hq; omega)) gX1_topUp_X1_rentFor rfl ⟨rfl, rfl⟩ (by decide +kernel) ⟨Nat.le_of_ble_eq_true rfl, Nat.le_of_ble_eq_true rfl⟩ hY (by omega) rfl (ci := 1) rfl rfl hl.1 rfl (Nat.le_of_ble_eq_true rfl) dX1_topUp_36 ⟨Nat.le_of_ble_eq_true rfl, Nat.le_of_ble_eq_true rfl⟩) (fun r8 H locs h9 hY => ?_)
  subst h9
  refine lv_imul hx hb dX1_topUp_39 ?_
  refine lv_aload hx hb dX1_topUp_40 (lv_at hl 0 rfl) ?_
  refine gtN_deposit hC hin0 hY (k := ix p0) (ix_lt h3) (by decide) dX1_topUp_42 ?_
  refine lv_isub hx hb dX1_topUp_45 ?_
  refine va_mmax hx hb (hC.2.2.1.trans hl.1.symm) hC.2.2.2.1 (hC.2.2.2.2 _ (by decide +kernel)) (hC.2.2.2.2 _ (by decide +kernel)) (hC.2.2.2.2 _ (by decide +kernel)) (hC.2.2.2.2 _ (by decide +kernel)) (Nat.le_of_ble_eq_true rfl) (Nat.le_of_ble_eq_true rfl) (Nat.le_of_ble_eq_true rfl) (Nat.le_of_ble_eq_true rfl) dX1_topUp_46 ?_
  refine lv_istore (lv' := [(5, .int (if 0 < ((p2 * (rfF σ (ix p0) p1)) - (σ 11 (ix p0))) then ((p2 * (rfF σ (ix p0) p1)) - (σ 11 (ix p0))) else 0)), (4, .ref (ad (3 * ix p0 + 9))), (0, .ref (ad 0)), (1, .int p0), (2, .int p1), (3, .int p2)]) hx hb dX1_topUp_49 hl (by decide) rfl (fun ls hl => ?_)
  refine lv_aload hx hb dX1_topUp_51 (lv_at hl 1 rfl) ?_
  refine lv_dup hx hb dX1_topUp_53 rfl ?_
  refine gtN_deposit hC hin0 hY (k := ix p0) (ix_lt h3) (by decide) dX1_topUp_54 ?_
  refine lv_iload hx hb dX1_topUp_57 (lv_at hl 0 rfl) ?_
  refine lv_iadd hx hb dX1_topUp_59 ?_
  refine ptN_deposit hC hin0 hY (k := ix p0) (ix_lt h3) (by decide) dX1_topUp_60 (fun H locs hY => ?_)
  refine lv_iload hx hb dX1_topUp_63 (lv_at hl 0 rfl) ?_
  exact vx_ret (g_iret hC hr hlocks hY ⟨Nat.le_of_ble_eq_true rfl, Nat.le_of_ble_eq_true rfl⟩ dX1_topUp_65 (⟨by unfold cdTop; (repeat' split) <;> first | rfl | omega, rfl⟩))

def cdDraw (σ : St) (n : Nat) (p0 p1 : Int32) : Int32 := if 0 ≤ p0.toInt ∧ p0.toInt < (n : Int) then (if 1 ≤ p1.toInt ∧ p1.toInt ≤ 999999 then (if (σ 11 (ix p0)).toInt < p1.toInt then 3 else 0) else 2) else 1
set_option maxHeartbeats 4000000 in
set_option maxRecDepth 100000 in
theorem c_X1_draw (l : Launch) (G : GG) (ad : Nat → Nat) (σ : St) (n : Nat) (τ : St) (hst : l.stackTraces = false) (hn : n ≤ 24) (p0 p1 : Int32)  : vx_Met l yX1_draw wsX1_draw ({ frames := 8, cells := 6, slots := 36, locals := 160 }) (PcS G ad σ n τ [.ref (ad 0), .int p0, .int p1]) (Qi G (3 * n + 9) ad (ctS G ad (us σ 11 (ix p0) (σ 11 (ix p0) - p1)) n τ) (fun r => cdDraw σ n p0 p1 = 0 ∧ r = us σ 11 (ix p0) (σ 11 (ix p0) - p1) 11 (ix p0))) (XG G (3 * n + 9) ad (ctS G ad σ n τ) (fun E => exC E (cdDraw σ n p0 p1))) 6 36 (gF G) := by
  refine vx_ofW (cc := cX1_draw) (maxL := 4) (ret := (some .int)) (by decide) rfl ?_
  intro p e s m args below meth c s₁ B hml hxt hv
  obtain ⟨rfl, hY⟩ := hv
  have hts := atoms_spec (ws := wsX1_draw) B.pre
  have hC : CallFix p m c cX1_draw 4 s _ wsX1_draw RX1 := ⟨B.exec, B.bytes, hml, findClass_of_methodNamed B.named, hts⟩
  have hx := hC.1
  have hb := hC.2.1
  have hr := B.returns
  have hlocks := B.notSynchronized
  have hin0 : ∀ w ∈ wsX00, w ∈ wsX1_draw := by decide +kernel
  have hin1 : ∀ w ∈ wsX10, w ∈ wsX1_draw := by decide +kernel
  have hl := lv_entry ([.ref (ad 0), .int p0, .int p1]) (n := 4) (Nat.le_of_ble_eq_true rfl)
  rw [lg_entry_eq]
  generalize (lg_sl ([.ref (ad 0), .int p0, .int p1]) ++ List.replicate (4 - (lg_sl ([.ref (ad 0), .int p0, .int p1])).length) Slot.unset).toArray = ls at hl ⊢
  have hl : lv_has ls 4 [(0, .ref (ad 0)), (1, .int p0), (2, .int p1)] := hl
  refine lv_aload_n hx hb dX1_draw_0 rfl (lv_at hl 0 rfl) ?_
  refine lv_iload_n hx hb dX1_draw_1 rfl (lv_at hl 1 rfl) ?_
  refine gx_callq hY (gx_runV (n := 1) (q := (RX1, TX1, 5)) (r := 0) hC (c_X1_find l G ad σ n τ hst hn p0) gX1_draw_X1_find rfl ⟨rfl, rfl⟩ (by decide +kernel) ⟨Nat.le_of_ble_eq_true rfl, Nat.le_of_ble_eq_true rfl⟩ hY (by omega) rfl (ci := 1) rfl rfl hl.1 rfl (Nat.le_of_ble_eq_true rfl) dX1_draw_2 ⟨Nat.le_of_ble_eq_true rfl, Nat.le_of_ble_eq_true rfl⟩) hxt hlocks ⟨Nat.le_of_ble_eq_true rfl, Nat.le_of_ble_eq_true rfl⟩ (fun E h => Or.inl ⟨h.1, by have q := h.2; unfold cdDraw; (repeat' split) <;> first | rfl | omega⟩) (fun r1 H locs h2 hY => ?_)
  obtain ⟨rfl, h3⟩ := h2
  refine lv_astore_n (lv' := [(3, .ref (ad (3 * ix p0 + 9))), (0, .ref (ad 0)), (1, .int p0), (2, .int p1)]) hx hb dX1_draw_5 rfl hl (by decide) rfl (fun ls hl => ?_)
  refine lv_iload_n hx hb dX1_draw_6 rfl (lv_at hl 3 rfl) ?_
  refine lv_iconst (v := 1) hx hb dX1_draw_7 (by decide) ?_
  refine lv_ldc (v := 999999) hx hb hC.2.2.2.1 (hC.2.2.2.2 _ (by decide +kernel)) dX1_draw_8 ?_
  refine gx_callv hY (gx_runS (n := 3) hC (c_X1_checkRange l G ad σ n τ hst p1 1 999999 1 999999 rfl rfl) gX1_draw_X1_checkRange rfl ⟨rfl, rfl⟩ (by decide +kernel) ⟨Nat.le_of_ble_eq_true rfl, Nat.le_of_ble_eq_true rfl⟩ hY rfl hl.1 rfl (Nat.le_of_ble_eq_true rfl) dX1_draw_10 ⟨Nat.le_of_ble_eq_true rfl, Nat.le_of_ble_eq_true rfl⟩) hxt hlocks ⟨Nat.le_of_ble_eq_true rfl, Nat.le_of_ble_eq_true rfl⟩ (fun E h => Or.inr <| Or.inl ⟨h.1, by have q := h.2; unfold cdDraw; (repeat' split) <;> first | rfl | omega⟩) (fun H locs h5 hY => ?_)
  refine lv_aload_n hx hb dX1_draw_13 rfl (lv_at hl 0 rfl) ?_
  refine gtN_deposit hC hin0 hY (k := ix p0) (ix_lt h3) (by decide) dX1_draw_14 ?_
  refine lv_iload_n hx hb dX1_draw_17 rfl (lv_at hl 3 rfl) ?_
  refine b_icmp_ge (tgt := 31) hx hb dX1_draw_18 (by decide) (fun (h6 : p1.toInt ≤ (σ 11 (ix p0)).toInt) => ?_) (fun (h6 : (σ 11 (ix p0)).toInt < p1.toInt) => ?_)
  · refine lv_aload_n hx hb dX1_draw_31 rfl (lv_at hl 0 rfl) ?_
    refine lv_dup hx hb dX1_draw_32 rfl ?_
    refine gtN_deposit hC hin0 hY (k := ix p0) (ix_lt h3) (by decide) dX1_draw_33 ?_
    refine lv_iload_n hx hb dX1_draw_36 rfl (lv_at hl 3 rfl) ?_
    refine lv_isub hx hb dX1_draw_37 ?_
    refine ptN_deposit hC hin0 hY (k := ix p0) (ix_lt h3) (by decide) dX1_draw_38 (fun H locs hY => ?_)
    refine lv_aload_n hx hb dX1_draw_41 rfl (lv_at hl 0 rfl) ?_
    refine gtN_deposit hC hin0 hY (k := ix p0) (ix_lt h3) (by decide) dX1_draw_42 ?_
    exact vx_ret (g_iret hC hr hlocks hY ⟨Nat.le_of_ble_eq_true rfl, Nat.le_of_ble_eq_true rfl⟩ dX1_draw_45 (⟨by unfold cdDraw; (repeat' split) <;> first | rfl | omega, rfl⟩))
  · exact g_throw hC hst hY hxt hlocks (E := xS) (text := "less is held") (by decide +kernel) (by decide +kernel) (by decide +kernel) (by decide) (fun w h => List.mem_cons_of_mem _ (List.mem_append_left _ (List.mem_append_left _ (List.mem_append_right _ h)))) at_S1 at_G1 hY.2.2.2.2.2.1.2.2 hl.1 dX1_draw_21 dX1_draw_24 dX1_draw_25 dX1_draw_27 dX1_draw_30 ⟨Nat.le_of_ble_eq_true rfl, Nat.le_of_ble_eq_true rfl, Nat.le_of_ble_eq_true rfl, Nat.le_of_ble_eq_true rfl⟩ ⟨Nat.le_of_ble_eq_true rfl, Nat.le_of_ble_eq_true rfl⟩ (Or.inr (Or.inr ⟨rfl, by unfold cdDraw; (repeat' split) <;> first | rfl | omega⟩))

def cdHeld (n : Nat) (p0 : Int32) : Int32 := if 0 ≤ p0.toInt ∧ p0.toInt < (n : Int) then 0 else 1
set_option maxHeartbeats 4000000 in
set_option maxRecDepth 100000 in
theorem c_X1_held (l : Launch) (G : GG) (ad : Nat → Nat) (σ : St) (n : Nat) (τ : St) (hst : l.stackTraces = false) (hn : n ≤ 24) (p0 : Int32)  : vx_Met l yX1_held wsX1_held ({ frames := 8, cells := 6, slots := 36, locals := 160 }) (PcS G ad σ n τ [.ref (ad 0), .int p0]) (Qi G (3 * n + 9) ad (ctS G ad σ n τ) (fun r => cdHeld n p0 = 0 ∧ r = σ 11 (ix p0))) (XG G (3 * n + 9) ad (ctS G ad σ n τ) (fun E => exC E (cdHeld n p0))) 6 36 (gF G) := by
  refine vx_ofW (cc := cX1_held) (maxL := 2) (ret := (some .int)) (by decide) rfl ?_
  intro p e s m args below meth c s₁ B hml hxt hv
  obtain ⟨rfl, hY⟩ := hv
  have hts := atoms_spec (ws := wsX1_held) B.pre
  have hC : CallFix p m c cX1_held 2 s _ wsX1_held RX1 := ⟨B.exec, B.bytes, hml, findClass_of_methodNamed B.named, hts⟩
  have hx := hC.1
  have hb := hC.2.1
  have hr := B.returns
  have hlocks := B.notSynchronized
  have hin0 : ∀ w ∈ wsX00, w ∈ wsX1_held := by decide +kernel
  have hin1 : ∀ w ∈ wsX10, w ∈ wsX1_held := by decide +kernel
  have hl := lv_entry ([.ref (ad 0), .int p0]) (n := 2) (Nat.le_of_ble_eq_true rfl)
  rw [lg_entry_eq]
  generalize (lg_sl ([.ref (ad 0), .int p0]) ++ List.replicate (2 - (lg_sl ([.ref (ad 0), .int p0])).length) Slot.unset).toArray = ls at hl ⊢
  have hl : lv_has ls 2 [(0, .ref (ad 0)), (1, .int p0)] := hl
  refine lv_aload_n hx hb dX1_held_0 rfl (lv_at hl 0 rfl) ?_
  refine lv_iload_n hx hb dX1_held_1 rfl (lv_at hl 1 rfl) ?_
  refine gx_callq hY (gx_runV (n := 1) (q := (RX1, TX1, 5)) (r := 0) hC (c_X1_find l G ad σ n τ hst hn p0) gX1_held_X1_find rfl ⟨rfl, rfl⟩ (by decide +kernel) ⟨Nat.le_of_ble_eq_true rfl, Nat.le_of_ble_eq_true rfl⟩ hY (by omega) rfl (ci := 1) rfl rfl hl.1 rfl (Nat.le_of_ble_eq_true rfl) dX1_held_2 ⟨Nat.le_of_ble_eq_true rfl, Nat.le_of_ble_eq_true rfl⟩) hxt hlocks ⟨Nat.le_of_ble_eq_true rfl, Nat.le_of_ble_eq_true rfl⟩ (fun E h => Or.inl ⟨h.1, by have q := h.2; unfold cdHeld; (repeat' split) <;> first | rfl | omega⟩) (fun r1 H locs h2 hY => ?_)
  obtain ⟨rfl, h3⟩ := h2
  refine gtN_deposit hC hin0 hY (k := ix p0) (ix_lt h3) (by decide) dX1_held_5 ?_
  exact vx_ret (g_iret hC hr hlocks hY ⟨Nat.le_of_ble_eq_true rfl, Nat.le_of_ble_eq_true rfl⟩ dX1_held_8 (⟨by unfold cdHeld; (repeat' split) <;> first | rfl | omega, rfl⟩))


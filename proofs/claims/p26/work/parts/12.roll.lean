/-! the roll's helpers -/
def exC (E : String) (c : Int32) : Prop := (E = xI ∧ c = 1) ∨ (E = xA ∧ c = 2) ∨ (E = xS ∧ c = 3)
set_option maxHeartbeats 4000000 in
set_option maxRecDepth 100000 in
theorem c_X1_checkNumber (l : Launch) (G : GG) (ad : Nat → Nat) (σ : St) (n : Nat) (τ : St) (hst : l.stackTraces = false) (p0 p1 : Int32) (N : Int) (hN : p1.toInt = N)  : vx_Met l yX1_checkNumber wsX1_checkNumber ({ frames := 6, cells := 1, slots := 6, locals := 90 }) (PcS G ad σ n τ [.int p0, .int p1]) (Qv G (3 * n + 9) ad (ctS G ad σ n τ) (0 ≤ p0.toInt ∧ p0.toInt < N)) (XG G (3 * n + 9) ad (ctS G ad σ n τ) (fun E => E = xI ∧ ¬ (0 ≤ p0.toInt ∧ p0.toInt < N))) 1 6 (gF G) := by
  refine vx_ofW (cc := cX1_checkNumber) (maxL := 2) (ret := none) (by decide) rfl ?_
  intro p e s m args below meth c s₁ B hml hxt hv
  obtain ⟨rfl, hY⟩ := hv
  have hts := atoms_spec (ws := wsX1_checkNumber) B.pre
  have hC : CallFix p m c cX1_checkNumber 2 s _ wsX1_checkNumber RX1 := ⟨B.exec, B.bytes, hml, findClass_of_methodNamed B.named, hts⟩
  have hx := hC.1
  have hb := hC.2.1
  have hr := B.returns
  have hlocks := B.notSynchronized
  have hl := lv_entry ([.int p0, .int p1]) (n := 2) (Nat.le_of_ble_eq_true rfl)
  rw [lg_entry_eq]
  generalize (lg_sl ([.int p0, .int p1]) ++ List.replicate (2 - (lg_sl ([.int p0, .int p1])).length) Slot.unset).toArray = ls at hl ⊢
  have hl : lv_has ls 2 [(0, .int p0), (1, .int p1)] := hl
  refine lv_iload_n hx hb dX1_checkNumber_0 rfl (lv_at hl 0 rfl) ?_
  refine b_if_lt (tgt := 9) hx hb dX1_checkNumber_1 (by decide) (fun (h1 : p0.toInt < 0) => ?_) (fun (h1 : 0 ≤ p0.toInt) => ?_)
  · exact g_throw hC hst hY hxt hlocks (E := xI) (text := "no such number") (by decide +kernel) (by decide +kernel) (by decide +kernel) (by decide) (fun w h => List.mem_cons_of_mem _ (List.mem_append_right _ h)) at_S2 at_G2 hY.2.2.2.2.2.1.1 hl.1 dX1_checkNumber_9 dX1_checkNumber_12 dX1_checkNumber_13 dX1_checkNumber_15 dX1_checkNumber_18 ⟨Nat.le_of_ble_eq_true rfl, Nat.le_of_ble_eq_true rfl, Nat.le_of_ble_eq_true rfl, Nat.le_of_ble_eq_true rfl⟩ ⟨Nat.le_of_ble_eq_true rfl, Nat.le_of_ble_eq_true rfl⟩ ⟨rfl, by intro q; have := q.1; have := q.2; omega⟩
  · refine lv_iload_n hx hb dX1_checkNumber_4 rfl (lv_at hl 0 rfl) ?_
    refine lv_iload_n hx hb dX1_checkNumber_5 rfl (lv_at hl 1 rfl) ?_
    refine b_icmp_lt (tgt := 19) hx hb dX1_checkNumber_6 (by decide) (fun (h2 : p0.toInt < p1.toInt) => ?_) (fun (h2 : p1.toInt ≤ p0.toInt) => ?_)
    · exact vx_ret (g_vret hC hr hlocks hY ⟨Nat.le_of_ble_eq_true rfl, Nat.le_of_ble_eq_true rfl⟩ dX1_checkNumber_19 (⟨by omega, by omega⟩))
    · exact g_throw hC hst hY hxt hlocks (E := xI) (text := "no such number") (by decide +kernel) (by decide +kernel) (by decide +kernel) (by decide) (fun w h => List.mem_cons_of_mem _ (List.mem_append_right _ h)) at_S2 at_G2 hY.2.2.2.2.2.1.1 hl.1 dX1_checkNumber_9 dX1_checkNumber_12 dX1_checkNumber_13 dX1_checkNumber_15 dX1_checkNumber_18 ⟨Nat.le_of_ble_eq_true rfl, Nat.le_of_ble_eq_true rfl, Nat.le_of_ble_eq_true rfl, Nat.le_of_ble_eq_true rfl⟩ ⟨Nat.le_of_ble_eq_true rfl, Nat.le_of_ble_eq_true rfl⟩ ⟨rfl, by intro q; have := q.1; have := q.2; omega⟩

set_option maxHeartbeats 4000000 in
set_option maxRecDepth 100000 in
theorem c_X1_checkRange (l : Launch) (G : GG) (ad : Nat → Nat) (σ : St) (n : Nat) (τ : St) (hst : l.stackTraces = false) (p0 p1 p2 : Int32) (a b : Int) (ha : p1.toInt = a) (hb9 : p2.toInt = b)  : vx_Met l yX1_checkRange wsX1_checkRange ({ frames := 6, cells := 1, slots := 6, locals := 90 }) (PcS G ad σ n τ [.int p0, .int p1, .int p2]) (Qv G (3 * n + 9) ad (ctS G ad σ n τ) (a ≤ p0.toInt ∧ p0.toInt ≤ b)) (XG G (3 * n + 9) ad (ctS G ad σ n τ) (fun E => E = xA ∧ ¬ (a ≤ p0.toInt ∧ p0.toInt ≤ b))) 1 6 (gF G) := by
  refine vx_ofW (cc := cX1_checkRange) (maxL := 3) (ret := none) (by decide) rfl ?_
  intro p e s m args below meth c s₁ B hml hxt hv
  obtain ⟨rfl, hY⟩ := hv
  have hts := atoms_spec (ws := wsX1_checkRange) B.pre
  have hC : CallFix p m c cX1_checkRange 3 s _ wsX1_checkRange RX1 := ⟨B.exec, B.bytes, hml, findClass_of_methodNamed B.named, hts⟩
  have hx := hC.1
  have hb := hC.2.1
  have hr := B.returns
  have hlocks := B.notSynchronized
  have hl := lv_entry ([.int p0, .int p1, .int p2]) (n := 3) (Nat.le_of_ble_eq_true rfl)
  rw [lg_entry_eq]
  generalize (lg_sl ([.int p0, .int p1, .int p2]) ++ List.replicate (3 - (lg_sl ([.int p0, .int p1, .int p2])).length) Slot.unset).toArray = ls at hl ⊢
  have hl : lv_has ls 3 [(0, .int p0), (1, .int p1), (2, .int p2)] := hl
  refine lv_iload_n hx hb dX1_checkRange_0 rfl (lv_at hl 0 rfl) ?_
  refine lv_iload_n hx hb dX1_checkRange_1 rfl (lv_at hl 1 rfl) ?_
  refine b_icmp_lt (tgt := 10) hx hb dX1_checkRange_2 (by decide) (fun (h1 : p0.toInt < p1.toInt) => ?_) (fun (h1 : p1.toInt ≤ p0.toInt) => ?_)
  · exact g_throw hC hst hY hxt hlocks (E := xA) (text := "out of range") (by decide +kernel) (by decide +kernel) (by decide +kernel) (by decide) (fun w h => List.mem_cons_of_mem _ (List.mem_append_right _ h)) at_S3 at_G3 hY.2.2.2.2.2.1.2.1 hl.1 dX1_checkRange_10 dX1_checkRange_13 dX1_checkRange_14 dX1_checkRange_16 dX1_checkRange_19 ⟨Nat.le_of_ble_eq_true rfl, Nat.le_of_ble_eq_true rfl, Nat.le_of_ble_eq_true rfl, Nat.le_of_ble_eq_true rfl⟩ ⟨Nat.le_of_ble_eq_true rfl, Nat.le_of_ble_eq_true rfl⟩ ⟨rfl, by intro q; have := q.1; have := q.2; omega⟩
  · refine lv_iload_n hx hb dX1_checkRange_5 rfl (lv_at hl 0 rfl) ?_
    refine lv_iload_n hx hb dX1_checkRange_6 rfl (lv_at hl 2 rfl) ?_
    refine b_icmp_le (tgt := 20) hx hb dX1_checkRange_7 (by decide) (fun (h2 : p0.toInt ≤ p2.toInt) => ?_) (fun (h2 : p2.toInt < p0.toInt) => ?_)
    · exact vx_ret (g_vret hC hr hlocks hY ⟨Nat.le_of_ble_eq_true rfl, Nat.le_of_ble_eq_true rfl⟩ dX1_checkRange_20 (⟨by omega, by omega⟩))
    · exact g_throw hC hst hY hxt hlocks (E := xA) (text := "out of range") (by decide +kernel) (by decide +kernel) (by decide +kernel) (by decide) (fun w h => List.mem_cons_of_mem _ (List.mem_append_right _ h)) at_S3 at_G3 hY.2.2.2.2.2.1.2.1 hl.1 dX1_checkRange_10 dX1_checkRange_13 dX1_checkRange_14 dX1_checkRange_16 dX1_checkRange_19 ⟨Nat.le_of_ble_eq_true rfl, Nat.le_of_ble_eq_true rfl, Nat.le_of_ble_eq_true rfl, Nat.le_of_ble_eq_true rfl⟩ ⟨Nat.le_of_ble_eq_true rfl, Nat.le_of_ble_eq_true rfl⟩ ⟨rfl, by intro q; have := q.1; have := q.2; omega⟩

set_option maxHeartbeats 4000000 in
set_option maxRecDepth 100000 in
theorem c_X1_find (l : Launch) (G : GG) (ad : Nat → Nat) (σ : St) (n : Nat) (τ : St) (hst : l.stackTraces = false) (hn : n ≤ 24) (p0 : Int32)  : vx_Met l yX1_find wsX1_find ({ frames := 7, cells := 2, slots := 12, locals := 120 }) (PcS G ad σ n τ [.ref (ad 0), .int p0]) (Qq G (3 * n + 9) ad (ctS G ad σ n τ) (fun r => r = some (ad (3 * ix p0 + 9)) ∧ (0 ≤ p0.toInt ∧ p0.toInt < (n : Int)))) (XG G (3 * n + 9) ad (ctS G ad σ n τ) (fun E => E = xI ∧ ¬ (0 ≤ p0.toInt ∧ p0.toInt < (n : Int)))) 2 12 (gF G) := by
  refine vx_ofW (cc := cX1_find) (maxL := 3) (ret := (some (.object "Voidrent$Lease"))) (by decide) rfl ?_
  intro p e s m args below meth c s₁ B hml hxt hv
  obtain ⟨rfl, hY⟩ := hv
  have hts := atoms_spec (ws := wsX1_find) B.pre
  have hC : CallFix p m c cX1_find 3 s _ wsX1_find RX1 := ⟨B.exec, B.bytes, hml, findClass_of_methodNamed B.named, hts⟩
  have hx := hC.1
  have hb := hC.2.1
  have hr := B.returns
  have hlocks := B.notSynchronized
  have hin1 : ∀ w ∈ wsX10, w ∈ wsX1_find := by decide +kernel
  have hl := lv_entry ([.ref (ad 0), .int p0]) (n := 3) (Nat.le_of_ble_eq_true rfl)
  rw [lg_entry_eq]
  generalize (lg_sl ([.ref (ad 0), .int p0]) ++ List.replicate (3 - (lg_sl ([.ref (ad 0), .int p0])).length) Slot.unset).toArray = ls at hl ⊢
  have hl : lv_has ls 3 [(0, .ref (ad 0)), (1, .int p0)] := hl
  refine lv_iload_n hx hb dX1_find_0 rfl (lv_at hl 1 rfl) ?_
  refine lv_aload_n hx hb dX1_find_1 rfl (lv_at hl 0 rfl) ?_
  refine gtV_roll hC hin1 hY (by decide +kernel) dX1_find_2 ?_
  refine g_alen hC hY 4 (by omega) 1 rfl rfl (v := 24) rfl dX1_find_5 ?_
  refine gx_callv hY (gx_runS (n := 2) hC (c_X1_checkNumber l G ad σ n τ hst p0 24 24 rfl) gX1_find_X1_checkNumber rfl ⟨rfl, rfl⟩ (by decide +kernel) ⟨Nat.le_of_ble_eq_true rfl, Nat.le_of_ble_eq_true rfl⟩ hY rfl hl.1 rfl (Nat.le_of_ble_eq_true rfl) dX1_find_6 ⟨Nat.le_of_ble_eq_true rfl, Nat.le_of_ble_eq_true rfl⟩) hxt hlocks ⟨Nat.le_of_ble_eq_true rfl, Nat.le_of_ble_eq_true rfl⟩ (fun E h => ⟨h.1, by intro q; have := q.1; have := q.2; exact h.2 ⟨by omega, by omega⟩⟩) (fun H locs h2 hY => ?_)
  refine lv_aload_n hx hb dX1_find_9 rfl (lv_at hl 0 rfl) ?_
  refine gtV_roll hC hin1 hY (by decide +kernel) dX1_find_10 ?_
  refine lv_iload_n hx hb dX1_find_13 rfl (lv_at hl 1 rfl) ?_
  refine rdRoll hC hY h2 dX1_find_14 ?_
  by_cases h3 : ix p0 < n
  · rw [show roF ad n (ix p0) = some (ad (3 * ix p0 + 9)) from if_pos h3]
    refine lv_astore_n (lv' := [(2, .ref (ad (3 * ix p0 + 9))), (0, .ref (ad 0)), (1, .int p0)]) hx hb dX1_find_15 rfl hl (by decide) rfl (fun ls hl => ?_)
    refine lv_aload_n hx hb dX1_find_16 rfl (lv_at hl 0 rfl) ?_
    refine lv_ifnonnull (tgt := 30) hx hb dX1_find_17 (by decide) ?_
    refine lv_aload_n hx hb dX1_find_30 rfl (lv_at hl 0 rfl) ?_
    have hfin : 0 ≤ p0.toInt ∧ p0.toInt < (n : Int) := ⟨h2.1, by have := ix_toInt h2.1; omega⟩
    exact vx_ret (g_aret (v := some (ad (3 * ix p0 + 9))) hC hr ⟨_, rfl⟩ hlocks hY ⟨Nat.le_of_ble_eq_true rfl, Nat.le_of_ble_eq_true rfl⟩ dX1_find_31 (⟨rfl, hfin⟩))
  · rw [show roF ad n (ix p0) = none from if_neg h3]
    refine W.eq (g2 := F0 m 15 ls [.null]) rfl ?_
    refine lv_astore_nN (lv' := [(2, .null), (0, .ref (ad 0)), (1, .int p0)]) hx hb dX1_find_15 rfl hl (by decide) rfl (fun ls hl => ?_)
    refine lv_aload_nN hx hb dX1_find_16 rfl (lv_at hl 0 rfl) ?_
    refine lv_ifnonnullN hx hb dX1_find_17 ?_
    exact g_throw hC hst hY hxt hlocks (E := xI) (text := "no such lease") (by decide +kernel) (by decide +kernel) (by decide +kernel) (by decide) (fun w h => List.mem_cons_of_mem _ (List.mem_append_right _ h)) at_S2 at_G2 hY.2.2.2.2.2.1.1 hl.1 dX1_find_20 dX1_find_23 dX1_find_24 dX1_find_26 dX1_find_29 ⟨Nat.le_of_ble_eq_true rfl, Nat.le_of_ble_eq_true rfl, Nat.le_of_ble_eq_true rfl, Nat.le_of_ble_eq_true rfl⟩ ⟨Nat.le_of_ble_eq_true rfl, Nat.le_of_ble_eq_true rfl⟩ ⟨rfl, by intro q; have q1 := ix_lt q; omega⟩

def vaF (f : Nat → Int32) (N : Int) (x : Int32) : Int32 := if 0 ≤ x.toInt ∧ x.toInt < N then f (ix x) else 0
set_option maxHeartbeats 4000000 in
set_option maxRecDepth 100000 in
theorem c_X1_valueAtI (l : Launch) (G : GG) (ad : Nat → Nat) (σ : St) (n : Nat) (τ : St) (p0 : Int32)  : Met l yX1_valueAt wsX1_valueAt ({ frames := 0, cells := 0, slots := 0, locals := 0 }) (PcS G ad σ n τ [.ref (ad 2), .int p0]) (Qi G (3 * n + 9) ad (ctS G ad σ n τ) (fun r => r = vaF (σ 1) 240 p0)) 0 0 (gF G) := by
  refine Met.ofW (cc := cX1_valueAt) (maxL := 2) (ret := (some .int)) (by decide) rfl ?_
  intro p e s m args below meth c s₁ B hml hv
  obtain ⟨rfl, hY⟩ := hv
  have hts := atoms_spec (ws := wsX1_valueAt) B.pre
  have hC : CallFix p m c cX1_valueAt 2 s _ wsX1_valueAt RX1 := ⟨B.exec, B.bytes, hml, findClass_of_methodNamed B.named, hts⟩
  have hx := hC.1
  have hb := hC.2.1
  have hr := B.returns
  have hlocks := B.notSynchronized
  have hl := lv_entry ([.ref (ad 2), .int p0]) (n := 2) (Nat.le_of_ble_eq_true rfl)
  rw [lg_entry_eq]
  generalize (lg_sl ([.ref (ad 2), .int p0]) ++ List.replicate (2 - (lg_sl ([.ref (ad 2), .int p0])).length) Slot.unset).toArray = ls at hl ⊢
  have hl : lv_has ls 2 [(0, .ref (ad 2)), (1, .int p0)] := hl
  refine lv_iload_n hx hb dX1_valueAt_0 rfl (lv_at hl 1 rfl) ?_
  refine b_if_lt (tgt := 16) hx hb dX1_valueAt_1 (by decide) (fun (h1 : p0.toInt < 0) => ?_) (fun (h1 : 0 ≤ p0.toInt) => ?_)
  · refine lv_iconst (v := 0) hx hb dX1_valueAt_16 (by decide) ?_
    exact g_iret hC hr hlocks hY ⟨Nat.le_of_ble_eq_true rfl, Nat.le_of_ble_eq_true rfl⟩ dX1_valueAt_17 ((if_neg (by intro q; have := q.1; have := q.2; omega)).symm)
  · refine lv_iload_n hx hb dX1_valueAt_4 rfl (lv_at hl 1 rfl) ?_
    refine lv_aload_n hx hb dX1_valueAt_5 rfl (lv_at hl 0 rfl) ?_
    refine g_alen hC hY 2 (by omega) 0 rfl rfl (v := 240) rfl dX1_valueAt_6 ?_
    refine b_icmp_ge (tgt := 16) hx hb dX1_valueAt_7 (by decide) (fun (h2 : 240 ≤ p0.toInt) => ?_) (fun (h2 : p0.toInt < 240) => ?_)
    · refine lv_iconst (v := 0) hx hb dX1_valueAt_16 (by decide) ?_
      exact g_iret hC hr hlocks hY ⟨Nat.le_of_ble_eq_true rfl, Nat.le_of_ble_eq_true rfl⟩ dX1_valueAt_17 ((if_neg (by intro q; have := q.1; have := q.2; omega)).symm)
    · refine lv_aload_n hx hb dX1_valueAt_10 rfl (lv_at hl 0 rfl) ?_
      refine lv_iload_n hx hb dX1_valueAt_11 rfl (lv_at hl 1 rfl) ?_
      refine rdA1 hC hY ⟨by omega, by omega⟩ dX1_valueAt_12 ?_
      refine lv_goto (tgt := 17) hx hb dX1_valueAt_13 (by decide) ?_
      exact g_iret hC hr hlocks hY ⟨Nat.le_of_ble_eq_true rfl, Nat.le_of_ble_eq_true rfl⟩ dX1_valueAt_17 ((if_pos ⟨by omega, by omega⟩).symm)

set_option maxHeartbeats 4000000 in
set_option maxRecDepth 100000 in
theorem c_X1_valueAtA (l : Launch) (G : GG) (ad : Nat → Nat) (σ : St) (n : Nat) (τ : St) (p0 : Int32)  : Met l yX1_valueAt wsX1_valueAt ({ frames := 0, cells := 0, slots := 0, locals := 0 }) (PcS G ad σ n τ [.ref (ad 1), .int p0]) (Qi G (3 * n + 9) ad (ctS G ad σ n τ) (fun r => r = vaF (σ 0) 6 p0)) 0 0 (gF G) := by
  refine Met.ofW (cc := cX1_valueAt) (maxL := 2) (ret := (some .int)) (by decide) rfl ?_
  intro p e s m args below meth c s₁ B hml hv
  obtain ⟨rfl, hY⟩ := hv
  have hts := atoms_spec (ws := wsX1_valueAt) B.pre
  have hC : CallFix p m c cX1_valueAt 2 s _ wsX1_valueAt RX1 := ⟨B.exec, B.bytes, hml, findClass_of_methodNamed B.named, hts⟩
  have hx := hC.1
  have hb := hC.2.1
  have hr := B.returns
  have hlocks := B.notSynchronized
  have hl := lv_entry ([.ref (ad 1), .int p0]) (n := 2) (Nat.le_of_ble_eq_true rfl)
  rw [lg_entry_eq]
  generalize (lg_sl ([.ref (ad 1), .int p0]) ++ List.replicate (2 - (lg_sl ([.ref (ad 1), .int p0])).length) Slot.unset).toArray = ls at hl ⊢
  have hl : lv_has ls 2 [(0, .ref (ad 1)), (1, .int p0)] := hl
  refine lv_iload_n hx hb dX1_valueAt_0 rfl (lv_at hl 1 rfl) ?_
  refine b_if_lt (tgt := 16) hx hb dX1_valueAt_1 (by decide) (fun (h1 : p0.toInt < 0) => ?_) (fun (h1 : 0 ≤ p0.toInt) => ?_)
  · refine lv_iconst (v := 0) hx hb dX1_valueAt_16 (by decide) ?_
    exact g_iret hC hr hlocks hY ⟨Nat.le_of_ble_eq_true rfl, Nat.le_of_ble_eq_true rfl⟩ dX1_valueAt_17 ((if_neg (by intro q; have := q.1; have := q.2; omega)).symm)
  · refine lv_iload_n hx hb dX1_valueAt_4 rfl (lv_at hl 1 rfl) ?_
    refine lv_aload_n hx hb dX1_valueAt_5 rfl (lv_at hl 0 rfl) ?_
    refine g_alen hC hY 1 (by omega) 0 rfl rfl (v := 6) rfl dX1_valueAt_6 ?_
    refine b_icmp_ge (tgt := 16) hx hb dX1_valueAt_7 (by decide) (fun (h2 : 6 ≤ p0.toInt) => ?_) (fun (h2 : p0.toInt < 6) => ?_)
    · refine lv_iconst (v := 0) hx hb dX1_valueAt_16 (by decide) ?_
      exact g_iret hC hr hlocks hY ⟨Nat.le_of_ble_eq_true rfl, Nat.le_of_ble_eq_true rfl⟩ dX1_valueAt_17 ((if_neg (by intro q; have := q.1; have := q.2; omega)).symm)
    · refine lv_aload_n hx hb dX1_valueAt_10 rfl (lv_at hl 0 rfl) ?_
      refine lv_iload_n hx hb dX1_valueAt_11 rfl (lv_at hl 1 rfl) ?_
      refine rdA0 hC hY ⟨by omega, by omega⟩ dX1_valueAt_12 ?_
      refine lv_goto (tgt := 17) hx hb dX1_valueAt_13 (by decide) ?_
      exact g_iret hC hr hlocks hY ⟨Nat.le_of_ble_eq_true rfl, Nat.le_of_ble_eq_true rfl⟩ dX1_valueAt_17 ((if_pos ⟨by omega, by omega⟩).symm)

def aaP (σ : St) : Nat → Int32
  | 0 => 0
  | i + 1 => aaP σ i + σ 0 i
set_option maxHeartbeats 4000000 in
set_option maxRecDepth 100000 in
theorem c_X1_allAreas (l : Launch) (G : GG) (ad : Nat → Nat) (σ : St) (n : Nat) (τ : St)  : Met l yX1_allAreas wsX1_allAreas ({ frames := 0, cells := 0, slots := 0, locals := 0 }) (PcS G ad σ n τ [.ref (ad 0)]) (Qi G (3 * n + 9) ad (ctS G ad σ n τ) (fun r => r = aaP σ 6)) 0 0 (gF G) := by
  refine Met.ofW (cc := cX1_allAreas) (maxL := 6) (ret := (some .int)) (by decide) rfl ?_
  intro p e s m args below meth c s₁ B hml hv
  obtain ⟨rfl, hY⟩ := hv
  have hts := atoms_spec (ws := wsX1_allAreas) B.pre
  have hC : CallFix p m c cX1_allAreas 6 s _ wsX1_allAreas RX1 := ⟨B.exec, B.bytes, hml, findClass_of_methodNamed B.named, hts⟩
  have hx := hC.1
  have hb := hC.2.1
  have hr := B.returns
  have hlocks := B.notSynchronized
  have hin1 : ∀ w ∈ wsX10, w ∈ wsX1_allAreas := by decide +kernel
  have hl := lv_entry ([.ref (ad 0)]) (n := 6) (Nat.le_of_ble_eq_true rfl)
  rw [lg_entry_eq]
  generalize (lg_sl ([.ref (ad 0)]) ++ List.replicate (6 - (lg_sl ([.ref (ad 0)])).length) Slot.unset).toArray = ls at hl ⊢
  have hl : lv_has ls 6 [(0, .ref (ad 0))] := hl
  refine lv_iconst (v := 0) hx hb dX1_allAreas_0 (by decide) ?_
  refine lv_istore_n (lv' := [(1, .int 0), (0, .ref (ad 0))]) hx hb dX1_allAreas_1 rfl hl (by decide) rfl (fun ls hl => ?_)
  refine lv_aload_n hx hb dX1_allAreas_2 rfl (lv_at hl 1 rfl) ?_
  refine gtV_areas hC hin1 hY (by decide +kernel) dX1_allAreas_3 ?_
  refine lv_astore_n (lv' := [(2, .ref (ad 1)), (1, .int 0), (0, .ref (ad 0))]) hx hb dX1_allAreas_6 rfl hl (by decide) rfl (fun ls hl => ?_)
  refine lv_aload_n hx hb dX1_allAreas_7 rfl (lv_at hl 0 rfl) ?_
  refine g_alen hC hY 1 (by omega) 0 rfl rfl (v := 6) rfl dX1_allAreas_8 ?_
  refine lv_istore_n (lv' := [(3, .int 6), (2, .ref (ad 1)), (1, .int 0), (0, .ref (ad 0))]) hx hb dX1_allAreas_9 rfl hl (by decide) rfl (fun ls hl => ?_)
  refine lv_iconst (v := 0) hx hb dX1_allAreas_10 (by decide) ?_
  refine lv_istore (lv' := [(4, .int 0), (3, .int 6), (2, .ref (ad 1)), (1, .int 0), (0, .ref (ad 0))]) hx hb dX1_allAreas_11 hl (by decide) rfl (fun ls hl => ?_)
  refine w_loop (X := Int32 × Int32) (fun i x H locs ls => match x with | (x4, x1) => (x4.toInt = i ∧ (i : Int) ≤ 6 ∧ x1 = aaP σ i) ∧ SyS G ad σ n τ s H locs ∧ lv_has ls 6 [(4, .int x4), (1, .int x1), (3, .int 6), (2, .ref (ad 1)), (0, .ref (ad 0))]) (6) ?_ ?_ ((0, 0)) ⟨⟨rfl, by decide, rfl⟩, hY, lv_sub hl [0, 3, 1, 2, 4] rfl⟩
  · intro i x H locs ls hI ih
    obtain ⟨x4, x1⟩ := x
    obtain ⟨hI, hY, hl⟩ := hI
    obtain ⟨h0, h9, e⟩ := hI
    refine lv_iload hx hb dX1_allAreas_13 (lv_at hl 0 rfl) ?_
    refine lv_iload_n hx hb dX1_allAreas_15 rfl (lv_at hl 2 rfl) ?_
    refine b_icmp_ge (tgt := 36) hx hb dX1_allAreas_16 (by decide) (fun (h1 : 6 ≤ x4.toInt) => ?_) (fun (h1 : x4.toInt < 6) => ?_)
    · refine lv_iload_n hx hb dX1_allAreas_36 rfl (lv_at hl 1 rfl) ?_
      exact g_iret hC hr hlocks hY ⟨Nat.le_of_ble_eq_true rfl, Nat.le_of_ble_eq_true rfl⟩ dX1_allAreas_37 (by rw [e, show i = 6 by omega])
    · refine lv_aload_n hx hb dX1_allAreas_19 rfl (lv_at hl 3 rfl) ?_
      refine lv_iload hx hb dX1_allAreas_20 (lv_at hl 0 rfl) ?_
      refine rdA0 hC hY ⟨by omega, by omega⟩ dX1_allAreas_22 ?_
      refine lv_istore (lv' := [(5, .int (σ 0 (ix x4))), (4, .int x4), (1, .int x1), (3, .int 6), (2, .ref (ad 1)), (0, .ref (ad 0))]) hx hb dX1_allAreas_23 hl (by decide) rfl (fun ls hl => ?_)
      refine lv_iload_n hx hb dX1_allAreas_25 rfl (lv_at hl 2 rfl) ?_
      refine lv_iload hx hb dX1_allAreas_26 (lv_at hl 0 rfl) ?_
      refine lv_iadd hx hb dX1_allAreas_28 ?_
      refine lv_istore_n (lv' := [(1, .int (x1 + (σ 0 (ix x4)))), (5, .int (σ 0 (ix x4))), (4, .int x4), (3, .int 6), (2, .ref (ad 1)), (0, .ref (ad 0))]) hx hb dX1_allAreas_29 rfl hl (by decide) rfl (fun ls hl => ?_)
      refine lv_iinc (v := x4 + 1) (lv' := [(4, .int (x4 + 1)), (1, .int (x1 + (σ 0 (ix x4)))), (5, .int (σ 0 (ix x4))), (3, .int 6), (2, .ref (ad 1)), (0, .ref (ad 0))]) hx hb dX1_allAreas_30 hl (k := 2) rfl rfl (by decide) rfl (fun ls hl => ?_)
      refine lv_goto (tgt := 13) hx hb dX1_allAreas_33 (by decide) ?_
      have hix : ix x4 = i := i_ix h0
      exact ih (x4 + 1, x1 + (σ 0 (ix x4))) _ _ _ ⟨⟨by rw [i_add (by have : (1 : Int32).toInt = 1 := rfl; omega)]; have : (1 : Int32).toInt = 1 := rfl; omega, by omega, by rw [aaP, ← e, ← hix]⟩, hY, lv_sub hl [0, 1, 3, 4, 5] rfl⟩
  · intro i x H locs ls hI
    obtain ⟨x4, x1⟩ := x
    obtain ⟨hI, -, -⟩ := hI
    obtain ⟨h0, h9, e⟩ := hI
    omega

def dlP (σ : St) (n : Nat) (u a b : Int32) : Nat → Int32
  | 0 => 0
  | i + 1 => if i < n ∧ (σ 3 i).toInt = u.toInt then dlP σ n u a b i + dwF σ i a b else dlP σ n u a b i
set_option maxHeartbeats 4000000 in
set_option maxRecDepth 100000 in
theorem c_X1_daysLet (l : Launch) (G : GG) (ad : Nat → Nat) (σ : St) (n : Nat) (τ : St) (p0 p1 p2 : Int32)  : Met l yX1_daysLet wsX1_daysLet ({ frames := 2, cells := 0, slots := 0, locals := 40 }) (PcS G ad σ n τ [.ref (ad 0), .int p0, .int p1, .int p2]) (Qi G (3 * n + 9) ad (ctS G ad σ n τ) (fun r => r = dlP σ n p0 p1 p2 24)) 0 0 (gF G) := by
  refine Met.ofW (cc := cX1_daysLet) (maxL := 9) (ret := (some .int)) (by decide) rfl ?_
  intro p e s m args below meth c s₁ B hml hv
  obtain ⟨rfl, hY⟩ := hv
  have hts := atoms_spec (ws := wsX1_daysLet) B.pre
  have hC : CallFix p m c cX1_daysLet 9 s _ wsX1_daysLet RX1 := ⟨B.exec, B.bytes, hml, findClass_of_methodNamed B.named, hts⟩
  have hx := hC.1
  have hb := hC.2.1
  have hr := B.returns
  have hlocks := B.notSynchronized
  have hin0 : ∀ w ∈ wsX00, w ∈ wsX1_daysLet := by decide +kernel
  have hin1 : ∀ w ∈ wsX10, w ∈ wsX1_daysLet := by decide +kernel
  have hl := lv_entry ([.ref (ad 0), .int p0, .int p1, .int p2]) (n := 9) (Nat.le_of_ble_eq_true rfl)
  rw [lg_entry_eq]
  generalize (lg_sl ([.ref (ad 0), .int p0, .int p1, .int p2]) ++ List.replicate (9 - (lg_sl ([.ref (ad 0), .int p0, .int p1, .int p2])).length) Slot.unset).toArray = ls at hl ⊢
  have hl : lv_has ls 9 [(0, .ref (ad 0)), (1, .int p0), (2, .int p1), (3, .int p2)] := hl
  refine lv_iconst (v := 0) hx hb dX1_daysLet_0 (by decide) ?_
  refine lv_istore (lv' := [(4, .int 0), (0, .ref (ad 0)), (1, .int p0), (2, .int p1), (3, .int p2)]) hx hb dX1_daysLet_1 hl (by decide) rfl (fun ls hl => ?_)
  refine lv_aload_n hx hb dX1_daysLet_3 rfl (lv_at hl 1 rfl) ?_
  refine gtV_roll hC hin1 hY (by decide +kernel) dX1_daysLet_4 ?_
  refine lv_astore (lv' := [(5, .ref (ad 4)), (4, .int 0), (0, .ref (ad 0)), (1, .int p0), (2, .int p1), (3, .int p2)]) hx hb dX1_daysLet_7 hl (by decide) rfl (fun ls hl => ?_)
  refine lv_aload hx hb dX1_daysLet_9 (lv_at hl 0 rfl) ?_
  refine g_alen hC hY 4 (by omega) 1 rfl rfl (v := 24) rfl dX1_daysLet_11 ?_
  refine lv_istore (lv' := [(6, .int 24), (5, .ref (ad 4)), (4, .int 0), (0, .ref (ad 0)), (1, .int p0), (2, .int p1), (3, .int p2)]) hx hb dX1_daysLet_12 hl (by decide) rfl (fun ls hl => ?_)
  refine lv_iconst (v := 0) hx hb dX1_daysLet_14 (by decide) ?_
  refine lv_istore (lv' := [(7, .int 0), (6, .int 24), (5, .ref (ad 4)), (4, .int 0), (0, .ref (ad 0)), (1, .int p0), (2, .int p1), (3, .int p2)]) hx hb dX1_daysLet_15 hl (by decide) rfl (fun ls hl => ?_)
  refine w_loop (X := Int32 × Int32) (fun i x H locs ls => match x with | (x7, x4) => (x7.toInt = i ∧ (i : Int) ≤ 24 ∧ x4 = dlP σ n p0 p1 p2 i) ∧ SyS G ad σ n τ s H locs ∧ lv_has ls 9 [(7, .int x7), (4, .int x4), (6, .int 24), (5, .ref (ad 4)), (0, .ref (ad 0)), (1, .int p0), (2, .int p1), (3, .int p2)]) (24) ?_ ?_ ((0, 0)) ⟨⟨rfl, by decide, rfl⟩, hY, lv_sub hl [0, 3, 1, 2, 4, 5, 6, 7] rfl⟩
  · intro i x H locs ls hI ih
    obtain ⟨x7, x4⟩ := x
    obtain ⟨hI, hY, hl⟩ := hI
    obtain ⟨h0, h9, e⟩ := hI
    refine lv_iload hx hb dX1_daysLet_17 (lv_at hl 0 rfl) ?_
    refine lv_iload hx hb dX1_daysLet_19 (lv_at hl 2 rfl) ?_
    refine b_icmp_ge (tgt := 63) hx hb dX1_daysLet_21 (by decide) (fun (h1 : 24 ≤ x7.toInt) => ?_) (fun (h1 : x7.toInt < 24) => ?_)
    · refine lv_iload hx hb dX1_daysLet_63 (lv_at hl 1 rfl) ?_
      exact g_iret hC hr hlocks hY ⟨Nat.le_of_ble_eq_true rfl, Nat.le_of_ble_eq_true rfl⟩ dX1_daysLet_65 (by rw [e, show i = 24 by omega])
    · refine lv_aload hx hb dX1_daysLet_24 (lv_at hl 3 rfl) ?_
      refine lv_iload hx hb dX1_daysLet_26 (lv_at hl 0 rfl) ?_
      refine rdRoll hC hY ⟨by omega, by omega⟩ dX1_daysLet_28 ?_
      by_cases h2 : ix x7 < n
      · rw [show roF ad n (ix x7) = some (ad (3 * ix x7 + 9)) from if_pos h2]
        refine lv_astore (lv' := [(8, .ref (ad (3 * ix x7 + 9))), (7, .int x7), (4, .int x4), (6, .int 24), (5, .ref (ad 4)), (0, .ref (ad 0)), (1, .int p0), (2, .int p1), (3, .int p2)]) hx hb dX1_daysLet_29 hl (by decide) rfl (fun ls hl => ?_)
        refine lv_aload hx hb dX1_daysLet_31 (lv_at hl 0 rfl) ?_
        refine lv_ifnull hx hb dX1_daysLet_33 ?_
        refine lv_aload hx hb dX1_daysLet_36 (lv_at hl 0 rfl) ?_
        refine gtN_unit hC hin0 hY (k := ix x7) h2 (by decide) dX1_daysLet_38 ?_
        refine lv_iload_n hx hb dX1_daysLet_41 rfl (lv_at hl 6 rfl) ?_
        refine b_icmp_ne (tgt := 57) hx hb dX1_daysLet_42 (by decide) (fun (h3 : ¬ (σ 3 (ix x7)).toInt = p0.toInt) => ?_) (fun (h3 : (σ 3 (ix x7)).toInt = p0.toInt) => ?_)
        · refine lv_iinc (v := x7 + 1) (lv' := [(7, .int (x7 + 1)), (8, .ref (ad (3 * ix x7 + 9))), (4, .int x4), (6, .int 24), (5, .ref (ad 4)), (0, .ref (ad 0)), (1, .int p0), (2, .int p1), (3, .int p2)]) hx hb dX1_daysLet_57 hl (k := 1) rfl rfl (by decide) rfl (fun ls hl => ?_)
          refine lv_goto (tgt := 17) hx hb dX1_daysLet_60 (by decide) ?_
          have hix : ix x7 = i := i_ix h0
          exact ih (x7 + 1, x4) _ _ _ ⟨⟨by rw [i_add (by have : (1 : Int32).toInt = 1 := rfl; omega)]; have : (1 : Int32).toInt = 1 := rfl; omega, by omega, by rw [dlP, if_neg (by intro q; rw [hix] at h3; exact h3 q.2)]; exact e⟩, hY, lv_sub hl [0, 2, 3, 4, 5, 6, 7, 8] rfl⟩
        · refine lv_iload hx hb dX1_daysLet_45 (lv_at hl 2 rfl) ?_
          refine lv_aload hx hb dX1_daysLet_47 (lv_at hl 0 rfl) ?_
          refine lv_iload_n hx hb dX1_daysLet_49 rfl (lv_at hl 7 rfl) ?_
          refine lv_iload_n hx hb dX1_daysLet_50 rfl (lv_at hl 8 rfl) ?_
          refine g_calli hY (g_runV (n := 2) (q := (RX0, TX0, 12)) (r := 3 * ix x7 + 9) hC (c_X0_daysWithin l G ad σ n τ (ix x7) h2 p1 p2) gX1_daysLet_X0_daysWithin rfl ⟨rfl, rfl⟩ (by decide +kernel) ⟨Nat.le_of_ble_eq_true rfl, Nat.le_of_ble_eq_true rfl⟩ hY (r_lt h2) (ct_L (ix x7)) (ci := 0) rfl rfl hl.1 rfl (Nat.le_of_ble_eq_true rfl) dX1_daysLet_51 ⟨Nat.le_of_ble_eq_true rfl, Nat.le_of_ble_eq_true rfl⟩) (fun r4 H locs h5 hY => ?_)
          subst h5
          refine lv_iadd hx hb dX1_daysLet_54 ?_
          refine lv_istore (lv' := [(4, .int (x4 + (dwF σ (ix x7) p1 p2))), (8, .ref (ad (3 * ix x7 + 9))), (7, .int x7), (6, .int 24), (5, .ref (ad 4)), (0, .ref (ad 0)), (1, .int p0), (2, .int p1), (3, .int p2)]) hx hb dX1_daysLet_55 hl (by decide) rfl (fun ls hl => ?_)
          refine lv_iinc (v := x7 + 1) (lv' := [(7, .int (x7 + 1)), (4, .int (x4 + (dwF σ (ix x7) p1 p2))), (8, .ref (ad (3 * ix x7 + 9))), (6, .int 24), (5, .ref (ad 4)), (0, .ref (ad 0)), (1, .int p0), (2, .int p1), (3, .int p2)]) hx hb dX1_daysLet_57 hl (k := 2) rfl rfl (by decide) rfl (fun ls hl => ?_)
          refine lv_goto (tgt := 17) hx hb dX1_daysLet_60 (by decide) ?_
          have hix : ix x7 = i := i_ix h0
          exact ih (x7 + 1, x4 + (dwF σ (ix x7) p1 p2)) _ _ _ ⟨⟨by rw [i_add (by have : (1 : Int32).toInt = 1 := rfl; omega)]; have : (1 : Int32).toInt = 1 := rfl; omega, by omega, by rw [dlP, if_pos ⟨by rw [← hix]; exact h2, by rw [← hix]; exact h3⟩, ← e, ← hix]⟩, hY, lv_sub hl [0, 1, 3, 4, 5, 6, 7, 8] rfl⟩
      · rw [show roF ad n (ix x7) = none from if_neg h2]
        refine W.eq (g2 := F0 m 29 ls [.null]) rfl ?_
        refine lv_astoreN (lv' := [(8, .null), (7, .int x7), (4, .int x4), (6, .int 24), (5, .ref (ad 4)), (0, .ref (ad 0)), (1, .int p0), (2, .int p1), (3, .int p2)]) hx hb dX1_daysLet_29 hl (by decide) rfl (fun ls hl => ?_)
        refine lv_aloadN hx hb dX1_daysLet_31 (lv_at hl 0 rfl) ?_
        refine lv_ifnullN (tgt := 57) hx hb dX1_daysLet_33 (by decide) ?_
        refine lv_iinc (v := x7 + 1) (lv' := [(7, .int (x7 + 1)), (8, .null), (4, .int x4), (6, .int 24), (5, .ref (ad 4)), (0, .ref (ad 0)), (1, .int p0), (2, .int p1), (3, .int p2)]) hx hb dX1_daysLet_57 hl (k := 1) rfl rfl (by decide) rfl (fun ls hl => ?_)
        refine lv_goto (tgt := 17) hx hb dX1_daysLet_60 (by decide) ?_
        have hix : ix x7 = i := i_ix h0
        exact ih (x7 + 1, x4) _ _ _ ⟨⟨by rw [i_add (by have : (1 : Int32).toInt = 1 := rfl; omega)]; have : (1 : Int32).toInt = 1 := rfl; omega, by omega, by rw [dlP, if_neg (by intro q; rw [hix] at h2; exact h2 q.1)]; exact e⟩, hY, lv_sub hl [0, 2, 3, 4, 5, 6, 7, 8] rfl⟩
  · intro i x H locs ls hI
    obtain ⟨x7, x4⟩ := x
    obtain ⟨hI, -, -⟩ := hI
    obtain ⟨h0, h9, e⟩ := hI
    omega

def hiP (σ : St) (k : Nat) : Nat → Int32
  | 0 => 0
  | i + 1 => mxF (hiP σ k i) (vaF (σ 1) 240 ((σ 4 k + nI (i + 1) * σ 8 k) / 30))
def hxF (σ : St) (k : Nat) (d : Int32) : Int32 := hiP σ k (rvF σ k d).toInt.toNat
set_option maxHeartbeats 4000000 in
set_option maxRecDepth 100000 in
theorem c_X1_highestIndex (l : Launch) (G : GG) (ad : Nat → Nat) (σ : St) (n : Nat) (τ : St) (k : Nat) (hk : k < n) (p0 : Int32) (hrv : (rvF σ k p0).toInt < 7300)  : Met l yX1_highestIndex wsX1_highestIndex ({ frames := 1, cells := 0, slots := 0, locals := 30 }) (PcS G ad σ n τ [.ref (ad 0), .ref (ad (3 * k + 9)), .int p0]) (Qi G (3 * n + 9) ad (ctS G ad σ n τ) (fun r => r = hxF σ k p0)) 0 0 (gF G) := by
  refine Met.ofW (cc := cX1_highestIndex) (maxL := 7) (ret := (some .int)) (by decide) rfl ?_
  intro p e s m args below meth c s₁ B hml hv
  obtain ⟨rfl, hY⟩ := hv
  have hts := atoms_spec (ws := wsX1_highestIndex) B.pre
  have hC : CallFix p m c cX1_highestIndex 7 s _ wsX1_highestIndex RX1 := ⟨B.exec, B.bytes, hml, findClass_of_methodNamed B.named, hts⟩
  have hx := hC.1
  have hb := hC.2.1
  have hr := B.returns
  have hlocks := B.notSynchronized
  have hin0 : ∀ w ∈ wsX00, w ∈ wsX1_highestIndex := by decide +kernel
  have hin1 : ∀ w ∈ wsX10, w ∈ wsX1_highestIndex := by decide +kernel
  have hl := lv_entry ([.ref (ad 0), .ref (ad (3 * k + 9)), .int p0]) (n := 7) (Nat.le_of_ble_eq_true rfl)
  rw [lg_entry_eq]
  generalize (lg_sl ([.ref (ad 0), .ref (ad (3 * k + 9)), .int p0]) ++ List.replicate (7 - (lg_sl ([.ref (ad 0), .ref (ad (3 * k + 9)), .int p0])).length) Slot.unset).toArray = ls at hl ⊢
  have hl : lv_has ls 7 [(0, .ref (ad 0)), (1, .ref (ad (3 * k + 9))), (2, .int p0)] := hl
  refine lv_iconst (v := 0) hx hb dX1_highestIndex_0 (by decide) ?_
  refine lv_istore_n (lv' := [(3, .int 0), (0, .ref (ad 0)), (1, .ref (ad (3 * k + 9))), (2, .int p0)]) hx hb dX1_highestIndex_1 rfl hl (by decide) rfl (fun ls hl => ?_)
  refine lv_aload_n hx hb dX1_highestIndex_2 rfl (lv_at hl 2 rfl) ?_
  refine lv_iload_n hx hb dX1_highestIndex_3 rfl (lv_at hl 3 rfl) ?_
  refine g_calli hY (g_runV (n := 1) (q := (RX0, TX0, 12)) (r := 3 * k + 9) hC (c_X0_reviewsUpTo l G ad σ n τ k hk p0) gX1_highestIndex_X0_reviewsUpTo rfl ⟨rfl, rfl⟩ (by decide +kernel) ⟨Nat.le_of_ble_eq_true rfl, Nat.le_of_ble_eq_true rfl⟩ hY (r_lt hk) (ct_L k) (ci := 0) rfl rfl hl.1 rfl (Nat.le_of_ble_eq_true rfl) dX1_highestIndex_4 ⟨Nat.le_of_ble_eq_true rfl, Nat.le_of_ble_eq_true rfl⟩) (fun r1 H locs h2 hY => ?_)
  subst h2
  refine lv_istore (lv' := [(4, .int (rvF σ k p0)), (3, .int 0), (0, .ref (ad 0)), (1, .ref (ad (3 * k + 9))), (2, .int p0)]) hx hb dX1_highestIndex_7 hl (by decide) rfl (fun ls hl => ?_)
  refine lv_iconst (v := 1) hx hb dX1_highestIndex_9 (by decide) ?_
  refine lv_istore (lv' := [(5, .int 1), (4, .int (rvF σ k p0)), (3, .int 0), (0, .ref (ad 0)), (1, .ref (ad (3 * k + 9))), (2, .int p0)]) hx hb dX1_highestIndex_10 hl (by decide) rfl (fun ls hl => ?_)
  refine w_loop (X := Int32 × Int32) (fun i x H locs ls => match x with | (x5, x3) => (x5.toInt = i + 1 ∧ i ≤ (rvF σ k p0).toInt.toNat ∧ x3 = hiP σ k i) ∧ SyS G ad σ n τ s H locs ∧ lv_has ls 7 [(5, .int x5), (3, .int x3), (4, .int (rvF σ k p0)), (0, .ref (ad 0)), (1, .ref (ad (3 * k + 9))), (2, .int p0)]) (7300) ?_ ?_ ((1, 0)) ⟨⟨rfl, Nat.zero_le _, rfl⟩, hY, lv_sub hl [0, 2, 1, 3, 4, 5] rfl⟩
  · intro i x H locs ls hI ih
    obtain ⟨x5, x3⟩ := x
    obtain ⟨hI, hY, hl⟩ := hI
    obtain ⟨h0, h9, e⟩ := hI
    refine lv_iload hx hb dX1_highestIndex_12 (lv_at hl 0 rfl) ?_
    refine lv_iload hx hb dX1_highestIndex_14 (lv_at hl 2 rfl) ?_
    refine b_icmp_gt (tgt := 56) hx hb dX1_highestIndex_16 (by decide) (fun (h3 : (rvF σ k p0).toInt < x5.toInt) => ?_) (fun (h3 : x5.toInt ≤ (rvF σ k p0).toInt) => ?_)
    · refine lv_iload_n hx hb dX1_highestIndex_56 rfl (lv_at hl 1 rfl) ?_
      exact g_iret hC hr hlocks hY ⟨Nat.le_of_ble_eq_true rfl, Nat.le_of_ble_eq_true rfl⟩ dX1_highestIndex_57 (by unfold hxF; rw [e, show i = (rvF σ k p0).toInt.toNat by omega])
    · refine lv_aload_n hx hb dX1_highestIndex_19 rfl (lv_at hl 4 rfl) ?_
      refine gtN_from hC hin0 hY (k := k) hk (by decide) dX1_highestIndex_20 ?_
      refine lv_iload hx hb dX1_highestIndex_23 (lv_at hl 0 rfl) ?_
      refine lv_aload_n hx hb dX1_highestIndex_25 rfl (lv_at hl 4 rfl) ?_
      refine gtN_every hC hin0 hY (k := k) hk (by decide) dX1_highestIndex_26 ?_
      refine lv_imul hx hb dX1_highestIndex_29 ?_
      refine lv_iadd hx hb dX1_highestIndex_30 ?_
      refine lv_bipush (v := 30) hx hb dX1_highestIndex_31 (by decide) ?_
      refine lv_idiv hx hb dX1_highestIndex_33 (by decide) ?_
      refine lv_istore (lv' := [(6, .int (((σ 4 k) + (x5 * (σ 8 k))) / 30)), (5, .int x5), (3, .int x3), (4, .int (rvF σ k p0)), (0, .ref (ad 0)), (1, .ref (ad (3 * k + 9))), (2, .int p0)]) hx hb dX1_highestIndex_34 hl (by decide) rfl (fun ls hl => ?_)
      refine lv_iload_n hx hb dX1_highestIndex_36 rfl (lv_at hl 2 rfl) ?_
      refine lv_aload_n hx hb dX1_highestIndex_37 rfl (lv_at hl 4 rfl) ?_
      refine gtV_indices hC hin1 hY (by decide +kernel) dX1_highestIndex_38 ?_
      refine lv_iload hx hb dX1_highestIndex_41 (lv_at hl 0 rfl) ?_
      refine g_calli hY (g_runS (n := 2) hC (c_X1_valueAtI l G ad σ n τ (((σ 4 k) + (x5 * (σ 8 k))) / 30)) gX1_highestIndex_X1_valueAt rfl ⟨rfl, rfl⟩ (by decide +kernel) ⟨Nat.le_of_ble_eq_true rfl, Nat.le_of_ble_eq_true rfl⟩ hY rfl hl.1 rfl (Nat.le_of_ble_eq_true rfl) dX1_highestIndex_43 ⟨Nat.le_of_ble_eq_true rfl, Nat.le_of_ble_eq_true rfl⟩) (fun r4 H locs h5 hY => ?_)
      subst h5
      refine va_mmax hx hb (hC.2.2.1.trans hl.1.symm) hC.2.2.2.1 (hC.2.2.2.2 _ (by decide +kernel)) (hC.2.2.2.2 _ (by decide +kernel)) (hC.2.2.2.2 _ (by decide +kernel)) (hC.2.2.2.2 _ (by decide +kernel)) (Nat.le_of_ble_eq_true rfl) (Nat.le_of_ble_eq_true rfl) (Nat.le_of_ble_eq_true rfl) (Nat.le_of_ble_eq_true rfl) dX1_highestIndex_46 ?_
      refine lv_istore_n (lv' := [(3, .int (if x3 < (vaF (σ 1) 240 (((σ 4 k) + (x5 * (σ 8 k))) / 30)) then (vaF (σ 1) 240 (((σ 4 k) + (x5 * (σ 8 k))) / 30)) else x3)), (6, .int (((σ 4 k) + (x5 * (σ 8 k))) / 30)), (5, .int x5), (4, .int (rvF σ k p0)), (0, .ref (ad 0)), (1, .ref (ad (3 * k + 9))), (2, .int p0)]) hx hb dX1_highestIndex_49 rfl hl (by decide) rfl (fun ls hl => ?_)
      refine lv_iinc (v := x5 + 1) (lv' := [(5, .int (x5 + 1)), (3, .int (if x3 < (vaF (σ 1) 240 (((σ 4 k) + (x5 * (σ 8 k))) / 30)) then (vaF (σ 1) 240 (((σ 4 k) + (x5 * (σ 8 k))) / 30)) else x3)), (6, .int (((σ 4 k) + (x5 * (σ 8 k))) / 30)), (4, .int (rvF σ k p0)), (0, .ref (ad 0)), (1, .ref (ad (3 * k + 9))), (2, .int p0)]) hx hb dX1_highestIndex_50 hl (k := 2) rfl rfl (by decide) rfl (fun ls hl => ?_)
      refine lv_goto (tgt := 12) hx hb dX1_highestIndex_53 (by decide) ?_
      have hx5 : x5 = nI (i + 1) := i_eqnI (by rw [h0]; omega)
      exact ih (x5 + 1, (if x3 < (vaF (σ 1) 240 (((σ 4 k) + (x5 * (σ 8 k))) / 30)) then (vaF (σ 1) 240 (((σ 4 k) + (x5 * (σ 8 k))) / 30)) else x3)) _ _ _ ⟨⟨by rw [i_add (by have : (1 : Int32).toInt = 1 := rfl; omega)]; have : (1 : Int32).toInt = 1 := rfl; omega, by omega, by rw [hiP, ← e, ← hx5]; rfl⟩, hY, lv_sub hl [0, 1, 3, 4, 5, 6] rfl⟩
  · intro i x H locs ls hI
    obtain ⟨x5, x3⟩ := x
    obtain ⟨hI, -, -⟩ := hI
    obtain ⟨h0, h9, e⟩ := hI
    omega

/-- what holds of each lease -/
def okL (σ : St) (k : Nat) : Prop := (0 ≤ (σ 3 k).toInt ∧ (σ 3 k).toInt < 6) ∧ (0 ≤ (σ 4 k).toInt ∧ (σ 4 k).toInt < (σ 5 k).toInt ∧ (σ 5 k).toInt ≤ 7200) ∧ (1 ≤ (σ 6 k).toInt ∧ (σ 6 k).toInt ≤ 99999) ∧ (0 ≤ (σ 7 k).toInt ∧ (σ 7 k).toInt ≤ 720) ∧ ((σ 8 k).toInt = 0 ∨ (30 ≤ (σ 8 k).toInt ∧ (σ 8 k).toInt ≤ 1800)) ∧ (-1 ≤ (σ 9 k).toInt ∧ (σ 9 k).toInt ≤ 999999) ∧ (0 ≤ (σ 10 k).toInt ∧ (σ 10 k).toInt ≤ 9999) ∧ okS σ k ∧ ∀ i, i < stN σ k → (σ 4 k).toInt < (rowF σ 13 k i).toInt ∧ (rowF σ 13 k i).toInt < 7200
theorem okL_s {σ : St} {k : Nat} (h : okL σ k) : okS σ k := h.2.2.2.2.2.2.2.1
theorem rv_b {σ : St} {k : Nat} {d : Int32} (h : okL σ k) (hd : d.toInt < 7300) : 0 ≤ (rvF σ k d).toInt ∧ (rvF σ k d).toInt < 7300 := by
  obtain ⟨-, ⟨h1, h2, h3⟩, -, -, -⟩ := h
  unfold rvF
  split
  · rename_i q
    have h4 : (d - σ 4 k).toInt = d.toInt - (σ 4 k).toInt := i_sub (by omega)
    rw [i_div (by omega), h4]
    have h5 : (d.toInt - (σ 4 k).toInt).tdiv (σ 8 k).toInt = (d.toInt - (σ 4 k).toInt) / (σ 8 k).toInt := Int.tdiv_eq_ediv_of_nonneg (by omega)
    rw [h5]
    refine ⟨Int.ediv_nonneg (by omega) (by omega), ?_⟩
    have h6 := Int.ediv_le_self (σ 8 k).toInt (show 0 ≤ d.toInt - (σ 4 k).toInt by omega)
    omega
  · exact ⟨by decide, by decide⟩
def rfF (σ : St) (k : Nat) (d : Int32) : Int32 := if rOn σ k d ∧ ¬ fOn σ k d then (if 0 < (vaF (σ 1) 240 (σ 4 k / 30)).toInt then mxF (acF σ k d) (acF σ k d * hxF σ k d / vaF (σ 1) 240 (σ 4 k / 30)) else acF σ k d) else 0
set_option maxHeartbeats 4000000 in
set_option maxRecDepth 100000 in
theorem c_X1_rentFor (l : Launch) (G : GG) (ad : Nat → Nat) (σ : St) (n : Nat) (τ : St) (k : Nat) (hk : k < n) (p0 : Int32) (hL : okL σ k) (hd : p0.toInt < 7300)  : Met l yX1_rentFor wsX1_rentFor ({ frames := 2, cells := 0, slots := 0, locals := 60 }) (PcS G ad σ n τ [.ref (ad 0), .ref (ad (3 * k + 9)), .int p0]) (Qi G (3 * n + 9) ad (ctS G ad σ n τ) (fun r => r = rfF σ k p0)) 0 0 (gF G) := by
  refine Met.ofW (cc := cX1_rentFor) (maxL := 5) (ret := (some .int)) (by decide) rfl ?_
  intro p e s m args below meth c s₁ B hml hv
  obtain ⟨rfl, hY⟩ := hv
  have hts := atoms_spec (ws := wsX1_rentFor) B.pre
  have hC : CallFix p m c cX1_rentFor 5 s _ wsX1_rentFor RX1 := ⟨B.exec, B.bytes, hml, findClass_of_methodNamed B.named, hts⟩
  have hx := hC.1
  have hb := hC.2.1
  have hr := B.returns
  have hlocks := B.notSynchronized
  have hin0 : ∀ w ∈ wsX00, w ∈ wsX1_rentFor := by decide +kernel
  have hin1 : ∀ w ∈ wsX10, w ∈ wsX1_rentFor := by decide +kernel
  have hl := lv_entry ([.ref (ad 0), .ref (ad (3 * k + 9)), .int p0]) (n := 5) (Nat.le_of_ble_eq_true rfl)
  rw [lg_entry_eq]
  generalize (lg_sl ([.ref (ad 0), .ref (ad (3 * k + 9)), .int p0]) ++ List.replicate (5 - (lg_sl ([.ref (ad 0), .ref (ad (3 * k + 9)), .int p0])).length) Slot.unset).toArray = ls at hl ⊢
  have hl : lv_has ls 5 [(0, .ref (ad 0)), (1, .ref (ad (3 * k + 9))), (2, .int p0)] := hl
  refine lv_aload_n hx hb dX1_rentFor_0 rfl (lv_at hl 1 rfl) ?_
  refine lv_iload_n hx hb dX1_rentFor_1 rfl (lv_at hl 2 rfl) ?_
  refine g_calli hY (g_runV (n := 1) (q := (RX0, TX0, 12)) (r := 3 * k + 9) hC (c_X0_runsOn l G ad σ n τ k hk p0) gX1_rentFor_X0_runsOn rfl ⟨rfl, rfl⟩ (by decide +kernel) ⟨Nat.le_of_ble_eq_true rfl, Nat.le_of_ble_eq_true rfl⟩ hY (r_lt hk) (ct_L k) (ci := 0) rfl rfl hl.1 rfl (Nat.le_of_ble_eq_true rfl) dX1_rentFor_2 ⟨Nat.le_of_ble_eq_true rfl, Nat.le_of_ble_eq_true rfl⟩) (fun r1 H locs h2 hY => ?_)
  rcases h2 with ⟨rfl, h3⟩ | ⟨rfl, h3⟩
  · refine b_if_eq (tgt := 16) hx hb dX1_rentFor_5 (by decide) (fun h => absurd h (by decide)) (fun _ => ?_)
    refine lv_aload_n hx hb dX1_rentFor_8 rfl (lv_at hl 1 rfl) ?_
    refine lv_iload_n hx hb dX1_rentFor_9 rfl (lv_at hl 2 rfl) ?_
    refine g_calli hY (g_runV (n := 1) (q := (RX0, TX0, 12)) (r := 3 * k + 9) hC (c_X0_isFreeOn l G ad σ n τ k hk p0) gX1_rentFor_X0_isFreeOn rfl ⟨rfl, rfl⟩ (by decide +kernel) ⟨Nat.le_of_ble_eq_true rfl, Nat.le_of_ble_eq_true rfl⟩ hY (r_lt hk) (ct_L k) (ci := 0) rfl rfl hl.1 rfl (Nat.le_of_ble_eq_true rfl) dX1_rentFor_10 ⟨Nat.le_of_ble_eq_true rfl, Nat.le_of_ble_eq_true rfl⟩) (fun r5 H locs h6 hY => ?_)
    rcases h6 with ⟨rfl, h7⟩ | ⟨rfl, h7⟩
    · refine b_if_eq (tgt := 18) hx hb dX1_rentFor_13 (by decide) (fun h => absurd h (by decide)) (fun _ => ?_)
      refine lv_iconst (v := 0) hx hb dX1_rentFor_16 (by decide) ?_
      exact g_iret hC hr hlocks hY ⟨Nat.le_of_ble_eq_true rfl, Nat.le_of_ble_eq_true rfl⟩ dX1_rentFor_17 ((if_neg (fun q => q.2 h7)).symm)
    · refine b_if_eq (tgt := 18) hx hb dX1_rentFor_13 (by decide) (fun _ => ?_) (fun h => absurd h (by decide))
      refine lv_aload_n hx hb dX1_rentFor_18 rfl (lv_at hl 1 rfl) ?_
      refine lv_iload_n hx hb dX1_rentFor_19 rfl (lv_at hl 2 rfl) ?_
      refine g_calli hY (g_runV (n := 1) (q := (RX0, TX0, 12)) (r := 3 * k + 9) hC (c_X0_agreedOn l G ad σ n τ k hk p0 (okL_s hL)) gX1_rentFor_X0_agreedOn rfl ⟨rfl, rfl⟩ (by decide +kernel) ⟨Nat.le_of_ble_eq_true rfl, Nat.le_of_ble_eq_true rfl⟩ hY (r_lt hk) (ct_L k) (ci := 0) rfl rfl hl.1 rfl (Nat.le_of_ble_eq_true rfl) dX1_rentFor_20 ⟨Nat.le_of_ble_eq_true rfl, Nat.le_of_ble_eq_true rfl⟩) (fun r10 H locs h11 hY => ?_)
      subst h11
      refine lv_istore_n (lv' := [(3, .int (acF σ k p0)), (0, .ref (ad 0)), (1, .ref (ad (3 * k + 9))), (2, .int p0)]) hx hb dX1_rentFor_23 rfl hl (by decide) rfl (fun ls hl => ?_)
      refine lv_aload_n hx hb dX1_rentFor_24 rfl (lv_at hl 1 rfl) ?_
      refine gtV_indices hC hin1 hY (by decide +kernel) dX1_rentFor_25 ?_
      refine lv_aload_n hx hb dX1_rentFor_28 rfl (lv_at hl 2 rfl) ?_
      refine gtN_from hC hin0 hY (k := k) hk (by decide) dX1_rentFor_29 ?_
      refine lv_bipush (v := 30) hx hb dX1_rentFor_32 (by decide) ?_
      refine lv_idiv hx hb dX1_rentFor_34 (by decide) ?_
      refine g_calli hY (g_runS (n := 2) hC (c_X1_valueAtI l G ad σ n τ ((σ 4 k) / 30)) gX1_rentFor_X1_valueAt rfl ⟨rfl, rfl⟩ (by decide +kernel) ⟨Nat.le_of_ble_eq_true rfl, Nat.le_of_ble_eq_true rfl⟩ hY rfl hl.1 rfl (Nat.le_of_ble_eq_true rfl) dX1_rentFor_35 ⟨Nat.le_of_ble_eq_true rfl, Nat.le_of_ble_eq_true rfl⟩) (fun r12 H locs h13 hY => ?_)
      subst h13
      refine lv_istore (lv' := [(4, .int (vaF (σ 1) 240 ((σ 4 k) / 30))), (3, .int (acF σ k p0)), (0, .ref (ad 0)), (1, .ref (ad (3 * k + 9))), (2, .int p0)]) hx hb dX1_rentFor_38 hl (by decide) rfl (fun ls hl => ?_)
      refine lv_iload hx hb dX1_rentFor_40 (lv_at hl 0 rfl) ?_
      refine b_if_gt (tgt := 47) hx hb dX1_rentFor_42 (by decide) (fun (h14 : 0 < (vaF (σ 1) 240 ((σ 4 k) / 30)).toInt) => ?_) (fun (h14 : (vaF (σ 1) 240 ((σ 4 k) / 30)).toInt ≤ 0) => ?_)
      · refine lv_iload_n hx hb dX1_rentFor_47 rfl (lv_at hl 1 rfl) ?_
        refine lv_iload_n hx hb dX1_rentFor_48 rfl (lv_at hl 1 rfl) ?_
        refine lv_aload_n hx hb dX1_rentFor_49 rfl (lv_at hl 2 rfl) ?_
        refine lv_aload_n hx hb dX1_rentFor_50 rfl (lv_at hl 3 rfl) ?_
        refine lv_iload_n hx hb dX1_rentFor_51 rfl (lv_at hl 4 rfl) ?_
        refine g_calli hY (g_runV (n := 2) (q := (RX1, TX1, 5)) (r := 0) hC (c_X1_highestIndex l G ad σ n τ k hk p0 (rv_b hL hd).2) gX1_rentFor_X1_highestIndex rfl ⟨rfl, rfl⟩ (by decide +kernel) ⟨Nat.le_of_ble_eq_true rfl, Nat.le_of_ble_eq_true rfl⟩ hY (by omega) rfl (ci := 1) rfl rfl hl.1 rfl (Nat.le_of_ble_eq_true rfl) dX1_rentFor_52 ⟨Nat.le_of_ble_eq_true rfl, Nat.le_of_ble_eq_true rfl⟩) (fun r15 H locs h16 hY => ?_)
        subst h16
        refine lv_imul hx hb dX1_rentFor_55 ?_
        refine lv_iload hx hb dX1_rentFor_56 (lv_at hl 0 rfl) ?_
        refine lv_idiv hx hb dX1_rentFor_58 (by intro q; rw [q] at h14; revert h14; decide) ?_
        refine va_mmax hx hb (hC.2.2.1.trans hl.1.symm) hC.2.2.2.1 (hC.2.2.2.2 _ (by decide +kernel)) (hC.2.2.2.2 _ (by decide +kernel)) (hC.2.2.2.2 _ (by decide +kernel)) (hC.2.2.2.2 _ (by decide +kernel)) (Nat.le_of_ble_eq_true rfl) (Nat.le_of_ble_eq_true rfl) (Nat.le_of_ble_eq_true rfl) (Nat.le_of_ble_eq_true rfl) dX1_rentFor_59 ?_
        exact g_iret hC hr hlocks hY ⟨Nat.le_of_ble_eq_true rfl, Nat.le_of_ble_eq_true rfl⟩ dX1_rentFor_62 (by unfold rfF; rw [if_pos (c := rOn σ k p0 ∧ ¬ fOn σ k p0) ⟨h3, h7⟩, if_pos h14]; rfl)
      · refine lv_iload_n hx hb dX1_rentFor_45 rfl (lv_at hl 1 rfl) ?_
        exact g_iret hC hr hlocks hY ⟨Nat.le_of_ble_eq_true rfl, Nat.le_of_ble_eq_true rfl⟩ dX1_rentFor_46 (by unfold rfF; rw [if_pos (c := rOn σ k p0 ∧ ¬ fOn σ k p0) ⟨h3, h7⟩, if_neg (c := 0 < _) (by omega)])
  · refine b_if_eq (tgt := 16) hx hb dX1_rentFor_5 (by decide) (fun _ => ?_) (fun h => absurd h (by decide))
    refine lv_iconst (v := 0) hx hb dX1_rentFor_16 (by decide) ?_
    exact g_iret hC hr hlocks hY ⟨Nat.le_of_ble_eq_true rfl, Nat.le_of_ble_eq_true rfl⟩ dX1_rentFor_17 ((if_neg (fun q => h3 q.1)).symm)


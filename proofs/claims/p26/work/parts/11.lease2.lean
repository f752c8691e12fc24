/-! the lease's loops -/
def agC (σ : St) (k : Nat) (d : Int32) : Nat → Int32 × Int32
  | 0 => (σ 6 k, σ 4 k)
  | i + 1 => if (rowF σ 13 k i).toInt ≤ d.toInt ∧ (agC σ k d i).2.toInt < (rowF σ 13 k i).toInt then (rowF σ 14 k i, rowF σ 13 k i) else agC σ k d i
abbrev stN (σ : St) (k : Nat) : Nat := (σ 12 k).toInt.toNat
abbrev okS (σ : St) (k : Nat) : Prop := 0 ≤ (σ 12 k).toInt ∧ (σ 12 k).toInt ≤ 6
def acF (σ : St) (k : Nat) (d : Int32) : Int32 := (agC σ k d (stN σ k)).1
set_option maxHeartbeats 4000000 in
set_option maxRecDepth 100000 in
theorem c_X0_agreedOn (l : Launch) (G : GG) (ad : Nat → Nat) (σ : St) (n : Nat) (τ : St) (k : Nat) (hk : k < n) (p0 : Int32) (hs : okS σ k)  : Met l yX0_agreedOn wsX0_agreedOn ({ frames := 0, cells := 0, slots := 0, locals := 0 }) (PcS G ad σ n τ [.ref (ad (3 * k + 9)), .int p0]) (Qi G (3 * n + 9) ad (ctS G ad σ n τ) (fun r => r = acF σ k p0)) 0 0 (gF G) := by
  refine Met.ofW (cc := cX0_agreedOn) (maxL := 5) (ret := (some .int)) (by decide) rfl ?_
  intro p e s m args below meth c s₁ B hml hv
  obtain ⟨rfl, hY⟩ := hv
  have hts := atoms_spec (ws := wsX0_agreedOn) B.pre
  have hC : CallFix p m c cX0_agreedOn 5 s _ wsX0_agreedOn RX0 := ⟨B.exec, B.bytes, hml, findClass_of_methodNamed B.named, hts⟩
  have hx := hC.1
  have hb := hC.2.1
  have hr := B.returns
  have hlocks := B.notSynchronized
  have hin0 : ∀ w ∈ wsX00, w ∈ wsX0_agreedOn := by decide +kernel
  have hl := lv_entry ([.ref (ad (3 * k + 9)), .int p0]) (n := 5) (Nat.le_of_ble_eq_true rfl)
  rw [lg_entry_eq]
  generalize (lg_sl ([.ref (ad (3 * k + 9)), .int p0]) ++ List.replicate (5 - (lg_sl ([.ref (ad (3 * k + 9)), .int p0])).length) Slot.unset).toArray = ls at hl ⊢
  have hl : lv_has ls 5 [(0, .ref (ad (3 * k + 9))), (1, .int p0)] := hl
  refine lv_aload_n hx hb dX0_agreedOn_0 rfl (lv_at hl 0 rfl) ?_
  refine gtL_from hC hin0 hY (k := k) hk (by decide +kernel) dX0_agreedOn_1 ?_
  refine lv_istore_n (lv' := [(2, .int (σ 4 k)), (0, .ref (ad (3 * k + 9))), (1, .int p0)]) hx hb dX0_agreedOn_4 rfl hl (by decide) rfl (fun ls hl => ?_)
  refine lv_aload_n hx hb dX0_agreedOn_5 rfl (lv_at hl 1 rfl) ?_
  refine gtL_firstRent hC hin0 hY (k := k) hk (by decide +kernel) dX0_agreedOn_6 ?_
  refine lv_istore_n (lv' := [(3, .int (σ 6 k)), (2, .int (σ 4 k)), (0, .ref (ad (3 * k + 9))), (1, .int p0)]) hx hb dX0_agreedOn_9 rfl hl (by decide) rfl (fun ls hl => ?_)
  refine lv_iconst (v := 0) hx hb dX0_agreedOn_10 (by decide) ?_
  refine lv_istore (lv' := [(4, .int 0), (3, .int (σ 6 k)), (2, .int (σ 4 k)), (0, .ref (ad (3 * k + 9))), (1, .int p0)]) hx hb dX0_agreedOn_11 hl (by decide) rfl (fun ls hl => ?_)
  refine w_loop (X := Int32 × Int32 × Int32) (fun i x H locs ls => match x with | (x4, x3, x2) => (x4.toInt = i ∧ (i : Int) ≤ (σ 12 k).toInt ∧ agC σ k p0 i = (x3, x2)) ∧ SyS G ad σ n τ s H locs ∧ lv_has ls 5 [(4, .int x4), (3, .int x3), (2, .int x2), (0, .ref (ad (3 * k + 9))), (1, .int p0)]) (6) ?_ ?_ ((0, σ 6 k, σ 4 k)) ⟨⟨rfl, hs.1, rfl⟩, hY, lv_sub hl [0, 1, 2, 3, 4] rfl⟩
  · intro i x H locs ls hI ih
    obtain ⟨x4, x3, x2⟩ := x
    obtain ⟨hI, hY, hl⟩ := hI
    obtain ⟨h0, h9, e⟩ := hI
    refine lv_iload hx hb dX0_agreedOn_13 (lv_at hl 0 rfl) ?_
    refine lv_aload_n hx hb dX0_agreedOn_15 rfl (lv_at hl 3 rfl) ?_
    refine gtL_steps hC hin0 hY (k := k) hk (by decide +kernel) dX0_agreedOn_16 ?_
    refine b_icmp_ge (tgt := 73) hx hb dX0_agreedOn_19 (by decide) (fun (h1 : (σ 12 k).toInt ≤ x4.toInt) => ?_) (fun (h1 : x4.toInt < (σ 12 k).toInt) => ?_)
    · refine lv_iload_n hx hb dX0_agreedOn_73 rfl (lv_at hl 1 rfl) ?_
      exact g_iret hC hr hlocks hY ⟨Nat.le_of_ble_eq_true rfl, Nat.le_of_ble_eq_true rfl⟩ dX0_agreedOn_74 (by unfold acF stN; rw [show (σ 12 k).toInt.toNat = i by omega, e])
    · refine lv_iload hx hb dX0_agreedOn_22 (lv_at hl 0 rfl) ?_
      refine lv_bipush (v := 6) hx hb dX0_agreedOn_24 (by decide) ?_
      refine b_icmp_ge (tgt := 73) hx hb dX0_agreedOn_26 (by decide) (fun (h2 : 6 ≤ x4.toInt) => ?_) (fun (h2 : x4.toInt < 6) => ?_)
      · refine lv_iload_n hx hb dX0_agreedOn_73 rfl (lv_at hl 1 rfl) ?_
        exact g_iret hC hr hlocks hY ⟨Nat.le_of_ble_eq_true rfl, Nat.le_of_ble_eq_true rfl⟩ dX0_agreedOn_74 (by unfold acF stN; rw [show (σ 12 k).toInt.toNat = i by omega, e])
      · refine lv_aload_n hx hb dX0_agreedOn_29 rfl (lv_at hl 3 rfl) ?_
        refine gtL_stepDays hC hin0 hY (k := k) hk (by decide +kernel) dX0_agreedOn_30 ?_
        refine lv_iload hx hb dX0_agreedOn_33 (lv_at hl 0 rfl) ?_
        refine rdL13 hC hY (k := k) hk ⟨by omega, by omega⟩ dX0_agreedOn_35 ?_
        refine lv_iload_n hx hb dX0_agreedOn_36 rfl (lv_at hl 4 rfl) ?_
        refine b_icmp_gt (tgt := 67) hx hb dX0_agreedOn_37 (by decide) (fun (h3 : p0.toInt < (rowF σ 13 k (ix x4)).toInt) => ?_) (fun (h3 : (rowF σ 13 k (ix x4)).toInt ≤ p0.toInt) => ?_)
        · refine lv_iinc (v := x4 + 1) (lv' := [(4, .int (x4 + 1)), (3, .int x3), (2, .int x2), (0, .ref (ad (3 * k + 9))), (1, .int p0)]) hx hb dX0_agreedOn_67 hl (k := 0) rfl rfl (by decide) rfl (fun ls hl => ?_)
          refine lv_goto (tgt := 13) hx hb dX0_agreedOn_70 (by decide) ?_
          have hix : ix x4 = i := i_ix h0
          exact ih (x4 + 1, x3, x2) _ _ _ ⟨⟨by rw [i_add (by rw [h0]; show _ ∧ _ < _; have : (1 : Int32).toInt = 1 := rfl; omega)]; have : (1 : Int32).toInt = 1 := rfl; omega, by omega, by rw [agC, e, ← hix]; exact if_neg (by intro q; have q1 := q.1; have q2 := q.2; have q2 : x2.toInt < _ := q2; omega)⟩, hY, lv_sub hl [0, 1, 2, 3, 4] rfl⟩
        · refine lv_aload_n hx hb dX0_agreedOn_40 rfl (lv_at hl 3 rfl) ?_
          refine gtL_stepDays hC hin0 hY (k := k) hk (by decide +kernel) dX0_agreedOn_41 ?_
          refine lv_iload hx hb dX0_agreedOn_44 (lv_at hl 0 rfl) ?_
          refine rdL13 hC hY (k := k) hk ⟨by omega, by omega⟩ dX0_agreedOn_46 ?_
          refine lv_iload_n hx hb dX0_agreedOn_47 rfl (lv_at hl 2 rfl) ?_
          refine b_icmp_le (tgt := 67) hx hb dX0_agreedOn_48 (by decide) (fun (h4 : (rowF σ 13 k (ix x4)).toInt ≤ x2.toInt) => ?_) (fun (h4 : x2.toInt < (rowF σ 13 k (ix x4)).toInt) => ?_)
          · refine lv_iinc (v := x4 + 1) (lv' := [(4, .int (x4 + 1)), (3, .int x3), (2, .int x2), (0, .ref (ad (3 * k + 9))), (1, .int p0)]) hx hb dX0_agreedOn_67 hl (k := 0) rfl rfl (by decide) rfl (fun ls hl => ?_)
            refine lv_goto (tgt := 13) hx hb dX0_agreedOn_70 (by decide) ?_
            have hix : ix x4 = i := i_ix h0
            exact ih (x4 + 1, x3, x2) _ _ _ ⟨⟨by rw [i_add (by rw [h0]; show _ ∧ _ < _; have : (1 : Int32).toInt = 1 := rfl; omega)]; have : (1 : Int32).toInt = 1 := rfl; omega, by omega, by rw [agC, e, ← hix]; exact if_neg (by intro q; have q1 := q.1; have q2 := q.2; have q2 : x2.toInt < _ := q2; omega)⟩, hY, lv_sub hl [0, 1, 2, 3, 4] rfl⟩
          · refine lv_aload_n hx hb dX0_agreedOn_51 rfl (lv_at hl 3 rfl) ?_
            refine gtL_stepDays hC hin0 hY (k := k) hk (by decide +kernel) dX0_agreedOn_52 ?_
            refine lv_iload hx hb dX0_agreedOn_55 (lv_at hl 0 rfl) ?_
            refine rdL13 hC hY (k := k) hk ⟨by omega, by omega⟩ dX0_agreedOn_57 ?_
            refine lv_istore_n (lv' := [(2, .int (rowF σ 13 k (ix x4))), (4, .int x4), (3, .int x3), (0, .ref (ad (3 * k + 9))), (1, .int p0)]) hx hb dX0_agreedOn_58 rfl hl (by decide) rfl (fun ls hl => ?_)
            refine lv_aload_n hx hb dX0_agreedOn_59 rfl (lv_at hl 3 rfl) ?_
            refine gtL_stepRents hC hin0 hY (k := k) hk (by decide +kernel) dX0_agreedOn_60 ?_
            refine lv_iload hx hb dX0_agreedOn_63 (lv_at hl 1 rfl) ?_
            refine rdL14 hC hY (k := k) hk ⟨by omega, by omega⟩ dX0_agreedOn_65 ?_
            refine lv_istore_n (lv' := [(3, .int (rowF σ 14 k (ix x4))), (2, .int (rowF σ 13 k (ix x4))), (4, .int x4), (0, .ref (ad (3 * k + 9))), (1, .int p0)]) hx hb dX0_agreedOn_66 rfl hl (by decide) rfl (fun ls hl => ?_)
            refine lv_iinc (v := x4 + 1) (lv' := [(4, .int (x4 + 1)), (3, .int (rowF σ 14 k (ix x4))), (2, .int (rowF σ 13 k (ix x4))), (0, .ref (ad (3 * k + 9))), (1, .int p0)]) hx hb dX0_agreedOn_67 hl (k := 2) rfl rfl (by decide) rfl (fun ls hl => ?_)
            refine lv_goto (tgt := 13) hx hb dX0_agreedOn_70 (by decide) ?_
            have hix : ix x4 = i := i_ix h0
            exact ih (x4 + 1, rowF σ 14 k (ix x4), rowF σ 13 k (ix x4)) _ _ _ ⟨⟨by rw [i_add (by rw [h0]; show _ ∧ _ < _; have : (1 : Int32).toInt = 1 := rfl; omega)]; have : (1 : Int32).toInt = 1 := rfl; omega, by omega, by rw [agC, e, ← hix]; exact if_pos ⟨h3, h4⟩⟩, hY, lv_sub hl [0, 1, 2, 3, 4] rfl⟩
  · intro i x H locs ls hI
    obtain ⟨x4, x3, x2⟩ := x
    obtain ⟨hI, -, -⟩ := hI
    obtain ⟨h0, h9, e⟩ := hI
    omega

def ntP (σ : St) (k : Nat) (d : Int32) : Nat → Int32
  | 0 => soF d (σ 5 k) (soF d (σ 4 k + σ 7 k) (soF d (σ 4 k) 7200))
  | i + 1 => soF d (rowF σ 13 k i) (ntP σ k d i)
def ntF (σ : St) (k : Nat) (d : Int32) : Int32 := if 0 < (σ 8 k).toInt then soF d (σ 4 k + (rvF σ k d + 1) * σ 8 k) (ntP σ k d (stN σ k)) else ntP σ k d (stN σ k)
set_option maxHeartbeats 4000000 in
set_option maxRecDepth 100000 in
theorem c_X0_nextTurn (l : Launch) (G : GG) (ad : Nat → Nat) (σ : St) (n : Nat) (τ : St) (k : Nat) (hk : k < n) (p0 : Int32) (hs : okS σ k)  : Met l yX0_nextTurn wsX0_nextTurn ({ frames := 1, cells := 0, slots := 0, locals := 40 }) (PcS G ad σ n τ [.ref (ad (3 * k + 9)), .int p0]) (Qi G (3 * n + 9) ad (ctS G ad σ n τ) (fun r => r = ntF σ k p0)) 0 0 (gF G) := by
  refine Met.ofW (cc := cX0_nextTurn) (maxL := 4) (ret := (some .int)) (by decide) rfl ?_
  intro p e s m args below meth c s₁ B hml hv
  obtain ⟨rfl, hY⟩ := hv
  have hts := atoms_spec (ws := wsX0_nextTurn) B.pre
  have hC : CallFix p m c cX0_nextTurn 4 s _ wsX0_nextTurn RX0 := ⟨B.exec, B.bytes, hml, findClass_of_methodNamed B.named, hts⟩
  have hx := hC.1
  have hb := hC.2.1
  have hr := B.returns
  have hlocks := B.notSynchronized
  have hin0 : ∀ w ∈ wsX00, w ∈ wsX0_nextTurn := by decide +kernel
  have hl := lv_entry ([.ref (ad (3 * k + 9)), .int p0]) (n := 4) (Nat.le_of_ble_eq_true rfl)
  rw [lg_entry_eq]
  generalize (lg_sl ([.ref (ad (3 * k + 9)), .int p0]) ++ List.replicate (4 - (lg_sl ([.ref (ad (3 * k + 9)), .int p0])).length) Slot.unset).toArray = ls at hl ⊢
  have hl : lv_has ls 4 [(0, .ref (ad (3 * k + 9))), (1, .int p0)] := hl
  refine lv_iload_n hx hb dX0_nextTurn_0 rfl (lv_at hl 1 rfl) ?_
  refine lv_aload_n hx hb dX0_nextTurn_1 rfl (lv_at hl 0 rfl) ?_
  refine gtL_from hC hin0 hY (k := k) hk (by decide +kernel) dX0_nextTurn_2 ?_
  refine lv_sipush (v := 7200) hx hb dX0_nextTurn_5 (by decide) ?_
  refine g_calli hY (g_runS (n := 3) hC (c_X0_sooner l G ad σ n τ p0 (σ 4 k) 7200) gX0_nextTurn_X0_sooner rfl ⟨rfl, rfl⟩ (by decide +kernel) ⟨Nat.le_of_ble_eq_true rfl, Nat.le_of_ble_eq_true rfl⟩ hY rfl hl.1 rfl (Nat.le_of_ble_eq_true rfl) dX0_nextTurn_8 ⟨Nat.le_of_ble_eq_true rfl, Nat.le_of_ble_eq_true rfl⟩) (fun r1 H locs h2 hY => ?_)
  subst h2
  refine lv_istore_n (lv' := [(2, .int (soF p0 (σ 4 k) 7200)), (0, .ref (ad (3 * k + 9))), (1, .int p0)]) hx hb dX0_nextTurn_11 rfl hl (by decide) rfl (fun ls hl => ?_)
  refine lv_iload_n hx hb dX0_nextTurn_12 rfl (lv_at hl 2 rfl) ?_
  refine lv_aload_n hx hb dX0_nextTurn_13 rfl (lv_at hl 1 rfl) ?_
  refine gtL_from hC hin0 hY (k := k) hk (by decide +kernel) dX0_nextTurn_14 ?_
  refine lv_aload_n hx hb dX0_nextTurn_17 rfl (lv_at hl 1 rfl) ?_
  refine gtL_free hC hin0 hY (k := k) hk (by decide +kernel) dX0_nextTurn_18 ?_
  refine lv_iadd hx hb dX0_nextTurn_21 ?_
  refine lv_iload_n hx hb dX0_nextTurn_22 rfl (lv_at hl 0 rfl) ?_
  refine g_calli hY (g_runS (n := 3) hC (c_X0_sooner l G ad σ n τ p0 ((σ 4 k) + (σ 7 k)) (soF p0 (σ 4 k) 7200)) gX0_nextTurn_X0_sooner rfl ⟨rfl, rfl⟩ (by decide +kernel) ⟨Nat.le_of_ble_eq_true rfl, Nat.le_of_ble_eq_true rfl⟩ hY rfl hl.1 rfl (Nat.le_of_ble_eq_true rfl) dX0_nextTurn_23 ⟨Nat.le_of_ble_eq_true rfl, Nat.le_of_ble_eq_true rfl⟩) (fun r3 H locs h4 hY => ?_)
  subst h4
  refine lv_istore_n (lv' := [(2, .int (soF p0 ((σ 4 k) + (σ 7 k)) (soF p0 (σ 4 k) 7200))), (0, .ref (ad (3 * k + 9))), (1, .int p0)]) hx hb dX0_nextTurn_26 rfl hl (by decide) rfl (fun ls hl => ?_)
  refine lv_iload_n hx hb dX0_nextTurn_27 rfl (lv_at hl 2 rfl) ?_
  refine lv_aload_n hx hb dX0_nextTurn_28 rfl (lv_at hl 1 rfl) ?_
  refine gtL_to hC hin0 hY (k := k) hk (by decide +kernel) dX0_nextTurn_29 ?_
  refine lv_iload_n hx hb dX0_nextTurn_32 rfl (lv_at hl 0 rfl) ?_
  refine g_calli hY (g_runS (n := 3) hC (c_X0_sooner l G ad σ n τ p0 (σ 5 k) (soF p0 ((σ 4 k) + (σ 7 k)) (soF p0 (σ 4 k) 7200))) gX0_nextTurn_X0_sooner rfl ⟨rfl, rfl⟩ (by decide +kernel) ⟨Nat.le_of_ble_eq_true rfl, Nat.le_of_ble_eq_true rfl⟩ hY rfl hl.1 rfl (Nat.le_of_ble_eq_true rfl) dX0_nextTurn_33 ⟨Nat.le_of_ble_eq_true rfl, Nat.le_of_ble_eq_true rfl⟩) (fun r5 H locs h6 hY => ?_)
  subst h6
  refine lv_istore_n (lv' := [(2, .int (soF p0 (σ 5 k) (soF p0 ((σ 4 k) + (σ 7 k)) (soF p0 (σ 4 k) 7200)))), (0, .ref (ad (3 * k + 9))), (1, .int p0)]) hx hb dX0_nextTurn_36 rfl hl (by decide) rfl (fun ls hl => ?_)
  refine lv_iconst (v := 0) hx hb dX0_nextTurn_37 (by decide) ?_
  refine lv_istore_n (lv' := [(3, .int 0), (2, .int (soF p0 (σ 5 k) (soF p0 ((σ 4 k) + (σ 7 k)) (soF p0 (σ 4 k) 7200)))), (0, .ref (ad (3 * k + 9))), (1, .int p0)]) hx hb dX0_nextTurn_38 rfl hl (by decide) rfl (fun ls hl => ?_)
  refine w_loop (X := Int32 × Int32) (fun i x H locs ls => match x with | (x3, x2) => (x3.toInt = i ∧ (i : Int) ≤ (σ 12 k).toInt ∧ x2 = ntP σ k p0 i) ∧ SyS G ad σ n τ s H locs ∧ lv_has ls 4 [(3, .int x3), (2, .int x2), (0, .ref (ad (3 * k + 9))), (1, .int p0)]) (6) ?_ ?_ ((0, soF p0 (σ 5 k) (soF p0 ((σ 4 k) + (σ 7 k)) (soF p0 (σ 4 k) 7200)))) ⟨⟨rfl, hs.1, rfl⟩, hY, lv_sub hl [0, 1, 2, 3] rfl⟩
  · intro i x H locs ls hI ih
    obtain ⟨x3, x2⟩ := x
    obtain ⟨hI, hY, hl⟩ := hI
    obtain ⟨h0, h9, e⟩ := hI
    refine lv_iload_n hx hb dX0_nextTurn_39 rfl (lv_at hl 0 rfl) ?_
    refine lv_aload_n hx hb dX0_nextTurn_40 rfl (lv_at hl 2 rfl) ?_
    refine gtL_steps hC hin0 hY (k := k) hk (by decide +kernel) dX0_nextTurn_41 ?_
    refine b_icmp_ge (tgt := 71) hx hb dX0_nextTurn_44 (by decide) (fun (h7 : (σ 12 k).toInt ≤ x3.toInt) => ?_) (fun (h7 : x3.toInt < (σ 12 k).toInt) => ?_)
    · refine lv_aload_n hx hb dX0_nextTurn_71 rfl (lv_at hl 2 rfl) ?_
      refine gtL_every hC hin0 hY (k := k) hk (by decide +kernel) dX0_nextTurn_72 ?_
      refine b_if_le (tgt := 101) hx hb dX0_nextTurn_75 (by decide) (fun (h8 : (σ 8 k).toInt ≤ 0) => ?_) (fun (h8 : 0 < (σ 8 k).toInt) => ?_)
      · refine lv_iload_n hx hb dX0_nextTurn_101 rfl (lv_at hl 1 rfl) ?_
        exact g_iret hC hr hlocks hY ⟨Nat.le_of_ble_eq_true rfl, Nat.le_of_ble_eq_true rfl⟩ dX0_nextTurn_102 (by unfold ntF stN; rw [if_neg (by omega), show (σ 12 k).toInt.toNat = i by omega, ← e])
      · refine lv_iload_n hx hb dX0_nextTurn_78 rfl (lv_at hl 3 rfl) ?_
        refine lv_aload_n hx hb dX0_nextTurn_79 rfl (lv_at hl 2 rfl) ?_
        refine gtL_from hC hin0 hY (k := k) hk (by decide +kernel) dX0_nextTurn_80 ?_
        refine lv_aload_n hx hb dX0_nextTurn_83 rfl (lv_at hl 2 rfl) ?_
        refine lv_iload_n hx hb dX0_nextTurn_84 rfl (lv_at hl 3 rfl) ?_
        refine g_calli hY (g_runV (n := 1) (q := (RX0, TX0, 12)) (r := 3 * k + 9) hC (c_X0_reviewsUpTo l G ad σ n τ k hk p0) gX0_nextTurn_X0_reviewsUpTo rfl ⟨rfl, rfl⟩ (by decide +kernel) ⟨Nat.le_of_ble_eq_true rfl, Nat.le_of_ble_eq_true rfl⟩ hY (r_lt hk) (ct_L k) (ci := 0) rfl rfl hl.1 rfl (Nat.le_of_ble_eq_true rfl) dX0_nextTurn_85 ⟨Nat.le_of_ble_eq_true rfl, Nat.le_of_ble_eq_true rfl⟩) (fun r9 H locs h10 hY => ?_)
        subst h10
        refine lv_iconst (v := 1) hx hb dX0_nextTurn_88 (by decide) ?_
        refine lv_iadd hx hb dX0_nextTurn_89 ?_
        refine lv_aload_n hx hb dX0_nextTurn_90 rfl (lv_at hl 2 rfl) ?_
        refine gtL_every hC hin0 hY (k := k) hk (by decide +kernel) dX0_nextTurn_91 ?_
        refine lv_imul hx hb dX0_nextTurn_94 ?_
        refine lv_iadd hx hb dX0_nextTurn_95 ?_
        refine lv_iload_n hx hb dX0_nextTurn_96 rfl (lv_at hl 1 rfl) ?_
        refine g_calli hY (g_runS (n := 3) hC (c_X0_sooner l G ad σ n τ p0 ((σ 4 k) + (((rvF σ k p0) + 1) * (σ 8 k))) x2) gX0_nextTurn_X0_sooner rfl ⟨rfl, rfl⟩ (by decide +kernel) ⟨Nat.le_of_ble_eq_true rfl, Nat.le_of_ble_eq_true rfl⟩ hY rfl hl.1 rfl (Nat.le_of_ble_eq_true rfl) dX0_nextTurn_97 ⟨Nat.le_of_ble_eq_true rfl, Nat.le_of_ble_eq_true rfl⟩) (fun r11 H locs h12 hY => ?_)
        subst h12
        refine lv_istore_n (lv' := [(2, .int (soF p0 ((σ 4 k) + (((rvF σ k p0) + 1) * (σ 8 k))) x2)), (3, .int x3), (0, .ref (ad (3 * k + 9))), (1, .int p0)]) hx hb dX0_nextTurn_100 rfl hl (by decide) rfl (fun ls hl => ?_)
        refine lv_iload_n hx hb dX0_nextTurn_101 rfl (lv_at hl 0 rfl) ?_
        exact g_iret hC hr hlocks hY ⟨Nat.le_of_ble_eq_true rfl, Nat.le_of_ble_eq_true rfl⟩ dX0_nextTurn_102 (by unfold ntF stN; rw [if_pos h8, show (σ 12 k).toInt.toNat = i by omega, ← e])
    · refine lv_iload_n hx hb dX0_nextTurn_47 rfl (lv_at hl 0 rfl) ?_
      refine lv_bipush (v := 6) hx hb dX0_nextTurn_48 (by decide) ?_
      refine b_icmp_ge (tgt := 71) hx hb dX0_nextTurn_50 (by decide) (fun (h13 : 6 ≤ x3.toInt) => ?_) (fun (h13 : x3.toInt < 6) => ?_)
      · refine lv_aload_n hx hb dX0_nextTurn_71 rfl (lv_at hl 2 rfl) ?_
        refine gtL_every hC hin0 hY (k := k) hk (by decide +kernel) dX0_nextTurn_72 ?_
        refine b_if_le (tgt := 101) hx hb dX0_nextTurn_75 (by decide) (fun (h14 : (σ 8 k).toInt ≤ 0) => ?_) (fun (h14 : 0 < (σ 8 k).toInt) => ?_)
        · refine lv_iload_n hx hb dX0_nextTurn_101 rfl (lv_at hl 1 rfl) ?_
          exact g_iret hC hr hlocks hY ⟨Nat.le_of_ble_eq_true rfl, Nat.le_of_ble_eq_true rfl⟩ dX0_nextTurn_102 (by unfold ntF stN; rw [if_neg (by omega), show (σ 12 k).toInt.toNat = i by omega, ← e])
        · refine lv_iload_n hx hb dX0_nextTurn_78 rfl (lv_at hl 3 rfl) ?_
          refine lv_aload_n hx hb dX0_nextTurn_79 rfl (lv_at hl 2 rfl) ?_
          refine gtL_from hC hin0 hY (k := k) hk (by decide +kernel) dX0_nextTurn_80 ?_
          refine lv_aload_n hx hb dX0_nextTurn_83 rfl (lv_at hl 2 rfl) ?_
          refine lv_iload_n hx hb dX0_nextTurn_84 rfl (lv_at hl 3 rfl) ?_
          refine g_calli hY (g_runV (n := 1) (q := (RX0, TX0, 12)) (r := 3 * k + 9) hC (c_X0_reviewsUpTo l G ad σ n τ k hk p0) gX0_nextTurn_X0_reviewsUpTo rfl ⟨rfl, rfl⟩ (by decide +kernel) ⟨Nat.le_of_ble_eq_true rfl, Nat.le_of_ble_eq_true rfl⟩ hY (r_lt hk) (ct_L k) (ci := 0) rfl rfl hl.1 rfl (Nat.le_of_ble_eq_true rfl) dX0_nextTurn_85 ⟨Nat.le_of_ble_eq_true rfl, Nat.le_of_ble_eq_true rfl⟩) (fun r15 H locs h16 hY => ?_)
          subst h16
          refine lv_iconst (v := 1) hx hb dX0_nextTurn_88 (by decide) ?_
          refine lv_iadd hx hb dX0_nextTurn_89 ?_
          refine lv_aload_n hx hb dX0_nextTurn_90 rfl (lv_at hl 2 rfl) ?_
          refine gtL_every hC hin0 hY (k := k) hk (by decide +kernel) dX0_nextTurn_91 ?_
          refine lv_imul hx hb dX0_nextTurn_94 ?_
          refine lv_iadd hx hb dX0_nextTurn_95 ?_
          refine lv_iload_n hx hb dX0_nextTurn_96 rfl (lv_at hl 1 rfl) ?_
          refine g_calli hY (g_runS (n := 3) hC (c_X0_sooner l G ad σ n τ p0 ((σ 4 k) + (((rvF σ k p0) + 1) * (σ 8 k))) x2) gX0_nextTurn_X0_sooner rfl ⟨rfl, rfl⟩ (by decide +kernel) ⟨Nat.le_of_ble_eq_true rfl, Nat.le_of_ble_eq_true rfl⟩ hY rfl hl.1 rfl (Nat.le_of_ble_eq_true rfl) dX0_nextTurn_97 ⟨Nat.le_of_ble_eq_true rfl, Nat.le_of_ble_eq_true rfl⟩) (fun r17 H locs h18 hY => ?_)
          subst h18
          refine lv_istore_n (lv' := [(2, .int (soF p0 ((σ 4 k) + (((rvF σ k p0) + 1) * (σ 8 k))) x2)), (3, .int x3), (0, .ref (ad (3 * k + 9))), (1, .int p0)]) hx hb dX0_nextTurn_100 rfl hl (by decide) rfl (fun ls hl => ?_)
          refine lv_iload_n hx hb dX0_nextTurn_101 rfl (lv_at hl 0 rfl) ?_
          exact g_iret hC hr hlocks hY ⟨Nat.le_of_ble_eq_true rfl, Nat.le_of_ble_eq_true rfl⟩ dX0_nextTurn_102 (by unfold ntF stN; rw [if_pos h14, show (σ 12 k).toInt.toNat = i by omega, ← e])
      · refine lv_iload_n hx hb dX0_nextTurn_53 rfl (lv_at hl 3 rfl) ?_
        refine lv_aload_n hx hb dX0_nextTurn_54 rfl (lv_at hl 2 rfl) ?_
        refine gtL_stepDays hC hin0 hY (k := k) hk (by decide +kernel) dX0_nextTurn_55 ?_
        refine lv_iload_n hx hb dX0_nextTurn_58 rfl (lv_at hl 0 rfl) ?_
        refine rdL13 hC hY (k := k) hk ⟨by omega, by omega⟩ dX0_nextTurn_59 ?_
        refine lv_iload_n hx hb dX0_nextTurn_60 rfl (lv_at hl 1 rfl) ?_
        refine g_calli hY (g_runS (n := 3) hC (c_X0_sooner l G ad σ n τ p0 (rowF σ 13 k (ix x3)) x2) gX0_nextTurn_X0_sooner rfl ⟨rfl, rfl⟩ (by decide +kernel) ⟨Nat.le_of_ble_eq_true rfl, Nat.le_of_ble_eq_true rfl⟩ hY rfl hl.1 rfl (Nat.le_of_ble_eq_true rfl) dX0_nextTurn_61 ⟨Nat.le_of_ble_eq_true rfl, Nat.le_of_ble_eq_true rfl⟩) (fun r19 H locs h20 hY => ?_)
        subst h20
        refine lv_istore_n (lv' := [(2, .int (soF p0 (rowF σ 13 k (ix x3)) x2)), (3, .int x3), (0, .ref (ad (3 * k + 9))), (1, .int p0)]) hx hb dX0_nextTurn_64 rfl hl (by decide) rfl (fun ls hl => ?_)
        refine lv_iinc (v := x3 + 1) (lv' := [(3, .int (x3 + 1)), (2, .int (soF p0 (rowF σ 13 k (ix x3)) x2)), (0, .ref (ad (3 * k + 9))), (1, .int p0)]) hx hb dX0_nextTurn_65 hl (k := 1) rfl rfl (by decide) rfl (fun ls hl => ?_)
        refine lv_goto (tgt := 39) hx hb dX0_nextTurn_68 (by decide) ?_
        have hix : ix x3 = i := i_ix h0
        exact ih (x3 + 1, soF p0 (rowF σ 13 k (ix x3)) x2) _ _ _ ⟨⟨by rw [i_add (by have : (1 : Int32).toInt = 1 := rfl; omega)]; have : (1 : Int32).toInt = 1 := rfl; omega, by omega, by rw [ntP, ← e, ← hix]⟩, hY, lv_sub hl [0, 1, 2, 3] rfl⟩
  · intro i x H locs ls hI
    obtain ⟨x3, x2⟩ := x
    obtain ⟨hI, -, -⟩ := hI
    obtain ⟨h0, h9, e⟩ := hI
    omega

def plG (σ : St) (k : Nat) (d : Int32) : Nat → Nat → Nat
  | 0, i => i
  | f + 1, i => if (rowF σ 13 k i).toInt = d.toInt then i else plG σ k d f (i + 1)
theorem plG_s {σ : St} {k : Nat} {d : Int32} {f i : Nat} : plG σ k d (f + 1) i = if (rowF σ 13 k i).toInt = d.toInt then i else plG σ k d f (i + 1) := rfl
abbrev plF (σ : St) (k : Nat) (d : Int32) : Nat := plG σ k d (stN σ k) 0
def psS (σ : St) (k : Nat) (d r : Int32) : St := if plF σ k d < 6 then us (us (us σ 13 (6 * k + plF σ k d) d) 14 (6 * k + plF σ k d) r) 12 k (if plF σ k d = stN σ k then σ 12 k + 1 else σ 12 k) else σ
theorem plG_le {σ : St} {k : Nat} {d : Int32} : ∀ (f i : Nat), plG σ k d f i ≤ i + f := by
  intro f
  induction f with
  | zero => intro i; exact Nat.le_refl _
  | succ f ih =>
    intro i
    unfold plG
    split
    · omega
    · have := ih (i + 1); omega
set_option maxHeartbeats 4000000 in
set_option maxRecDepth 100000 in
theorem c_X0_putStep (l : Launch) (G : GG) (ad : Nat → Nat) (σ : St) (n : Nat) (τ : St) (k : Nat) (hk : k < n) (p1 p2 : Int32) (hs : okS σ k)  : Met l yX0_putStep wsX0_putStep ({ frames := 1, cells := 0, slots := 0, locals := 40 }) (PcS G ad σ n τ [.ref (ad (3 * k + 9)), .int p1, .int p2]) (Qi G (3 * n + 9) ad (ctS G ad (psS σ k p1 p2) n τ) (fun r => (r = 1 ∧ plF σ k p1 < 6) ∨ (r = 0 ∧ ¬ plF σ k p1 < 6))) 0 0 (gF G) := by
  refine Met.ofW (cc := cX0_putStep) (maxL := 4) (ret := (some .boolean)) (by decide) rfl ?_
  intro p e s m args below meth c s₁ B hml hv
  obtain ⟨rfl, hY⟩ := hv
  have hts := atoms_spec (ws := wsX0_putStep) B.pre
  have hC : CallFix p m c cX0_putStep 4 s _ wsX0_putStep RX0 := ⟨B.exec, B.bytes, hml, findClass_of_methodNamed B.named, hts⟩
  have hx := hC.1
  have hb := hC.2.1
  have hr := B.returns
  have hlocks := B.notSynchronized
  have hin0 : ∀ w ∈ wsX00, w ∈ wsX0_putStep := by decide +kernel
  have hl := lv_entry ([.ref (ad (3 * k + 9)), .int p1, .int p2]) (n := 4) (Nat.le_of_ble_eq_true rfl)
  rw [lg_entry_eq]
  generalize (lg_sl ([.ref (ad (3 * k + 9)), .int p1, .int p2]) ++ List.replicate (4 - (lg_sl ([.ref (ad (3 * k + 9)), .int p1, .int p2])).length) Slot.unset).toArray = ls at hl ⊢
  have hl : lv_has ls 4 [(0, .ref (ad (3 * k + 9))), (1, .int p1), (2, .int p2)] := hl
  refine lv_iconst (v := 0) hx hb dX0_putStep_0 (by decide) ?_
  refine lv_istore_n (lv' := [(3, .int 0), (0, .ref (ad (3 * k + 9))), (1, .int p1), (2, .int p2)]) hx hb dX0_putStep_1 rfl hl (by decide) rfl (fun ls hl => ?_)
  refine w_loop (X := Int32) (fun i x H locs ls => match x with | x3 => (x3.toInt = i ∧ (i : Int) ≤ (σ 12 k).toInt ∧ plG σ k p1 (stN σ k - i) i = plF σ k p1) ∧ SyS G ad σ n τ s H locs ∧ lv_has ls 4 [(3, .int x3), (0, .ref (ad (3 * k + 9))), (1, .int p1), (2, .int p2)]) (6) ?_ ?_ (0) ⟨⟨rfl, hs.1, rfl⟩, hY, lv_sub hl [0, 1, 2, 3] rfl⟩
  · intro i x H locs ls hI ih
    obtain ⟨x3, rfl⟩ : ∃ z, z = x := ⟨_, rfl⟩
    obtain ⟨hI, hY, hl⟩ := hI
    obtain ⟨h0, h9, e⟩ := hI
    refine lv_iload_n hx hb dX0_putStep_2 rfl (lv_at hl 0 rfl) ?_
    refine lv_aload_n hx hb dX0_putStep_3 rfl (lv_at hl 1 rfl) ?_
    refine gtL_steps hC hin0 hY (k := k) hk (by decide +kernel) dX0_putStep_4 ?_
    refine b_icmp_ge (tgt := 32) hx hb dX0_putStep_7 (by decide) (fun (h1 : (σ 12 k).toInt ≤ x3.toInt) => ?_) (fun (h1 : x3.toInt < (σ 12 k).toInt) => ?_)
    · refine lv_iload_n hx hb dX0_putStep_32 rfl (lv_at hl 0 rfl) ?_
      refine lv_bipush (v := 6) hx hb dX0_putStep_33 (by decide) ?_
      refine b_icmp_lt (tgt := 40) hx hb dX0_putStep_35 (by decide) (fun (h2 : x3.toInt < 6) => ?_) (fun (h2 : 6 ≤ x3.toInt) => ?_)
      · refine lv_aload_n hx hb dX0_putStep_40 rfl (lv_at hl 1 rfl) ?_
        refine gtL_stepDays hC hin0 hY (k := k) hk (by decide +kernel) dX0_putStep_41 ?_
        refine lv_iload_n hx hb dX0_putStep_44 rfl (lv_at hl 0 rfl) ?_
        refine lv_iload_n hx hb dX0_putStep_45 rfl (lv_at hl 2 rfl) ?_
        refine wrL13 hC hY (k := k) hk ⟨by omega, by omega⟩ dX0_putStep_46 (fun H locs hY => ?_)
        refine lv_aload_n hx hb dX0_putStep_47 rfl (lv_at hl 1 rfl) ?_
        refine gtL_stepRents hC hin0 hY (k := k) hk (by decide +kernel) dX0_putStep_48 ?_
        refine lv_iload_n hx hb dX0_putStep_51 rfl (lv_at hl 0 rfl) ?_
        refine lv_iload_n hx hb dX0_putStep_52 rfl (lv_at hl 3 rfl) ?_
        refine wrL14 hC hY (k := k) hk ⟨by omega, by omega⟩ dX0_putStep_53 (fun H locs hY => ?_)
        refine lv_aload_n hx hb dX0_putStep_54 rfl (lv_at hl 1 rfl) ?_
        refine lv_aload_n hx hb dX0_putStep_55 rfl (lv_at hl 1 rfl) ?_
        refine gtL_steps hC hin0 hY (k := k) hk (by decide +kernel) dX0_putStep_56 ?_
        refine lv_iload_n hx hb dX0_putStep_59 rfl (lv_at hl 0 rfl) ?_
        refine lv_iconst (v := 1) hx hb dX0_putStep_60 (by decide) ?_
        refine lv_iadd hx hb dX0_putStep_61 ?_
        refine va_mmax hx hb (hC.2.2.1.trans hl.1.symm) hC.2.2.2.1 (hC.2.2.2.2 _ (by decide +kernel)) (hC.2.2.2.2 _ (by decide +kernel)) (hC.2.2.2.2 _ (by decide +kernel)) (hC.2.2.2.2 _ (by decide +kernel)) (Nat.le_of_ble_eq_true rfl) (Nat.le_of_ble_eq_true rfl) (Nat.le_of_ble_eq_true rfl) (Nat.le_of_ble_eq_true rfl) dX0_putStep_62 ?_
        refine ptL_steps hC hin0 hY (k := k) hk (by decide +kernel) dX0_putStep_65 (fun H locs hY => ?_)
        refine lv_iconst (v := 1) hx hb dX0_putStep_68 (by decide) ?_
        have hix : ix x3 = i := i_ix h0
        have hpl : plF σ k p1 = i := by rw [← e, show stN σ k - i = 0 by (unfold stN; omega)]; rfl
        have hm : (if plF σ k p1 = stN σ k then σ 12 k + 1 else σ 12 k) = (if σ 12 k < x3 + 1 then x3 + 1 else σ 12 k) := by
          have h1 : (x3 + 1).toInt = x3.toInt + 1 := i_add (by have : (1 : Int32).toInt = 1 := rfl; omega)
          by_cases hz : i = stN σ k
          · rw [if_pos (by rw [hpl]; exact hz), if_pos (by rw [Int32.lt_iff_toInt_lt, h1, h0, hz]; unfold stN; omega), show x3 = σ 12 k from i_ext (by rw [h0, hz]; unfold stN; omega)]
          · rw [if_neg (by rw [hpl]; exact hz), if_neg (by rw [Int32.lt_iff_toInt_lt, h1, h0]; unfold stN at hz; omega)]
        rw [show psS σ k p1 p2 = (us (us (us σ 13 (6 * k + ix x3) p1) 14 (6 * k + ix x3) p2) 12 k (if ((us (us σ 13 (6 * k + ix x3) p1) 14 (6 * k + ix x3) p2) 12 k) < (x3 + 1) then (x3 + 1) else ((us (us σ 13 (6 * k + ix x3) p1) 14 (6 * k + ix x3) p2) 12 k))) from by unfold psS; rw [if_pos (by rw [hpl]; omega), hm, hpl, hix]; rfl]
        exact g_zret hC hr hlocks rfl hY ⟨Nat.le_of_ble_eq_true rfl, Nat.le_of_ble_eq_true rfl⟩ dX0_putStep_69 (Or.inl ⟨rfl, by rw [hpl]; omega⟩)
      · refine lv_iconst (v := 0) hx hb dX0_putStep_38 (by decide) ?_
        have hix : ix x3 = i := i_ix h0
        have hpl : plF σ k p1 = i := by rw [← e, show stN σ k - i = 0 by (unfold stN; omega)]; rfl
        rw [show psS σ k p1 p2 = σ from if_neg (by rw [hpl]; omega)]
        exact g_zret hC hr hlocks rfl hY ⟨Nat.le_of_ble_eq_true rfl, Nat.le_of_ble_eq_true rfl⟩ dX0_putStep_39 (Or.inr ⟨rfl, by rw [hpl]; omega⟩)
    · refine lv_iload_n hx hb dX0_putStep_10 rfl (lv_at hl 0 rfl) ?_
      refine lv_bipush (v := 6) hx hb dX0_putStep_11 (by decide) ?_
      refine b_icmp_ge (tgt := 32) hx hb dX0_putStep_13 (by decide) (fun (h3 : 6 ≤ x3.toInt) => ?_) (fun (h3 : x3.toInt < 6) => ?_)
      · refine lv_iload_n hx hb dX0_putStep_32 rfl (lv_at hl 0 rfl) ?_
        refine lv_bipush (v := 6) hx hb dX0_putStep_33 (by decide) ?_
        refine b_icmp_lt (tgt := 40) hx hb dX0_putStep_35 (by decide) (fun (h4 : x3.toInt < 6) => ?_) (fun (h4 : 6 ≤ x3.toInt) => ?_)
        · refine lv_aload_n hx hb dX0_putStep_40 rfl (lv_at hl 1 rfl) ?_
          refine gtL_stepDays hC hin0 hY (k := k) hk (by decide +kernel) dX0_putStep_41 ?_
          refine lv_iload_n hx hb dX0_putStep_44 rfl (lv_at hl 0 rfl) ?_
          refine lv_iload_n hx hb dX0_putStep_45 rfl (lv_at hl 2 rfl) ?_
          refine wrL13 hC hY (k := k) hk ⟨by omega, by omega⟩ dX0_putStep_46 (fun H locs hY => ?_)
          refine lv_aload_n hx hb dX0_putStep_47 rfl (lv_at hl 1 rfl) ?_
          refine gtL_stepRents hC hin0 hY (k := k) hk (by decide +kernel) dX0_putStep_48 ?_
          refine lv_iload_n hx hb dX0_putStep_51 rfl (lv_at hl 0 rfl) ?_
          refine lv_iload_n hx hb dX0_putStep_52 rfl (lv_at hl 3 rfl) ?_
          refine wrL14 hC hY (k := k) hk ⟨by omega, by omega⟩ dX0_putStep_53 (fun H locs hY => ?_)
          refine lv_aload_n hx hb dX0_putStep_54 rfl (lv_at hl 1 rfl) ?_
          refine lv_aload_n hx hb dX0_putStep_55 rfl (lv_at hl 1 rfl) ?_
          refine gtL_steps hC hin0 hY (k := k) hk (by decide +kernel) dX0_putStep_56 ?_
          refine lv_iload_n hx hb dX0_putStep_59 rfl (lv_at hl 0 rfl) ?_
          refine lv_iconst (v := 1) hx hb dX0_putStep_60 (by decide) ?_
          refine lv_iadd hx hb dX0_putStep_61 ?_
          refine va_mmax hx hb (hC.2.2.1.trans hl.1.symm) hC.2.2.2.1 (hC.2.2.2.2 _ (by decide +kernel)) (hC.2.2.2.2 _ (by decide +kernel)) (hC.2.2.2.2 _ (by decide +kernel)) (hC.2.2.2.2 _ (by decide +kernel)) (Nat.le_of_ble_eq_true rfl) (Nat.le_of_ble_eq_true rfl) (Nat.le_of_ble_eq_true rfl) (Nat.le_of_ble_eq_true rfl) dX0_putStep_62 ?_
          refine ptL_steps hC hin0 hY (k := k) hk (by decide +kernel) dX0_putStep_65 (fun H locs hY => ?_)
          refine lv_iconst (v := 1) hx hb dX0_putStep_68 (by decide) ?_
          have hix : ix x3 = i := i_ix h0
          have hpl : plF σ k p1 = i := by rw [← e, show stN σ k - i = 0 by (unfold stN; omega)]; rfl
          have hm : (if plF σ k p1 = stN σ k then σ 12 k + 1 else σ 12 k) = (if σ 12 k < x3 + 1 then x3 + 1 else σ 12 k) := by
            have h1 : (x3 + 1).toInt = x3.toInt + 1 := i_add (by have : (1 : Int32).toInt = 1 := rfl; omega)
            by_cases hz : i = stN σ k
            · rw [if_pos (by rw [hpl]; exact hz), if_pos (by rw [Int32.lt_iff_toInt_lt, h1, h0, hz]; unfold stN; omega), show x3 = σ 12 k from i_ext (by rw [h0, hz]; unfold stN; omega)]
            · rw [if_neg (by rw [hpl]; exact hz), if_neg (by rw [Int32.lt_iff_toInt_lt, h1, h0]; unfold stN at hz; omega)]
          rw [show psS σ k p1 p2 = (us (us (us σ 13 (6 * k + ix x3) p1) 14 (6 * k + ix x3) p2) 12 k (if ((us (us σ 13 (6 * k + ix x3) p1) 14 (6 * k + ix x3) p2) 12 k) < (x3 + 1) then (x3 + 1) else ((us (us σ 13 (6 * k + ix x3) p1) 14 (6 * k + ix x3) p2) 12 k))) from by unfold psS; rw [if_pos (by rw [hpl]; omega), hm, hpl, hix]; rfl]
          exact g_zret hC hr hlocks rfl hY ⟨Nat.le_of_ble_eq_true rfl, Nat.le_of_ble_eq_true rfl⟩ dX0_putStep_69 (Or.inl ⟨rfl, by rw [hpl]; omega⟩)
        · refine lv_iconst (v := 0) hx hb dX0_putStep_38 (by decide) ?_
          have hix : ix x3 = i := i_ix h0
          have hpl : plF σ k p1 = i := by rw [← e, show stN σ k - i = 0 by (unfold stN; omega)]; rfl
          rw [show psS σ k p1 p2 = σ from if_neg (by rw [hpl]; omega)]
          exact g_zret hC hr hlocks rfl hY ⟨Nat.le_of_ble_eq_true rfl, Nat.le_of_ble_eq_true rfl⟩ dX0_putStep_39 (Or.inr ⟨rfl, by rw [hpl]; omega⟩)
      · refine lv_aload_n hx hb dX0_putStep_16 rfl (lv_at hl 1 rfl) ?_
        refine gtL_stepDays hC hin0 hY (k := k) hk (by decide +kernel) dX0_putStep_17 ?_
        refine lv_iload_n hx hb dX0_putStep_20 rfl (lv_at hl 0 rfl) ?_
        refine rdL13 hC hY (k := k) hk ⟨by omega, by omega⟩ dX0_putStep_21 ?_
        refine lv_iload_n hx hb dX0_putStep_22 rfl (lv_at hl 2 rfl) ?_
        refine b_icmp_eq (tgt := 32) hx hb dX0_putStep_23 (by decide) (fun (h5 : (rowF σ 13 k (ix x3)).toInt = p1.toInt) => ?_) (fun (h5 : ¬ (rowF σ 13 k (ix x3)).toInt = p1.toInt) => ?_)
        · refine lv_iload_n hx hb dX0_putStep_32 rfl (lv_at hl 0 rfl) ?_
          refine lv_bipush (v := 6) hx hb dX0_putStep_33 (by decide) ?_
          refine b_icmp_lt (tgt := 40) hx hb dX0_putStep_35 (by decide) (fun (h6 : x3.toInt < 6) => ?_) (fun (h6 : 6 ≤ x3.toInt) => ?_)
          · refine lv_aload_n hx hb dX0_putStep_40 rfl (lv_at hl 1 rfl) ?_
            refine gtL_stepDays hC hin0 hY (k := k) hk (by decide +kernel) dX0_putStep_41 ?_
            refine lv_iload_n hx hb dX0_putStep_44 rfl (lv_at hl 0 rfl) ?_
            refine lv_iload_n hx hb dX0_putStep_45 rfl (lv_at hl 2 rfl) ?_
            refine wrL13 hC hY (k := k) hk ⟨by omega, by omega⟩ dX0_putStep_46 (fun H locs hY => ?_)
            refine lv_aload_n hx hb dX0_putStep_47 rfl (lv_at hl 1 rfl) ?_
            refine gtL_stepRents hC hin0 hY (k := k) hk (by decide +kernel) dX0_putStep_48 ?_
            refine lv_iload_n hx hb dX0_putStep_51 rfl (lv_at hl 0 rfl) ?_
            refine lv_iload_n hx hb dX0_putStep_52 rfl (lv_at hl 3 rfl) ?_
            refine wrL14 hC hY (k := k) hk ⟨by omega, by omega⟩ dX0_putStep_53 (fun H locs hY => ?_)
            refine lv_aload_n hx hb dX0_putStep_54 rfl (lv_at hl 1 rfl) ?_
            refine lv_aload_n hx hb dX0_putStep_55 rfl (lv_at hl 1 rfl) ?_
            refine gtL_steps hC hin0 hY (k := k) hk (by decide +kernel) dX0_putStep_56 ?_
            refine lv_iload_n hx hb dX0_putStep_59 rfl (lv_at hl 0 rfl) ?_
            refine lv_iconst (v := 1) hx hb dX0_putStep_60 (by decide) ?_
            refine lv_iadd hx hb dX0_putStep_61 ?_
            refine va_mmax hx hb (hC.2.2.1.trans hl.1.symm) hC.2.2.2.1 (hC.2.2.2.2 _ (by decide +kernel)) (hC.2.2.2.2 _ (by decide +kernel)) (hC.2.2.2.2 _ (by decide +kernel)) (hC.2.2.2.2 _ (by decide +kernel)) (Nat.le_of_ble_eq_true rfl) (Nat.le_of_ble_eq_true rfl) (Nat.le_of_ble_eq_true rfl) (Nat.le_of_ble_eq_true rfl) dX0_putStep_62 ?_
            refine ptL_steps hC hin0 hY (k := k) hk (by decide +kernel) dX0_putStep_65 (fun H locs hY => ?_)
            refine lv_iconst (v := 1) hx hb dX0_putStep_68 (by decide) ?_
            have hix : ix x3 = i := i_ix h0
            have hf : stN σ k - i = (stN σ k - (i + 1)) + 1 := by unfold stN; omega
            have hpl : plF σ k p1 = i := by rw [← e, hf, plG_s]; exact if_pos (by rw [← hix]; exact h5)
            have hm : (if plF σ k p1 = stN σ k then σ 12 k + 1 else σ 12 k) = (if σ 12 k < x3 + 1 then x3 + 1 else σ 12 k) := by
              have h1 : (x3 + 1).toInt = x3.toInt + 1 := i_add (by have : (1 : Int32).toInt = 1 := rfl; omega)
              by_cases hz : i = stN σ k
              · rw [if_pos (by rw [hpl]; exact hz), if_pos (by rw [Int32.lt_iff_toInt_lt, h1, h0, hz]; unfold stN; omega), show x3 = σ 12 k from i_ext (by rw [h0, hz]; unfold stN; omega)]
              · rw [if_neg (by rw [hpl]; exact hz), if_neg (by rw [Int32.lt_iff_toInt_lt, h1, h0]; unfold stN at hz; omega)]
            rw [show psS σ k p1 p2 = (us (us (us σ 13 (6 * k + ix x3) p1) 14 (6 * k + ix x3) p2) 12 k (if ((us (us σ 13 (6 * k + ix x3) p1) 14 (6 * k + ix x3) p2) 12 k) < (x3 + 1) then (x3 + 1) else ((us (us σ 13 (6 * k + ix x3) p1) 14 (6 * k + ix x3) p2) 12 k))) from by unfold psS; rw [if_pos (by rw [hpl]; omega), hm, hpl, hix]; rfl]
            exact g_zret hC hr hlocks rfl hY ⟨Nat.le_of_ble_eq_true rfl, Nat.le_of_ble_eq_true rfl⟩ dX0_putStep_69 (Or.inl ⟨rfl, by rw [hpl]; omega⟩)
          · refine lv_iconst (v := 0) hx hb dX0_putStep_38 (by decide) ?_
            have hix : ix x3 = i := i_ix h0
            have hf : stN σ k - i = (stN σ k - (i + 1)) + 1 := by unfold stN; omega
            have hpl : plF σ k p1 = i := by rw [← e, hf, plG_s]; exact if_pos (by rw [← hix]; exact h5)
            rw [show psS σ k p1 p2 = σ from if_neg (by rw [hpl]; omega)]
            exact g_zret hC hr hlocks rfl hY ⟨Nat.le_of_ble_eq_true rfl, Nat.le_of_ble_eq_true rfl⟩ dX0_putStep_39 (Or.inr ⟨rfl, by rw [hpl]; omega⟩)
        · refine lv_iinc (v := x3 + 1) (lv' := [(3, .int (x3 + 1)), (0, .ref (ad (3 * k + 9))), (1, .int p1), (2, .int p2)]) hx hb dX0_putStep_26 hl (k := 0) rfl rfl (by decide) rfl (fun ls hl => ?_)
          refine lv_goto (tgt := 2) hx hb dX0_putStep_29 (by decide) ?_
          have hix : ix x3 = i := i_ix h0
          have hne : ¬ (rowF σ 13 k i).toInt = p1.toInt := by rw [← hix]; exact h5
          have hf : stN σ k - i = (stN σ k - (i + 1)) + 1 := by unfold stN; omega
          exact ih (x3 + 1) _ _ _ ⟨⟨by rw [i_add (by have : (1 : Int32).toInt = 1 := rfl; omega)]; have : (1 : Int32).toInt = 1 := rfl; omega, by omega, by rw [← e, hf, plG_s, if_neg hne]⟩, hY, lv_sub hl [0, 1, 2, 3] rfl⟩
  · intro i x H locs ls hI
    obtain ⟨x3, rfl⟩ : ∃ z, z = x := ⟨_, rfl⟩
    obtain ⟨hI, -, -⟩ := hI
    obtain ⟨h0, h9, e⟩ := hI
    omega


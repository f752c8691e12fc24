def cdLOn (p0 p1 : Int32) : Int32 := if 0 ≤ p0.toInt ∧ p0.toInt < 6 then (if 0 ≤ p1.toInt ∧ p1.toInt < 7200 then 0 else 1) else 1
def lnG (σ : St) (n : Nat) (u d : Int32) : Nat → Nat → Int32
  | 0, _ => -1
  | f + 1, i => if (i < n ∧ (σ 3 i).toInt = u.toInt) ∧ rOn σ i d then nI i else lnG σ n u d f (i + 1)
theorem lnG_s {σ : St} {n : Nat} {u d : Int32} {f i : Nat} : lnG σ n u d (f + 1) i = if (i < n ∧ (σ 3 i).toInt = u.toInt) ∧ rOn σ i d then nI i else lnG σ n u d f (i + 1) := rfl
set_option maxHeartbeats 4000000 in
set_option maxRecDepth 100000 in
theorem c_X1_leaseOn (l : Launch) (G : GG) (ad : Nat → Nat) (σ : St) (n : Nat) (τ : St) (hst : l.stackTraces = false) (p0 p1 : Int32)  : vx_Met l yX1_leaseOn wsX1_leaseOn ({ frames := 8, cells := 6, slots := 36, locals := 160 }) (PcS G ad σ n τ [.ref (ad 0), .int p0, .int p1]) (Qi G (3 * n + 9) ad (ctS G ad σ n τ) (fun r => cdLOn p0 p1 = 0 ∧ r = lnG σ n p0 p1 24 0)) (XG G (3 * n + 9) ad (ctS G ad σ n τ) (fun E => exC E (cdLOn p0 p1))) 6 36 (gF G) := by
  refine vx_ofW (cc := cX1_leaseOn) (maxL := 5) (ret := (some .int)) (by decide) rfl ?_
  intro p e s m args below meth c s₁ B hml hxt hv
  obtain ⟨rfl, hY⟩ := hv
  have hts := atoms_spec (ws := wsX1_leaseOn) B.pre
  have hC : CallFix p m c cX1_leaseOn 5 s _ wsX1_leaseOn RX1 := ⟨B.exec, B.bytes, hml, findClass_of_methodNamed B.named, hts⟩
  have hx := hC.1
  have hb := hC.2.1
  have hr := B.returns
  have hlocks := B.notSynchronized
  have hin0 : ∀ w ∈ wsX00, w ∈ wsX1_leaseOn := by decide +kernel
  have hin1 : ∀ w ∈ wsX10, w ∈ wsX1_leaseOn := by decide +kernel
  have hl := lv_entry ([.ref (ad 0), .int p0, .int p1]) (n := 5) (Nat.le_of_ble_eq_true rfl)
  rw [lg_entry_eq]
  generalize (lg_sl ([.ref (ad 0), .int p0, .int p1]) ++ List.replicate (5 - (lg_sl ([.ref (ad 0), .int p0, .int p1])).length) Slot.unset).toArray = ls at hl ⊢
  have hl : lv_has ls 5 [(0, .ref (ad 0)), (1, .int p0), (2, .int p1)] := hl
  refine lv_iload_n hx hb dX1_leaseOn_0 rfl (lv_at hl 1 rfl) ?_
  refine lv_aload_n hx hb dX1_leaseOn_1 rfl (lv_at hl 0 rfl) ?_
  refine gtV_areas hC hin1 hY (by decide +kernel) dX1_leaseOn_2 ?_
  refine g_alen hC hY 1 (by omega) 0 rfl rfl (v := 6) rfl dX1_leaseOn_5 ?_
  refine gx_callv hY (gx_runS (n := 2) hC (c_X1_checkNumber l G ad σ n τ hst p0 6 6 rfl) gX1_leaseOn_X1_checkNumber rfl ⟨rfl, rfl⟩ (by decide +kernel) ⟨Nat.le_of_ble_eq_true rfl, Nat.le_of_ble_eq_true rfl⟩ hY rfl hl.1 rfl (Nat.le_of_ble_eq_true rfl) dX1_leaseOn_6 ⟨Nat.le_of_ble_eq_true rfl, Nat.le_of_ble_eq_true rfl⟩) hxt hlocks ⟨Nat.le_of_ble_eq_true rfl, Nat.le_of_ble_eq_true rfl⟩ (fun E h => Or.inl ⟨h.1, by have q := h.2; unfold cdLOn; (repeat' split) <;> first | rfl | omega⟩) (fun H locs h2 hY => ?_)
  refine lv_iload_n hx hb dX1_leaseOn_9 rfl (lv_at hl 2 rfl) ?_
  refine lv_sipush (v := 7200) hx hb dX1_leaseOn_10 (by decide) ?_
  refine gx_callv hY (gx_runS (n := 2) hC (c_X1_checkNumber l G ad σ n τ hst p1 7200 7200 rfl) gX1_leaseOn_X1_checkNumber rfl ⟨rfl, rfl⟩ (by decide +kernel) ⟨Nat.le_of_ble_eq_true rfl, Nat.le_of_ble_eq_true rfl⟩ hY rfl hl.1 rfl (Nat.le_of_ble_eq_true rfl) dX1_leaseOn_13 ⟨Nat.le_of_ble_eq_true rfl, Nat.le_of_ble_eq_true rfl⟩) hxt hlocks ⟨Nat.le_of_ble_eq_true rfl, Nat.le_of_ble_eq_true rfl⟩ (fun E h => Or.inl ⟨h.1, by have q := h.2; unfold cdLOn; (repeat' split) <;> first | rfl | omega⟩) (fun H locs h4 hY => ?_)
  refine lv_iconst (v := 0) hx hb dX1_leaseOn_16 (by decide) ?_
  refine lv_istore_n (lv' := [(3, .int 0), (0, .ref (ad 0)), (1, .int p0), (2, .int p1)]) hx hb dX1_leaseOn_17 rfl hl (by decide) rfl (fun ls hl => ?_)
  refine w_loop (X := Int32) (fun i x H locs ls => match x with | x3 => (x3.toInt = i ∧ (i : Int) ≤ 24 ∧ lnG σ n p0 p1 (24 - i) i = lnG σ n p0 p1 24 0) ∧ SyS G ad σ n τ s H locs ∧ lv_has ls 5 [(3, .int x3), (0, .ref (ad 0)), (1, .int p0), (2, .int p1)]) (24) ?_ ?_ (0) ⟨⟨rfl, by decide, rfl⟩, hY, lv_sub hl [0, 1, 2, 3] rfl⟩
  · intro i x H locs ls hI ih
    obtain ⟨x3, rfl⟩ : ∃ z, z = x := ⟨_, rfl⟩
    obtain ⟨hI, hY, hl⟩ := hI
    obtain ⟨h0, h9, e⟩ := hI
    refine lv_iload_n hx hb dX1_leaseOn_18 rfl (lv_at hl 0 rfl) ?_
    refine lv_aload_n hx hb dX1_leaseOn_19 rfl (lv_at hl 1 rfl) ?_
    refine gtV_roll hC hin1 hY (by decide +kernel) dX1_leaseOn_20 ?_
    refine g_alen hC hY 4 (by omega) 1 rfl rfl (v := 24) rfl dX1_leaseOn_23 ?_
    refine b_icmp_ge (tgt := 66) hx hb dX1_leaseOn_24 (by decide) (fun (h5 : 24 ≤ x3.toInt) => ?_) (fun (h5 : x3.toInt < 24) => ?_)
    · refine lv_iconst (v := (-1)) hx hb dX1_leaseOn_66 (by decide) ?_
      exact vx_ret (g_iret hC hr hlocks hY ⟨Nat.le_of_ble_eq_true rfl, Nat.le_of_ble_eq_true rfl⟩ dX1_leaseOn_67 (⟨by unfold cdLOn; (repeat' split) <;> first | rfl | omega, by rw [← e, show 24 - i = 0 by omega]; rfl⟩))
    · refine lv_aload_n hx hb dX1_leaseOn_27 rfl (lv_at hl 1 rfl) ?_
      refine gtV_roll hC hin1 hY (by decide +kernel) dX1_leaseOn_28 ?_
      refine lv_iload_n hx hb dX1_leaseOn_31 rfl (lv_at hl 0 rfl) ?_
      refine rdRoll hC hY ⟨by omega, by omega⟩ dX1_leaseOn_32 ?_
      by_cases h6 : ix x3 < n
      · rw [show roF ad n (ix x3) = some (ad (3 * ix x3 + 9)) from if_pos h6]
        refine lv_astore (lv' := [(4, .ref (ad (3 * ix x3 + 9))), (3, .int x3), (0, .ref (ad 0)), (1, .int p0), (2, .int p1)]) hx hb dX1_leaseOn_33 hl (by decide) rfl (fun ls hl => ?_)
        refine lv_aload hx hb dX1_leaseOn_35 (lv_at hl 0 rfl) ?_
        refine lv_ifnull hx hb dX1_leaseOn_37 ?_
        refine lv_aload hx hb dX1_leaseOn_40 (lv_at hl 0 rfl) ?_
        refine gtN_unit hC hin0 hY (k := ix x3) h6 (by decide) dX1_leaseOn_42 ?_
        refine lv_iload_n hx hb dX1_leaseOn_45 rfl (lv_at hl 3 rfl) ?_
        refine b_icmp_ne (tgt := 60) hx hb dX1_leaseOn_46 (by decide) (fun (h7 : ¬ (σ 3 (ix x3)).toInt = p0.toInt) => ?_) (fun (h7 : (σ 3 (ix x3)).toInt = p0.toInt) => ?_)
        · refine lv_iinc (v := x3 + 1) (lv' := [(3, .int (x3 + 1)), (4, .ref (ad (3 * ix x3 + 9))), (0, .ref (ad 0)), (1, .int p0), (2, .int p1)]) hx hb dX1_leaseOn_60 hl (k := 1) rfl rfl (by decide) rfl (fun ls hl => ?_)
          refine lv_goto (tgt := 18) hx hb dX1_leaseOn_63 (by decide) ?_
          have hix : ix x3 = i := i_ix h0
          have hf : 24 - i = (24 - (i + 1)) + 1 := by omega
          exact ih (x3 + 1) _ _ _ ⟨⟨by rw [i_add (by have : (1 : Int32).toInt = 1 := rfl; omega)]; have : (1 : Int32).toInt = 1 := rfl; omega, by omega, by rw [← e, hf, lnG_s, if_neg (by intro q; rw [← hix] at q; exact h7 q.1.2)]⟩, hY, lv_sub hl [0, 2, 3, 4] rfl⟩
        · refine lv_aload hx hb dX1_leaseOn_49 (lv_at hl 0 rfl) ?_
          refine lv_iload_n hx hb dX1_leaseOn_51 rfl (lv_at hl 4 rfl) ?_
          refine g_calli hY (g_runV (n := 1) (q := (RX0, TX0, 12)) (r := 3 * ix x3 + 9) hC (c_X0_runsOn l G ad σ n τ (ix x3) h6 p1) gX1_leaseOn_X0_runsOn rfl ⟨rfl, rfl⟩ (by decide +kernel) ⟨Nat.le_of_ble_eq_true rfl, Nat.le_of_ble_eq_true rfl⟩ hY (r_lt h6) (ct_L (ix x3)) (ci := 0) rfl rfl hl.1 rfl (Nat.le_of_ble_eq_true rfl) dX1_leaseOn_52 ⟨Nat.le_of_ble_eq_true rfl, Nat.le_of_ble_eq_true rfl⟩) (fun r8 H locs h9 hY => ?_)
          rcases h9 with ⟨rfl, h10⟩ | ⟨rfl, h10⟩
          · refine b_if_eq (tgt := 60) hx hb dX1_leaseOn_55 (by decide) (fun h => absurd h (by decide)) (fun _ => ?_)
            refine lv_iload_n hx hb dX1_leaseOn_58 rfl (lv_at hl 1 rfl) ?_
            have hix : ix x3 = i := i_ix h0
            have hf : 24 - i = (24 - (i + 1)) + 1 := by omega
            exact vx_ret (g_iret hC hr hlocks hY ⟨Nat.le_of_ble_eq_true rfl, Nat.le_of_ble_eq_true rfl⟩ dX1_leaseOn_59 (⟨by unfold cdLOn; (repeat' split) <;> first | rfl | omega, by rw [← e, hf, lnG_s, if_pos (by rw [← hix]; exact ⟨⟨h6, h7⟩, h10⟩)]; exact i_eqnI h0⟩))
          · refine b_if_eq (tgt := 60) hx hb dX1_leaseOn_55 (by decide) (fun _ => ?_) (fun h => absurd h (by decide))
            refine lv_iinc (v := x3 + 1) (lv' := [(3, .int (x3 + 1)), (4, .ref (ad (3 * ix x3 + 9))), (0, .ref (ad 0)), (1, .int p0), (2, .int p1)]) hx hb dX1_leaseOn_60 hl (k := 1) rfl rfl (by decide) rfl (fun ls hl => ?_)
            refine lv_goto (tgt := 18) hx hb dX1_leaseOn_63 (by decide) ?_
            have hix : ix x3 = i := i_ix h0
            have hf : 24 - i = (24 - (i + 1)) + 1 := by omega
            exact ih (x3 + 1) _ _ _ ⟨⟨by rw [i_add (by have : (1 : Int32).toInt = 1 := rfl; omega)]; have : (1 : Int32).toInt = 1 := rfl; omega, by omega, by rw [← e, hf, lnG_s, if_neg (by intro q; rw [← hix] at q; exact h10 q.2)]⟩, hY, lv_sub hl [0, 2, 3, 4] rfl⟩
      · rw [show roF ad n (ix x3) = none from if_neg h6]
        refine W.eq (g2 := F0 m 33 ls [.null]) rfl ?_
        refine lv_astoreN (lv' := [(4, .null), (3, .int x3), (0, .ref (ad 0)), (1, .int p0), (2, .int p1)]) hx hb dX1_leaseOn_33 hl (by decide) rfl (fun ls hl => ?_)
        refine lv_aloadN hx hb dX1_leaseOn_35 (lv_at hl 0 rfl) ?_
        refine lv_ifnullN (tgt := 60) hx hb dX1_leaseOn_37 (by decide) ?_
        refine lv_iinc (v := x3 + 1) (lv' := [(3, .int (x3 + 1)), (4, .null), (0, .ref (ad 0)), (1, .int p0), (2, .int p1)]) hx hb dX1_leaseOn_60 hl (k := 1) rfl rfl (by decide) rfl (fun ls hl => ?_)
        refine lv_goto (tgt := 18) hx hb dX1_leaseOn_63 (by decide) ?_
        have hix : ix x3 = i := i_ix h0
        have hf : 24 - i = (24 - (i + 1)) + 1 := by omega
        exact ih (x3 + 1) _ _ _ ⟨⟨by rw [i_add (by have : (1 : Int32).toInt = 1 := rfl; omega)]; have : (1 : Int32).toInt = 1 := rfl; omega, by omega, by rw [← e, hf, lnG_s, if_neg (by intro q; rw [← hix] at q; exact h6 q.1.1)]⟩, hY, lv_sub hl [0, 2, 3, 4] rfl⟩
  · intro i x H locs ls hI
    obtain ⟨x3, rfl⟩ : ∃ z, z = x := ⟨_, rfl⟩
    obtain ⟨hI, -, -⟩ := hI
    obtain ⟨h0, h9, e⟩ := hI
    omega

def cdLX (n : Nat) (N : Int) (p0 p1 : Int32) : Int32 := if 0 ≤ p0.toInt ∧ p0.toInt < (n : Int) then (if 0 ≤ p1.toInt ∧ p1.toInt < N then 0 else 1) else 1
set_option maxHeartbeats 4000000 in
set_option maxRecDepth 100000 in
theorem c_X1_rentOn (l : Launch) (G : GG) (ad : Nat → Nat) (σ : St) (n : Nat) (τ : St) (hst : l.stackTraces = false) (hn : n ≤ 24) (hI : ∀ k, k < n → okL σ k) (p0 p1 : Int32)  : vx_Met l yX1_rentOn wsX1_rentOn ({ frames := 8, cells := 6, slots := 36, locals := 160 }) (PcS G ad σ n τ [.ref (ad 0), .int p0, .int p1]) (Qi G (3 * n + 9) ad (ctS G ad σ n τ) (fun r => cdLX n 7200 p0 p1 = 0 ∧ r = rfF σ (ix p0) p1)) (XG G (3 * n + 9) ad (ctS G ad σ n τ) (fun E => exC E (cdLX n 7200 p0 p1))) 6 36 (gF G) := by
  refine vx_ofW (cc := cX1_rentOn) (maxL := 4) (ret := (some .int)) (by decide) rfl ?_
  intro p e s m args below meth c s₁ B hml hxt hv
  obtain ⟨rfl, hY⟩ := hv
  have hts := atoms_spec (ws := wsX1_rentOn) B.pre
  have hC : CallFix p m c cX1_rentOn 4 s _ wsX1_rentOn RX1 := ⟨B.exec, B.bytes, hml, findClass_of_methodNamed B.named, hts⟩
  have hx := hC.1
  have hb := hC.2.1
  have hr := B.returns
  have hlocks := B.notSynchronized
  have hin0 : ∀ w ∈ wsX00, w ∈ wsX1_rentOn := by decide +kernel
  have hin1 : ∀ w ∈ wsX10, w ∈ wsX1_rentOn := by decide +kernel
  have hl := lv_entry ([.ref (ad 0), .int p0, .int p1]) (n := 4) (Nat.le_of_ble_eq_true rfl)
  rw [lg_entry_eq]
  generalize (lg_sl ([.ref (ad 0), .int p0, .int p1]) ++ List.replicate (4 - (lg_sl ([.ref (ad 0), .int p0, .int p1])).length) Slot.unset).toArray = ls at hl ⊢
  have hl : lv_has ls 4 [(0, .ref (ad 0)), (1, .int p0), (2, .int p1)] := hl
  refine lv_aload_n hx hb dX1_rentOn_0 rfl (lv_at hl 0 rfl) ?_
  refine lv_iload_n hx hb dX1_rentOn_1 rfl (lv_at hl 1 rfl) ?_
  refine gx_callq hY (gx_runV (n := 1) (q := (RX1, TX1, 5)) (r := 0) hC (c_X1_find l G ad σ n τ hst hn p0) gX1_rentOn_X1_find rfl ⟨rfl, rfl⟩ (by decide +kernel) ⟨Nat.le_of_ble_eq_true rfl, Nat.le_of_ble_eq_true rfl⟩ hY (by omega) rfl (ci := 1) rfl rfl hl.1 rfl (Nat.le_of_ble_eq_true rfl) dX1_rentOn_2 ⟨Nat.le_of_ble_eq_true rfl, Nat.le_of_ble_eq_true rfl⟩) hxt hlocks ⟨Nat.le_of_ble_eq_true rfl, Nat.le_of_ble_eq_true rfl⟩ (fun E h => Or.inl ⟨h.1, by have q := h.2; unfold cdLX; (repeat' split) <;> first | rfl | omega⟩) (fun r1 H locs h2 hY => ?_)
  obtain ⟨rfl, h3⟩ := h2
  refine lv_astore_n (lv' := [(3, .ref (ad (3 * ix p0 + 9))), (0, .ref (ad 0)), (1, .int p0), (2, .int p1)]) hx hb dX1_rentOn_5 rfl hl (by decide) rfl (fun ls hl => ?_)
  refine lv_iload_n hx hb dX1_rentOn_6 rfl (lv_at hl 3 rfl) ?_
  refine lv_sipush (v := 7200) hx hb dX1_rentOn_7 (by decide) ?_
  refine gx_callv hY (gx_runS (n := 2) hC (c_X1_checkNumber l G ad σ n τ hst p1 7200 7200 rfl) gX1_rentOn_X1_checkNumber rfl ⟨rfl, rfl⟩ (by decide +kernel) ⟨Nat.le_of_ble_eq_true rfl, Nat.le_of_ble_eq_true rfl⟩ hY rfl hl.1 rfl (Nat.le_of_ble_eq_true rfl) dX1_rentOn_10 ⟨Nat.le_of_ble_eq_true rfl, Nat.le_of_ble_eq_true rfl⟩) hxt hlocks ⟨Nat.le_of_ble_eq_true rfl, Nat.le_of_ble_eq_true rfl⟩ (fun E h => Or.inl ⟨h.1, by have q := h.2; unfold cdLX; (repeat' split) <;> first | rfl | omega⟩) (fun H locs h5 hY => ?_)
  refine lv_aload_n hx hb dX1_rentOn_13 rfl (lv_at hl 1 rfl) ?_
  refine lv_aload_n hx hb dX1_rentOn_14 rfl (lv_at hl 0 rfl) ?_
  refine lv_iload_n hx hb dX1_rentOn_15 rfl (lv_at hl 3 rfl) ?_
  refine g_calli hY (g_runV (n := 2) (q := (RX1, TX1, 5)) (r := 0) hC (c_X1_rentFor l G ad σ n τ (ix p0) (ix_lt h3) p1 (hI _ (ix_lt h3)) (by omega)) gX1_rentOn_X1_rentFor rfl ⟨rfl, rfl⟩ (by decide +kernel) ⟨Nat.le_of_ble_eq_true rfl, Nat.le_of_ble_eq_true rfl⟩ hY (by omega) rfl (ci := 1) rfl rfl hl.1 rfl (Nat.le_of_ble_eq_true rfl) dX1_rentOn_16 ⟨Nat.le_of_ble_eq_true rfl, Nat.le_of_ble_eq_true rfl⟩) (fun r6 H locs h7 hY => ?_)
  subst h7
  exact vx_ret (g_iret hC hr hlocks hY ⟨Nat.le_of_ble_eq_true rfl, Nat.le_of_ble_eq_true rfl⟩ dX1_rentOn_19 (⟨by unfold cdLX; (repeat' split) <;> first | rfl | omega, rfl⟩))

set_option maxHeartbeats 4000000 in
set_option maxRecDepth 100000 in
theorem c_X1_bill (l : Launch) (G : GG) (ad : Nat → Nat) (σ : St) (n : Nat) (τ : St) (hst : l.stackTraces = false) (hn : n ≤ 24) (hI : ∀ k, k < n → okL σ k) (p0 p1 : Int32)  : vx_Met l yX1_bill wsX1_bill ({ frames := 8, cells := 6, slots := 36, locals := 160 }) (PcS G ad σ n τ [.ref (ad 0), .int p0, .int p1]) (Qi G (3 * n + 9) ad (ctS G ad σ n τ) (fun r => cdLX n 240 p0 p1 = 0 ∧ r = bfF σ (ix p0) p1)) (XG G (3 * n + 9) ad (ctS G ad σ n τ) (fun E => exC E (cdLX n 240 p0 p1))) 6 36 (gF G) := by
  refine vx_ofW (cc := cX1_bill) (maxL := 4) (ret := (some .int)) (by decide) rfl ?_
  intro p e s m args below meth c s₁ B hml hxt hv
  obtain ⟨rfl, hY⟩ := hv
  have hts := atoms_spec (ws := wsX1_bill) B.pre
  have hC : CallFix p m c cX1_bill 4 s _ wsX1_bill RX1 := ⟨B.exec, B.bytes, hml, findClass_of_methodNamed B.named, hts⟩
  have hx := hC.1
  have hb := hC.2.1
  have hr := B.returns
  have hlocks := B.notSynchronized
  have hin0 : ∀ w ∈ wsX00, w ∈ wsX1_bill := by decide +kernel
  have hin1 : ∀ w ∈ wsX10, w ∈ wsX1_bill := by decide +kernel
  have hl := lv_entry ([.ref (ad 0), .int p0, .int p1]) (n := 4) (Nat.le_of_ble_eq_true rfl)
  rw [lg_entry_eq]
  generalize (lg_sl ([.ref (ad 0), .int p0, .int p1]) ++ List.replicate (4 - (lg_sl ([.ref (ad 0), .int p0, .int p1])).length) Slot.unset).toArray = ls at hl ⊢
  have hl : lv_has ls 4 [(0, .ref (ad 0)), (1, .int p0), (2, .int p1)] := hl
  refine lv_aload_n hx hb dX1_bill_0 rfl (lv_at hl 0 rfl) ?_
  refine lv_iload_n hx hb dX1_bill_1 rfl (lv_at hl 1 rfl) ?_
  refine gx_callq hY (gx_runV (n := 1) (q := (RX1, TX1, 5)) (r := 0) hC (c_X1_find l G ad σ n τ hst hn p0) gX1_bill_X1_find rfl ⟨rfl, rfl⟩ (by decide +kernel) ⟨Nat.le_of_ble_eq_true rfl, Nat.le_of_ble_eq_true rfl⟩ hY (by omega) rfl (ci := 1) rfl rfl hl.1 rfl (Nat.le_of_ble_eq_true rfl) dX1_bill_2 ⟨Nat.le_of_ble_eq_true rfl, Nat.le_of_ble_eq_true rfl⟩) hxt hlocks ⟨Nat.le_of_ble_eq_true rfl, Nat.le_of_ble_eq_true rfl⟩ (fun E h => Or.inl ⟨h.1, by have q := h.2; unfold cdLX; (repeat' split) <;> first | rfl | omega⟩) (fun r1 H locs h2 hY => ?_)
  obtain ⟨rfl, h3⟩ := h2
  refine lv_astore_n (lv' := [(3, .ref (ad (3 * ix p0 + 9))), (0, .ref (ad 0)), (1, .int p0), (2, .int p1)]) hx hb dX1_bill_5 rfl hl (by decide) rfl (fun ls hl => ?_)
  refine lv_iload_n hx hb dX1_bill_6 rfl (lv_at hl 3 rfl) ?_
  refine lv_sipush (v := 240) hx hb dX1_bill_7 (by decide) ?_
  refine gx_callv hY (gx_runS (n := 2) hC (c_X1_checkNumber l G ad σ n τ hst p1 240 240 rfl) gX1_bill_X1_checkNumber rfl ⟨rfl, rfl⟩ (by decide +kernel) ⟨Nat.le_of_ble_eq_true rfl, Nat.le_of_ble_eq_true rfl⟩ hY rfl hl.1 rfl (Nat.le_of_ble_eq_true rfl) dX1_bill_10 ⟨Nat.le_of_ble_eq_true rfl, Nat.le_of_ble_eq_true rfl⟩) hxt hlocks ⟨Nat.le_of_ble_eq_true rfl, Nat.le_of_ble_eq_true rfl⟩ (fun E h => Or.inl ⟨h.1, by have q := h.2; unfold cdLX; (repeat' split) <;> first | rfl | omega⟩) (fun H locs h5 hY => ?_)
  refine lv_aload_n hx hb dX1_bill_13 rfl (lv_at hl 1 rfl) ?_
  refine lv_aload_n hx hb dX1_bill_14 rfl (lv_at hl 0 rfl) ?_
  refine lv_iload_n hx hb dX1_bill_15 rfl (lv_at hl 3 rfl) ?_
  refine g_calli hY (g_runV (n := 2) (q := (RX1, TX1, 5)) (r := 0) hC (c_X1_billFor l G ad σ n τ (ix p0) (ix_lt h3) p1 (hI _ (ix_lt h3)) (by omega)) gX1_bill_X1_billFor rfl ⟨rfl, rfl⟩ (by decide +kernel) ⟨Nat.le_of_ble_eq_true rfl, Nat.le_of_ble_eq_true rfl⟩ hY (by omega) rfl (ci := 1) rfl rfl hl.1 rfl (Nat.le_of_ble_eq_true rfl) dX1_bill_16 ⟨Nat.le_of_ble_eq_true rfl, Nat.le_of_ble_eq_true rfl⟩) (fun r6 H locs h7 hY => ?_)
  subst h7
  exact vx_ret (g_iret hC hr hlocks hY ⟨Nat.le_of_ble_eq_true rfl, Nat.le_of_ble_eq_true rfl⟩ dX1_bill_19 (⟨by unfold cdLX; (repeat' split) <;> first | rfl | omega, rfl⟩))

def bdP (σ : St) (k : Nat) (m : Int32) : Nat → Int32
  | 0 => 0
  | i + 1 => bdP σ k m i + rfF σ k (m * 30 + nI i)
theorem nI_add1 {x : Int32} {i : Nat} : x + nI i + 1 = x + nI (i + 1) := by rw [Int32.add_assoc, nI_1]
theorem i_addnI {x y : Int32} {i : Nat} (h : y.toInt = x.toInt + i) (hx : -2147483648 ≤ x.toInt) (hi : x.toInt + (i : Int) < 2147483648) (h0 : i < 100000) : y = x + nI i := i_ext (by rw [i_add (by rw [i_nI (by omega)]; omega), i_nI (by omega)]; exact h)
set_option maxHeartbeats 4000000 in
set_option maxRecDepth 100000 in
theorem c_X1_billByDays (l : Launch) (G : GG) (ad : Nat → Nat) (σ : St) (n : Nat) (τ : St) (hst : l.stackTraces = false) (hn : n ≤ 24) (hI : ∀ k, k < n → okL σ k) (p0 p1 : Int32)  : vx_Met l yX1_billByDays wsX1_billByDays ({ frames := 8, cells := 6, slots := 36, locals := 160 }) (PcS G ad σ n τ [.ref (ad 0), .int p0, .int p1]) (Qi G (3 * n + 9) ad (ctS G ad σ n τ) (fun r => cdLX n 240 p0 p1 = 0 ∧ r = bdP σ (ix p0) p1 30 / 30)) (XG G (3 * n + 9) ad (ctS G ad σ n τ) (fun E => exC E (cdLX n 240 p0 p1))) 6 36 (gF G) := by
  refine vx_ofW (cc := cX1_billByDays) (maxL := 7) (ret := (some .int)) (by decide) rfl ?_
  intro p e s m args below meth c s₁ B hml hxt hv
  obtain ⟨rfl, hY⟩ := hv
  have hts := atoms_spec (ws := wsX1_billByDays) B.pre
  have hC : CallFix p m c cX1_billByDays 7 s _ wsX1_billByDays RX1 := ⟨B.exec, B.bytes, hml, findClass_of_methodNamed B.named, hts⟩
  have hx := hC.1
  have hb := hC.2.1
  have hr := B.returns
  have hlocks := B.notSynchronized
  have hin0 : ∀ w ∈ wsX00, w ∈ wsX1_billByDays := by decide +kernel
  have hin1 : ∀ w ∈ wsX10, w ∈ wsX1_billByDays := by decide +kernel
  have hl := lv_entry ([.ref (ad 0), .int p0, .int p1]) (n := 7) (Nat.le_of_ble_eq_true rfl)
  rw [lg_entry_eq]
  generalize (lg_sl ([.ref (ad 0), .int p0, .int p1]) ++ List.replicate (7 - (lg_sl ([.ref (ad 0), .int p0, .int p1])).length) Slot.unset).toArray = ls at hl ⊢
  have hl : lv_has ls 7 [(0, .ref (ad 0)), (1, .int p0), (2, .int p1)] := hl
  refine lv_aload_n hx hb dX1_billByDays_0 rfl (lv_at hl 0 rfl) ?_
  refine lv_iload_n hx hb dX1_billByDays_1 rfl (lv_at hl 1 rfl) ?_
  refine gx_callq hY (gx_runV (n := 1) (q := (RX1, TX1, 5)) (r := 0) hC (c_X1_find l G ad σ n τ hst hn p0) gX1_billByDays_X1_find rfl ⟨rfl, rfl⟩ (by decide +kernel) ⟨Nat.le_of_ble_eq_true rfl, Nat.le_of_ble_eq_true rfl⟩ hY (by omega) rfl (ci := 1) rfl rfl hl.1 rfl (Nat.le_of_ble_eq_true rfl) dX1_billByDays_2 ⟨Nat.le_of_ble_eq_true rfl, Nat.le_of_ble_eq_true rfl⟩) hxt hlocks ⟨Nat.le_of_ble_eq_true rfl, Nat.le_of_ble_eq_true rfl⟩ (fun E h => Or.inl ⟨h.1, by have q := h.2; unfold cdLX; (repeat' split) <;> first | rfl | omega⟩) (fun r1 H locs h2 hY => ?_)
  obtain ⟨rfl, h3⟩ := h2
  refine lv_astore_n (lv' := [(3, .ref (ad (3 * ix p0 + 9))), (0, .ref (ad 0)), (1, .int p0), (2, .int p1)]) hx hb dX1_billByDays_5 rfl hl (by decide) rfl (fun ls hl => ?_)
  refine lv_iload_n hx hb dX1_billByDays_6 rfl (lv_at hl 3 rfl) ?_
  refine lv_sipush (v := 240) hx hb dX1_billByDays_7 (by decide) ?_
  refine gx_callv hY (gx_runS (n := 2) hC (c_X1_checkNumber l G ad σ n τ hst p1 240 240 rfl) gX1_billByDays_X1_checkNumber rfl ⟨rfl, rfl⟩ (by decide +kernel) ⟨Nat.le_of_ble_eq_true rfl, Nat.le_of_ble_eq_true rfl⟩ hY rfl hl.1 rfl (Nat.le_of_ble_eq_true rfl) dX1_billByDays_10 ⟨Nat.le_of_ble_eq_true rfl, Nat.le_of_ble_eq_true rfl⟩) hxt hlocks ⟨Nat.le_of_ble_eq_true rfl, Nat.le_of_ble_eq_true rfl⟩ (fun E h => Or.inl ⟨h.1, by have q := h.2; unfold cdLX; (repeat' split) <;> first | rfl | omega⟩) (fun H locs h5 hY => ?_)
  refine lv_iload_n hx hb dX1_billByDays_13 rfl (lv_at hl 3 rfl) ?_
  refine lv_bipush (v := 30) hx hb dX1_billByDays_14 (by decide) ?_
  refine lv_imul hx hb dX1_billByDays_16 ?_
  refine lv_istore (lv' := [(4, .int (p1 * 30)), (3, .ref (ad (3 * ix p0 + 9))), (0, .ref (ad 0)), (1, .int p0), (2, .int p1)]) hx hb dX1_billByDays_17 hl (by decide) rfl (fun ls hl => ?_)
  have hb3 : (p1 * 30).toInt = p1.toInt * 30 := i_mulc (c := 30) (by omega) (by decide)
  have hb4 : (p1 * 30 + 30).toInt = p1.toInt * 30 + 30 := by rw [i_add (by have : (30 : Int32).toInt = 30 := rfl; omega), hb3]; rfl
  refine lv_iconst (v := 0) hx hb dX1_billByDays_19 (by decide) ?_
  refine lv_istore (lv' := [(5, .int 0), (4, .int (p1 * 30)), (3, .ref (ad (3 * ix p0 + 9))), (0, .ref (ad 0)), (1, .int p0), (2, .int p1)]) hx hb dX1_billByDays_20 hl (by decide) rfl (fun ls hl => ?_)
  refine lv_iload hx hb dX1_billByDays_22 (lv_at hl 1 rfl) ?_
  refine lv_istore (lv' := [(6, .int (p1 * 30)), (5, .int 0), (4, .int (p1 * 30)), (3, .ref (ad (3 * ix p0 + 9))), (0, .ref (ad 0)), (1, .int p0), (2, .int p1)]) hx hb dX1_billByDays_24 hl (by decide) rfl (fun ls hl => ?_)
  refine w_loop (X := Int32 × Int32) (fun i x H locs ls => match x with | (x6, x5) => (x6.toInt = (p1 * 30).toInt + i ∧ (i : Int) ≤ 30 ∧ x5 = bdP σ (ix p0) p1 i) ∧ SyS G ad σ n τ s H locs ∧ lv_has ls 7 [(6, .int x6), (5, .int x5), (4, .int (p1 * 30)), (3, .ref (ad (3 * ix p0 + 9))), (0, .ref (ad 0))]) (30) ?_ ?_ ((p1 * 30, 0)) ⟨⟨by show _ = _ + (0 : Int); omega, by decide, rfl⟩, hY, lv_sub hl [0, 1, 2, 3, 4] rfl⟩
  · intro i x H locs ls hI ih
    obtain ⟨x6, x5⟩ := x
    obtain ⟨hI, hY, hl⟩ := hI
    obtain ⟨h0, h9, e⟩ := hI
    refine lv_iload hx hb dX1_billByDays_26 (lv_at hl 0 rfl) ?_
    refine lv_iload hx hb dX1_billByDays_28 (lv_at hl 2 rfl) ?_
    refine lv_bipush (v := 30) hx hb dX1_billByDays_30 (by decide) ?_
    refine lv_iadd hx hb dX1_billByDays_32 ?_
    refine b_icmp_ge (tgt := 54) hx hb dX1_billByDays_33 (by decide) (fun (h6 : ((p1 * 30) + 30).toInt ≤ x6.toInt) => ?_) (fun (h6 : x6.toInt < ((p1 * 30) + 30).toInt) => ?_)
    · refine lv_iload hx hb dX1_billByDays_54 (lv_at hl 1 rfl) ?_
      refine lv_bipush (v := 30) hx hb dX1_billByDays_56 (by decide) ?_
      refine lv_idiv hx hb dX1_billByDays_58 (by decide) ?_
      exact vx_ret (g_iret hC hr hlocks hY ⟨Nat.le_of_ble_eq_true rfl, Nat.le_of_ble_eq_true rfl⟩ dX1_billByDays_59 (⟨by unfold cdLX; (repeat' split) <;> first | rfl | omega, by rw [e, show i = 30 by omega]⟩))
    · refine lv_iload hx hb dX1_billByDays_36 (lv_at hl 1 rfl) ?_
      refine lv_aload_n hx hb dX1_billByDays_38 rfl (lv_at hl 4 rfl) ?_
      refine lv_aload_n hx hb dX1_billByDays_39 rfl (lv_at hl 3 rfl) ?_
      refine lv_iload hx hb dX1_billByDays_40 (lv_at hl 0 rfl) ?_
      refine g_calli hY (g_runV (n := 2) (q := (RX1, TX1, 5)) (r := 0) hC (c_X1_rentFor l G ad σ n τ (ix p0) (ix_lt h3) x6 (hI _ (ix_lt h3)) (by omega)) gX1_billByDays_X1_rentFor rfl ⟨rfl, rfl⟩ (by decide +kernel) ⟨Nat.le_of_ble_eq_true rfl, Nat.le_of_ble_eq_true rfl⟩ hY (by omega) rfl (ci := 1) rfl rfl hl.1 rfl (Nat.le_of_ble_eq_true rfl) dX1_billByDays_42 ⟨Nat.le_of_ble_eq_true rfl, Nat.le_of_ble_eq_true rfl⟩) (fun r7 H locs h8 hY => ?_)
      subst h8
      refine lv_iadd hx hb dX1_billByDays_45 ?_
      refine lv_istore (lv' := [(5, .int (x5 + (rfF σ (ix p0) x6))), (6, .int x6), (4, .int (p1 * 30)), (3, .ref (ad (3 * ix p0 + 9))), (0, .ref (ad 0))]) hx hb dX1_billByDays_46 hl (by decide) rfl (fun ls hl => ?_)
      refine lv_iinc (v := x6 + 1) (lv' := [(6, .int (x6 + 1)), (5, .int (x5 + (rfF σ (ix p0) x6))), (4, .int (p1 * 30)), (3, .ref (ad (3 * ix p0 + 9))), (0, .ref (ad 0))]) hx hb dX1_billByDays_48 hl (k := 1) rfl rfl (by decide) rfl (fun ls hl => ?_)
      refine lv_goto (tgt := 26) hx hb dX1_billByDays_51 (by decide) ?_
      have hx6 : x6 = p1 * 30 + nI i := i_addnI h0 (by omega) (by omega) (by omega)
      exact ih (x6 + 1, x5 + (rfF σ (ix p0) x6)) _ _ _ ⟨⟨by rw [i_add1 (by omega)]; omega, by omega, by rw [bdP, ← e, ← hx6]⟩, hY, lv_sub hl [0, 1, 2, 3, 4] rfl⟩
  · intro i x H locs ls hI
    obtain ⟨x6, x5⟩ := x
    obtain ⟨hI, -, -⟩ := hI
    obtain ⟨h0, h9, e⟩ := hI
    omega

def cdBills (n : Nat) (p0 p1 p2 : Int32) : Int32 := if 0 ≤ p0.toInt ∧ p0.toInt < (n : Int) then (if (0 ≤ p1.toInt ∧ p1.toInt < 240) ∧ 0 ≤ p2.toInt ∧ p2.toInt < 240 then (if p1.toInt ≤ p2.toInt then 0 else 2) else 1) else 1
def bsP (σ : St) (k : Nat) (f : Int32) : Nat → Int64
  | 0 => 0
  | i + 1 => bsP σ k f i + (bfF σ k (f + nI i)).toInt64
set_option maxHeartbeats 4000000 in
set_option maxRecDepth 100000 in
theorem c_X1_bills (l : Launch) (G : GG) (ad : Nat → Nat) (σ : St) (n : Nat) (τ : St) (hst : l.stackTraces = false) (hn : n ≤ 24) (hI : ∀ k, k < n → okL σ k) (p0 p1 p2 : Int32)  : vx_Met l yX1_bills wsX1_bills ({ frames := 8, cells := 6, slots := 36, locals := 160 }) (PcS G ad σ n τ [.ref (ad 0), .int p0, .int p1, .int p2]) (Ql G (3 * n + 9) ad (ctS G ad σ n τ) (fun r => cdBills n p0 p1 p2 = 0 ∧ r = bsP σ (ix p0) p1 (p2.toInt - p1.toInt + 1).toNat)) (XG G (3 * n + 9) ad (ctS G ad σ n τ) (fun E => exC E (cdBills n p0 p1 p2))) 6 36 (gF G) := by
  refine vx_ofW (cc := cX1_bills) (maxL := 8) (ret := (some .long)) (by decide) rfl ?_
  intro p e s m args below meth c s₁ B hml hxt hv
  obtain ⟨rfl, hY⟩ := hv
  have hts := atoms_spec (ws := wsX1_bills) B.pre
  have hC : CallFix p m c cX1_bills 8 s _ wsX1_bills RX1 := ⟨B.exec, B.bytes, hml, findClass_of_methodNamed B.named, hts⟩
  have hx := hC.1
  have hb := hC.2.1
  have hr := B.returns
  have hlocks := B.notSynchronized
  have hin0 : ∀ w ∈ wsX00, w ∈ wsX1_bills := by decide +kernel
  have hin1 : ∀ w ∈ wsX10, w ∈ wsX1_bills := by decide +kernel
  have hl := lv_entry ([.ref (ad 0), .int p0, .int p1, .int p2]) (n := 8) (Nat.le_of_ble_eq_true rfl)
  rw [lg_entry_eq]
  generalize (lg_sl ([.ref (ad 0), .int p0, .int p1, .int p2]) ++ List.replicate (8 - (lg_sl ([.ref (ad 0), .int p0, .int p1, .int p2])).length) Slot.unset).toArray = ls at hl ⊢
  have hl : lv_has ls 8 [(0, .ref (ad 0)), (1, .int p0), (2, .int p1), (3, .int p2)] := hl
  refine lv_aload_n hx hb dX1_bills_0 rfl (lv_at hl 0 rfl) ?_
  refine lv_iload_n hx hb dX1_bills_1 rfl (lv_at hl 1 rfl) ?_
  refine gx_callq hY (gx_runV (n := 1) (q := (RX1, TX1, 5)) (r := 0) hC (c_X1_find l G ad σ n τ hst hn p0) gX1_bills_X1_find rfl ⟨rfl, rfl⟩ (by decide +kernel) ⟨Nat.le_of_ble_eq_true rfl, Nat.le_of_ble_eq_true rfl⟩ hY (by omega) rfl (ci := 1) rfl rfl hl.1 rfl (Nat.le_of_ble_eq_true rfl) dX1_bills_2 ⟨Nat.le_of_ble_eq_true rfl, Nat.le_of_ble_eq_true rfl⟩) hxt hlocks ⟨Nat.le_of_ble_eq_true rfl, Nat.le_of_ble_eq_true rfl⟩ (fun E h => Or.inl ⟨h.1, by have q := h.2; unfold cdBills; (repeat' split) <;> first | rfl | omega⟩) (fun r1 H locs h2 hY => ?_)
  obtain ⟨rfl, h3⟩ := h2
  refine lv_astore (lv' := [(4, .ref (ad (3 * ix p0 + 9))), (0, .ref (ad 0)), (1, .int p0), (2, .int p1), (3, .int p2)]) hx hb dX1_bills_5 hl (by decide) rfl (fun ls hl => ?_)
  refine lv_iload_n hx hb dX1_bills_7 rfl (lv_at hl 3 rfl) ?_
  refine lv_sipush (v := 240) hx hb dX1_bills_8 (by decide) ?_
  refine gx_callv hY (gx_runS (n := 2) hC (c_X1_checkNumber l G ad σ n τ hst p1 240 240 rfl) gX1_bills_X1_checkNumber rfl ⟨rfl, rfl⟩ (by decide +kernel) ⟨Nat.le_of_ble_eq_true rfl, Nat.le_of_ble_eq_true rfl⟩ hY rfl hl.1 rfl (Nat.le_of_ble_eq_true rfl) dX1_bills_11 ⟨Nat.le_of_ble_eq_true rfl, Nat.le_of_ble_eq_true rfl⟩) hxt hlocks ⟨Nat.le_of_ble_eq_true rfl, Nat.le_of_ble_eq_true rfl⟩ (fun E h => Or.inl ⟨h.1, by have q := h.2; unfold cdBills; (repeat' split) <;> first | rfl | omega⟩) (fun H locs h5 hY => ?_)
  refine lv_iload_n hx hb dX1_bills_14 rfl (lv_at hl 4 rfl) ?_
  refine lv_sipush (v := 240) hx hb dX1_bills_15 (by decide) ?_
  refine gx_callv hY (gx_runS (n := 2) hC (c_X1_checkNumber l G ad σ n τ hst p2 240 240 rfl) gX1_bills_X1_checkNumber rfl ⟨rfl, rfl⟩ (by decide +kernel) ⟨Nat.le_of_ble_eq_true rfl, Nat.le_of_ble_eq_true rfl⟩ hY rfl hl.1 rfl (Nat.le_of_ble_eq_true rfl) dX1_bills_18 ⟨Nat.le_of_ble_eq_true rfl, Nat.le_of_ble_eq_true rfl⟩) hxt hlocks ⟨Nat.le_of_ble_eq_true rfl, Nat.le_of_ble_eq_true rfl⟩ (fun E h => Or.inl ⟨h.1, by have q := h.2; unfold cdBills; (repeat' split) <;> first | rfl | omega⟩) (fun H locs h7 hY => ?_)
  refine lv_iload_n hx hb dX1_bills_21 rfl (lv_at hl 4 rfl) ?_
  refine lv_iload_n hx hb dX1_bills_22 rfl (lv_at hl 3 rfl) ?_
  refine lv_sipush (v := 239) hx hb dX1_bills_23 (by decide) ?_
  refine gx_callv hY (gx_runS (n := 3) hC (c_X1_checkRange l G ad σ n τ hst p2 p1 239 p1.toInt 239 rfl rfl) gX1_bills_X1_checkRange rfl ⟨rfl, rfl⟩ (by decide +kernel) ⟨Nat.le_of_ble_eq_true rfl, Nat.le_of_ble_eq_true rfl⟩ hY rfl hl.1 rfl (Nat.le_of_ble_eq_true rfl) dX1_bills_26 ⟨Nat.le_of_ble_eq_true rfl, Nat.le_of_ble_eq_true rfl⟩) hxt hlocks ⟨Nat.le_of_ble_eq_true rfl, Nat.le_of_ble_eq_true rfl⟩ (fun E h => Or.inr <| Or.inl ⟨h.1, by have q := h.2; unfold cdBills; (repeat' split) <;> first | rfl | omega⟩) (fun H locs h9 hY => ?_)
  refine lv_lconst (v := 0) hx hb dX1_bills_29 (by decide) ?_
  refine lv_lstore (lv' := [(5, .long 0), (4, .ref (ad (3 * ix p0 + 9))), (0, .ref (ad 0)), (1, .int p0), (2, .int p1), (3, .int p2)]) hx hb dX1_bills_30 hl (by decide) rfl (fun ls hl => ?_)
  refine lv_iload_n hx hb dX1_bills_32 rfl (lv_at hl 4 rfl) ?_
  refine lv_istore (lv' := [(7, .int p1), (5, .long 0), (4, .ref (ad (3 * ix p0 + 9))), (0, .ref (ad 0)), (1, .int p0), (2, .int p1), (3, .int p2)]) hx hb dX1_bills_33 hl (by decide) rfl (fun ls hl => ?_)
  refine w_loop (X := Int32 × Int64) (fun i x H locs ls => match x with | (x7, x5) => (x7.toInt = p1.toInt + i ∧ i ≤ (p2.toInt - p1.toInt + 1).toNat ∧ x5 = bsP σ (ix p0) p1 i) ∧ SyS G ad σ n τ s H locs ∧ lv_has ls 8 [(7, .int x7), (5, .long x5), (4, .ref (ad (3 * ix p0 + 9))), (0, .ref (ad 0)), (3, .int p2)]) (240) ?_ ?_ ((p1, 0)) ⟨⟨by show _ = _ + (0 : Int); omega, Nat.zero_le _, rfl⟩, hY, lv_sub hl [0, 1, 2, 3, 6] rfl⟩
  · intro i x H locs ls hI ih
    obtain ⟨x7, x5⟩ := x
    obtain ⟨hI, hY, hl⟩ := hI
    obtain ⟨h0, h9, e⟩ := hI
    refine lv_iload hx hb dX1_bills_35 (lv_at hl 0 rfl) ?_
    refine lv_iload_n hx hb dX1_bills_37 rfl (lv_at hl 4 rfl) ?_
    refine b_icmp_gt (tgt := 61) hx hb dX1_bills_38 (by decide) (fun (h10 : p2.toInt < x7.toInt) => ?_) (fun (h10 : x7.toInt ≤ p2.toInt) => ?_)
    · refine lv_lload hx hb dX1_bills_61 (lv_at hl 1 rfl) ?_
      exact vx_ret (g_lret hC hr hlocks hY ⟨Nat.le_of_ble_eq_true rfl, Nat.le_of_ble_eq_true rfl⟩ dX1_bills_63 (⟨by unfold cdBills; (repeat' split) <;> first | rfl | omega, by rw [e, show i = (p2.toInt - p1.toInt + 1).toNat by omega]⟩))
    · refine lv_lload hx hb dX1_bills_41 (lv_at hl 1 rfl) ?_
      refine lv_aload_n hx hb dX1_bills_43 rfl (lv_at hl 3 rfl) ?_
      refine lv_aload hx hb dX1_bills_44 (lv_at hl 2 rfl) ?_
      refine lv_iload hx hb dX1_bills_46 (lv_at hl 0 rfl) ?_
      refine g_calli hY (g_runV (n := 2) (q := (RX1, TX1, 5)) (r := 0) hC (c_X1_billFor l G ad σ n τ (ix p0) (ix_lt h3) x7 (hI _ (ix_lt h3)) (by omega)) gX1_bills_X1_billFor rfl ⟨rfl, rfl⟩ (by decide +kernel) ⟨Nat.le_of_ble_eq_true rfl, Nat.le_of_ble_eq_true rfl⟩ hY (by omega) rfl (ci := 1) rfl rfl hl.1 rfl (Nat.le_of_ble_eq_true rfl) dX1_bills_48 ⟨Nat.le_of_ble_eq_true rfl, Nat.le_of_ble_eq_true rfl⟩) (fun r11 H locs h12 hY => ?_)
      subst h12
      refine lv_i2l hx hb dX1_bills_51 rfl ?_
      refine lv_ladd hx hb dX1_bills_52 ?_
      refine lv_lstore (lv' := [(5, .long (x5 + ((bfF σ (ix p0) x7).toInt64))), (7, .int x7), (4, .ref (ad (3 * ix p0 + 9))), (0, .ref (ad 0)), (3, .int p2)]) hx hb dX1_bills_53 hl (by decide) rfl (fun ls hl => ?_)
      refine lv_iinc (v := x7 + 1) (lv' := [(7, .int (x7 + 1)), (5, .long (x5 + ((bfF σ (ix p0) x7).toInt64))), (4, .ref (ad (3 * ix p0 + 9))), (0, .ref (ad 0)), (3, .int p2)]) hx hb dX1_bills_55 hl (k := 1) rfl rfl (by decide) rfl (fun ls hl => ?_)
      refine lv_goto (tgt := 35) hx hb dX1_bills_58 (by decide) ?_
      have hx7 : x7 = p1 + nI i := i_addnI h0 (by omega) (by omega) (by omega)
      exact ih (x7 + 1, x5 + ((bfF σ (ix p0) x7).toInt64)) _ _ _ ⟨⟨by rw [i_add1 (by omega)]; omega, by omega, by rw [bsP, ← e, ← hx7]⟩, hY, lv_sub hl [0, 1, 2, 3, 4] rfl⟩
  · intro i x H locs ls hI
    obtain ⟨x7, x5⟩ := x
    obtain ⟨hI, -, -⟩ := hI
    obtain ⟨h0, h9, e⟩ := hI
    omega

def ncG (σ : St) (k : Nat) : Nat → Int32 → Int32
  | 0, _ => -1
  | f + 1, t => if t.toInt < 7200 then (if (rfF σ k t).toInt = (rfF σ k (t - 1)).toInt then ncG σ k f (ntF σ k t) else t) else -1
theorem ncG_s {σ : St} {k f : Nat} {t : Int32} : ncG σ k (f + 1) t = if t.toInt < 7200 then (if (rfF σ k t).toInt = (rfF σ k (t - 1)).toInt then ncG σ k f (ntF σ k t) else t) else -1 := rfl
theorem so_gt {d x t : Int32} (h : d.toInt < t.toInt) : d.toInt < (soF d x t).toInt := by
  unfold soF
  split
  · rename_i q; exact q.1
  · exact h
theorem nt_gt {σ : St} {k : Nat} {d : Int32} (h : d.toInt < 7200) : d.toInt < (ntF σ k d).toInt := by
  have h0 : ∀ i, d.toInt < (ntP σ k d i).toInt := by
    intro i
    induction i with
    | zero => exact so_gt (so_gt (so_gt h))
    | succ i ih => exact so_gt ih
  unfold ntF
  split
  · exact so_gt (h0 _)
  · exact h0 _
set_option maxHeartbeats 4000000 in
set_option maxRecDepth 100000 in
theorem c_X1_nextChange (l : Launch) (G : GG) (ad : Nat → Nat) (σ : St) (n : Nat) (τ : St) (hst : l.stackTraces = false) (hn : n ≤ 24) (hI : ∀ k, k < n → okL σ k) (p0 p1 : Int32)  : vx_Met l yX1_nextChange wsX1_nextChange ({ frames := 8, cells := 6, slots := 36, locals := 160 }) (PcS G ad σ n τ [.ref (ad 0), .int p0, .int p1]) (Qi G (3 * n + 9) ad (ctS G ad σ n τ) (fun r => cdLX n 7200 p0 p1 = 0 ∧ r = ncG σ (ix p0) 7200 (ntF σ (ix p0) p1))) (XG G (3 * n + 9) ad (ctS G ad σ n τ) (fun E => exC E (cdLX n 7200 p0 p1))) 6 36 (gF G) := by
  refine vx_ofW (cc := cX1_nextChange) (maxL := 6) (ret := (some .int)) (by decide) rfl ?_
  intro p e s m args below meth c s₁ B hml hxt hv
  obtain ⟨rfl, hY⟩ := hv
  have hts := atoms_spec (ws := wsX1_nextChange) B.pre
  have hC : CallFix p m c cX1_nextChange 6 s _ wsX1_nextChange RX1 := ⟨B.exec, B.bytes, hml, findClass_of_methodNamed B.named, hts⟩
  have hx := hC.1
  have hb := hC.2.1
  have hr := B.returns
  have hlocks := B.notSynchronized
  have hin0 : ∀ w ∈ wsX00, w ∈ wsX1_nextChange := by decide +kernel
  have hin1 : ∀ w ∈ wsX10, w ∈ wsX1_nextChange := by decide +kernel
  have hl := lv_entry ([.ref (ad 0), .int p0, .int p1]) (n := 6) (Nat.le_of_ble_eq_true rfl)
  rw [lg_entry_eq]
  generalize (lg_sl ([.ref (ad 0), .int p0, .int p1]) ++ List.replicate (6 - (lg_sl ([.ref (ad 0), .int p0, .int p1])).length) Slot.unset).toArray = ls at hl ⊢
  have hl : lv_has ls 6 [(0, .ref (ad 0)), (1, .int p0), (2, .int p1)] := hl
  refine lv_aload_n hx hb dX1_nextChange_0 rfl (lv_at hl 0 rfl) ?_
  refine lv_iload_n hx hb dX1_nextChange_1 rfl (lv_at hl 1 rfl) ?_
  refine gx_callq hY (gx_runV (n := 1) (q := (RX1, TX1, 5)) (r := 0) hC (c_X1_find l G ad σ n τ hst hn p0) gX1_nextChange_X1_find rfl ⟨rfl, rfl⟩ (by decide +kernel) ⟨Nat.le_of_ble_eq_true rfl, Nat.le_of_ble_eq_true rfl⟩ hY (by omega) rfl (ci := 1) rfl rfl hl.1 rfl (Nat.le_of_ble_eq_true rfl) dX1_nextChange_2 ⟨Nat.le_of_ble_eq_true rfl, Nat.le_of_ble_eq_true rfl⟩) hxt hlocks ⟨Nat.le_of_ble_eq_true rfl, Nat.le_of_ble_eq_true rfl⟩ (fun E h => Or.inl ⟨h.1, by have q := h.2; unfold cdLX; (repeat' split) <;> first | rfl | omega⟩) (fun r1 H locs h2 hY => ?_)
  obtain ⟨rfl, h3⟩ := h2
  refine lv_astore_n (lv' := [(3, .ref (ad (3 * ix p0 + 9))), (0, .ref (ad 0)), (1, .int p0), (2, .int p1)]) hx hb dX1_nextChange_5 rfl hl (by decide) rfl (fun ls hl => ?_)
  refine lv_iload_n hx hb dX1_nextChange_6 rfl (lv_at hl 3 rfl) ?_
  refine lv_sipush (v := 7200) hx hb dX1_nextChange_7 (by decide) ?_
  refine gx_callv hY (gx_runS (n := 2) hC (c_X1_checkNumber l G ad σ n τ hst p1 7200 7200 rfl) gX1_nextChange_X1_checkNumber rfl ⟨rfl, rfl⟩ (by decide +kernel) ⟨Nat.le_of_ble_eq_true rfl, Nat.le_of_ble_eq_true rfl⟩ hY rfl hl.1 rfl (Nat.le_of_ble_eq_true rfl) dX1_nextChange_10 ⟨Nat.le_of_ble_eq_true rfl, Nat.le_of_ble_eq_true rfl⟩) hxt hlocks ⟨Nat.le_of_ble_eq_true rfl, Nat.le_of_ble_eq_true rfl⟩ (fun E h => Or.inl ⟨h.1, by have q := h.2; unfold cdLX; (repeat' split) <;> first | rfl | omega⟩) (fun H locs h5 hY => ?_)
  refine lv_aload_n hx hb dX1_nextChange_13 rfl (lv_at hl 0 rfl) ?_
  refine lv_iload_n hx hb dX1_nextChange_14 rfl (lv_at hl 3 rfl) ?_
  refine g_calli hY (g_runV (n := 1) (q := (RX0, TX0, 12)) (r := 3 * ix p0 + 9) hC (c_X0_nextTurn l G ad σ n τ (ix p0) (ix_lt h3) p1 (okL_s (hI _ (ix_lt h3)))) gX1_nextChange_X0_nextTurn rfl ⟨rfl, rfl⟩ (by decide +kernel) ⟨Nat.le_of_ble_eq_true rfl, Nat.le_of_ble_eq_true rfl⟩ hY (r_lt (ix_lt h3)) (ct_L (ix p0)) (ci := 0) rfl rfl hl.1 rfl (Nat.le_of_ble_eq_true rfl) dX1_nextChange_15 ⟨Nat.le_of_ble_eq_true rfl, Nat.le_of_ble_eq_true rfl⟩) (fun r6 H locs h7 hY => ?_)
  subst h7
  have hg0 : p1.toInt < (ntF σ (ix p0) p1).toInt := nt_gt (by omega)
  refine lv_istore (lv' := [(4, .int (ntF σ (ix p0) p1)), (3, .ref (ad (3 * ix p0 + 9))), (0, .ref (ad 0)), (1, .int p0), (2, .int p1)]) hx hb dX1_nextChange_18 hl (by decide) rfl (fun ls hl => ?_)
  refine lv_iconst (v := 0) hx hb dX1_nextChange_20 (by decide) ?_
  refine lv_istore (lv' := [(5, .int 0), (4, .int (ntF σ (ix p0) p1)), (3, .ref (ad (3 * ix p0 + 9))), (0, .ref (ad 0)), (1, .int p0), (2, .int p1)]) hx hb dX1_nextChange_21 hl (by decide) rfl (fun ls hl => ?_)
  refine w_loop (X := Int32 × Int32) (fun i x H locs ls => match x with | (x5, x4) => (x5.toInt = i ∧ (i : Int) ≤ 7200 ∧ ncG σ (ix p0) (7200 - i) x4 = ncG σ (ix p0) 7200 (ntF σ (ix p0) p1) ∧ 0 < x4.toInt) ∧ SyS G ad σ n τ s H locs ∧ lv_has ls 6 [(5, .int x5), (4, .int x4), (3, .ref (ad (3 * ix p0 + 9))), (0, .ref (ad 0)), (1, .int p0), (2, .int p1)]) (7200) ?_ ?_ ((0, ntF σ (ix p0) p1)) ⟨⟨rfl, by decide, rfl, by omega⟩, hY, lv_sub hl [0, 1, 2, 3, 4, 5] rfl⟩
  · intro i x H locs ls hI ih
    obtain ⟨x5, x4⟩ := x
    obtain ⟨hI, hY, hl⟩ := hI
    obtain ⟨h0, h9, e, h8⟩ := hI
    refine lv_iload hx hb dX1_nextChange_23 (lv_at hl 0 rfl) ?_
    refine lv_sipush (v := 7200) hx hb dX1_nextChange_25 (by decide) ?_
    refine b_icmp_ge (tgt := 75) hx hb dX1_nextChange_28 (by decide) (fun (h8 : 7200 ≤ x5.toInt) => ?_) (fun (h8 : x5.toInt < 7200) => ?_)
    · refine lv_iconst (v := (-1)) hx hb dX1_nextChange_75 (by decide) ?_
      exact vx_ret (g_iret hC hr hlocks hY ⟨Nat.le_of_ble_eq_true rfl, Nat.le_of_ble_eq_true rfl⟩ dX1_nextChange_76 (⟨by unfold cdLX; (repeat' split) <;> first | rfl | omega, by rw [← e, show 7200 - i = 0 by omega]; rfl⟩))
    · refine lv_iload hx hb dX1_nextChange_31 (lv_at hl 1 rfl) ?_
      refine lv_sipush (v := 7200) hx hb dX1_nextChange_33 (by decide) ?_
      refine b_icmp_ge (tgt := 75) hx hb dX1_nextChange_36 (by decide) (fun (h9 : 7200 ≤ x4.toInt) => ?_) (fun (h9 : x4.toInt < 7200) => ?_)
      · refine lv_iconst (v := (-1)) hx hb dX1_nextChange_75 (by decide) ?_
        have hf : 7200 - i = (7200 - (i + 1)) + 1 := by omega
        exact vx_ret (g_iret hC hr hlocks hY ⟨Nat.le_of_ble_eq_true rfl, Nat.le_of_ble_eq_true rfl⟩ dX1_nextChange_76 (⟨by unfold cdLX; (repeat' split) <;> first | rfl | omega, by rw [← e, hf, ncG_s, if_neg (c := x4.toInt < 7200) (by omega)]⟩))
      · refine lv_aload_n hx hb dX1_nextChange_39 rfl (lv_at hl 3 rfl) ?_
        refine lv_aload_n hx hb dX1_nextChange_40 rfl (lv_at hl 2 rfl) ?_
        refine lv_iload hx hb dX1_nextChange_41 (lv_at hl 1 rfl) ?_
        refine g_calli hY (g_runV (n := 2) (q := (RX1, TX1, 5)) (r := 0) hC (c_X1_rentFor l G ad σ n τ (ix p0) (ix_lt h3) x4 (hI _ (ix_lt h3)) (by omega)) gX1_nextChange_X1_rentFor rfl ⟨rfl, rfl⟩ (by decide +kernel) ⟨Nat.le_of_ble_eq_true rfl, Nat.le_of_ble_eq_true rfl⟩ hY (by omega) rfl (ci := 1) rfl rfl hl.1 rfl (Nat.le_of_ble_eq_true rfl) dX1_nextChange_43 ⟨Nat.le_of_ble_eq_true rfl, Nat.le_of_ble_eq_true rfl⟩) (fun r10 H locs h11 hY => ?_)
        subst h11
        refine lv_aload_n hx hb dX1_nextChange_46 rfl (lv_at hl 3 rfl) ?_
        refine lv_aload_n hx hb dX1_nextChange_47 rfl (lv_at hl 2 rfl) ?_
        refine lv_iload hx hb dX1_nextChange_48 (lv_at hl 1 rfl) ?_
        refine lv_iconst (v := 1) hx hb dX1_nextChange_50 (by decide) ?_
        refine lv_isub hx hb dX1_nextChange_51 ?_
        refine g_calli hY (g_runV (n := 2) (q := (RX1, TX1, 5)) (r := 0) hC (c_X1_rentFor l G ad σ n τ (ix p0) (ix_lt h3) (x4 - 1) (hI _ (ix_lt h3)) (by rw [i_sub1 (by omega)]; omega)) gX1_nextChange_X1_rentFor rfl ⟨rfl, rfl⟩ (by decide +kernel) ⟨Nat.le_of_ble_eq_true rfl, Nat.le_of_ble_eq_true rfl⟩ hY (by omega) rfl (ci := 1) rfl rfl hl.1 rfl (Nat.le_of_ble_eq_true rfl) dX1_nextChange_52 ⟨Nat.le_of_ble_eq_true rfl, Nat.le_of_ble_eq_true rfl⟩) (fun r12 H locs h13 hY => ?_)
        subst h13
        refine b_icmp_eq (tgt := 61) hx hb dX1_nextChange_55 (by decide) (fun (h14 : (rfF σ (ix p0) x4).toInt = (rfF σ (ix p0) (x4 - 1)).toInt) => ?_) (fun (h14 : ¬ (rfF σ (ix p0) x4).toInt = (rfF σ (ix p0) (x4 - 1)).toInt) => ?_)
        · refine lv_aload_n hx hb dX1_nextChange_61 rfl (lv_at hl 2 rfl) ?_
          refine lv_iload hx hb dX1_nextChange_62 (lv_at hl 1 rfl) ?_
          refine g_calli hY (g_runV (n := 1) (q := (RX0, TX0, 12)) (r := 3 * ix p0 + 9) hC (c_X0_nextTurn l G ad σ n τ (ix p0) (ix_lt h3) x4 (okL_s (hI _ (ix_lt h3)))) gX1_nextChange_X0_nextTurn rfl ⟨rfl, rfl⟩ (by decide +kernel) ⟨Nat.le_of_ble_eq_true rfl, Nat.le_of_ble_eq_true rfl⟩ hY (r_lt (ix_lt h3)) (ct_L (ix p0)) (ci := 0) rfl rfl hl.1 rfl (Nat.le_of_ble_eq_true rfl) dX1_nextChange_64 ⟨Nat.le_of_ble_eq_true rfl, Nat.le_of_ble_eq_true rfl⟩) (fun r15 H locs h16 hY => ?_)
          subst h16
          refine lv_istore (lv' := [(4, .int (ntF σ (ix p0) x4)), (5, .int x5), (3, .ref (ad (3 * ix p0 + 9))), (0, .ref (ad 0)), (1, .int p0), (2, .int p1)]) hx hb dX1_nextChange_67 hl (by decide) rfl (fun ls hl => ?_)
          refine lv_iinc (v := x5 + 1) (lv' := [(5, .int (x5 + 1)), (4, .int (ntF σ (ix p0) x4)), (3, .ref (ad (3 * ix p0 + 9))), (0, .ref (ad 0)), (1, .int p0), (2, .int p1)]) hx hb dX1_nextChange_69 hl (k := 1) rfl rfl (by decide) rfl (fun ls hl => ?_)
          refine lv_goto (tgt := 23) hx hb dX1_nextChange_72 (by decide) ?_
          have hf : 7200 - i = (7200 - (i + 1)) + 1 := by omega
          have hg1 : x4.toInt < (ntF σ (ix p0) x4).toInt := nt_gt (by omega)
          exact ih (x5 + 1, ntF σ (ix p0) x4) _ _ _ ⟨⟨by rw [i_add (by have : (1 : Int32).toInt = 1 := rfl; omega)]; have : (1 : Int32).toInt = 1 := rfl; omega, by omega, by rw [← e, hf, ncG_s, if_pos (c := x4.toInt < 7200) (by omega), if_pos h14], by omega⟩, hY, lv_sub hl [0, 1, 2, 3, 4, 5] rfl⟩
        · refine lv_iload hx hb dX1_nextChange_58 (lv_at hl 1 rfl) ?_
          have hf : 7200 - i = (7200 - (i + 1)) + 1 := by omega
          exact vx_ret (g_iret hC hr hlocks hY ⟨Nat.le_of_ble_eq_true rfl, Nat.le_of_ble_eq_true rfl⟩ dX1_nextChange_60 (⟨by unfold cdLX; (repeat' split) <;> first | rfl | omega, by rw [← e, hf, ncG_s, if_pos (c := x4.toInt < 7200) (by omega), if_neg h14]⟩))
  · intro i x H locs ls hI
    obtain ⟨x5, x4⟩ := x
    obtain ⟨hI, -, -⟩ := hI
    obtain ⟨h0, h9, e, h8⟩ := hI
    omega

def cdUX (M N : Int) (p0 p1 : Int32) : Int32 := if 0 ≤ p0.toInt ∧ p0.toInt < M then (if 0 ≤ p1.toInt ∧ p1.toInt < N then 0 else 1) else 1
set_option maxHeartbeats 4000000 in
set_option maxRecDepth 100000 in
theorem c_X1_voids (l : Launch) (G : GG) (ad : Nat → Nat) (σ : St) (n : Nat) (τ : St) (hst : l.stackTraces = false) (p0 p1 : Int32)  : vx_Met l yX1_voids wsX1_voids ({ frames := 8, cells := 6, slots := 36, locals := 160 }) (PcS G ad σ n τ [.ref (ad 0), .int p0, .int p1]) (Qi G (3 * n + 9) ad (ctS G ad σ n τ) (fun r => cdUX 6 20 p0 p1 = 0 ∧ r = 360 - dlP σ n p0 (p1 * 360) (p1 * 360 + 360) 24)) (XG G (3 * n + 9) ad (ctS G ad σ n τ) (fun E => exC E (cdUX 6 20 p0 p1))) 6 36 (gF G) := by
  refine vx_ofW (cc := cX1_voids) (maxL := 4) (ret := (some .int)) (by decide) rfl ?_
  intro p e s m args below meth c s₁ B hml hxt hv
  obtain ⟨rfl, hY⟩ := hv
  have hts := atoms_spec (ws := wsX1_voids) B.pre
  have hC : CallFix p m c cX1_voids 4 s _ wsX1_voids RX1 := ⟨B.exec, B.bytes, hml, findClass_of_methodNamed B.named, hts⟩
  have hx := hC.1
  have hb := hC.2.1
  have hr := B.returns
  have hlocks := B.notSynchronized
  have hin0 : ∀ w ∈ wsX00, w ∈ wsX1_voids := by decide +kernel
  have hin1 : ∀ w ∈ wsX10, w ∈ wsX1_voids := by decide +kernel
  have hl := lv_entry ([.ref (ad 0), .int p0, .int p1]) (n := 4) (Nat.le_of_ble_eq_true rfl)
  rw [lg_entry_eq]
  generalize (lg_sl ([.ref (ad 0), .int p0, .int p1]) ++ List.replicate (4 - (lg_sl ([.ref (ad 0), .int p0, .int p1])).length) Slot.unset).toArray = ls at hl ⊢
  have hl : lv_has ls 4 [(0, .ref (ad 0)), (1, .int p0), (2, .int p1)] := hl
  refine lv_iload_n hx hb dX1_voids_0 rfl (lv_at hl 1 rfl) ?_
  refine lv_aload_n hx hb dX1_voids_1 rfl (lv_at hl 0 rfl) ?_
  refine gtV_areas hC hin1 hY (by decide +kernel) dX1_voids_2 ?_
  refine g_alen hC hY 1 (by omega) 0 rfl rfl (v := 6) rfl dX1_voids_5 ?_
  refine gx_callv hY (gx_runS (n := 2) hC (c_X1_checkNumber l G ad σ n τ hst p0 6 6 rfl) gX1_voids_X1_checkNumber rfl ⟨rfl, rfl⟩ (by decide +kernel) ⟨Nat.le_of_ble_eq_true rfl, Nat.le_of_ble_eq_true rfl⟩ hY rfl hl.1 rfl (Nat.le_of_ble_eq_true rfl) dX1_voids_6 ⟨Nat.le_of_ble_eq_true rfl, Nat.le_of_ble_eq_true rfl⟩) hxt hlocks ⟨Nat.le_of_ble_eq_true rfl, Nat.le_of_ble_eq_true rfl⟩ (fun E h => Or.inl ⟨h.1, by have q := h.2; unfold cdUX; (repeat' split) <;> first | rfl | omega⟩) (fun H locs h2 hY => ?_)
  refine lv_iload_n hx hb dX1_voids_9 rfl (lv_at hl 2 rfl) ?_
  refine lv_bipush (v := 20) hx hb dX1_voids_10 (by decide) ?_
  refine gx_callv hY (gx_runS (n := 2) hC (c_X1_checkNumber l G ad σ n τ hst p1 20 20 rfl) gX1_voids_X1_checkNumber rfl ⟨rfl, rfl⟩ (by decide +kernel) ⟨Nat.le_of_ble_eq_true rfl, Nat.le_of_ble_eq_true rfl⟩ hY rfl hl.1 rfl (Nat.le_of_ble_eq_true rfl) dX1_voids_12 ⟨Nat.le_of_ble_eq_true rfl, Nat.le_of_ble_eq_true rfl⟩) hxt hlocks ⟨Nat.le_of_ble_eq_true rfl, Nat.le_of_ble_eq_true rfl⟩ (fun E h => Or.inl ⟨h.1, by have q := h.2; unfold cdUX; (repeat' split) <;> first | rfl | omega⟩) (fun H locs h4 hY => ?_)
  refine lv_iload_n hx hb dX1_voids_15 rfl (lv_at hl 2 rfl) ?_
  refine lv_sipush (v := 360) hx hb dX1_voids_16 (by decide) ?_
  refine lv_imul hx hb dX1_voids_19 ?_
  refine lv_istore_n (lv' := [(3, .int (p1 * 360)), (0, .ref (ad 0)), (1, .int p0), (2, .int p1)]) hx hb dX1_voids_20 rfl hl (by decide) rfl (fun ls hl => ?_)
  refine lv_sipush (v := 360) hx hb dX1_voids_21 (by decide) ?_
  refine lv_aload_n hx hb dX1_voids_24 rfl (lv_at hl 1 rfl) ?_
  refine lv_iload_n hx hb dX1_voids_25 rfl (lv_at hl 2 rfl) ?_
  refine lv_iload_n hx hb dX1_voids_26 rfl (lv_at hl 0 rfl) ?_
  refine lv_iload_n hx hb dX1_voids_27 rfl (lv_at hl 0 rfl) ?_
  refine lv_sipush (v := 360) hx hb dX1_voids_28 (by decide) ?_
  refine lv_iadd hx hb dX1_voids_31 ?_
  refine g_calli hY (g_runV (n := 3) (q := (RX1, TX1, 5)) (r := 0) hC (c_X1_daysLet l G ad σ n τ p0 (p1 * 360) ((p1 * 360) + 360)) gX1_voids_X1_daysLet rfl ⟨rfl, rfl⟩ (by decide +kernel) ⟨Nat.le_of_ble_eq_true rfl, Nat.le_of_ble_eq_true rfl⟩ hY (by omega) rfl (ci := 1) rfl rfl hl.1 rfl (Nat.le_of_ble_eq_true rfl) dX1_voids_32 ⟨Nat.le_of_ble_eq_true rfl, Nat.le_of_ble_eq_true rfl⟩) (fun r5 H locs h6 hY => ?_)
  subst h6
  refine lv_isub hx hb dX1_voids_35 ?_
  exact vx_ret (g_iret hC hr hlocks hY ⟨Nat.le_of_ble_eq_true rfl, Nat.le_of_ble_eq_true rfl⟩ dX1_voids_36 (⟨by unfold cdUX; (repeat' split) <;> first | rfl | omega, rfl⟩))

set_option maxHeartbeats 4000000 in
set_option maxRecDepth 100000 in
theorem c_X1_part (l : Launch) (G : GG) (ad : Nat → Nat) (σ : St) (n : Nat) (τ : St) (hst : l.stackTraces = false) (hn : n ≤ 24) (p0 p1 : Int32)  : vx_Met l yX1_part wsX1_part ({ frames := 8, cells := 6, slots := 36, locals := 160 }) (PcS G ad σ n τ [.ref (ad 0), .int p0, .int p1]) (Qi G (3 * n + 9) ad (ctS G ad σ n τ) (fun r => cdLX n 20 p0 p1 = 0 ∧ r = ptF σ (ix p0) p1 (σ 2 (ix p1)))) (XG G (3 * n + 9) ad (ctS G ad σ n τ) (fun E => exC E (cdLX n 20 p0 p1))) 6 36 (gF G) := by
  refine vx_ofW (cc := cX1_part) (maxL := 4) (ret := (some .int)) (by decide) rfl ?_
  intro p e s m args below meth c s₁ B hml hxt hv
  obtain ⟨rfl, hY⟩ := hv
  have hts := atoms_spec (ws := wsX1_part) B.pre
  have hC : CallFix p m c cX1_part 4 s _ wsX1_part RX1 := ⟨B.exec, B.bytes, hml, findClass_of_methodNamed B.named, hts⟩
  have hx := hC.1
  have hb := hC.2.1
  have hr := B.returns
  have hlocks := B.notSynchronized
  have hin0 : ∀ w ∈ wsX00, w ∈ wsX1_part := by decide +kernel
  have hin1 : ∀ w ∈ wsX10, w ∈ wsX1_part := by decide +kernel
  have hl := lv_entry ([.ref (ad 0), .int p0, .int p1]) (n := 4) (Nat.le_of_ble_eq_true rfl)
  rw [lg_entry_eq]
  generalize (lg_sl ([.ref (ad 0), .int p0, .int p1]) ++ List.replicate (4 - (lg_sl ([.ref (ad 0), .int p0, .int p1])).length) Slot.unset).toArray = ls at hl ⊢
  have hl : lv_has ls 4 [(0, .ref (ad 0)), (1, .int p0), (2, .int p1)] := hl
  refine lv_aload_n hx hb dX1_part_0 rfl (lv_at hl 0 rfl) ?_
  refine lv_iload_n hx hb dX1_part_1 rfl (lv_at hl 1 rfl) ?_
  refine gx_callq hY (gx_runV (n := 1) (q := (RX1, TX1, 5)) (r := 0) hC (c_X1_find l G ad σ n τ hst hn p0) gX1_part_X1_find rfl ⟨rfl, rfl⟩ (by decide +kernel) ⟨Nat.le_of_ble_eq_true rfl, Nat.le_of_ble_eq_true rfl⟩ hY (by omega) rfl (ci := 1) rfl rfl hl.1 rfl (Nat.le_of_ble_eq_true rfl) dX1_part_2 ⟨Nat.le_of_ble_eq_true rfl, Nat.le_of_ble_eq_true rfl⟩) hxt hlocks ⟨Nat.le_of_ble_eq_true rfl, Nat.le_of_ble_eq_true rfl⟩ (fun E h => Or.inl ⟨h.1, by have q := h.2; unfold cdLX; (repeat' split) <;> first | rfl | omega⟩) (fun r1 H locs h2 hY => ?_)
  obtain ⟨rfl, h3⟩ := h2
  refine lv_astore_n (lv' := [(3, .ref (ad (3 * ix p0 + 9))), (0, .ref (ad 0)), (1, .int p0), (2, .int p1)]) hx hb dX1_part_5 rfl hl (by decide) rfl (fun ls hl => ?_)
  refine lv_iload_n hx hb dX1_part_6 rfl (lv_at hl 3 rfl) ?_
  refine lv_aload_n hx hb dX1_part_7 rfl (lv_at hl 1 rfl) ?_
  refine gtV_costs hC hin1 hY (by decide +kernel) dX1_part_8 ?_
  refine g_alen hC hY 3 (by omega) 0 rfl rfl (v := 20) rfl dX1_part_11 ?_
  refine gx_callv hY (gx_runS (n := 2) hC (c_X1_checkNumber l G ad σ n τ hst p1 20 20 rfl) gX1_part_X1_checkNumber rfl ⟨rfl, rfl⟩ (by decide +kernel) ⟨Nat.le_of_ble_eq_true rfl, Nat.le_of_ble_eq_true rfl⟩ hY rfl hl.1 rfl (Nat.le_of_ble_eq_true rfl) dX1_part_12 ⟨Nat.le_of_ble_eq_true rfl, Nat.le_of_ble_eq_true rfl⟩) hxt hlocks ⟨Nat.le_of_ble_eq_true rfl, Nat.le_of_ble_eq_true rfl⟩ (fun E h => Or.inl ⟨h.1, by have q := h.2; unfold cdLX; (repeat' split) <;> first | rfl | omega⟩) (fun H locs h5 hY => ?_)
  refine lv_aload_n hx hb dX1_part_15 rfl (lv_at hl 1 rfl) ?_
  refine lv_aload_n hx hb dX1_part_16 rfl (lv_at hl 0 rfl) ?_
  refine lv_iload_n hx hb dX1_part_17 rfl (lv_at hl 3 rfl) ?_
  refine lv_aload_n hx hb dX1_part_18 rfl (lv_at hl 1 rfl) ?_
  refine gtV_costs hC hin1 hY (by decide +kernel) dX1_part_19 ?_
  refine lv_iload_n hx hb dX1_part_22 rfl (lv_at hl 3 rfl) ?_
  refine rdA2 hC hY h5 dX1_part_23 ?_
  refine g_calli hY (g_runV (n := 3) (q := (RX1, TX1, 5)) (r := 0) hC (c_X1_partOf l G ad σ n τ (ix p0) (ix_lt h3) p1 (σ 2 (ix p1))) gX1_part_X1_partOf rfl ⟨rfl, rfl⟩ (by decide +kernel) ⟨Nat.le_of_ble_eq_true rfl, Nat.le_of_ble_eq_true rfl⟩ hY (by omega) rfl (ci := 1) rfl rfl hl.1 rfl (Nat.le_of_ble_eq_true rfl) dX1_part_24 ⟨Nat.le_of_ble_eq_true rfl, Nat.le_of_ble_eq_true rfl⟩) (fun r6 H locs h7 hY => ?_)
  subst h7
  exact vx_ret (g_iret hC hr hlocks hY ⟨Nat.le_of_ble_eq_true rfl, Nat.le_of_ble_eq_true rfl⟩ dX1_part_27 (⟨by unfold cdLX; (repeat' split) <;> first | rfl | omega, rfl⟩))

set_option maxHeartbeats 4000000 in
set_option maxRecDepth 100000 in
theorem c_X1_balance (l : Launch) (G : GG) (ad : Nat → Nat) (σ : St) (n : Nat) (τ : St) (hst : l.stackTraces = false) (hn : n ≤ 24) (p0 p1 : Int32)  : vx_Met l yX1_balance wsX1_balance ({ frames := 8, cells := 6, slots := 36, locals := 160 }) (PcS G ad σ n τ [.ref (ad 0), .int p0, .int p1]) (Qi G (3 * n + 9) ad (ctS G ad σ n τ) (fun r => cdLX n 20 p0 p1 = 0 ∧ r = ptF σ (ix p0) p1 (σ 2 (ix p1)) - σ 10 (ix p0) * diF σ (ix p0) p1 / 30)) (XG G (3 * n + 9) ad (ctS G ad σ n τ) (fun E => exC E (cdLX n 20 p0 p1))) 6 36 (gF G) := by
  refine vx_ofW (cc := cX1_balance) (maxL := 5) (ret := (some .int)) (by decide) rfl ?_
  intro p e s m args below meth c s₁ B hml hxt hv
  obtain ⟨rfl, hY⟩ := hv
  have hts := atoms_spec (ws := wsX1_balance) B.pre
  have hC : CallFix p m c cX1_balance 5 s _ wsX1_balance RX1 := ⟨B.exec, B.bytes, hml, findClass_of_methodNamed B.named, hts⟩
  have hx := hC.1
  have hb := hC.2.1
  have hr := B.returns
  have hlocks := B.notSynchronized
  have hin0 : ∀ w ∈ wsX00, w ∈ wsX1_balance := by decide +kernel
  have hin1 : ∀ w ∈ wsX10, w ∈ wsX1_balance := by decide +kernel
  have hl := lv_entry ([.ref (ad 0), .int p0, .int p1]) (n := 5) (Nat.le_of_ble_eq_true rfl)
  rw [lg_entry_eq]
  generalize (lg_sl ([.ref (ad 0), .int p0, .int p1]) ++ List.replicate (5 - (lg_sl ([.ref (ad 0), .int p0, .int p1])).length) Slot.unset).toArray = ls at hl ⊢
  have hl : lv_has ls 5 [(0, .ref (ad 0)), (1, .int p0), (2, .int p1)] := hl
  refine lv_aload_n hx hb dX1_balance_0 rfl (lv_at hl 0 rfl) ?_
  refine lv_iload_n hx hb dX1_balance_1 rfl (lv_at hl 1 rfl) ?_
  refine gx_callq hY (gx_runV (n := 1) (q := (RX1, TX1, 5)) (r := 0) hC (c_X1_find l G ad σ n τ hst hn p0) gX1_balance_X1_find rfl ⟨rfl, rfl⟩ (by decide +kernel) ⟨Nat.le_of_ble_eq_true rfl, Nat.le_of_ble_eq_true rfl⟩ hY (by omega) rfl (ci := 1) rfl rfl hl.1 rfl (Nat.le_of_ble_eq_true rfl) dX1_balance_2 ⟨Nat.le_of_ble_eq_true rfl, Nat.le_of_ble_eq_true rfl⟩) hxt hlocks ⟨Nat.le_of_ble_eq_true rfl, Nat.le_of_ble_eq_true rfl⟩ (fun E h => Or.inl ⟨h.1, by have q := h.2; unfold cdLX; (repeat' split) <;> first | rfl | omega⟩) (fun r1 H locs h2 hY => ?_)
  obtain ⟨rfl, h3⟩ := h2
  refine lv_astore_n (lv' := [(3, .ref (ad (3 * ix p0 + 9))), (0, .ref (ad 0)), (1, .int p0), (2, .int p1)]) hx hb dX1_balance_5 rfl hl (by decide) rfl (fun ls hl => ?_)
  refine lv_iload_n hx hb dX1_balance_6 rfl (lv_at hl 3 rfl) ?_
  refine lv_aload_n hx hb dX1_balance_7 rfl (lv_at hl 1 rfl) ?_
  refine gtV_costs hC hin1 hY (by decide +kernel) dX1_balance_8 ?_
  refine g_alen hC hY 3 (by omega) 0 rfl rfl (v := 20) rfl dX1_balance_11 ?_
  refine gx_callv hY (gx_runS (n := 2) hC (c_X1_checkNumber l G ad σ n τ hst p1 20 20 rfl) gX1_balance_X1_checkNumber rfl ⟨rfl, rfl⟩ (by decide +kernel) ⟨Nat.le_of_ble_eq_true rfl, Nat.le_of_ble_eq_true rfl⟩ hY rfl hl.1 rfl (Nat.le_of_ble_eq_true rfl) dX1_balance_12 ⟨Nat.le_of_ble_eq_true rfl, Nat.le_of_ble_eq_true rfl⟩) hxt hlocks ⟨Nat.le_of_ble_eq_true rfl, Nat.le_of_ble_eq_true rfl⟩ (fun E h => Or.inl ⟨h.1, by have q := h.2; unfold cdLX; (repeat' split) <;> first | rfl | omega⟩) (fun H locs h5 hY => ?_)
  refine lv_aload_n hx hb dX1_balance_15 rfl (lv_at hl 0 rfl) ?_
  refine gtN_prepaid hC hin0 hY (k := ix p0) (ix_lt h3) (by decide) dX1_balance_16 ?_
  refine lv_aload_n hx hb dX1_balance_19 rfl (lv_at hl 0 rfl) ?_
  refine lv_iload_n hx hb dX1_balance_20 rfl (lv_at hl 3 rfl) ?_
  refine g_calli hY (g_runV (n := 1) (q := (RX0, TX0, 12)) (r := 3 * ix p0 + 9) hC (c_X0_daysIn l G ad σ n τ (ix p0) (ix_lt h3) p1) gX1_balance_X0_daysIn rfl ⟨rfl, rfl⟩ (by decide +kernel) ⟨Nat.le_of_ble_eq_true rfl, Nat.le_of_ble_eq_true rfl⟩ hY (r_lt (ix_lt h3)) (ct_L (ix p0)) (ci := 0) rfl rfl hl.1 rfl (Nat.le_of_ble_eq_true rfl) dX1_balance_21 ⟨Nat.le_of_ble_eq_true rfl, Nat.le_of_ble_eq_true rfl⟩) (fun r6 H locs h7 hY => ?_)
  subst h7
  refine lv_imul hx hb dX1_balance_24 ?_
  refine lv_bipush (v := 30) hx hb dX1_balance_25 (by decide) ?_
  refine lv_idiv hx hb dX1_balance_27 (by decide) ?_
  refine lv_istore (lv' := [(4, .int (((σ 10 (ix p0)) * (diF σ (ix p0) p1)) / 30)), (3, .ref (ad (3 * ix p0 + 9))), (0, .ref (ad 0)), (1, .int p0), (2, .int p1)]) hx hb dX1_balance_28 hl (by decide) rfl (fun ls hl => ?_)
  refine lv_aload_n hx hb dX1_balance_30 rfl (lv_at hl 2 rfl) ?_
  refine lv_aload_n hx hb dX1_balance_31 rfl (lv_at hl 1 rfl) ?_
  refine lv_iload_n hx hb dX1_balance_32 rfl (lv_at hl 4 rfl) ?_
  refine lv_aload_n hx hb dX1_balance_33 rfl (lv_at hl 2 rfl) ?_
  refine gtV_costs hC hin1 hY (by decide +kernel) dX1_balance_34 ?_
  refine lv_iload_n hx hb dX1_balance_37 rfl (lv_at hl 4 rfl) ?_
  refine rdA2 hC hY h5 dX1_balance_38 ?_
  refine g_calli hY (g_runV (n := 3) (q := (RX1, TX1, 5)) (r := 0) hC (c_X1_partOf l G ad σ n τ (ix p0) (ix_lt h3) p1 (σ 2 (ix p1))) gX1_balance_X1_partOf rfl ⟨rfl, rfl⟩ (by decide +kernel) ⟨Nat.le_of_ble_eq_true rfl, Nat.le_of_ble_eq_true rfl⟩ hY (by omega) rfl (ci := 1) rfl rfl hl.1 rfl (Nat.le_of_ble_eq_true rfl) dX1_balance_39 ⟨Nat.le_of_ble_eq_true rfl, Nat.le_of_ble_eq_true rfl⟩) (fun r8 H locs h9 hY => ?_)
  subst h9
  refine lv_iload hx hb dX1_balance_42 (lv_at hl 0 rfl) ?_
  refine lv_isub hx hb dX1_balance_44 ?_
  exact vx_ret (g_iret hC hr hlocks hY ⟨Nat.le_of_ble_eq_true rfl, Nat.le_of_ble_eq_true rfl⟩ dX1_balance_45 (⟨by unfold cdLX; (repeat' split) <;> first | rfl | omega, rfl⟩))

def cdU1 (N : Int) (p0 : Int32) : Int32 := if 0 ≤ p0.toInt ∧ p0.toInt < N then 0 else 1
def owP (σ : St) (n : Nat) (y : Int32) : Nat → Int32
  | 0 => σ 2 (ix y)
  | i + 1 => if i < n then owP σ n y i - ptF σ i y (σ 2 (ix y)) else owP σ n y i
set_option maxHeartbeats 4000000 in
set_option maxRecDepth 100000 in
theorem c_X1_owners (l : Launch) (G : GG) (ad : Nat → Nat) (σ : St) (n : Nat) (τ : St) (hst : l.stackTraces = false) (p0 : Int32)  : vx_Met l yX1_owners wsX1_owners ({ frames := 8, cells := 6, slots := 36, locals := 160 }) (PcS G ad σ n τ [.ref (ad 0), .int p0]) (Qi G (3 * n + 9) ad (ctS G ad σ n τ) (fun r => cdU1 20 p0 = 0 ∧ r = owP σ n p0 24)) (XG G (3 * n + 9) ad (ctS G ad σ n τ) (fun E => exC E (cdU1 20 p0))) 6 36 (gF G) := by
  refine vx_ofW (cc := cX1_owners) (maxL := 7) (ret := (some .int)) (by decide) rfl ?_
  intro p e s m args below meth c s₁ B hml hxt hv
  obtain ⟨rfl, hY⟩ := hv
  have hts := atoms_spec (ws := wsX1_owners) B.pre
  have hC : CallFix p m c cX1_owners 7 s _ wsX1_owners RX1 := ⟨B.exec, B.bytes, hml, findClass_of_methodNamed B.named, hts⟩
  have hx := hC.1
  have hb := hC.2.1
  have hr := B.returns
  have hlocks := B.notSynchronized
  have hin0 : ∀ w ∈ wsX00, w ∈ wsX1_owners := by decide +kernel
  have hin1 : ∀ w ∈ wsX10, w ∈ wsX1_owners := by decide +kernel
  have hl := lv_entry ([.ref (ad 0), .int p0]) (n := 7) (Nat.le_of_ble_eq_true rfl)
  rw [lg_entry_eq]
  generalize (lg_sl ([.ref (ad 0), .int p0]) ++ List.replicate (7 - (lg_sl ([.ref (ad 0), .int p0])).length) Slot.unset).toArray = ls at hl ⊢
  have hl : lv_has ls 7 [(0, .ref (ad 0)), (1, .int p0)] := hl
  refine lv_iload_n hx hb dX1_owners_0 rfl (lv_at hl 1 rfl) ?_
  refine lv_aload_n hx hb dX1_owners_1 rfl (lv_at hl 0 rfl) ?_
  refine gtV_costs hC hin1 hY (by decide +kernel) dX1_owners_2 ?_
  refine g_alen hC hY 3 (by omega) 0 rfl rfl (v := 20) rfl dX1_owners_5 ?_
  refine gx_callv hY (gx_runS (n := 2) hC (c_X1_checkNumber l G ad σ n τ hst p0 20 20 rfl) gX1_owners_X1_checkNumber rfl ⟨rfl, rfl⟩ (by decide +kernel) ⟨Nat.le_of_ble_eq_true rfl, Nat.le_of_ble_eq_true rfl⟩ hY rfl hl.1 rfl (Nat.le_of_ble_eq_true rfl) dX1_owners_6 ⟨Nat.le_of_ble_eq_true rfl, Nat.le_of_ble_eq_true rfl⟩) hxt hlocks ⟨Nat.le_of_ble_eq_true rfl, Nat.le_of_ble_eq_true rfl⟩ (fun E h => Or.inl ⟨h.1, by have q := h.2; unfold cdU1; (repeat' split) <;> first | rfl | omega⟩) (fun H locs h2 hY => ?_)
  refine lv_aload_n hx hb dX1_owners_9 rfl (lv_at hl 0 rfl) ?_
  refine gtV_costs hC hin1 hY (by decide +kernel) dX1_owners_10 ?_
  refine lv_iload_n hx hb dX1_owners_13 rfl (lv_at hl 1 rfl) ?_
  refine rdA2 hC hY h2 dX1_owners_14 ?_
  refine lv_istore_n (lv' := [(2, .int (σ 2 (ix p0))), (0, .ref (ad 0)), (1, .int p0)]) hx hb dX1_owners_15 rfl hl (by decide) rfl (fun ls hl => ?_)
  refine lv_aload_n hx hb dX1_owners_16 rfl (lv_at hl 1 rfl) ?_
  refine gtV_roll hC hin1 hY (by decide +kernel) dX1_owners_17 ?_
  refine lv_astore_n (lv' := [(3, .ref (ad 4)), (2, .int (σ 2 (ix p0))), (0, .ref (ad 0)), (1, .int p0)]) hx hb dX1_owners_20 rfl hl (by decide) rfl (fun ls hl => ?_)
  refine lv_aload_n hx hb dX1_owners_21 rfl (lv_at hl 0 rfl) ?_
  refine g_alen hC hY 4 (by omega) 1 rfl rfl (v := 24) rfl dX1_owners_22 ?_
  refine lv_istore (lv' := [(4, .int 24), (3, .ref (ad 4)), (2, .int (σ 2 (ix p0))), (0, .ref (ad 0)), (1, .int p0)]) hx hb dX1_owners_23 hl (by decide) rfl (fun ls hl => ?_)
  refine lv_iconst (v := 0) hx hb dX1_owners_25 (by decide) ?_
  refine lv_istore (lv' := [(5, .int 0), (4, .int 24), (3, .ref (ad 4)), (2, .int (σ 2 (ix p0))), (0, .ref (ad 0)), (1, .int p0)]) hx hb dX1_owners_26 hl (by decide) rfl (fun ls hl => ?_)
  refine w_loop (X := Int32 × Int32) (fun i x H locs ls => match x with | (x5, x2) => (x5.toInt = i ∧ (i : Int) ≤ 24 ∧ x2 = owP σ n p0 i) ∧ SyS G ad σ n τ s H locs ∧ lv_has ls 7 [(5, .int x5), (2, .int x2), (4, .int 24), (3, .ref (ad 4)), (0, .ref (ad 0)), (1, .int p0)]) (24) ?_ ?_ ((0, σ 2 (ix p0))) ⟨⟨rfl, by decide, rfl⟩, hY, lv_sub hl [0, 3, 1, 2, 4, 5] rfl⟩
  · intro i x H locs ls hI ih
    obtain ⟨x5, x2⟩ := x
    obtain ⟨hI, hY, hl⟩ := hI
    obtain ⟨h0, h9, e⟩ := hI
    refine lv_iload hx hb dX1_owners_28 (lv_at hl 0 rfl) ?_
    refine lv_iload hx hb dX1_owners_30 (lv_at hl 2 rfl) ?_
    refine b_icmp_ge (tgt := 68) hx hb dX1_owners_32 (by decide) (fun (h3 : 24 ≤ x5.toInt) => ?_) (fun (h3 : x5.toInt < 24) => ?_)
    · refine lv_iload_n hx hb dX1_owners_68 rfl (lv_at hl 1 rfl) ?_
      exact vx_ret (g_iret hC hr hlocks hY ⟨Nat.le_of_ble_eq_true rfl, Nat.le_of_ble_eq_true rfl⟩ dX1_owners_69 (⟨by unfold cdU1; (repeat' split) <;> first | rfl | omega, by rw [e, show i = 24 by omega]⟩))
    · refine lv_aload_n hx hb dX1_owners_35 rfl (lv_at hl 3 rfl) ?_
      refine lv_iload hx hb dX1_owners_36 (lv_at hl 0 rfl) ?_
      refine rdRoll hC hY ⟨by omega, by omega⟩ dX1_owners_38 ?_
      by_cases h4 : ix x5 < n
      · rw [show roF ad n (ix x5) = some (ad (3 * ix x5 + 9)) from if_pos h4]
        refine lv_astore (lv' := [(6, .ref (ad (3 * ix x5 + 9))), (5, .int x5), (2, .int x2), (4, .int 24), (3, .ref (ad 4)), (0, .ref (ad 0)), (1, .int p0)]) hx hb dX1_owners_39 hl (by decide) rfl (fun ls hl => ?_)
        refine lv_aload hx hb dX1_owners_41 (lv_at hl 0 rfl) ?_
        refine lv_ifnull hx hb dX1_owners_43 ?_
        refine lv_iload_n hx hb dX1_owners_46 rfl (lv_at hl 2 rfl) ?_
        refine lv_aload_n hx hb dX1_owners_47 rfl (lv_at hl 5 rfl) ?_
        refine lv_aload hx hb dX1_owners_48 (lv_at hl 0 rfl) ?_
        refine lv_iload_n hx hb dX1_owners_50 rfl (lv_at hl 6 rfl) ?_
        refine lv_aload_n hx hb dX1_owners_51 rfl (lv_at hl 5 rfl) ?_
        refine gtV_costs hC hin1 hY (by decide +kernel) dX1_owners_52 ?_
        refine lv_iload_n hx hb dX1_owners_55 rfl (lv_at hl 6 rfl) ?_
        refine rdA2 hC hY h2 dX1_owners_56 ?_
        refine g_calli hY (g_runV (n := 3) (q := (RX1, TX1, 5)) (r := 0) hC (c_X1_partOf l G ad σ n τ (ix x5) h4 p0 (σ 2 (ix p0))) gX1_owners_X1_partOf rfl ⟨rfl, rfl⟩ (by decide +kernel) ⟨Nat.le_of_ble_eq_true rfl, Nat.le_of_ble_eq_true rfl⟩ hY (by omega) rfl (ci := 1) rfl rfl hl.1 rfl (Nat.le_of_ble_eq_true rfl) dX1_owners_57 ⟨Nat.le_of_ble_eq_true rfl, Nat.le_of_ble_eq_true rfl⟩) (fun r5 H locs h6 hY => ?_)
        subst h6
        refine lv_isub hx hb dX1_owners_60 ?_
        refine lv_istore_n (lv' := [(2, .int (x2 - (ptF σ (ix x5) p0 (σ 2 (ix p0))))), (6, .ref (ad (3 * ix x5 + 9))), (5, .int x5), (4, .int 24), (3, .ref (ad 4)), (0, .ref (ad 0)), (1, .int p0)]) hx hb dX1_owners_61 rfl hl (by decide) rfl (fun ls hl => ?_)
        refine lv_iinc (v := x5 + 1) (lv' := [(5, .int (x5 + 1)), (2, .int (x2 - (ptF σ (ix x5) p0 (σ 2 (ix p0))))), (6, .ref (ad (3 * ix x5 + 9))), (4, .int 24), (3, .ref (ad 4)), (0, .ref (ad 0)), (1, .int p0)]) hx hb dX1_owners_62 hl (k := 2) rfl rfl (by decide) rfl (fun ls hl => ?_)
        refine lv_goto (tgt := 28) hx hb dX1_owners_65 (by decide) ?_
        have hix : ix x5 = i := i_ix h0
        exact ih (x5 + 1, x2 - (ptF σ (ix x5) p0 (σ 2 (ix p0)))) _ _ _ ⟨⟨by rw [i_add (by have : (1 : Int32).toInt = 1 := rfl; omega)]; have : (1 : Int32).toInt = 1 := rfl; omega, by omega, by rw [owP, if_pos (by rw [← hix]; exact h4), ← e, ← hix]⟩, hY, lv_sub hl [0, 1, 3, 4, 5, 6] rfl⟩
      · rw [show roF ad n (ix x5) = none from if_neg h4]
        refine W.eq (g2 := F0 m 39 ls [.null]) rfl ?_
        refine lv_astoreN (lv' := [(6, .null), (5, .int x5), (2, .int x2), (4, .int 24), (3, .ref (ad 4)), (0, .ref (ad 0)), (1, .int p0)]) hx hb dX1_owners_39 hl (by decide) rfl (fun ls hl => ?_)
        refine lv_aloadN hx hb dX1_owners_41 (lv_at hl 0 rfl) ?_
        refine lv_ifnullN (tgt := 62) hx hb dX1_owners_43 (by decide) ?_
        refine lv_iinc (v := x5 + 1) (lv' := [(5, .int (x5 + 1)), (6, .null), (2, .int x2), (4, .int 24), (3, .ref (ad 4)), (0, .ref (ad 0)), (1, .int p0)]) hx hb dX1_owners_62 hl (k := 1) rfl rfl (by decide) rfl (fun ls hl => ?_)
        refine lv_goto (tgt := 28) hx hb dX1_owners_65 (by decide) ?_
        have hix : ix x5 = i := i_ix h0
        exact ih (x5 + 1, x2) _ _ _ ⟨⟨by rw [i_add (by have : (1 : Int32).toInt = 1 := rfl; omega)]; have : (1 : Int32).toInt = 1 := rfl; omega, by omega, by rw [owP, if_neg (by rw [← hix]; exact h4)]; exact e⟩, hY, lv_sub hl [0, 2, 3, 4, 5, 6] rfl⟩
  · intro i x H locs ls hI
    obtain ⟨x5, x2⟩ := x
    obtain ⟨hI, -, -⟩ := hI
    obtain ⟨h0, h9, e⟩ := hI
    omega


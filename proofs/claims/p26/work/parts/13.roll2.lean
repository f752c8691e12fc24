/-! the roll's methods that answer -/
theorem i_add1 {x : Int32} (h : x.toInt < 2147483647) : (x + 1).toInt = x.toInt + 1 := by
  have h1 : (1 : Int32).toInt = 1 := rfl
  have := i_bnd x
  rw [i_add (by omega), h1]
theorem i_sub1 {x : Int32} (h : -2147483648 < x.toInt) : (x - 1).toInt = x.toInt - 1 := by
  have h1 : (1 : Int32).toInt = 1 := rfl
  have := i_bnd x
  rw [i_sub (by omega), h1]
theorem i_mulc {x : Int32} {c : Nat} (hx : 0 ≤ x.toInt ∧ x.toInt < 10000) (hc : c < 10000) : (x * nI c).toInt = x.toInt * c := by
  have h1 : (nI c).toInt = c := i_nI (by omega)
  have h2 : x.toInt * (c : Int) ≤ 10000 * 10000 := Int.mul_le_mul (by omega) (by omega) (by omega) (by omega)
  have h3 : 0 ≤ x.toInt * (c : Int) := Int.mul_nonneg hx.1 (by omega)
  rw [i_mul (by rw [h1]; omega), h1]
theorem ok_f1 {σ : St} {k : Nat} (h : okL σ k) : (σ 4 k + 1).toInt = (σ 4 k).toInt + 1 := i_add1 (by obtain ⟨-, ⟨h1, h2, h3⟩, -⟩ := h; omega)
theorem ok_t1 {σ : St} {k : Nat} (h : okL σ k) : (σ 5 k - 1).toInt = (σ 5 k).toInt - 1 := i_sub1 (by obtain ⟨-, ⟨h1, h2, h3⟩, -⟩ := h; omega)
def bfP (σ : St) (k : Nat) (m : Int32) : Nat → Int32 × Int32
  | 0 => (m * 30, 0)
  | i + 1 => if (bfP σ k m i).1.toInt < (m * 30 + 30).toInt then (mnF (ntF σ k (bfP σ k m i).1) (m * 30 + 30), (bfP σ k m i).2 + (mnF (ntF σ k (bfP σ k m i).1) (m * 30 + 30) - (bfP σ k m i).1) * rfF σ k (bfP σ k m i).1) else bfP σ k m i
def bfF (σ : St) (k : Nat) (m : Int32) : Int32 := (bfP σ k m 30).2 / 30
theorem bfP_st {σ : St} {k : Nat} {m : Int32} {i : Nat} (h : ¬ (bfP σ k m i).1.toInt < (m * 30 + 30).toInt) : ∀ q, bfP σ k m (i + q) = bfP σ k m i := by
  intro q
  induction q with
  | zero => rfl
  | succ q ih => show bfP σ k m ((i + q) + 1) = _; rw [bfP, ih, if_neg h]
theorem i_mnF {x y : Int32} : (mnF x y).toInt ≤ y.toInt := by
  unfold mnF
  split
  · exact Int.le_refl _
  · rename_i h; rw [Int32.lt_iff_toInt_lt] at h; omega
set_option maxHeartbeats 4000000 in
set_option maxRecDepth 100000 in
theorem c_X1_billFor (l : Launch) (G : GG) (ad : Nat → Nat) (σ : St) (n : Nat) (τ : St) (k : Nat) (hk : k < n) (p0 : Int32) (hL : okL σ k) (hm : 0 ≤ p0.toInt ∧ p0.toInt < 240)  : Met l yX1_billFor wsX1_billFor ({ frames := 3, cells := 0, slots := 0, locals := 90 }) (PcS G ad σ n τ [.ref (ad 0), .ref (ad (3 * k + 9)), .int p0]) (Qi G (3 * n + 9) ad (ctS G ad σ n τ) (fun r => r = bfF σ k p0)) 0 0 (gF G) := by
  refine Met.ofW (cc := cX1_billFor) (maxL := 8) (ret := (some .int)) (by decide) rfl ?_
  intro p e s m args below meth c s₁ B hml hv
  obtain ⟨rfl, hY⟩ := hv
  have hts := atoms_spec (ws := wsX1_billFor) B.pre
  have hC : CallFix p m c cX1_billFor 8 s _ wsX1_billFor RX1 := ⟨B.exec, B.bytes, hml, findClass_of_methodNamed B.named, hts⟩
  have hx := hC.1
  have hb := hC.2.1
  have hr := B.returns
  have hlocks := B.notSynchronized
  have hin0 : ∀ w ∈ wsX00, w ∈ wsX1_billFor := by decide +kernel
  have hin1 : ∀ w ∈ wsX10, w ∈ wsX1_billFor := by decide +kernel
  have hl := lv_entry ([.ref (ad 0), .ref (ad (3 * k + 9)), .int p0]) (n := 8) (Nat.le_of_ble_eq_true rfl)
  rw [lg_entry_eq]
  generalize (lg_sl ([.ref (ad 0), .ref (ad (3 * k + 9)), .int p0]) ++ List.replicate (8 - (lg_sl ([.ref (ad 0), .ref (ad (3 * k + 9)), .int p0])).length) Slot.unset).toArray = ls at hl ⊢
  have hl : lv_has ls 8 [(0, .ref (ad 0)), (1, .ref (ad (3 * k + 9))), (2, .int p0)] := hl
  have hb3 : (p0 * 30).toInt = p0.toInt * 30 := i_mulc (c := 30) (by omega) (by decide)
  have hb4 : (p0 * 30 + 30).toInt = p0.toInt * 30 + 30 := by rw [i_add (by have : (30 : Int32).toInt = 30 := rfl; omega), hb3]; rfl
  refine lv_iload_n hx hb dX1_billFor_0 rfl (lv_at hl 2 rfl) ?_
  refine lv_bipush (v := 30) hx hb dX1_billFor_1 (by decide) ?_
  refine lv_imul hx hb dX1_billFor_3 ?_
  refine lv_istore_n (lv' := [(3, .int (p0 * 30)), (0, .ref (ad 0)), (1, .ref (ad (3 * k + 9))), (2, .int p0)]) hx hb dX1_billFor_4 rfl hl (by decide) rfl (fun ls hl => ?_)
  refine lv_iload_n hx hb dX1_billFor_5 rfl (lv_at hl 0 rfl) ?_
  refine lv_bipush (v := 30) hx hb dX1_billFor_6 (by decide) ?_
  refine lv_iadd hx hb dX1_billFor_8 ?_
  refine lv_istore (lv' := [(4, .int ((p0 * 30) + 30)), (3, .int (p0 * 30)), (0, .ref (ad 0)), (1, .ref (ad (3 * k + 9))), (2, .int p0)]) hx hb dX1_billFor_9 hl (by decide) rfl (fun ls hl => ?_)
  refine lv_iconst (v := 0) hx hb dX1_billFor_11 (by decide) ?_
  refine lv_istore (lv' := [(5, .int 0), (4, .int ((p0 * 30) + 30)), (3, .int (p0 * 30)), (0, .ref (ad 0)), (1, .ref (ad (3 * k + 9))), (2, .int p0)]) hx hb dX1_billFor_12 hl (by decide) rfl (fun ls hl => ?_)
  refine lv_iconst (v := 0) hx hb dX1_billFor_14 (by decide) ?_
  refine lv_istore (lv' := [(6, .int 0), (5, .int 0), (4, .int ((p0 * 30) + 30)), (3, .int (p0 * 30)), (0, .ref (ad 0)), (1, .ref (ad (3 * k + 9))), (2, .int p0)]) hx hb dX1_billFor_15 hl (by decide) rfl (fun ls hl => ?_)
  refine w_loop (X := Int32 × Int32 × Int32) (fun i x H locs ls => match x with | (x6, x3, x5) => (x6.toInt = i ∧ (i : Int) ≤ 30 ∧ bfP σ k p0 i = (x3, x5) ∧ x3.toInt ≤ (p0 * 30 + 30).toInt) ∧ SyS G ad σ n τ s H locs ∧ lv_has ls 8 [(6, .int x6), (3, .int x3), (5, .int x5), (4, .int ((p0 * 30) + 30)), (0, .ref (ad 0)), (1, .ref (ad (3 * k + 9)))]) (30) ?_ ?_ ((0, p0 * 30, 0)) ⟨⟨rfl, by decide, rfl, by omega⟩, hY, lv_sub hl [0, 3, 1, 2, 4, 5] rfl⟩
  · intro i x H locs ls hI ih
    obtain ⟨x6, x3, x5⟩ := x
    obtain ⟨hI, hY, hl⟩ := hI
    obtain ⟨h0, h9, e, h8⟩ := hI
    refine lv_iload hx hb dX1_billFor_17 (lv_at hl 0 rfl) ?_
    refine lv_bipush (v := 30) hx hb dX1_billFor_19 (by decide) ?_
    refine b_icmp_ge (tgt := 67) hx hb dX1_billFor_21 (by decide) (fun (h1 : 30 ≤ x6.toInt) => ?_) (fun (h1 : x6.toInt < 30) => ?_)
    · refine lv_iload hx hb dX1_billFor_67 (lv_at hl 2 rfl) ?_
      refine lv_bipush (v := 30) hx hb dX1_billFor_69 (by decide) ?_
      refine lv_idiv hx hb dX1_billFor_71 (by decide) ?_
      exact g_iret hC hr hlocks hY ⟨Nat.le_of_ble_eq_true rfl, Nat.le_of_ble_eq_true rfl⟩ dX1_billFor_72 (by unfold bfF; rw [show (30 : Nat) = i by omega, e])
    · refine lv_iload_n hx hb dX1_billFor_24 rfl (lv_at hl 1 rfl) ?_
      refine lv_iload hx hb dX1_billFor_25 (lv_at hl 3 rfl) ?_
      refine b_icmp_ge (tgt := 67) hx hb dX1_billFor_27 (by decide) (fun (h2 : ((p0 * 30) + 30).toInt ≤ x3.toInt) => ?_) (fun (h2 : x3.toInt < ((p0 * 30) + 30).toInt) => ?_)
      · refine lv_iload hx hb dX1_billFor_67 (lv_at hl 2 rfl) ?_
        refine lv_bipush (v := 30) hx hb dX1_billFor_69 (by decide) ?_
        refine lv_idiv hx hb dX1_billFor_71 (by decide) ?_
        exact g_iret hC hr hlocks hY ⟨Nat.le_of_ble_eq_true rfl, Nat.le_of_ble_eq_true rfl⟩ dX1_billFor_72 (by unfold bfF; rw [show (30 : Nat) = i + (30 - i) by omega, bfP_st (by rw [e]; show ¬ x3.toInt < _; omega), e])
      · refine lv_aload_n hx hb dX1_billFor_30 rfl (lv_at hl 5 rfl) ?_
        refine lv_iload_n hx hb dX1_billFor_31 rfl (lv_at hl 1 rfl) ?_
        refine g_calli hY (g_runV (n := 1) (q := (RX0, TX0, 12)) (r := 3 * k + 9) hC (c_X0_nextTurn l G ad σ n τ k hk x3 (okL_s hL)) gX1_billFor_X0_nextTurn rfl ⟨rfl, rfl⟩ (by decide +kernel) ⟨Nat.le_of_ble_eq_true rfl, Nat.le_of_ble_eq_true rfl⟩ hY (r_lt hk) (ct_L k) (ci := 0) rfl rfl hl.1 rfl (Nat.le_of_ble_eq_true rfl) dX1_billFor_32 ⟨Nat.le_of_ble_eq_true rfl, Nat.le_of_ble_eq_true rfl⟩) (fun r3 H locs h4 hY => ?_)
        subst h4
        refine lv_iload hx hb dX1_billFor_35 (lv_at hl 3 rfl) ?_
        refine va_mmin hx hb (hC.2.2.1.trans hl.1.symm) hC.2.2.2.1 (hC.2.2.2.2 _ (by decide +kernel)) (hC.2.2.2.2 _ (by decide +kernel)) (hC.2.2.2.2 _ (by decide +kernel)) (hC.2.2.2.2 _ (by decide +kernel)) (Nat.le_of_ble_eq_true rfl) (Nat.le_of_ble_eq_true rfl) (Nat.le_of_ble_eq_true rfl) (Nat.le_of_ble_eq_true rfl) dX1_billFor_37 ?_
        refine lv_istore (lv' := [(7, .int (if ((p0 * 30) + 30) < (ntF σ k x3) then ((p0 * 30) + 30) else (ntF σ k x3))), (6, .int x6), (3, .int x3), (5, .int x5), (4, .int ((p0 * 30) + 30)), (0, .ref (ad 0)), (1, .ref (ad (3 * k + 9)))]) hx hb dX1_billFor_40 hl (by decide) rfl (fun ls hl => ?_)
        refine lv_iload hx hb dX1_billFor_42 (lv_at hl 3 rfl) ?_
        refine lv_iload hx hb dX1_billFor_44 (lv_at hl 0 rfl) ?_
        refine lv_iload_n hx hb dX1_billFor_46 rfl (lv_at hl 2 rfl) ?_
        refine lv_isub hx hb dX1_billFor_47 ?_
        refine lv_aload_n hx hb dX1_billFor_48 rfl (lv_at hl 5 rfl) ?_
        refine lv_aload_n hx hb dX1_billFor_49 rfl (lv_at hl 6 rfl) ?_
        refine lv_iload_n hx hb dX1_billFor_50 rfl (lv_at hl 2 rfl) ?_
        refine g_calli hY (g_runV (n := 2) (q := (RX1, TX1, 5)) (r := 0) hC (c_X1_rentFor l G ad σ n τ k hk x3 hL (by omega)) gX1_billFor_X1_rentFor rfl ⟨rfl, rfl⟩ (by decide +kernel) ⟨Nat.le_of_ble_eq_true rfl, Nat.le_of_ble_eq_true rfl⟩ hY (by omega) rfl (ci := 1) rfl rfl hl.1 rfl (Nat.le_of_ble_eq_true rfl) dX1_billFor_51 ⟨Nat.le_of_ble_eq_true rfl, Nat.le_of_ble_eq_true rfl⟩) (fun r5 H locs h6 hY => ?_)
        subst h6
        refine lv_imul hx hb dX1_billFor_54 ?_
        refine lv_iadd hx hb dX1_billFor_55 ?_
        refine lv_istore (lv' := [(5, .int (x5 + (((if ((p0 * 30) + 30) < (ntF σ k x3) then ((p0 * 30) + 30) else (ntF σ k x3)) - x3) * (rfF σ k x3)))), (7, .int (if ((p0 * 30) + 30) < (ntF σ k x3) then ((p0 * 30) + 30) else (ntF σ k x3))), (6, .int x6), (3, .int x3), (4, .int ((p0 * 30) + 30)), (0, .ref (ad 0)), (1, .ref (ad (3 * k + 9)))]) hx hb dX1_billFor_56 hl (by decide) rfl (fun ls hl => ?_)
        refine lv_iload hx hb dX1_billFor_58 (lv_at hl 1 rfl) ?_
        refine lv_istore_n (lv' := [(3, .int (if ((p0 * 30) + 30) < (ntF σ k x3) then ((p0 * 30) + 30) else (ntF σ k x3))), (5, .int (x5 + (((if ((p0 * 30) + 30) < (ntF σ k x3) then ((p0 * 30) + 30) else (ntF σ k x3)) - x3) * (rfF σ k x3)))), (7, .int (if ((p0 * 30) + 30) < (ntF σ k x3) then ((p0 * 30) + 30) else (ntF σ k x3))), (6, .int x6), (4, .int ((p0 * 30) + 30)), (0, .ref (ad 0)), (1, .ref (ad (3 * k + 9)))]) hx hb dX1_billFor_60 rfl hl (by decide) rfl (fun ls hl => ?_)
        refine lv_iinc (v := x6 + 1) (lv' := [(6, .int (x6 + 1)), (3, .int (if ((p0 * 30) + 30) < (ntF σ k x3) then ((p0 * 30) + 30) else (ntF σ k x3))), (5, .int (x5 + (((if ((p0 * 30) + 30) < (ntF σ k x3) then ((p0 * 30) + 30) else (ntF σ k x3)) - x3) * (rfF σ k x3)))), (7, .int (if ((p0 * 30) + 30) < (ntF σ k x3) then ((p0 * 30) + 30) else (ntF σ k x3))), (4, .int ((p0 * 30) + 30)), (0, .ref (ad 0)), (1, .ref (ad (3 * k + 9)))]) hx hb dX1_billFor_61 hl (k := 3) rfl rfl (by decide) rfl (fun ls hl => ?_)
        refine lv_goto (tgt := 17) hx hb dX1_billFor_64 (by decide) ?_
        have he3 : (bfP σ k p0 i).1 = x3 := by rw [e]
        exact ih (x6 + 1, (if ((p0 * 30) + 30) < (ntF σ k x3) then ((p0 * 30) + 30) else (ntF σ k x3)), x5 + (((if ((p0 * 30) + 30) < (ntF σ k x3) then ((p0 * 30) + 30) else (ntF σ k x3)) - x3) * (rfF σ k x3))) _ _ _ ⟨⟨by rw [i_add (by have : (1 : Int32).toInt = 1 := rfl; omega)]; have : (1 : Int32).toInt = 1 := rfl; omega, by omega, by rw [bfP, e]; exact if_pos h2, by have h7 : _ ≤ (p0 * 30 + 30).toInt := i_mnF (x := ntF σ k x3) (y := p0 * 30 + 30); exact h7⟩, hY, lv_sub hl [0, 1, 2, 4, 5, 6] rfl⟩
  · intro i x H locs ls hI
    obtain ⟨x6, x3, x5⟩ := x
    obtain ⟨hI, -, -⟩ := hI
    obtain ⟨h0, h9, e, h8⟩ := hI
    omega

theorem l_bmod {z : Int} (h : -9223372036854775808 ≤ z ∧ z < 9223372036854775808) : z.bmod (2 ^ 64) = z := Int.bmod_eq_of_le (by omega) (by omega)
theorem l_ne0 {x : Int32} (h : ¬ x.toInt = 0) : ¬ x.toInt64 * 360 = 0 := by
  intro q
  have h1 := congrArg Int64.toInt q
  have h2 := i_bnd x
  rw [Int64.toInt_mul, Int32.toInt_toInt64, show (360 : Int64).toInt = 360 from rfl, show (0 : Int64).toInt = 0 from rfl, l_bmod (by omega)] at h1
  omega
theorem l_ne {x : Int32} (h : 0 < x.toInt) : ¬ x.toInt64 * 360 = 0 := l_ne0 (by omega)
def ptF (σ : St) (k : Nat) (y c : Int32) : Int32 := if 0 < (aaP σ 6).toInt then (if (σ 9 k).toInt = -1 then (c.toInt64 * (vaF (σ 0) 6 (σ 3 k)).toInt64 * (diF σ k y).toInt64 / ((aaP σ 6).toInt64 * 360)).toInt32 else mnF (c.toInt64 * (vaF (σ 0) 6 (σ 3 k)).toInt64 * (diF σ k y).toInt64 / ((aaP σ 6).toInt64 * 360)).toInt32 (σ 9 k * diF σ k y / 360)) else 0
set_option maxHeartbeats 4000000 in
set_option maxRecDepth 100000 in
theorem c_X1_partOf (l : Launch) (G : GG) (ad : Nat → Nat) (σ : St) (n : Nat) (τ : St) (k : Nat) (hk : k < n) (p0 p1 : Int32)  : Met l yX1_partOf wsX1_partOf ({ frames := 3, cells := 0, slots := 0, locals := 90 }) (PcS G ad σ n τ [.ref (ad 0), .ref (ad (3 * k + 9)), .int p0, .int p1]) (Qi G (3 * n + 9) ad (ctS G ad σ n τ) (fun r => r = ptF σ k p0 p1)) 0 0 (gF G) := by
  refine Met.ofW (cc := cX1_partOf) (maxL := 8) (ret := (some .int)) (by decide) rfl ?_
  intro p e s m args below meth c s₁ B hml hv
  obtain ⟨rfl, hY⟩ := hv
  have hts := atoms_spec (ws := wsX1_partOf) B.pre
  have hC : CallFix p m c cX1_partOf 8 s _ wsX1_partOf RX1 := ⟨B.exec, B.bytes, hml, findClass_of_methodNamed B.named, hts⟩
  have hx := hC.1
  have hb := hC.2.1
  have hr := B.returns
  have hlocks := B.notSynchronized
  have hin0 : ∀ w ∈ wsX00, w ∈ wsX1_partOf := by decide +kernel
  have hin1 : ∀ w ∈ wsX10, w ∈ wsX1_partOf := by decide +kernel
  have hl := lv_entry ([.ref (ad 0), .ref (ad (3 * k + 9)), .int p0, .int p1]) (n := 8) (Nat.le_of_ble_eq_true rfl)
  rw [lg_entry_eq]
  generalize (lg_sl ([.ref (ad 0), .ref (ad (3 * k + 9)), .int p0, .int p1]) ++ List.replicate (8 - (lg_sl ([.ref (ad 0), .ref (ad (3 * k + 9)), .int p0, .int p1])).length) Slot.unset).toArray = ls at hl ⊢
  have hl : lv_has ls 8 [(0, .ref (ad 0)), (1, .ref (ad (3 * k + 9))), (2, .int p0), (3, .int p1)] := hl
  refine lv_aload_n hx hb dX1_partOf_0 rfl (lv_at hl 0 rfl) ?_
  refine g_calli hY (g_runV (n := 0) (q := (RX1, TX1, 5)) (r := 0) hC (c_X1_allAreas l G ad σ n τ) gX1_partOf_X1_allAreas rfl ⟨rfl, rfl⟩ (by decide +kernel) ⟨Nat.le_of_ble_eq_true rfl, Nat.le_of_ble_eq_true rfl⟩ hY (by omega) rfl (ci := 1) rfl rfl hl.1 rfl (Nat.le_of_ble_eq_true rfl) dX1_partOf_1 ⟨Nat.le_of_ble_eq_true rfl, Nat.le_of_ble_eq_true rfl⟩) (fun r1 H locs h2 hY => ?_)
  subst h2
  refine lv_istore (lv' := [(4, .int (aaP σ 6)), (0, .ref (ad 0)), (1, .ref (ad (3 * k + 9))), (2, .int p0), (3, .int p1)]) hx hb dX1_partOf_4 hl (by decide) rfl (fun ls hl => ?_)
  refine lv_iload hx hb dX1_partOf_6 (lv_at hl 0 rfl) ?_
  refine b_if_gt (tgt := 13) hx hb dX1_partOf_8 (by decide) (fun (h3 : 0 < (aaP σ 6).toInt) => ?_) (fun (h3 : (aaP σ 6).toInt ≤ 0) => ?_)
  · refine lv_aload_n hx hb dX1_partOf_13 rfl (lv_at hl 2 rfl) ?_
    refine lv_iload_n hx hb dX1_partOf_14 rfl (lv_at hl 3 rfl) ?_
    refine g_calli hY (g_runV (n := 1) (q := (RX0, TX0, 12)) (r := 3 * k + 9) hC (c_X0_daysIn l G ad σ n τ k hk p0) gX1_partOf_X0_daysIn rfl ⟨rfl, rfl⟩ (by decide +kernel) ⟨Nat.le_of_ble_eq_true rfl, Nat.le_of_ble_eq_true rfl⟩ hY (r_lt hk) (ct_L k) (ci := 0) rfl rfl hl.1 rfl (Nat.le_of_ble_eq_true rfl) dX1_partOf_15 ⟨Nat.le_of_ble_eq_true rfl, Nat.le_of_ble_eq_true rfl⟩) (fun r4 H locs h5 hY => ?_)
    subst h5
    refine lv_istore (lv' := [(5, .int (diF σ k p0)), (4, .int (aaP σ 6)), (0, .ref (ad 0)), (1, .ref (ad (3 * k + 9))), (2, .int p0), (3, .int p1)]) hx hb dX1_partOf_18 hl (by decide) rfl (fun ls hl => ?_)
    refine lv_iload_n hx hb dX1_partOf_20 rfl (lv_at hl 5 rfl) ?_
    refine lv_i2l hx hb dX1_partOf_21 rfl ?_
    refine lv_aload_n hx hb dX1_partOf_22 rfl (lv_at hl 2 rfl) ?_
    refine gtV_areas hC hin1 hY (by decide +kernel) dX1_partOf_23 ?_
    refine lv_aload_n hx hb dX1_partOf_26 rfl (lv_at hl 3 rfl) ?_
    refine gtN_unit hC hin0 hY (k := k) hk (by decide) dX1_partOf_27 ?_
    refine g_calli hY (g_runS (n := 2) hC (c_X1_valueAtA l G ad σ n τ (σ 3 k)) gX1_partOf_X1_valueAt rfl ⟨rfl, rfl⟩ (by decide +kernel) ⟨Nat.le_of_ble_eq_true rfl, Nat.le_of_ble_eq_true rfl⟩ hY rfl hl.1 rfl (Nat.le_of_ble_eq_true rfl) dX1_partOf_30 ⟨Nat.le_of_ble_eq_true rfl, Nat.le_of_ble_eq_true rfl⟩) (fun r6 H locs h7 hY => ?_)
    subst h7
    refine lv_i2l hx hb dX1_partOf_33 rfl ?_
    refine lv_lmul hx hb dX1_partOf_34 ?_
    refine lv_iload hx hb dX1_partOf_35 (lv_at hl 0 rfl) ?_
    refine lv_i2l hx hb dX1_partOf_37 rfl ?_
    refine lv_lmul hx hb dX1_partOf_38 ?_
    refine lv_iload hx hb dX1_partOf_39 (lv_at hl 1 rfl) ?_
    refine lv_i2l hx hb dX1_partOf_41 rfl ?_
    refine lv_ldc2 (v := 360) hx hb hC.2.2.2.1 (hC.2.2.2.2 _ (by decide +kernel)) dX1_partOf_42 ?_
    refine lv_lmul hx hb dX1_partOf_45 ?_
    refine lv_ldiv hx hb dX1_partOf_46 (l_ne h3) ?_
    refine lv_lstore (lv' := [(6, .long (((p1.toInt64 * ((vaF (σ 0) 6 (σ 3 k)).toInt64)) * ((diF σ k p0).toInt64)) / (((aaP σ 6).toInt64) * 360))), (5, .int (diF σ k p0)), (4, .int (aaP σ 6)), (0, .ref (ad 0)), (1, .ref (ad (3 * k + 9))), (2, .int p0), (3, .int p1)]) hx hb dX1_partOf_47 hl (by decide) rfl (fun ls hl => ?_)
    refine lv_aload_n hx hb dX1_partOf_49 rfl (lv_at hl 4 rfl) ?_
    refine gtN_cap hC hin0 hY (k := k) hk (by decide) dX1_partOf_50 ?_
    refine lv_iconst (v := (-1)) hx hb dX1_partOf_53 (by decide) ?_
    refine b_icmp_ne (tgt := 61) hx hb dX1_partOf_54 (by decide) (fun (h8 : ¬ (σ 9 k).toInt = (-1)) => ?_) (fun (h8 : (σ 9 k).toInt = (-1)) => ?_)
    · refine lv_lload hx hb dX1_partOf_61 (lv_at hl 0 rfl) ?_
      refine lv_l2i hx hb dX1_partOf_63 rfl ?_
      refine lv_aload_n hx hb dX1_partOf_64 rfl (lv_at hl 4 rfl) ?_
      refine gtN_cap hC hin0 hY (k := k) hk (by decide) dX1_partOf_65 ?_
      refine lv_iload hx hb dX1_partOf_68 (lv_at hl 1 rfl) ?_
      refine lv_imul hx hb dX1_partOf_70 ?_
      refine lv_sipush (v := 360) hx hb dX1_partOf_71 (by decide) ?_
      refine lv_idiv hx hb dX1_partOf_74 (by decide) ?_
      refine va_mmin hx hb (hC.2.2.1.trans hl.1.symm) hC.2.2.2.1 (hC.2.2.2.2 _ (by decide +kernel)) (hC.2.2.2.2 _ (by decide +kernel)) (hC.2.2.2.2 _ (by decide +kernel)) (hC.2.2.2.2 _ (by decide +kernel)) (Nat.le_of_ble_eq_true rfl) (Nat.le_of_ble_eq_true rfl) (Nat.le_of_ble_eq_true rfl) (Nat.le_of_ble_eq_true rfl) dX1_partOf_75 ?_
      exact g_iret hC hr hlocks hY ⟨Nat.le_of_ble_eq_true rfl, Nat.le_of_ble_eq_true rfl⟩ dX1_partOf_78 (by unfold ptF; rw [if_pos (c := 0 < _) h3, if_neg h8]; rfl)
    · refine lv_lload hx hb dX1_partOf_57 (lv_at hl 0 rfl) ?_
      refine lv_l2i hx hb dX1_partOf_59 rfl ?_
      exact g_iret hC hr hlocks hY ⟨Nat.le_of_ble_eq_true rfl, Nat.le_of_ble_eq_true rfl⟩ dX1_partOf_60 (by unfold ptF; rw [if_pos (c := 0 < _) h3, if_pos h8])
  · refine lv_iconst (v := 0) hx hb dX1_partOf_11 (by decide) ?_
    exact g_iret hC hr hlocks hY ⟨Nat.le_of_ble_eq_true rfl, Nat.le_of_ble_eq_true rfl⟩ dX1_partOf_12 ((if_neg (by omega)).symm)

set_option maxHeartbeats 4000000 in
set_option maxRecDepth 100000 in
theorem c_X1_leases (l : Launch) (G : GG) (ad : Nat → Nat) (σ : St) (n : Nat) (τ : St)  : Met l yX1_leases wsX1_leases ({ frames := 0, cells := 0, slots := 0, locals := 0 }) (PcS G ad σ n τ [.ref (ad 0)]) (Qi G (3 * n + 9) ad (ctS G ad σ n τ) (fun r => r = nI n)) 0 0 (gF G) := by
  refine Met.ofW (cc := cX1_leases) (maxL := 1) (ret := (some .int)) (by decide) rfl ?_
  intro p e s m args below meth c s₁ B hml hv
  obtain ⟨rfl, hY⟩ := hv
  have hts := atoms_spec (ws := wsX1_leases) B.pre
  have hC : CallFix p m c cX1_leases 1 s _ wsX1_leases RX1 := ⟨B.exec, B.bytes, hml, findClass_of_methodNamed B.named, hts⟩
  have hx := hC.1
  have hb := hC.2.1
  have hr := B.returns
  have hlocks := B.notSynchronized
  have hin1 : ∀ w ∈ wsX10, w ∈ wsX1_leases := by decide +kernel
  have hl := lv_entry ([.ref (ad 0)]) (n := 1) (Nat.le_of_ble_eq_true rfl)
  rw [lg_entry_eq]
  generalize (lg_sl ([.ref (ad 0)]) ++ List.replicate (1 - (lg_sl ([.ref (ad 0)])).length) Slot.unset).toArray = ls at hl ⊢
  have hl : lv_has ls 1 [(0, .ref (ad 0))] := hl
  refine lv_aload_n hx hb dX1_leases_0 rfl (lv_at hl 0 rfl) ?_
  refine gtV_count hC hin1 hY (by decide +kernel) dX1_leases_1 ?_
  exact g_iret hC hr hlocks hY ⟨Nat.le_of_ble_eq_true rfl, Nat.le_of_ble_eq_true rfl⟩ dX1_leases_4 (rfl)


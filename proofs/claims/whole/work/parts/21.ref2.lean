/-! the reference's rents and shares -/
theorem ok_ix {σ : St} {k : Nat} (h : okL σ k) : 0 ≤ (σ 4 k / 30).toInt ∧ (σ 4 k / 30).toInt < 240 := by
  obtain ⟨-, ⟨h1, h2, h3⟩, -⟩ := h
  have h30 : (30 : Int32).toInt = 30 := rfl
  rw [i_div (by rw [h30]; decide), h30, Int.tdiv_eq_ediv_of_nonneg h1]
  omega
theorem d30 {x : Int32} (h1 : 0 ≤ x.toInt) (h2 : x.toInt < 7200) : 0 ≤ (x / 30).toInt ∧ (x / 30).toInt < 240 := by
  have h30 : (30 : Int32).toInt = 30 := rfl
  rw [i_div (by rw [h30]; decide), h30, Int.tdiv_eq_ediv_of_nonneg h1]
  omega
theorem ix_ne {f : Nat → Int32} {x : Int32} (hX : ∀ i, i < 240 → 10 ≤ (f i).toInt) (h : 0 ≤ x.toInt ∧ x.toInt < 240) : ¬ f (ix x) = 0 := by
  intro q
  have h1 := hX (ix x) (ix_lt (N := 240) h)
  rw [q] at h1
  exact absurd h1 (by decide)
def giP (σ : St) (k : Nat) : Nat → Int32
  | 0 => 0
  | i + 1 => mxF (giP σ k i) (σ 1 (ix ((σ 4 k + nI (i + 1) * σ 8 k) / 30)))
def gmF (σ : St) (k : Nat) (d : Int32) : Int32 := giP σ k (rvF σ k d).toInt.toNat
theorem rv_eq {σ : St} {k i : Nat} {d : Int32} (h : okL σ k) (hd : d.toInt < 7200) (hx : (σ 8 k).toInt ≤ 0 ∧ i = 0 ∨ (0 < (σ 8 k).toInt ∧ d.toInt < (σ 4 k).toInt + ((i : Int) + 1) * (σ 8 k).toInt ∧ (i = 0 ∨ (σ 4 k).toInt + (i : Int) * (σ 8 k).toInt ≤ d.toInt))) : (rvF σ k d).toInt.toNat = i := by
  obtain ⟨-, ⟨h1, h2, h3⟩, -, -, -⟩ := h
  unfold rvF
  rcases hx with ⟨h4, rfl⟩ | ⟨h4, h5, h6⟩
  · rw [if_neg (by omega)]; rfl
  · by_cases h7 : (σ 4 k).toInt < d.toInt
    · rw [if_pos ⟨h4, h7⟩, i_div (by omega), i_sub (by omega), Int.tdiv_eq_ediv_of_nonneg (by omega)]
      have h8 : (d.toInt - (σ 4 k).toInt) / (σ 8 k).toInt < (i : Int) + 1 := Int.ediv_lt_of_lt_mul h4 (by omega)
      have h9 : (i : Int) ≤ (d.toInt - (σ 4 k).toInt) / (σ 8 k).toInt := by
        rcases h6 with rfl | h6
        · exact Int.ediv_nonneg (by omega) (by omega)
        · exact Int.le_ediv_of_mul_le h4 (by omega)
      omega
    · rw [if_neg (by omega)]
      rcases h6 with rfl | h6
      · rfl
      · have h10 : 0 ≤ (i : Int) * (σ 8 k).toInt := Int.mul_nonneg (by omega) (by omega)
        have h11 : i = 0 := by
          by_cases hz : i = 0
          · exact hz
          · have : 1 * (σ 8 k).toInt ≤ (i : Int) * (σ 8 k).toInt := Int.mul_le_mul_of_nonneg_right (by omega) (by omega)
            omega
        rw [h11]; rfl
theorem gi_bnd {i : Nat} {e f d : Int} (h6 : i = 0 ∨ f + (i : Int) * e ≤ d) (h7 : i = 0 ∨ 0 < e) (he : e = 0 ∨ (30 ≤ e ∧ e ≤ 1800)) (hf : 0 ≤ f) (hd : d < 7200) : i ≤ 7300 := by
  rcases h7 with rfl | h7
  · exact Nat.zero_le _
  · rcases h6 with rfl | h6
    · exact Nat.zero_le _
    · have h8 : (i : Int) * 30 ≤ (i : Int) * e := Int.mul_le_mul_of_nonneg_left (by omega) (by omega)
      omega
theorem nI_mul1 {f e : Int32} {i : Nat} : f + nI (i + 1) * e + e = f + nI (i + 1 + 1) * e := by
  rw [Int32.add_assoc]
  congr 1
  rw [← nI_1 (i + 1), Int32.add_mul, Int32.one_mul]
set_option maxHeartbeats 4000000 in
set_option maxRecDepth 100000 in
theorem c_X2_greatestIndex (l : Launch) (G : GG) (ad : Nat → Nat) (σ : St) (n : Nat) (τ : St) (j : Nat) (th : Int32) (o : OL) (od : OD) (hj : j ≤ 24) (hI : ∀ k, k < j → okL τ k) (p0 p1 : Int32) (hd : p1.toInt < 7200) (h0 : 0 ≤ p0.toInt ∧ p0.toInt < (j : Int))  : Met l yX2_greatestIndex wsX2_greatestIndex ({ frames := 0, cells := 0, slots := 0, locals := 0 }) (PcS G ad σ n τ j th o od [.ref (ad 5), .int p0, .int p1]) (Qi G (3 * n + 23) ad (ctS G ad σ n τ j th o od) (fun r => r = gmF τ (ix p0) p1)) 0 0 (gF G) := by
  refine Met.ofW (cc := cX2_greatestIndex) (maxL := 6) (ret := (some .int)) (by decide) rfl ?_
  intro p e s m args below meth c s₁ B hml hv
  obtain ⟨rfl, hY⟩ := hv
  have hts := atoms_spec (ws := wsX2_greatestIndex) B.pre
  have hC : CallFix p m c cX2_greatestIndex 6 s _ wsX2_greatestIndex RX2 := ⟨B.exec, B.bytes, hml, findClass_of_methodNamed B.named, hts⟩
  have hx := hC.1
  have hb := hC.2.1
  have hr := B.returns
  have hlocks := B.notSynchronized
  have hin2 : ∀ w ∈ wsX20, w ∈ wsX2_greatestIndex := by decide +kernel
  have hl := lv_entry ([.ref (ad 5), .int p0, .int p1]) (n := 6) (Nat.le_of_ble_eq_true rfl)
  rw [lg_entry_eq]
  generalize (lg_sl ([.ref (ad 5), .int p0, .int p1]) ++ List.replicate (6 - (lg_sl ([.ref (ad 5), .int p0, .int p1])).length) Slot.unset).toArray = ls at hl ⊢
  have hl : lv_has ls 6 [(0, .ref (ad 5)), (1, .int p0), (2, .int p1)] := hl
  have hnj : (nI j).toInt = (j : Int) := i_nI (by omega)
  have hpk : p0.toInt = (ix p0 : Int) := (ix_toInt h0.1).symm
  have hkj : ix p0 < j := ix_lt h0
  have hsx := okL_s (hI _ hkj)
  have hs1 := hsx.1
  have hs2 := hsx.2
  have hok := hI _ hkj
  have hokc := hok
  obtain ⟨-, ⟨hf1, hf2, hf3⟩, -, hfr, hev, -⟩ := hokc
  refine lv_iconst (v := 0) hx hb dX2_greatestIndex_0 (by decide) ?_
  refine lv_istore_n (lv' := [(3, .int 0), (0, .ref (ad 5)), (1, .int p0), (2, .int p1)]) hx hb dX2_greatestIndex_1 rfl hl (by decide) rfl (fun ls hl => ?_)
  refine lv_aload_n hx hb dX2_greatestIndex_2 rfl (lv_at hl 1 rfl) ?_
  refine gtM_froms hC hin2 hY (by decide +kernel) dX2_greatestIndex_3 ?_
  refine lv_iload_n hx hb dX2_greatestIndex_6 rfl (lv_at hl 2 rfl) ?_
  refine rdM4 hC hY ⟨by omega, by omega⟩ dX2_greatestIndex_7 ?_
  refine lv_aload_n hx hb dX2_greatestIndex_8 rfl (lv_at hl 1 rfl) ?_
  refine gtM_everies hC hin2 hY (by decide +kernel) dX2_greatestIndex_9 ?_
  refine lv_iload_n hx hb dX2_greatestIndex_12 rfl (lv_at hl 2 rfl) ?_
  refine rdM8 hC hY ⟨by omega, by omega⟩ dX2_greatestIndex_13 ?_
  refine lv_iadd hx hb dX2_greatestIndex_14 ?_
  refine lv_istore (lv' := [(4, .int ((τ 4 (ix p0)) + (τ 8 (ix p0)))), (3, .int 0), (0, .ref (ad 5)), (1, .int p0), (2, .int p1)]) hx hb dX2_greatestIndex_15 hl (by decide) rfl (fun ls hl => ?_)
  refine w_loop (X := Int32 × Int32) (fun i x H locs ls => match x with | (x4, x3) => (x4 = τ 4 (ix p0) + nI (i + 1) * τ 8 (ix p0) ∧ x4.toInt = (τ 4 (ix p0)).toInt + ((i : Int) + 1) * (τ 8 (ix p0)).toInt ∧ x3 = giP τ (ix p0) i ∧ (i = 0 ∨ (τ 4 (ix p0)).toInt + (i : Int) * (τ 8 (ix p0)).toInt ≤ p1.toInt) ∧ (i = 0 ∨ 0 < (τ 8 (ix p0)).toInt)) ∧ SyS G ad σ n τ j th o od s H locs ∧ lv_has ls 6 [(4, .int x4), (3, .int x3), (0, .ref (ad 5)), (1, .int p0), (2, .int p1)]) (7300) ?_ ?_ (((τ 4 (ix p0)) + (τ 8 (ix p0)), 0)) ⟨⟨by rw [show nI (0 + 1) = 1 from rfl, Int32.one_mul], by rw [i_add (by omega)]; show _ = _ + ((0 : Int) + 1) * _; omega, rfl, Or.inl rfl, Or.inl rfl⟩, hY, lv_sub hl [0, 1, 2, 3, 4] rfl⟩
  · intro i x H locs ls hI ih
    obtain ⟨x4, x3⟩ := x
    obtain ⟨hI, hY, hl⟩ := hI
    obtain ⟨e4, e5, e3, h6, h7⟩ := hI
    refine lv_iload hx hb dX2_greatestIndex_17 (lv_at hl 0 rfl) ?_
    refine lv_iload_n hx hb dX2_greatestIndex_19 rfl (lv_at hl 4 rfl) ?_
    refine b_icmp_gt (tgt := 71) hx hb dX2_greatestIndex_20 (by decide) (fun (h1 : p1.toInt < x4.toInt) => ?_) (fun (h1 : x4.toInt ≤ p1.toInt) => ?_)
    · refine lv_iload_n hx hb dX2_greatestIndex_71 rfl (lv_at hl 1 rfl) ?_
      have hR : (rvF τ (ix p0) p1).toInt.toNat = i := by
        by_cases hz : 0 < (τ 8 (ix p0)).toInt
        · exact rv_eq hok hd (Or.inr ⟨hz, by rw [e5] at h1; exact h1, h6⟩)
        · exact rv_eq hok hd (Or.inl ⟨by omega, by omega⟩)
      exact g_iret hC hr hlocks hY ⟨Nat.le_of_ble_eq_true rfl, Nat.le_of_ble_eq_true rfl⟩ dX2_greatestIndex_72 (by unfold gmF; rw [hR, e3])
    · refine lv_aload_n hx hb dX2_greatestIndex_23 rfl (lv_at hl 2 rfl) ?_
      refine gtM_everies hC hin2 hY (by decide +kernel) dX2_greatestIndex_24 ?_
      refine lv_iload_n hx hb dX2_greatestIndex_27 rfl (lv_at hl 3 rfl) ?_
      refine rdM8 hC hY ⟨by omega, by omega⟩ dX2_greatestIndex_28 ?_
      refine b_if_le (tgt := 71) hx hb dX2_greatestIndex_29 (by decide) (fun (h2 : (τ 8 (ix p0)).toInt ≤ 0) => ?_) (fun (h2 : 0 < (τ 8 (ix p0)).toInt) => ?_)
      · refine lv_iload_n hx hb dX2_greatestIndex_71 rfl (lv_at hl 1 rfl) ?_
        have hi0 : i = 0 := by omega
        exact g_iret hC hr hlocks hY ⟨Nat.le_of_ble_eq_true rfl, Nat.le_of_ble_eq_true rfl⟩ dX2_greatestIndex_72 (by unfold gmF; rw [rv_eq hok hd (Or.inl ⟨h2, hi0⟩), e3])
      · refine lv_aload_n hx hb dX2_greatestIndex_32 rfl (lv_at hl 2 rfl) ?_
        refine gtM_indices hC hin2 hY (by decide +kernel) dX2_greatestIndex_33 ?_
        refine lv_iload hx hb dX2_greatestIndex_36 (lv_at hl 0 rfl) ?_
        refine lv_bipush (v := 30) hx hb dX2_greatestIndex_38 (by decide) ?_
        refine lv_idiv hx hb dX2_greatestIndex_40 (by decide) ?_
        refine rdM1 hC hY (d30 (by have : 0 ≤ ((i : Int) + 1) * (τ 8 (ix p0)).toInt := Int.mul_nonneg (by omega) (by omega); omega) (by omega)) dX2_greatestIndex_41 ?_
        refine lv_istore (lv' := [(5, .int (τ 1 (ix (x4 / 30)))), (4, .int x4), (3, .int x3), (0, .ref (ad 5)), (1, .int p0), (2, .int p1)]) hx hb dX2_greatestIndex_42 hl (by decide) rfl (fun ls hl => ?_)
        refine lv_iload hx hb dX2_greatestIndex_44 (lv_at hl 0 rfl) ?_
        refine lv_iload_n hx hb dX2_greatestIndex_46 rfl (lv_at hl 2 rfl) ?_
        refine b_icmp_le (tgt := 55) hx hb dX2_greatestIndex_47 (by decide) (fun (h3 : (τ 1 (ix (x4 / 30))).toInt ≤ x3.toInt) => ?_) (fun (h3 : x3.toInt < (τ 1 (ix (x4 / 30))).toInt) => ?_)
        · refine lv_iload_n hx hb dX2_greatestIndex_55 rfl (lv_at hl 2 rfl) ?_
          refine lv_istore_n (lv' := [(3, .int x3), (5, .int (τ 1 (ix (x4 / 30)))), (4, .int x4), (0, .ref (ad 5)), (1, .int p0), (2, .int p1)]) hx hb dX2_greatestIndex_56 rfl hl (by decide) rfl (fun ls hl => ?_)
          refine lv_iload hx hb dX2_greatestIndex_57 (lv_at hl 2 rfl) ?_
          refine lv_aload_n hx hb dX2_greatestIndex_59 rfl (lv_at hl 3 rfl) ?_
          refine gtM_everies hC hin2 hY (by decide +kernel) dX2_greatestIndex_60 ?_
          refine lv_iload_n hx hb dX2_greatestIndex_63 rfl (lv_at hl 4 rfl) ?_
          refine rdM8 hC hY ⟨by omega, by omega⟩ dX2_greatestIndex_64 ?_
          refine lv_iadd hx hb dX2_greatestIndex_65 ?_
          refine lv_istore (lv' := [(4, .int (x4 + (τ 8 (ix p0)))), (3, .int x3), (5, .int (τ 1 (ix (x4 / 30)))), (0, .ref (ad 5)), (1, .int p0), (2, .int p1)]) hx hb dX2_greatestIndex_66 hl (by decide) rfl (fun ls hl => ?_)
          refine lv_goto (tgt := 17) hx hb dX2_greatestIndex_68 (by decide) ?_
          have hnn : 0 ≤ ((i : Int) + 1) * (τ 8 (ix p0)).toInt := Int.mul_nonneg (by omega) (by omega)
          have hev8 : (x4 + τ 8 (ix p0)).toInt = x4.toInt + (τ 8 (ix p0)).toInt := i_add (by omega)
          have hml3 : ((i + 1 : Nat) : Int) * (τ 8 (ix p0)).toInt = (i : Int) * (τ 8 (ix p0)).toInt + (τ 8 (ix p0)).toInt := by rw [show ((i + 1 : Nat) : Int) = (i : Int) + 1 from rfl, Int.add_mul, Int.one_mul]
          exact ih (x4 + (τ 8 (ix p0)), x3) _ _ _ ⟨⟨by rw [e4]; exact nI_mul1, by show _ = _ + (((i + 1 : Nat) : Int) + 1) * _; rw [hev8, e5, Int.add_mul, Int.add_mul, hml3]; omega, by rw [giP, ← e3, ← e4]; exact (if_neg (by rw [Int32.lt_iff_toInt_lt]; omega)).symm, Or.inr (by rw [hml3]; rw [e5] at h1; rw [Int.add_mul] at h1; omega), by omega⟩, hY, lv_sub hl [0, 1, 3, 4, 5] rfl⟩
        · refine lv_iload hx hb dX2_greatestIndex_50 (lv_at hl 0 rfl) ?_
          refine lv_goto (tgt := 56) hx hb dX2_greatestIndex_52 (by decide) ?_
          refine lv_istore_n (lv' := [(3, .int (τ 1 (ix (x4 / 30)))), (5, .int (τ 1 (ix (x4 / 30)))), (4, .int x4), (0, .ref (ad 5)), (1, .int p0), (2, .int p1)]) hx hb dX2_greatestIndex_56 rfl hl (by decide) rfl (fun ls hl => ?_)
          refine lv_iload hx hb dX2_greatestIndex_57 (lv_at hl 2 rfl) ?_
          refine lv_aload_n hx hb dX2_greatestIndex_59 rfl (lv_at hl 3 rfl) ?_
          refine gtM_everies hC hin2 hY (by decide +kernel) dX2_greatestIndex_60 ?_
          refine lv_iload_n hx hb dX2_greatestIndex_63 rfl (lv_at hl 4 rfl) ?_
          refine rdM8 hC hY ⟨by omega, by omega⟩ dX2_greatestIndex_64 ?_
          refine lv_iadd hx hb dX2_greatestIndex_65 ?_
          refine lv_istore (lv' := [(4, .int (x4 + (τ 8 (ix p0)))), (3, .int (τ 1 (ix (x4 / 30)))), (5, .int (τ 1 (ix (x4 / 30)))), (0, .ref (ad 5)), (1, .int p0), (2, .int p1)]) hx hb dX2_greatestIndex_66 hl (by decide) rfl (fun ls hl => ?_)
          refine lv_goto (tgt := 17) hx hb dX2_greatestIndex_68 (by decide) ?_
          have hnn : 0 ≤ ((i : Int) + 1) * (τ 8 (ix p0)).toInt := Int.mul_nonneg (by omega) (by omega)
          have hev8 : (x4 + τ 8 (ix p0)).toInt = x4.toInt + (τ 8 (ix p0)).toInt := i_add (by omega)
          have hml3 : ((i + 1 : Nat) : Int) * (τ 8 (ix p0)).toInt = (i : Int) * (τ 8 (ix p0)).toInt + (τ 8 (ix p0)).toInt := by rw [show ((i + 1 : Nat) : Int) = (i : Int) + 1 from rfl, Int.add_mul, Int.one_mul]
          exact ih (x4 + (τ 8 (ix p0)), τ 1 (ix (x4 / 30))) _ _ _ ⟨⟨by rw [e4]; exact nI_mul1, by show _ = _ + (((i + 1 : Nat) : Int) + 1) * _; rw [hev8, e5, Int.add_mul, Int.add_mul, hml3]; omega, by rw [giP, ← e3, ← e4]; exact (if_pos (by rw [Int32.lt_iff_toInt_lt]; omega)).symm, Or.inr (by rw [hml3]; rw [e5] at h1; rw [Int.add_mul] at h1; omega), by omega⟩, hY, lv_sub hl [0, 1, 3, 4, 5] rfl⟩
  · intro i x H locs ls hI
    obtain ⟨x4, x3⟩ := x
    obtain ⟨hI, -, -⟩ := hI
    obtain ⟨e4, e5, e3, h6, h7⟩ := hI
    exact gi_bnd h6 h7 hev hf1 hd

set_option maxHeartbeats 4000000 in
set_option maxRecDepth 100000 in
theorem c_X2_isDayOf (l : Launch) (G : GG) (ad : Nat → Nat) (σ : St) (n : Nat) (τ : St) (j : Nat) (th : Int32) (o : OL) (od : OD) (hj : j ≤ 24) (p0 p1 : Int32) (h0 : 0 ≤ p0.toInt ∧ p0.toInt < (j : Int))  : Met l yX2_isDayOf wsX2_isDayOf ({ frames := 0, cells := 0, slots := 0, locals := 0 }) (PcS G ad σ n τ j th o od [.ref (ad 5), .int p0, .int p1]) (Qi G (3 * n + 23) ad (ctS G ad σ n τ j th o od) (fun r => (r = 1 ∧ (τ 4 (ix p0)).toInt ≤ p1.toInt ∧ p1.toInt < (τ 5 (ix p0)).toInt) ∨ (r = 0 ∧ ¬ ((τ 4 (ix p0)).toInt ≤ p1.toInt ∧ p1.toInt < (τ 5 (ix p0)).toInt)))) 0 0 (gF G) := by
  refine Met.ofW (cc := cX2_isDayOf) (maxL := 3) (ret := (some .boolean)) (by decide) rfl ?_
  intro p e s m args below meth c s₁ B hml hv
  obtain ⟨rfl, hY⟩ := hv
  have hts := atoms_spec (ws := wsX2_isDayOf) B.pre
  have hC : CallFix p m c cX2_isDayOf 3 s _ wsX2_isDayOf RX2 := ⟨B.exec, B.bytes, hml, findClass_of_methodNamed B.named, hts⟩
  have hx := hC.1
  have hb := hC.2.1
  have hr := B.returns
  have hlocks := B.notSynchronized
  have hin2 : ∀ w ∈ wsX20, w ∈ wsX2_isDayOf := by decide +kernel
  have hl := lv_entry ([.ref (ad 5), .int p0, .int p1]) (n := 3) (Nat.le_of_ble_eq_true rfl)
  rw [lg_entry_eq]
  generalize (lg_sl ([.ref (ad 5), .int p0, .int p1]) ++ List.replicate (3 - (lg_sl ([.ref (ad 5), .int p0, .int p1])).length) Slot.unset).toArray = ls at hl ⊢
  have hl : lv_has ls 3 [(0, .ref (ad 5)), (1, .int p0), (2, .int p1)] := hl
  refine lv_iload_n hx hb dX2_isDayOf_0 rfl (lv_at hl 2 rfl) ?_
  refine lv_aload_n hx hb dX2_isDayOf_1 rfl (lv_at hl 0 rfl) ?_
  refine gtM_froms hC hin2 hY (by decide +kernel) dX2_isDayOf_2 ?_
  refine lv_iload_n hx hb dX2_isDayOf_5 rfl (lv_at hl 1 rfl) ?_
  refine rdM4 hC hY ⟨by omega, by omega⟩ dX2_isDayOf_6 ?_
  refine b_icmp_lt (tgt := 24) hx hb dX2_isDayOf_7 (by decide) (fun (h1 : p1.toInt < (τ 4 (ix p0)).toInt) => ?_) (fun (h1 : (τ 4 (ix p0)).toInt ≤ p1.toInt) => ?_)
  · refine lv_iconst (v := 0) hx hb dX2_isDayOf_24 (by decide) ?_
    exact g_zret hC hr hlocks rfl hY ⟨Nat.le_of_ble_eq_true rfl, Nat.le_of_ble_eq_true rfl⟩ dX2_isDayOf_25 (Or.inr ⟨rfl, by omega⟩)
  · refine lv_iload_n hx hb dX2_isDayOf_10 rfl (lv_at hl 2 rfl) ?_
    refine lv_aload_n hx hb dX2_isDayOf_11 rfl (lv_at hl 0 rfl) ?_
    refine gtM_tos hC hin2 hY (by decide +kernel) dX2_isDayOf_12 ?_
    refine lv_iload_n hx hb dX2_isDayOf_15 rfl (lv_at hl 1 rfl) ?_
    refine rdM5 hC hY ⟨by omega, by omega⟩ dX2_isDayOf_16 ?_
    refine b_icmp_ge (tgt := 24) hx hb dX2_isDayOf_17 (by decide) (fun (h2 : (τ 5 (ix p0)).toInt ≤ p1.toInt) => ?_) (fun (h2 : p1.toInt < (τ 5 (ix p0)).toInt) => ?_)
    · refine lv_iconst (v := 0) hx hb dX2_isDayOf_24 (by decide) ?_
      exact g_zret hC hr hlocks rfl hY ⟨Nat.le_of_ble_eq_true rfl, Nat.le_of_ble_eq_true rfl⟩ dX2_isDayOf_25 (Or.inr ⟨rfl, by omega⟩)
    · refine lv_iconst (v := 1) hx hb dX2_isDayOf_20 (by decide) ?_
      refine lv_goto (tgt := 25) hx hb dX2_isDayOf_21 (by decide) ?_
      exact g_zret hC hr hlocks rfl hY ⟨Nat.le_of_ble_eq_true rfl, Nat.le_of_ble_eq_true rfl⟩ dX2_isDayOf_25 (Or.inl ⟨rfl, by omega, by omega⟩)

def rmF (σ : St) (k : Nat) (d : Int32) : Int32 := if rOn σ k d ∧ ¬ fOn σ k d then mxF (amF σ k d) (amF σ k d * gmF σ k d / σ 1 (ix (σ 4 k / 30))) else 0
set_option maxHeartbeats 4000000 in
set_option maxRecDepth 100000 in
theorem c_X2_rentAt (l : Launch) (G : GG) (ad : Nat → Nat) (σ : St) (n : Nat) (τ : St) (j : Nat) (th : Int32) (o : OL) (od : OD) (hj : j ≤ 24) (hI : ∀ k, k < j → okL τ k) (hX : ∀ i, i < 240 → 10 ≤ (τ 1 i).toInt) (p0 p1 : Int32) (h0 : 0 ≤ p0.toInt ∧ p0.toInt < (j : Int))  : Met l yX2_rentAt wsX2_rentAt ({ frames := 1, cells := 0, slots := 0, locals := 30 }) (PcS G ad σ n τ j th o od [.ref (ad 5), .int p0, .int p1]) (Qi G (3 * n + 23) ad (ctS G ad σ n τ j th o od) (fun r => r = rmF τ (ix p0) p1)) 0 0 (gF G) := by
  refine Met.ofW (cc := cX2_rentAt) (maxL := 5) (ret := (some .int)) (by decide) rfl ?_
  intro p e s m args below meth c s₁ B hml hv
  obtain ⟨rfl, hY⟩ := hv
  have hts := atoms_spec (ws := wsX2_rentAt) B.pre
  have hC : CallFix p m c cX2_rentAt 5 s _ wsX2_rentAt RX2 := ⟨B.exec, B.bytes, hml, findClass_of_methodNamed B.named, hts⟩
  have hx := hC.1
  have hb := hC.2.1
  have hr := B.returns
  have hlocks := B.notSynchronized
  have hin2 : ∀ w ∈ wsX20, w ∈ wsX2_rentAt := by decide +kernel
  have hl := lv_entry ([.ref (ad 5), .int p0, .int p1]) (n := 5) (Nat.le_of_ble_eq_true rfl)
  rw [lg_entry_eq]
  generalize (lg_sl ([.ref (ad 5), .int p0, .int p1]) ++ List.replicate (5 - (lg_sl ([.ref (ad 5), .int p0, .int p1])).length) Slot.unset).toArray = ls at hl ⊢
  have hl : lv_has ls 5 [(0, .ref (ad 5)), (1, .int p0), (2, .int p1)] := hl
  have hnj : (nI j).toInt = (j : Int) := i_nI (by omega)
  have hpk : p0.toInt = (ix p0 : Int) := (ix_toInt h0.1).symm
  have hkj : ix p0 < j := ix_lt h0
  have hsx := okL_s (hI _ hkj)
  have hs1 := hsx.1
  have hs2 := hsx.2
  have hok := hI _ hkj
  have hokc := hok
  obtain ⟨-, ⟨hf1, hf2, hf3⟩, -, hfr, hev, -⟩ := hokc
  refine lv_aload_n hx hb dX2_rentAt_0 rfl (lv_at hl 0 rfl) ?_
  refine lv_iload_n hx hb dX2_rentAt_1 rfl (lv_at hl 1 rfl) ?_
  refine lv_iload_n hx hb dX2_rentAt_2 rfl (lv_at hl 2 rfl) ?_
  refine g_calli hY (g_runV (n := 2) (q := (RX2, TX2, 17)) (r := 5) hC (c_X2_isDayOf l G ad σ n τ j th o od hj p0 p1 h0) gX2_rentAt_X2_isDayOf rfl ⟨rfl, rfl⟩ (by decide +kernel) ⟨Nat.le_of_ble_eq_true rfl, Nat.le_of_ble_eq_true rfl⟩ hY (by omega) rfl (ci := 2) rfl rfl hl.1 rfl (Nat.le_of_ble_eq_true rfl) dX2_rentAt_3 ⟨Nat.le_of_ble_eq_true rfl, Nat.le_of_ble_eq_true rfl⟩) (fun r1 H locs h2 hY => ?_)
  rcases h2 with ⟨rfl, h3⟩ | ⟨rfl, h3⟩
  · refine b_if_eq (tgt := 26) hx hb dX2_rentAt_6 (by decide) (fun h => absurd h (by decide)) (fun _ => ?_)
    refine lv_iload_n hx hb dX2_rentAt_9 rfl (lv_at hl 2 rfl) ?_
    refine lv_aload_n hx hb dX2_rentAt_10 rfl (lv_at hl 0 rfl) ?_
    refine gtM_froms hC hin2 hY (by decide +kernel) dX2_rentAt_11 ?_
    refine lv_iload_n hx hb dX2_rentAt_14 rfl (lv_at hl 1 rfl) ?_
    refine rdM4 hC hY ⟨by omega, by omega⟩ dX2_rentAt_15 ?_
    refine lv_aload_n hx hb dX2_rentAt_16 rfl (lv_at hl 0 rfl) ?_
    refine gtM_frees hC hin2 hY (by decide +kernel) dX2_rentAt_17 ?_
    refine lv_iload_n hx hb dX2_rentAt_20 rfl (lv_at hl 1 rfl) ?_
    refine rdM7 hC hY ⟨by omega, by omega⟩ dX2_rentAt_21 ?_
    refine lv_iadd hx hb dX2_rentAt_22 ?_
    refine b_icmp_ge (tgt := 28) hx hb dX2_rentAt_23 (by decide) (fun (h5 : ((τ 4 (ix p0)) + (τ 7 (ix p0))).toInt ≤ p1.toInt) => ?_) (fun (h5 : p1.toInt < ((τ 4 (ix p0)) + (τ 7 (ix p0))).toInt) => ?_)
    · refine lv_aload_n hx hb dX2_rentAt_28 rfl (lv_at hl 0 rfl) ?_
      refine lv_iload_n hx hb dX2_rentAt_29 rfl (lv_at hl 1 rfl) ?_
      refine lv_iload_n hx hb dX2_rentAt_30 rfl (lv_at hl 2 rfl) ?_
      refine g_calli hY (g_runV (n := 2) (q := (RX2, TX2, 17)) (r := 5) hC (c_X2_agreed l G ad σ n τ j th o od hj hI p0 p1 h0) gX2_rentAt_X2_agreed rfl ⟨rfl, rfl⟩ (by decide +kernel) ⟨Nat.le_of_ble_eq_true rfl, Nat.le_of_ble_eq_true rfl⟩ hY (by omega) rfl (ci := 2) rfl rfl hl.1 rfl (Nat.le_of_ble_eq_true rfl) dX2_rentAt_31 ⟨Nat.le_of_ble_eq_true rfl, Nat.le_of_ble_eq_true rfl⟩) (fun r6 H locs h7 hY => ?_)
      subst h7
      refine lv_istore_n (lv' := [(3, .int (amF τ (ix p0) p1)), (0, .ref (ad 5)), (1, .int p0), (2, .int p1)]) hx hb dX2_rentAt_34 rfl hl (by decide) rfl (fun ls hl => ?_)
      refine lv_iload_n hx hb dX2_rentAt_35 rfl (lv_at hl 0 rfl) ?_
      refine lv_aload_n hx hb dX2_rentAt_36 rfl (lv_at hl 1 rfl) ?_
      refine lv_iload_n hx hb dX2_rentAt_37 rfl (lv_at hl 2 rfl) ?_
      refine lv_iload_n hx hb dX2_rentAt_38 rfl (lv_at hl 3 rfl) ?_
      refine g_calli hY (g_runV (n := 2) (q := (RX2, TX2, 17)) (r := 5) hC (c_X2_greatestIndex l G ad σ n τ j th o od hj hI p0 p1 (by omega) h0) gX2_rentAt_X2_greatestIndex rfl ⟨rfl, rfl⟩ (by decide +kernel) ⟨Nat.le_of_ble_eq_true rfl, Nat.le_of_ble_eq_true rfl⟩ hY (by omega) rfl (ci := 2) rfl rfl hl.1 rfl (Nat.le_of_ble_eq_true rfl) dX2_rentAt_39 ⟨Nat.le_of_ble_eq_true rfl, Nat.le_of_ble_eq_true rfl⟩) (fun r8 H locs h9 hY => ?_)
      subst h9
      refine lv_imul hx hb dX2_rentAt_42 ?_
      refine lv_aload_n hx hb dX2_rentAt_43 rfl (lv_at hl 1 rfl) ?_
      refine gtM_indices hC hin2 hY (by decide +kernel) dX2_rentAt_44 ?_
      refine lv_aload_n hx hb dX2_rentAt_47 rfl (lv_at hl 1 rfl) ?_
      refine gtM_froms hC hin2 hY (by decide +kernel) dX2_rentAt_48 ?_
      refine lv_iload_n hx hb dX2_rentAt_51 rfl (lv_at hl 2 rfl) ?_
      refine rdM4 hC hY ⟨by omega, by omega⟩ dX2_rentAt_52 ?_
      refine lv_bipush (v := 30) hx hb dX2_rentAt_53 (by decide) ?_
      refine lv_idiv hx hb dX2_rentAt_55 (by decide) ?_
      refine rdM1 hC hY (ok_ix hok) dX2_rentAt_56 ?_
      refine lv_idiv hx hb dX2_rentAt_57 (ix_ne hX (ok_ix hok)) ?_
      refine lv_istore (lv' := [(4, .int (((amF τ (ix p0) p1) * (gmF τ (ix p0) p1)) / (τ 1 (ix ((τ 4 (ix p0)) / 30))))), (3, .int (amF τ (ix p0) p1)), (0, .ref (ad 5)), (1, .int p0), (2, .int p1)]) hx hb dX2_rentAt_58 hl (by decide) rfl (fun ls hl => ?_)
      refine lv_iload hx hb dX2_rentAt_60 (lv_at hl 0 rfl) ?_
      refine lv_iload_n hx hb dX2_rentAt_62 rfl (lv_at hl 1 rfl) ?_
      refine b_icmp_le (tgt := 71) hx hb dX2_rentAt_63 (by decide) (fun (h10 : (((amF τ (ix p0) p1) * (gmF τ (ix p0) p1)) / (τ 1 (ix ((τ 4 (ix p0)) / 30)))).toInt ≤ (amF τ (ix p0) p1).toInt) => ?_) (fun (h10 : (amF τ (ix p0) p1).toInt < (((amF τ (ix p0) p1) * (gmF τ (ix p0) p1)) / (τ 1 (ix ((τ 4 (ix p0)) / 30)))).toInt) => ?_)
      · refine lv_iload_n hx hb dX2_rentAt_71 rfl (lv_at hl 1 rfl) ?_
        exact g_iret hC hr hlocks hY ⟨Nat.le_of_ble_eq_true rfl, Nat.le_of_ble_eq_true rfl⟩ dX2_rentAt_72 (by unfold rmF mxF; rw [if_pos (c := rOn τ (ix p0) p1 ∧ ¬ fOn τ (ix p0) p1) ⟨h3, by intro q; have q : p1.toInt < (τ 4 (ix p0) + τ 7 (ix p0)).toInt := q; omega⟩]; exact (if_neg (by rw [Int32.lt_iff_toInt_lt]; omega)).symm)
      · refine lv_iload hx hb dX2_rentAt_66 (lv_at hl 0 rfl) ?_
        refine lv_goto (tgt := 72) hx hb dX2_rentAt_68 (by decide) ?_
        exact g_iret hC hr hlocks hY ⟨Nat.le_of_ble_eq_true rfl, Nat.le_of_ble_eq_true rfl⟩ dX2_rentAt_72 (by unfold rmF mxF; rw [if_pos (c := rOn τ (ix p0) p1 ∧ ¬ fOn τ (ix p0) p1) ⟨h3, by intro q; have q : p1.toInt < (τ 4 (ix p0) + τ 7 (ix p0)).toInt := q; omega⟩]; exact (if_pos (by rw [Int32.lt_iff_toInt_lt]; omega)).symm)
    · refine lv_iconst (v := 0) hx hb dX2_rentAt_26 (by decide) ?_
      exact g_iret hC hr hlocks hY ⟨Nat.le_of_ble_eq_true rfl, Nat.le_of_ble_eq_true rfl⟩ dX2_rentAt_27 (by unfold rmF; rw [if_neg (c := rOn τ (ix p0) p1 ∧ ¬ fOn τ (ix p0) p1) (by intro q; obtain ⟨⟨q1, q2⟩, q3⟩ := q; have q3 : ¬ p1.toInt < (τ 4 (ix p0) + τ 7 (ix p0)).toInt := q3; omega)])
  · refine b_if_eq (tgt := 26) hx hb dX2_rentAt_6 (by decide) (fun _ => ?_) (fun h => absurd h (by decide))
    refine lv_iconst (v := 0) hx hb dX2_rentAt_26 (by decide) ?_
    exact g_iret hC hr hlocks hY ⟨Nat.le_of_ble_eq_true rfl, Nat.le_of_ble_eq_true rfl⟩ dX2_rentAt_27 (by unfold rmF; rw [if_neg (c := rOn τ (ix p0) p1 ∧ ¬ fOn τ (ix p0) p1) (by intro q; obtain ⟨⟨q1, q2⟩, q3⟩ := q; have q3 : ¬ p1.toInt < (τ 4 (ix p0) + τ 7 (ix p0)).toInt := q3; omega)])

def bmP (σ : St) (k : Nat) (m : Int32) : Nat → Int32
  | 0 => 0
  | i + 1 => bmP σ k m i + rmF σ k (30 * m + nI i)
abbrev bmF (σ : St) (k : Nat) (m : Int32) : Int32 := bmP σ k m 30 / 30
theorem i_mulc' {x : Int32} {c : Nat} (hx : 0 ≤ x.toInt ∧ x.toInt < 10000) (hc : c < 10000) : (nI c * x).toInt = c * x.toInt := by rw [Int32.mul_comm, i_mulc hx hc, Int.mul_comm]
set_option maxHeartbeats 4000000 in
set_option maxRecDepth 100000 in
theorem c_X2_billOf (l : Launch) (G : GG) (ad : Nat → Nat) (σ : St) (n : Nat) (τ : St) (j : Nat) (th : Int32) (o : OL) (od : OD) (hj : j ≤ 24) (hI : ∀ k, k < j → okL τ k) (hX : ∀ i, i < 240 → 10 ≤ (τ 1 i).toInt) (p0 p1 : Int32) (hm : 0 ≤ p1.toInt ∧ p1.toInt < 240) (h0 : 0 ≤ p0.toInt ∧ p0.toInt < (j : Int))  : Met l yX2_billOf wsX2_billOf ({ frames := 2, cells := 0, slots := 0, locals := 60 }) (PcS G ad σ n τ j th o od [.ref (ad 5), .int p0, .int p1]) (Qi G (3 * n + 23) ad (ctS G ad σ n τ j th o od) (fun r => r = bmF τ (ix p0) p1)) 0 0 (gF G) := by
  refine Met.ofW (cc := cX2_billOf) (maxL := 5) (ret := (some .int)) (by decide) rfl ?_
  intro p e s m args below meth c s₁ B hml hv
  obtain ⟨rfl, hY⟩ := hv
  have hts := atoms_spec (ws := wsX2_billOf) B.pre
  have hC : CallFix p m c cX2_billOf 5 s _ wsX2_billOf RX2 := ⟨B.exec, B.bytes, hml, findClass_of_methodNamed B.named, hts⟩
  have hx := hC.1
  have hb := hC.2.1
  have hr := B.returns
  have hlocks := B.notSynchronized
  have hin2 : ∀ w ∈ wsX20, w ∈ wsX2_billOf := by decide +kernel
  have hl := lv_entry ([.ref (ad 5), .int p0, .int p1]) (n := 5) (Nat.le_of_ble_eq_true rfl)
  rw [lg_entry_eq]
  generalize (lg_sl ([.ref (ad 5), .int p0, .int p1]) ++ List.replicate (5 - (lg_sl ([.ref (ad 5), .int p0, .int p1])).length) Slot.unset).toArray = ls at hl ⊢
  have hl : lv_has ls 5 [(0, .ref (ad 5)), (1, .int p0), (2, .int p1)] := hl
  have hb3 : (30 * p1).toInt = 30 * p1.toInt := i_mulc' (c := 30) (by omega) (by decide)
  have hb4 : (30 * p1 + 30).toInt = 30 * p1.toInt + 30 := by rw [i_add (by have : (30 : Int32).toInt = 30 := rfl; omega), hb3]; rfl
  refine lv_iconst (v := 0) hx hb dX2_billOf_0 (by decide) ?_
  refine lv_istore_n (lv' := [(3, .int 0), (0, .ref (ad 5)), (1, .int p0), (2, .int p1)]) hx hb dX2_billOf_1 rfl hl (by decide) rfl (fun ls hl => ?_)
  refine lv_bipush (v := 30) hx hb dX2_billOf_2 (by decide) ?_
  refine lv_iload_n hx hb dX2_billOf_4 rfl (lv_at hl 3 rfl) ?_
  refine lv_imul hx hb dX2_billOf_5 ?_
  refine lv_istore (lv' := [(4, .int (30 * p1)), (3, .int 0), (0, .ref (ad 5)), (1, .int p0), (2, .int p1)]) hx hb dX2_billOf_6 hl (by decide) rfl (fun ls hl => ?_)
  refine w_loop (X := Int32 × Int32) (fun i x H locs ls => match x with | (x4, x3) => (x4.toInt = (30 * p1).toInt + i ∧ (i : Int) ≤ 30 ∧ x3 = bmP τ (ix p0) p1 i) ∧ SyS G ad σ n τ j th o od s H locs ∧ lv_has ls 5 [(4, .int x4), (3, .int x3), (0, .ref (ad 5)), (1, .int p0), (2, .int p1)]) (30) ?_ ?_ ((30 * p1, 0)) ⟨⟨by show _ = _ + (0 : Int); omega, by decide, rfl⟩, hY, lv_sub hl [0, 1, 2, 3, 4] rfl⟩
  · intro i x H locs ls hI ih
    obtain ⟨x4, x3⟩ := x
    obtain ⟨hI, hY, hl⟩ := hI
    obtain ⟨h9, h8, e⟩ := hI
    refine lv_iload hx hb dX2_billOf_8 (lv_at hl 0 rfl) ?_
    refine lv_bipush (v := 30) hx hb dX2_billOf_10 (by decide) ?_
    refine lv_iload_n hx hb dX2_billOf_12 rfl (lv_at hl 4 rfl) ?_
    refine lv_imul hx hb dX2_billOf_13 ?_
    refine lv_bipush (v := 30) hx hb dX2_billOf_14 (by decide) ?_
    refine lv_iadd hx hb dX2_billOf_16 ?_
    refine b_icmp_ge (tgt := 36) hx hb dX2_billOf_17 (by decide) (fun (h1 : ((30 * p1) + 30).toInt ≤ x4.toInt) => ?_) (fun (h1 : x4.toInt < ((30 * p1) + 30).toInt) => ?_)
    · refine lv_iload_n hx hb dX2_billOf_36 rfl (lv_at hl 1 rfl) ?_
      refine lv_bipush (v := 30) hx hb dX2_billOf_37 (by decide) ?_
      refine lv_idiv hx hb dX2_billOf_39 (by decide) ?_
      exact g_iret hC hr hlocks hY ⟨Nat.le_of_ble_eq_true rfl, Nat.le_of_ble_eq_true rfl⟩ dX2_billOf_40 (by unfold bmF; rw [e, show i = 30 by omega])
    · refine lv_iload_n hx hb dX2_billOf_20 rfl (lv_at hl 1 rfl) ?_
      refine lv_aload_n hx hb dX2_billOf_21 rfl (lv_at hl 2 rfl) ?_
      refine lv_iload_n hx hb dX2_billOf_22 rfl (lv_at hl 3 rfl) ?_
      refine lv_iload hx hb dX2_billOf_23 (lv_at hl 0 rfl) ?_
      refine g_calli hY (g_runV (n := 2) (q := (RX2, TX2, 17)) (r := 5) hC (c_X2_rentAt l G ad σ n τ j th o od hj hI hX p0 x4 h0) gX2_billOf_X2_rentAt rfl ⟨rfl, rfl⟩ (by decide +kernel) ⟨Nat.le_of_ble_eq_true rfl, Nat.le_of_ble_eq_true rfl⟩ hY (by omega) rfl (ci := 2) rfl rfl hl.1 rfl (Nat.le_of_ble_eq_true rfl) dX2_billOf_25 ⟨Nat.le_of_ble_eq_true rfl, Nat.le_of_ble_eq_true rfl⟩) (fun r2 H locs h3 hY => ?_)
      subst h3
      refine lv_iadd hx hb dX2_billOf_28 ?_
      refine lv_istore_n (lv' := [(3, .int (x3 + (rmF τ (ix p0) x4))), (4, .int x4), (0, .ref (ad 5)), (1, .int p0), (2, .int p1)]) hx hb dX2_billOf_29 rfl hl (by decide) rfl (fun ls hl => ?_)
      refine lv_iinc (v := x4 + 1) (lv' := [(4, .int (x4 + 1)), (3, .int (x3 + (rmF τ (ix p0) x4))), (0, .ref (ad 5)), (1, .int p0), (2, .int p1)]) hx hb dX2_billOf_30 hl (k := 1) rfl rfl (by decide) rfl (fun ls hl => ?_)
      refine lv_goto (tgt := 8) hx hb dX2_billOf_33 (by decide) ?_
      have hx4 : x4 = 30 * p1 + nI i := i_addnI h9 (by omega) (by omega) (by omega)
      exact ih (x4 + 1, x3 + (rmF τ (ix p0) x4)) _ _ _ ⟨⟨by rw [i_add1 (by omega)]; omega, by omega, by rw [bmP, ← e, ← hx4]⟩, hY, lv_sub hl [0, 1, 2, 3, 4] rfl⟩
  · intro i x H locs ls hI
    obtain ⟨x4, x3⟩ := x
    obtain ⟨hI, -, -⟩ := hI
    obtain ⟨h9, h8, e⟩ := hI
    omega

def dmA (σ : St) (k : Nat) (y : Int32) : Int32 := if (360 * y).toInt < (σ 4 k).toInt then σ 4 k else 360 * y
def dmB (σ : St) (k : Nat) (y : Int32) : Int32 := if (σ 5 k).toInt < (360 * y + 360).toInt then σ 5 k else 360 * y + 360
def dmF (σ : St) (k : Nat) (y : Int32) : Int32 := if (dmA σ k y).toInt < (dmB σ k y).toInt then dmB σ k y - dmA σ k y else 0
set_option maxHeartbeats 4000000 in
set_option maxRecDepth 100000 in
theorem c_X2_daysIn (l : Launch) (G : GG) (ad : Nat → Nat) (σ : St) (n : Nat) (τ : St) (j : Nat) (th : Int32) (o : OL) (od : OD) (hj : j ≤ 24) (p0 p1 : Int32) (h0 : 0 ≤ p0.toInt ∧ p0.toInt < (j : Int))  : Met l yX2_daysIn wsX2_daysIn ({ frames := 0, cells := 0, slots := 0, locals := 0 }) (PcS G ad σ n τ j th o od [.ref (ad 5), .int p0, .int p1]) (Qi G (3 * n + 23) ad (ctS G ad σ n τ j th o od) (fun r => r = dmF τ (ix p0) p1)) 0 0 (gF G) := by
  refine Met.ofW (cc := cX2_daysIn) (maxL := 5) (ret := (some .int)) (by decide) rfl ?_
  intro p e s m args below meth c s₁ B hml hv
  obtain ⟨rfl, hY⟩ := hv
  have hts := atoms_spec (ws := wsX2_daysIn) B.pre
  have hC : CallFix p m c cX2_daysIn 5 s _ wsX2_daysIn RX2 := ⟨B.exec, B.bytes, hml, findClass_of_methodNamed B.named, hts⟩
  have hx := hC.1
  have hb := hC.2.1
  have hr := B.returns
  have hlocks := B.notSynchronized
  have hin2 : ∀ w ∈ wsX20, w ∈ wsX2_daysIn := by decide +kernel
  have hl := lv_entry ([.ref (ad 5), .int p0, .int p1]) (n := 5) (Nat.le_of_ble_eq_true rfl)
  rw [lg_entry_eq]
  generalize (lg_sl ([.ref (ad 5), .int p0, .int p1]) ++ List.replicate (5 - (lg_sl ([.ref (ad 5), .int p0, .int p1])).length) Slot.unset).toArray = ls at hl ⊢
  have hl : lv_has ls 5 [(0, .ref (ad 5)), (1, .int p0), (2, .int p1)] := hl
  refine lv_aload_n hx hb dX2_daysIn_0 rfl (lv_at hl 0 rfl) ?_
  refine gtM_froms hC hin2 hY (by decide +kernel) dX2_daysIn_1 ?_
  refine lv_iload_n hx hb dX2_daysIn_4 rfl (lv_at hl 1 rfl) ?_
  refine rdM4 hC hY ⟨by omega, by omega⟩ dX2_daysIn_5 ?_
  refine lv_sipush (v := 360) hx hb dX2_daysIn_6 (by decide) ?_
  refine lv_iload_n hx hb dX2_daysIn_9 rfl (lv_at hl 2 rfl) ?_
  refine lv_imul hx hb dX2_daysIn_10 ?_
  refine b_icmp_le (tgt := 23) hx hb dX2_daysIn_11 (by decide) (fun (h1 : (τ 4 (ix p0)).toInt ≤ (360 * p1).toInt) => ?_) (fun (h1 : (360 * p1).toInt < (τ 4 (ix p0)).toInt) => ?_)
  · refine lv_sipush (v := 360) hx hb dX2_daysIn_23 (by decide) ?_
    refine lv_iload_n hx hb dX2_daysIn_26 rfl (lv_at hl 2 rfl) ?_
    refine lv_imul hx hb dX2_daysIn_27 ?_
    refine lv_istore_n (lv' := [(3, .int (360 * p1)), (0, .ref (ad 5)), (1, .int p0), (2, .int p1)]) hx hb dX2_daysIn_28 rfl hl (by decide) rfl (fun ls hl => ?_)
    refine lv_aload_n hx hb dX2_daysIn_29 rfl (lv_at hl 1 rfl) ?_
    refine gtM_tos hC hin2 hY (by decide +kernel) dX2_daysIn_30 ?_
    refine lv_iload_n hx hb dX2_daysIn_33 rfl (lv_at hl 2 rfl) ?_
    refine rdM5 hC hY ⟨by omega, by omega⟩ dX2_daysIn_34 ?_
    refine lv_sipush (v := 360) hx hb dX2_daysIn_35 (by decide) ?_
    refine lv_iload_n hx hb dX2_daysIn_38 rfl (lv_at hl 3 rfl) ?_
    refine lv_imul hx hb dX2_daysIn_39 ?_
    refine lv_sipush (v := 360) hx hb dX2_daysIn_40 (by decide) ?_
    refine lv_iadd hx hb dX2_daysIn_43 ?_
    refine b_icmp_ge (tgt := 56) hx hb dX2_daysIn_44 (by decide) (fun (h2 : ((360 * p1) + 360).toInt ≤ (τ 5 (ix p0)).toInt) => ?_) (fun (h2 : (τ 5 (ix p0)).toInt < ((360 * p1) + 360).toInt) => ?_)
    · refine lv_sipush (v := 360) hx hb dX2_daysIn_56 (by decide) ?_
      refine lv_iload_n hx hb dX2_daysIn_59 rfl (lv_at hl 3 rfl) ?_
      refine lv_imul hx hb dX2_daysIn_60 ?_
      refine lv_sipush (v := 360) hx hb dX2_daysIn_61 (by decide) ?_
      refine lv_iadd hx hb dX2_daysIn_64 ?_
      refine lv_istore (lv' := [(4, .int ((360 * p1) + 360)), (3, .int (360 * p1)), (0, .ref (ad 5)), (1, .int p0), (2, .int p1)]) hx hb dX2_daysIn_65 hl (by decide) rfl (fun ls hl => ?_)
      refine lv_iload hx hb dX2_daysIn_67 (lv_at hl 0 rfl) ?_
      refine lv_iload_n hx hb dX2_daysIn_69 rfl (lv_at hl 1 rfl) ?_
      refine b_icmp_le (tgt := 80) hx hb dX2_daysIn_70 (by decide) (fun (h3 : ((360 * p1) + 360).toInt ≤ (360 * p1).toInt) => ?_) (fun (h3 : (360 * p1).toInt < ((360 * p1) + 360).toInt) => ?_)
      · refine lv_iconst (v := 0) hx hb dX2_daysIn_80 (by decide) ?_
        have hA : dmA τ (ix p0) p1 = 360 * p1 := if_neg (by omega)
        have hB : dmB τ (ix p0) p1 = (360 * p1) + 360 := if_neg (by omega)
        exact g_iret hC hr hlocks hY ⟨Nat.le_of_ble_eq_true rfl, Nat.le_of_ble_eq_true rfl⟩ dX2_daysIn_81 (by unfold dmF; rw [hA, hB]; exact (if_neg (by omega)).symm)
      · refine lv_iload hx hb dX2_daysIn_73 (lv_at hl 0 rfl) ?_
        refine lv_iload_n hx hb dX2_daysIn_75 rfl (lv_at hl 1 rfl) ?_
        refine lv_isub hx hb dX2_daysIn_76 ?_
        refine lv_goto (tgt := 81) hx hb dX2_daysIn_77 (by decide) ?_
        have hA : dmA τ (ix p0) p1 = 360 * p1 := if_neg (by omega)
        have hB : dmB τ (ix p0) p1 = (360 * p1) + 360 := if_neg (by omega)
        exact g_iret hC hr hlocks hY ⟨Nat.le_of_ble_eq_true rfl, Nat.le_of_ble_eq_true rfl⟩ dX2_daysIn_81 (by unfold dmF; rw [hA, hB]; exact (if_pos (by omega)).symm)
    · refine lv_aload_n hx hb dX2_daysIn_47 rfl (lv_at hl 1 rfl) ?_
      refine gtM_tos hC hin2 hY (by decide +kernel) dX2_daysIn_48 ?_
      refine lv_iload_n hx hb dX2_daysIn_51 rfl (lv_at hl 2 rfl) ?_
      refine rdM5 hC hY ⟨by omega, by omega⟩ dX2_daysIn_52 ?_
      refine lv_goto (tgt := 65) hx hb dX2_daysIn_53 (by decide) ?_
      refine lv_istore (lv' := [(4, .int (τ 5 (ix p0))), (3, .int (360 * p1)), (0, .ref (ad 5)), (1, .int p0), (2, .int p1)]) hx hb dX2_daysIn_65 hl (by decide) rfl (fun ls hl => ?_)
      refine lv_iload hx hb dX2_daysIn_67 (lv_at hl 0 rfl) ?_
      refine lv_iload_n hx hb dX2_daysIn_69 rfl (lv_at hl 1 rfl) ?_
      refine b_icmp_le (tgt := 80) hx hb dX2_daysIn_70 (by decide) (fun (h4 : (τ 5 (ix p0)).toInt ≤ (360 * p1).toInt) => ?_) (fun (h4 : (360 * p1).toInt < (τ 5 (ix p0)).toInt) => ?_)
      · refine lv_iconst (v := 0) hx hb dX2_daysIn_80 (by decide) ?_
        have hA : dmA τ (ix p0) p1 = 360 * p1 := if_neg (by omega)
        have hB : dmB τ (ix p0) p1 = τ 5 (ix p0) := if_pos (by omega)
        exact g_iret hC hr hlocks hY ⟨Nat.le_of_ble_eq_true rfl, Nat.le_of_ble_eq_true rfl⟩ dX2_daysIn_81 (by unfold dmF; rw [hA, hB]; exact (if_neg (by omega)).symm)
      · refine lv_iload hx hb dX2_daysIn_73 (lv_at hl 0 rfl) ?_
        refine lv_iload_n hx hb dX2_daysIn_75 rfl (lv_at hl 1 rfl) ?_
        refine lv_isub hx hb dX2_daysIn_76 ?_
        refine lv_goto (tgt := 81) hx hb dX2_daysIn_77 (by decide) ?_
        have hA : dmA τ (ix p0) p1 = 360 * p1 := if_neg (by omega)
        have hB : dmB τ (ix p0) p1 = τ 5 (ix p0) := if_pos (by omega)
        exact g_iret hC hr hlocks hY ⟨Nat.le_of_ble_eq_true rfl, Nat.le_of_ble_eq_true rfl⟩ dX2_daysIn_81 (by unfold dmF; rw [hA, hB]; exact (if_pos (by omega)).symm)
  · refine lv_aload_n hx hb dX2_daysIn_14 rfl (lv_at hl 0 rfl) ?_
    refine gtM_froms hC hin2 hY (by decide +kernel) dX2_daysIn_15 ?_
    refine lv_iload_n hx hb dX2_daysIn_18 rfl (lv_at hl 1 rfl) ?_
    refine rdM4 hC hY ⟨by omega, by omega⟩ dX2_daysIn_19 ?_
    refine lv_goto (tgt := 28) hx hb dX2_daysIn_20 (by decide) ?_
    refine lv_istore_n (lv' := [(3, .int (τ 4 (ix p0))), (0, .ref (ad 5)), (1, .int p0), (2, .int p1)]) hx hb dX2_daysIn_28 rfl hl (by decide) rfl (fun ls hl => ?_)
    refine lv_aload_n hx hb dX2_daysIn_29 rfl (lv_at hl 1 rfl) ?_
    refine gtM_tos hC hin2 hY (by decide +kernel) dX2_daysIn_30 ?_
    refine lv_iload_n hx hb dX2_daysIn_33 rfl (lv_at hl 2 rfl) ?_
    refine rdM5 hC hY ⟨by omega, by omega⟩ dX2_daysIn_34 ?_
    refine lv_sipush (v := 360) hx hb dX2_daysIn_35 (by decide) ?_
    refine lv_iload_n hx hb dX2_daysIn_38 rfl (lv_at hl 3 rfl) ?_
    refine lv_imul hx hb dX2_daysIn_39 ?_
    refine lv_sipush (v := 360) hx hb dX2_daysIn_40 (by decide) ?_
    refine lv_iadd hx hb dX2_daysIn_43 ?_
    refine b_icmp_ge (tgt := 56) hx hb dX2_daysIn_44 (by decide) (fun (h5 : ((360 * p1) + 360).toInt ≤ (τ 5 (ix p0)).toInt) => ?_) (fun (h5 : (τ 5 (ix p0)).toInt < ((360 * p1) + 360).toInt) => ?_)
    · refine lv_sipush (v := 360) hx hb dX2_daysIn_56 (by decide) ?_
      refine lv_iload_n hx hb dX2_daysIn_59 rfl (lv_at hl 3 rfl) ?_
      refine lv_imul hx hb dX2_daysIn_60 ?_
      refine lv_sipush (v := 360) hx hb dX2_daysIn_61 (by decide) ?_
      refine lv_iadd hx hb dX2_daysIn_64 ?_
      refine lv_istore (lv' := [(4, .int ((360 * p1) + 360)), (3, .int (τ 4 (ix p0))), (0, .ref (ad 5)), (1, .int p0), (2, .int p1)]) hx hb dX2_daysIn_65 hl (by decide) rfl (fun ls hl => ?_)
      refine lv_iload hx hb dX2_daysIn_67 (lv_at hl 0 rfl) ?_
      refine lv_iload_n hx hb dX2_daysIn_69 rfl (lv_at hl 1 rfl) ?_
      refine b_icmp_le (tgt := 80) hx hb dX2_daysIn_70 (by decide) (fun (h6 : ((360 * p1) + 360).toInt ≤ (τ 4 (ix p0)).toInt) => ?_) (fun (h6 : (τ 4 (ix p0)).toInt < ((360 * p1) + 360).toInt) => ?_)
      · refine lv_iconst (v := 0) hx hb dX2_daysIn_80 (by decide) ?_
        have hA : dmA τ (ix p0) p1 = τ 4 (ix p0) := if_pos (by omega)
        have hB : dmB τ (ix p0) p1 = (360 * p1) + 360 := if_neg (by omega)
        exact g_iret hC hr hlocks hY ⟨Nat.le_of_ble_eq_true rfl, Nat.le_of_ble_eq_true rfl⟩ dX2_daysIn_81 (by unfold dmF; rw [hA, hB]; exact (if_neg (by omega)).symm)
      · refine lv_iload hx hb dX2_daysIn_73 (lv_at hl 0 rfl) ?_
        refine lv_iload_n hx hb dX2_daysIn_75 rfl (lv_at hl 1 rfl) ?_
        refine lv_isub hx hb dX2_daysIn_76 ?_
        refine lv_goto (tgt := 81) hx hb dX2_daysIn_77 (by decide) ?_
        have hA : dmA τ (ix p0) p1 = τ 4 (ix p0) := if_pos (by omega)
        have hB : dmB τ (ix p0) p1 = (360 * p1) + 360 := if_neg (by omega)
        exact g_iret hC hr hlocks hY ⟨Nat.le_of_ble_eq_true rfl, Nat.le_of_ble_eq_true rfl⟩ dX2_daysIn_81 (by unfold dmF; rw [hA, hB]; exact (if_pos (by omega)).symm)
    · refine lv_aload_n hx hb dX2_daysIn_47 rfl (lv_at hl 1 rfl) ?_
      refine gtM_tos hC hin2 hY (by decide +kernel) dX2_daysIn_48 ?_
      refine lv_iload_n hx hb dX2_daysIn_51 rfl (lv_at hl 2 rfl) ?_
      refine rdM5 hC hY ⟨by omega, by omega⟩ dX2_daysIn_52 ?_
      refine lv_goto (tgt := 65) hx hb dX2_daysIn_53 (by decide) ?_
      refine lv_istore (lv' := [(4, .int (τ 5 (ix p0))), (3, .int (τ 4 (ix p0))), (0, .ref (ad 5)), (1, .int p0), (2, .int p1)]) hx hb dX2_daysIn_65 hl (by decide) rfl (fun ls hl => ?_)
      refine lv_iload hx hb dX2_daysIn_67 (lv_at hl 0 rfl) ?_
      refine lv_iload_n hx hb dX2_daysIn_69 rfl (lv_at hl 1 rfl) ?_
      refine b_icmp_le (tgt := 80) hx hb dX2_daysIn_70 (by decide) (fun (h7 : (τ 5 (ix p0)).toInt ≤ (τ 4 (ix p0)).toInt) => ?_) (fun (h7 : (τ 4 (ix p0)).toInt < (τ 5 (ix p0)).toInt) => ?_)
      · refine lv_iconst (v := 0) hx hb dX2_daysIn_80 (by decide) ?_
        have hA : dmA τ (ix p0) p1 = τ 4 (ix p0) := if_pos (by omega)
        have hB : dmB τ (ix p0) p1 = τ 5 (ix p0) := if_pos (by omega)
        exact g_iret hC hr hlocks hY ⟨Nat.le_of_ble_eq_true rfl, Nat.le_of_ble_eq_true rfl⟩ dX2_daysIn_81 (by unfold dmF; rw [hA, hB]; exact (if_neg (by omega)).symm)
      · refine lv_iload hx hb dX2_daysIn_73 (lv_at hl 0 rfl) ?_
        refine lv_iload_n hx hb dX2_daysIn_75 rfl (lv_at hl 1 rfl) ?_
        refine lv_isub hx hb dX2_daysIn_76 ?_
        refine lv_goto (tgt := 81) hx hb dX2_daysIn_77 (by decide) ?_
        have hA : dmA τ (ix p0) p1 = τ 4 (ix p0) := if_pos (by omega)
        have hB : dmB τ (ix p0) p1 = τ 5 (ix p0) := if_pos (by omega)
        exact g_iret hC hr hlocks hY ⟨Nat.le_of_ble_eq_true rfl, Nat.le_of_ble_eq_true rfl⟩ dX2_daysIn_81 (by unfold dmF; rw [hA, hB]; exact (if_pos (by omega)).symm)

set_option maxHeartbeats 4000000 in
set_option maxRecDepth 100000 in
theorem c_X2_allAreas (l : Launch) (G : GG) (ad : Nat → Nat) (σ : St) (n : Nat) (τ : St) (j : Nat) (th : Int32) (o : OL) (od : OD)  : Met l yX2_allAreas wsX2_allAreas ({ frames := 0, cells := 0, slots := 0, locals := 0 }) (PcS G ad σ n τ j th o od [.ref (ad 5)]) (Qi G (3 * n + 23) ad (ctS G ad σ n τ j th o od) (fun r => r = aaP τ 6)) 0 0 (gF G) := by
  refine Met.ofW (cc := cX2_allAreas) (maxL := 3) (ret := (some .int)) (by decide) rfl ?_
  intro p e s m args below meth c s₁ B hml hv
  obtain ⟨rfl, hY⟩ := hv
  have hts := atoms_spec (ws := wsX2_allAreas) B.pre
  have hC : CallFix p m c cX2_allAreas 3 s _ wsX2_allAreas RX2 := ⟨B.exec, B.bytes, hml, findClass_of_methodNamed B.named, hts⟩
  have hx := hC.1
  have hb := hC.2.1
  have hr := B.returns
  have hlocks := B.notSynchronized
  have hin2 : ∀ w ∈ wsX20, w ∈ wsX2_allAreas := by decide +kernel
  have hl := lv_entry ([.ref (ad 5)]) (n := 3) (Nat.le_of_ble_eq_true rfl)
  rw [lg_entry_eq]
  generalize (lg_sl ([.ref (ad 5)]) ++ List.replicate (3 - (lg_sl ([.ref (ad 5)])).length) Slot.unset).toArray = ls at hl ⊢
  have hl : lv_has ls 3 [(0, .ref (ad 5))] := hl
  refine lv_iconst (v := 0) hx hb dX2_allAreas_0 (by decide) ?_
  refine lv_istore_n (lv' := [(1, .int 0), (0, .ref (ad 5))]) hx hb dX2_allAreas_1 rfl hl (by decide) rfl (fun ls hl => ?_)
  refine lv_iconst (v := 0) hx hb dX2_allAreas_2 (by decide) ?_
  refine lv_istore_n (lv' := [(2, .int 0), (1, .int 0), (0, .ref (ad 5))]) hx hb dX2_allAreas_3 rfl hl (by decide) rfl (fun ls hl => ?_)
  refine w_loop (X := Int32 × Int32) (fun i x H locs ls => match x with | (x2, x1) => (x2.toInt = i ∧ (i : Int) ≤ 6 ∧ x1 = aaP τ i) ∧ SyS G ad σ n τ j th o od s H locs ∧ lv_has ls 3 [(2, .int x2), (1, .int x1), (0, .ref (ad 5))]) (6) ?_ ?_ ((0, 0)) ⟨⟨rfl, by decide, rfl⟩, hY, lv_sub hl [0, 1, 2] rfl⟩
  · intro i x H locs ls hI ih
    obtain ⟨x2, x1⟩ := x
    obtain ⟨hI, hY, hl⟩ := hI
    obtain ⟨h9, h8, e⟩ := hI
    refine lv_iload_n hx hb dX2_allAreas_4 rfl (lv_at hl 0 rfl) ?_
    refine lv_bipush (v := 6) hx hb dX2_allAreas_5 (by decide) ?_
    refine b_icmp_ge (tgt := 25) hx hb dX2_allAreas_7 (by decide) (fun (h1 : 6 ≤ x2.toInt) => ?_) (fun (h1 : x2.toInt < 6) => ?_)
    · refine lv_iload_n hx hb dX2_allAreas_25 rfl (lv_at hl 1 rfl) ?_
      exact g_iret hC hr hlocks hY ⟨Nat.le_of_ble_eq_true rfl, Nat.le_of_ble_eq_true rfl⟩ dX2_allAreas_26 (by rw [e, show i = 6 by omega])
    · refine lv_iload_n hx hb dX2_allAreas_10 rfl (lv_at hl 1 rfl) ?_
      refine lv_aload_n hx hb dX2_allAreas_11 rfl (lv_at hl 2 rfl) ?_
      refine gtM_areas hC hin2 hY (by decide +kernel) dX2_allAreas_12 ?_
      refine lv_iload_n hx hb dX2_allAreas_15 rfl (lv_at hl 0 rfl) ?_
      refine rdM0 hC hY ⟨by omega, by omega⟩ dX2_allAreas_16 ?_
      refine lv_iadd hx hb dX2_allAreas_17 ?_
      refine lv_istore_n (lv' := [(1, .int (x1 + (τ 0 (ix x2)))), (2, .int x2), (0, .ref (ad 5))]) hx hb dX2_allAreas_18 rfl hl (by decide) rfl (fun ls hl => ?_)
      refine lv_iinc (v := x2 + 1) (lv' := [(2, .int (x2 + 1)), (1, .int (x1 + (τ 0 (ix x2)))), (0, .ref (ad 5))]) hx hb dX2_allAreas_19 hl (k := 1) rfl rfl (by decide) rfl (fun ls hl => ?_)
      refine lv_goto (tgt := 4) hx hb dX2_allAreas_22 (by decide) ?_
      have hix : ix x2 = i := i_ix h9
      exact ih (x2 + 1, x1 + (τ 0 (ix x2))) _ _ _ ⟨⟨by rw [i_add (by have : (1 : Int32).toInt = 1 := rfl; omega)]; have : (1 : Int32).toInt = 1 := rfl; omega, by omega, by rw [aaP, ← e, ← hix]⟩, hY, lv_sub hl [0, 1, 2] rfl⟩
  · intro i x H locs ls hI
    obtain ⟨x2, x1⟩ := x
    obtain ⟨hI, -, -⟩ := hI
    obtain ⟨h9, h8, e⟩ := hI
    omega

def pmQ (σ : St) (k : Nat) (y : Int32) : Int32 := ((σ 2 (ix y)).toInt64 * (σ 0 (ix (σ 3 k))).toInt64 * (dmF σ k y).toInt64 / ((aaP σ 6).toInt64 * 360)).toInt32
def pmM (σ : St) (k : Nat) (y : Int32) : Int32 := if (σ 9 k).toInt = -1 then pmQ σ k y else σ 9 k * dmF σ k y / 360
def pmF (σ : St) (k : Nat) (y : Int32) : Int32 := if (aaP σ 6).toInt = 0 then 0 else (if (pmQ σ k y).toInt < (pmM σ k y).toInt then pmQ σ k y else pmM σ k y)
set_option maxHeartbeats 4000000 in
set_option maxRecDepth 100000 in
theorem c_X2_partOf (l : Launch) (G : GG) (ad : Nat → Nat) (σ : St) (n : Nat) (τ : St) (j : Nat) (th : Int32) (o : OL) (od : OD) (hj : j ≤ 24) (hI : ∀ k, k < j → okL τ k) (p0 p1 : Int32) (hy : 0 ≤ p1.toInt ∧ p1.toInt < 20) (h0 : 0 ≤ p0.toInt ∧ p0.toInt < (j : Int))  : Met l yX2_partOf wsX2_partOf ({ frames := 1, cells := 0, slots := 0, locals := 30 }) (PcS G ad σ n τ j th o od [.ref (ad 5), .int p0, .int p1]) (Qi G (3 * n + 23) ad (ctS G ad σ n τ j th o od) (fun r => r = pmF τ (ix p0) p1)) 0 0 (gF G) := by
  refine Met.ofW (cc := cX2_partOf) (maxL := 7) (ret := (some .int)) (by decide) rfl ?_
  intro p e s m args below meth c s₁ B hml hv
  obtain ⟨rfl, hY⟩ := hv
  have hts := atoms_spec (ws := wsX2_partOf) B.pre
  have hC : CallFix p m c cX2_partOf 7 s _ wsX2_partOf RX2 := ⟨B.exec, B.bytes, hml, findClass_of_methodNamed B.named, hts⟩
  have hx := hC.1
  have hb := hC.2.1
  have hr := B.returns
  have hlocks := B.notSynchronized
  have hin2 : ∀ w ∈ wsX20, w ∈ wsX2_partOf := by decide +kernel
  have hl := lv_entry ([.ref (ad 5), .int p0, .int p1]) (n := 7) (Nat.le_of_ble_eq_true rfl)
  rw [lg_entry_eq]
  generalize (lg_sl ([.ref (ad 5), .int p0, .int p1]) ++ List.replicate (7 - (lg_sl ([.ref (ad 5), .int p0, .int p1])).length) Slot.unset).toArray = ls at hl ⊢
  have hl : lv_has ls 7 [(0, .ref (ad 5)), (1, .int p0), (2, .int p1)] := hl
  refine lv_aload_n hx hb dX2_partOf_0 rfl (lv_at hl 0 rfl) ?_
  refine g_calli hY (g_runV (n := 0) (q := (RX2, TX2, 17)) (r := 5) hC (c_X2_allAreas l G ad σ n τ j th o od) gX2_partOf_X2_allAreas rfl ⟨rfl, rfl⟩ (by decide +kernel) ⟨Nat.le_of_ble_eq_true rfl, Nat.le_of_ble_eq_true rfl⟩ hY (by omega) rfl (ci := 2) rfl rfl hl.1 rfl (Nat.le_of_ble_eq_true rfl) dX2_partOf_1 ⟨Nat.le_of_ble_eq_true rfl, Nat.le_of_ble_eq_true rfl⟩) (fun r1 H locs h2 hY => ?_)
  subst h2
  refine lv_istore_n (lv' := [(3, .int (aaP τ 6)), (0, .ref (ad 5)), (1, .int p0), (2, .int p1)]) hx hb dX2_partOf_4 rfl hl (by decide) rfl (fun ls hl => ?_)
  refine lv_iload_n hx hb dX2_partOf_5 rfl (lv_at hl 0 rfl) ?_
  refine b_if_ne (tgt := 11) hx hb dX2_partOf_6 (by decide) (fun (h3 : ¬ (aaP τ 6).toInt = 0) => ?_) (fun (h3 : (aaP τ 6).toInt = 0) => ?_)
  · refine lv_aload_n hx hb dX2_partOf_11 rfl (lv_at hl 1 rfl) ?_
    refine lv_iload_n hx hb dX2_partOf_12 rfl (lv_at hl 2 rfl) ?_
    refine lv_iload_n hx hb dX2_partOf_13 rfl (lv_at hl 3 rfl) ?_
    refine g_calli hY (g_runV (n := 2) (q := (RX2, TX2, 17)) (r := 5) hC (c_X2_daysIn l G ad σ n τ j th o od hj p0 p1 h0) gX2_partOf_X2_daysIn rfl ⟨rfl, rfl⟩ (by decide +kernel) ⟨Nat.le_of_ble_eq_true rfl, Nat.le_of_ble_eq_true rfl⟩ hY (by omega) rfl (ci := 2) rfl rfl hl.1 rfl (Nat.le_of_ble_eq_true rfl) dX2_partOf_14 ⟨Nat.le_of_ble_eq_true rfl, Nat.le_of_ble_eq_true rfl⟩) (fun r4 H locs h5 hY => ?_)
    subst h5
    refine lv_istore (lv' := [(4, .int (dmF τ (ix p0) p1)), (3, .int (aaP τ 6)), (0, .ref (ad 5)), (1, .int p0), (2, .int p1)]) hx hb dX2_partOf_17 hl (by decide) rfl (fun ls hl => ?_)
    refine lv_aload_n hx hb dX2_partOf_19 rfl (lv_at hl 2 rfl) ?_
    refine gtM_costs hC hin2 hY (by decide +kernel) dX2_partOf_20 ?_
    refine lv_iload_n hx hb dX2_partOf_23 rfl (lv_at hl 4 rfl) ?_
    refine rdM2 hC hY ⟨by omega, by omega⟩ dX2_partOf_24 ?_
    refine lv_i2l hx hb dX2_partOf_25 rfl ?_
    refine lv_aload_n hx hb dX2_partOf_26 rfl (lv_at hl 2 rfl) ?_
    refine gtM_areas hC hin2 hY (by decide +kernel) dX2_partOf_27 ?_
    refine lv_aload_n hx hb dX2_partOf_30 rfl (lv_at hl 2 rfl) ?_
    refine gtM_units hC hin2 hY (by decide +kernel) dX2_partOf_31 ?_
    refine lv_iload_n hx hb dX2_partOf_34 rfl (lv_at hl 3 rfl) ?_
    refine rdM3 hC hY ⟨by omega, by omega⟩ dX2_partOf_35 ?_
    refine rdM0 hC hY (hI _ (ix_lt h0)).1 dX2_partOf_36 ?_
    refine lv_i2l hx hb dX2_partOf_37 rfl ?_
    refine lv_lmul hx hb dX2_partOf_38 ?_
    refine lv_iload hx hb dX2_partOf_39 (lv_at hl 0 rfl) ?_
    refine lv_i2l hx hb dX2_partOf_41 rfl ?_
    refine lv_lmul hx hb dX2_partOf_42 ?_
    refine lv_iload_n hx hb dX2_partOf_43 rfl (lv_at hl 1 rfl) ?_
    refine lv_i2l hx hb dX2_partOf_44 rfl ?_
    refine lv_ldc2 (v := 360) hx hb hC.2.2.2.1 (hC.2.2.2.2 _ (by decide +kernel)) dX2_partOf_45 ?_
    refine lv_lmul hx hb dX2_partOf_48 ?_
    refine lv_ldiv hx hb dX2_partOf_49 (l_ne0 h3) ?_
    refine lv_l2i hx hb dX2_partOf_50 rfl ?_
    refine lv_istore (lv' := [(5, .int ((((((τ 2 (ix p1)).toInt64) * ((τ 0 (ix (τ 3 (ix p0)))).toInt64)) * ((dmF τ (ix p0) p1).toInt64)) / (((aaP τ 6).toInt64) * 360)).toInt32)), (4, .int (dmF τ (ix p0) p1)), (3, .int (aaP τ 6)), (0, .ref (ad 5)), (1, .int p0), (2, .int p1)]) hx hb dX2_partOf_51 hl (by decide) rfl (fun ls hl => ?_)
    refine lv_aload_n hx hb dX2_partOf_53 rfl (lv_at hl 3 rfl) ?_
    refine gtM_caps hC hin2 hY (by decide +kernel) dX2_partOf_54 ?_
    refine lv_iload_n hx hb dX2_partOf_57 rfl (lv_at hl 4 rfl) ?_
    refine rdM9 hC hY ⟨by omega, by omega⟩ dX2_partOf_58 ?_
    refine lv_iconst (v := (-1)) hx hb dX2_partOf_59 (by decide) ?_
    refine b_icmp_ne (tgt := 68) hx hb dX2_partOf_60 (by decide) (fun (h6 : ¬ (τ 9 (ix p0)).toInt = (-1)) => ?_) (fun (h6 : (τ 9 (ix p0)).toInt = (-1)) => ?_)
    · refine lv_aload_n hx hb dX2_partOf_68 rfl (lv_at hl 3 rfl) ?_
      refine gtM_caps hC hin2 hY (by decide +kernel) dX2_partOf_69 ?_
      refine lv_iload_n hx hb dX2_partOf_72 rfl (lv_at hl 4 rfl) ?_
      refine rdM9 hC hY ⟨by omega, by omega⟩ dX2_partOf_73 ?_
      refine lv_iload hx hb dX2_partOf_74 (lv_at hl 1 rfl) ?_
      refine lv_imul hx hb dX2_partOf_76 ?_
      refine lv_sipush (v := 360) hx hb dX2_partOf_77 (by decide) ?_
      refine lv_idiv hx hb dX2_partOf_80 (by decide) ?_
      refine lv_istore (lv' := [(6, .int (((τ 9 (ix p0)) * (dmF τ (ix p0) p1)) / 360)), (5, .int ((((((τ 2 (ix p1)).toInt64) * ((τ 0 (ix (τ 3 (ix p0)))).toInt64)) * ((dmF τ (ix p0) p1).toInt64)) / (((aaP τ 6).toInt64) * 360)).toInt32)), (4, .int (dmF τ (ix p0) p1)), (3, .int (aaP τ 6)), (0, .ref (ad 5)), (1, .int p0), (2, .int p1)]) hx hb dX2_partOf_81 hl (by decide) rfl (fun ls hl => ?_)
      refine lv_iload hx hb dX2_partOf_83 (lv_at hl 1 rfl) ?_
      refine lv_iload hx hb dX2_partOf_85 (lv_at hl 0 rfl) ?_
      refine b_icmp_ge (tgt := 95) hx hb dX2_partOf_87 (by decide) (fun (h7 : (((τ 9 (ix p0)) * (dmF τ (ix p0) p1)) / 360).toInt ≤ ((((((τ 2 (ix p1)).toInt64) * ((τ 0 (ix (τ 3 (ix p0)))).toInt64)) * ((dmF τ (ix p0) p1).toInt64)) / (((aaP τ 6).toInt64) * 360)).toInt32).toInt) => ?_) (fun (h7 : ((((((τ 2 (ix p1)).toInt64) * ((τ 0 (ix (τ 3 (ix p0)))).toInt64)) * ((dmF τ (ix p0) p1).toInt64)) / (((aaP τ 6).toInt64) * 360)).toInt32).toInt < (((τ 9 (ix p0)) * (dmF τ (ix p0) p1)) / 360).toInt) => ?_)
      · refine lv_iload hx hb dX2_partOf_95 (lv_at hl 0 rfl) ?_
        have hM : pmM τ (ix p0) p1 = ((τ 9 (ix p0)) * (dmF τ (ix p0) p1)) / 360 := if_neg h6
        exact g_iret hC hr hlocks hY ⟨Nat.le_of_ble_eq_true rfl, Nat.le_of_ble_eq_true rfl⟩ dX2_partOf_97 (by unfold pmF; rw [if_neg h3, hM]; exact (if_neg (by unfold pmQ; omega)).symm)
      · refine lv_iload hx hb dX2_partOf_90 (lv_at hl 1 rfl) ?_
        refine lv_goto (tgt := 97) hx hb dX2_partOf_92 (by decide) ?_
        have hM : pmM τ (ix p0) p1 = ((τ 9 (ix p0)) * (dmF τ (ix p0) p1)) / 360 := if_neg h6
        exact g_iret hC hr hlocks hY ⟨Nat.le_of_ble_eq_true rfl, Nat.le_of_ble_eq_true rfl⟩ dX2_partOf_97 (by unfold pmF; rw [if_neg h3, hM]; exact (if_pos (by unfold pmQ; omega)).symm)
    · refine lv_iload hx hb dX2_partOf_63 (lv_at hl 0 rfl) ?_
      refine lv_goto (tgt := 81) hx hb dX2_partOf_65 (by decide) ?_
      refine lv_istore (lv' := [(6, .int ((((((τ 2 (ix p1)).toInt64) * ((τ 0 (ix (τ 3 (ix p0)))).toInt64)) * ((dmF τ (ix p0) p1).toInt64)) / (((aaP τ 6).toInt64) * 360)).toInt32)), (5, .int ((((((τ 2 (ix p1)).toInt64) * ((τ 0 (ix (τ 3 (ix p0)))).toInt64)) * ((dmF τ (ix p0) p1).toInt64)) / (((aaP τ 6).toInt64) * 360)).toInt32)), (4, .int (dmF τ (ix p0) p1)), (3, .int (aaP τ 6)), (0, .ref (ad 5)), (1, .int p0), (2, .int p1)]) hx hb dX2_partOf_81 hl (by decide) rfl (fun ls hl => ?_)
      refine lv_iload hx hb dX2_partOf_83 (lv_at hl 1 rfl) ?_
      refine lv_iload hx hb dX2_partOf_85 (lv_at hl 0 rfl) ?_
      refine b_icmp_ge (tgt := 95) hx hb dX2_partOf_87 (by decide) (fun (h8 : ((((((τ 2 (ix p1)).toInt64) * ((τ 0 (ix (τ 3 (ix p0)))).toInt64)) * ((dmF τ (ix p0) p1).toInt64)) / (((aaP τ 6).toInt64) * 360)).toInt32).toInt ≤ ((((((τ 2 (ix p1)).toInt64) * ((τ 0 (ix (τ 3 (ix p0)))).toInt64)) * ((dmF τ (ix p0) p1).toInt64)) / (((aaP τ 6).toInt64) * 360)).toInt32).toInt) => ?_) (fun (h8 : ((((((τ 2 (ix p1)).toInt64) * ((τ 0 (ix (τ 3 (ix p0)))).toInt64)) * ((dmF τ (ix p0) p1).toInt64)) / (((aaP τ 6).toInt64) * 360)).toInt32).toInt < ((((((τ 2 (ix p1)).toInt64) * ((τ 0 (ix (τ 3 (ix p0)))).toInt64)) * ((dmF τ (ix p0) p1).toInt64)) / (((aaP τ 6).toInt64) * 360)).toInt32).toInt) => ?_)
      · refine lv_iload hx hb dX2_partOf_95 (lv_at hl 0 rfl) ?_
        have hM : pmM τ (ix p0) p1 = (((((τ 2 (ix p1)).toInt64) * ((τ 0 (ix (τ 3 (ix p0)))).toInt64)) * ((dmF τ (ix p0) p1).toInt64)) / (((aaP τ 6).toInt64) * 360)).toInt32 := if_pos h6
        exact g_iret hC hr hlocks hY ⟨Nat.le_of_ble_eq_true rfl, Nat.le_of_ble_eq_true rfl⟩ dX2_partOf_97 (by unfold pmF; rw [if_neg h3, hM]; exact (if_neg (by unfold pmQ; omega)).symm)
      · refine lv_iload hx hb dX2_partOf_90 (lv_at hl 1 rfl) ?_
        refine lv_goto (tgt := 97) hx hb dX2_partOf_92 (by decide) ?_
        have hM : pmM τ (ix p0) p1 = (((((τ 2 (ix p1)).toInt64) * ((τ 0 (ix (τ 3 (ix p0)))).toInt64)) * ((dmF τ (ix p0) p1).toInt64)) / (((aaP τ 6).toInt64) * 360)).toInt32 := if_pos h6
        exact g_iret hC hr hlocks hY ⟨Nat.le_of_ble_eq_true rfl, Nat.le_of_ble_eq_true rfl⟩ dX2_partOf_97 (by unfold pmF; rw [if_neg h3, hM]; exact (if_pos (by unfold pmQ; omega)).symm)
  · refine lv_iconst (v := 0) hx hb dX2_partOf_9 (by decide) ?_
    exact g_iret hC hr hlocks hY ⟨Nat.le_of_ble_eq_true rfl, Nat.le_of_ble_eq_true rfl⟩ dX2_partOf_10 (by unfold pmF; exact (if_pos h3).symm)


/-! the share of a unit: the quotient of two whole numbers, not a NaN -/
theorem ddiv_ok {a b : Int32} (h : b.toInt ≠ 0) : Jvm.FP.Core.val64 (Jvm.FP.ddiv (Jvm.FP.i2d a) (Jvm.FP.i2d b)) ≠ .nan := by
  rw [show Jvm.FP.ddiv (Jvm.FP.i2d a) (Jvm.FP.i2d b) = Jvm.FP.Core.ddiv (Jvm.FP.Core.i2d a) (Jvm.FP.Core.i2d b) from rfl, Jvm.FP.Core.val64_ddiv]
  have ha := Jvm.FP.Core.i2d_int a
  have hb := Jvm.FP.Core.i2d_int b
  unfold Jvm.FP.Core.DInt at ha hb
  generalize Jvm.FP.Core.val64 (Jvm.FP.Core.i2d a) = x at ha ⊢
  generalize Jvm.FP.Core.val64 (Jvm.FP.Core.i2d b) = y at hb ⊢
  match x, y, ha, hb with
  | .fin s c q, .fin t d r, ha, hb =>
    have hd : ¬ d = 0 := fun q => h ((Jvm.FP.Core.whole_zero hb).mp q)
    unfold Jvm.FP.Core.quotient
    simp only [hd, if_false]
    unfold Jvm.FP.Core.roundRatio Jvm.FP.Core.roundAt Jvm.FP.Core.settle Jvm.FP.Core.bound
    (repeat' split) <;> exact Jvm.FP.Core.Datum.noConfusion
theorem n64_ok {r : UInt64} (h : Jvm.FP.Core.val64 r ≠ .nan) : vf_n64 r := by
  unfold vf_n64
  rw [UInt64.le_iff_toNat_le, UInt64.toNat_and, show (0x7fffffffffffffff : UInt64).toNat = 2 ^ 63 - 1 from rfl, Nat.and_two_pow_sub_one_eq_mod, show (0x7ff0000000000000 : UInt64).toNat = 2047 * 2 ^ 52 from rfl]
  have hr := r.toNat_lt
  unfold Jvm.FP.Core.val64 Jvm.FP.Core.decode Jvm.FP.Core.fieldE Jvm.FP.Core.fieldT at h
  rw [show Jvm.FP.Core.b64.tails = 2 ^ 52 from rfl, show Jvm.FP.Core.b64.exps = 2048 from rfl] at h
  by_cases h1 : r.toNat / 2 ^ 52 % 2048 = 2048 - 1
  · rw [if_pos h1] at h
    by_cases h2 : r.toNat % 2 ^ 52 = 0
    · omega
    · rw [if_neg h2] at h; exact absurd rfl h
  · omega
theorem ddiv_n64 {a b : Int32} (h : b.toInt ≠ 0) : vf_n64 (Jvm.FP.ddiv (Jvm.FP.i2d a) (Jvm.FP.i2d b)) := n64_ok (ddiv_ok h)
abbrev shQ (σ : St) (i : Nat) : UInt64 := Jvm.FP.ddiv (Jvm.FP.i2d (σ 0 i)) (Jvm.FP.i2d (aaP σ 6))
def shF (σ : St) (i : Nat) : UInt64 := if 0 < (aaP σ 6).toInt then shQ σ i else Jvm.FP.dconst0
def shM (σ : St) (i : Nat) : UInt64 := if (aaP σ 6).toInt = 0 then Jvm.FP.dconst0 else shQ σ i
theorem shM_ok (σ : St) (i : Nat) : Jvm.FP.Core.val64 (shM σ i) ≠ .nan := by
  unfold shM
  split
  · rw [show Jvm.FP.dconst0 = Jvm.FP.Core.dconst0 from rfl, Jvm.FP.Core.val64_dconst0]; intro q; cases q
  · rename_i h; exact ddiv_ok h
set_option maxHeartbeats 4000000 in
set_option maxRecDepth 100000 in
theorem c_X1_share (l : Launch) (G : GG) (ad : Nat → Nat) (σ : St) (n : Nat) (τ : St) (hst : l.stackTraces = false) (p0 : Int32)  : vx_Met l yX1_share wsX1_share ({ frames := 8, cells := 6, slots := 36, locals := 160 }) (PcS G ad σ n τ [.ref (ad 0), .int p0]) (Qd G (3 * n + 9) ad (ctS G ad σ n τ) (fun r => cdU1 6 p0 = 0 ∧ r = shF σ (ix p0))) (XG G (3 * n + 9) ad (ctS G ad σ n τ) (fun E => exC E (cdU1 6 p0))) 6 36 (gF G) := by
  refine vx_ofW (cc := cX1_share) (maxL := 3) (ret := (some .double)) (by decide) rfl ?_
  intro p e s m args below meth c s₁ B hml hxt hv
  obtain ⟨rfl, hY⟩ := hv
  have hts := atoms_spec (ws := wsX1_share) B.pre
  have hC : CallFix p m c cX1_share 3 s _ wsX1_share RX1 := ⟨B.exec, B.bytes, hml, findClass_of_methodNamed B.named, hts⟩
  have hx := hC.1
  have hb := hC.2.1
  have hr := B.returns
  have hlocks := B.notSynchronized
  have hin1 : ∀ w ∈ wsX10, w ∈ wsX1_share := by decide +kernel
  have hl := lv_entry ([.ref (ad 0), .int p0]) (n := 3) (Nat.le_of_ble_eq_true rfl)
  rw [lg_entry_eq]
  generalize (lg_sl ([.ref (ad 0), .int p0]) ++ List.replicate (3 - (lg_sl ([.ref (ad 0), .int p0])).length) Slot.unset).toArray = ls at hl ⊢
  have hl : lv_has ls 3 [(0, .ref (ad 0)), (1, .int p0)] := hl
  refine lv_iload_n hx hb dX1_share_0 rfl (lv_at hl 1 rfl) ?_
  refine lv_aload_n hx hb dX1_share_1 rfl (lv_at hl 0 rfl) ?_
  refine gtV_areas hC hin1 hY (by decide +kernel) dX1_share_2 ?_
  refine g_alen hC hY 1 (by omega) 0 rfl rfl (v := 6) rfl dX1_share_5 ?_
  refine gx_callv hY (gx_runS (n := 2) hC (c_X1_checkNumber l G ad σ n τ hst p0 6 6 rfl) gX1_share_X1_checkNumber rfl ⟨rfl, rfl⟩ (by decide +kernel) ⟨Nat.le_of_ble_eq_true rfl, Nat.le_of_ble_eq_true rfl⟩ hY rfl hl.1 rfl (Nat.le_of_ble_eq_true rfl) dX1_share_6 ⟨Nat.le_of_ble_eq_true rfl, Nat.le_of_ble_eq_true rfl⟩) hxt hlocks ⟨Nat.le_of_ble_eq_true rfl, Nat.le_of_ble_eq_true rfl⟩ (fun E h => Or.inl ⟨h.1, by have q := h.2; unfold cdU1; (repeat' split) <;> first | rfl | omega⟩) (fun H locs h2 hY => ?_)
  refine lv_aload_n hx hb dX1_share_9 rfl (lv_at hl 0 rfl) ?_
  refine g_calli hY (g_runV (n := 0) (q := (RX1, TX1, 5)) (r := 0) hC (c_X1_allAreas l G ad σ n τ) gX1_share_X1_allAreas rfl ⟨rfl, rfl⟩ (by decide +kernel) ⟨Nat.le_of_ble_eq_true rfl, Nat.le_of_ble_eq_true rfl⟩ hY (by omega) rfl (ci := 1) rfl rfl hl.1 rfl (Nat.le_of_ble_eq_true rfl) dX1_share_10 ⟨Nat.le_of_ble_eq_true rfl, Nat.le_of_ble_eq_true rfl⟩) (fun r3 H locs h4 hY => ?_)
  subst h4
  refine lv_istore_n (lv' := [(2, .int (aaP σ 6)), (0, .ref (ad 0)), (1, .int p0)]) hx hb dX1_share_13 rfl hl (by decide) rfl (fun ls hl => ?_)
  refine lv_iload_n hx hb dX1_share_14 rfl (lv_at hl 0 rfl) ?_
  refine b_if_le (tgt := 31) hx hb dX1_share_15 (by decide) (fun (h5 : (aaP σ 6).toInt ≤ 0) => ?_) (fun (h5 : 0 < (aaP σ 6).toInt) => ?_)
  · refine lv_dconst0 hx hb dX1_share_31 ?_
    exact vx_ret (g_dret hC hr hlocks hY ⟨Nat.le_of_ble_eq_true rfl, Nat.le_of_ble_eq_true rfl⟩ dX1_share_32 (⟨by unfold cdU1; (repeat' split) <;> first | rfl | omega, by unfold shF; exact (if_neg (by omega)).symm⟩))
  · refine lv_aload_n hx hb dX1_share_18 rfl (lv_at hl 1 rfl) ?_
    refine gtV_areas hC hin1 hY (by decide +kernel) dX1_share_19 ?_
    refine lv_iload_n hx hb dX1_share_22 rfl (lv_at hl 2 rfl) ?_
    refine rdA0 hC hY h2 dX1_share_23 ?_
    refine lv_i2d hx hb dX1_share_24 ?_
    refine lv_iload_n hx hb dX1_share_25 rfl (lv_at hl 0 rfl) ?_
    refine lv_i2d hx hb dX1_share_26 ?_
    refine lv_ddiv hx hb dX1_share_27 (ddiv_n64 (by omega)) ?_
    refine lv_goto (tgt := 32) hx hb dX1_share_28 (by decide) ?_
    exact vx_ret (g_dret hC hr hlocks hY ⟨Nat.le_of_ble_eq_true rfl, Nat.le_of_ble_eq_true rfl⟩ dX1_share_32 (⟨by unfold cdU1; (repeat' split) <;> first | rfl | omega, by unfold shF; exact (if_pos h5).symm⟩))


/-! the share of a unit: the quotient of two whole numbers, not a NaN -/
theorem ddiv_ok {a b : Int32} (h : b.toInt ≠ 0) : Jvm.FP.Core.val64 (Jvm.FP.ddiv (Jvm.FP.i2d a) (Jvm.FP.i2d b)) ≠ .nan := by
  rw [show Jvm.FP.ddiv (Jvm.FP.i2d a) (Jvm.FP.i2d b) = Jvm.FP.Core.ddiv (Jvm.FP.Core.i2d a) (Jvm.FP.Core.i2d b) from rfl, Jvm.FP.Core.val64_ddiv]
  have ha := Jvm.FP.Core.i2d_int a
  have hb := Jvm.FP.Core.i2d_int b
  unfold Jvm.FP.Core.DInt at ha hb
  generalize Jvm.FP.Core.val64 (Jvm.FP.Core.i2d a) = x at ha ⊢
  generalize Jvm.FP.Core.val64 (Jvm.FP.Core.i2d b) = y at hb ⊢
  match x, y, ha, hb with
  | .fin s c q, .fin t d r, ha, hb =>
    have hd : ¬ d = 0 := fun q => h ((Jvm.FP.Core.whole_zero hb).mp q)
    unfold Jvm.FP.Core.quotient
    simp only [hd, if_false]
    unfold Jvm.FP.Core.roundRatio Jvm.FP.Core.roundAt Jvm.FP.Core.settle Jvm.FP.Core.bound
    (repeat' split) <;> exact Jvm.FP.Core.Datum.noConfusion
theorem n64_ok {r : UInt64} (h : Jvm.FP.Core.val64 r ≠ .nan) : vf_n64 r := by
  unfold vf_n64
  rw [UInt64.le_iff_toNat_le, UInt64.toNat_and, show (0x7fffffffffffffff : UInt64).toNat = 2 ^ 63 - 1 from rfl, Nat.and_two_pow_sub_one_eq_mod, show (0x7ff0000000000000 : UInt64).toNat = 2047 * 2 ^ 52 from rfl]
  have hr := r.toNat_lt
  unfold Jvm.FP.Core.val64 Jvm.FP.Core.decode Jvm.FP.Core.fieldE Jvm.FP.Core.fieldT at h
  rw [show Jvm.FP.Core.b64.tails = 2 ^ 52 from rfl, show Jvm.FP.Core.b64.exps = 2048 from rfl] at h
  by_cases h1 : r.toNat / 2 ^ 52 % 2048 = 2048 - 1
  · rw [if_pos h1] at h
    by_cases h2 : r.toNat % 2 ^ 52 = 0
    · omega
    · rw [if_neg h2] at h; exact absurd rfl h
  · omega
theorem ddiv_n64 {a b : Int32} (h : b.toInt ≠ 0) : vf_n64 (Jvm.FP.ddiv (Jvm.FP.i2d a) (Jvm.FP.i2d b)) := n64_ok (ddiv_ok h)
abbrev shQ (σ : St) (i : Nat) : UInt64 := Jvm.FP.ddiv (Jvm.FP.i2d (σ 0 i)) (Jvm.FP.i2d (aaP σ 6))
def shF (σ : St) (i : Nat) : UInt64 := if 0 < (aaP σ 6).toInt then shQ σ i else Jvm.FP.dconst0
def shM (σ : St) (i : Nat) : UInt64 := if (aaP σ 6).toInt = 0 then Jvm.FP.dconst0 else shQ σ i
theorem shM_ok (σ : St) (i : Nat) : Jvm.FP.Core.val64 (shM σ i) ≠ .nan := by
  unfold shM
  split
  · rw [show Jvm.FP.dconst0 = Jvm.FP.Core.dconst0 from rfl, Jvm.FP.Core.val64_dconst0]; intro q; cases q
  · rename_i h; exact ddiv_ok h
theorem g_iretX {p : Program} {l : Launch} {e : Env} {R : Room} {s : State} {m : MethodId} {args : Array Value} {below : List Frame} {meth : Method} {c : Code} {H : Heap} {locs : List Loc} {cells slots : Nat} {cc : ByteArray} {nL : Nat} {Ts : List Cond} {own : String} {pc : Nat} {ls : Array Slot} {G : GG} {N : Nat} {ad : Nat → Nat} {ct : Nat → va_E} {mc ms : Nat} {S : Type} (hC : CallFix p m c cc nL s args Ts own) (hr : meth.sig.returnType = some .int) (hlocks : meth.locks = false) {post : Int32 → S → Prop} {BB : S → State → Prop} {v : Int32} (u : S) (hY : Sy G N ad ct s H locs) (hcm : cells ≤ mc ∧ slots ≤ ms) (hdg : decode cc pc = .ok (.ireturn, 1)) (hp : post v u) (hB : ∀ t, Sz G N ad ct t → BB u t) : W p l e R s m args below meth c H locs cells slots (MQ below (va_Qi post BB (gF G)) args s mc ms (gF G)) (F0 m pc ls [.int v]) :=
  W.widen hcm.1 hcm.2 (W.iret hC.1 hC.2.1 hr (fun t ht hW => ⟨⟨v, u, rfl, hp, hB t (hY.post ht hW.alike)⟩, hY.2.2.2.1.F ht⟩) hY.2.2.2.1.2.2 hdg hlocks)

set_option maxHeartbeats 4000000 in
set_option maxRecDepth 100000 in
theorem c_X1_share (l : Launch) (G : GG) (ad : Nat → Nat) (σ : St) (n : Nat) (τ : St) (j : Nat) (th : Int32) (o : OL) (od : OD) (hst : l.stackTraces = false) (p0 : Int32)  : vx_Met l yX1_share wsX1_share ({ frames := 8, cells := 6, slots := 36, locals := 160 }) (PcS G ad σ n τ j th o od [.ref (ad 0), .int p0]) (Qd G (3 * n + 23) ad (ctS G ad σ n τ j th o od) (fun r => cdU1 6 p0 = 0 ∧ r = shF σ (ix p0))) (XG G (3 * n + 23) ad (ctS G ad σ n τ j th o od) (fun E => exC E (cdU1 6 p0))) 6 36 (gF G) := by
  refine vx_ofW (cc := cX1_share) (maxL := 3) (ret := (some .double)) (by decide) rfl ?_
  intro p e s m args below meth c s₁ B hml hxt hv
  obtain ⟨rfl, hY⟩ := hv
  have hts := atoms_spec (ws := wsX1_share) B.pre
  have hC : CallFix p m c cX1_share 3 s _ wsX1_share RX1 := ⟨B.exec, B.bytes, hml, findClass_of_methodNamed B.named, hts⟩
  have hx := hC.1
  have hb := hC.2.1
  have hr := B.returns
  have hlocks := B.notSynchronized
  have hin1 : ∀ w ∈ wsX10, w ∈ wsX1_share := by decide +kernel
  have hl := lv_entry ([.ref (ad 0), .int p0]) (n := 3) (Nat.le_of_ble_eq_true rfl)
  rw [lg_entry_eq]
  generalize (lg_sl ([.ref (ad 0), .int p0]) ++ List.replicate (3 - (lg_sl ([.ref (ad 0), .int p0])).length) Slot.unset).toArray = ls at hl ⊢
  have hl : lv_has ls 3 [(0, .ref (ad 0)), (1, .int p0)] := hl
  refine lv_iload_n hx hb dX1_share_0 rfl (lv_at hl 1 rfl) ?_
  refine lv_aload_n hx hb dX1_share_1 rfl (lv_at hl 0 rfl) ?_
  refine gtV_areas hC hin1 hY (by decide +kernel) dX1_share_2 ?_
  refine g_alen hC hY 1 (by omega) 0 rfl rfl (v := 6) rfl dX1_share_5 ?_
  refine gx_callv hY (gx_runS (n := 2) hC (c_X1_checkNumber l G ad σ n τ j th o od hst p0 6 6 rfl) gX1_share_X1_checkNumber rfl ⟨rfl, rfl⟩ (by decide +kernel) ⟨Nat.le_of_ble_eq_true rfl, Nat.le_of_ble_eq_true rfl⟩ hY rfl hl.1 rfl (Nat.le_of_ble_eq_true rfl) dX1_share_6 ⟨Nat.le_of_ble_eq_true rfl, Nat.le_of_ble_eq_true rfl⟩) hxt hlocks ⟨Nat.le_of_ble_eq_true rfl, Nat.le_of_ble_eq_true rfl⟩ (fun E h => Or.inl ⟨h.1, by have q := h.2; unfold cdU1; (repeat' split) <;> first | rfl | omega⟩) (fun H locs h2 hY => ?_)
  refine lv_aload_n hx hb dX1_share_9 rfl (lv_at hl 0 rfl) ?_
  refine g_calli hY (g_runV (n := 0) (q := (RX1, TX1, 5)) (r := 0) hC (c_X1_allAreas l G ad σ n τ j th o od) gX1_share_X1_allAreas rfl ⟨rfl, rfl⟩ (by decide +kernel) ⟨Nat.le_of_ble_eq_true rfl, Nat.le_of_ble_eq_true rfl⟩ hY (by omega) rfl (ci := 1) rfl rfl hl.1 rfl (Nat.le_of_ble_eq_true rfl) dX1_share_10 ⟨Nat.le_of_ble_eq_true rfl, Nat.le_of_ble_eq_true rfl⟩) (fun r3 H locs h4 hY => ?_)
  subst h4
  refine lv_istore_n (lv' := [(2, .int (aaP σ 6)), (0, .ref (ad 0)), (1, .int p0)]) hx hb dX1_share_13 rfl hl (by decide) rfl (fun ls hl => ?_)
  refine lv_iload_n hx hb dX1_share_14 rfl (lv_at hl 0 rfl) ?_
  refine b_if_le (tgt := 31) hx hb dX1_share_15 (by decide) (fun (h5 : (aaP σ 6).toInt ≤ 0) => ?_) (fun (h5 : 0 < (aaP σ 6).toInt) => ?_)
  · refine lv_dconst0 hx hb dX1_share_31 ?_
    exact vx_ret (g_dret hC hr hlocks hY ⟨Nat.le_of_ble_eq_true rfl, Nat.le_of_ble_eq_true rfl⟩ dX1_share_32 (⟨by unfold cdU1; (repeat' split) <;> first | rfl | omega, by unfold shF; exact (if_neg (by omega)).symm⟩))
  · refine lv_aload_n hx hb dX1_share_18 rfl (lv_at hl 1 rfl) ?_
    refine gtV_areas hC hin1 hY (by decide +kernel) dX1_share_19 ?_
    refine lv_iload_n hx hb dX1_share_22 rfl (lv_at hl 2 rfl) ?_
    refine rdA0 hC hY h2 dX1_share_23 ?_
    refine lv_i2d hx hb dX1_share_24 ?_
    refine lv_iload_n hx hb dX1_share_25 rfl (lv_at hl 0 rfl) ?_
    refine lv_i2d hx hb dX1_share_26 ?_
    refine lv_ddiv hx hb dX1_share_27 (ddiv_n64 (by omega)) ?_
    refine lv_goto (tgt := 32) hx hb dX1_share_28 (by decide) ?_
    exact vx_ret (g_dret hC hr hlocks hY ⟨Nat.le_of_ble_eq_true rfl, Nat.le_of_ble_eq_true rfl⟩ dX1_share_32 (⟨by unfold cdU1; (repeat' split) <;> first | rfl | omega, by unfold shF; exact (if_pos h5).symm⟩))

set_option maxHeartbeats 4000000 in
set_option maxRecDepth 100000 in
theorem c_X2_share (l : Launch) (G : GG) (ad : Nat → Nat) (σ : St) (n : Nat) (τ : St) (j : Nat) (th : Int32) (o : OL) (od : OD) (hj : j ≤ 24) (p0 : Int32)  : Met l yX2_share wsX2_share ({ frames := 4, cells := 0, slots := 0, locals := 120 }) (PcS G ad σ n τ j th o od [.ref (ad 5), .int p0]) (Qd G (3 * n + 23) ad (ctS G ad σ n τ j (cdU1 6 p0) o od) (fun r => cdU1 6 p0 = 0 → r = shM τ (ix p0))) 0 0 (gF G) := by
  refine Met.ofW (cc := cX2_share) (maxL := 2) (ret := (some .double)) (by decide) rfl ?_
  intro p e s m args below meth c s₁ B hml hv
  obtain ⟨rfl, hY⟩ := hv
  have hts := atoms_spec (ws := wsX2_share) B.pre
  have hC : CallFix p m c cX2_share 2 s _ wsX2_share RX2 := ⟨B.exec, B.bytes, hml, findClass_of_methodNamed B.named, hts⟩
  have hx := hC.1
  have hb := hC.2.1
  have hr := B.returns
  have hlocks := B.notSynchronized
  have hin2 : ∀ w ∈ wsX20, w ∈ wsX2_share := by decide +kernel
  have hl := lv_entry ([.ref (ad 5), .int p0]) (n := 2) (Nat.le_of_ble_eq_true rfl)
  rw [lg_entry_eq]
  generalize (lg_sl ([.ref (ad 5), .int p0]) ++ List.replicate (2 - (lg_sl ([.ref (ad 5), .int p0])).length) Slot.unset).toArray = ls at hl ⊢
  have hl : lv_has ls 2 [(0, .ref (ad 5)), (1, .int p0)] := hl
  have hnj : (nI j).toInt = (j : Int) := i_nI (by omega)
  refine lv_aload_n hx hb dX2_share_0 rfl (lv_at hl 0 rfl) ?_
  refine lv_iload_n hx hb dX2_share_1 rfl (lv_at hl 1 rfl) ?_
  refine lv_iconst (v := 0) hx hb dX2_share_2 (by decide) ?_
  refine lv_iconst (v := 5) hx hb dX2_share_3 (by decide) ?_
  refine g_calli hY (g_runS (n := 3) hC (c_X2_isIn l G ad σ n τ j th o od p0 0 5 0 5 rfl rfl) gX2_share_X2_isIn rfl ⟨rfl, rfl⟩ (by decide +kernel) ⟨Nat.le_of_ble_eq_true rfl, Nat.le_of_ble_eq_true rfl⟩ hY rfl hl.1 rfl (Nat.le_of_ble_eq_true rfl) dX2_share_4 ⟨Nat.le_of_ble_eq_true rfl, Nat.le_of_ble_eq_true rfl⟩) (fun r1 H locs h2 hY => ?_)
  rcases h2 with ⟨rfl, h3⟩ | ⟨rfl, h3⟩
  · refine b_if_eq (tgt := 14) hx hb dX2_share_7 (by decide) (fun h => absurd h (by decide)) (fun _ => ?_)
    refine lv_iconst (v := 0) hx hb dX2_share_10 (by decide) ?_
    refine lv_goto (tgt := 15) hx hb dX2_share_11 (by decide) ?_
    refine g_calli hY (g_runV (n := 1) (q := (RX2, TX2, 17)) (r := 5) hC (c_X2_holds l G ad σ n τ j th o od 0) gX2_share_X2_holds rfl ⟨rfl, rfl⟩ (by decide +kernel) ⟨Nat.le_of_ble_eq_true rfl, Nat.le_of_ble_eq_true rfl⟩ hY (by omega) rfl (ci := 2) rfl rfl hl.1 rfl (Nat.le_of_ble_eq_true rfl) dX2_share_15 ⟨Nat.le_of_ble_eq_true rfl, Nat.le_of_ble_eq_true rfl⟩) (fun r5 H locs h6 hY => ?_)
    obtain ⟨rfl, -⟩ := h6.resolve_right (fun q => q.2 rfl)
    refine b_if_eq (tgt := 28) hx hb dX2_share_18 (by decide) (fun h => absurd h (by decide)) (fun _ => ?_)
    refine lv_aload_n hx hb dX2_share_21 rfl (lv_at hl 0 rfl) ?_
    refine g_calli hY (g_runV (n := 0) (q := (RX2, TX2, 17)) (r := 5) hC (c_X2_allAreas l G ad σ n τ j 0 o od) gX2_share_X2_allAreas rfl ⟨rfl, rfl⟩ (by decide +kernel) ⟨Nat.le_of_ble_eq_true rfl, Nat.le_of_ble_eq_true rfl⟩ hY (by omega) rfl (ci := 2) rfl rfl hl.1 rfl (Nat.le_of_ble_eq_true rfl) dX2_share_22 ⟨Nat.le_of_ble_eq_true rfl, Nat.le_of_ble_eq_true rfl⟩) (fun r8 H locs h9 hY => ?_)
    subst h9
    refine b_if_ne (tgt := 30) hx hb dX2_share_25 (by decide) (fun (h10 : ¬ (aaP τ 6).toInt = 0) => ?_) (fun (h10 : (aaP τ 6).toInt = 0) => ?_)
    · refine lv_aload_n hx hb dX2_share_30 rfl (lv_at hl 0 rfl) ?_
      refine gtM_areas hC hin2 hY (by decide +kernel) dX2_share_31 ?_
      refine lv_iload_n hx hb dX2_share_34 rfl (lv_at hl 1 rfl) ?_
      refine rdM0 hC hY ⟨by omega, by omega⟩ dX2_share_35 ?_
      refine lv_i2d hx hb dX2_share_36 ?_
      refine lv_aload_n hx hb dX2_share_37 rfl (lv_at hl 0 rfl) ?_
      refine g_calli hY (g_runV (n := 0) (q := (RX2, TX2, 17)) (r := 5) hC (c_X2_allAreas l G ad σ n τ j 0 o od) gX2_share_X2_allAreas rfl ⟨rfl, rfl⟩ (by decide +kernel) ⟨Nat.le_of_ble_eq_true rfl, Nat.le_of_ble_eq_true rfl⟩ hY (by omega) rfl (ci := 2) rfl rfl hl.1 rfl (Nat.le_of_ble_eq_true rfl) dX2_share_38 ⟨Nat.le_of_ble_eq_true rfl, Nat.le_of_ble_eq_true rfl⟩) (fun r11 H locs h12 hY => ?_)
      subst h12
      refine lv_i2d hx hb dX2_share_41 ?_
      refine lv_ddiv hx hb dX2_share_42 (ddiv_n64 h10) ?_
      have hcd : cdU1 6 p0 = 0 := by unfold cdU1; (repeat' split) <;> first | rfl | omega
      rw [hcd]
      exact g_dret hC hr hlocks hY ⟨Nat.le_of_ble_eq_true rfl, Nat.le_of_ble_eq_true rfl⟩ dX2_share_43 (fun _ => by unfold shM; exact (if_neg h10).symm)
    · refine lv_dconst0 hx hb dX2_share_28 ?_
      have hcd : cdU1 6 p0 = 0 := by unfold cdU1; (repeat' split) <;> first | rfl | omega
      rw [hcd]
      exact g_dret hC hr hlocks hY ⟨Nat.le_of_ble_eq_true rfl, Nat.le_of_ble_eq_true rfl⟩ dX2_share_29 (fun _ => by unfold shM; exact (if_pos h10).symm)
  · refine b_if_eq (tgt := 14) hx hb dX2_share_7 (by decide) (fun _ => ?_) (fun h => absurd h (by decide))
    refine lv_iconst (v := 1) hx hb dX2_share_14 (by decide) ?_
    refine g_calli hY (g_runV (n := 1) (q := (RX2, TX2, 17)) (r := 5) hC (c_X2_holds l G ad σ n τ j th o od 1) gX2_share_X2_holds rfl ⟨rfl, rfl⟩ (by decide +kernel) ⟨Nat.le_of_ble_eq_true rfl, Nat.le_of_ble_eq_true rfl⟩ hY (by omega) rfl (ci := 2) rfl rfl hl.1 rfl (Nat.le_of_ble_eq_true rfl) dX2_share_15 ⟨Nat.le_of_ble_eq_true rfl, Nat.le_of_ble_eq_true rfl⟩) (fun r14 H locs h15 hY => ?_)
    obtain ⟨rfl, -⟩ := h15.resolve_left (fun q => absurd q.2 (by decide))
    refine b_if_eq (tgt := 28) hx hb dX2_share_18 (by decide) (fun _ => ?_) (fun h => absurd h (by decide))
    refine lv_dconst0 hx hb dX2_share_28 ?_
    have hcd : cdU1 6 p0 = 1 := by unfold cdU1; (repeat' split) <;> first | rfl | omega
    rw [hcd]
    exact g_dret hC hr hlocks hY ⟨Nat.le_of_ble_eq_true rfl, Nat.le_of_ble_eq_true rfl⟩ dX2_share_29 (fun q => absurd q (by decide))

set_option maxHeartbeats 4000000 in
set_option maxRecDepth 100000 in
theorem c_L_share (l : Launch) (G : GG) (ad : Nat → Nat) (σ : St) (n : Nat) (τ : St) (j : Nat) (th : Int32) (o : OL) (od : OD) (hst : l.stackTraces = false) (p0 : Int32)  : vx_Met l yL_share wsL_share ({ frames := 9, cells := 6, slots := 36, locals := 200 }) (PcS G ad σ n τ j th o od [.ref (ad 0), .int p0, .ref (ad 22)]) (va_Qi (fun r (od1 : OD) => r = cdU1 6 p0 ∧ (cdU1 6 p0 = 0 → od1 0 = shF σ (ix p0))) (fun od1 t => Sz G (3 * n + 23) ad (ctS G ad σ n τ j th o od1) t) (gF G)) (fun _ _ _ => False) 6 36 (gF G) := by
  refine vx_ofWH (cc := cL_share) (maxL := 4) (ret := (some .int)) (hh := [(0, 8, 11, 13)]) (by decide) rfl ?_
  intro p e s m args below meth c s₁ B hml hv
  obtain ⟨rfl, hY⟩ := hv
  have hts := atoms_spec (ws := wsL_share) B.pre
  have hC : CallFix p m c cL_share 4 s _ wsL_share RL := ⟨B.exec, B.bytes, hml, findClass_of_methodNamed B.named, hts⟩
  have hxt := vx_table (x := yL_share) B (hts _ List.mem_cons_self)
  have hx := hC.1
  have hb := hC.2.1
  have hr := B.returns
  have hlocks := B.notSynchronized
  have hl := lv_entry ([.ref (ad 0), .int p0, .ref (ad 22)]) (n := 4) (Nat.le_of_ble_eq_true rfl)
  rw [lg_entry_eq]
  generalize (lg_sl ([.ref (ad 0), .int p0, .ref (ad 22)]) ++ List.replicate (4 - (lg_sl ([.ref (ad 0), .int p0, .ref (ad 22)])).length) Slot.unset).toArray = ls at hl ⊢
  have hl : lv_has ls 4 [(0, .ref (ad 0)), (1, .int p0), (2, .ref (ad 22))] := hl
  refine lv_aload_n hx hb dL_share_0 rfl (lv_at hl 2 rfl) ?_
  refine lv_iconst (v := 0) hx hb dL_share_1 (by decide) ?_
  refine lv_aload_n hx hb dL_share_2 rfl (lv_at hl 0 rfl) ?_
  refine lv_iload_n hx hb dL_share_3 rfl (lv_at hl 1 rfl) ?_
  refine gx_callCd hY (gx_runV (n := 1) (q := (RX1, TX1, 5)) (r := 0) hC (c_X1_share l G ad σ n τ j th o od hst p0) gL_share_X1_share rfl ⟨rfl, rfl⟩ (by decide +kernel) ⟨Nat.le_of_ble_eq_true rfl, Nat.le_of_ble_eq_true rfl⟩ hY (by omega) rfl (ci := 1) rfl rfl hl.1 rfl (Nat.le_of_ble_eq_true rfl) dL_share_4 ⟨Nat.le_of_ble_eq_true rfl, Nat.le_of_ble_eq_true rfl⟩) (fun E H locs q9 ce hex hY hc1 hc2 hc3 => ?_) (fun r1 H locs h2 hY => ?_)
  · rcases hex with ⟨rfl, hcd⟩ | ⟨rfl, hcd⟩ | ⟨rfl, hcd⟩
    · refine g_catch1 hC hY hxt rfl (by decide) (by decide +kernel) hc1 hc2 hc3 ?_
      refine lv_astore_n (lv' := [(3, .ref q9), (0, .ref (ad 0)), (1, .int p0), (2, .ref (ad 22))]) hx hb dL_share_11 rfl hl (by decide) rfl (fun ls hl => ?_)
      refine lv_iconst (v := 1) hx hb dL_share_12 (by decide) ?_
      exact vx_ret (g_iretX hC hr hlocks od hY ⟨Nat.le_of_ble_eq_true rfl, Nat.le_of_ble_eq_true rfl⟩ dL_share_13 ⟨hcd.symm, fun q => absurd (hcd.symm.trans q) (by decide)⟩ (fun t ht => ht))
    · exact absurd hcd (by unfold cdU1; (repeat' split) <;> decide)
    · exact absurd hcd (by unfold cdU1; (repeat' split) <;> decide)
  · obtain ⟨hcd, rfl⟩ := h2
    refine wrOD hC hY dL_share_7 (fun od1 H locs hod hY => ?_)
    refine lv_goto (tgt := 14) hx hb dL_share_8 (by decide) ?_
    refine lv_iconst (v := 0) hx hb dL_share_14 (by decide) ?_
    exact vx_ret (g_iretX hC hr hlocks od1 hY ⟨Nat.le_of_ble_eq_true rfl, Nat.le_of_ble_eq_true rfl⟩ dL_share_15 ⟨hcd.symm, fun _ => hod⟩ (fun t ht => ht))


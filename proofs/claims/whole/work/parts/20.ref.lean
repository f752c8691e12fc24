/-! the reference's helpers -/
set_option maxHeartbeats 4000000 in
set_option maxRecDepth 100000 in
theorem c_X2_thrown (l : Launch) (G : GG) (ad : Nat → Nat) (σ : St) (n : Nat) (τ : St) (j : Nat) (th : Int32) (o : OL) (od : OD)  : Met l yX2_thrown wsX2_thrown ({ frames := 0, cells := 0, slots := 0, locals := 0 }) (PcS G ad σ n τ j th o od [.ref (ad 5)]) (Qi G (3 * n + 23) ad (ctS G ad σ n τ j th o od) (fun r => r = th)) 0 0 (gF G) := by
  refine Met.ofW (cc := cX2_thrown) (maxL := 1) (ret := (some .int)) (by decide) rfl ?_
  intro p e s m args below meth c s₁ B hml hv
  obtain ⟨rfl, hY⟩ := hv
  have hts := atoms_spec (ws := wsX2_thrown) B.pre
  have hC : CallFix p m c cX2_thrown 1 s _ wsX2_thrown RX2 := ⟨B.exec, B.bytes, hml, findClass_of_methodNamed B.named, hts⟩
  have hx := hC.1
  have hb := hC.2.1
  have hr := B.returns
  have hlocks := B.notSynchronized
  have hin2 : ∀ w ∈ wsX20, w ∈ wsX2_thrown := by decide +kernel
  have hl := lv_entry ([.ref (ad 5)]) (n := 1) (Nat.le_of_ble_eq_true rfl)
  rw [lg_entry_eq]
  generalize (lg_sl ([.ref (ad 5)]) ++ List.replicate (1 - (lg_sl ([.ref (ad 5)])).length) Slot.unset).toArray = ls at hl ⊢
  have hl : lv_has ls 1 [(0, .ref (ad 5))] := hl
  refine lv_aload_n hx hb dX2_thrown_0 rfl (lv_at hl 0 rfl) ?_
  refine gtM_thrown hC hin2 hY (by decide +kernel) dX2_thrown_1 ?_
  exact g_iret hC hr hlocks hY ⟨Nat.le_of_ble_eq_true rfl, Nat.le_of_ble_eq_true rfl⟩ dX2_thrown_4 (rfl)

set_option maxHeartbeats 4000000 in
set_option maxRecDepth 100000 in
theorem c_X2_holds (l : Launch) (G : GG) (ad : Nat → Nat) (σ : St) (n : Nat) (τ : St) (j : Nat) (th : Int32) (o : OL) (od : OD) (p0 : Int32)  : Met l yX2_holds wsX2_holds ({ frames := 0, cells := 0, slots := 0, locals := 0 }) (PcS G ad σ n τ j th o od [.ref (ad 5), .int p0]) (Qi G (3 * n + 23) ad (ctS G ad σ n τ j p0 o od) (fun r => (r = 1 ∧ p0.toInt = 0) ∨ (r = 0 ∧ ¬ p0.toInt = 0))) 0 0 (gF G) := by
  refine Met.ofW (cc := cX2_holds) (maxL := 2) (ret := (some .boolean)) (by decide) rfl ?_
  intro p e s m args below meth c s₁ B hml hv
  obtain ⟨rfl, hY⟩ := hv
  have hts := atoms_spec (ws := wsX2_holds) B.pre
  have hC : CallFix p m c cX2_holds 2 s _ wsX2_holds RX2 := ⟨B.exec, B.bytes, hml, findClass_of_methodNamed B.named, hts⟩
  have hx := hC.1
  have hb := hC.2.1
  have hr := B.returns
  have hlocks := B.notSynchronized
  have hin2 : ∀ w ∈ wsX20, w ∈ wsX2_holds := by decide +kernel
  have hl := lv_entry ([.ref (ad 5), .int p0]) (n := 2) (Nat.le_of_ble_eq_true rfl)
  rw [lg_entry_eq]
  generalize (lg_sl ([.ref (ad 5), .int p0]) ++ List.replicate (2 - (lg_sl ([.ref (ad 5), .int p0])).length) Slot.unset).toArray = ls at hl ⊢
  have hl : lv_has ls 2 [(0, .ref (ad 5)), (1, .int p0)] := hl
  refine lv_aload_n hx hb dX2_holds_0 rfl (lv_at hl 0 rfl) ?_
  refine lv_iload_n hx hb dX2_holds_1 rfl (lv_at hl 1 rfl) ?_
  refine ptM_thrown hC hin2 hY (by decide +kernel) dX2_holds_2 (fun H locs hY => ?_)
  refine lv_iload_n hx hb dX2_holds_5 rfl (lv_at hl 1 rfl) ?_
  refine b_if_ne (tgt := 13) hx hb dX2_holds_6 (by decide) (fun (h1 : ¬ p0.toInt = 0) => ?_) (fun (h1 : p0.toInt = 0) => ?_)
  · refine lv_iconst (v := 0) hx hb dX2_holds_13 (by decide) ?_
    exact g_zret hC hr hlocks rfl hY ⟨Nat.le_of_ble_eq_true rfl, Nat.le_of_ble_eq_true rfl⟩ dX2_holds_14 (Or.inr ⟨rfl, by omega⟩)
  · refine lv_iconst (v := 1) hx hb dX2_holds_9 (by decide) ?_
    refine lv_goto (tgt := 14) hx hb dX2_holds_10 (by decide) ?_
    exact g_zret hC hr hlocks rfl hY ⟨Nat.le_of_ble_eq_true rfl, Nat.le_of_ble_eq_true rfl⟩ dX2_holds_14 (Or.inl ⟨rfl, by omega⟩)

set_option maxHeartbeats 4000000 in
set_option maxRecDepth 100000 in
theorem c_X2_isIn (l : Launch) (G : GG) (ad : Nat → Nat) (σ : St) (n : Nat) (τ : St) (j : Nat) (th : Int32) (o : OL) (od : OD) (p0 p1 p2 : Int32) (a b : Int) (ha : p1.toInt = a) (hb9 : p2.toInt = b)  : Met l yX2_isIn wsX2_isIn ({ frames := 0, cells := 0, slots := 0, locals := 0 }) (PcS G ad σ n τ j th o od [.int p0, .int p1, .int p2]) (Qi G (3 * n + 23) ad (ctS G ad σ n τ j th o od) (fun r => (r = 1 ∧ a ≤ p0.toInt ∧ p0.toInt ≤ b) ∨ (r = 0 ∧ ¬ (a ≤ p0.toInt ∧ p0.toInt ≤ b)))) 0 0 (gF G) := by
  refine Met.ofW (cc := cX2_isIn) (maxL := 3) (ret := (some .boolean)) (by decide) rfl ?_
  intro p e s m args below meth c s₁ B hml hv
  obtain ⟨rfl, hY⟩ := hv
  have hts := atoms_spec (ws := wsX2_isIn) B.pre
  have hC : CallFix p m c cX2_isIn 3 s _ wsX2_isIn RX2 := ⟨B.exec, B.bytes, hml, findClass_of_methodNamed B.named, hts⟩
  have hx := hC.1
  have hb := hC.2.1
  have hr := B.returns
  have hlocks := B.notSynchronized
  have hl := lv_entry ([.int p0, .int p1, .int p2]) (n := 3) (Nat.le_of_ble_eq_true rfl)
  rw [lg_entry_eq]
  generalize (lg_sl ([.int p0, .int p1, .int p2]) ++ List.replicate (3 - (lg_sl ([.int p0, .int p1, .int p2])).length) Slot.unset).toArray = ls at hl ⊢
  have hl : lv_has ls 3 [(0, .int p0), (1, .int p1), (2, .int p2)] := hl
  refine lv_iload_n hx hb dX2_isIn_0 rfl (lv_at hl 0 rfl) ?_
  refine lv_iload_n hx hb dX2_isIn_1 rfl (lv_at hl 1 rfl) ?_
  refine b_icmp_lt (tgt := 14) hx hb dX2_isIn_2 (by decide) (fun (h1 : p0.toInt < p1.toInt) => ?_) (fun (h1 : p1.toInt ≤ p0.toInt) => ?_)
  · refine lv_iconst (v := 0) hx hb dX2_isIn_14 (by decide) ?_
    exact g_zret hC hr hlocks rfl hY ⟨Nat.le_of_ble_eq_true rfl, Nat.le_of_ble_eq_true rfl⟩ dX2_isIn_15 (Or.inr ⟨rfl, by omega⟩)
  · refine lv_iload_n hx hb dX2_isIn_5 rfl (lv_at hl 0 rfl) ?_
    refine lv_iload_n hx hb dX2_isIn_6 rfl (lv_at hl 2 rfl) ?_
    refine b_icmp_gt (tgt := 14) hx hb dX2_isIn_7 (by decide) (fun (h2 : p2.toInt < p0.toInt) => ?_) (fun (h2 : p0.toInt ≤ p2.toInt) => ?_)
    · refine lv_iconst (v := 0) hx hb dX2_isIn_14 (by decide) ?_
      exact g_zret hC hr hlocks rfl hY ⟨Nat.le_of_ble_eq_true rfl, Nat.le_of_ble_eq_true rfl⟩ dX2_isIn_15 (Or.inr ⟨rfl, by omega⟩)
    · refine lv_iconst (v := 1) hx hb dX2_isIn_10 (by decide) ?_
      refine lv_goto (tgt := 15) hx hb dX2_isIn_11 (by decide) ?_
      exact g_zret hC hr hlocks rfl hY ⟨Nat.le_of_ble_eq_true rfl, Nat.le_of_ble_eq_true rfl⟩ dX2_isIn_15 (Or.inl ⟨rfl, by omega, by omega⟩)

set_option maxHeartbeats 4000000 in
set_option maxRecDepth 100000 in
theorem c_X2_isLease (l : Launch) (G : GG) (ad : Nat → Nat) (σ : St) (n : Nat) (τ : St) (j : Nat) (th : Int32) (o : OL) (od : OD) (hj : j ≤ 24) (p0 : Int32)  : Met l yX2_isLease wsX2_isLease ({ frames := 1, cells := 0, slots := 0, locals := 30 }) (PcS G ad σ n τ j th o od [.ref (ad 5), .int p0]) (Qi G (3 * n + 23) ad (ctS G ad σ n τ j th o od) (fun r => (r = 1 ∧ 0 ≤ p0.toInt ∧ p0.toInt < (j : Int)) ∨ (r = 0 ∧ ¬ (0 ≤ p0.toInt ∧ p0.toInt < (j : Int))))) 0 0 (gF G) := by
  refine Met.ofW (cc := cX2_isLease) (maxL := 2) (ret := (some .boolean)) (by decide) rfl ?_
  intro p e s m args below meth c s₁ B hml hv
  obtain ⟨rfl, hY⟩ := hv
  have hts := atoms_spec (ws := wsX2_isLease) B.pre
  have hC : CallFix p m c cX2_isLease 2 s _ wsX2_isLease RX2 := ⟨B.exec, B.bytes, hml, findClass_of_methodNamed B.named, hts⟩
  have hx := hC.1
  have hb := hC.2.1
  have hr := B.returns
  have hlocks := B.notSynchronized
  have hin2 : ∀ w ∈ wsX20, w ∈ wsX2_isLease := by decide +kernel
  have hl := lv_entry ([.ref (ad 5), .int p0]) (n := 2) (Nat.le_of_ble_eq_true rfl)
  rw [lg_entry_eq]
  generalize (lg_sl ([.ref (ad 5), .int p0]) ++ List.replicate (2 - (lg_sl ([.ref (ad 5), .int p0])).length) Slot.unset).toArray = ls at hl ⊢
  have hl : lv_has ls 2 [(0, .ref (ad 5)), (1, .int p0)] := hl
  have hnj : (nI j).toInt = (j : Int) := i_nI (by omega)
  refine lv_iload_n hx hb dX2_isLease_0 rfl (lv_at hl 1 rfl) ?_
  refine lv_iconst (v := 0) hx hb dX2_isLease_1 (by decide) ?_
  refine lv_aload_n hx hb dX2_isLease_2 rfl (lv_at hl 0 rfl) ?_
  refine gtM_leases hC hin2 hY (by decide +kernel) dX2_isLease_3 ?_
  refine lv_iconst (v := 1) hx hb dX2_isLease_6 (by decide) ?_
  refine lv_isub hx hb dX2_isLease_7 ?_
  refine g_calli hY (g_runS (n := 3) hC (c_X2_isIn l G ad σ n τ j th o od p0 0 ((nI j) - 1) 0 ((j : Int) - 1) rfl (by rw [i_sub1 (by omega), hnj])) gX2_isLease_X2_isIn rfl ⟨rfl, rfl⟩ (by decide +kernel) ⟨Nat.le_of_ble_eq_true rfl, Nat.le_of_ble_eq_true rfl⟩ hY rfl hl.1 rfl (Nat.le_of_ble_eq_true rfl) dX2_isLease_8 ⟨Nat.le_of_ble_eq_true rfl, Nat.le_of_ble_eq_true rfl⟩) (fun r1 H locs h2 hY => ?_)
  rcases h2 with ⟨rfl, h3⟩ | ⟨rfl, h3⟩
  · exact g_zret hC hr hlocks rfl hY ⟨Nat.le_of_ble_eq_true rfl, Nat.le_of_ble_eq_true rfl⟩ dX2_isLease_11 (Or.inl ⟨rfl, by omega, by omega⟩)
  · exact g_zret hC hr hlocks rfl hY ⟨Nat.le_of_ble_eq_true rfl, Nat.le_of_ble_eq_true rfl⟩ dX2_isLease_11 (Or.inr ⟨rfl, by omega⟩)

def ilP (τ : St) (u f t : Int32) : Nat → Int32
  | 0 => 0
  | i + 1 => if ¬ (ilP τ u f t i).toInt = 0 ∨ ((τ 3 i).toInt = u.toInt ∧ (τ 4 i).toInt < t.toInt ∧ f.toInt < (τ 5 i).toInt) then 1 else 0
theorem ilP_01 {τ : St} {u f t : Int32} : ∀ i, ilP τ u f t i = 0 ∨ ilP τ u f t i = 1 := by
  intro i
  cases i with
  | zero => exact Or.inl rfl
  | succ i =>
    rw [ilP]
    split
    · exact Or.inr rfl
    · exact Or.inl rfl
set_option maxHeartbeats 4000000 in
set_option maxRecDepth 100000 in
theorem c_X2_isLet (l : Launch) (G : GG) (ad : Nat → Nat) (σ : St) (n : Nat) (τ : St) (j : Nat) (th : Int32) (o : OL) (od : OD) (hj : j ≤ 24) (p0 p1 p2 : Int32)  : Met l yX2_isLet wsX2_isLet ({ frames := 0, cells := 0, slots := 0, locals := 0 }) (PcS G ad σ n τ j th o od [.ref (ad 5), .int p0, .int p1, .int p2]) (Qi G (3 * n + 23) ad (ctS G ad σ n τ j th o od) (fun r => (r = 1 ∧ ¬ (ilP τ p0 p1 p2 j).toInt = 0) ∨ (r = 0 ∧ (ilP τ p0 p1 p2 j).toInt = 0))) 0 0 (gF G) := by
  refine Met.ofW (cc := cX2_isLet) (maxL := 6) (ret := (some .boolean)) (by decide) rfl ?_
  intro p e s m args below meth c s₁ B hml hv
  obtain ⟨rfl, hY⟩ := hv
  have hts := atoms_spec (ws := wsX2_isLet) B.pre
  have hC : CallFix p m c cX2_isLet 6 s _ wsX2_isLet RX2 := ⟨B.exec, B.bytes, hml, findClass_of_methodNamed B.named, hts⟩
  have hx := hC.1
  have hb := hC.2.1
  have hr := B.returns
  have hlocks := B.notSynchronized
  have hin2 : ∀ w ∈ wsX20, w ∈ wsX2_isLet := by decide +kernel
  have hl := lv_entry ([.ref (ad 5), .int p0, .int p1, .int p2]) (n := 6) (Nat.le_of_ble_eq_true rfl)
  rw [lg_entry_eq]
  generalize (lg_sl ([.ref (ad 5), .int p0, .int p1, .int p2]) ++ List.replicate (6 - (lg_sl ([.ref (ad 5), .int p0, .int p1, .int p2])).length) Slot.unset).toArray = ls at hl ⊢
  have hl : lv_has ls 6 [(0, .ref (ad 5)), (1, .int p0), (2, .int p1), (3, .int p2)] := hl
  have hnj : (nI j).toInt = (j : Int) := i_nI (by omega)
  refine lv_iconst (v := 0) hx hb dX2_isLet_0 (by decide) ?_
  refine lv_istore (lv' := [(4, .int 0), (0, .ref (ad 5)), (1, .int p0), (2, .int p1), (3, .int p2)]) hx hb dX2_isLet_1 hl (by decide) rfl (fun ls hl => ?_)
  refine lv_iconst (v := 0) hx hb dX2_isLet_3 (by decide) ?_
  refine lv_istore (lv' := [(5, .int 0), (4, .int 0), (0, .ref (ad 5)), (1, .int p0), (2, .int p1), (3, .int p2)]) hx hb dX2_isLet_4 hl (by decide) rfl (fun ls hl => ?_)
  refine w_loop (X := Int32 × Int32) (fun i x H locs ls => match x with | (x5, x4) => (x5.toInt = i ∧ i ≤ j ∧ x4 = ilP τ p0 p1 p2 i) ∧ SyS G ad σ n τ j th o od s H locs ∧ lv_has ls 6 [(5, .int x5), (4, .int x4), (0, .ref (ad 5)), (1, .int p0), (2, .int p1), (3, .int p2)]) (24) ?_ ?_ ((0, 0)) ⟨⟨rfl, Nat.zero_le _, rfl⟩, hY, lv_sub hl [0, 1, 2, 3, 4, 5] rfl⟩
  · intro i x H locs ls hI ih
    obtain ⟨x5, x4⟩ := x
    obtain ⟨hI, hY, hl⟩ := hI
    obtain ⟨h9, h8, e⟩ := hI
    refine lv_iload hx hb dX2_isLet_6 (lv_at hl 0 rfl) ?_
    refine lv_aload_n hx hb dX2_isLet_8 rfl (lv_at hl 2 rfl) ?_
    refine gtM_leases hC hin2 hY (by decide +kernel) dX2_isLet_9 ?_
    refine b_icmp_ge (tgt := 66) hx hb dX2_isLet_12 (by decide) (fun (h1 : (nI j).toInt ≤ x5.toInt) => ?_) (fun (h1 : x5.toInt < (nI j).toInt) => ?_)
    · have h01 : x4 = 0 ∨ x4 = 1 := by rw [e]; exact ilP_01 _
      rcases h01 with h01 | h01
      · rw [h01] at e hl
        refine lv_iload hx hb dX2_isLet_66 (lv_at hl 1 rfl) ?_
        exact g_zret hC hr hlocks rfl hY ⟨Nat.le_of_ble_eq_true rfl, Nat.le_of_ble_eq_true rfl⟩ dX2_isLet_68 (Or.inr ⟨rfl, by rw [show j = i by omega, ← e]; decide⟩)
      · rw [h01] at e hl
        refine lv_iload hx hb dX2_isLet_66 (lv_at hl 1 rfl) ?_
        exact g_zret hC hr hlocks rfl hY ⟨Nat.le_of_ble_eq_true rfl, Nat.le_of_ble_eq_true rfl⟩ dX2_isLet_68 (Or.inl ⟨rfl, by rw [show j = i by omega, ← e]; decide⟩)
    · refine lv_iload hx hb dX2_isLet_15 (lv_at hl 1 rfl) ?_
      refine b_if_ne (tgt := 53) hx hb dX2_isLet_17 (by decide) (fun (h2 : ¬ x4.toInt = 0) => ?_) (fun (h2 : x4.toInt = 0) => ?_)
      · refine lv_iconst (v := 1) hx hb dX2_isLet_53 (by decide) ?_
        refine lv_goto (tgt := 58) hx hb dX2_isLet_54 (by decide) ?_
        refine lv_istore (lv' := [(4, .int 1), (5, .int x5), (0, .ref (ad 5)), (1, .int p0), (2, .int p1), (3, .int p2)]) hx hb dX2_isLet_58 hl (by decide) rfl (fun ls hl => ?_)
        refine lv_iinc (v := x5 + 1) (lv' := [(5, .int (x5 + 1)), (4, .int 1), (0, .ref (ad 5)), (1, .int p0), (2, .int p1), (3, .int p2)]) hx hb dX2_isLet_60 hl (k := 1) rfl rfl (by decide) rfl (fun ls hl => ?_)
        refine lv_goto (tgt := 6) hx hb dX2_isLet_63 (by decide) ?_
        have hix : ix x5 = i := i_ix h9
        exact ih (x5 + 1, 1) _ _ _ ⟨⟨by rw [i_add (by have : (1 : Int32).toInt = 1 := rfl; omega)]; have : (1 : Int32).toInt = 1 := rfl; omega, by omega, by rw [ilP, ← e, ← hix]; exact (if_pos (by omega)).symm⟩, hY, lv_sub hl [0, 1, 2, 3, 4, 5] rfl⟩
      · refine lv_aload_n hx hb dX2_isLet_20 rfl (lv_at hl 2 rfl) ?_
        refine gtM_units hC hin2 hY (by decide +kernel) dX2_isLet_21 ?_
        refine lv_iload hx hb dX2_isLet_24 (lv_at hl 0 rfl) ?_
        refine rdM3 hC hY ⟨by omega, by omega⟩ dX2_isLet_26 ?_
        refine lv_iload_n hx hb dX2_isLet_27 rfl (lv_at hl 3 rfl) ?_
        refine b_icmp_ne (tgt := 57) hx hb dX2_isLet_28 (by decide) (fun (h3 : ¬ (τ 3 (ix x5)).toInt = p0.toInt) => ?_) (fun (h3 : (τ 3 (ix x5)).toInt = p0.toInt) => ?_)
        · refine lv_iconst (v := 0) hx hb dX2_isLet_57 (by decide) ?_
          refine lv_istore (lv' := [(4, .int 0), (5, .int x5), (0, .ref (ad 5)), (1, .int p0), (2, .int p1), (3, .int p2)]) hx hb dX2_isLet_58 hl (by decide) rfl (fun ls hl => ?_)
          refine lv_iinc (v := x5 + 1) (lv' := [(5, .int (x5 + 1)), (4, .int 0), (0, .ref (ad 5)), (1, .int p0), (2, .int p1), (3, .int p2)]) hx hb dX2_isLet_60 hl (k := 1) rfl rfl (by decide) rfl (fun ls hl => ?_)
          refine lv_goto (tgt := 6) hx hb dX2_isLet_63 (by decide) ?_
          have hix : ix x5 = i := i_ix h9
          exact ih (x5 + 1, 0) _ _ _ ⟨⟨by rw [i_add (by have : (1 : Int32).toInt = 1 := rfl; omega)]; have : (1 : Int32).toInt = 1 := rfl; omega, by omega, by rw [ilP, ← e, ← hix]; exact (if_neg (by omega)).symm⟩, hY, lv_sub hl [0, 1, 2, 3, 4, 5] rfl⟩
        · refine lv_aload_n hx hb dX2_isLet_31 rfl (lv_at hl 2 rfl) ?_
          refine gtM_froms hC hin2 hY (by decide +kernel) dX2_isLet_32 ?_
          refine lv_iload hx hb dX2_isLet_35 (lv_at hl 0 rfl) ?_
          refine rdM4 hC hY ⟨by omega, by omega⟩ dX2_isLet_37 ?_
          refine lv_iload_n hx hb dX2_isLet_38 rfl (lv_at hl 5 rfl) ?_
          refine b_icmp_ge (tgt := 57) hx hb dX2_isLet_39 (by decide) (fun (h4 : p2.toInt ≤ (τ 4 (ix x5)).toInt) => ?_) (fun (h4 : (τ 4 (ix x5)).toInt < p2.toInt) => ?_)
          · refine lv_iconst (v := 0) hx hb dX2_isLet_57 (by decide) ?_
            refine lv_istore (lv' := [(4, .int 0), (5, .int x5), (0, .ref (ad 5)), (1, .int p0), (2, .int p1), (3, .int p2)]) hx hb dX2_isLet_58 hl (by decide) rfl (fun ls hl => ?_)
            refine lv_iinc (v := x5 + 1) (lv' := [(5, .int (x5 + 1)), (4, .int 0), (0, .ref (ad 5)), (1, .int p0), (2, .int p1), (3, .int p2)]) hx hb dX2_isLet_60 hl (k := 1) rfl rfl (by decide) rfl (fun ls hl => ?_)
            refine lv_goto (tgt := 6) hx hb dX2_isLet_63 (by decide) ?_
            have hix : ix x5 = i := i_ix h9
            exact ih (x5 + 1, 0) _ _ _ ⟨⟨by rw [i_add (by have : (1 : Int32).toInt = 1 := rfl; omega)]; have : (1 : Int32).toInt = 1 := rfl; omega, by omega, by rw [ilP, ← e, ← hix]; exact (if_neg (by omega)).symm⟩, hY, lv_sub hl [0, 1, 2, 3, 4, 5] rfl⟩
          · refine lv_iload_n hx hb dX2_isLet_42 rfl (lv_at hl 4 rfl) ?_
            refine lv_aload_n hx hb dX2_isLet_43 rfl (lv_at hl 2 rfl) ?_
            refine gtM_tos hC hin2 hY (by decide +kernel) dX2_isLet_44 ?_
            refine lv_iload hx hb dX2_isLet_47 (lv_at hl 0 rfl) ?_
            refine rdM5 hC hY ⟨by omega, by omega⟩ dX2_isLet_49 ?_
            refine b_icmp_ge (tgt := 57) hx hb dX2_isLet_50 (by decide) (fun (h5 : (τ 5 (ix x5)).toInt ≤ p1.toInt) => ?_) (fun (h5 : p1.toInt < (τ 5 (ix x5)).toInt) => ?_)
            · refine lv_iconst (v := 0) hx hb dX2_isLet_57 (by decide) ?_
              refine lv_istore (lv' := [(4, .int 0), (5, .int x5), (0, .ref (ad 5)), (1, .int p0), (2, .int p1), (3, .int p2)]) hx hb dX2_isLet_58 hl (by decide) rfl (fun ls hl => ?_)
              refine lv_iinc (v := x5 + 1) (lv' := [(5, .int (x5 + 1)), (4, .int 0), (0, .ref (ad 5)), (1, .int p0), (2, .int p1), (3, .int p2)]) hx hb dX2_isLet_60 hl (k := 1) rfl rfl (by decide) rfl (fun ls hl => ?_)
              refine lv_goto (tgt := 6) hx hb dX2_isLet_63 (by decide) ?_
              have hix : ix x5 = i := i_ix h9
              exact ih (x5 + 1, 0) _ _ _ ⟨⟨by rw [i_add (by have : (1 : Int32).toInt = 1 := rfl; omega)]; have : (1 : Int32).toInt = 1 := rfl; omega, by omega, by rw [ilP, ← e, ← hix]; exact (if_neg (by omega)).symm⟩, hY, lv_sub hl [0, 1, 2, 3, 4, 5] rfl⟩
            · refine lv_iconst (v := 1) hx hb dX2_isLet_53 (by decide) ?_
              refine lv_goto (tgt := 58) hx hb dX2_isLet_54 (by decide) ?_
              refine lv_istore (lv' := [(4, .int 1), (5, .int x5), (0, .ref (ad 5)), (1, .int p0), (2, .int p1), (3, .int p2)]) hx hb dX2_isLet_58 hl (by decide) rfl (fun ls hl => ?_)
              refine lv_iinc (v := x5 + 1) (lv' := [(5, .int (x5 + 1)), (4, .int 1), (0, .ref (ad 5)), (1, .int p0), (2, .int p1), (3, .int p2)]) hx hb dX2_isLet_60 hl (k := 1) rfl rfl (by decide) rfl (fun ls hl => ?_)
              refine lv_goto (tgt := 6) hx hb dX2_isLet_63 (by decide) ?_
              have hix : ix x5 = i := i_ix h9
              exact ih (x5 + 1, 1) _ _ _ ⟨⟨by rw [i_add (by have : (1 : Int32).toInt = 1 := rfl; omega)]; have : (1 : Int32).toInt = 1 := rfl; omega, by omega, by rw [ilP, ← e, ← hix]; exact (if_pos (by omega)).symm⟩, hY, lv_sub hl [0, 1, 2, 3, 4, 5] rfl⟩
  · intro i x H locs ls hI
    obtain ⟨x5, x4⟩ := x
    obtain ⟨hI, -, -⟩ := hI
    obtain ⟨h9, h8, e⟩ := hI
    omega

theorem rowF_lt {σ : St} {a k i : Nat} (h : i < 6) : rowF σ a k i = σ a (6 * k + i) := if_pos h
theorem six {p x : Int32} {k i : Nat} (hp : p.toInt = (k : Int)) (hx : x.toInt = (i : Int)) (hk : k < 24) (hi : i ≤ 6) : (6 * p + x).toInt = ((6 * k + i : Nat) : Int) := by
  have h6 : (6 : Int32).toInt = 6 := rfl
  have h1 : (6 * p).toInt = 6 * p.toInt := by rw [i_mul (by rw [h6]; omega), h6]
  rw [i_add (by rw [h1]; omega), h1]; omega
theorem six0 {p : Int32} {k : Nat} (hp : p.toInt = (k : Int)) (hk : k < 24) : (6 * p).toInt = ((6 * k : Nat) : Int) := by
  have h6 : (6 : Int32).toInt = 6 := rfl
  rw [i_mul (by rw [h6]; omega), h6]; omega
set_option maxHeartbeats 4000000 in
set_option maxRecDepth 100000 in
theorem c_X2_placeOf (l : Launch) (G : GG) (ad : Nat → Nat) (σ : St) (n : Nat) (τ : St) (j : Nat) (th : Int32) (o : OL) (od : OD) (hj : j ≤ 24) (hI : ∀ k, k < j → okL τ k) (p0 p1 : Int32) (h0 : 0 ≤ p0.toInt ∧ p0.toInt < (j : Int))  : Met l yX2_placeOf wsX2_placeOf ({ frames := 0, cells := 0, slots := 0, locals := 0 }) (PcS G ad σ n τ j th o od [.ref (ad 5), .int p0, .int p1]) (Qi G (3 * n + 23) ad (ctS G ad σ n τ j th o od) (fun r => r.toInt = (plF τ (ix p0) p1 : Int))) 0 0 (gF G) := by
  refine Met.ofW (cc := cX2_placeOf) (maxL := 4) (ret := (some .int)) (by decide) rfl ?_
  intro p e s m args below meth c s₁ B hml hv
  obtain ⟨rfl, hY⟩ := hv
  have hts := atoms_spec (ws := wsX2_placeOf) B.pre
  have hC : CallFix p m c cX2_placeOf 4 s _ wsX2_placeOf RX2 := ⟨B.exec, B.bytes, hml, findClass_of_methodNamed B.named, hts⟩
  have hx := hC.1
  have hb := hC.2.1
  have hr := B.returns
  have hlocks := B.notSynchronized
  have hin2 : ∀ w ∈ wsX20, w ∈ wsX2_placeOf := by decide +kernel
  have hl := lv_entry ([.ref (ad 5), .int p0, .int p1]) (n := 4) (Nat.le_of_ble_eq_true rfl)
  rw [lg_entry_eq]
  generalize (lg_sl ([.ref (ad 5), .int p0, .int p1]) ++ List.replicate (4 - (lg_sl ([.ref (ad 5), .int p0, .int p1])).length) Slot.unset).toArray = ls at hl ⊢
  have hl : lv_has ls 4 [(0, .ref (ad 5)), (1, .int p0), (2, .int p1)] := hl
  have hnj : (nI j).toInt = (j : Int) := i_nI (by omega)
  have hpk : p0.toInt = (ix p0 : Int) := (ix_toInt h0.1).symm
  have hkj : ix p0 < j := ix_lt h0
  have hsx := okL_s (hI _ hkj)
  have hs1 := hsx.1
  have hs2 := hsx.2
  refine lv_iconst (v := 0) hx hb dX2_placeOf_0 (by decide) ?_
  refine lv_istore_n (lv' := [(3, .int 0), (0, .ref (ad 5)), (1, .int p0), (2, .int p1)]) hx hb dX2_placeOf_1 rfl hl (by decide) rfl (fun ls hl => ?_)
  refine w_loop (X := Int32) (fun i x H locs ls => match x with | x3 => (x3.toInt = i ∧ (i : Int) ≤ (τ 12 (ix p0)).toInt ∧ plG τ (ix p0) p1 (stN τ (ix p0) - i) i = plF τ (ix p0) p1) ∧ SyS G ad σ n τ j th o od s H locs ∧ lv_has ls 4 [(3, .int x3), (0, .ref (ad 5)), (1, .int p0), (2, .int p1)]) (6) ?_ ?_ (0) ⟨⟨rfl, hs1, rfl⟩, hY, lv_sub hl [0, 1, 2, 3] rfl⟩
  · intro i x H locs ls hI ih
    obtain ⟨x3, rfl⟩ : ∃ z, z = x := ⟨_, rfl⟩
    obtain ⟨hI, hY, hl⟩ := hI
    obtain ⟨h9, h8, e⟩ := hI
    refine lv_iload_n hx hb dX2_placeOf_2 rfl (lv_at hl 0 rfl) ?_
    refine lv_aload_n hx hb dX2_placeOf_3 rfl (lv_at hl 1 rfl) ?_
    refine gtM_steps hC hin2 hY (by decide +kernel) dX2_placeOf_4 ?_
    refine lv_iload_n hx hb dX2_placeOf_7 rfl (lv_at hl 2 rfl) ?_
    refine rdM12 hC hY ⟨by omega, by omega⟩ dX2_placeOf_8 ?_
    refine b_icmp_ge (tgt := 33) hx hb dX2_placeOf_9 (by decide) (fun (h1 : (τ 12 (ix p0)).toInt ≤ x3.toInt) => ?_) (fun (h1 : x3.toInt < (τ 12 (ix p0)).toInt) => ?_)
    · refine lv_iload_n hx hb dX2_placeOf_33 rfl (lv_at hl 0 rfl) ?_
      exact g_iret hC hr hlocks hY ⟨Nat.le_of_ble_eq_true rfl, Nat.le_of_ble_eq_true rfl⟩ dX2_placeOf_34 (by rw [← e, show stN τ (ix p0) - i = 0 by (unfold stN; omega)]; exact h9)
    · refine lv_aload_n hx hb dX2_placeOf_12 rfl (lv_at hl 1 rfl) ?_
      refine gtM_stepDays hC hin2 hY (by decide +kernel) dX2_placeOf_13 ?_
      refine lv_bipush (v := 6) hx hb dX2_placeOf_16 (by decide) ?_
      refine lv_iload_n hx hb dX2_placeOf_18 rfl (lv_at hl 2 rfl) ?_
      refine lv_imul hx hb dX2_placeOf_19 ?_
      refine lv_iload_n hx hb dX2_placeOf_20 rfl (lv_at hl 0 rfl) ?_
      refine lv_iadd hx hb dX2_placeOf_21 ?_
      refine rdM13 hC hY (by rw [six hpk h9 (by omega) (by omega)]; exact ⟨by omega, by omega⟩) dX2_placeOf_22 ?_
      refine lv_iload_n hx hb dX2_placeOf_23 rfl (lv_at hl 3 rfl) ?_
      refine b_icmp_eq (tgt := 33) hx hb dX2_placeOf_24 (by decide) (fun (h2 : (τ 13 (ix ((6 * p0) + x3))).toInt = p1.toInt) => ?_) (fun (h2 : ¬ (τ 13 (ix ((6 * p0) + x3))).toInt = p1.toInt) => ?_)
      · refine lv_iload_n hx hb dX2_placeOf_33 rfl (lv_at hl 0 rfl) ?_
        have h66 := six hpk h9 (by omega) (by omega)
        have hf : stN τ (ix p0) - i = (stN τ (ix p0) - (i + 1)) + 1 := by unfold stN; omega
        exact g_iret hC hr hlocks hY ⟨Nat.le_of_ble_eq_true rfl, Nat.le_of_ble_eq_true rfl⟩ dX2_placeOf_34 (by rw [← e, hf, plG_s, if_pos (by rw [rowF_lt (by omega)]; rw [i_ix h66] at h2; exact h2)]; exact h9)
      · refine lv_iinc (v := x3 + 1) (lv' := [(3, .int (x3 + 1)), (0, .ref (ad 5)), (1, .int p0), (2, .int p1)]) hx hb dX2_placeOf_27 hl (k := 0) rfl rfl (by decide) rfl (fun ls hl => ?_)
        refine lv_goto (tgt := 2) hx hb dX2_placeOf_30 (by decide) ?_
        have h66 := six hpk h9 (by omega) (by omega)
        have hne : ¬ (rowF τ 13 (ix p0) i).toInt = p1.toInt := by rw [rowF_lt (by omega)]; rw [i_ix h66] at h2; exact h2
        have hf : stN τ (ix p0) - i = (stN τ (ix p0) - (i + 1)) + 1 := by unfold stN; omega
        exact ih (x3 + 1) _ _ _ ⟨⟨by rw [i_add (by have : (1 : Int32).toInt = 1 := rfl; omega)]; have : (1 : Int32).toInt = 1 := rfl; omega, by omega, by rw [← e, hf, plG_s, if_neg hne]⟩, hY, lv_sub hl [0, 1, 2, 3] rfl⟩
  · intro i x H locs ls hI
    obtain ⟨x3, rfl⟩ : ∃ z, z = x := ⟨_, rfl⟩
    obtain ⟨hI, -, -⟩ := hI
    obtain ⟨h9, h8, e⟩ := hI
    omega

def agM (σ : St) (k : Nat) (d : Int32) : Nat → Int32 × Int32
  | 0 => (σ 6 k, -1)
  | i + 1 => if (rowF σ 13 k i).toInt ≤ d.toInt ∧ (agM σ k d i).2.toInt < (rowF σ 13 k i).toInt then (rowF σ 14 k i, rowF σ 13 k i) else agM σ k d i
def amF (σ : St) (k : Nat) (d : Int32) : Int32 := (agM σ k d (stN σ k)).1
set_option maxHeartbeats 4000000 in
set_option maxRecDepth 100000 in
theorem c_X2_agreed (l : Launch) (G : GG) (ad : Nat → Nat) (σ : St) (n : Nat) (τ : St) (j : Nat) (th : Int32) (o : OL) (od : OD) (hj : j ≤ 24) (hI : ∀ k, k < j → okL τ k) (p0 p1 : Int32) (h0 : 0 ≤ p0.toInt ∧ p0.toInt < (j : Int))  : Met l yX2_agreed wsX2_agreed ({ frames := 0, cells := 0, slots := 0, locals := 0 }) (PcS G ad σ n τ j th o od [.ref (ad 5), .int p0, .int p1]) (Qi G (3 * n + 23) ad (ctS G ad σ n τ j th o od) (fun r => r = amF τ (ix p0) p1)) 0 0 (gF G) := by
  refine Met.ofW (cc := cX2_agreed) (maxL := 7) (ret := (some .int)) (by decide) rfl ?_
  intro p e s m args below meth c s₁ B hml hv
  obtain ⟨rfl, hY⟩ := hv
  have hts := atoms_spec (ws := wsX2_agreed) B.pre
  have hC : CallFix p m c cX2_agreed 7 s _ wsX2_agreed RX2 := ⟨B.exec, B.bytes, hml, findClass_of_methodNamed B.named, hts⟩
  have hx := hC.1
  have hb := hC.2.1
  have hr := B.returns
  have hlocks := B.notSynchronized
  have hin2 : ∀ w ∈ wsX20, w ∈ wsX2_agreed := by decide +kernel
  have hl := lv_entry ([.ref (ad 5), .int p0, .int p1]) (n := 7) (Nat.le_of_ble_eq_true rfl)
  rw [lg_entry_eq]
  generalize (lg_sl ([.ref (ad 5), .int p0, .int p1]) ++ List.replicate (7 - (lg_sl ([.ref (ad 5), .int p0, .int p1])).length) Slot.unset).toArray = ls at hl ⊢
  have hl : lv_has ls 7 [(0, .ref (ad 5)), (1, .int p0), (2, .int p1)] := hl
  have hnj : (nI j).toInt = (j : Int) := i_nI (by omega)
  have hpk : p0.toInt = (ix p0 : Int) := (ix_toInt h0.1).symm
  have hkj : ix p0 < j := ix_lt h0
  have hsx := okL_s (hI _ hkj)
  have hs1 := hsx.1
  have hs2 := hsx.2
  have h60 := six0 hpk (by omega)
  have h6s : (6 * p0 + τ 12 (ix p0)).toInt = 6 * (ix p0 : Int) + (τ 12 (ix p0)).toInt := by rw [i_add (by omega), h60]; omega
  refine lv_aload_n hx hb dX2_agreed_0 rfl (lv_at hl 0 rfl) ?_
  refine gtM_rents hC hin2 hY (by decide +kernel) dX2_agreed_1 ?_
  refine lv_iload_n hx hb dX2_agreed_4 rfl (lv_at hl 1 rfl) ?_
  refine rdM6 hC hY ⟨by omega, by omega⟩ dX2_agreed_5 ?_
  refine lv_istore_n (lv' := [(3, .int (τ 6 (ix p0))), (0, .ref (ad 5)), (1, .int p0), (2, .int p1)]) hx hb dX2_agreed_6 rfl hl (by decide) rfl (fun ls hl => ?_)
  refine lv_iconst (v := (-1)) hx hb dX2_agreed_7 (by decide) ?_
  refine lv_istore (lv' := [(4, .int (-1)), (3, .int (τ 6 (ix p0))), (0, .ref (ad 5)), (1, .int p0), (2, .int p1)]) hx hb dX2_agreed_8 hl (by decide) rfl (fun ls hl => ?_)
  refine lv_bipush (v := 6) hx hb dX2_agreed_10 (by decide) ?_
  refine lv_iload_n hx hb dX2_agreed_12 rfl (lv_at hl 3 rfl) ?_
  refine lv_imul hx hb dX2_agreed_13 ?_
  refine lv_istore (lv' := [(5, .int (6 * p0)), (4, .int (-1)), (3, .int (τ 6 (ix p0))), (0, .ref (ad 5)), (1, .int p0), (2, .int p1)]) hx hb dX2_agreed_14 hl (by decide) rfl (fun ls hl => ?_)
  refine w_loop (X := Int32 × Int32 × Int32) (fun i x H locs ls => match x with | (x5, x3, x4) => (x5.toInt = 6 * (ix p0 : Int) + i ∧ (i : Int) ≤ (τ 12 (ix p0)).toInt ∧ agM τ (ix p0) p1 i = (x3, x4)) ∧ SyS G ad σ n τ j th o od s H locs ∧ lv_has ls 7 [(5, .int x5), (3, .int x3), (4, .int x4), (0, .ref (ad 5)), (1, .int p0), (2, .int p1)]) (6) ?_ ?_ ((6 * p0, τ 6 (ix p0), (-1))) ⟨⟨by rw [h60]; omega, hs1, rfl⟩, hY, lv_sub hl [0, 2, 1, 3, 4, 5] rfl⟩
  · intro i x H locs ls hI ih
    obtain ⟨x5, x3, x4⟩ := x
    obtain ⟨hI, hY, hl⟩ := hI
    obtain ⟨h9, h8, e⟩ := hI
    refine lv_iload hx hb dX2_agreed_16 (lv_at hl 0 rfl) ?_
    refine lv_bipush (v := 6) hx hb dX2_agreed_18 (by decide) ?_
    refine lv_iload_n hx hb dX2_agreed_20 rfl (lv_at hl 4 rfl) ?_
    refine lv_imul hx hb dX2_agreed_21 ?_
    refine lv_aload_n hx hb dX2_agreed_22 rfl (lv_at hl 3 rfl) ?_
    refine gtM_steps hC hin2 hY (by decide +kernel) dX2_agreed_23 ?_
    refine lv_iload_n hx hb dX2_agreed_26 rfl (lv_at hl 4 rfl) ?_
    refine rdM12 hC hY ⟨by omega, by omega⟩ dX2_agreed_27 ?_
    refine lv_iadd hx hb dX2_agreed_28 ?_
    refine b_icmp_ge (tgt := 104) hx hb dX2_agreed_29 (by decide) (fun (h1 : ((6 * p0) + (τ 12 (ix p0))).toInt ≤ x5.toInt) => ?_) (fun (h1 : x5.toInt < ((6 * p0) + (τ 12 (ix p0))).toInt) => ?_)
    · refine lv_iload_n hx hb dX2_agreed_104 rfl (lv_at hl 1 rfl) ?_
      exact g_iret hC hr hlocks hY ⟨Nat.le_of_ble_eq_true rfl, Nat.le_of_ble_eq_true rfl⟩ dX2_agreed_105 (by unfold amF stN; rw [show (τ 12 (ix p0)).toInt.toNat = i by omega, e])
    · refine lv_aload_n hx hb dX2_agreed_32 rfl (lv_at hl 3 rfl) ?_
      refine gtM_stepDays hC hin2 hY (by decide +kernel) dX2_agreed_33 ?_
      refine lv_iload hx hb dX2_agreed_36 (lv_at hl 0 rfl) ?_
      refine rdM13 hC hY ⟨by omega, by omega⟩ dX2_agreed_38 ?_
      refine lv_iload_n hx hb dX2_agreed_39 rfl (lv_at hl 5 rfl) ?_
      refine b_icmp_gt (tgt := 59) hx hb dX2_agreed_40 (by decide) (fun (h2 : p1.toInt < (τ 13 (ix x5)).toInt) => ?_) (fun (h2 : (τ 13 (ix x5)).toInt ≤ p1.toInt) => ?_)
      · refine lv_iconst (v := 0) hx hb dX2_agreed_59 (by decide) ?_
        refine lv_istore (lv' := [(6, .int 0), (5, .int x5), (3, .int x3), (4, .int x4), (0, .ref (ad 5)), (1, .int p0), (2, .int p1)]) hx hb dX2_agreed_60 hl (by decide) rfl (fun ls hl => ?_)
        refine lv_iload hx hb dX2_agreed_62 (lv_at hl 0 rfl) ?_
        refine b_if_eq (tgt := 77) hx hb dX2_agreed_64 (by decide) (fun _ => ?_) (fun h => absurd h (by decide))
        refine lv_iload_n hx hb dX2_agreed_77 rfl (lv_at hl 2 rfl) ?_
        refine lv_istore_n (lv' := [(3, .int x3), (6, .int 0), (5, .int x5), (4, .int x4), (0, .ref (ad 5)), (1, .int p0), (2, .int p1)]) hx hb dX2_agreed_78 rfl hl (by decide) rfl (fun ls hl => ?_)
        refine lv_iload hx hb dX2_agreed_79 (lv_at hl 1 rfl) ?_
        refine b_if_eq (tgt := 94) hx hb dX2_agreed_81 (by decide) (fun _ => ?_) (fun h => absurd h (by decide))
        refine lv_iload hx hb dX2_agreed_94 (lv_at hl 3 rfl) ?_
        refine lv_istore (lv' := [(4, .int x4), (3, .int x3), (6, .int 0), (5, .int x5), (0, .ref (ad 5)), (1, .int p0), (2, .int p1)]) hx hb dX2_agreed_96 hl (by decide) rfl (fun ls hl => ?_)
        refine lv_iinc (v := x5 + 1) (lv' := [(5, .int (x5 + 1)), (4, .int x4), (3, .int x3), (6, .int 0), (0, .ref (ad 5)), (1, .int p0), (2, .int p1)]) hx hb dX2_agreed_98 hl (k := 3) rfl rfl (by decide) rfl (fun ls hl => ?_)
        refine lv_goto (tgt := 16) hx hb dX2_agreed_101 (by decide) ?_
        have hi6 : i < 6 := by omega
        have hix : ix x5 = 6 * ix p0 + i := i_ix (by omega)
        exact ih (x5 + 1, x3, x4) _ _ _ ⟨⟨by rw [i_add1 (by omega)]; omega, by omega, by rw [agM, e, rowF_lt hi6, rowF_lt hi6, ← hix]; exact if_neg (by intro q; have q1 := q.1; have q2 : x4.toInt < _ := q.2; omega)⟩, hY, lv_sub hl [0, 2, 1, 4, 5, 6] rfl⟩
      · refine lv_aload_n hx hb dX2_agreed_43 rfl (lv_at hl 3 rfl) ?_
        refine gtM_stepDays hC hin2 hY (by decide +kernel) dX2_agreed_44 ?_
        refine lv_iload hx hb dX2_agreed_47 (lv_at hl 0 rfl) ?_
        refine rdM13 hC hY ⟨by omega, by omega⟩ dX2_agreed_49 ?_
        refine lv_iload hx hb dX2_agreed_50 (lv_at hl 2 rfl) ?_
        refine b_icmp_le (tgt := 59) hx hb dX2_agreed_52 (by decide) (fun (h5 : (τ 13 (ix x5)).toInt ≤ x4.toInt) => ?_) (fun (h5 : x4.toInt < (τ 13 (ix x5)).toInt) => ?_)
        · refine lv_iconst (v := 0) hx hb dX2_agreed_59 (by decide) ?_
          refine lv_istore (lv' := [(6, .int 0), (5, .int x5), (3, .int x3), (4, .int x4), (0, .ref (ad 5)), (1, .int p0), (2, .int p1)]) hx hb dX2_agreed_60 hl (by decide) rfl (fun ls hl => ?_)
          refine lv_iload hx hb dX2_agreed_62 (lv_at hl 0 rfl) ?_
          refine b_if_eq (tgt := 77) hx hb dX2_agreed_64 (by decide) (fun _ => ?_) (fun h => absurd h (by decide))
          refine lv_iload_n hx hb dX2_agreed_77 rfl (lv_at hl 2 rfl) ?_
          refine lv_istore_n (lv' := [(3, .int x3), (6, .int 0), (5, .int x5), (4, .int x4), (0, .ref (ad 5)), (1, .int p0), (2, .int p1)]) hx hb dX2_agreed_78 rfl hl (by decide) rfl (fun ls hl => ?_)
          refine lv_iload hx hb dX2_agreed_79 (lv_at hl 1 rfl) ?_
          refine b_if_eq (tgt := 94) hx hb dX2_agreed_81 (by decide) (fun _ => ?_) (fun h => absurd h (by decide))
          refine lv_iload hx hb dX2_agreed_94 (lv_at hl 3 rfl) ?_
          refine lv_istore (lv' := [(4, .int x4), (3, .int x3), (6, .int 0), (5, .int x5), (0, .ref (ad 5)), (1, .int p0), (2, .int p1)]) hx hb dX2_agreed_96 hl (by decide) rfl (fun ls hl => ?_)
          refine lv_iinc (v := x5 + 1) (lv' := [(5, .int (x5 + 1)), (4, .int x4), (3, .int x3), (6, .int 0), (0, .ref (ad 5)), (1, .int p0), (2, .int p1)]) hx hb dX2_agreed_98 hl (k := 3) rfl rfl (by decide) rfl (fun ls hl => ?_)
          refine lv_goto (tgt := 16) hx hb dX2_agreed_101 (by decide) ?_
          have hi6 : i < 6 := by omega
          have hix : ix x5 = 6 * ix p0 + i := i_ix (by omega)
          exact ih (x5 + 1, x3, x4) _ _ _ ⟨⟨by rw [i_add1 (by omega)]; omega, by omega, by rw [agM, e, rowF_lt hi6, rowF_lt hi6, ← hix]; exact if_neg (by intro q; have q1 := q.1; have q2 : x4.toInt < _ := q.2; omega)⟩, hY, lv_sub hl [0, 2, 1, 4, 5, 6] rfl⟩
        · refine lv_iconst (v := 1) hx hb dX2_agreed_55 (by decide) ?_
          refine lv_goto (tgt := 60) hx hb dX2_agreed_56 (by decide) ?_
          refine lv_istore (lv' := [(6, .int 1), (5, .int x5), (3, .int x3), (4, .int x4), (0, .ref (ad 5)), (1, .int p0), (2, .int p1)]) hx hb dX2_agreed_60 hl (by decide) rfl (fun ls hl => ?_)
          refine lv_iload hx hb dX2_agreed_62 (lv_at hl 0 rfl) ?_
          refine b_if_eq (tgt := 77) hx hb dX2_agreed_64 (by decide) (fun h => absurd h (by decide)) (fun _ => ?_)
          refine lv_aload_n hx hb dX2_agreed_67 rfl (lv_at hl 4 rfl) ?_
          refine gtM_stepRents hC hin2 hY (by decide +kernel) dX2_agreed_68 ?_
          refine lv_iload hx hb dX2_agreed_71 (lv_at hl 1 rfl) ?_
          refine rdM14 hC hY ⟨by omega, by omega⟩ dX2_agreed_73 ?_
          refine lv_goto (tgt := 78) hx hb dX2_agreed_74 (by decide) ?_
          refine lv_istore_n (lv' := [(3, .int (τ 14 (ix x5))), (6, .int 1), (5, .int x5), (4, .int x4), (0, .ref (ad 5)), (1, .int p0), (2, .int p1)]) hx hb dX2_agreed_78 rfl hl (by decide) rfl (fun ls hl => ?_)
          refine lv_iload hx hb dX2_agreed_79 (lv_at hl 1 rfl) ?_
          refine b_if_eq (tgt := 94) hx hb dX2_agreed_81 (by decide) (fun h => absurd h (by decide)) (fun _ => ?_)
          refine lv_aload_n hx hb dX2_agreed_84 rfl (lv_at hl 4 rfl) ?_
          refine gtM_stepDays hC hin2 hY (by decide +kernel) dX2_agreed_85 ?_
          refine lv_iload hx hb dX2_agreed_88 (lv_at hl 2 rfl) ?_
          refine rdM13 hC hY ⟨by omega, by omega⟩ dX2_agreed_90 ?_
          refine lv_goto (tgt := 96) hx hb dX2_agreed_91 (by decide) ?_
          refine lv_istore (lv' := [(4, .int (τ 13 (ix x5))), (3, .int (τ 14 (ix x5))), (6, .int 1), (5, .int x5), (0, .ref (ad 5)), (1, .int p0), (2, .int p1)]) hx hb dX2_agreed_96 hl (by decide) rfl (fun ls hl => ?_)
          refine lv_iinc (v := x5 + 1) (lv' := [(5, .int (x5 + 1)), (4, .int (τ 13 (ix x5))), (3, .int (τ 14 (ix x5))), (6, .int 1), (0, .ref (ad 5)), (1, .int p0), (2, .int p1)]) hx hb dX2_agreed_98 hl (k := 3) rfl rfl (by decide) rfl (fun ls hl => ?_)
          refine lv_goto (tgt := 16) hx hb dX2_agreed_101 (by decide) ?_
          have hi6 : i < 6 := by omega
          have hix : ix x5 = 6 * ix p0 + i := i_ix (by omega)
          exact ih (x5 + 1, τ 14 (ix x5), τ 13 (ix x5)) _ _ _ ⟨⟨by rw [i_add1 (by omega)]; omega, by omega, by rw [agM, e, rowF_lt hi6, rowF_lt hi6, ← hix]; exact if_pos ⟨h2, h5⟩⟩, hY, lv_sub hl [0, 2, 1, 4, 5, 6] rfl⟩
  · intro i x H locs ls hI
    obtain ⟨x5, x3, x4⟩ := x
    obtain ⟨hI, -, -⟩ := hI
    obtain ⟨h9, h8, e⟩ := hI
    omega


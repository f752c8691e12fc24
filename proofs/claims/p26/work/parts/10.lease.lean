/-! the lease's own methods -/
abbrev rOn (σ : St) (k : Nat) (d : Int32) : Prop := (σ 4 k).toInt ≤ d.toInt ∧ d.toInt < (σ 5 k).toInt
set_option maxHeartbeats 4000000 in
set_option maxRecDepth 100000 in
theorem c_X0_runsOn (l : Launch) (G : GG) (ad : Nat → Nat) (σ : St) (n : Nat) (τ : St) (k : Nat) (hk : k < n) (p0 : Int32) : Met l yX0_runsOn wsX0_runsOn ({ frames := 0, cells := 0, slots := 0, locals := 0 }) (PcS G ad σ n τ [.ref (ad (3 * k + 9)), .int p0]) (Qi G (3 * n + 9) ad (ctS G ad σ n τ) (fun r => (r = 1 ∧ rOn σ k p0) ∨ (r = 0 ∧ ¬ rOn σ k p0))) 0 0 (gF G) := by
  refine Met.ofW (cc := cX0_runsOn) (maxL := 2) (ret := (some .boolean)) (by decide) rfl ?_
  intro p e s m args below meth c s₁ B hml hv
  obtain ⟨rfl, hY⟩ := hv
  have hts := atoms_spec (ws := wsX0_runsOn) B.pre
  have hC : CallFix p m c cX0_runsOn 2 s _ wsX0_runsOn RX0 := ⟨B.exec, B.bytes, hml, findClass_of_methodNamed B.named, hts⟩
  have hx := hC.1
  have hb := hC.2.1
  have hr := B.returns
  have hlocks := B.notSynchronized
  have hin0 : ∀ w ∈ wsX00, w ∈ wsX0_runsOn := by decide +kernel
  have hl := lv_entry ([.ref (ad (3 * k + 9)), .int p0]) (n := 2) (Nat.le_of_ble_eq_true rfl)
  rw [lg_entry_eq]
  generalize (lg_sl ([.ref (ad (3 * k + 9)), .int p0]) ++ List.replicate (2 - (lg_sl ([.ref (ad (3 * k + 9)), .int p0])).length) Slot.unset).toArray = ls at hl ⊢
  have hl : lv_has ls 2 [(0, .ref (ad (3 * k + 9))), (1, .int p0)] := hl
  refine lv_iload_n hx hb dX0_runsOn_0 rfl (lv_at hl 1 rfl) ?_
  refine lv_aload_n hx hb dX0_runsOn_1 rfl (lv_at hl 0 rfl) ?_
  refine gtL_from hC hin0 hY (k := k) hk (by decide +kernel) dX0_runsOn_2 ?_
  refine b_icmp_lt (tgt := 20) hx hb dX0_runsOn_5 (by decide) (fun (h1 : p0.toInt < (σ 4 k).toInt) => ?_) (fun (h1 : (σ 4 k).toInt ≤ p0.toInt) => ?_)
  · refine lv_iconst (v := 0) hx hb dX0_runsOn_20 (by decide) ?_
    exact g_zret hC hr hlocks rfl hY ⟨Nat.le_of_ble_eq_true rfl, Nat.le_of_ble_eq_true rfl⟩ dX0_runsOn_21 (Or.inr ⟨rfl, by intro q; have := q.1; have := q.2; omega⟩)
  · refine lv_iload_n hx hb dX0_runsOn_8 rfl (lv_at hl 1 rfl) ?_
    refine lv_aload_n hx hb dX0_runsOn_9 rfl (lv_at hl 0 rfl) ?_
    refine gtL_to hC hin0 hY (k := k) hk (by decide +kernel) dX0_runsOn_10 ?_
    refine b_icmp_ge (tgt := 20) hx hb dX0_runsOn_13 (by decide) (fun (h2 : (σ 5 k).toInt ≤ p0.toInt) => ?_) (fun (h2 : p0.toInt < (σ 5 k).toInt) => ?_)
    · refine lv_iconst (v := 0) hx hb dX0_runsOn_20 (by decide) ?_
      exact g_zret hC hr hlocks rfl hY ⟨Nat.le_of_ble_eq_true rfl, Nat.le_of_ble_eq_true rfl⟩ dX0_runsOn_21 (Or.inr ⟨rfl, by intro q; have := q.1; have := q.2; omega⟩)
    · refine lv_iconst (v := 1) hx hb dX0_runsOn_16 (by decide) ?_
      refine lv_goto (tgt := 21) hx hb dX0_runsOn_17 (by decide) ?_
      exact g_zret hC hr hlocks rfl hY ⟨Nat.le_of_ble_eq_true rfl, Nat.le_of_ble_eq_true rfl⟩ dX0_runsOn_21 (Or.inl ⟨rfl, by omega, by omega⟩)

abbrev fOn (σ : St) (k : Nat) (d : Int32) : Prop := d.toInt < (σ 4 k + σ 7 k).toInt
set_option maxHeartbeats 4000000 in
set_option maxRecDepth 100000 in
theorem c_X0_isFreeOn (l : Launch) (G : GG) (ad : Nat → Nat) (σ : St) (n : Nat) (τ : St) (k : Nat) (hk : k < n) (p0 : Int32) : Met l yX0_isFreeOn wsX0_isFreeOn ({ frames := 0, cells := 0, slots := 0, locals := 0 }) (PcS G ad σ n τ [.ref (ad (3 * k + 9)), .int p0]) (Qi G (3 * n + 9) ad (ctS G ad σ n τ) (fun r => (r = 1 ∧ fOn σ k p0) ∨ (r = 0 ∧ ¬ fOn σ k p0))) 0 0 (gF G) := by
  refine Met.ofW (cc := cX0_isFreeOn) (maxL := 2) (ret := (some .boolean)) (by decide) rfl ?_
  intro p e s m args below meth c s₁ B hml hv
  obtain ⟨rfl, hY⟩ := hv
  have hts := atoms_spec (ws := wsX0_isFreeOn) B.pre
  have hC : CallFix p m c cX0_isFreeOn 2 s _ wsX0_isFreeOn RX0 := ⟨B.exec, B.bytes, hml, findClass_of_methodNamed B.named, hts⟩
  have hx := hC.1
  have hb := hC.2.1
  have hr := B.returns
  have hlocks := B.notSynchronized
  have hin0 : ∀ w ∈ wsX00, w ∈ wsX0_isFreeOn := by decide +kernel
  have hl := lv_entry ([.ref (ad (3 * k + 9)), .int p0]) (n := 2) (Nat.le_of_ble_eq_true rfl)
  rw [lg_entry_eq]
  generalize (lg_sl ([.ref (ad (3 * k + 9)), .int p0]) ++ List.replicate (2 - (lg_sl ([.ref (ad (3 * k + 9)), .int p0])).length) Slot.unset).toArray = ls at hl ⊢
  have hl : lv_has ls 2 [(0, .ref (ad (3 * k + 9))), (1, .int p0)] := hl
  refine lv_iload_n hx hb dX0_isFreeOn_0 rfl (lv_at hl 1 rfl) ?_
  refine lv_aload_n hx hb dX0_isFreeOn_1 rfl (lv_at hl 0 rfl) ?_
  refine gtL_from hC hin0 hY (k := k) hk (by decide +kernel) dX0_isFreeOn_2 ?_
  refine lv_aload_n hx hb dX0_isFreeOn_5 rfl (lv_at hl 0 rfl) ?_
  refine gtL_free hC hin0 hY (k := k) hk (by decide +kernel) dX0_isFreeOn_6 ?_
  refine lv_iadd hx hb dX0_isFreeOn_9 ?_
  refine b_icmp_ge (tgt := 17) hx hb dX0_isFreeOn_10 (by decide) (fun (h1 : ((σ 4 k) + (σ 7 k)).toInt ≤ p0.toInt) => ?_) (fun (h1 : p0.toInt < ((σ 4 k) + (σ 7 k)).toInt) => ?_)
  · refine lv_iconst (v := 0) hx hb dX0_isFreeOn_17 (by decide) ?_
    exact g_zret hC hr hlocks rfl hY ⟨Nat.le_of_ble_eq_true rfl, Nat.le_of_ble_eq_true rfl⟩ dX0_isFreeOn_18 (Or.inr ⟨rfl, by intro q; have q : p0.toInt < (σ 4 k + σ 7 k).toInt := q; omega⟩)
  · refine lv_iconst (v := 1) hx hb dX0_isFreeOn_13 (by decide) ?_
    refine lv_goto (tgt := 18) hx hb dX0_isFreeOn_14 (by decide) ?_
    exact g_zret hC hr hlocks rfl hY ⟨Nat.le_of_ble_eq_true rfl, Nat.le_of_ble_eq_true rfl⟩ dX0_isFreeOn_18 (Or.inl ⟨rfl, by omega⟩)

def soF (d x t : Int32) : Int32 := if d.toInt < x.toInt ∧ x.toInt < t.toInt then x else t
set_option maxHeartbeats 4000000 in
set_option maxRecDepth 100000 in
theorem c_X0_sooner (l : Launch) (G : GG) (ad : Nat → Nat) (σ : St) (n : Nat) (τ : St) (p0 p1 p2 : Int32) : Met l yX0_sooner wsX0_sooner ({ frames := 0, cells := 0, slots := 0, locals := 0 }) (PcS G ad σ n τ [.int p0, .int p1, .int p2]) (Qi G (3 * n + 9) ad (ctS G ad σ n τ) (fun r => r = soF p0 p1 p2)) 0 0 (gF G) := by
  refine Met.ofW (cc := cX0_sooner) (maxL := 3) (ret := (some .int)) (by decide) rfl ?_
  intro p e s m args below meth c s₁ B hml hv
  obtain ⟨rfl, hY⟩ := hv
  have hts := atoms_spec (ws := wsX0_sooner) B.pre
  have hC : CallFix p m c cX0_sooner 3 s _ wsX0_sooner RX0 := ⟨B.exec, B.bytes, hml, findClass_of_methodNamed B.named, hts⟩
  have hx := hC.1
  have hb := hC.2.1
  have hr := B.returns
  have hlocks := B.notSynchronized
  have hl := lv_entry ([.int p0, .int p1, .int p2]) (n := 3) (Nat.le_of_ble_eq_true rfl)
  rw [lg_entry_eq]
  generalize (lg_sl ([.int p0, .int p1, .int p2]) ++ List.replicate (3 - (lg_sl ([.int p0, .int p1, .int p2])).length) Slot.unset).toArray = ls at hl ⊢
  have hl : lv_has ls 3 [(0, .int p0), (1, .int p1), (2, .int p2)] := hl
  refine lv_iload_n hx hb dX0_sooner_0 rfl (lv_at hl 1 rfl) ?_
  refine lv_iload_n hx hb dX0_sooner_1 rfl (lv_at hl 0 rfl) ?_
  refine b_icmp_le (tgt := 14) hx hb dX0_sooner_2 (by decide) (fun (h1 : p1.toInt ≤ p0.toInt) => ?_) (fun (h1 : p0.toInt < p1.toInt) => ?_)
  · refine lv_iload_n hx hb dX0_sooner_14 rfl (lv_at hl 2 rfl) ?_
    exact g_iret hC hr hlocks hY ⟨Nat.le_of_ble_eq_true rfl, Nat.le_of_ble_eq_true rfl⟩ dX0_sooner_15 ((if_neg (by intro q; have := q.1; have := q.2; omega)).symm)
  · refine lv_iload_n hx hb dX0_sooner_5 rfl (lv_at hl 1 rfl) ?_
    refine lv_iload_n hx hb dX0_sooner_6 rfl (lv_at hl 2 rfl) ?_
    refine b_icmp_ge (tgt := 14) hx hb dX0_sooner_7 (by decide) (fun (h2 : p2.toInt ≤ p1.toInt) => ?_) (fun (h2 : p1.toInt < p2.toInt) => ?_)
    · refine lv_iload_n hx hb dX0_sooner_14 rfl (lv_at hl 2 rfl) ?_
      exact g_iret hC hr hlocks hY ⟨Nat.le_of_ble_eq_true rfl, Nat.le_of_ble_eq_true rfl⟩ dX0_sooner_15 ((if_neg (by intro q; have := q.1; have := q.2; omega)).symm)
    · refine lv_iload_n hx hb dX0_sooner_10 rfl (lv_at hl 1 rfl) ?_
      refine lv_goto (tgt := 15) hx hb dX0_sooner_11 (by decide) ?_
      exact g_iret hC hr hlocks hY ⟨Nat.le_of_ble_eq_true rfl, Nat.le_of_ble_eq_true rfl⟩ dX0_sooner_15 ((if_pos ⟨by omega, by omega⟩).symm)

def rvF (σ : St) (k : Nat) (d : Int32) : Int32 := if 0 < (σ 8 k).toInt ∧ (σ 4 k).toInt < d.toInt then (d - σ 4 k) / σ 8 k else 0
set_option maxHeartbeats 4000000 in
set_option maxRecDepth 100000 in
theorem c_X0_reviewsUpTo (l : Launch) (G : GG) (ad : Nat → Nat) (σ : St) (n : Nat) (τ : St) (k : Nat) (hk : k < n) (p0 : Int32) : Met l yX0_reviewsUpTo wsX0_reviewsUpTo ({ frames := 0, cells := 0, slots := 0, locals := 0 }) (PcS G ad σ n τ [.ref (ad (3 * k + 9)), .int p0]) (Qi G (3 * n + 9) ad (ctS G ad σ n τ) (fun r => r = rvF σ k p0)) 0 0 (gF G) := by
  refine Met.ofW (cc := cX0_reviewsUpTo) (maxL := 2) (ret := (some .int)) (by decide) rfl ?_
  intro p e s m args below meth c s₁ B hml hv
  obtain ⟨rfl, hY⟩ := hv
  have hts := atoms_spec (ws := wsX0_reviewsUpTo) B.pre
  have hC : CallFix p m c cX0_reviewsUpTo 2 s _ wsX0_reviewsUpTo RX0 := ⟨B.exec, B.bytes, hml, findClass_of_methodNamed B.named, hts⟩
  have hx := hC.1
  have hb := hC.2.1
  have hr := B.returns
  have hlocks := B.notSynchronized
  have hin0 : ∀ w ∈ wsX00, w ∈ wsX0_reviewsUpTo := by decide +kernel
  have hl := lv_entry ([.ref (ad (3 * k + 9)), .int p0]) (n := 2) (Nat.le_of_ble_eq_true rfl)
  rw [lg_entry_eq]
  generalize (lg_sl ([.ref (ad (3 * k + 9)), .int p0]) ++ List.replicate (2 - (lg_sl ([.ref (ad (3 * k + 9)), .int p0])).length) Slot.unset).toArray = ls at hl ⊢
  have hl : lv_has ls 2 [(0, .ref (ad (3 * k + 9))), (1, .int p0)] := hl
  refine lv_aload_n hx hb dX0_reviewsUpTo_0 rfl (lv_at hl 0 rfl) ?_
  refine gtL_every hC hin0 hY (k := k) hk (by decide +kernel) dX0_reviewsUpTo_1 ?_
  refine b_if_le (tgt := 29) hx hb dX0_reviewsUpTo_4 (by decide) (fun (h1 : (σ 8 k).toInt ≤ 0) => ?_) (fun (h1 : 0 < (σ 8 k).toInt) => ?_)
  · refine lv_iconst (v := 0) hx hb dX0_reviewsUpTo_29 (by decide) ?_
    exact g_iret hC hr hlocks hY ⟨Nat.le_of_ble_eq_true rfl, Nat.le_of_ble_eq_true rfl⟩ dX0_reviewsUpTo_30 ((if_neg (by intro q; have := q.1; have := q.2; omega)).symm)
  · refine lv_iload_n hx hb dX0_reviewsUpTo_7 rfl (lv_at hl 1 rfl) ?_
    refine lv_aload_n hx hb dX0_reviewsUpTo_8 rfl (lv_at hl 0 rfl) ?_
    refine gtL_from hC hin0 hY (k := k) hk (by decide +kernel) dX0_reviewsUpTo_9 ?_
    refine b_icmp_le (tgt := 29) hx hb dX0_reviewsUpTo_12 (by decide) (fun (h2 : p0.toInt ≤ (σ 4 k).toInt) => ?_) (fun (h2 : (σ 4 k).toInt < p0.toInt) => ?_)
    · refine lv_iconst (v := 0) hx hb dX0_reviewsUpTo_29 (by decide) ?_
      exact g_iret hC hr hlocks hY ⟨Nat.le_of_ble_eq_true rfl, Nat.le_of_ble_eq_true rfl⟩ dX0_reviewsUpTo_30 ((if_neg (by intro q; have := q.1; have := q.2; omega)).symm)
    · refine lv_iload_n hx hb dX0_reviewsUpTo_15 rfl (lv_at hl 1 rfl) ?_
      refine lv_aload_n hx hb dX0_reviewsUpTo_16 rfl (lv_at hl 0 rfl) ?_
      refine gtL_from hC hin0 hY (k := k) hk (by decide +kernel) dX0_reviewsUpTo_17 ?_
      refine lv_isub hx hb dX0_reviewsUpTo_20 ?_
      refine lv_aload_n hx hb dX0_reviewsUpTo_21 rfl (lv_at hl 0 rfl) ?_
      refine gtL_every hC hin0 hY (k := k) hk (by decide +kernel) dX0_reviewsUpTo_22 ?_
      refine lv_idiv hx hb dX0_reviewsUpTo_25 (by intro q; rw [q] at h1; revert h1; decide) ?_
      refine lv_goto (tgt := 30) hx hb dX0_reviewsUpTo_26 (by decide) ?_
      exact g_iret hC hr hlocks hY ⟨Nat.le_of_ble_eq_true rfl, Nat.le_of_ble_eq_true rfl⟩ dX0_reviewsUpTo_30 ((if_pos ⟨by omega, by omega⟩).symm)

def mxF (x y : Int32) : Int32 := if x < y then y else x
def mnF (x y : Int32) : Int32 := if y < x then y else x
def dwF (σ : St) (k : Nat) (a b : Int32) : Int32 := mxF 0 (mnF (σ 5 k) b - mxF (σ 4 k) a)
set_option maxHeartbeats 4000000 in
set_option maxRecDepth 100000 in
theorem c_X0_daysWithin (l : Launch) (G : GG) (ad : Nat → Nat) (σ : St) (n : Nat) (τ : St) (k : Nat) (hk : k < n) (p0 p1 : Int32) : Met l yX0_daysWithin wsX0_daysWithin ({ frames := 1, cells := 0, slots := 0, locals := 16 }) (PcS G ad σ n τ [.ref (ad (3 * k + 9)), .int p0, .int p1]) (Qi G (3 * n + 9) ad (ctS G ad σ n τ) (fun r => r = dwF σ k p0 p1)) 0 0 (gF G) := by
  refine Met.ofW (cc := cX0_daysWithin) (maxL := 3) (ret := (some .int)) (by decide) rfl ?_
  intro p e s m args below meth c s₁ B hml hv
  obtain ⟨rfl, hY⟩ := hv
  have hts := atoms_spec (ws := wsX0_daysWithin) B.pre
  have hC : CallFix p m c cX0_daysWithin 3 s _ wsX0_daysWithin RX0 := ⟨B.exec, B.bytes, hml, findClass_of_methodNamed B.named, hts⟩
  have hx := hC.1
  have hb := hC.2.1
  have hr := B.returns
  have hlocks := B.notSynchronized
  have hin0 : ∀ w ∈ wsX00, w ∈ wsX0_daysWithin := by decide +kernel
  have hl := lv_entry ([.ref (ad (3 * k + 9)), .int p0, .int p1]) (n := 3) (Nat.le_of_ble_eq_true rfl)
  rw [lg_entry_eq]
  generalize (lg_sl ([.ref (ad (3 * k + 9)), .int p0, .int p1]) ++ List.replicate (3 - (lg_sl ([.ref (ad (3 * k + 9)), .int p0, .int p1])).length) Slot.unset).toArray = ls at hl ⊢
  have hl : lv_has ls 3 [(0, .ref (ad (3 * k + 9))), (1, .int p0), (2, .int p1)] := hl
  refine lv_iconst (v := 0) hx hb dX0_daysWithin_0 (by decide) ?_
  refine lv_aload_n hx hb dX0_daysWithin_1 rfl (lv_at hl 0 rfl) ?_
  refine gtL_to hC hin0 hY (k := k) hk (by decide +kernel) dX0_daysWithin_2 ?_
  refine lv_iload_n hx hb dX0_daysWithin_5 rfl (lv_at hl 2 rfl) ?_
  refine va_mmin hx hb (hC.2.2.1.trans hl.1.symm) hC.2.2.2.1 (hC.2.2.2.2 _ (by decide +kernel)) (hC.2.2.2.2 _ (by decide +kernel)) (hC.2.2.2.2 _ (by decide +kernel)) (hC.2.2.2.2 _ (by decide +kernel)) (Nat.le_of_ble_eq_true rfl) (Nat.le_of_ble_eq_true rfl) (Nat.le_of_ble_eq_true rfl) (Nat.le_of_ble_eq_true rfl) dX0_daysWithin_6 ?_
  refine lv_aload_n hx hb dX0_daysWithin_9 rfl (lv_at hl 0 rfl) ?_
  refine gtL_from hC hin0 hY (k := k) hk (by decide +kernel) dX0_daysWithin_10 ?_
  refine lv_iload_n hx hb dX0_daysWithin_13 rfl (lv_at hl 1 rfl) ?_
  refine va_mmax hx hb (hC.2.2.1.trans hl.1.symm) hC.2.2.2.1 (hC.2.2.2.2 _ (by decide +kernel)) (hC.2.2.2.2 _ (by decide +kernel)) (hC.2.2.2.2 _ (by decide +kernel)) (hC.2.2.2.2 _ (by decide +kernel)) (Nat.le_of_ble_eq_true rfl) (Nat.le_of_ble_eq_true rfl) (Nat.le_of_ble_eq_true rfl) (Nat.le_of_ble_eq_true rfl) dX0_daysWithin_14 ?_
  refine lv_isub hx hb dX0_daysWithin_17 ?_
  refine va_mmax hx hb (hC.2.2.1.trans hl.1.symm) hC.2.2.2.1 (hC.2.2.2.2 _ (by decide +kernel)) (hC.2.2.2.2 _ (by decide +kernel)) (hC.2.2.2.2 _ (by decide +kernel)) (hC.2.2.2.2 _ (by decide +kernel)) (Nat.le_of_ble_eq_true rfl) (Nat.le_of_ble_eq_true rfl) (Nat.le_of_ble_eq_true rfl) (Nat.le_of_ble_eq_true rfl) dX0_daysWithin_18 ?_
  exact g_iret hC hr hlocks hY ⟨Nat.le_of_ble_eq_true rfl, Nat.le_of_ble_eq_true rfl⟩ dX0_daysWithin_21 (rfl)

abbrev diF (σ : St) (k : Nat) (y : Int32) : Int32 := dwF σ k (y * 360) (y * 360 + 360)
set_option maxHeartbeats 4000000 in
set_option maxRecDepth 100000 in
theorem c_X0_daysIn (l : Launch) (G : GG) (ad : Nat → Nat) (σ : St) (n : Nat) (τ : St) (k : Nat) (hk : k < n) (p0 : Int32) : Met l yX0_daysIn wsX0_daysIn ({ frames := 2, cells := 0, slots := 0, locals := 40 }) (PcS G ad σ n τ [.ref (ad (3 * k + 9)), .int p0]) (Qi G (3 * n + 9) ad (ctS G ad σ n τ) (fun r => r = diF σ k p0)) 0 0 (gF G) := by
  refine Met.ofW (cc := cX0_daysIn) (maxL := 3) (ret := (some .int)) (by decide) rfl ?_
  intro p e s m args below meth c s₁ B hml hv
  obtain ⟨rfl, hY⟩ := hv
  have hts := atoms_spec (ws := wsX0_daysIn) B.pre
  have hC : CallFix p m c cX0_daysIn 3 s _ wsX0_daysIn RX0 := ⟨B.exec, B.bytes, hml, findClass_of_methodNamed B.named, hts⟩
  have hx := hC.1
  have hb := hC.2.1
  have hr := B.returns
  have hlocks := B.notSynchronized
  have hin0 : ∀ w ∈ wsX00, w ∈ wsX0_daysIn := by decide +kernel
  have hl := lv_entry ([.ref (ad (3 * k + 9)), .int p0]) (n := 3) (Nat.le_of_ble_eq_true rfl)
  rw [lg_entry_eq]
  generalize (lg_sl ([.ref (ad (3 * k + 9)), .int p0]) ++ List.replicate (3 - (lg_sl ([.ref (ad (3 * k + 9)), .int p0])).length) Slot.unset).toArray = ls at hl ⊢
  have hl : lv_has ls 3 [(0, .ref (ad (3 * k + 9))), (1, .int p0)] := hl
  refine lv_iload_n hx hb dX0_daysIn_0 rfl (lv_at hl 1 rfl) ?_
  refine lv_sipush (v := 360) hx hb dX0_daysIn_1 (by decide) ?_
  refine lv_imul hx hb dX0_daysIn_4 ?_
  refine lv_istore_n (lv' := [(2, .int (p0 * 360)), (0, .ref (ad (3 * k + 9))), (1, .int p0)]) hx hb dX0_daysIn_5 rfl hl (by decide) rfl (fun ls hl => ?_)
  refine lv_aload_n hx hb dX0_daysIn_6 rfl (lv_at hl 1 rfl) ?_
  refine lv_iload_n hx hb dX0_daysIn_7 rfl (lv_at hl 0 rfl) ?_
  refine lv_iload_n hx hb dX0_daysIn_8 rfl (lv_at hl 0 rfl) ?_
  refine lv_sipush (v := 360) hx hb dX0_daysIn_9 (by decide) ?_
  refine lv_iadd hx hb dX0_daysIn_12 ?_
  refine g_calli hY (g_runV (n := 2) (q := (RX0, TX0, 12)) (r := 3 * k + 9) hC (c_X0_daysWithin l G ad σ n τ k hk (p0 * 360) ((p0 * 360) + 360)) gX0_daysIn_X0_daysWithin rfl ⟨rfl, rfl⟩ (by decide +kernel) ⟨Nat.le_of_ble_eq_true rfl, Nat.le_of_ble_eq_true rfl⟩ hY (r_lt hk) (ct_L k) (ci := 0) rfl rfl hl.1 rfl (Nat.le_of_ble_eq_true rfl) dX0_daysIn_13 ⟨Nat.le_of_ble_eq_true rfl, Nat.le_of_ble_eq_true rfl⟩) (fun r1 H locs h2 hY => ?_)
  subst h2
  exact g_iret hC hr hlocks hY ⟨Nat.le_of_ble_eq_true rfl, Nat.le_of_ble_eq_true rfl⟩ dX0_daysIn_16 (rfl)


/-! letting a unit -/
def zeroL (σ : St) (k : Nat) : Prop := σ 7 k = 0 ∧ σ 8 k = 0 ∧ σ 10 k = 0 ∧ σ 11 k = 0 ∧ σ 12 k = 0 ∧ ∀ i, i < 6 → σ 13 (6 * k + i) = 0 ∧ σ 14 (6 * k + i) = 0
def cdLet (σ : St) (n : Nat) (p0 p1 p2 p3 : Int32) : Int32 := if 0 ≤ p0.toInt ∧ p0.toInt < 6 then (if (0 ≤ p1.toInt ∧ p1.toInt ≤ 7199) ∧ p1.toInt < p2.toInt ∧ p2.toInt ≤ 7200 ∧ 1 ≤ p3.toInt ∧ p3.toInt ≤ 99999 then (if 24 ≤ n ∨ 0 < (dlP σ n p0 p1 p2 24).toInt then 3 else 0) else 2) else 1
theorem ctL_u {G : GG} {ad u : Nat → Nat} {σ : St} {k q : Nat} (h1 : u (3 * k + 10) = ad (3 * k + 10)) (h2 : u (3 * k + 11) = ad (3 * k + 11)) : ctL G u σ k q = ctL G ad σ k q := by
  unfold ctL lsF
  rw [h1, h2]
theorem ctL_lt {G : GG} {u : Nat → Nat} {σ : St} {n k q : Nat} {p0 p1 p2 p3 : Int32} (hk : k ≠ n) (hq : q < 3) : ctL G u (ltS σ n p0 p1 p2 p3) k q = ctL G u σ k q := by
  unfold ltS
  rw [ctL_ne (Or.inr (Or.inl ⟨by decide, by omega⟩)) hq, ctL_ne (Or.inr (Or.inl ⟨by decide, by omega⟩)) hq, ctL_ne (Or.inr (Or.inl ⟨by decide, by omega⟩)) hq, ctL_ne (Or.inr (Or.inl ⟨by decide, by omega⟩)) hq, ctL_ne (Or.inr (Or.inl ⟨by decide, by omega⟩)) hq]
theorem us_eq {σ : St} {a i : Nat} {x : Int32} : us σ a i x a i = x := by unfold us upd; rw [if_pos rfl, if_pos rfl]
theorem lsF_lt {u : Nat → Nat} {σ : St} {n : Nat} {p0 p1 p2 p3 : Int32} (hz : zeroL σ n) : lsF u (ltS σ n p0 p1 p2 p3) n = [.int p0, .int p1, .int p3, .int p2, .int 0, .int 0, .int (-1), .int 0, .int 0, .ref (u (3 * n + 10)), .ref (u (3 * n + 11)), .int 0] := by
  obtain ⟨z7, z8, z10, z11, z12, -⟩ := hz
  have h3 : ltS σ n p0 p1 p2 p3 3 n = p0 := (us_eq : us σ 3 n p0 3 n = p0)
  have h4 : ltS σ n p0 p1 p2 p3 4 n = p1 := (us_eq : us (us σ 3 n p0) 4 n p1 4 n = p1)
  have h5 : ltS σ n p0 p1 p2 p3 5 n = p2 := (us_eq : us (us (us σ 3 n p0) 4 n p1) 5 n p2 5 n = p2)
  have h6 : ltS σ n p0 p1 p2 p3 6 n = p3 := (us_eq : us (us (us (us σ 3 n p0) 4 n p1) 5 n p2) 6 n p3 6 n = p3)
  have h9 : ltS σ n p0 p1 p2 p3 9 n = -1 := us_eq
  have h7 : ltS σ n p0 p1 p2 p3 7 n = 0 := z7
  have h8 : ltS σ n p0 p1 p2 p3 8 n = 0 := z8
  have h10 : ltS σ n p0 p1 p2 p3 10 n = 0 := z10
  have h11 : ltS σ n p0 p1 p2 p3 11 n = 0 := z11
  have h12 : ltS σ n p0 p1 p2 p3 12 n = 0 := z12
  unfold lsF
  rw [h3, h4, h5, h6, h7, h8, h9, h10, h11, h12]
theorem rowF_z {σ : St} {a n : Nat} (h : ∀ i, i < 6 → σ a (6 * n + i) = 0) : rowF σ a n = fun _ => 0 := by
  unfold rowF
  funext i
  by_cases hi : i < 6
  · rw [if_pos hi, h i hi]
  · rw [if_neg hi]
theorem roF_lt {u ad : Nat → Nat} {n : Nat} (hu : ∀ r, r < 3 * n + 9 → u r = ad r) : va_up (roF ad n) n (some (u (3 * n + 9))) = roF u (n + 1) := by
  unfold va_up roF
  funext k
  by_cases h1 : k = n
  · subst h1; rw [if_pos rfl, if_pos (by omega)]
  · rw [if_neg h1]
    by_cases h2 : k < n
    · rw [if_pos h2, if_pos (by omega), hu _ (by omega)]
    · rw [if_neg h2, if_neg (by omega)]
abbrev rlC (G : GG) (f : Nat → Option Nat) : va_E := .inl (G.2.2 1, 24, .inr (.inr (.inr (.inr f))))
theorem let_ct {G : GG} {u ad : Nat → Nat} {σ : St} {n : Nat} {τ : St} {p0 p1 p2 p3 : Int32} {e0 : va_E} (hn : n < 24) (hz : zeroL σ n) (hu : ∀ r, r < 3 * n + 9 → u r = ad r) (r : Nat) (hr : r < 3 * n + 9 + 3) :
    va_up (va_up (ctI G (3 * n + 9) (va_up (ctS G ad σ n τ) (3 * n + 9) e0) p0 p1 p2 p3 u) 4 (rlC G (va_up (roF ad n) (nI n).toNatClampNeg (some (u (3 * n + 9)))))) 0 (.inr (1, [.ref (ad 1), .ref (ad 2), .ref (ad 3), .ref (ad 4), .int (nI n + 1)])) r = ctS G u (ltS σ n p0 p1 p2 p3) (n + 1) τ r := by
  have hlow : ∀ q, q < 9 → q ≠ 0 → q ≠ 4 → va_up (va_up (ctI G (3 * n + 9) (va_up (ctS G ad σ n τ) (3 * n + 9) e0) p0 p1 p2 p3 u) 4 (rlC G (va_up (roF ad n) (nI n).toNatClampNeg (some (u (3 * n + 9)))))) 0 (.inr (1, [.ref (ad 1), .ref (ad 2), .ref (ad 3), .ref (ad 4), .int (nI n + 1)])) q = ctS G ad σ n τ q := by
    intro q h1 h2 h3
    rw [va_up_ne _ _ h2, va_up_ne _ _ h3]
    unfold ctI
    rw [if_neg (by omega), if_neg (by omega), va_up_ne _ _ (by omega)]
  match r with
  | 0 => rw [va_up_self, ← hu 1 (by omega), ← hu 2 (by omega), ← hu 3 (by omega), ← hu 4 (by omega), nI_1]; rfl
  | 4 => rw [va_up_ne _ _ (by omega), va_up_self, nI_clamp (show n < 2 ^ 31 by omega), roF_lt hu]; rfl
  | 5 => rw [hlow 5 (by omega) (by omega) (by omega)]; rfl
  | 1 => rw [hlow 1 (by omega) (by omega) (by omega)]; rfl
  | 2 => rw [hlow 2 (by omega) (by omega) (by omega)]; rfl
  | 3 => rw [hlow 3 (by omega) (by omega) (by omega)]; rfl
  | 6 => rw [hlow 6 (by omega) (by omega) (by omega)]; rfl
  | 7 => rw [hlow 7 (by omega) (by omega) (by omega)]; rfl
  | 8 => rw [hlow 8 (by omega) (by omega) (by omega)]; rfl
  | q + 9 =>
    rw [va_up_ne _ _ (by omega), va_up_ne _ _ (by omega)]
    show _ = ctL G u (ltS σ n p0 p1 p2 p3) (q / 3) (q % 3)
    unfold ctI
    by_cases h1 : q + 9 = 3 * n + 9
    · rw [if_pos h1, show q / 3 = n by omega, show q % 3 = 0 by omega]
      show _ = (.inr (0, lsF u (ltS σ n p0 p1 p2 p3) n) : va_E)
      rw [lsF_lt hz]
    · rw [if_neg h1]
      by_cases h2 : q + 9 = 3 * n + 9 + 1 ∨ q + 9 = 3 * n + 9 + 2
      · rw [if_pos h2]
        rcases h2 with h2 | h2
        · rw [show q / 3 = n by omega, show q % 3 = 1 by omega]
          show _ = (.inl (G.2.2 0, 6, .inl (rowF (ltS σ n p0 p1 p2 p3) 13 n)) : va_E)
          rw [show rowF (ltS σ n p0 p1 p2 p3) 13 n = fun _ => 0 from rowF_z (fun i hi => (hz.2.2.2.2.2 i hi).1)]
        · rw [show q / 3 = n by omega, show q % 3 = 2 by omega]
          show _ = (.inl (G.2.2 0, 6, .inl (rowF (ltS σ n p0 p1 p2 p3) 14 n)) : va_E)
          rw [show rowF (ltS σ n p0 p1 p2 p3) 14 n = fun _ => 0 from rowF_z (fun i hi => (hz.2.2.2.2.2 i hi).2)]
      · rw [if_neg h2, va_up_ne _ _ (by omega), ctL_lt (by omega) (Nat.mod_lt _ (by decide)), ctL_u (hu _ (by omega)) (hu _ (by omega))]
        rfl
section GU
variable {p : Program} {l : Launch} {e : Env} {R : Room} {s : State} {m : MethodId} {args : Array Value} {below : List Frame} {meth : Method} {c : Code} {H : Heap} {locs : List Loc} {cells slots : Nat} {Q : State → Prop}
variable {cc : ByteArray} {nL : Nat} {Ts : List Cond} {own : String} {pc : Nat} {ls : Array Slot} {rest st0 : List Value} {G : GG} {N : Nat} {mc ms : Nat}
theorem g_iretU (hC : CallFix p m c cc nL s args Ts own) (hr : meth.sig.returnType = some .int) (hlocks : meth.locks = false) {post : Int32 → (Nat → Nat) → Prop} {v : Int32} {ct2 : (Nat → Nat) → Nat → va_E} (u : Nat → Nat) (hY : Sy G N u (ct2 u) s H locs) (hcm : cells ≤ mc ∧ slots ≤ ms) (hdg : decode cc pc = .ok (.ireturn, 1)) (hp : post v u) : W p l e R s m args below meth c H locs cells slots (MQ below (va_Qi post (fun u t => Sz G N u (ct2 u) t) (gF G)) args s mc ms (gF G)) (F0 m pc ls [.int v]) :=
  W.widen hcm.1 hcm.2 (W.iret hC.1 hC.2.1 hr (fun t ht hW => ⟨⟨v, u, rfl, hp, hY.post ht hW.alike⟩, hY.2.2.2.1.F ht⟩) hY.2.2.2.1.2.2 hdg hlocks)
end GU
set_option maxHeartbeats 4000000 in
set_option maxRecDepth 100000 in
theorem c_X1_let (l : Launch) (G : GG) (ad : Nat → Nat) (σ : St) (n : Nat) (τ : St) (hst : l.stackTraces = false) (hn : n ≤ 24) (hz : n < 24 → zeroL σ n) (p0 p1 p2 p3 : Int32)  : vx_Met l yX1_let wsX1_let ({ frames := 8, cells := 8, slots := 60, locals := 160 }) (PcS G ad σ n τ [.ref (ad 0), .int p0, .int p1, .int p2, .int p3]) (va_Qi (fun r (u : Nat → Nat) => cdLet σ n p0 p1 p2 p3 = 0 ∧ r = nI n ∧ ∀ r, r < 3 * n + 9 → u r = ad r) (fun u t => Sz G (3 * n + 9 + 3) u (ctS G u (ltS σ n p0 p1 p2 p3) (n + 1) τ) t) (gF G)) (XG G (3 * n + 9) ad (ctS G ad σ n τ) (fun E => exC E (cdLet σ n p0 p1 p2 p3))) 8 60 (gF G) := by
  refine vx_ofW (cc := cX1_let) (maxL := 6) (ret := (some .int)) (by decide) rfl ?_
  intro p e s m args below meth c s₁ B hml hxt hv
  obtain ⟨rfl, hY⟩ := hv
  have hts := atoms_spec (ws := wsX1_let) B.pre
  have hC : CallFix p m c cX1_let 6 s _ wsX1_let RX1 := ⟨B.exec, B.bytes, hml, findClass_of_methodNamed B.named, hts⟩
  have hx := hC.1
  have hb := hC.2.1
  have hr := B.returns
  have hlocks := B.notSynchronized
  have hin0 : ∀ w ∈ wsX00, w ∈ wsX1_let := by decide +kernel
  have hin1 : ∀ w ∈ wsX10, w ∈ wsX1_let := by decide +kernel
  have hl := lv_entry ([.ref (ad 0), .int p0, .int p1, .int p2, .int p3]) (n := 6) (Nat.le_of_ble_eq_true rfl)
  rw [lg_entry_eq]
  generalize (lg_sl ([.ref (ad 0), .int p0, .int p1, .int p2, .int p3]) ++ List.replicate (6 - (lg_sl ([.ref (ad 0), .int p0, .int p1, .int p2, .int p3])).length) Slot.unset).toArray = ls at hl ⊢
  have hl : lv_has ls 6 [(0, .ref (ad 0)), (1, .int p0), (2, .int p1), (3, .int p2), (4, .int p3)] := hl
  have hnj : (nI n).toInt = (n : Int) := i_nI (by omega)
  refine lv_iload_n hx hb dX1_let_0 rfl (lv_at hl 1 rfl) ?_
  refine lv_aload_n hx hb dX1_let_1 rfl (lv_at hl 0 rfl) ?_
  refine gtV_areas hC hin1 hY (by decide +kernel) dX1_let_2 ?_
  refine g_alen hC hY 1 (by omega) 0 rfl rfl (v := 6) rfl dX1_let_5 ?_
  refine gx_callv hY (gx_runS (n := 2) hC (c_X1_checkNumber l G ad σ n τ hst p0 6 6 rfl) gX1_let_X1_checkNumber rfl ⟨rfl, rfl⟩ (by decide +kernel) ⟨Nat.le_of_ble_eq_true rfl, Nat.le_of_ble_eq_true rfl⟩ hY rfl hl.1 rfl (Nat.le_of_ble_eq_true rfl) dX1_let_6 ⟨Nat.le_of_ble_eq_true rfl, Nat.le_of_ble_eq_true rfl⟩) hxt hlocks ⟨Nat.le_of_ble_eq_true rfl, Nat.le_of_ble_eq_true rfl⟩ (fun E h => Or.inl ⟨h.1, by have q := h.2; unfold cdLet; (repeat' split) <;> first | rfl | omega⟩) (fun H locs h2 hY => ?_)
  refine lv_iload_n hx hb dX1_let_9 rfl (lv_at hl 2 rfl) ?_
  refine lv_iconst (v := 0) hx hb dX1_let_10 (by decide) ?_
  refine lv_sipush (v := 7199) hx hb dX1_let_11 (by decide) ?_
  refine gx_callv hY (gx_runS (n := 3) hC (c_X1_checkRange l G ad σ n τ hst p1 0 7199 0 7199 rfl rfl) gX1_let_X1_checkRange rfl ⟨rfl, rfl⟩ (by decide +kernel) ⟨Nat.le_of_ble_eq_true rfl, Nat.le_of_ble_eq_true rfl⟩ hY rfl hl.1 rfl (Nat.le_of_ble_eq_true rfl) dX1_let_14 ⟨Nat.le_of_ble_eq_true rfl, Nat.le_of_ble_eq_true rfl⟩) hxt hlocks ⟨Nat.le_of_ble_eq_true rfl, Nat.le_of_ble_eq_true rfl⟩ (fun E h => Or.inr <| Or.inl ⟨h.1, by have q := h.2; unfold cdLet; (repeat' split) <;> first | rfl | omega⟩) (fun H locs h4 hY => ?_)
  refine lv_iload_n hx hb dX1_let_17 rfl (lv_at hl 3 rfl) ?_
  refine lv_iload_n hx hb dX1_let_18 rfl (lv_at hl 2 rfl) ?_
  refine lv_iconst (v := 1) hx hb dX1_let_19 (by decide) ?_
  refine lv_iadd hx hb dX1_let_20 ?_
  refine lv_sipush (v := 7200) hx hb dX1_let_21 (by decide) ?_
  refine gx_callv hY (gx_runS (n := 3) hC (c_X1_checkRange l G ad σ n τ hst p2 (p1 + 1) 7200 (p1.toInt + 1) 7200 (i_add1 (by omega)) rfl) gX1_let_X1_checkRange rfl ⟨rfl, rfl⟩ (by decide +kernel) ⟨Nat.le_of_ble_eq_true rfl, Nat.le_of_ble_eq_true rfl⟩ hY rfl hl.1 rfl (Nat.le_of_ble_eq_true rfl) dX1_let_24 ⟨Nat.le_of_ble_eq_true rfl, Nat.le_of_ble_eq_true rfl⟩) hxt hlocks ⟨Nat.le_of_ble_eq_true rfl, Nat.le_of_ble_eq_true rfl⟩ (fun E h => Or.inr <| Or.inl ⟨h.1, by have q := h.2; unfold cdLet; (repeat' split) <;> first | rfl | omega⟩) (fun H locs h6 hY => ?_)
  refine lv_iload hx hb dX1_let_27 (lv_at hl 4 rfl) ?_
  refine lv_iconst (v := 1) hx hb dX1_let_29 (by decide) ?_
  refine lv_ldc (v := 99999) hx hb hC.2.2.2.1 (hC.2.2.2.2 _ (by decide +kernel)) dX1_let_30 ?_
  refine gx_callv hY (gx_runS (n := 3) hC (c_X1_checkRange l G ad σ n τ hst p3 1 99999 1 99999 rfl rfl) gX1_let_X1_checkRange rfl ⟨rfl, rfl⟩ (by decide +kernel) ⟨Nat.le_of_ble_eq_true rfl, Nat.le_of_ble_eq_true rfl⟩ hY rfl hl.1 rfl (Nat.le_of_ble_eq_true rfl) dX1_let_32 ⟨Nat.le_of_ble_eq_true rfl, Nat.le_of_ble_eq_true rfl⟩) hxt hlocks ⟨Nat.le_of_ble_eq_true rfl, Nat.le_of_ble_eq_true rfl⟩ (fun E h => Or.inr <| Or.inl ⟨h.1, by have q := h.2; unfold cdLet; (repeat' split) <;> first | rfl | omega⟩) (fun H locs h8 hY => ?_)
  refine lv_aload_n hx hb dX1_let_35 rfl (lv_at hl 0 rfl) ?_
  refine gtV_count hC hin1 hY (by decide +kernel) dX1_let_36 ?_
  refine lv_aload_n hx hb dX1_let_39 rfl (lv_at hl 0 rfl) ?_
  refine gtV_roll hC hin1 hY (by decide +kernel) dX1_let_40 ?_
  refine g_alen hC hY 4 (by omega) 1 rfl rfl (v := 24) rfl dX1_let_43 ?_
  refine b_icmp_lt (tgt := 57) hx hb dX1_let_44 (by decide) (fun (h9 : (nI n).toInt < 24) => ?_) (fun (h9 : 24 ≤ (nI n).toInt) => ?_)
  · refine lv_aload_n hx hb dX1_let_57 rfl (lv_at hl 0 rfl) ?_
    refine lv_iload_n hx hb dX1_let_58 rfl (lv_at hl 1 rfl) ?_
    refine lv_iload_n hx hb dX1_let_59 rfl (lv_at hl 2 rfl) ?_
    refine lv_iload_n hx hb dX1_let_60 rfl (lv_at hl 3 rfl) ?_
    refine g_calli hY (g_runV (n := 3) (q := (RX1, TX1, 5)) (r := 0) hC (c_X1_daysLet l G ad σ n τ p0 p1 p2) gX1_let_X1_daysLet rfl ⟨rfl, rfl⟩ (by decide +kernel) ⟨Nat.le_of_ble_eq_true rfl, Nat.le_of_ble_eq_true rfl⟩ hY (by omega) rfl (ci := 1) rfl rfl hl.1 rfl (Nat.le_of_ble_eq_true rfl) dX1_let_61 ⟨Nat.le_of_ble_eq_true rfl, Nat.le_of_ble_eq_true rfl⟩) (fun r10 H locs h11 hY => ?_)
    subst h11
    refine b_if_le (tgt := 77) hx hb dX1_let_64 (by decide) (fun (h12 : (dlP σ n p0 p1 p2 24).toInt ≤ 0) => ?_) (fun (h12 : 0 < (dlP σ n p0 p1 p2 24).toInt) => ?_)
    · have hnn : n < 24 := by omega
      refine lv_aload_n hx hb dX1_let_77 rfl (lv_at hl 0 rfl) ?_
      refine gtV_count hC hin1 hY (by decide +kernel) dX1_let_78 ?_
      refine lv_istore (lv' := [(5, .int (nI n)), (0, .ref (ad 0)), (1, .int p0), (2, .int p1), (3, .int p2), (4, .int p3)]) hx hb dX1_let_81 hl (by decide) rfl (fun ls hl => ?_)
      refine lv_aload_n hx hb dX1_let_83 rfl (lv_at hl 1 rfl) ?_
      refine gtV_roll hC hin1 hY (by decide +kernel) dX1_let_84 ?_
      refine lv_iload hx hb dX1_let_87 (lv_at hl 0 rfl) ?_
      refine g_new hC hY (ci := 0) (q := (RX0, TX0, 12)) rfl hin0 tyX0 tyX0_ok (by decide +kernel) (by decide +kernel) (by decide +kernel) (fs := [.int 0, .int 0, .int 0, .int 0, .int 0, .int 0, .int 0, .int 0, .int 0, .null, .null, .int 0]) (fun j hj => by have hj : j < 12 := hj; rcases (show j = 0 ∨ j = 1 ∨ j = 2 ∨ j = 3 ∨ j = 4 ∨ j = 5 ∨ j = 6 ∨ j = 7 ∨ j = 8 ∨ j = 9 ∨ j = 10 ∨ j = 11 by omega) with rfl | rfl | rfl | rfl | rfl | rfl | rfl | rfl | rfl | rfl | rfl | rfl <;> rfl) (Nat.le_of_ble_eq_true rfl) (Nat.le_of_ble_eq_true rfl) dX1_let_89 (fun q H hY => ?_)
      refine lv_dup hx hb dX1_let_92 rfl ?_
      refine lv_iload_n hx hb dX1_let_93 rfl (lv_at hl 2 rfl) ?_
      refine lv_iload_n hx hb dX1_let_94 rfl (lv_at hl 3 rfl) ?_
      refine lv_iload_n hx hb dX1_let_95 rfl (lv_at hl 4 rfl) ?_
      refine lv_iload hx hb dX1_let_96 (lv_at hl 5 rfl) ?_
      have hM := c_X0_init l G (3 * n + 9) (va_up ad (3 * n + 9) q) (va_up (ctS G ad σ n τ) (3 * n + 9) (.inr (0, [.int 0, .int 0, .int 0, .int 0, .int 0, .int 0, .int 0, .int 0, .int 0, .null, .null, .int 0]))) (va_up_self _ _ _) p0 p1 p2 p3
      rw [va_up_self] at hM
      refine g_callI hY (g_runI (n := 4) (b := q) hC hM gX1_let_X0_init rfl ⟨rfl, rfl⟩ (by decide +kernel) (by decide +kernel) (by decide +kernel) rfl (by decide +kernel) ⟨Nat.le_of_ble_eq_true rfl, Nat.le_of_ble_eq_true rfl⟩ hY rfl hl.1 rfl (Nat.le_of_ble_eq_true rfl) dX1_let_98 ⟨Nat.le_of_ble_eq_true rfl, Nat.le_of_ble_eq_true rfl⟩) (fun u H locs hu hY => ?_)
      have hu9 : ∀ r, r < 3 * n + 9 → u r = ad r := fun r h => by rw [hu r (by omega), va_up_ne _ _ (by omega)]
      have huR : q = u (3 * n + 9) := by rw [hu _ (Nat.le_refl _), va_up_self]
      refine W.eq (g2 := F0 m 101 ls [.ref (u (3 * n + 9)), .int (nI n), .ref (u 4)]) (by rw [← huR, hu9 4 (by omega)]) ?_
      have hnI : (nI n).toInt = n := i_nI (by omega)
      refine g_aast hC hY 4 (by omega) (n := 24) (f := roF ad n) (by unfold ctI; rw [if_neg (by omega), if_neg (by omega), va_up_ne _ _ (by omega)]; rfl) (3 * n + 9) (by omega) (by unfold ctI; exact if_pos rfl) ⟨by omega, by omega⟩ dX1_let_101 (fun H locs hY => ?_)
      refine lv_aload_n hx hb dX1_let_102 rfl (lv_at hl 1 rfl) ?_
      refine lv_iload hx hb dX1_let_103 (lv_at hl 0 rfl) ?_
      refine lv_iconst (v := 1) hx hb dX1_let_105 (by decide) ?_
      refine lv_iadd hx hb dX1_let_106 ?_
      refine g_putA hC hY 0 (by omega) (a := ad 0) (hu9 0 (by omega)) (ci := 1) (fs := [.ref (ad 1), .ref (ad 2), .ref (ad 3), .ref (ad 4), .int (nI n)]) (by rw [va_up_ne _ _ (by omega)]; unfold ctI; rw [if_neg (by omega), if_neg (by omega), va_up_ne _ _ (by omega)]; rfl) (q := (RX1, TX1, 5)) rfl hin1 tyX1 tyX1_ok nmX1 4 (by decide) (by decide +kernel) (Or.inl rfl) rfl rfl (Nat.le_of_ble_eq_true rfl) dX1_let_107 (fun H locs hY => ?_)
      refine lv_iload hx hb dX1_let_110 (lv_at hl 0 rfl) ?_
      exact vx_ret (g_iretU (ct2 := fun u => ctS G u (ltS σ n p0 p1 p2 p3) (n + 1) τ) hC hr hlocks u (N := 3 * n + 9 + 3) (hY.ctE (fun r hr => let_ct hnn (hz hnn) hu9 r hr)) ⟨Nat.le_of_ble_eq_true rfl, Nat.le_of_ble_eq_true rfl⟩ dX1_let_112 ⟨by unfold cdLet; (repeat' split) <;> first | rfl | omega, rfl, hu9⟩)
    · exact g_throw hC hst hY hxt hlocks (E := xS) (text := "the unit is let on one of these days") (by decide +kernel) (by decide +kernel) (by decide +kernel) (by decide) (fun w h => List.mem_cons_of_mem _ (List.mem_append_left _ (List.mem_append_left _ (List.mem_append_right _ h)))) at_S1 at_G1 hY.2.2.2.2.2.1.2.2 hl.1 dX1_let_67 dX1_let_70 dX1_let_71 dX1_let_73 dX1_let_76 ⟨Nat.le_of_ble_eq_true rfl, Nat.le_of_ble_eq_true rfl, Nat.le_of_ble_eq_true rfl, Nat.le_of_ble_eq_true rfl⟩ ⟨Nat.le_of_ble_eq_true rfl, Nat.le_of_ble_eq_true rfl⟩ (Or.inr (Or.inr ⟨rfl, by unfold cdLet; (repeat' split) <;> first | rfl | omega⟩))
  · exact g_throw hC hst hY hxt hlocks (E := xS) (text := "no more leases") (by decide +kernel) (by decide +kernel) (by decide +kernel) (by decide) (fun w h => List.mem_cons_of_mem _ (List.mem_append_left _ (List.mem_append_left _ (List.mem_append_right _ h)))) at_S1 at_G1 hY.2.2.2.2.2.1.2.2 hl.1 dX1_let_47 dX1_let_50 dX1_let_51 dX1_let_53 dX1_let_56 ⟨Nat.le_of_ble_eq_true rfl, Nat.le_of_ble_eq_true rfl, Nat.le_of_ble_eq_true rfl, Nat.le_of_ble_eq_true rfl⟩ ⟨Nat.le_of_ble_eq_true rfl, Nat.le_of_ble_eq_true rfl⟩ (Or.inr (Or.inr ⟨rfl, by unfold cdLet; (repeat' split) <;> first | rfl | omega⟩))

theorem vx_calliU {p : Program} {l : Launch} {e : Env} {R : Room} {s : State} {m : MethodId} {args : Array Value} {below : List Frame} {meth : Method} {c : Code} {H : Heap} {locs : List Loc} {cells slots : Nat} {Q : State → Prop} {pc : Nat} {ls : Array Slot} {rest st0 : List Value} {G : GG} {N N2 : Nat} {ad : Nat → Nat} {ct : Nat → va_E} {mc ms : Nat} {a : Array Value} {post : Int32 → (Nat → Nat) → Prop} {ct2 : (Nat → Nat) → Nat → va_E} {ex : String → Prop} (hY : Sy G N ad ct s H locs) (hr : vx_Run p l e R s m args below meth c H locs cells slots mc ms (F0 m pc ls st0) rest (va_Qi post (fun u t => Sz G N2 u (ct2 u) t) (gF G) a) (XG G N ad ct ex) (gF G))
    (kx : ∀ (E : String) (H1 : Heap) (locs1 : List Loc) (q9 : Addr) (ce : Cell), ex E → Sy G N ad ct s H1 locs1 → H1[q9]? = some ce → ce.vm = .none → s.vm.findClass E = some ce.cls → vx_W p l e R s m args below meth c H1 locs1 (cells + mc) (slots + ms) Q (F0 m pc ls rest) q9)
    (kk : ∀ (r : Int32) (u : Nat → Nat) (H1 : Heap) (locs1 : List Loc), post r u → Sy G N2 u (ct2 u) s H1 locs1 → W p l e R s m args below meth c H1 locs1 (cells + mc) (slots + ms) Q (F0 m (pc + 3) ls (.int r :: rest))) : W p l e R s m args below meth c H locs cells slots Q (F0 m pc ls st0) :=
  vx_calli hr hY.2.2.2.1 (fun _ _ h => h) (fun _ h => h) (fun _ _ h => h) (fun E ce q9 _ t H1 locs1 ht hvm _ hb _ _ hS hce hcv hcl => kx E H1 locs1 q9 ce hb.1 (hY.back hb.2 ht hvm hS) hce hcv hcl) (fun r u t H1 locs1 ht hvm hp hz _ _ hS => kk r u H1 locs1 hp (hY.back hz ht hvm hS))

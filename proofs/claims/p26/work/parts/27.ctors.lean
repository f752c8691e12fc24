/-! the constructors of the roll and of the reference -/
def idP (i : Nat) : Nat → Int32 := fun q => if q < i then 100 else 0
theorem idP_s {i : Nat} : upd (idP i) i 100 = idP (i + 1) := by
  unfold upd idP
  funext q
  by_cases h : q = i
  · rw [if_pos h, if_pos (by omega)]
  · rw [if_neg h]
    by_cases h2 : q < i
    · rw [if_pos h2, if_pos (by omega)]
    · rw [if_neg h2, if_neg (by omega)]
def σI : St := fun a => if a = 1 then idP 240 else fun _ => 0
/-- the roll's cells before its loop is through: i indices are laid -/
def ctV (G : GG) (u : Nat → Nat) (f : Nat → Int32) : Nat → va_E := fun r => match r with
  | 0 => .inr (1, [.ref (u 1), .ref (u 2), .ref (u 3), .ref (u 4), .int 0])
  | 1 => .inl (G.2.2 0, 6, .inl (fun _ => 0))
  | 2 => .inl (G.2.2 0, 240, .inl f)
  | 3 => .inl (G.2.2 0, 20, .inl (fun _ => 0))
  | _ => .inl (G.2.2 1, 24, .inr (.inr (.inr (.inr (fun _ => none)))))
set_option maxHeartbeats 4000000 in
set_option maxRecDepth 100000 in
theorem c_X1_init (l : Launch) (G : GG) (ad : Nat → Nat) (ct : Nat → va_E) (hct : ct 0 = .inr (1, [.null, .null, .null, .null, .int 0])) : Met l yX1_init wsX1_init ({ frames := 1, cells := 4, slots := 290, locals := 20 }) (va_Pc [.ref (ad 0)] (fun U => Sy G 1 ad ct U U.heap [] ∧ va_AO RX0 U)) (va_Qv (fun u => u 0 = ad 0) (fun u t => Sz G 5 u (ctV G u (idP 240)) t) (gF G)) 4 290 (gF G) := by
  refine Met.ofW (cc := cX1_init) (maxL := 2) (ret := none) (by decide) rfl ?_
  intro p e s m args below meth c s₁ B hml hv
  obtain ⟨rfl, hY, hover⟩ := hv
  have hts := atoms_spec (ws := wsX1_init) B.pre
  have hC : CallFix p m c cX1_init 2 s _ wsX1_init RX1 := ⟨B.exec, B.bytes, hml, findClass_of_methodNamed B.named, hts⟩
  have hx := hC.1
  have hb := hC.2.1
  have hr := B.returns
  have hlocks := B.notSynchronized
  have hin : meth.name = "<init>" := (name_of_methodNamed B.named B.method).1
  have hin1 : ∀ w ∈ wsX10, w ∈ wsX1_init := by decide +kernel
  have hl := lv_entry ([.ref (ad 0)]) (n := 2) (Nat.le_of_ble_eq_true rfl)
  rw [lg_entry_eq]
  generalize (lg_sl ([.ref (ad 0)]) ++ List.replicate (2 - (lg_sl ([.ref (ad 0)])).length) Slot.unset).toArray = ls at hl ⊢
  have hl : lv_has ls 2 [(0, .ref (ad 0))] := hl
  refine lv_aload_n hx hb dX1_init_0 rfl (lv_at hl 0 rfl) ?_
  refine W.objInit hx hb hC.2.2.2.1 (hts (.methodLink RX1 1 objectInit) (by decide +kernel)) (hts (.instanceMethod objectInit) (by decide +kernel)) (hts _ (by decide +kernel)) rfl (by rw [hml]; exact hl.1) rfl dX1_init_1 (Nat.le_of_ble_eq_true rfl) (Nat.le_of_ble_eq_true rfl) ?_
  refine W.eq (g2 := F0 m 4 ls []) rfl ?_
  refine lv_aload_n hx hb dX1_init_4 rfl (lv_at hl 0 rfl) ?_
  refine lv_bipush (v := 6) hx hb dX1_init_5 (by decide) ?_
  refine g_newi hC hY (by decide +kernel) (L := 6) (by decide) (by decide) (by decide) (Nat.le_of_ble_eq_true rfl) (Nat.le_of_ble_eq_true rfl) dX1_init_7 (fun q1 H hY => ?_)
  refine g_putA hC hY 0 (by omega) (a := ad 0) (va_up_ne _ _ (by omega)) ((va_up_ne _ _ (by omega)).trans hct) (q := (RX1, TX1, 5)) rfl hin1 tyX1 tyX1_ok nmX1 0 (by decide) (by decide +kernel) (Or.inr ⟨rfl, hin, rfl⟩) rfl rfl (Nat.le_of_ble_eq_true rfl) dX1_init_9 (fun H locs hY => ?_)
  refine lv_aload_n hx hb dX1_init_12 rfl (lv_at hl 0 rfl) ?_
  refine lv_sipush (v := 240) hx hb dX1_init_13 (by decide) ?_
  refine g_newi hC hY (by decide +kernel) (L := 240) (by decide) (by decide) (by decide) (Nat.le_of_ble_eq_true rfl) (Nat.le_of_ble_eq_true rfl) dX1_init_16 (fun q2 H hY => ?_)
  refine g_putA hC hY 0 (by omega) (a := ad 0) ((va_up_ne _ _ (by omega)).trans (va_up_ne _ _ (by omega))) ((va_up_ne _ _ (by omega)).trans (va_up_self _ _ _)) (q := (RX1, TX1, 5)) rfl hin1 tyX1 tyX1_ok nmX1 1 (by decide) (by decide +kernel) (Or.inr ⟨rfl, hin, rfl⟩) rfl rfl (Nat.le_of_ble_eq_true rfl) dX1_init_18 (fun H locs hY => ?_)
  refine lv_aload_n hx hb dX1_init_21 rfl (lv_at hl 0 rfl) ?_
  refine lv_bipush (v := 20) hx hb dX1_init_22 (by decide) ?_
  refine g_newi hC hY (by decide +kernel) (L := 20) (by decide) (by decide) (by decide) (Nat.le_of_ble_eq_true rfl) (Nat.le_of_ble_eq_true rfl) dX1_init_24 (fun q3 H hY => ?_)
  refine g_putA hC hY 0 (by omega) (a := ad 0) ((va_up_ne _ _ (by omega)).trans ((va_up_ne _ _ (by omega)).trans (va_up_ne _ _ (by omega)))) ((va_up_ne _ _ (by omega)).trans (va_up_self _ _ _)) (q := (RX1, TX1, 5)) rfl hin1 tyX1 tyX1_ok nmX1 2 (by decide) (by decide +kernel) (Or.inr ⟨rfl, hin, rfl⟩) rfl rfl (Nat.le_of_ble_eq_true rfl) dX1_init_26 (fun H locs hY => ?_)
  refine lv_aload_n hx hb dX1_init_29 rfl (lv_at hl 0 rfl) ?_
  refine lv_bipush (v := 24) hx hb dX1_init_30 (by decide) ?_
  refine g_newq hC hY (by decide +kernel) hover (L := 24) (by decide) (by decide) (by decide) (Nat.le_of_ble_eq_true rfl) (Nat.le_of_ble_eq_true rfl) dX1_init_32 (fun q4 H hY => ?_)
  refine g_putA hC hY 0 (by omega) (a := ad 0) ((va_up_ne _ _ (by omega)).trans ((va_up_ne _ _ (by omega)).trans ((va_up_ne _ _ (by omega)).trans (va_up_ne _ _ (by omega))))) ((va_up_ne _ _ (by omega)).trans (va_up_self _ _ _)) (q := (RX1, TX1, 5)) rfl hin1 tyX1 tyX1_ok nmX1 3 (by decide) (by decide +kernel) (Or.inr ⟨rfl, hin, rfl⟩) rfl rfl (Nat.le_of_ble_eq_true rfl) dX1_init_35 (fun H locs hY => ?_)
  refine lv_aload_n hx hb dX1_init_38 rfl (lv_at hl 0 rfl) ?_
  refine lv_iconst (v := 0) hx hb dX1_init_39 (by decide) ?_
  refine g_putA hC hY 0 (by omega) (a := ad 0) ((va_up_ne _ _ (by omega)).trans ((va_up_ne _ _ (by omega)).trans ((va_up_ne _ _ (by omega)).trans (va_up_ne _ _ (by omega))))) (va_up_self _ _ _) (q := (RX1, TX1, 5)) rfl hin1 tyX1 tyX1_ok nmX1 4 (by decide) (by decide +kernel) (Or.inl rfl) rfl rfl (Nat.le_of_ble_eq_true rfl) dX1_init_40 (fun H locs hY => ?_)
  obtain ⟨u, hu⟩ : ∃ u, u = (va_up (va_up (va_up (va_up ad 1 q1) 2 q2) 3 q3) 4 q4) := ⟨_, rfl⟩
  have hu0 : u 0 = ad 0 := by rw [hu]; rfl
  have hu1 : u 1 = q1 := by rw [hu]; rfl
  have hu2 : u 2 = q2 := by rw [hu]; rfl
  have hu3 : u 3 = q3 := by rw [hu]; rfl
  have hu4 : u 4 = q4 := by rw [hu]; rfl
  have hY : Sy G 5 u (ctV G u (idP 0)) s H locs := by
    rw [← hu] at hY
    refine hY.ctE (fun r hr => ?_)
    unfold ctV
    rw [hu1, hu2, hu3, hu4]
    rcases (show r = 0 ∨ r = 1 ∨ r = 2 ∨ r = 3 ∨ r = 4 by omega) with rfl | rfl | rfl | rfl | rfl <;> rfl
  have hq0 : u 0 = ad 0 := hu0
  refine lv_iconst (v := 0) hx hb dX1_init_43 (by decide) ?_
  refine lv_istore_n (lv' := [(1, .int 0), (0, .ref (ad 0))]) hx hb dX1_init_44 rfl hl (by decide) rfl (fun ls hl => ?_)
  refine w_loop (X := Int32) (fun i x H locs ls => (x.toInt = i ∧ (i : Int) ≤ 240) ∧ Sy G 5 u (ctV G u (idP i)) s H locs ∧ lv_has ls 2 [(1, .int x), (0, .ref (ad 0))]) 240 ?_ ?_ 0 ⟨⟨rfl, by decide⟩, hY, lv_sub hl [0, 1] rfl⟩
  · intro i x H locs ls hI ih
    obtain ⟨⟨h0, h9⟩, hY, hl⟩ := hI
    refine lv_iload_n hx hb dX1_init_45 rfl (lv_at hl 0 rfl) ?_
    refine lv_aload_n hx hb dX1_init_46 rfl (lv_at hl 1 rfl) ?_
    refine g_getA hC hY 0 (by omega) (a := ad 0) hq0 (ci := 1) (fs := [.ref (u 1), .ref (u 2), .ref (u 3), .ref (u 4), .int 0]) rfl (q := (RX1, TX1, 5)) rfl hin1 1 (by decide) (by decide +kernel) rfl dX1_init_47 ?_
    refine g_alen hC hY 2 (by omega) 0 rfl rfl (v := 240) rfl dX1_init_50 ?_
    refine b_icmp_ge (tgt := 68) hx hb dX1_init_51 (by decide) (fun (h1 : 240 ≤ x.toInt) => ?_) (fun (h1 : x.toInt < 240) => ?_)
    · have hi : i = 240 := by omega
      subst hi
      exact g_retI (ct2 := fun u => ctV G u (idP 240)) hC hr hlocks u hY ⟨Nat.le_of_ble_eq_true rfl, Nat.le_of_ble_eq_true rfl⟩ dX1_init_68 hu0
    · refine lv_aload_n hx hb dX1_init_54 rfl (lv_at hl 1 rfl) ?_
      refine g_getA hC hY 0 (by omega) (a := ad 0) hq0 (ci := 1) (fs := [.ref (u 1), .ref (u 2), .ref (u 3), .ref (u 4), .int 0]) rfl (q := (RX1, TX1, 5)) rfl hin1 1 (by decide) (by decide +kernel) rfl dX1_init_55 ?_
      refine lv_iload_n hx hb dX1_init_58 rfl (lv_at hl 0 rfl) ?_
      refine lv_bipush (v := 100) hx hb dX1_init_59 (by decide) ?_
      refine g_iast hC hY 2 (by omega) (n := 240) (f := idP i) rfl ⟨by omega, by omega⟩ dX1_init_61 (fun H locs hY => ?_)
      refine lv_iinc (v := x + 1) (lv' := [(1, .int (x + 1)), (0, .ref (ad 0))]) hx hb dX1_init_62 hl (k := 0) rfl rfl (by decide) rfl (fun ls hl => ?_)
      refine lv_goto (tgt := 45) hx hb dX1_init_65 (by decide) ?_
      refine ih (x + 1) _ _ _ ⟨⟨by rw [i_add1 (by omega)]; omega, by omega⟩, hY.ctE (fun r hr => ?_), lv_sub hl [0, 1] rfl⟩
      have hix : x.toNatClampNeg = i := i_ix h0
      rw [hix, idP_s]
      rcases (show r = 0 ∨ r = 1 ∨ r = 2 ∨ r = 3 ∨ r = 4 by omega) with rfl | rfl | rfl | rfl | rfl <;> rfl
  · intro i x H locs ls hI
    obtain ⟨⟨h0, h9⟩, -, -⟩ := hI
    omega

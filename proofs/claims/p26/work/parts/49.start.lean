/-! the law's start -/
abbrev τ0 : St := fun _ _ => 0
theorem start_ct {G : GG} {u : Nat → Nat} {q5 q6 q7 q8 : Nat} (r : Nat) (hr : r < 9) : va_up (va_up (va_up (va_up (ctV G u (idP 240)) 5 (.inl (G.2.2 0, 60, .inl (fun _ => 0)))) 6 (.inl (G.2.2 0, 7, .inl (fun _ => 0)))) 7 (.inl (G.2.2 0, 12, .inl (fun _ => 0)))) 8 (.inl (G.2.2 0, 36, .inl (fun _ => 0))) r = ctS G (va_up (va_up (va_up (va_up u 5 q5) 6 q6) 7 q7) 8 q8) σI 0 τ0 r := by
  have hu : ∀ r, r < 5 → u r = (va_up (va_up (va_up (va_up u 5 q5) 6 q6) 7 q7) 8 q8) r := fun r h => by rw [va_up_ne _ _ (by omega), va_up_ne _ _ (by omega), va_up_ne _ _ (by omega), va_up_ne _ _ (by omega)]
  match r, hr with
  | 0, _ =>
    rw [va_up_ne _ _ (by omega), va_up_ne _ _ (by omega), va_up_ne _ _ (by omega), va_up_ne _ _ (by omega)]
    show (.inr (1, [.ref (u 1), .ref (u 2), .ref (u 3), .ref (u 4), .int 0]) : va_E) = .inr (1, [.ref ((va_up (va_up (va_up (va_up u 5 q5) 6 q6) 7 q7) 8 q8) 1), .ref ((va_up (va_up (va_up (va_up u 5 q5) 6 q6) 7 q7) 8 q8) 2), .ref ((va_up (va_up (va_up (va_up u 5 q5) 6 q6) 7 q7) 8 q8) 3), .ref ((va_up (va_up (va_up (va_up u 5 q5) 6 q6) 7 q7) 8 q8) 4), .int (nI 0)])
    rw [← hu 1 (by omega), ← hu 2 (by omega), ← hu 3 (by omega), ← hu 4 (by omega)]
    rfl
  | 4, _ =>
    rw [va_up_ne _ _ (by omega), va_up_ne _ _ (by omega), va_up_ne _ _ (by omega), va_up_ne _ _ (by omega)]
    show (.inl (G.2.2 1, 24, .inr (.inr (.inr (.inr (fun _ => none))))) : va_E) = .inl (G.2.2 1, 24, .inr (.inr (.inr (.inr (roF (va_up (va_up (va_up (va_up u 5 q5) 6 q6) 7 q7) 8 q8) 0)))))
    rw [show roF (va_up (va_up (va_up (va_up u 5 q5) 6 q6) 7 q7) 8 q8) 0 = fun _ => none from funext fun k => if_neg (by omega)]
  | 1, _ => rw [va_up_ne _ _ (by omega), va_up_ne _ _ (by omega), va_up_ne _ _ (by omega), va_up_ne _ _ (by omega)]; rfl
  | 2, _ => rw [va_up_ne _ _ (by omega), va_up_ne _ _ (by omega), va_up_ne _ _ (by omega), va_up_ne _ _ (by omega)]; rfl
  | 3, _ => rw [va_up_ne _ _ (by omega), va_up_ne _ _ (by omega), va_up_ne _ _ (by omega), va_up_ne _ _ (by omega)]; rfl
  | 5, _ => rw [va_up_ne _ _ (by omega), va_up_ne _ _ (by omega), va_up_ne _ _ (by omega), va_up_self]; rfl
  | 6, _ => rw [va_up_ne _ _ (by omega), va_up_ne _ _ (by omega), va_up_self]; rfl
  | 7, _ => rw [va_up_ne _ _ (by omega), va_up_self]; rfl
  | 8, _ => rw [va_up_self]; rfl
  | r + 9, h => exact absurd h (by omega)
section LS
variable {p : Program} {e : Env} {s : State} {m : MethodId} {below : List Frame} {meth : Method} {c : Code} {Q : State → Prop} {b L : Nat} {xs : Nat → Int32}
set_option maxHeartbeats 4000000 in
set_option maxRecDepth 100000 in
theorem start_two {G : GG} {H : Heap} {locs : List Loc} {ls : Array Slot} {ad : Nat → Nat} (l : Launch) (hst : l.stackTraces = false) (hC : CallFix p m c cL_law 13 s #[.ref b] wsL_law RL) (hX : va_X b L xs s s.heap) (hbl : b < s.heap.size) (hG : G.1 = s.heap.size) (hL : L ≤ 260) (hY : SyS G ad σI 0 τ0 s H locs) (hl : lv_has ls 13 [(6, .int 1), (5, .ref (ad 8)), (4, .ref (ad 7)), (3, .ref (ad 6)), (2, .ref (ad 5)), (1, .ref (ad 0)), (0, .ref b)])
    (hend : ∀ (H : Heap) (ls : Array Slot), W p l e room_1 s m #[.ref b] below meth c H [] 600104 7301314 Q (F0 m 297 ls [.int 1])) : W p l e room_1 s m #[.ref b] below meth c H locs 1000 9000 Q (F0 m 75 ls []) := by
  have hx := hC.1
  have hb := hC.2.1
  have hLi : (Int32.ofNat L).toInt = L := i_nI (by omega)
  have h3 : (Int32.ofNat L / 3).toInt = (L : Int) / 3 := i_divR hLi rfl (by omega)
  have fin : ∀ (st : Int32) (ls : Array Slot), (0 ≤ st.toInt ∧ st.toInt ≤ 60 ∧ 3 * st.toInt ≤ (L : Int)) → lv_has ls 13 ((7, .int st) :: [(6, .int 1), (5, .ref (ad 8)), (4, .ref (ad 7)), (3, .ref (ad 6)), (2, .ref (ad 5)), (1, .ref (ad 0)), (0, .ref b)]) → W p l e room_1 s m #[.ref b] below meth c H locs 1000 9000 Q (F0 m 95 ls []) := by
    intro st ls hs hl
    refine lv_iconst (v := 0) hx hb dL_law_95 (by decide) ?_
    refine lv_istore (lv' := (8, .int 0) :: (7, .int st) :: [(6, .int 1), (5, .ref (ad 8)), (4, .ref (ad 7)), (3, .ref (ad 6)), (2, .ref (ad 5)), (1, .ref (ad 0)), (0, .ref b)]) hx hb dL_law_96 hl (by decide) rfl (fun ls hl => ?_)
    have h0 : (0 : Int32).toInt = 0 := rfl
    exact law_loop l hst hC hX hbl hG hL hs hend 60 σI 0 τ0 ad H locs ls 0 1000 9000 li_0 hY (lv_sub hl [8, 7, 6, 5, 4, 3, 2, 1, 0] rfl) (by decide) (by decide) (by rw [h0]; omega) (Nat.le_of_ble_eq_true rfl) (Nat.le_of_ble_eq_true rfl)
  refine lv_aload_n hx hb dL_law_75 rfl (lv_at hl 6 rfl) ?_
  refine va_slen hx hb hX hbl (show ¬ G.1 ≤ b by omega) hY.2.2.2.1 dL_law_76 ?_
  refine lv_iconst (v := 3) hx hb dL_law_77 (by decide) ?_
  refine lv_idiv hx hb dL_law_78 (by decide) ?_
  refine lv_bipush (v := 60) hx hb dL_law_79 (by decide) ?_
  refine b_icmp_le (tgt := 89) hx hb dL_law_81 (by decide) (fun (h : (Int32.ofNat L / 3).toInt ≤ 60) => ?_) (fun (h : 60 < (Int32.ofNat L / 3).toInt) => ?_)
  · refine lv_aload_n hx hb dL_law_89 rfl (lv_at hl 6 rfl) ?_
    refine va_slen hx hb hX hbl (show ¬ G.1 ≤ b by omega) hY.2.2.2.1 dL_law_90 ?_
    refine lv_iconst (v := 3) hx hb dL_law_91 (by decide) ?_
    refine lv_idiv hx hb dL_law_92 (by decide) ?_
    refine lv_istore (lv' := (7, .int (Int32.ofNat L / 3)) :: [(6, .int 1), (5, .ref (ad 8)), (4, .ref (ad 7)), (3, .ref (ad 6)), (2, .ref (ad 5)), (1, .ref (ad 0)), (0, .ref b)]) hx hb dL_law_93 hl (by decide) rfl (fun ls hl => ?_)
    exact fin _ ls ⟨by omega, h, by omega⟩ hl
  · refine lv_bipush (v := 60) hx hb dL_law_84 (by decide) ?_
    refine lv_goto (tgt := 93) hx hb dL_law_86 (by decide) ?_
    refine lv_istore (lv' := (7, .int 60) :: [(6, .int 1), (5, .ref (ad 8)), (4, .ref (ad 7)), (3, .ref (ad 6)), (2, .ref (ad 5)), (1, .ref (ad 0)), (0, .ref b)]) hx hb dL_law_93 hl (by decide) rfl (fun ls hl => ?_)
    have h6 : (60 : Int32).toInt = 60 := rfl
    exact fin _ ls ⟨by decide, by decide, by omega⟩ hl

set_option maxHeartbeats 4000000 in
set_option maxRecDepth 100000 in
theorem start_one {G : GG} {H : Heap} {locs : List Loc} {ls : Array Slot} {ad : Nat → Nat} (l : Launch) (hst : l.stackTraces = false) (hC : CallFix p m c cL_law 13 s #[.ref b] wsL_law RL) (hX : va_X b L xs s s.heap) (hbl : b < s.heap.size) (hG : G.1 = s.heap.size) (hL : L ≤ 260) (hY : SyS G ad σI 0 τ0 s H locs) (hl : lv_has ls 13 [(5, .ref (ad 8)), (4, .ref (ad 7)), (3, .ref (ad 6)), (2, .ref (ad 5)), (1, .ref (ad 0)), (0, .ref b)])
    (hend : ∀ (H : Heap) (ls : Array Slot), W p l e room_1 s m #[.ref b] below meth c H [] 600104 7301314 Q (F0 m 297 ls [.int 1])) : W p l e room_1 s m #[.ref b] below meth c H locs 500 5000 Q (F0 m 30 ls []) := by
  have hx := hC.1
  have hb := hC.2.1
  refine lv_aload_n hx hb dL_law_30 rfl (lv_at hl 4 rfl) ?_
  refine g_calli hY (g_runV (n := 0) (q := (RX1, TX1, 5)) (r := 0) hC (c_X1_leases l G ad σI 0 τ0) gL_law_X1_leases rfl ⟨rfl, rfl⟩ (by decide +kernel) ⟨Nat.le_of_ble_eq_true rfl, Nat.le_of_ble_eq_true rfl⟩ hY (by omega) rfl (ci := 1) rfl rfl hl.1 rfl (Nat.le_of_ble_eq_true rfl) dL_law_31 ⟨Nat.le_of_ble_eq_true rfl, Nat.le_of_ble_eq_true rfl⟩) (fun r H locs h1 hY => ?_)
  subst h1
  refine b_if_ne (tgt := 72) hx hb dL_law_34 (by decide) (fun h => absurd h (by decide)) (fun _ => ?_)
  refine lv_aload_n hx hb dL_law_37 rfl (lv_at hl 4 rfl) ?_
  refine lv_bipush (v := 19) hx hb dL_law_38 (by decide) ?_
  refine gn_calli hY (gx_runV (n := 1) (q := (RX1, TX1, 5)) (r := 0) hC (c_X1_owners l G ad σI 0 τ0 hst 19) gL_law_X1_owners rfl ⟨rfl, rfl⟩ (by decide +kernel) ⟨Nat.le_of_ble_eq_true rfl, Nat.le_of_ble_eq_true rfl⟩ hY (by omega) rfl (ci := 1) rfl rfl hl.1 rfl (Nat.le_of_ble_eq_true rfl) dL_law_40 ⟨Nat.le_of_ble_eq_true rfl, Nat.le_of_ble_eq_true rfl⟩) (exC_0 (cdU1_0 ⟨by decide, by decide⟩)) (fun r H locs h1 hY => ?_)
  obtain ⟨-, rfl⟩ := h1
  refine b_if_ne (tgt := 72) hx hb dL_law_43 (by decide) (fun h => absurd h (fun q => q (by rw [ow_pt (by decide)]; rfl))) (fun _ => ?_)
  refine lv_aload_n hx hb dL_law_46 rfl (lv_at hl 4 rfl) ?_
  refine lv_iconst (v := 0) hx hb dL_law_47 (by decide) ?_
  refine gn_calld hY (gx_runV (n := 1) (q := (RX1, TX1, 5)) (r := 0) hC (c_X1_share l G ad σI 0 τ0 hst 0) gL_law_X1_share rfl ⟨rfl, rfl⟩ (by decide +kernel) ⟨Nat.le_of_ble_eq_true rfl, Nat.le_of_ble_eq_true rfl⟩ hY (by omega) rfl (ci := 1) rfl rfl hl.1 rfl (Nat.le_of_ble_eq_true rfl) dL_law_48 ⟨Nat.le_of_ble_eq_true rfl, Nat.le_of_ble_eq_true rfl⟩) (exC_0 (cdU1_0 ⟨by decide, by decide⟩)) (fun r H locs h1 hY => ?_)
  obtain ⟨-, rfl⟩ := h1
  refine lv_dconst0 hx hb dL_law_51 ?_
  refine lv_dcmp hx hb dL_law_52 ?_
  obtain ⟨lo0, hi0, hsv, hsz⟩ := sh_z inv_0 (i := 0) (by decide)
  refine b_if_ne (tgt := 72) hx hb dL_law_53 (by decide) (fun h => absurd h (fun q => q ((cmp_eq0 hsv).mpr (hsz.mpr rfl)))) (fun _ => ?_)
  refine lv_aload_n hx hb dL_law_56 rfl (lv_at hl 4 rfl) ?_
  refine lv_iconst (v := 5) hx hb dL_law_57 (by decide) ?_
  refine lv_iconst (v := 0) hx hb dL_law_58 (by decide) ?_
  refine gn_calli hY (gx_runV (n := 2) (q := (RX1, TX1, 5)) (r := 0) hC (c_X1_voids l G ad σI 0 τ0 hst 5 0) gL_law_X1_voids rfl ⟨rfl, rfl⟩ (by decide +kernel) ⟨Nat.le_of_ble_eq_true rfl, Nat.le_of_ble_eq_true rfl⟩ hY (by omega) rfl (ci := 1) rfl rfl hl.1 rfl (Nat.le_of_ble_eq_true rfl) dL_law_59 ⟨Nat.le_of_ble_eq_true rfl, Nat.le_of_ble_eq_true rfl⟩) (exC_0 (cdUX_0 ⟨by decide, by decide⟩ ⟨by decide, by decide⟩)) (fun r H locs h1 hY => ?_)
  obtain ⟨-, rfl⟩ := h1
  refine lv_sipush (v := 360) hx hb dL_law_62 (by decide) ?_
  have hv : (vdF σI 0 5 0).toInt = 360 := (vd_int (u := 5) (y := 0) inv_0 ⟨by decide, by decide⟩).1
  refine b_icmp_ne (tgt := 72) hx hb dL_law_65 (by decide) (fun h => absurd h (fun q => q hv)) (fun _ => ?_)
  refine lv_iconst (v := 1) hx hb dL_law_68 (by decide) ?_
  refine lv_goto (tgt := 73) hx hb dL_law_69 (by decide) ?_
  refine lv_istore (lv' := [(6, .int 1), (5, .ref (ad 8)), (4, .ref (ad 7)), (3, .ref (ad 6)), (2, .ref (ad 5)), (1, .ref (ad 0)), (0, .ref b)]) hx hb dL_law_73 hl (by decide) rfl (fun ls hl => ?_)
  exact W.widen (Nat.le_of_ble_eq_true rfl) (Nat.le_of_ble_eq_true rfl) (start_two l hst hC hX hbl hG hL hY hl hend)

set_option maxHeartbeats 8000000 in
set_option maxRecDepth 100000 in
theorem start_core (l : Launch) (hst : l.stackTraces = false) (hL : L ≤ 260) (hx : p.tables.exec = Jvm.exec) (hb : c.code = code) (hml : c.maxLocals = 13) (hown : s.vm.findClass RL = some m.cls) (hts : ∀ w ∈ lw_tbl, w.before #[Value.ref b] s = true) (hX : va_X b L xs s s.heap) (hbl : b < s.heap.size) (hgv : (Jvm.Cond.and given_1 narrow_1).before #[Value.ref b] s = true)
    (hend : ∀ (H : Heap) (ls : Array Slot), W p l e room_1 s m #[.ref b] below meth c H [] 600104 7301314 Q (F0 m 297 ls [.int 1])) : W p l e room_1 s m #[Value.ref b] below meth c s.heap [] 0 0 Q (entryFrame m ([Value.ref b] : List Value).toArray 13) := by
  have htL : ∀ w ∈ wsL_law, w.before #[Value.ref b] s = true := fun w h => hts w (wsL_law_in w h)
  have hC : CallFix p m c cL_law 13 s #[.ref b] wsL_law RL := ⟨hx, hb, hml, hown, htL⟩
  have hgs := flat_of_before _ hgv
  -- the classes
  have i0 : (Cond.instantiable RX0 12).before #[Value.ref b] s = true := hts _ (by decide +kernel)
  have i1 : (Cond.instantiable RX1 5).before #[Value.ref b] s = true := hts _ (by decide +kernel)
  obtain ⟨c0, iS0, hKn0⟩ := u_known (C := RX0) (T := TX0) (N := 12) (n := 12) htL inlX0 i0
  obtain ⟨c1, iS1, hKn1⟩ := u_known (C := RX1) (T := TX1) (N := 5) (n := 5) htL inlX1 i1
  obtain ⟨dC, dI, hKc⟩ : ∃ (dC : Nat → ClassId) (dI : Nat → Nat → Nat), ∀ (k : Nat) (q : vw_C), vwCl[k]? = some q → u_Kn s q.1 q.2.1 q.2.2 (dC k) (dI k) := by
    refine ⟨fun k => if k = 0 then c0 else c1, fun k => if k = 0 then iS0 else iS1, ?_⟩
    intro k q hq
    match k, hq with
    | 0, hq => cases hq; exact hKn0
    | 1, hq => cases hq; exact hKn1
    | k + 2, hq => simp [vwCl] at hq
  -- the arrays' classes
  have aI : (Cond.arrayClass .int).before #[Value.ref b] s = true := hts _ (by decide +kernel)
  have aO : (Cond.arrayOver (.object RX0)).before #[Value.ref b] s = true := hts _ (by decide +kernel)
  have hAO : va_AO RX0 s := va_AO.of aO
  obtain ⟨eI, kI, pI, fI, gI, hI'⟩ := Cond.arrayClass_spec aI
  obtain ⟨pO, eO, kO, nO, -, gO, hO', fO⟩ := Cond.arrayOver_spec aO
  obtain ⟨G, hG, hG2, hG3⟩ : ∃ G : GG, G.1 = s.heap.size ∧ G.2.1 = (dC, dI) ∧ (G.2.2 0 = eI ∧ G.2.2 1 = eO) := ⟨(s.heap.size, (dC, dI), fun k => if k = 0 then eI else eO), rfl, rfl, rfl, rfl⟩
  have hK : va_K G.2.1 vwCl (tyL G) s := by
    rw [hG2]
    refine ⟨hKc, fun k q h => ?_⟩
    unfold tyL at h
    rw [hG3.1, hG3.2] at h
    match k, h with
    | 0, h => cases h; exact ⟨fun N z => ⟨(fun k h => by cases h), kI, gI, pI, hI'⟩, fI⟩
    | 1, h => cases h; exact ⟨fun N z => ⟨(fun k h => by cases h), kO, gO, pO, hO'⟩, kO, pO, gO, hO', nO, fO⟩
    | k + 2, h => simp at h
  -- what throwing needs
  obtain ⟨cur, kcur, hcur, -⟩ := Cond.instantiable_spec i1
  have hA0 : ∀ a : Nat, a < s.heap.size → ¬ (fun q : Nat => s.heap.size ≤ q) a := fun a h q => Nat.not_le.mpr h q
  have hsr : ∀ q ∈ xstr, Cond.stringRef "Voidrent" q.1 q.2 ∈ lw_tbl := by decide +kernel
  have hnl : ∀ q ∈ nstL, Cond.fieldLinkNest "Voidrent" q.1 "Voidrent$Lease" q.2 "I" "Voidrent" ∈ lw_tbl := by decide +kernel
  have hXs : Xs s.heap.size s := ⟨⟨va_Nw.of rfl (hts _ (by decide +kernel)), va_Nw.of rfl (hts _ (by decide +kernel)), va_Nw.of rfl (hts _ (by decide +kernel))⟩,
    trivial,
    vx_Zqof (hts (.laysStatic Bundle.tN "UNASSIGNED_STACK" Bundle.steD) (by decide +kernel)) (hts (.initialized Bundle.tN) (by decide +kernel)) (hgs (.isRef (.static Bundle.tN "UNASSIGNED_STACK" Bundle.steD)) (by decide +kernel)) hA0,
    vx_Zqof (hts (.laysStatic Bundle.tN "SUPPRESSED_SENTINEL" Bundle.listD) (by decide +kernel)) (hts (.initialized Bundle.tN) (by decide +kernel)) (hgs (.isRef (.static Bundle.tN "SUPPRESSED_SENTINEL" Bundle.listD)) (by decide +kernel)) hA0,
    fun q hq => by
      have h1 := hts _ (hsr q hq)
      obtain ⟨_, _, _, a, _, _, _, _, _, hev⟩ := Cond.stringRef_spec hcur h1
      exact ⟨a, vk_R.of h1 hev⟩,
    va_Nw.of rfl (hts _ (by decide +kernel)), va_Nw.of rfl (hts _ (by decide +kernel)), va_Nw.of rfl (hts _ (by decide +kernel)),
    fun q hq => va_Nw.of rfl (hts _ (hnl q hq))⟩
  have hY : Sy G 0 (fun _ => 0) (fun _ => .inr (0, [])) s s.heap [] := ⟨hK, fun k q h => by simp [wl] at h, ⟨fun i j p q h => by simp [wl] at h, fun k q h => by simp [wl] at h⟩, va_S.rf, by rw [hG]; exact Nat.le_refl _, by rw [hG]; exact hXs⟩
  -- the walk
  have hl := lv_entry ([.ref b]) (n := 13) (Nat.le_of_ble_eq_true rfl)
  rw [lg_entry_eq]
  generalize (lg_sl ([.ref b]) ++ List.replicate (13 - (lg_sl ([.ref b])).length) Slot.unset).toArray = ls at hl ⊢
  have hl : lv_has ls 13 [(0, .ref b)] := hl
  refine g_new hC hY (ci := 1) (q := (RX1, TX1, 5)) rfl inlX1 tyX1 tyX1_ok (by decide +kernel) (by decide +kernel) (by decide +kernel) (fs := [.null, .null, .null, .null, .int 0]) (fun j hj => by have hj : j < 5 := hj; rcases (show j = 0 ∨ j = 1 ∨ j = 2 ∨ j = 3 ∨ j = 4 by omega) with rfl | rfl | rfl | rfl | rfl <;> rfl) (Nat.le_of_ble_eq_true rfl) (Nat.le_of_ble_eq_true rfl) dL_law_0 (fun q H hY => ?_)
  refine lv_dup hx hb dL_law_3 rfl ?_
  have hM := c_X1_init l G (va_up (fun _ => 0) 0 q) (va_up (fun _ => .inr (0, [])) 0 (.inr (1, [.null, .null, .null, .null, .int 0]))) (va_up_self _ _ _)
  rw [va_up_self] at hM
  refine g_callI hY (va_runI (As := []) (rest := [.ref q]) hC hM (cwI 0 hC.2.2.2.2 gL_law_X1_init rfl rfl rfl (htL _ (by decide +kernel)) (htL _ (by decide +kernel)) (htL _ (by decide +kernel)) rfl (by decide +kernel) ⟨Nat.le_of_ble_eq_true rfl, Nat.le_of_ble_eq_true rfl⟩) ⟨fun a U g mk z => ⟨z.1, (Sy.blind (av := [.ref q]) a U g mk ⟨z.1, z.2.1⟩).2, va_AO.moved (u := U) (U := U.calling g mk a) (Vm.Alike.refl U.vm) z.2.2⟩, fun U hU hW => ⟨rfl, hY.pre hU hW, va_AO.moved hW.alike hAO⟩⟩ rfl rfl hl.1 rfl (lv_room (Nat.le_of_ble_eq_true rfl)) dL_law_4 ⟨Nat.le_of_ble_eq_true rfl, Nat.le_of_ble_eq_true rfl⟩) (fun u H locs hu hY => ?_)
  refine W.eq (g2 := F0 m 7 ls [.ref (u 0)]) (by rw [hu]) ?_
  refine lv_astore_n (lv' := [(1, .ref (u 0)), (0, .ref b)]) hx hb dL_law_7 rfl hl (by decide) rfl (fun ls hl => ?_)
  refine lv_bipush (v := 60) hx hb dL_law_8 (by decide) ?_
  refine g_newi hC hY (by decide +kernel) (L := 60) (by decide) (by decide) (by decide) (Nat.le_of_ble_eq_true rfl) (Nat.le_of_ble_eq_true rfl) dL_law_10 (fun q5 H hY => ?_)
  refine lv_astore_n (lv' := [(2, .ref q5), (1, .ref (u 0)), (0, .ref b)]) hx hb dL_law_12 rfl hl (by decide) rfl (fun ls hl => ?_)
  refine lv_bipush (v := 7) hx hb dL_law_13 (by decide) ?_
  refine g_newi hC hY (by decide +kernel) (L := 7) (by decide) (by decide) (by decide) (Nat.le_of_ble_eq_true rfl) (Nat.le_of_ble_eq_true rfl) dL_law_15 (fun q6 H hY => ?_)
  refine lv_astore_n (lv' := [(3, .ref q6), (2, .ref q5), (1, .ref (u 0)), (0, .ref b)]) hx hb dL_law_17 rfl hl (by decide) rfl (fun ls hl => ?_)
  refine lv_bipush (v := 12) hx hb dL_law_18 (by decide) ?_
  refine g_newi hC hY (by decide +kernel) (L := 12) (by decide) (by decide) (by decide) (Nat.le_of_ble_eq_true rfl) (Nat.le_of_ble_eq_true rfl) dL_law_20 (fun q7 H hY => ?_)
  refine lv_astore (lv' := [(4, .ref q7), (3, .ref q6), (2, .ref q5), (1, .ref (u 0)), (0, .ref b)]) hx hb dL_law_22 hl (by decide) rfl (fun ls hl => ?_)
  refine lv_bipush (v := 36) hx hb dL_law_24 (by decide) ?_
  refine g_newi hC hY (by decide +kernel) (L := 36) (by decide) (by decide) (by decide) (Nat.le_of_ble_eq_true rfl) (Nat.le_of_ble_eq_true rfl) dL_law_26 (fun q8 H hY => ?_)
  refine lv_astore (lv' := [(5, .ref q8), (4, .ref q7), (3, .ref q6), (2, .ref q5), (1, .ref (u 0)), (0, .ref b)]) hx hb dL_law_28 hl (by decide) rfl (fun ls hl => ?_)
  have hY : SyS G (va_up (va_up (va_up (va_up u 5 q5) 6 q6) 7 q7) 8 q8) σI 0 τ0 s H locs := hY.ctE (fun r hr => start_ct r hr)
  have e0 : (va_up (va_up (va_up (va_up u 5 q5) 6 q6) 7 q7) 8 q8) 0 = u 0 := by rw [va_up_ne _ _ (by omega), va_up_ne _ _ (by omega), va_up_ne _ _ (by omega), va_up_ne _ _ (by omega)]
  have e5 : (va_up (va_up (va_up (va_up u 5 q5) 6 q6) 7 q7) 8 q8) 5 = q5 := by rw [va_up_ne _ _ (by omega), va_up_ne _ _ (by omega), va_up_ne _ _ (by omega), va_up_self]
  have e6 : (va_up (va_up (va_up (va_up u 5 q5) 6 q6) 7 q7) 8 q8) 6 = q6 := by rw [va_up_ne _ _ (by omega), va_up_ne _ _ (by omega), va_up_self]
  have e7 : (va_up (va_up (va_up (va_up u 5 q5) 6 q6) 7 q7) 8 q8) 7 = q7 := by rw [va_up_ne _ _ (by omega), va_up_self]
  have e8 : (va_up (va_up (va_up (va_up u 5 q5) 6 q6) 7 q7) 8 q8) 8 = q8 := va_up_self _ _ _
  generalize (va_up (va_up (va_up (va_up u 5 q5) 6 q6) 7 q7) 8 q8) = ad at hY e0 e5 e6 e7 e8
  have hl : lv_has ls 13 [(5, .ref (ad 8)), (4, .ref (ad 7)), (3, .ref (ad 6)), (2, .ref (ad 5)), (1, .ref (ad 0)), (0, .ref b)] := by rw [e0, e5, e6, e7, e8]; exact hl
  exact W.widen (Nat.le_of_ble_eq_true rfl) (Nat.le_of_ble_eq_true rfl) (start_one l hst hC hX hbl hG hL hY hl hend)
end LS

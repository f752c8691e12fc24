/-! the law's loop and its start -/
section LS
variable {p : Program} {e : Env} {s : State} {m : MethodId} {below : List Frame} {meth : Method} {c : Code} {Q : State → Prop} {G : GG} {b L : Nat} {xs : Nat → Int32}
set_option maxHeartbeats 4000000 in
set_option maxRecDepth 100000 in
theorem t_all {H : Heap} {locs : List Loc} {cells slots : Nat} {ls : Array Slot} {ad : Nat → Nat} {σ : St} {n : Nat} {th : Int32} {o : OL} {od : OD} {i : Int32} (l : Launch) (hst : l.stackTraces = false) (hC : CallFix p m c cL_law 9 s #[.ref b] wsL_law RL) (hI : Inv σ n) (hY : SyS G ad σ n σ n th o od s H locs) (hl : lv_has ls 9 (lawlv b ad i)) (hX : va_X b L xs s s.heap) (hbl : b < s.heap.size) (hG : G.1 = s.heap.size) (hi : 0 ≤ i.toInt ∧ i.toInt + 5 ≤ L) (hL : L ≤ 2560) (hcr : cells + 8 ≤ 601024 ∧ slots + 60 ≤ 7293033) (kk : Kt p l e s m below meth c cells slots Q G b i) : W p l e room_1 s m #[.ref b] below meth c H locs cells slots Q (F0 m 37 ls []) := by
  have hx := hC.1
  have hb := hC.2.1
  refine lv_aload_n hx hb dL_law_37 rfl (lv_at hl 1 rfl) ?_
  refine lv_iload hx hb dL_law_38 (lv_at hl 0 rfl) ?_
  refine g_scr hC hY hX hbl hG ⟨by omega, by omega⟩ rfl dL_law_40 ?_
  refine lv_bipush (v := 31) hx hb dL_law_41 (by decide) ?_
  refine lv_iand hx hb dL_law_43 ?_
  obtain ⟨k, hk, ek⟩ := pk_andE (xs (ix i)) (m := 31) 5 (by decide)
  rw [ek]
  have hkk : (nI k).toInt = k := i_nI (by omega)
  by_cases h : k ≤ 22
  · rcases (show k = 0 ∨ k = 1 ∨ k = 2 ∨ k = 3 ∨ k = 4 ∨ k = 5 ∨ k = 6 ∨ k = 7 ∨ k = 8 ∨ k = 9 ∨ k = 10 ∨ k = 11 ∨ k = 12 ∨ k = 13 ∨ k = 14 ∨ k = 15 ∨ k = 16 ∨ k = 17 ∨ k = 18 ∨ k = 19 ∨ k = 20 ∨ k = 21 ∨ k = 22 by omega) with rfl | rfl | rfl | rfl | rfl | rfl | rfl | rfl | rfl | rfl | rfl | rfl | rfl | rfl | rfl | rfl | rfl | rfl | rfl | rfl | rfl | rfl | rfl
    · refine lv_tableIn (off := 108) (tgt := 152) hx hb dL_law_44 (by decide) (by decide) rfl (by decide) ?_
      exact t_setArea l hst hC hI hY hl hX hbl hG hi hL hcr kk
    · refine lv_tableIn (off := 176) (tgt := 220) hx hb dL_law_44 (by decide) (by decide) rfl (by decide) ?_
      exact t_setIndex l hst hC hI hY hl hX hbl hG hi hL hcr kk
    · refine lv_tableIn (off := 244) (tgt := 288) hx hb dL_law_44 (by decide) (by decide) rfl (by decide) ?_
      exact t_setCost l hst hC hI hY hl hX hbl hG hi hL hcr kk
    · refine lv_tableIn (off := 312) (tgt := 356) hx hb dL_law_44 (by decide) (by decide) rfl (by decide) ?_
      exact t_let l hst hC hI hY hl hX hbl hG hi hL hcr kk
    · refine lv_tableIn (off := 404) (tgt := 448) hx hb dL_law_44 (by decide) (by decide) rfl (by decide) ?_
      exact t_end l hst hC hI hY hl hX hbl hG hi hL hcr kk
    · refine lv_tableIn (off := 472) (tgt := 516) hx hb dL_law_44 (by decide) (by decide) rfl (by decide) ?_
      exact t_step l hst hC hI hY hl hX hbl hG hi hL hcr kk
    · refine lv_tableIn (off := 552) (tgt := 596) hx hb dL_law_44 (by decide) (by decide) rfl (by decide) ?_
      exact t_setTerms l hst hC hI hY hl hX hbl hG hi hL hcr kk
    · refine lv_tableIn (off := 612) (tgt := 656) hx hb dL_law_44 (by decide) (by decide) rfl (by decide) ?_
      exact t_setService l hst hC hI hY hl hX hbl hG hi hL hcr kk
    · refine lv_tableIn (off := 672) (tgt := 716) hx hb dL_law_44 (by decide) (by decide) rfl (by decide) ?_
      exact t_topUp l hst hC hI hY hl hX hbl hG hi hL hcr kk
    · refine lv_tableIn (off := 752) (tgt := 796) hx hb dL_law_44 (by decide) (by decide) rfl (by decide) ?_
      exact t_draw l hst hC hI hY hl hX hbl hG hi hL hcr kk
    · refine lv_tableIn (off := 820) (tgt := 864) hx hb dL_law_44 (by decide) (by decide) rfl (by decide) ?_
      exact t_held l hst hC hI hY hl hX hbl hG hi hL hcr kk
    · refine lv_tableIn (off := 876) (tgt := 920) hx hb dL_law_44 (by decide) (by decide) rfl (by decide) ?_
      exact t_leases l hst hC hI hY hl hX hbl hG hi hL hcr kk
    · refine lv_tableIn (off := 889) (tgt := 933) hx hb dL_law_44 (by decide) (by decide) rfl (by decide) ?_
      exact t_leaseOn l hst hC hI hY hl hX hbl hG hi hL hcr kk
    · refine lv_tableIn (off := 957) (tgt := 1001) hx hb dL_law_44 (by decide) (by decide) rfl (by decide) ?_
      exact t_rentOn l hst hC hI hY hl hX hbl hG hi hL hcr kk
    · refine lv_tableIn (off := 1025) (tgt := 1069) hx hb dL_law_44 (by decide) (by decide) rfl (by decide) ?_
      exact t_bill l hst hC hI hY hl hX hbl hG hi hL hcr kk
    · refine lv_tableIn (off := 1093) (tgt := 1137) hx hb dL_law_44 (by decide) (by decide) rfl (by decide) ?_
      exact t_billByDays l hst hC hI hY hl hX hbl hG hi hL hcr kk
    · refine lv_tableIn (off := 1161) (tgt := 1205) hx hb dL_law_44 (by decide) (by decide) rfl (by decide) ?_
      exact t_bills l hst hC hI hY hl hX hbl hG hi hL hcr kk
    · refine lv_tableIn (off := 1240) (tgt := 1284) hx hb dL_law_44 (by decide) (by decide) rfl (by decide) ?_
      exact t_nextChange l hst hC hI hY hl hX hbl hG hi hL hcr kk
    · refine lv_tableIn (off := 1308) (tgt := 1352) hx hb dL_law_44 (by decide) (by decide) rfl (by decide) ?_
      exact t_voids l hst hC hI hY hl hX hbl hG hi hL hcr kk
    · refine lv_tableIn (off := 1376) (tgt := 1420) hx hb dL_law_44 (by decide) (by decide) rfl (by decide) ?_
      exact t_part l hst hC hI hY hl hX hbl hG hi hL hcr kk
    · refine lv_tableIn (off := 1444) (tgt := 1488) hx hb dL_law_44 (by decide) (by decide) rfl (by decide) ?_
      exact t_owners l hst hC hI hY hl hX hbl hG hi hL hcr kk
    · refine lv_tableIn (off := 1500) (tgt := 1544) hx hb dL_law_44 (by decide) (by decide) rfl (by decide) ?_
      exact t_balance l hst hC hI hY hl hX hbl hG hi hL hcr kk
    · refine lv_tableIn (off := 1568) (tgt := 1612) hx hb dL_law_44 (by decide) (by decide) rfl (by decide) ?_
      exact t_share l hst hC hI hY hl hX hbl hG hi hL hcr kk
  · refine lv_tableOut (tgt := 1689) hx hb dL_law_44 (Or.inr (by rw [hkk]; omega)) (by decide) ?_
    exact W.widen (by omega) (by omega) (kk σ n ad _ _ _ _ _ _ hI hY hl)
set_option maxHeartbeats 4000000 in
set_option maxRecDepth 100000 in
theorem law_loop (l : Launch) (hst : l.stackTraces = false) (hC : CallFix p m c cL_law 9 s #[.ref b] wsL_law RL) (hX : va_X b L xs s s.heap) (hbl : b < s.heap.size) (hG : G.1 = s.heap.size) (hL : L ≤ 2560)
    (hend : ∀ (H : Heap) (ls : Array Slot), W p l e room_1 s m #[.ref b] below meth c H [] 601024 7293033 Q (F0 m 1696 ls [.int 1])) : ∀ (f : Nat) (σ : St) (n : Nat) (ad : Nat → Nat) (th : Int32) (o : OL) (od : OD) (H : Heap) (locs : List Loc) (ls : Array Slot) (i : Int32) (cells slots : Nat), Inv σ n → SyS G ad σ n σ n th o od s H locs → lv_has ls 9 (lawlv b ad i) → 0 ≤ i.toInt → i.toInt ≤ 2565 → (L : Int) < i.toInt + 5 * f + 5 → cells + 8 * f ≤ 601024 → slots + 60 * f ≤ 7293033 → W p l e room_1 s m #[.ref b] below meth c H locs cells slots Q (F0 m 28 ls []) := by
  have hx := hC.1
  have hb := hC.2.1
  intro f
  induction f with
  | zero =>
    intro σ n ad th o od H locs ls i cells slots hI hY hl hi0 hi1 hf hc1 hc2
    refine lv_iload hx hb dL_law_28 (lv_at hl 0 rfl) ?_
    refine lv_aload_n hx hb dL_law_30 rfl (lv_at hl 1 rfl) ?_
    refine va_slen hx hb hX hbl (show ¬ G.1 ≤ b by omega) hY.2.2.2.1 dL_law_31 ?_
    refine lv_iconst (v := 5) hx hb dL_law_32 (by decide) ?_
    refine lv_isub hx hb dL_law_33 ?_
    have h5 : (5 : Int32).toInt = 5 := rfl
    have hLi : (Int32.ofNat L).toInt = L := i_nI (by omega)
    have hd : (Int32.ofNat L - 5).toInt = (L : Int) - 5 := by rw [i_sub (by rw [hLi, h5]; omega), hLi, h5]
    refine b_icmp_gt (tgt := 1695) hx hb dL_law_34 (by decide) (fun h => ?_) (fun h => absurd h (by rw [hd]; omega))
    refine lv_iconst (v := 1) hx hb dL_law_1695 (by decide) ?_
    exact va_forget (fun q hq => by rw [← hG]; exact hY.2.2.2.1.2.2 q hq) (W.widen (by omega) (by omega) (hend H _))
  | succ f ih =>
    intro σ n ad th o od H locs ls i cells slots hI hY hl hi0 hi1 hf hc1 hc2
    refine lv_iload hx hb dL_law_28 (lv_at hl 0 rfl) ?_
    refine lv_aload_n hx hb dL_law_30 rfl (lv_at hl 1 rfl) ?_
    refine va_slen hx hb hX hbl (show ¬ G.1 ≤ b by omega) hY.2.2.2.1 dL_law_31 ?_
    refine lv_iconst (v := 5) hx hb dL_law_32 (by decide) ?_
    refine lv_isub hx hb dL_law_33 ?_
    have h5 : (5 : Int32).toInt = 5 := rfl
    have hLi : (Int32.ofNat L).toInt = L := i_nI (by omega)
    have hd : (Int32.ofNat L - 5).toInt = (L : Int) - 5 := by rw [i_sub (by rw [hLi, h5]; omega), hLi, h5]
    refine b_icmp_gt (tgt := 1695) hx hb dL_law_34 (by decide) (fun h => ?_) (fun h => ?_)
    · refine lv_iconst (v := 1) hx hb dL_law_1695 (by decide) ?_
      exact va_forget (fun q hq => by rw [← hG]; exact hY.2.2.2.1.2.2 q hq) (W.widen (by omega) (by omega) (hend H _))
    · rw [hd] at h
      refine t_all l hst hC hI hY hl hX hbl hG ⟨hi0, by omega⟩ hL ⟨by omega, by omega⟩ (fun σ' n' ad' th' o' od' H' locs' ls' hI' hY' hl' => ?_)
      refine lv_iinc (v := i + 5) (lv' := lawlv b ad' (i + 5)) hx hb dL_law_1689 hl' (k := 0) rfl rfl (by decide) rfl (fun ls hl => ?_)
      refine lv_goto (tgt := 28) hx hb dL_law_1692 (by decide) ?_
      have e5 : (i + 5).toInt = i.toInt + 5 := by rw [i_add (by rw [h5]; omega), h5]
      exact ih σ' n' ad' th' o' od' H' locs' ls (i + 5) (cells + 8) (slots + 60) hI' hY' hl (by omega) (by omega) (by omega) (by omega) (by omega)
/-- the two, just made -/
theorem start_ct {G : GG} {u u2 : Nat → Nat} {q3 q4 : Nat} {e0 : va_E} (h5 : ∀ r, r ≤ 5 → r ≠ 5 → u2 r = u r) (r : Nat) (hr : r < 23) :
    va_up (va_up (ctR G (va_up (ctV G u (idP 240)) 5 e0) (idP 240) u2) 21 (.inl (G.2.2 2, 1, .inr (.inl (fun _ => 0))))) 22 (.inl (G.2.2 3, 1, .inr (.inr (.inr (.inl (fun _ => 0)))))) r = ctS G (va_up (va_up u2 21 q3) 22 q4) σI 0 σI 0 0 (fun _ => 0) (fun _ => 0) r := by
  have hu : ∀ r, r < 21 → u2 r = (va_up (va_up u2 21 q3) 22 q4) r := fun r h => by rw [va_up_ne _ _ (by omega), va_up_ne _ _ (by omega)]
  match r, hr with
  | 0, _ =>
    rw [va_up_ne _ _ (by omega), va_up_ne _ _ (by omega)]
    show (va_up (ctV G u (idP 240)) 5 e0 0) = _
    rw [va_up_ne _ _ (by omega)]
    show (.inr (1, [.ref (u 1), .ref (u 2), .ref (u 3), .ref (u 4), .int 0]) : va_E) = .inr (1, [.ref ((va_up (va_up u2 21 q3) 22 q4) 1), .ref ((va_up (va_up u2 21 q3) 22 q4) 2), .ref ((va_up (va_up u2 21 q3) 22 q4) 3), .ref ((va_up (va_up u2 21 q3) 22 q4) 4), .int (nI 0)])
    rw [← hu 1 (by omega), ← hu 2 (by omega), ← hu 3 (by omega), ← hu 4 (by omega), h5 1 (by omega) (by omega), h5 2 (by omega) (by omega), h5 3 (by omega) (by omega), h5 4 (by omega) (by omega)]
    rfl
  | 4, _ =>
    rw [va_up_ne _ _ (by omega), va_up_ne _ _ (by omega)]
    show (va_up (ctV G u (idP 240)) 5 e0 4) = _
    rw [va_up_ne _ _ (by omega)]
    show (.inl (G.2.2 1, 24, .inr (.inr (.inr (.inr (fun _ => none))))) : va_E) = .inl (G.2.2 1, 24, .inr (.inr (.inr (.inr (roF (va_up (va_up u2 21 q3) 22 q4) 0)))))
    rw [show roF (va_up (va_up u2 21 q3) 22 q4) 0 = fun _ => none from funext fun k => if_neg (by omega)]
  | 5, _ =>
    rw [va_up_ne _ _ (by omega), va_up_ne _ _ (by omega)]
    show (.inr (2, mdF u2 0 0) : va_E) = .inr (2, mdF (va_up (va_up u2 21 q3) 22 q4) 0 0)
    unfold mdF
    rw [← hu 6 (by omega), ← hu 7 (by omega), ← hu 8 (by omega), ← hu 9 (by omega), ← hu 10 (by omega), ← hu 11 (by omega), ← hu 12 (by omega), ← hu 13 (by omega), ← hu 14 (by omega), ← hu 15 (by omega), ← hu 16 (by omega), ← hu 17 (by omega), ← hu 18 (by omega), ← hu 19 (by omega), ← hu 20 (by omega)]
  | 1, _ => rw [va_up_ne _ _ (by omega), va_up_ne _ _ (by omega)]; show (va_up (ctV G u (idP 240)) 5 e0 1) = _; rw [va_up_ne _ _ (by omega)]; rfl
  | 2, _ => rw [va_up_ne _ _ (by omega), va_up_ne _ _ (by omega)]; show (va_up (ctV G u (idP 240)) 5 e0 2) = _; rw [va_up_ne _ _ (by omega)]; rfl
  | 3, _ => rw [va_up_ne _ _ (by omega), va_up_ne _ _ (by omega)]; show (va_up (ctV G u (idP 240)) 5 e0 3) = _; rw [va_up_ne _ _ (by omega)]; rfl
  | 6, _ => rw [va_up_ne _ _ (by omega), va_up_ne _ _ (by omega)]; rfl
  | 7, _ => rw [va_up_ne _ _ (by omega), va_up_ne _ _ (by omega)]; rfl
  | 8, _ => rw [va_up_ne _ _ (by omega), va_up_ne _ _ (by omega)]; rfl
  | 9, _ => rw [va_up_ne _ _ (by omega), va_up_ne _ _ (by omega)]; rfl
  | 10, _ => rw [va_up_ne _ _ (by omega), va_up_ne _ _ (by omega)]; rfl
  | 11, _ => rw [va_up_ne _ _ (by omega), va_up_ne _ _ (by omega)]; rfl
  | 12, _ => rw [va_up_ne _ _ (by omega), va_up_ne _ _ (by omega)]; rfl
  | 13, _ => rw [va_up_ne _ _ (by omega), va_up_ne _ _ (by omega)]; rfl
  | 14, _ => rw [va_up_ne _ _ (by omega), va_up_ne _ _ (by omega)]; rfl
  | 15, _ => rw [va_up_ne _ _ (by omega), va_up_ne _ _ (by omega)]; rfl
  | 16, _ => rw [va_up_ne _ _ (by omega), va_up_ne _ _ (by omega)]; rfl
  | 17, _ => rw [va_up_ne _ _ (by omega), va_up_ne _ _ (by omega)]; rfl
  | 18, _ => rw [va_up_ne _ _ (by omega), va_up_ne _ _ (by omega)]; rfl
  | 19, _ => rw [va_up_ne _ _ (by omega), va_up_ne _ _ (by omega)]; rfl
  | 20, _ => rw [va_up_ne _ _ (by omega), va_up_ne _ _ (by omega)]; rfl
  | 21, _ => rw [va_up_ne _ _ (by omega), va_up_self]; rfl
  | 22, _ => rw [va_up_self]; rfl
  | r + 23, h => exact absurd h (by omega)
set_option maxHeartbeats 8000000 in
set_option maxRecDepth 100000 in
theorem start_core (l : Launch) (hst : l.stackTraces = false) (hL : L ≤ 2560) (hx : p.tables.exec = Jvm.exec) (hb : c.code = code) (hml : c.maxLocals = 9) (hown : s.vm.findClass RL = some m.cls) (hts : ∀ w ∈ lw_tbl, w.before #[Value.ref b] s = true) (hX : va_X b L xs s s.heap) (hbl : b < s.heap.size) (hgv : (Jvm.Cond.and given_1 narrow_1).before #[Value.ref b] s = true)
    (hend : ∀ (H : Heap) (ls : Array Slot), W p l e room_1 s m #[.ref b] below meth c H [] 601024 7293033 Q (F0 m 1696 ls [.int 1])) : W p l e room_1 s m #[Value.ref b] below meth c s.heap [] 0 0 Q (entryFrame m ([Value.ref b] : List Value).toArray 9) := by
  have htL : ∀ w ∈ wsL_law, w.before #[Value.ref b] s = true := fun w h => hts w (wsL_law_in w h)
  have hC : CallFix p m c cL_law 9 s #[.ref b] wsL_law RL := ⟨hx, hb, hml, hown, htL⟩
  have hgs := flat_of_before _ hgv
  -- the classes
  have i0 : (Cond.instantiable RX0 12).before #[Value.ref b] s = true := hts _ (by decide +kernel)
  have i1 : (Cond.instantiable RX1 5).before #[Value.ref b] s = true := hts _ (by decide +kernel)
  have i2 : (Cond.instantiable RX2 17).before #[Value.ref b] s = true := hts _ (by decide +kernel)
  obtain ⟨c0, iS0, hKn0⟩ := u_known (C := RX0) (T := TX0) (N := 12) (n := 12) htL inlX0 i0
  obtain ⟨c1, iS1, hKn1⟩ := u_known (C := RX1) (T := TX1) (N := 5) (n := 5) htL inlX1 i1
  obtain ⟨c2, iS2, hKn2⟩ := u_known (C := RX2) (T := TX2) (N := 17) (n := 17) htL inlX2 i2
  obtain ⟨dC, dI, hKc⟩ : ∃ (dC : Nat → ClassId) (dI : Nat → Nat → Nat), ∀ (k : Nat) (q : vw_C), vwCl[k]? = some q → u_Kn s q.1 q.2.1 q.2.2 (dC k) (dI k) := by
    refine ⟨fun k => if k = 0 then c0 else if k = 1 then c1 else c2, fun k => if k = 0 then iS0 else if k = 1 then iS1 else iS2, ?_⟩
    intro k q hq
    match k, hq with
    | 0, hq => cases hq; exact hKn0
    | 1, hq => cases hq; exact hKn1
    | 2, hq => cases hq; exact hKn2
    | k + 3, hq => simp [vwCl] at hq
  -- the arrays' classes
  have aI : (Cond.arrayClass .int).before #[Value.ref b] s = true := hts _ (by decide +kernel)
  have aL : (Cond.arrayClass .long).before #[Value.ref b] s = true := hts _ (by decide +kernel)
  have aD : (Cond.arrayClass .double).before #[Value.ref b] s = true := hts _ (by decide +kernel)
  have aO : (Cond.arrayOver (.object RX0)).before #[Value.ref b] s = true := hts _ (by decide +kernel)
  have hAO : va_AO RX0 s := va_AO.of aO
  obtain ⟨eI, kI, pI, fI, gI, hI'⟩ := Cond.arrayClass_spec aI
  obtain ⟨eL, kL, pL, fL, gL, hL'⟩ := Cond.arrayClass_spec aL
  obtain ⟨eD, kD, pD, fD, gD, hD'⟩ := Cond.arrayClass_spec aD
  obtain ⟨pO, eO, kO, nO, -, gO, hO', fO⟩ := Cond.arrayOver_spec aO
  obtain ⟨G, hG, hG2, hG3⟩ : ∃ G : GG, G.1 = s.heap.size ∧ G.2.1 = (dC, dI) ∧ (G.2.2 0 = eI ∧ G.2.2 1 = eO ∧ G.2.2 2 = eL ∧ G.2.2 3 = eD) := ⟨(s.heap.size, (dC, dI), fun k => if k = 0 then eI else if k = 1 then eO else if k = 2 then eL else eD), rfl, rfl, rfl, rfl, rfl, rfl⟩
  have hK : va_K G.2.1 vwCl (tyL G) s := by
    rw [hG2]
    refine ⟨hKc, fun k q h => ?_⟩
    unfold tyL at h
    rw [hG3.1, hG3.2.1, hG3.2.2.1, hG3.2.2.2] at h
    match k, h with
    | 0, h => cases h; exact ⟨fun N z => ⟨(fun k h => by cases h), kI, gI, pI, hI'⟩, fI⟩
    | 1, h => cases h; exact ⟨fun N z => ⟨(fun k h => by cases h), kO, gO, pO, hO'⟩, kO, pO, gO, hO', nO, fO⟩
    | 2, h => cases h; exact ⟨fun N z => ⟨(fun k h => by cases h), kL, gL, pL, hL'⟩, fL⟩
    | 3, h => cases h; exact ⟨fun N z => ⟨(fun k h => by cases h), kD, gD, pD, hD'⟩, fD⟩
    | k + 4, h => simp at h
  -- what throwing needs
  obtain ⟨cur, kcur, hcur, -⟩ := Cond.instantiable_spec i1
  have hA0 : ∀ a : Nat, a < s.heap.size → ¬ (fun q : Nat => s.heap.size ≤ q) a := fun a h q => Nat.not_le.mpr h q
  have hsr : ∀ q ∈ xstr, Cond.stringRef "Voidrent" q.1 q.2 ∈ lw_tbl := by decide +kernel
  have hnl : ∀ q ∈ nstL, Cond.fieldLinkNest "Voidrent" q.1 "Voidrent$Lease" q.2 "I" "Voidrent" ∈ lw_tbl := by decide +kernel
  have hXs : Xs s.heap.size s := ⟨⟨va_Nw.of rfl (hts _ (by decide +kernel)), va_Nw.of rfl (hts _ (by decide +kernel)), va_Nw.of rfl (hts _ (by decide +kernel))⟩,
    ⟨va_Nc.of (hgs _ (by decide +kernel)), va_Nc.of (hgs _ (by decide +kernel)), va_Nc.of (hgs _ (by decide +kernel))⟩,
    vx_Zqof (hts (.laysStatic Bundle.tN "UNASSIGNED_STACK" Bundle.steD) (by decide +kernel)) (hts (.initialized Bundle.tN) (by decide +kernel)) (hgs (.isRef (.static Bundle.tN "UNASSIGNED_STACK" Bundle.steD)) (by decide +kernel)) hA0,
    vx_Zqof (hts (.laysStatic Bundle.tN "SUPPRESSED_SENTINEL" Bundle.listD) (by decide +kernel)) (hts (.initialized Bundle.tN) (by decide +kernel)) (hgs (.isRef (.static Bundle.tN "SUPPRESSED_SENTINEL" Bundle.listD)) (by decide +kernel)) hA0,
    fun q hq => by
      have h1 := hts _ (hsr q hq)
      obtain ⟨_, _, _, a, _, _, _, _, _, hev⟩ := Cond.stringRef_spec hcur h1
      exact ⟨a, vk_R.of h1 hev⟩,
    va_Nw.of rfl (hts _ (by decide +kernel)), va_Nw.of rfl (hts _ (by decide +kernel)), va_Nw.of rfl (hts _ (by decide +kernel)),
    fun q hq => va_Nw.of rfl (hts _ (hnl q hq))⟩
  have hY : Sy G 0 (fun _ => 0) (fun _ => .inr (0, [])) s s.heap [] := ⟨hK, fun k q h => by simp [wl] at h, ⟨fun i j p q h => by simp [wl] at h, fun k q h => by simp [wl] at h⟩, va_S.rf, by rw [hG]; exact Nat.le_refl _, by rw [hG]; exact hXs⟩
  -- the walk
  have hl := lv_entry ([.ref b]) (n := 9) (Nat.le_of_ble_eq_true rfl)
  rw [lg_entry_eq]
  generalize (lg_sl ([.ref b]) ++ List.replicate (9 - (lg_sl ([.ref b])).length) Slot.unset).toArray = ls at hl ⊢
  have hl : lv_has ls 9 [(0, .ref b)] := hl
  refine g_new hC hY (ci := 1) (q := (RX1, TX1, 5)) rfl inlX1 tyX1 tyX1_ok (by decide +kernel) (by decide +kernel) (by decide +kernel) (fs := [.null, .null, .null, .null, .int 0]) (fun j hj => by have hj : j < 5 := hj; rcases (show j = 0 ∨ j = 1 ∨ j = 2 ∨ j = 3 ∨ j = 4 by omega) with rfl | rfl | rfl | rfl | rfl <;> rfl) (Nat.le_of_ble_eq_true rfl) (Nat.le_of_ble_eq_true rfl) dL_law_0 (fun q H hY => ?_)
  refine lv_dup hx hb dL_law_3 rfl ?_
  have hM := c_X1_init l G (va_up (fun _ => 0) 0 q) (va_up (fun _ => .inr (0, [])) 0 (.inr (1, [.null, .null, .null, .null, .int 0]))) (va_up_self _ _ _)
  rw [va_up_self] at hM
  refine g_callI hY (va_runI (As := []) (rest := [.ref q]) hC hM (cwI 0 hC.2.2.2.2 gL_law_X1_init rfl rfl rfl (htL _ (by decide +kernel)) (htL _ (by decide +kernel)) (htL _ (by decide +kernel)) rfl (by decide +kernel) ⟨Nat.le_of_ble_eq_true rfl, Nat.le_of_ble_eq_true rfl⟩) ⟨fun a U g mk z => ⟨z.1, (Sy.blind (av := [.ref q]) a U g mk ⟨z.1, z.2.1⟩).2, va_AO.moved (u := U) (U := U.calling g mk a) (Vm.Alike.refl U.vm) z.2.2⟩, fun U hU hW => ⟨rfl, hY.pre hU hW, va_AO.moved hW.alike hAO⟩⟩ rfl rfl hl.1 rfl (lv_room (Nat.le_of_ble_eq_true rfl)) dL_law_4 ⟨Nat.le_of_ble_eq_true rfl, Nat.le_of_ble_eq_true rfl⟩) (fun u H locs hu hY => ?_)
  refine W.eq (g2 := F0 m 7 ls [.ref (u 0)]) (by rw [hu]) ?_
  refine lv_astore_n (lv' := [(1, .ref (u 0)), (0, .ref b)]) hx hb dL_law_7 rfl hl (by decide) rfl (fun ls hl => ?_)
  refine g_new hC hY (ci := 2) (q := (RX2, TX2, 17)) rfl inlX2 tyX2 tyX2_ok (by decide +kernel) (by decide +kernel) (by decide +kernel) (fs := [.int 0, .null, .null, .null, .int 0, .null, .null, .null, .null, .null, .null, .null, .null, .null, .null, .null, .null]) (fun j hj => by have hj : j < 17 := hj; rcases (show j = 0 ∨ j = 1 ∨ j = 2 ∨ j = 3 ∨ j = 4 ∨ j = 5 ∨ j = 6 ∨ j = 7 ∨ j = 8 ∨ j = 9 ∨ j = 10 ∨ j = 11 ∨ j = 12 ∨ j = 13 ∨ j = 14 ∨ j = 15 ∨ j = 16 by omega) with rfl | rfl | rfl | rfl | rfl | rfl | rfl | rfl | rfl | rfl | rfl | rfl | rfl | rfl | rfl | rfl | rfl <;> rfl) (Nat.le_of_ble_eq_true rfl) (Nat.le_of_ble_eq_true rfl) dL_law_8 (fun q2 H hY => ?_)
  refine lv_dup hx hb dL_law_11 rfl ?_
  have hM2 := c_X2_init l G (va_up u 5 q2) (va_up (ctV G u (idP 240)) 5 (.inr (2, [.int 0, .null, .null, .null, .int 0, .null, .null, .null, .null, .null, .null, .null, .null, .null, .null, .null, .null]))) (va_up_self _ _ _)
  rw [va_up_self] at hM2
  refine g_callI hY (g_runI (n := 0) (As := []) (b := q2) hC hM2 gL_law_X2_init rfl ⟨rfl, rfl⟩ (by decide +kernel) (by decide +kernel) (by decide +kernel) rfl (by decide +kernel) ⟨Nat.le_of_ble_eq_true rfl, Nat.le_of_ble_eq_true rfl⟩ hY rfl hl.1 rfl (Nat.le_of_ble_eq_true rfl) dL_law_12 ⟨Nat.le_of_ble_eq_true rfl, Nat.le_of_ble_eq_true rfl⟩) (fun u2 H locs hu2 hY => ?_)
  have hu9 : ∀ r, r ≤ 5 → r ≠ 5 → u2 r = u r := fun r h h' => by rw [hu2 r h, va_up_ne _ _ h']
  have hq2 : q2 = u2 5 := by rw [hu2 5 (Nat.le_refl _), va_up_self]
  refine W.eq (g2 := F0 m 15 ls [.ref (u2 5)]) (by rw [← hq2]) ?_
  refine lv_astore_n (lv' := [(2, .ref (u2 5)), (1, .ref (u 0)), (0, .ref b)]) hx hb dL_law_15 rfl hl (by decide) rfl (fun ls hl => ?_)
  refine lv_iconst (v := 1) hx hb dL_law_16 (by decide) ?_
  refine g_newl hC hY (by decide +kernel) (by decide) rfl (L := 1) (by decide) (Nat.le_of_ble_eq_true rfl) (Nat.le_of_ble_eq_true rfl) dL_law_17 (fun q3 H hY => ?_)
  refine lv_astore_n (lv' := [(3, .ref q3), (2, .ref (u2 5)), (1, .ref (u 0)), (0, .ref b)]) hx hb dL_law_19 rfl hl (by decide) rfl (fun ls hl => ?_)
  refine lv_iconst (v := 1) hx hb dL_law_20 (by decide) ?_
  refine g_newd hC hY (by decide +kernel) (by decide) rfl (L := 1) (by decide) (Nat.le_of_ble_eq_true rfl) (Nat.le_of_ble_eq_true rfl) dL_law_21 (fun q4 H hY => ?_)
  refine lv_astore (lv' := [(4, .ref q4), (3, .ref q3), (2, .ref (u2 5)), (1, .ref (u 0)), (0, .ref b)]) hx hb dL_law_23 hl (by decide) rfl (fun ls hl => ?_)
  refine lv_iconst (v := 0) hx hb dL_law_25 (by decide) ?_
  refine lv_istore (lv' := [(5, .int 0), (4, .ref q4), (3, .ref q3), (2, .ref (u2 5)), (1, .ref (u 0)), (0, .ref b)]) hx hb dL_law_26 hl (by decide) rfl (fun ls hl => ?_)
  have hY : SyS G (va_up (va_up u2 21 q3) 22 q4) σI 0 σI 0 0 (fun _ => 0) (fun _ => 0) s H locs := hY.ctE (fun r hr => start_ct hu9 r hr)
  have hl : lv_has ls 9 (lawlv b (va_up (va_up u2 21 q3) 22 q4) 0) := by
    have e0 : (va_up (va_up u2 21 q3) 22 q4) 0 = u 0 := by rw [va_up_ne _ _ (by omega), va_up_ne _ _ (by omega)]; exact hu9 0 (by omega) (by omega)
    have e5 : (va_up (va_up u2 21 q3) 22 q4) 5 = u2 5 := by rw [va_up_ne _ _ (by omega), va_up_ne _ _ (by omega)]
    have e21 : (va_up (va_up u2 21 q3) 22 q4) 21 = q3 := by rw [va_up_ne _ _ (by omega), va_up_self]
    have e22 : (va_up (va_up u2 21 q3) 22 q4) 22 = q4 := va_up_self _ _ _
    unfold lawlv
    rw [e0, e5, e21, e22]
    exact lv_sub hl [0, 5, 4, 3, 2, 1] rfl
  exact law_loop l hst hC hX hbl hG hL hend 520 σI 0 (va_up (va_up u2 21 q3) 22 q4) 0 (fun _ => 0) (fun _ => 0) H locs ls 0 _ _ inv_0 hY hl (by decide) (by decide) (by show (L : Int) < (0 : Int32).toInt + 5 * ((520 : Nat) : Int) + 5; have h0 : (0 : Int32).toInt = 0 := rfl; omega) (Nat.le_of_ble_eq_true rfl) (Nat.le_of_ble_eq_true rfl)
end LS

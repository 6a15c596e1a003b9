theorem cx_X10_needReadAt (l : Launch) (hl0 : l.stackTraces = false) (dC : Nat → ClassId) (dI : Nat → Nat → Nat) (cI cJ cZ : ClassId) (a_fld : Nat) (a_coef : Nat) (a_mags : Nat) (a_marks : Nat) (a_pb : Nat) (a_plan : Nat) (a_row : Nat) (a_ctx : Nat) (a_cw : Nat) (a_rw : Nat) (a_cr : Nat) (a_rr : Nat) (a_scan : Nat) (sz : Nat) (fld_wide : Int32) (fld_high : Int32) (fld_band : Int32) (fld_causal : Int32) (pb_style : Int32) (pb_isWritten : Int32) (pb_isRead : Int32) (p1 : Int32) (p2 : Int32) (k : Nat) (hk : k ≠ 0) (hT : TX_X10_needReadAt p1 p2 fld_wide fld_high pb_isRead = k) : vx_Met l yX10_needReadAt wsX10_needReadAt rmx_X10_needReadAt (va_Pc [.ref a_pb, .int p1, .int p2] (fun U => U.heap.size = sz ∧ va_P (dC, dI) vwCl (wd_fld_pb a_fld a_coef a_mags a_marks a_pb a_plan a_row a_ctx a_cw a_rw a_cr a_rr a_scan fld_wide fld_high fld_band fld_causal pb_style pb_isWritten pb_isRead) U.heap ∧ va_K (dC, dI) vwCl [(cI, .int), (cJ, .long), (cZ, .boolean)] U ∧ va_D (fun _ => True) (wd_fld_pb a_fld a_coef a_mags a_marks a_pb a_plan a_row a_ctx a_cw a_rw a_cr a_rr a_scan fld_wide fld_high fld_band fld_causal pb_style pb_isWritten pb_isRead) ∧ Zt (va_A (wd_fld_pb a_fld a_coef a_mags a_marks a_pb a_plan a_row a_ctx a_cw a_rw a_cr a_rr a_scan fld_wide fld_high fld_band fld_causal pb_style pb_isWritten pb_isRead) sz) U U.heap)) (va_Qv (fun _ : Unit => False) (fun _ _ => True) (va_A (wd_fld_pb a_fld a_coef a_mags a_marks a_pb a_plan a_row a_ctx a_cw a_rw a_cr a_rr a_scan fld_wide fld_high fld_band fld_causal pb_style pb_isWritten pb_isRead) sz)) (vx_X (fun _ : Unit => True) (fun E _ t => E = exN k ∧ va_P (dC, dI) vwCl (wd_fld_pb a_fld a_coef a_mags a_marks a_pb a_plan a_row a_ctx a_cw a_rw a_cr a_rr a_scan fld_wide fld_high fld_band fld_causal pb_style pb_isWritten pb_isRead) t.heap ∧ va_K (dC, dI) vwCl [(cI, .int), (cJ, .long), (cZ, .boolean)] t ∧ va_D (va_A (wd_fld_pb a_fld a_coef a_mags a_marks a_pb a_plan a_row a_ctx a_cw a_rw a_cr a_rr a_scan fld_wide fld_high fld_band fld_causal pb_style pb_isWritten pb_isRead) sz) (wd_fld_pb a_fld a_coef a_mags a_marks a_pb a_plan a_row a_ctx a_cw a_rw a_cr a_rr a_scan fld_wide fld_high fld_band fld_causal pb_style pb_isWritten pb_isRead)) (va_A (wd_fld_pb a_fld a_coef a_mags a_marks a_pb a_plan a_row a_ctx a_cw a_rw a_cr a_rr a_scan fld_wide fld_high fld_band fld_causal pb_style pb_isWritten pb_isRead) sz)) 1 6 (va_A (wd_fld_pb a_fld a_coef a_mags a_marks a_pb a_plan a_row a_ctx a_cw a_rw a_cr a_rr a_scan fld_wide fld_high fld_band fld_causal pb_style pb_isWritten pb_isRead) sz) := by
  refine vx_ofW (cc := cX10_needReadAt) (maxL := 3) (ret := none) (by decide) rfl ?_
  intro p e s m args below meth c s₁ B hml hout hv
  obtain ⟨rfl, hsz, hP, hK, hD0, hZ⟩ := hv
  have hx := B.exec
  have hb := B.bytes
  have hr := B.returns
  have hts := atoms_spec (ws := wsX10_needReadAt) B.pre
  have hown : s.vm.findClass RX10 = some m.cls := findClass_of_methodNamed B.named
  have hlocks := B.notSynchronized
  subst hsz
  have hD := hD0.self (sz := s.heap.size)
  generalize hAe : va_A (wd_fld_pb a_fld a_coef a_mags a_marks a_pb a_plan a_row a_ctx a_cw a_rw a_cr a_rr a_scan fld_wide fld_high fld_band fld_causal pb_style pb_isWritten pb_isRead) s.heap.size = A at hD hZ ⊢
  have hA : ∀ q : Nat, s.heap.size ≤ q → A q := fun q h => by rw [← hAe]; exact Or.inr h
  have hS : va_S A s.heap s.heap [] := va_S.rf
  obtain ⟨H, hH⟩ : ∃ z, z = s.heap := ⟨_, rfl⟩
  have hP : va_P (dC, dI) vwCl (wd_fld_pb a_fld a_coef a_mags a_marks a_pb a_plan a_row a_ctx a_cw a_rw a_cr a_rr a_scan fld_wide fld_high fld_band fld_causal pb_style pb_isWritten pb_isRead) H := by rw [hH]; exact hP
  have hS : va_S A s.heap H [] := by rw [hH]; exact va_S.rf
  generalize hQe : vx_MQ below (va_Qv (fun _ : Unit => False) (fun _ _ => True) A) (vx_X (fun _ : Unit => True) (fun E _ t => E = exN k ∧ va_P (dC, dI) vwCl (wd_fld_pb a_fld a_coef a_mags a_marks a_pb a_plan a_row a_ctx a_cw a_rw a_cr a_rr a_scan fld_wide fld_high fld_band fld_causal pb_style pb_isWritten pb_isRead) t.heap ∧ va_K (dC, dI) vwCl [(cI, .int), (cJ, .long), (cZ, .boolean)] t ∧ va_D A (wd_fld_pb a_fld a_coef a_mags a_marks a_pb a_plan a_row a_ctx a_cw a_rw a_cr a_rr a_scan fld_wide fld_high fld_band fld_causal pb_style pb_isWritten pb_isRead)) A) _ s 1 6 A = Q
  rw [← hH]
  clear hH
  have hl := lv_entry ([.ref a_pb, .int p1, .int p2]) (n := 3) (Nat.le_of_ble_eq_true rfl)
  rw [lg_entry_eq]
  generalize (lg_sl ([.ref a_pb, .int p1, .int p2]) ++ List.replicate (3 - (lg_sl ([.ref a_pb, .int p1, .int p2])).length) Slot.unset).toArray = ls at hl ⊢
  have hl : lv_has ls 3 [(0, .ref a_pb), (1, .int p1), (2, .int p2)] := hl
  have hg := hT
  unfold TX_X10_needReadAt at hg
  refine lv_aload_n hx hb dX10_needReadAt_0 rfl (lv_at hl 0 rfl) ?_
  refine va_get (D := (dC, dI)) (ci := 9) (v := .ref a_fld) (C := RX10) (T := TX10) (N := 12) hx hb hts iw_X10_needReadAt_X10 hown hK hP 1 rfl rfl 0 (by decide) (hts (.fieldLink RX10 12 "PlaneBlocks" "field" "LPlaneBlocks$Field;") (by decide +kernel)) (fun _ h9 => h9) rfl dX10_needReadAt_1 ?_
  refine lv_iload_n hx hb dX10_needReadAt_4 rfl (lv_at hl 1 rfl) ?_
  refine lv_iload_n hx hb dX10_needReadAt_5 rfl (lv_at hl 2 rfl) ?_
  have hPc := hP.sub (ws' := (wd_fld a_fld a_coef a_mags a_marks fld_wide fld_high fld_band fld_causal)) [0] rfl
  have hDc := hD.sub (ws' := (wd_fld a_fld a_coef a_mags a_marks fld_wide fld_high fld_band fld_causal)) [0] (by decide) rfl
  have hFc := va_free (wc := (wd_fld a_fld a_coef a_mags a_marks fld_wide fld_high fld_band fld_causal)) hD hS hA [0] rfl
  refine va_calli (va_runV (As := [.int p1, .int p2]) (rest := []) ⟨hx, hb, hml, hown, hts⟩ (c_X5_holds l dC dI cI cJ cZ a_fld a_coef a_mags a_marks H.size fld_wide fld_high fld_band fld_causal p1 p2) (cwV 2 hts gX10_needReadAt_X5_holds rfl rfl rfl (by decide +kernel) ⟨Nat.le_of_ble_eq_true rfl, Nat.le_of_ble_eq_true rfl⟩) ⟨fun a U g mk q => by obtain ⟨q0, q1, qP, qK, qD⟩ := q; exact ⟨q0, q1, qP, va_K.moved (u := U) (U := U.calling g mk a) (Vm.Alike.refl U.vm) qK, qD⟩, va_recv hK hPc (ci := 4) (q0 := 0) rfl rfl, fun U hU hW => ⟨rfl, by rw [hU], by rw [hU]; exact hPc, va_K.moved hW.alike hK, hDc.weaken (fun _ _ _ _ => trivial)⟩⟩ rfl rfl hl.1 rfl (lv_room (Nat.le_of_ble_eq_true rfl)) dX10_needReadAt_6 ⟨Nat.le_of_ble_eq_true rfl, Nat.le_of_ble_eq_true rfl⟩) hS (fun q _ h => hFc q h) hFc (fun r u t H1 locs ht hvm hw hB hz1 hk1 hS => ?_)
  obtain ⟨hP1, hK1, hD1⟩ := hB
  rw [ht] at hP1
  obtain ⟨r_1, hr_1⟩ : ∃ z, F_X5_holds p1 p2 fld_wide fld_high = z := ⟨_, rfl⟩
  try rw [hr_1] at hw
  try rw [hr_1] at hP1
  try rw [hr_1] at hD1
  have hg : (if r_1 = (0 : Int32) then 3 else (if TX_X10_needRead pb_isRead = 0 then 0 else TX_X10_needRead pb_isRead)) = k := by first | (rw [hr_1] at hg; exact hg) | (subst hr_1; exact hg)
  have hw := hw.symm
  subst hw
  obtain ⟨hP, hD⟩ := va_join (wr := [(a_pb, .inr (9, [.ref a_fld, .ref a_plan, .ref a_row, .ref a_ctx, .ref a_cw, .ref a_rw, .ref a_cr, .ref a_rr, .ref a_scan, .int pb_style, .int pb_isWritten, .int pb_isRead]))]) (w1 := (wd_fld a_fld a_coef a_mags a_marks fld_wide fld_high fld_band fld_causal)) hP hD [0] [1] rfl rfl (by decide) (by decide) hk1 hFc hP1 hD1
  have hP : va_P (dC, dI) vwCl (wd_fld_pb a_fld a_coef a_mags a_marks a_pb a_plan a_row a_ctx a_cw a_rw a_cr a_rr a_scan fld_wide fld_high fld_band fld_causal pb_style pb_isWritten pb_isRead) H1 := hP.sub [1, 0] rfl
  have hD : va_D A (wd_fld_pb a_fld a_coef a_mags a_marks a_pb a_plan a_row a_ctx a_cw a_rw a_cr a_rr a_scan fld_wide fld_high fld_band fld_causal pb_style pb_isWritten pb_isRead) := hD.sub [1, 0] (by decide) rfl
  generalize H1 = H at hP hS ⊢
  refine lv_if_ne (tgt := 22) hx hb dX10_needReadAt_9 (by decide) (fun c_2 => ?_) (fun c_2 => ?_)
  · rw [if_neg c_2] at hg
    refine lv_aload_n hx hb dX10_needReadAt_22 rfl (lv_at hl 0 rfl) ?_
    by_cases cq : TX_X10_needRead pb_isRead = 0
    · rw [if_pos cq] at hg
      have hpre := tp_X10_needRead cq
      have hPc := hP.sub (ws' := (wd_pb a_pb a_fld a_plan a_row a_ctx a_cw a_rw a_cr a_rr a_scan pb_style pb_isWritten pb_isRead)) [1] rfl
      have hDc := hD.sub (ws' := (wd_pb a_pb a_fld a_plan a_row a_ctx a_cw a_rw a_cr a_rr a_scan pb_style pb_isWritten pb_isRead)) [1] (by decide) rfl
      have hFc := va_free (wc := (wd_pb a_pb a_fld a_plan a_row a_ctx a_cw a_rw a_cr a_rr a_scan pb_style pb_isWritten pb_isRead)) hD hS hA [1] rfl
      refine va_callv (va_runV (As := []) (rest := []) ⟨hx, hb, hml, hown, hts⟩ (c_X10_needRead l dC dI cI cJ cZ a_pb a_fld a_plan a_row a_ctx a_cw a_rw a_cr a_rr a_scan H.size pb_style pb_isWritten pb_isRead hpre) (cwV 0 hts gX10_needReadAt_X10_needRead rfl rfl rfl (by decide +kernel) ⟨Nat.le_of_ble_eq_true rfl, Nat.le_of_ble_eq_true rfl⟩) ⟨fun a U g mk q => by obtain ⟨q0, q1, qP, qK, qD⟩ := q; exact ⟨q0, q1, qP, va_K.moved (u := U) (U := U.calling g mk a) (Vm.Alike.refl U.vm) qK, qD⟩, va_recv hK hPc (ci := 9) (q0 := 0) rfl rfl, fun U hU hW => ⟨rfl, by rw [hU], by rw [hU]; exact hPc, va_K.moved hW.alike hK, hDc.weaken (fun _ _ _ _ => trivial)⟩⟩ rfl rfl hl.1 rfl (lv_room (Nat.le_of_ble_eq_true rfl)) dX10_needReadAt_23 ⟨Nat.le_of_ble_eq_true rfl, Nat.le_of_ble_eq_true rfl⟩) hS (fun q _ h => hFc q h) hFc (fun u t H1 locs ht hvm hw hB hz1 hk1 hS => ?_)
      obtain ⟨hP1, hK1, hD1⟩ := hB
      rw [ht] at hP1
      obtain ⟨hP, hD⟩ := va_join (wr := [(a_fld, .inr (4, [.int fld_wide, .int fld_high, .ref a_coef, .ref a_mags, .ref a_marks, .int fld_band, .int fld_causal]))]) (w1 := (wd_pb a_pb a_fld a_plan a_row a_ctx a_cw a_rw a_cr a_rr a_scan pb_style pb_isWritten pb_isRead)) hP hD [1] [0] rfl rfl (by decide) (by decide) hk1 hFc hP1 hD1
      have hP : va_P (dC, dI) vwCl (wd_fld_pb a_fld a_coef a_mags a_marks a_pb a_plan a_row a_ctx a_cw a_rw a_cr a_rr a_scan fld_wide fld_high fld_band fld_causal pb_style pb_isWritten pb_isRead) H1 := hP.sub [0, 1] rfl
      have hD : va_D A (wd_fld_pb a_fld a_coef a_mags a_marks a_pb a_plan a_row a_ctx a_cw a_rw a_cr a_rr a_scan fld_wide fld_high fld_band fld_causal pb_style pb_isWritten pb_isRead) := hD.sub [0, 1] (by decide) rfl
      generalize H1 = H at hP hS ⊢
      exact absurd hg.symm hk
    · rw [if_neg cq] at hg
      have hPc := hP.sub (ws' := (wd_pb a_pb a_fld a_plan a_row a_ctx a_cw a_rw a_cr a_rr a_scan pb_style pb_isWritten pb_isRead)) [1] rfl
      have hDc := hD.sub (ws' := (wd_pb a_pb a_fld a_plan a_row a_ctx a_cw a_rw a_cr a_rr a_scan pb_style pb_isWritten pb_isRead)) [1] (by decide) rfl
      have hFc := va_free (wc := (wd_pb a_pb a_fld a_plan a_row a_ctx a_cw a_rw a_cr a_rr a_scan pb_style pb_isWritten pb_isRead)) hD hS hA [1] rfl
      refine vx_callv (vx_runV (As := []) (rest := []) ⟨hx, hb, hml, hown, hts⟩ (cx_X10_needRead l hl0 dC dI cI cJ cZ a_pb a_fld a_plan a_row a_ctx a_cw a_rw a_cr a_rr a_scan H.size pb_style pb_isWritten pb_isRead k hk hg) (cwV 0 hts gX10_needReadAt_X10_needRead rfl rfl rfl (by decide +kernel) ⟨Nat.le_of_ble_eq_true rfl, Nat.le_of_ble_eq_true rfl⟩) ⟨fun a U g mk q => by obtain ⟨q0, q1, qP, qK, qD, qZ⟩ := q; exact ⟨q0, q1, qP, va_K.moved (u := U) (U := U.calling g mk a) (Vm.Alike.refl U.vm) qK, qD, Zt.same (u := U) (U := U.calling g mk a) rfl qZ⟩, va_recv hK hPc (ci := 9) (q0 := 0) rfl rfl, fun U hU hW => ⟨rfl, by rw [hU], by rw [hU]; exact hPc, va_K.moved hW.alike hK, hDc.weaken (fun _ _ _ _ => trivial), by rw [hU]; exact ((hZ.kept hS.2.1).narrow hFc).warm hW⟩⟩ rfl rfl hl.1 rfl (lv_room (Nat.le_of_ble_eq_true rfl)) dX10_needReadAt_23 ⟨Nat.le_of_ble_eq_true rfl, Nat.le_of_ble_eq_true rfl⟩) hS (fun q _ h => hFc q h) hFc (fun q _ h => hFc q h) (fun E ce q9 u t H1 locs ht hvm hp hB hz1 hk1 hS hce hcv hcl => ?_) (fun u t H1 locs ht hvm hp hB hz1 hk1 hS => hp.elim)
      obtain ⟨hE, hP1, hK1, hD1⟩ := hB
      rw [ht] at hP1
      obtain ⟨hP, hD⟩ := va_join (wr := [(a_fld, .inr (4, [.int fld_wide, .int fld_high, .ref a_coef, .ref a_mags, .ref a_marks, .int fld_band, .int fld_causal]))]) (w1 := (wd_pb a_pb a_fld a_plan a_row a_ctx a_cw a_rw a_cr a_rr a_scan pb_style pb_isWritten pb_isRead)) hP hD [1] [0] rfl rfl (by decide) (by decide) hk1 hFc hP1 hD1
      have hP : va_P (dC, dI) vwCl (wd_fld_pb a_fld a_coef a_mags a_marks a_pb a_plan a_row a_ctx a_cw a_rw a_cr a_rr a_scan fld_wide fld_high fld_band fld_causal pb_style pb_isWritten pb_isRead) H1 := hP.sub [0, 1] rfl
      have hD : va_D A (wd_fld_pb a_fld a_coef a_mags a_marks a_pb a_plan a_row a_ctx a_cw a_rw a_cr a_rr a_scan fld_wide fld_high fld_band fld_causal pb_style pb_isWritten pb_isRead) := hD.sub [0, 1] (by decide) rfl
      rw [← hQe]
      exact vx_out (E := E) (fun x h9 => (hout x h9).elim) hlocks hce hcv hcl (fun t ht hW => ⟨(), trivial, ⟨hE, by rw [ht]; exact hP, va_K.moved hW hK, hD⟩, hS.F ht⟩) hS.2.2 (Nat.le_of_ble_eq_true rfl) (Nat.le_of_ble_eq_true rfl)
  · rw [if_pos c_2] at hg
    subst hg
    rw [← hQe]
    obtain ⟨sa, hsa⟩ := hZ.t108
    exact vx_throwS (own := RX10) (cls := "java/lang/IllegalArgumentException") (text := "there is no such coefficient") (names := ["java/lang/RuntimeException", "java/lang/Exception"]) (ik := 78) (is := 108) (ic := 82) hx hb hl0 hown (by decide) (by decide) (hts (.classLink RX10 78 "java/lang/IllegalArgumentException") (by decide +kernel)) (hts (.initialized "java/lang/IllegalArgumentException") (by decide +kernel)) hsa (vx_hat (fun w hw => hts w (List.mem_cons_of_mem _ (List.mem_append_left _ (List.mem_append_right _ hw)))) hb_IA hZ.decl) hg_IA hZ.1 hZ.2.1 hS (hl.1.trans hml.symm) dX10_needReadAt_12 dX10_needReadAt_15 dX10_needReadAt_16 dX10_needReadAt_18 dX10_needReadAt_21 (fun x h9 => (hout x h9).elim) (Nat.le_of_ble_eq_true rfl) (Nat.le_of_ble_eq_true rfl) (Nat.le_of_ble_eq_true rfl) (Nat.le_of_ble_eq_true rfl) hlocks (fun t hW hz hq => ⟨(), trivial, ⟨rfl, hP.kept (fun k9 q9 hk9 => hq q9.1 (vx_lt hP hk9)), va_K.moved hW hK, hD⟩, ⟨Nat.le_trans hS.1 hz, fun q9 h1 h2 => (hq q9 (Nat.lt_of_lt_of_le h1 hS.1)).trans (hS.2.1 q9 h1 h2)⟩⟩) hS.2.2 (Nat.le_of_ble_eq_true rfl) (Nat.le_of_ble_eq_true rfl)
theorem tp_X10_needReadAt {p1 p2 a b r : Int32} (h : TX_X10_needReadAt p1 p2 a b r = 0) : P_X10_needReadAt p1 p2 a b r := by
  unfold TX_X10_needReadAt at h
  intro r1 e1
  subst e1
  refine ⟨fun z => ?_, fun z => ?_⟩
  · simp only [z, if_true] at h; cases h
  · simp only [z, if_false] at h
    by_cases c : TX_X10_needRead r = 0
    · exact tp_X10_needRead c
    · rw [if_neg c] at h; exact absurd h c
abbrev rmx_X10_begin : Room := { frames := 6, cells := 1, slots := 6, locals := 90 }
def TX_X10_begin (p1 : Int32) (p2 : Int32) (p3 : Int32) (p4 : Int32) : Nat := if p1 < (1 : Int32) then 3 else (if (64 : Int32) < p1 then 3 else (if p2 < (1 : Int32) then 3 else (if p2 ≤ (64 : Int32) then (if p3 < (0 : Int32) then 3 else (if p3 ≤ (3 : Int32) then (if p4 < (0 : Int32) then 3 else (if p4 ≤ (63 : Int32) then 0 else 3)) else 3)) else 3)))
theorem cx_X10_begin (l : Launch) (hl0 : l.stackTraces = false) (dC : Nat → ClassId) (dI : Nat → Nat → Nat) (cI cJ cZ : ClassId) (a_fld : Nat) (a_coef : Nat) (a_mags : Nat) (a_marks : Nat) (a_pb : Nat) (a_plan : Nat) (a_row : Nat) (a_ctx : Nat) (a_cw : Nat) (a_rw : Nat) (a_cr : Nat) (a_rr : Nat) (a_scan : Nat) (sz : Nat) (fld_wide : Int32) (fld_high : Int32) (fld_band : Int32) (fld_causal : Int32) (coef_n : Nat) (coef_f : Nat → Int32) (mags_n : Nat) (mags_f : Nat → Int32) (marks_n : Nat) (marks_f : Nat → Int32) (pb_style : Int32) (pb_isWritten : Int32) (pb_isRead : Int32) (p1 : Int32) (p2 : Int32) (p3 : Int32) (p4 : Int32) (k : Nat) (hk : k ≠ 0) (hT : TX_X10_begin p1 p2 p3 p4 = k) : vx_Met l yX10_begin wsX10_begin rmx_X10_begin (va_Pc [.ref a_pb, .int p1, .int p2, .int p3, .int p4] (fun U => U.heap.size = sz ∧ va_P (dC, dI) vwCl (wd_fld_coef_mags_marks_pb cI a_fld a_coef a_mags a_marks a_pb a_plan a_row a_ctx a_cw a_rw a_cr a_rr a_scan fld_wide fld_high fld_band fld_causal coef_n coef_f mags_n mags_f marks_n marks_f pb_style pb_isWritten pb_isRead) U.heap ∧ va_K (dC, dI) vwCl [(cI, .int), (cJ, .long), (cZ, .boolean)] U ∧ va_D (fun _ => True) (wd_fld_coef_mags_marks_pb cI a_fld a_coef a_mags a_marks a_pb a_plan a_row a_ctx a_cw a_rw a_cr a_rr a_scan fld_wide fld_high fld_band fld_causal coef_n coef_f mags_n mags_f marks_n marks_f pb_style pb_isWritten pb_isRead) ∧ Zt (va_A (wd_fld_coef_mags_marks_pb cI a_fld a_coef a_mags a_marks a_pb a_plan a_row a_ctx a_cw a_rw a_cr a_rr a_scan fld_wide fld_high fld_band fld_causal coef_n coef_f mags_n mags_f marks_n marks_f pb_style pb_isWritten pb_isRead) sz) U U.heap)) (va_Qv (fun _ : Unit => False) (fun _ _ => True) (va_A (wd_fld_coef_mags_marks_pb cI a_fld a_coef a_mags a_marks a_pb a_plan a_row a_ctx a_cw a_rw a_cr a_rr a_scan fld_wide fld_high fld_band fld_causal coef_n coef_f mags_n mags_f marks_n marks_f pb_style pb_isWritten pb_isRead) sz)) (vx_X (fun _ : Unit => True) (fun E _ t => E = exN k ∧ va_P (dC, dI) vwCl (wd_fld_coef_mags_marks_pb cI a_fld a_coef a_mags a_marks a_pb a_plan a_row a_ctx a_cw a_rw a_cr a_rr a_scan fld_wide fld_high fld_band fld_causal coef_n coef_f mags_n mags_f marks_n marks_f pb_style pb_isWritten pb_isRead) t.heap ∧ va_K (dC, dI) vwCl [(cI, .int), (cJ, .long), (cZ, .boolean)] t ∧ va_D (va_A (wd_fld_coef_mags_marks_pb cI a_fld a_coef a_mags a_marks a_pb a_plan a_row a_ctx a_cw a_rw a_cr a_rr a_scan fld_wide fld_high fld_band fld_causal coef_n coef_f mags_n mags_f marks_n marks_f pb_style pb_isWritten pb_isRead) sz) (wd_fld_coef_mags_marks_pb cI a_fld a_coef a_mags a_marks a_pb a_plan a_row a_ctx a_cw a_rw a_cr a_rr a_scan fld_wide fld_high fld_band fld_causal coef_n coef_f mags_n mags_f marks_n marks_f pb_style pb_isWritten pb_isRead)) (va_A (wd_fld_coef_mags_marks_pb cI a_fld a_coef a_mags a_marks a_pb a_plan a_row a_ctx a_cw a_rw a_cr a_rr a_scan fld_wide fld_high fld_band fld_causal coef_n coef_f mags_n mags_f marks_n marks_f pb_style pb_isWritten pb_isRead) sz)) 1 6 (va_A (wd_fld_coef_mags_marks_pb cI a_fld a_coef a_mags a_marks a_pb a_plan a_row a_ctx a_cw a_rw a_cr a_rr a_scan fld_wide fld_high fld_band fld_causal coef_n coef_f mags_n mags_f marks_n marks_f pb_style pb_isWritten pb_isRead) sz) := by
  refine vx_ofW (cc := cX10_begin) (maxL := 5) (ret := none) (by decide) rfl ?_
  intro p e s m args below meth c s₁ B hml hout hv
  obtain ⟨rfl, hsz, hP, hK, hD0, hZ⟩ := hv
  have hx := B.exec
  have hb := B.bytes
  have hr := B.returns
  have hts := atoms_spec (ws := wsX10_begin) B.pre
  have hown : s.vm.findClass RX10 = some m.cls := findClass_of_methodNamed B.named
  have hlocks := B.notSynchronized
  subst hsz
  have hD := hD0.self (sz := s.heap.size)
  generalize hAe : va_A (wd_fld_coef_mags_marks_pb cI a_fld a_coef a_mags a_marks a_pb a_plan a_row a_ctx a_cw a_rw a_cr a_rr a_scan fld_wide fld_high fld_band fld_causal coef_n coef_f mags_n mags_f marks_n marks_f pb_style pb_isWritten pb_isRead) s.heap.size = A at hD hZ ⊢
  have hA : ∀ q : Nat, s.heap.size ≤ q → A q := fun q h => by rw [← hAe]; exact Or.inr h
  have hS : va_S A s.heap s.heap [] := va_S.rf
  obtain ⟨H, hH⟩ : ∃ z, z = s.heap := ⟨_, rfl⟩
  have hP : va_P (dC, dI) vwCl (wd_fld_coef_mags_marks_pb cI a_fld a_coef a_mags a_marks a_pb a_plan a_row a_ctx a_cw a_rw a_cr a_rr a_scan fld_wide fld_high fld_band fld_causal coef_n coef_f mags_n mags_f marks_n marks_f pb_style pb_isWritten pb_isRead) H := by rw [hH]; exact hP
  have hS : va_S A s.heap H [] := by rw [hH]; exact va_S.rf
  generalize hQe : vx_MQ below (va_Qv (fun _ : Unit => False) (fun _ _ => True) A) (vx_X (fun _ : Unit => True) (fun E _ t => E = exN k ∧ va_P (dC, dI) vwCl (wd_fld_coef_mags_marks_pb cI a_fld a_coef a_mags a_marks a_pb a_plan a_row a_ctx a_cw a_rw a_cr a_rr a_scan fld_wide fld_high fld_band fld_causal coef_n coef_f mags_n mags_f marks_n marks_f pb_style pb_isWritten pb_isRead) t.heap ∧ va_K (dC, dI) vwCl [(cI, .int), (cJ, .long), (cZ, .boolean)] t ∧ va_D A (wd_fld_coef_mags_marks_pb cI a_fld a_coef a_mags a_marks a_pb a_plan a_row a_ctx a_cw a_rw a_cr a_rr a_scan fld_wide fld_high fld_band fld_causal coef_n coef_f mags_n mags_f marks_n marks_f pb_style pb_isWritten pb_isRead)) A) _ s 1 6 A = Q
  rw [← hH]
  clear hH
  have hl := lv_entry ([.ref a_pb, .int p1, .int p2, .int p3, .int p4]) (n := 5) (Nat.le_of_ble_eq_true rfl)
  rw [lg_entry_eq]
  generalize (lg_sl ([.ref a_pb, .int p1, .int p2, .int p3, .int p4]) ++ List.replicate (5 - (lg_sl ([.ref a_pb, .int p1, .int p2, .int p3, .int p4])).length) Slot.unset).toArray = ls at hl ⊢
  have hl : lv_has ls 5 [(0, .ref a_pb), (1, .int p1), (2, .int p2), (3, .int p3), (4, .int p4)] := hl
  have hg := hT
  unfold TX_X10_begin at hg
  refine lv_iload_n hx hb dX10_begin_0 rfl (lv_at hl 1 rfl) ?_
  refine lv_iconst (v := 1) hx hb dX10_begin_1 (by decide) ?_
  refine lv_icmp_lt (tgt := 22) hx hb dX10_begin_2 (by decide) (fun c_1 => ?_) (fun c_1 => ?_)
  · rw [if_pos c_1] at hg
    subst hg
    rw [← hQe]
    obtain ⟨sa, hsa⟩ := hZ.t80
    exact vx_throwS (own := RX10) (cls := "java/lang/IllegalArgumentException") (text := "a block is 1 to 64 wide and high") (names := ["java/lang/RuntimeException", "java/lang/Exception"]) (ik := 78) (is := 80) (ic := 82) hx hb hl0 hown (by decide) (by decide) (hts (.classLink RX10 78 "java/lang/IllegalArgumentException") (by decide +kernel)) (hts (.initialized "java/lang/IllegalArgumentException") (by decide +kernel)) hsa (vx_hat (fun w hw => hts w (List.mem_cons_of_mem _ (List.mem_append_right _ hw))) hb_IA hZ.decl) hg_IA hZ.1 hZ.2.1 hS (hl.1.trans hml.symm) dX10_begin_22 dX10_begin_25 dX10_begin_26 dX10_begin_28 dX10_begin_31 (fun x h9 => (hout x h9).elim) (Nat.le_of_ble_eq_true rfl) (Nat.le_of_ble_eq_true rfl) (Nat.le_of_ble_eq_true rfl) (Nat.le_of_ble_eq_true rfl) hlocks (fun t hW hz hq => ⟨(), trivial, ⟨rfl, hP.kept (fun k9 q9 hk9 => hq q9.1 (vx_lt hP hk9)), va_K.moved hW hK, hD⟩, ⟨Nat.le_trans hS.1 hz, fun q9 h1 h2 => (hq q9 (Nat.lt_of_lt_of_le h1 hS.1)).trans (hS.2.1 q9 h1 h2)⟩⟩) hS.2.2 (Nat.le_of_ble_eq_true rfl) (Nat.le_of_ble_eq_true rfl)
  · rw [if_neg c_1] at hg
    refine lv_iload_n hx hb dX10_begin_5 rfl (lv_at hl 1 rfl) ?_
    refine lv_bipush (v := 64) hx hb dX10_begin_6 (by decide) ?_
    refine lv_icmp_gt (tgt := 22) hx hb dX10_begin_8 (by decide) (fun c_2 => ?_) (fun c_2 => ?_)
    · rw [if_pos c_2] at hg
      subst hg
      rw [← hQe]
      obtain ⟨sa, hsa⟩ := hZ.t80
      exact vx_throwS (own := RX10) (cls := "java/lang/IllegalArgumentException") (text := "a block is 1 to 64 wide and high") (names := ["java/lang/RuntimeException", "java/lang/Exception"]) (ik := 78) (is := 80) (ic := 82) hx hb hl0 hown (by decide) (by decide) (hts (.classLink RX10 78 "java/lang/IllegalArgumentException") (by decide +kernel)) (hts (.initialized "java/lang/IllegalArgumentException") (by decide +kernel)) hsa (vx_hat (fun w hw => hts w (List.mem_cons_of_mem _ (List.mem_append_right _ hw))) hb_IA hZ.decl) hg_IA hZ.1 hZ.2.1 hS (hl.1.trans hml.symm) dX10_begin_22 dX10_begin_25 dX10_begin_26 dX10_begin_28 dX10_begin_31 (fun x h9 => (hout x h9).elim) (Nat.le_of_ble_eq_true rfl) (Nat.le_of_ble_eq_true rfl) (Nat.le_of_ble_eq_true rfl) (Nat.le_of_ble_eq_true rfl) hlocks (fun t hW hz hq => ⟨(), trivial, ⟨rfl, hP.kept (fun k9 q9 hk9 => hq q9.1 (vx_lt hP hk9)), va_K.moved hW hK, hD⟩, ⟨Nat.le_trans hS.1 hz, fun q9 h1 h2 => (hq q9 (Nat.lt_of_lt_of_le h1 hS.1)).trans (hS.2.1 q9 h1 h2)⟩⟩) hS.2.2 (Nat.le_of_ble_eq_true rfl) (Nat.le_of_ble_eq_true rfl)
    · rw [if_neg c_2] at hg
      refine lv_iload_n hx hb dX10_begin_11 rfl (lv_at hl 2 rfl) ?_
      refine lv_iconst (v := 1) hx hb dX10_begin_12 (by decide) ?_
      refine lv_icmp_lt (tgt := 22) hx hb dX10_begin_13 (by decide) (fun c_3 => ?_) (fun c_3 => ?_)
      · rw [if_pos c_3] at hg
        subst hg
        rw [← hQe]
        obtain ⟨sa, hsa⟩ := hZ.t80
        exact vx_throwS (own := RX10) (cls := "java/lang/IllegalArgumentException") (text := "a block is 1 to 64 wide and high") (names := ["java/lang/RuntimeException", "java/lang/Exception"]) (ik := 78) (is := 80) (ic := 82) hx hb hl0 hown (by decide) (by decide) (hts (.classLink RX10 78 "java/lang/IllegalArgumentException") (by decide +kernel)) (hts (.initialized "java/lang/IllegalArgumentException") (by decide +kernel)) hsa (vx_hat (fun w hw => hts w (List.mem_cons_of_mem _ (List.mem_append_right _ hw))) hb_IA hZ.decl) hg_IA hZ.1 hZ.2.1 hS (hl.1.trans hml.symm) dX10_begin_22 dX10_begin_25 dX10_begin_26 dX10_begin_28 dX10_begin_31 (fun x h9 => (hout x h9).elim) (Nat.le_of_ble_eq_true rfl) (Nat.le_of_ble_eq_true rfl) (Nat.le_of_ble_eq_true rfl) (Nat.le_of_ble_eq_true rfl) hlocks (fun t hW hz hq => ⟨(), trivial, ⟨rfl, hP.kept (fun k9 q9 hk9 => hq q9.1 (vx_lt hP hk9)), va_K.moved hW hK, hD⟩, ⟨Nat.le_trans hS.1 hz, fun q9 h1 h2 => (hq q9 (Nat.lt_of_lt_of_le h1 hS.1)).trans (hS.2.1 q9 h1 h2)⟩⟩) hS.2.2 (Nat.le_of_ble_eq_true rfl) (Nat.le_of_ble_eq_true rfl)
      · rw [if_neg c_3] at hg
        refine lv_iload_n hx hb dX10_begin_16 rfl (lv_at hl 2 rfl) ?_
        refine lv_bipush (v := 64) hx hb dX10_begin_17 (by decide) ?_
        refine lv_icmp_le (tgt := 32) hx hb dX10_begin_19 (by decide) (fun c_4 => ?_) (fun c_4 => ?_)
        · rw [if_pos c_4] at hg
          refine lv_iload_n hx hb dX10_begin_32 rfl (lv_at hl 3 rfl) ?_
          refine lv_if_lt (tgt := 41) hx hb dX10_begin_33 (by decide) (fun c_5 => ?_) (fun c_5 => ?_)
          · rw [if_pos c_5] at hg
            subst hg
            rw [← hQe]
            obtain ⟨sa, hsa⟩ := hZ.t85
            exact vx_throwS (own := RX10) (cls := "java/lang/IllegalArgumentException") (text := "a band is 0 to 3") (names := ["java/lang/RuntimeException", "java/lang/Exception"]) (ik := 78) (is := 85) (ic := 82) hx hb hl0 hown (by decide) (by decide) (hts (.classLink RX10 78 "java/lang/IllegalArgumentException") (by decide +kernel)) (hts (.initialized "java/lang/IllegalArgumentException") (by decide +kernel)) hsa (vx_hat (fun w hw => hts w (List.mem_cons_of_mem _ (List.mem_append_right _ hw))) hb_IA hZ.decl) hg_IA hZ.1 hZ.2.1 hS (hl.1.trans hml.symm) dX10_begin_41 dX10_begin_44 dX10_begin_45 dX10_begin_47 dX10_begin_50 (fun x h9 => (hout x h9).elim) (Nat.le_of_ble_eq_true rfl) (Nat.le_of_ble_eq_true rfl) (Nat.le_of_ble_eq_true rfl) (Nat.le_of_ble_eq_true rfl) hlocks (fun t hW hz hq => ⟨(), trivial, ⟨rfl, hP.kept (fun k9 q9 hk9 => hq q9.1 (vx_lt hP hk9)), va_K.moved hW hK, hD⟩, ⟨Nat.le_trans hS.1 hz, fun q9 h1 h2 => (hq q9 (Nat.lt_of_lt_of_le h1 hS.1)).trans (hS.2.1 q9 h1 h2)⟩⟩) hS.2.2 (Nat.le_of_ble_eq_true rfl) (Nat.le_of_ble_eq_true rfl)
          · rw [if_neg c_5] at hg
            refine lv_iload_n hx hb dX10_begin_36 rfl (lv_at hl 3 rfl) ?_
            refine lv_iconst (v := 3) hx hb dX10_begin_37 (by decide) ?_
            refine lv_icmp_le (tgt := 51) hx hb dX10_begin_38 (by decide) (fun c_6 => ?_) (fun c_6 => ?_)
            · rw [if_pos c_6] at hg
              refine lv_iload hx hb dX10_begin_51 (lv_at hl 4 rfl) ?_
              refine lv_if_lt (tgt := 63) hx hb dX10_begin_53 (by decide) (fun c_7 => ?_) (fun c_7 => ?_)
              · rw [if_pos c_7] at hg
                subst hg
                rw [← hQe]
                obtain ⟨sa, hsa⟩ := hZ.t87
                exact vx_throwS (own := RX10) (cls := "java/lang/IllegalArgumentException") (text := "a style is 0 to 63") (names := ["java/lang/RuntimeException", "java/lang/Exception"]) (ik := 78) (is := 87) (ic := 82) hx hb hl0 hown (by decide) (by decide) (hts (.classLink RX10 78 "java/lang/IllegalArgumentException") (by decide +kernel)) (hts (.initialized "java/lang/IllegalArgumentException") (by decide +kernel)) hsa (vx_hat (fun w hw => hts w (List.mem_cons_of_mem _ (List.mem_append_right _ hw))) hb_IA hZ.decl) hg_IA hZ.1 hZ.2.1 hS (hl.1.trans hml.symm) dX10_begin_63 dX10_begin_66 dX10_begin_67 dX10_begin_69 dX10_begin_72 (fun x h9 => (hout x h9).elim) (Nat.le_of_ble_eq_true rfl) (Nat.le_of_ble_eq_true rfl) (Nat.le_of_ble_eq_true rfl) (Nat.le_of_ble_eq_true rfl) hlocks (fun t hW hz hq => ⟨(), trivial, ⟨rfl, hP.kept (fun k9 q9 hk9 => hq q9.1 (vx_lt hP hk9)), va_K.moved hW hK, hD⟩, ⟨Nat.le_trans hS.1 hz, fun q9 h1 h2 => (hq q9 (Nat.lt_of_lt_of_le h1 hS.1)).trans (hS.2.1 q9 h1 h2)⟩⟩) hS.2.2 (Nat.le_of_ble_eq_true rfl) (Nat.le_of_ble_eq_true rfl)
              · rw [if_neg c_7] at hg
                refine lv_iload hx hb dX10_begin_56 (lv_at hl 4 rfl) ?_
                refine lv_bipush (v := 63) hx hb dX10_begin_58 (by decide) ?_
                refine lv_icmp_le (tgt := 73) hx hb dX10_begin_60 (by decide) (fun c_8 => ?_) (fun c_8 => ?_)
                · rw [if_pos c_8] at hg
                  exact absurd hg.symm hk
                · rw [if_neg c_8] at hg
                  subst hg
                  rw [← hQe]
                  obtain ⟨sa, hsa⟩ := hZ.t87
                  exact vx_throwS (own := RX10) (cls := "java/lang/IllegalArgumentException") (text := "a style is 0 to 63") (names := ["java/lang/RuntimeException", "java/lang/Exception"]) (ik := 78) (is := 87) (ic := 82) hx hb hl0 hown (by decide) (by decide) (hts (.classLink RX10 78 "java/lang/IllegalArgumentException") (by decide +kernel)) (hts (.initialized "java/lang/IllegalArgumentException") (by decide +kernel)) hsa (vx_hat (fun w hw => hts w (List.mem_cons_of_mem _ (List.mem_append_right _ hw))) hb_IA hZ.decl) hg_IA hZ.1 hZ.2.1 hS (hl.1.trans hml.symm) dX10_begin_63 dX10_begin_66 dX10_begin_67 dX10_begin_69 dX10_begin_72 (fun x h9 => (hout x h9).elim) (Nat.le_of_ble_eq_true rfl) (Nat.le_of_ble_eq_true rfl) (Nat.le_of_ble_eq_true rfl) (Nat.le_of_ble_eq_true rfl) hlocks (fun t hW hz hq => ⟨(), trivial, ⟨rfl, hP.kept (fun k9 q9 hk9 => hq q9.1 (vx_lt hP hk9)), va_K.moved hW hK, hD⟩, ⟨Nat.le_trans hS.1 hz, fun q9 h1 h2 => (hq q9 (Nat.lt_of_lt_of_le h1 hS.1)).trans (hS.2.1 q9 h1 h2)⟩⟩) hS.2.2 (Nat.le_of_ble_eq_true rfl) (Nat.le_of_ble_eq_true rfl)
            · rw [if_neg c_6] at hg
              subst hg
              rw [← hQe]
              obtain ⟨sa, hsa⟩ := hZ.t85
              exact vx_throwS (own := RX10) (cls := "java/lang/IllegalArgumentException") (text := "a band is 0 to 3") (names := ["java/lang/RuntimeException", "java/lang/Exception"]) (ik := 78) (is := 85) (ic := 82) hx hb hl0 hown (by decide) (by decide) (hts (.classLink RX10 78 "java/lang/IllegalArgumentException") (by decide +kernel)) (hts (.initialized "java/lang/IllegalArgumentException") (by decide +kernel)) hsa (vx_hat (fun w hw => hts w (List.mem_cons_of_mem _ (List.mem_append_right _ hw))) hb_IA hZ.decl) hg_IA hZ.1 hZ.2.1 hS (hl.1.trans hml.symm) dX10_begin_41 dX10_begin_44 dX10_begin_45 dX10_begin_47 dX10_begin_50 (fun x h9 => (hout x h9).elim) (Nat.le_of_ble_eq_true rfl) (Nat.le_of_ble_eq_true rfl) (Nat.le_of_ble_eq_true rfl) (Nat.le_of_ble_eq_true rfl) hlocks (fun t hW hz hq => ⟨(), trivial, ⟨rfl, hP.kept (fun k9 q9 hk9 => hq q9.1 (vx_lt hP hk9)), va_K.moved hW hK, hD⟩, ⟨Nat.le_trans hS.1 hz, fun q9 h1 h2 => (hq q9 (Nat.lt_of_lt_of_le h1 hS.1)).trans (hS.2.1 q9 h1 h2)⟩⟩) hS.2.2 (Nat.le_of_ble_eq_true rfl) (Nat.le_of_ble_eq_true rfl)
        · rw [if_neg c_4] at hg
          subst hg
          rw [← hQe]
          obtain ⟨sa, hsa⟩ := hZ.t80
          exact vx_throwS (own := RX10) (cls := "java/lang/IllegalArgumentException") (text := "a block is 1 to 64 wide and high") (names := ["java/lang/RuntimeException", "java/lang/Exception"]) (ik := 78) (is := 80) (ic := 82) hx hb hl0 hown (by decide) (by decide) (hts (.classLink RX10 78 "java/lang/IllegalArgumentException") (by decide +kernel)) (hts (.initialized "java/lang/IllegalArgumentException") (by decide +kernel)) hsa (vx_hat (fun w hw => hts w (List.mem_cons_of_mem _ (List.mem_append_right _ hw))) hb_IA hZ.decl) hg_IA hZ.1 hZ.2.1 hS (hl.1.trans hml.symm) dX10_begin_22 dX10_begin_25 dX10_begin_26 dX10_begin_28 dX10_begin_31 (fun x h9 => (hout x h9).elim) (Nat.le_of_ble_eq_true rfl) (Nat.le_of_ble_eq_true rfl) (Nat.le_of_ble_eq_true rfl) (Nat.le_of_ble_eq_true rfl) hlocks (fun t hW hz hq => ⟨(), trivial, ⟨rfl, hP.kept (fun k9 q9 hk9 => hq q9.1 (vx_lt hP hk9)), va_K.moved hW hK, hD⟩, ⟨Nat.le_trans hS.1 hz, fun q9 h1 h2 => (hq q9 (Nat.lt_of_lt_of_le h1 hS.1)).trans (hS.2.1 q9 h1 h2)⟩⟩) hS.2.2 (Nat.le_of_ble_eq_true rfl) (Nat.le_of_ble_eq_true rfl)
abbrev rmx_X10_set : Room := { frames := 6, cells := 1, slots := 6, locals := 90 }
def TX_X10_set (p1 : Int32) (p2 : Int32) (p3 : Int32) (fld_wide : Int32) (fld_high : Int32) : Nat := let r_1 := F_X5_holds p1 p2 fld_wide fld_high; if r_1 = (0 : Int32) then 3 else (if (-2147483647 : Int32) ≤ p3 then 0 else 3)
theorem cx_X10_set (l : Launch) (hl0 : l.stackTraces = false) (dC : Nat → ClassId) (dI : Nat → Nat → Nat) (cI cJ cZ : ClassId) (a_fld : Nat) (a_coef : Nat) (a_mags : Nat) (a_marks : Nat) (a_pb : Nat) (a_plan : Nat) (a_row : Nat) (a_ctx : Nat) (a_cw : Nat) (a_rw : Nat) (a_cr : Nat) (a_rr : Nat) (a_scan : Nat) (sz : Nat) (fld_wide : Int32) (fld_high : Int32) (fld_band : Int32) (fld_causal : Int32) (coef_n : Nat) (coef_f : Nat → Int32) (pb_style : Int32) (pb_isWritten : Int32) (pb_isRead : Int32) (p1 : Int32) (p2 : Int32) (p3 : Int32) (k : Nat) (hk : k ≠ 0) (hT : TX_X10_set p1 p2 p3 fld_wide fld_high = k) : vx_Met l yX10_set wsX10_set rmx_X10_set (va_Pc [.ref a_pb, .int p1, .int p2, .int p3] (fun U => U.heap.size = sz ∧ va_P (dC, dI) vwCl (wd_fld_coef_pb cI a_fld a_coef a_mags a_marks a_pb a_plan a_row a_ctx a_cw a_rw a_cr a_rr a_scan fld_wide fld_high fld_band fld_causal coef_n coef_f pb_style pb_isWritten pb_isRead) U.heap ∧ va_K (dC, dI) vwCl [(cI, .int), (cJ, .long), (cZ, .boolean)] U ∧ va_D (fun _ => True) (wd_fld_coef_pb cI a_fld a_coef a_mags a_marks a_pb a_plan a_row a_ctx a_cw a_rw a_cr a_rr a_scan fld_wide fld_high fld_band fld_causal coef_n coef_f pb_style pb_isWritten pb_isRead) ∧ Zt (va_A (wd_fld_coef_pb cI a_fld a_coef a_mags a_marks a_pb a_plan a_row a_ctx a_cw a_rw a_cr a_rr a_scan fld_wide fld_high fld_band fld_causal coef_n coef_f pb_style pb_isWritten pb_isRead) sz) U U.heap)) (va_Qv (fun _ : Unit => False) (fun _ _ => True) (va_A (wd_fld_coef_pb cI a_fld a_coef a_mags a_marks a_pb a_plan a_row a_ctx a_cw a_rw a_cr a_rr a_scan fld_wide fld_high fld_band fld_causal coef_n coef_f pb_style pb_isWritten pb_isRead) sz)) (vx_X (fun _ : Unit => True) (fun E _ t => E = exN k ∧ va_P (dC, dI) vwCl (wd_fld_coef_pb cI a_fld a_coef a_mags a_marks a_pb a_plan a_row a_ctx a_cw a_rw a_cr a_rr a_scan fld_wide fld_high fld_band fld_causal coef_n coef_f pb_style pb_isWritten pb_isRead) t.heap ∧ va_K (dC, dI) vwCl [(cI, .int), (cJ, .long), (cZ, .boolean)] t ∧ va_D (va_A (wd_fld_coef_pb cI a_fld a_coef a_mags a_marks a_pb a_plan a_row a_ctx a_cw a_rw a_cr a_rr a_scan fld_wide fld_high fld_band fld_causal coef_n coef_f pb_style pb_isWritten pb_isRead) sz) (wd_fld_coef_pb cI a_fld a_coef a_mags a_marks a_pb a_plan a_row a_ctx a_cw a_rw a_cr a_rr a_scan fld_wide fld_high fld_band fld_causal coef_n coef_f pb_style pb_isWritten pb_isRead)) (va_A (wd_fld_coef_pb cI a_fld a_coef a_mags a_marks a_pb a_plan a_row a_ctx a_cw a_rw a_cr a_rr a_scan fld_wide fld_high fld_band fld_causal coef_n coef_f pb_style pb_isWritten pb_isRead) sz)) 1 6 (va_A (wd_fld_coef_pb cI a_fld a_coef a_mags a_marks a_pb a_plan a_row a_ctx a_cw a_rw a_cr a_rr a_scan fld_wide fld_high fld_band fld_causal coef_n coef_f pb_style pb_isWritten pb_isRead) sz) := by
  refine vx_ofW (cc := cX10_set) (maxL := 4) (ret := none) (by decide) rfl ?_
  intro p e s m args below meth c s₁ B hml hout hv
  obtain ⟨rfl, hsz, hP, hK, hD0, hZ⟩ := hv
  have hx := B.exec
  have hb := B.bytes
  have hr := B.returns
  have hts := atoms_spec (ws := wsX10_set) B.pre
  have hown : s.vm.findClass RX10 = some m.cls := findClass_of_methodNamed B.named
  have hlocks := B.notSynchronized
  subst hsz
  have hD := hD0.self (sz := s.heap.size)
  generalize hAe : va_A (wd_fld_coef_pb cI a_fld a_coef a_mags a_marks a_pb a_plan a_row a_ctx a_cw a_rw a_cr a_rr a_scan fld_wide fld_high fld_band fld_causal coef_n coef_f pb_style pb_isWritten pb_isRead) s.heap.size = A at hD hZ ⊢
  have hA : ∀ q : Nat, s.heap.size ≤ q → A q := fun q h => by rw [← hAe]; exact Or.inr h
  have hS : va_S A s.heap s.heap [] := va_S.rf
  obtain ⟨H, hH⟩ : ∃ z, z = s.heap := ⟨_, rfl⟩
  have hP : va_P (dC, dI) vwCl (wd_fld_coef_pb cI a_fld a_coef a_mags a_marks a_pb a_plan a_row a_ctx a_cw a_rw a_cr a_rr a_scan fld_wide fld_high fld_band fld_causal coef_n coef_f pb_style pb_isWritten pb_isRead) H := by rw [hH]; exact hP
  have hS : va_S A s.heap H [] := by rw [hH]; exact va_S.rf
  generalize hQe : vx_MQ below (va_Qv (fun _ : Unit => False) (fun _ _ => True) A) (vx_X (fun _ : Unit => True) (fun E _ t => E = exN k ∧ va_P (dC, dI) vwCl (wd_fld_coef_pb cI a_fld a_coef a_mags a_marks a_pb a_plan a_row a_ctx a_cw a_rw a_cr a_rr a_scan fld_wide fld_high fld_band fld_causal coef_n coef_f pb_style pb_isWritten pb_isRead) t.heap ∧ va_K (dC, dI) vwCl [(cI, .int), (cJ, .long), (cZ, .boolean)] t ∧ va_D A (wd_fld_coef_pb cI a_fld a_coef a_mags a_marks a_pb a_plan a_row a_ctx a_cw a_rw a_cr a_rr a_scan fld_wide fld_high fld_band fld_causal coef_n coef_f pb_style pb_isWritten pb_isRead)) A) _ s 1 6 A = Q
  rw [← hH]
  clear hH
  have hl := lv_entry ([.ref a_pb, .int p1, .int p2, .int p3]) (n := 4) (Nat.le_of_ble_eq_true rfl)
  rw [lg_entry_eq]
  generalize (lg_sl ([.ref a_pb, .int p1, .int p2, .int p3]) ++ List.replicate (4 - (lg_sl ([.ref a_pb, .int p1, .int p2, .int p3])).length) Slot.unset).toArray = ls at hl ⊢
  have hl : lv_has ls 4 [(0, .ref a_pb), (1, .int p1), (2, .int p2), (3, .int p3)] := hl
  have hg := hT
  unfold TX_X10_set at hg
  refine lv_aload_n hx hb dX10_set_0 rfl (lv_at hl 0 rfl) ?_
  refine va_get (D := (dC, dI)) (ci := 9) (v := .ref a_fld) (C := RX10) (T := TX10) (N := 12) hx hb hts iw_X10_set_X10 hown hK hP 2 rfl rfl 0 (by decide) (hts (.fieldLink RX10 12 "PlaneBlocks" "field" "LPlaneBlocks$Field;") (by decide +kernel)) (fun _ h9 => h9) rfl dX10_set_1 ?_
  refine lv_iload_n hx hb dX10_set_4 rfl (lv_at hl 1 rfl) ?_
  refine lv_iload_n hx hb dX10_set_5 rfl (lv_at hl 2 rfl) ?_
  have hPc := hP.sub (ws' := (wd_fld a_fld a_coef a_mags a_marks fld_wide fld_high fld_band fld_causal)) [0] rfl
  have hDc := hD.sub (ws' := (wd_fld a_fld a_coef a_mags a_marks fld_wide fld_high fld_band fld_causal)) [0] (by decide) rfl
  have hFc := va_free (wc := (wd_fld a_fld a_coef a_mags a_marks fld_wide fld_high fld_band fld_causal)) hD hS hA [0] rfl
  refine va_calli (va_runV (As := [.int p1, .int p2]) (rest := []) ⟨hx, hb, hml, hown, hts⟩ (c_X5_holds l dC dI cI cJ cZ a_fld a_coef a_mags a_marks H.size fld_wide fld_high fld_band fld_causal p1 p2) (cwV 2 hts gX10_set_X5_holds rfl rfl rfl (by decide +kernel) ⟨Nat.le_of_ble_eq_true rfl, Nat.le_of_ble_eq_true rfl⟩) ⟨fun a U g mk q => by obtain ⟨q0, q1, qP, qK, qD⟩ := q; exact ⟨q0, q1, qP, va_K.moved (u := U) (U := U.calling g mk a) (Vm.Alike.refl U.vm) qK, qD⟩, va_recv hK hPc (ci := 4) (q0 := 0) rfl rfl, fun U hU hW => ⟨rfl, by rw [hU], by rw [hU]; exact hPc, va_K.moved hW.alike hK, hDc.weaken (fun _ _ _ _ => trivial)⟩⟩ rfl rfl hl.1 rfl (lv_room (Nat.le_of_ble_eq_true rfl)) dX10_set_6 ⟨Nat.le_of_ble_eq_true rfl, Nat.le_of_ble_eq_true rfl⟩) hS (fun q _ h => hFc q h) hFc (fun r u t H1 locs ht hvm hw hB hz1 hk1 hS => ?_)
  obtain ⟨hP1, hK1, hD1⟩ := hB
  rw [ht] at hP1
  obtain ⟨r_1, hr_1⟩ : ∃ z, F_X5_holds p1 p2 fld_wide fld_high = z := ⟨_, rfl⟩
  try rw [hr_1] at hw
  try rw [hr_1] at hP1
  try rw [hr_1] at hD1
  have hg : (if r_1 = (0 : Int32) then 3 else (if (-2147483647 : Int32) ≤ p3 then 0 else 3)) = k := by first | (rw [hr_1] at hg; exact hg) | (subst hr_1; exact hg)
  have hw := hw.symm
  subst hw
  obtain ⟨hP, hD⟩ := va_join (wr := [(a_coef, .inl (cI, coef_n, .inl coef_f)), (a_pb, .inr (9, [.ref a_fld, .ref a_plan, .ref a_row, .ref a_ctx, .ref a_cw, .ref a_rw, .ref a_cr, .ref a_rr, .ref a_scan, .int pb_style, .int pb_isWritten, .int pb_isRead]))]) (w1 := (wd_fld a_fld a_coef a_mags a_marks fld_wide fld_high fld_band fld_causal)) hP hD [0] [1, 2] rfl rfl (by decide) (by decide) hk1 hFc hP1 hD1
  have hP : va_P (dC, dI) vwCl (wd_fld_coef_pb cI a_fld a_coef a_mags a_marks a_pb a_plan a_row a_ctx a_cw a_rw a_cr a_rr a_scan fld_wide fld_high fld_band fld_causal coef_n coef_f pb_style pb_isWritten pb_isRead) H1 := hP.sub [2, 0, 1] rfl
  have hD : va_D A (wd_fld_coef_pb cI a_fld a_coef a_mags a_marks a_pb a_plan a_row a_ctx a_cw a_rw a_cr a_rr a_scan fld_wide fld_high fld_band fld_causal coef_n coef_f pb_style pb_isWritten pb_isRead) := hD.sub [2, 0, 1] (by decide) rfl
  generalize H1 = H at hP hS ⊢
  refine lv_if_ne (tgt := 22) hx hb dX10_set_9 (by decide) (fun c_2 => ?_) (fun c_2 => ?_)
  · rw [if_neg c_2] at hg
    refine lv_iload_n hx hb dX10_set_22 rfl (lv_at hl 3 rfl) ?_
    refine lv_ldc (v := -2147483647) hx hb hown (hts (.constant RX10 110 (-2147483647)) (by decide +kernel)) dX10_set_23 ?_
    refine lv_icmp_ge (tgt := 38) hx hb dX10_set_25 (by decide) (fun c_3 => ?_) (fun c_3 => ?_)
    · rw [if_pos c_3] at hg
      exact absurd hg.symm hk
    · rw [if_neg c_3] at hg
      subst hg
      rw [← hQe]
      obtain ⟨sa, hsa⟩ := hZ.t111
      exact vx_throwS (own := RX10) (cls := "java/lang/IllegalArgumentException") (text := "a magnitude is at most 2^31 - 1") (names := ["java/lang/RuntimeException", "java/lang/Exception"]) (ik := 78) (is := 111) (ic := 82) hx hb hl0 hown (by decide) (by decide) (hts (.classLink RX10 78 "java/lang/IllegalArgumentException") (by decide +kernel)) (hts (.initialized "java/lang/IllegalArgumentException") (by decide +kernel)) hsa (vx_hat (fun w hw => hts w (List.mem_cons_of_mem _ (List.mem_append_right _ hw))) hb_IA hZ.decl) hg_IA hZ.1 hZ.2.1 hS (hl.1.trans hml.symm) dX10_set_28 dX10_set_31 dX10_set_32 dX10_set_34 dX10_set_37 (fun x h9 => (hout x h9).elim) (Nat.le_of_ble_eq_true rfl) (Nat.le_of_ble_eq_true rfl) (Nat.le_of_ble_eq_true rfl) (Nat.le_of_ble_eq_true rfl) hlocks (fun t hW hz hq => ⟨(), trivial, ⟨rfl, hP.kept (fun k9 q9 hk9 => hq q9.1 (vx_lt hP hk9)), va_K.moved hW hK, hD⟩, ⟨Nat.le_trans hS.1 hz, fun q9 h1 h2 => (hq q9 (Nat.lt_of_lt_of_le h1 hS.1)).trans (hS.2.1 q9 h1 h2)⟩⟩) hS.2.2 (Nat.le_of_ble_eq_true rfl) (Nat.le_of_ble_eq_true rfl)
  · rw [if_pos c_2] at hg
    subst hg
    rw [← hQe]
    obtain ⟨sa, hsa⟩ := hZ.t108
    exact vx_throwS (own := RX10) (cls := "java/lang/IllegalArgumentException") (text := "there is no such coefficient") (names := ["java/lang/RuntimeException", "java/lang/Exception"]) (ik := 78) (is := 108) (ic := 82) hx hb hl0 hown (by decide) (by decide) (hts (.classLink RX10 78 "java/lang/IllegalArgumentException") (by decide +kernel)) (hts (.initialized "java/lang/IllegalArgumentException") (by decide +kernel)) hsa (vx_hat (fun w hw => hts w (List.mem_cons_of_mem _ (List.mem_append_right _ hw))) hb_IA hZ.decl) hg_IA hZ.1 hZ.2.1 hS (hl.1.trans hml.symm) dX10_set_12 dX10_set_15 dX10_set_16 dX10_set_18 dX10_set_21 (fun x h9 => (hout x h9).elim) (Nat.le_of_ble_eq_true rfl) (Nat.le_of_ble_eq_true rfl) (Nat.le_of_ble_eq_true rfl) (Nat.le_of_ble_eq_true rfl) hlocks (fun t hW hz hq => ⟨(), trivial, ⟨rfl, hP.kept (fun k9 q9 hk9 => hq q9.1 (vx_lt hP hk9)), va_K.moved hW hK, hD⟩, ⟨Nat.le_trans hS.1 hz, fun q9 h1 h2 => (hq q9 (Nat.lt_of_lt_of_le h1 hS.1)).trans (hS.2.1 q9 h1 h2)⟩⟩) hS.2.2 (Nat.le_of_ble_eq_true rfl) (Nat.le_of_ble_eq_true rfl)
abbrev rmx_X10_fill : Room := { frames := 6, cells := 1, slots := 6, locals := 90 }
def TX_X10_fill (p4 : Int32) : Nat := if p4 < (0 : Int32) then 3 else (if p4 ≤ (31 : Int32) then 0 else 3)
theorem cx_X10_fill (l : Launch) (hl0 : l.stackTraces = false) (dC : Nat → ClassId) (dI : Nat → Nat → Nat) (cI cJ cZ : ClassId) (a_fld : Nat) (a_coef : Nat) (a_mags : Nat) (a_marks : Nat) (a_pb : Nat) (a_plan : Nat) (a_row : Nat) (a_ctx : Nat) (a_cw : Nat) (a_rw : Nat) (a_cr : Nat) (a_rr : Nat) (a_scan : Nat) (sz : Nat) (fld_wide : Int32) (fld_high : Int32) (fld_band : Int32) (fld_causal : Int32) (coef_n : Nat) (coef_f : Nat → Int32) (pb_style : Int32) (pb_isWritten : Int32) (pb_isRead : Int32) (p1 : Int32) (p2 : Int32) (p3 : Int32) (p4 : Int32) (k : Nat) (hk : k ≠ 0) (hT : TX_X10_fill p4 = k) : vx_Met l yX10_fill wsX10_fill rmx_X10_fill (va_Pc [.ref a_pb, .int p1, .int p2, .int p3, .int p4] (fun U => U.heap.size = sz ∧ va_P (dC, dI) vwCl (wd_fld_coef_pb cI a_fld a_coef a_mags a_marks a_pb a_plan a_row a_ctx a_cw a_rw a_cr a_rr a_scan fld_wide fld_high fld_band fld_causal coef_n coef_f pb_style pb_isWritten pb_isRead) U.heap ∧ va_K (dC, dI) vwCl [(cI, .int), (cJ, .long), (cZ, .boolean)] U ∧ va_D (fun _ => True) (wd_fld_coef_pb cI a_fld a_coef a_mags a_marks a_pb a_plan a_row a_ctx a_cw a_rw a_cr a_rr a_scan fld_wide fld_high fld_band fld_causal coef_n coef_f pb_style pb_isWritten pb_isRead) ∧ Zt (va_A (wd_fld_coef_pb cI a_fld a_coef a_mags a_marks a_pb a_plan a_row a_ctx a_cw a_rw a_cr a_rr a_scan fld_wide fld_high fld_band fld_causal coef_n coef_f pb_style pb_isWritten pb_isRead) sz) U U.heap)) (va_Qv (fun _ : Unit => False) (fun _ _ => True) (va_A (wd_fld_coef_pb cI a_fld a_coef a_mags a_marks a_pb a_plan a_row a_ctx a_cw a_rw a_cr a_rr a_scan fld_wide fld_high fld_band fld_causal coef_n coef_f pb_style pb_isWritten pb_isRead) sz)) (vx_X (fun _ : Unit => True) (fun E _ t => E = exN k ∧ va_P (dC, dI) vwCl (wd_fld_coef_pb cI a_fld a_coef a_mags a_marks a_pb a_plan a_row a_ctx a_cw a_rw a_cr a_rr a_scan fld_wide fld_high fld_band fld_causal coef_n coef_f pb_style pb_isWritten pb_isRead) t.heap ∧ va_K (dC, dI) vwCl [(cI, .int), (cJ, .long), (cZ, .boolean)] t ∧ va_D (va_A (wd_fld_coef_pb cI a_fld a_coef a_mags a_marks a_pb a_plan a_row a_ctx a_cw a_rw a_cr a_rr a_scan fld_wide fld_high fld_band fld_causal coef_n coef_f pb_style pb_isWritten pb_isRead) sz) (wd_fld_coef_pb cI a_fld a_coef a_mags a_marks a_pb a_plan a_row a_ctx a_cw a_rw a_cr a_rr a_scan fld_wide fld_high fld_band fld_causal coef_n coef_f pb_style pb_isWritten pb_isRead)) (va_A (wd_fld_coef_pb cI a_fld a_coef a_mags a_marks a_pb a_plan a_row a_ctx a_cw a_rw a_cr a_rr a_scan fld_wide fld_high fld_band fld_causal coef_n coef_f pb_style pb_isWritten pb_isRead) sz)) 1 6 (va_A (wd_fld_coef_pb cI a_fld a_coef a_mags a_marks a_pb a_plan a_row a_ctx a_cw a_rw a_cr a_rr a_scan fld_wide fld_high fld_band fld_causal coef_n coef_f pb_style pb_isWritten pb_isRead) sz) := by
  refine vx_ofW (cc := cX10_fill) (maxL := 8) (ret := none) (by decide) rfl ?_
  intro p e s m args below meth c s₁ B hml hout hv
  obtain ⟨rfl, hsz, hP, hK, hD0, hZ⟩ := hv
  have hx := B.exec
  have hb := B.bytes
  have hr := B.returns
  have hts := atoms_spec (ws := wsX10_fill) B.pre
  have hown : s.vm.findClass RX10 = some m.cls := findClass_of_methodNamed B.named
  have hlocks := B.notSynchronized
  subst hsz
  have hD := hD0.self (sz := s.heap.size)
  generalize hAe : va_A (wd_fld_coef_pb cI a_fld a_coef a_mags a_marks a_pb a_plan a_row a_ctx a_cw a_rw a_cr a_rr a_scan fld_wide fld_high fld_band fld_causal coef_n coef_f pb_style pb_isWritten pb_isRead) s.heap.size = A at hD hZ ⊢
  have hA : ∀ q : Nat, s.heap.size ≤ q → A q := fun q h => by rw [← hAe]; exact Or.inr h
  have hS : va_S A s.heap s.heap [] := va_S.rf
  obtain ⟨H, hH⟩ : ∃ z, z = s.heap := ⟨_, rfl⟩
  have hP : va_P (dC, dI) vwCl (wd_fld_coef_pb cI a_fld a_coef a_mags a_marks a_pb a_plan a_row a_ctx a_cw a_rw a_cr a_rr a_scan fld_wide fld_high fld_band fld_causal coef_n coef_f pb_style pb_isWritten pb_isRead) H := by rw [hH]; exact hP
  have hS : va_S A s.heap H [] := by rw [hH]; exact va_S.rf
  generalize hQe : vx_MQ below (va_Qv (fun _ : Unit => False) (fun _ _ => True) A) (vx_X (fun _ : Unit => True) (fun E _ t => E = exN k ∧ va_P (dC, dI) vwCl (wd_fld_coef_pb cI a_fld a_coef a_mags a_marks a_pb a_plan a_row a_ctx a_cw a_rw a_cr a_rr a_scan fld_wide fld_high fld_band fld_causal coef_n coef_f pb_style pb_isWritten pb_isRead) t.heap ∧ va_K (dC, dI) vwCl [(cI, .int), (cJ, .long), (cZ, .boolean)] t ∧ va_D A (wd_fld_coef_pb cI a_fld a_coef a_mags a_marks a_pb a_plan a_row a_ctx a_cw a_rw a_cr a_rr a_scan fld_wide fld_high fld_band fld_causal coef_n coef_f pb_style pb_isWritten pb_isRead)) A) _ s 1 6 A = Q
  rw [← hH]
  clear hH
  have hl := lv_entry ([.ref a_pb, .int p1, .int p2, .int p3, .int p4]) (n := 8) (Nat.le_of_ble_eq_true rfl)
  rw [lg_entry_eq]
  generalize (lg_sl ([.ref a_pb, .int p1, .int p2, .int p3, .int p4]) ++ List.replicate (8 - (lg_sl ([.ref a_pb, .int p1, .int p2, .int p3, .int p4])).length) Slot.unset).toArray = ls at hl ⊢
  have hl : lv_has ls 8 [(0, .ref a_pb), (1, .int p1), (2, .int p2), (3, .int p3), (4, .int p4)] := hl
  have hg := hT
  unfold TX_X10_fill at hg
  refine lv_iload hx hb dX10_fill_0 (lv_at hl 4 rfl) ?_
  refine lv_if_lt (tgt := 12) hx hb dX10_fill_2 (by decide) (fun c_1 => ?_) (fun c_1 => ?_)
  · rw [if_pos c_1] at hg
    subst hg
    rw [← hQe]
    obtain ⟨sa, hsa⟩ := hZ.t121
    exact vx_throwS (own := RX10) (cls := "java/lang/IllegalArgumentException") (text := "a shift is 0 to 31") (names := ["java/lang/RuntimeException", "java/lang/Exception"]) (ik := 78) (is := 121) (ic := 82) hx hb hl0 hown (by decide) (by decide) (hts (.classLink RX10 78 "java/lang/IllegalArgumentException") (by decide +kernel)) (hts (.initialized "java/lang/IllegalArgumentException") (by decide +kernel)) hsa (vx_hat (fun w hw => hts w (List.mem_cons_of_mem _ (List.mem_append_right _ hw))) hb_IA hZ.decl) hg_IA hZ.1 hZ.2.1 hS (hl.1.trans hml.symm) dX10_fill_12 dX10_fill_15 dX10_fill_16 dX10_fill_18 dX10_fill_21 (fun x h9 => (hout x h9).elim) (Nat.le_of_ble_eq_true rfl) (Nat.le_of_ble_eq_true rfl) (Nat.le_of_ble_eq_true rfl) (Nat.le_of_ble_eq_true rfl) hlocks (fun t hW hz hq => ⟨(), trivial, ⟨rfl, hP.kept (fun k9 q9 hk9 => hq q9.1 (vx_lt hP hk9)), va_K.moved hW hK, hD⟩, ⟨Nat.le_trans hS.1 hz, fun q9 h1 h2 => (hq q9 (Nat.lt_of_lt_of_le h1 hS.1)).trans (hS.2.1 q9 h1 h2)⟩⟩) hS.2.2 (Nat.le_of_ble_eq_true rfl) (Nat.le_of_ble_eq_true rfl)
  · rw [if_neg c_1] at hg
    refine lv_iload hx hb dX10_fill_5 (lv_at hl 4 rfl) ?_
    refine lv_bipush (v := 31) hx hb dX10_fill_7 (by decide) ?_
    refine lv_icmp_le (tgt := 22) hx hb dX10_fill_9 (by decide) (fun c_2 => ?_) (fun c_2 => ?_)
    · rw [if_pos c_2] at hg
      exact absurd hg.symm hk
    · rw [if_neg c_2] at hg
      subst hg
      rw [← hQe]
      obtain ⟨sa, hsa⟩ := hZ.t121
      exact vx_throwS (own := RX10) (cls := "java/lang/IllegalArgumentException") (text := "a shift is 0 to 31") (names := ["java/lang/RuntimeException", "java/lang/Exception"]) (ik := 78) (is := 121) (ic := 82) hx hb hl0 hown (by decide) (by decide) (hts (.classLink RX10 78 "java/lang/IllegalArgumentException") (by decide +kernel)) (hts (.initialized "java/lang/IllegalArgumentException") (by decide +kernel)) hsa (vx_hat (fun w hw => hts w (List.mem_cons_of_mem _ (List.mem_append_right _ hw))) hb_IA hZ.decl) hg_IA hZ.1 hZ.2.1 hS (hl.1.trans hml.symm) dX10_fill_12 dX10_fill_15 dX10_fill_16 dX10_fill_18 dX10_fill_21 (fun x h9 => (hout x h9).elim) (Nat.le_of_ble_eq_true rfl) (Nat.le_of_ble_eq_true rfl) (Nat.le_of_ble_eq_true rfl) (Nat.le_of_ble_eq_true rfl) hlocks (fun t hW hz hq => ⟨(), trivial, ⟨rfl, hP.kept (fun k9 q9 hk9 => hq q9.1 (vx_lt hP hk9)), va_K.moved hW hK, hD⟩, ⟨Nat.le_trans hS.1 hz, fun q9 h1 h2 => (hq q9 (Nat.lt_of_lt_of_le h1 hS.1)).trans (hS.2.1 q9 h1 h2)⟩⟩) hS.2.2 (Nat.le_of_ble_eq_true rfl) (Nat.le_of_ble_eq_true rfl)
abbrev rmx_X10_written : Room := { frames := 7, cells := 1, slots := 6, locals := 110 }
def TX_X10_written (p1 : Int32) (pb_isWritten : Int32) : Nat := if TX_X10_needWritten pb_isWritten = 0 then (if p1 = (0 : Int32) then 0 else (if p1 = (1 : Int32) then 0 else (if p1 = (2 : Int32) then 0 else (if p1 = (3 : Int32) then 0 else 3)))) else TX_X10_needWritten pb_isWritten

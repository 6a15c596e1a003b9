theorem cx_X10_change (l : Launch) (hl0 : l.stackTraces = false) (dC : Nat → ClassId) (dI : Nat → Nat → Nat) (cI cJ cZ : ClassId) (a_row : Nat) (a_bytes : Nat) (a_pb : Nat) (a_fld : Nat) (a_plan : Nat) (a_ctx : Nat) (a_cw : Nat) (a_rw : Nat) (a_cr : Nat) (a_rr : Nat) (a_scan : Nat) (sz : Nat) (row_count : Int32) (row_start : Int32) (bytes_n : Nat) (bytes_f : Nat → Int32) (pb_style : Int32) (pb_isWritten : Int32) (pb_isRead : Int32) (p1 : Int32) (p2 : Int32) (k : Nat) (hk : k ≠ 0) (hT : TX_X10_change p1 row_count pb_isWritten = k) : vx_Met l yX10_change wsX10_change rmx_X10_change (va_Pc [.ref a_pb, .int p1, .int p2] (fun U => U.heap.size = sz ∧ va_P (dC, dI) vwCl (wd_row_bytes_pb cI a_row a_bytes a_pb a_fld a_plan a_ctx a_cw a_rw a_cr a_rr a_scan row_count row_start bytes_n bytes_f pb_style pb_isWritten pb_isRead) U.heap ∧ va_K (dC, dI) vwCl [(cI, .int), (cJ, .long), (cZ, .boolean)] U ∧ va_D (fun _ => True) (wd_row_bytes_pb cI a_row a_bytes a_pb a_fld a_plan a_ctx a_cw a_rw a_cr a_rr a_scan row_count row_start bytes_n bytes_f pb_style pb_isWritten pb_isRead) ∧ Zt (va_A (wd_row_bytes_pb cI a_row a_bytes a_pb a_fld a_plan a_ctx a_cw a_rw a_cr a_rr a_scan row_count row_start bytes_n bytes_f pb_style pb_isWritten pb_isRead) sz) U U.heap)) (va_Qi (fun (_ : Int32) (_ : Unit) => False) (fun _ _ => True) (va_A (wd_row_bytes_pb cI a_row a_bytes a_pb a_fld a_plan a_ctx a_cw a_rw a_cr a_rr a_scan row_count row_start bytes_n bytes_f pb_style pb_isWritten pb_isRead) sz)) (vx_X (fun _ : Unit => True) (fun E _ t => E = exN k ∧ va_P (dC, dI) vwCl (wd_row_bytes_pb cI a_row a_bytes a_pb a_fld a_plan a_ctx a_cw a_rw a_cr a_rr a_scan row_count row_start bytes_n bytes_f pb_style pb_isWritten pb_isRead) t.heap ∧ va_K (dC, dI) vwCl [(cI, .int), (cJ, .long), (cZ, .boolean)] t ∧ va_D (va_A (wd_row_bytes_pb cI a_row a_bytes a_pb a_fld a_plan a_ctx a_cw a_rw a_cr a_rr a_scan row_count row_start bytes_n bytes_f pb_style pb_isWritten pb_isRead) sz) (wd_row_bytes_pb cI a_row a_bytes a_pb a_fld a_plan a_ctx a_cw a_rw a_cr a_rr a_scan row_count row_start bytes_n bytes_f pb_style pb_isWritten pb_isRead)) (va_A (wd_row_bytes_pb cI a_row a_bytes a_pb a_fld a_plan a_ctx a_cw a_rw a_cr a_rr a_scan row_count row_start bytes_n bytes_f pb_style pb_isWritten pb_isRead) sz)) 1 6 (va_A (wd_row_bytes_pb cI a_row a_bytes a_pb a_fld a_plan a_ctx a_cw a_rw a_cr a_rr a_scan row_count row_start bytes_n bytes_f pb_style pb_isWritten pb_isRead) sz) := by
  refine vx_ofW (cc := cX10_change) (maxL := 4) (ret := (some .int)) (by decide) rfl ?_
  intro p e s m args below meth c s₁ B hml hout hv
  obtain ⟨rfl, hsz, hP, hK, hD0, hZ⟩ := hv
  have hx := B.exec
  have hb := B.bytes
  have hr := B.returns
  have hts := atoms_spec (ws := wsX10_change) B.pre
  have hown : s.vm.findClass RX10 = some m.cls := findClass_of_methodNamed B.named
  have hlocks := B.notSynchronized
  subst hsz
  have hD := hD0.self (sz := s.heap.size)
  generalize hAe : va_A (wd_row_bytes_pb cI a_row a_bytes a_pb a_fld a_plan a_ctx a_cw a_rw a_cr a_rr a_scan row_count row_start bytes_n bytes_f pb_style pb_isWritten pb_isRead) s.heap.size = A at hD hZ ⊢
  have hA : ∀ q : Nat, s.heap.size ≤ q → A q := fun q h => by rw [← hAe]; exact Or.inr h
  have hS : va_S A s.heap s.heap [] := va_S.rf
  obtain ⟨H, hH⟩ : ∃ z, z = s.heap := ⟨_, rfl⟩
  have hP : va_P (dC, dI) vwCl (wd_row_bytes_pb cI a_row a_bytes a_pb a_fld a_plan a_ctx a_cw a_rw a_cr a_rr a_scan row_count row_start bytes_n bytes_f pb_style pb_isWritten pb_isRead) H := by rw [hH]; exact hP
  have hS : va_S A s.heap H [] := by rw [hH]; exact va_S.rf
  generalize hQe : vx_MQ below (va_Qi (fun (_ : Int32) (_ : Unit) => False) (fun _ _ => True) A) (vx_X (fun _ : Unit => True) (fun E _ t => E = exN k ∧ va_P (dC, dI) vwCl (wd_row_bytes_pb cI a_row a_bytes a_pb a_fld a_plan a_ctx a_cw a_rw a_cr a_rr a_scan row_count row_start bytes_n bytes_f pb_style pb_isWritten pb_isRead) t.heap ∧ va_K (dC, dI) vwCl [(cI, .int), (cJ, .long), (cZ, .boolean)] t ∧ va_D A (wd_row_bytes_pb cI a_row a_bytes a_pb a_fld a_plan a_ctx a_cw a_rw a_cr a_rr a_scan row_count row_start bytes_n bytes_f pb_style pb_isWritten pb_isRead)) A) _ s 1 6 A = Q
  rw [← hH]
  clear hH
  have hl := lv_entry ([.ref a_pb, .int p1, .int p2]) (n := 4) (Nat.le_of_ble_eq_true rfl)
  rw [lg_entry_eq]
  generalize (lg_sl ([.ref a_pb, .int p1, .int p2]) ++ List.replicate (4 - (lg_sl ([.ref a_pb, .int p1, .int p2])).length) Slot.unset).toArray = ls at hl ⊢
  have hl : lv_has ls 4 [(0, .ref a_pb), (1, .int p1), (2, .int p2)] := hl
  have hg := hT
  unfold TX_X10_change at hg
  refine lv_aload_n hx hb dX10_change_0 rfl (lv_at hl 0 rfl) ?_
  refine lv_iload_n hx hb dX10_change_1 rfl (lv_at hl 1 rfl) ?_
  by_cases cq : TX_X10_needByte p1 row_count pb_isWritten = 0
  · rw [if_pos cq] at hg
    have hpre := tp_X10_needByte cq
    have hPc := hP.sub (ws' := (wd_row_pb a_row a_bytes a_pb a_fld a_plan a_ctx a_cw a_rw a_cr a_rr a_scan row_count row_start pb_style pb_isWritten pb_isRead)) [0, 2] rfl
    have hDc := hD.sub (ws' := (wd_row_pb a_row a_bytes a_pb a_fld a_plan a_ctx a_cw a_rw a_cr a_rr a_scan row_count row_start pb_style pb_isWritten pb_isRead)) [0, 2] (by decide) rfl
    have hFc := va_free (wc := (wd_row_pb a_row a_bytes a_pb a_fld a_plan a_ctx a_cw a_rw a_cr a_rr a_scan row_count row_start pb_style pb_isWritten pb_isRead)) hD hS hA [0, 2] rfl
    refine va_callv (va_runV (As := [.int p1]) (rest := []) ⟨hx, hb, hml, hown, hts⟩ (c_X10_needByte l dC dI cI cJ cZ a_row a_bytes a_pb a_fld a_plan a_ctx a_cw a_rw a_cr a_rr a_scan H.size row_count row_start pb_style pb_isWritten pb_isRead p1 hpre) (cwV 1 hts gX10_change_X10_needByte rfl rfl rfl (by decide +kernel) ⟨Nat.le_of_ble_eq_true rfl, Nat.le_of_ble_eq_true rfl⟩) ⟨fun a U g mk q => by obtain ⟨q0, q1, qP, qK, qD⟩ := q; exact ⟨q0, q1, qP, va_K.moved (u := U) (U := U.calling g mk a) (Vm.Alike.refl U.vm) qK, qD⟩, va_recv hK hPc (ci := 9) (q0 := 1) rfl rfl, fun U hU hW => ⟨rfl, by rw [hU], by rw [hU]; exact hPc, va_K.moved hW.alike hK, hDc.weaken (fun _ _ _ _ => trivial)⟩⟩ rfl rfl hl.1 rfl (lv_room (Nat.le_of_ble_eq_true rfl)) dX10_change_2 ⟨Nat.le_of_ble_eq_true rfl, Nat.le_of_ble_eq_true rfl⟩) hS (fun q _ h => hFc q h) hFc (fun u t H1 locs ht hvm hw hB hz1 hk1 hS => ?_)
    obtain ⟨hP1, hK1, hD1⟩ := hB
    rw [ht] at hP1
    obtain ⟨hP, hD⟩ := va_join (wr := [(a_bytes, .inl (cI, bytes_n, .inl bytes_f))]) (w1 := (wd_row_pb a_row a_bytes a_pb a_fld a_plan a_ctx a_cw a_rw a_cr a_rr a_scan row_count row_start pb_style pb_isWritten pb_isRead)) hP hD [0, 2] [1] rfl rfl (by decide) (by decide) hk1 hFc hP1 hD1
    have hP : va_P (dC, dI) vwCl (wd_row_bytes_pb cI a_row a_bytes a_pb a_fld a_plan a_ctx a_cw a_rw a_cr a_rr a_scan row_count row_start bytes_n bytes_f pb_style pb_isWritten pb_isRead) H1 := hP.sub [1, 0, 2] rfl
    have hD : va_D A (wd_row_bytes_pb cI a_row a_bytes a_pb a_fld a_plan a_ctx a_cw a_rw a_cr a_rr a_scan row_count row_start bytes_n bytes_f pb_style pb_isWritten pb_isRead) := hD.sub [1, 0, 2] (by decide) rfl
    generalize H1 = H at hP hS ⊢
    exact absurd hg.symm hk
  · rw [if_neg cq] at hg
    have hPc := hP.sub (ws' := (wd_row_pb a_row a_bytes a_pb a_fld a_plan a_ctx a_cw a_rw a_cr a_rr a_scan row_count row_start pb_style pb_isWritten pb_isRead)) [0, 2] rfl
    have hDc := hD.sub (ws' := (wd_row_pb a_row a_bytes a_pb a_fld a_plan a_ctx a_cw a_rw a_cr a_rr a_scan row_count row_start pb_style pb_isWritten pb_isRead)) [0, 2] (by decide) rfl
    have hFc := va_free (wc := (wd_row_pb a_row a_bytes a_pb a_fld a_plan a_ctx a_cw a_rw a_cr a_rr a_scan row_count row_start pb_style pb_isWritten pb_isRead)) hD hS hA [0, 2] rfl
    refine vx_callv (vx_runV (As := [.int p1]) (rest := []) ⟨hx, hb, hml, hown, hts⟩ (cx_X10_needByte l hl0 dC dI cI cJ cZ a_row a_bytes a_pb a_fld a_plan a_ctx a_cw a_rw a_cr a_rr a_scan H.size row_count row_start pb_style pb_isWritten pb_isRead p1 k hk hg) (cwV 1 hts gX10_change_X10_needByte rfl rfl rfl (by decide +kernel) ⟨Nat.le_of_ble_eq_true rfl, Nat.le_of_ble_eq_true rfl⟩) ⟨fun a U g mk q => by obtain ⟨q0, q1, qP, qK, qD, qZ⟩ := q; exact ⟨q0, q1, qP, va_K.moved (u := U) (U := U.calling g mk a) (Vm.Alike.refl U.vm) qK, qD, Zt.same (u := U) (U := U.calling g mk a) rfl qZ⟩, va_recv hK hPc (ci := 9) (q0 := 1) rfl rfl, fun U hU hW => ⟨rfl, by rw [hU], by rw [hU]; exact hPc, va_K.moved hW.alike hK, hDc.weaken (fun _ _ _ _ => trivial), by rw [hU]; exact ((hZ.kept hS.2.1).narrow hFc).warm hW⟩⟩ rfl rfl hl.1 rfl (lv_room (Nat.le_of_ble_eq_true rfl)) dX10_change_2 ⟨Nat.le_of_ble_eq_true rfl, Nat.le_of_ble_eq_true rfl⟩) hS (fun q _ h => hFc q h) hFc (fun q _ h => hFc q h) (fun E ce q9 u t H1 locs ht hvm hp hB hz1 hk1 hS hce hcv hcl => ?_) (fun u t H1 locs ht hvm hp hB hz1 hk1 hS => hp.elim)
    obtain ⟨hE, hP1, hK1, hD1⟩ := hB
    rw [ht] at hP1
    obtain ⟨hP, hD⟩ := va_join (wr := [(a_bytes, .inl (cI, bytes_n, .inl bytes_f))]) (w1 := (wd_row_pb a_row a_bytes a_pb a_fld a_plan a_ctx a_cw a_rw a_cr a_rr a_scan row_count row_start pb_style pb_isWritten pb_isRead)) hP hD [0, 2] [1] rfl rfl (by decide) (by decide) hk1 hFc hP1 hD1
    have hP : va_P (dC, dI) vwCl (wd_row_bytes_pb cI a_row a_bytes a_pb a_fld a_plan a_ctx a_cw a_rw a_cr a_rr a_scan row_count row_start bytes_n bytes_f pb_style pb_isWritten pb_isRead) H1 := hP.sub [1, 0, 2] rfl
    have hD : va_D A (wd_row_bytes_pb cI a_row a_bytes a_pb a_fld a_plan a_ctx a_cw a_rw a_cr a_rr a_scan row_count row_start bytes_n bytes_f pb_style pb_isWritten pb_isRead) := hD.sub [1, 0, 2] (by decide) rfl
    rw [← hQe]
    exact vx_out (E := E) (fun x h9 => (hout x h9).elim) hlocks hce hcv hcl (fun t ht hW => ⟨(), trivial, ⟨hE, by rw [ht]; exact hP, va_K.moved hW hK, hD⟩, hS.F ht⟩) hS.2.2 (Nat.le_of_ble_eq_true rfl) (Nat.le_of_ble_eq_true rfl)
abbrev rmx_X10_value : Room := { frames := 8, cells := 1, slots := 6, locals := 132 }
def TX_X10_value (p1 : Int32) (p2 : Int32) (fld_wide : Int32) (fld_high : Int32) (pb_isRead : Int32) : Nat := if TX_X10_needReadAt p1 p2 fld_wide fld_high pb_isRead = 0 then 0 else TX_X10_needReadAt p1 p2 fld_wide fld_high pb_isRead
theorem cx_X10_value (l : Launch) (hl0 : l.stackTraces = false) (dC : Nat → ClassId) (dI : Nat → Nat → Nat) (cI cJ cZ : ClassId) (a_fld : Nat) (a_coef : Nat) (a_mags : Nat) (a_marks : Nat) (a_pb : Nat) (a_plan : Nat) (a_row : Nat) (a_ctx : Nat) (a_cw : Nat) (a_rw : Nat) (a_cr : Nat) (a_rr : Nat) (a_scan : Nat) (sz : Nat) (fld_wide : Int32) (fld_high : Int32) (fld_band : Int32) (fld_causal : Int32) (mags_n : Nat) (mags_f : Nat → Int32) (marks_n : Nat) (marks_f : Nat → Int32) (pb_style : Int32) (pb_isWritten : Int32) (pb_isRead : Int32) (p1 : Int32) (p2 : Int32) (k : Nat) (hk : k ≠ 0) (hT : TX_X10_value p1 p2 fld_wide fld_high pb_isRead = k) : vx_Met l yX10_value wsX10_value rmx_X10_value (va_Pc [.ref a_pb, .int p1, .int p2] (fun U => U.heap.size = sz ∧ va_P (dC, dI) vwCl (wd_fld_mags_marks_pb cI a_fld a_coef a_mags a_marks a_pb a_plan a_row a_ctx a_cw a_rw a_cr a_rr a_scan fld_wide fld_high fld_band fld_causal mags_n mags_f marks_n marks_f pb_style pb_isWritten pb_isRead) U.heap ∧ va_K (dC, dI) vwCl [(cI, .int), (cJ, .long), (cZ, .boolean)] U ∧ va_D (fun _ => True) (wd_fld_mags_marks_pb cI a_fld a_coef a_mags a_marks a_pb a_plan a_row a_ctx a_cw a_rw a_cr a_rr a_scan fld_wide fld_high fld_band fld_causal mags_n mags_f marks_n marks_f pb_style pb_isWritten pb_isRead) ∧ Zt (va_A (wd_fld_mags_marks_pb cI a_fld a_coef a_mags a_marks a_pb a_plan a_row a_ctx a_cw a_rw a_cr a_rr a_scan fld_wide fld_high fld_band fld_causal mags_n mags_f marks_n marks_f pb_style pb_isWritten pb_isRead) sz) U U.heap)) (va_Qi (fun (_ : Int32) (_ : Unit) => False) (fun _ _ => True) (va_A (wd_fld_mags_marks_pb cI a_fld a_coef a_mags a_marks a_pb a_plan a_row a_ctx a_cw a_rw a_cr a_rr a_scan fld_wide fld_high fld_band fld_causal mags_n mags_f marks_n marks_f pb_style pb_isWritten pb_isRead) sz)) (vx_X (fun _ : Unit => True) (fun E _ t => E = exN k ∧ va_P (dC, dI) vwCl (wd_fld_mags_marks_pb cI a_fld a_coef a_mags a_marks a_pb a_plan a_row a_ctx a_cw a_rw a_cr a_rr a_scan fld_wide fld_high fld_band fld_causal mags_n mags_f marks_n marks_f pb_style pb_isWritten pb_isRead) t.heap ∧ va_K (dC, dI) vwCl [(cI, .int), (cJ, .long), (cZ, .boolean)] t ∧ va_D (va_A (wd_fld_mags_marks_pb cI a_fld a_coef a_mags a_marks a_pb a_plan a_row a_ctx a_cw a_rw a_cr a_rr a_scan fld_wide fld_high fld_band fld_causal mags_n mags_f marks_n marks_f pb_style pb_isWritten pb_isRead) sz) (wd_fld_mags_marks_pb cI a_fld a_coef a_mags a_marks a_pb a_plan a_row a_ctx a_cw a_rw a_cr a_rr a_scan fld_wide fld_high fld_band fld_causal mags_n mags_f marks_n marks_f pb_style pb_isWritten pb_isRead)) (va_A (wd_fld_mags_marks_pb cI a_fld a_coef a_mags a_marks a_pb a_plan a_row a_ctx a_cw a_rw a_cr a_rr a_scan fld_wide fld_high fld_band fld_causal mags_n mags_f marks_n marks_f pb_style pb_isWritten pb_isRead) sz)) 1 6 (va_A (wd_fld_mags_marks_pb cI a_fld a_coef a_mags a_marks a_pb a_plan a_row a_ctx a_cw a_rw a_cr a_rr a_scan fld_wide fld_high fld_band fld_causal mags_n mags_f marks_n marks_f pb_style pb_isWritten pb_isRead) sz) := by
  refine vx_ofW (cc := cX10_value) (maxL := 3) (ret := (some .int)) (by decide) rfl ?_
  intro p e s m args below meth c s₁ B hml hout hv
  obtain ⟨rfl, hsz, hP, hK, hD0, hZ⟩ := hv
  have hx := B.exec
  have hb := B.bytes
  have hr := B.returns
  have hts := atoms_spec (ws := wsX10_value) B.pre
  have hown : s.vm.findClass RX10 = some m.cls := findClass_of_methodNamed B.named
  have hlocks := B.notSynchronized
  subst hsz
  have hD := hD0.self (sz := s.heap.size)
  generalize hAe : va_A (wd_fld_mags_marks_pb cI a_fld a_coef a_mags a_marks a_pb a_plan a_row a_ctx a_cw a_rw a_cr a_rr a_scan fld_wide fld_high fld_band fld_causal mags_n mags_f marks_n marks_f pb_style pb_isWritten pb_isRead) s.heap.size = A at hD hZ ⊢
  have hA : ∀ q : Nat, s.heap.size ≤ q → A q := fun q h => by rw [← hAe]; exact Or.inr h
  have hS : va_S A s.heap s.heap [] := va_S.rf
  obtain ⟨H, hH⟩ : ∃ z, z = s.heap := ⟨_, rfl⟩
  have hP : va_P (dC, dI) vwCl (wd_fld_mags_marks_pb cI a_fld a_coef a_mags a_marks a_pb a_plan a_row a_ctx a_cw a_rw a_cr a_rr a_scan fld_wide fld_high fld_band fld_causal mags_n mags_f marks_n marks_f pb_style pb_isWritten pb_isRead) H := by rw [hH]; exact hP
  have hS : va_S A s.heap H [] := by rw [hH]; exact va_S.rf
  generalize hQe : vx_MQ below (va_Qi (fun (_ : Int32) (_ : Unit) => False) (fun _ _ => True) A) (vx_X (fun _ : Unit => True) (fun E _ t => E = exN k ∧ va_P (dC, dI) vwCl (wd_fld_mags_marks_pb cI a_fld a_coef a_mags a_marks a_pb a_plan a_row a_ctx a_cw a_rw a_cr a_rr a_scan fld_wide fld_high fld_band fld_causal mags_n mags_f marks_n marks_f pb_style pb_isWritten pb_isRead) t.heap ∧ va_K (dC, dI) vwCl [(cI, .int), (cJ, .long), (cZ, .boolean)] t ∧ va_D A (wd_fld_mags_marks_pb cI a_fld a_coef a_mags a_marks a_pb a_plan a_row a_ctx a_cw a_rw a_cr a_rr a_scan fld_wide fld_high fld_band fld_causal mags_n mags_f marks_n marks_f pb_style pb_isWritten pb_isRead)) A) _ s 1 6 A = Q
  rw [← hH]
  clear hH
  have hl := lv_entry ([.ref a_pb, .int p1, .int p2]) (n := 3) (Nat.le_of_ble_eq_true rfl)
  rw [lg_entry_eq]
  generalize (lg_sl ([.ref a_pb, .int p1, .int p2]) ++ List.replicate (3 - (lg_sl ([.ref a_pb, .int p1, .int p2])).length) Slot.unset).toArray = ls at hl ⊢
  have hl : lv_has ls 3 [(0, .ref a_pb), (1, .int p1), (2, .int p2)] := hl
  have hg := hT
  unfold TX_X10_value at hg
  refine lv_aload_n hx hb dX10_value_0 rfl (lv_at hl 0 rfl) ?_
  refine lv_iload_n hx hb dX10_value_1 rfl (lv_at hl 1 rfl) ?_
  refine lv_iload_n hx hb dX10_value_2 rfl (lv_at hl 2 rfl) ?_
  by_cases cq : TX_X10_needReadAt p1 p2 fld_wide fld_high pb_isRead = 0
  · rw [if_pos cq] at hg
    have hpre := tp_X10_needReadAt cq
    have hPc := hP.sub (ws' := (wd_fld_pb a_fld a_coef a_mags a_marks a_pb a_plan a_row a_ctx a_cw a_rw a_cr a_rr a_scan fld_wide fld_high fld_band fld_causal pb_style pb_isWritten pb_isRead)) [0, 3] rfl
    have hDc := hD.sub (ws' := (wd_fld_pb a_fld a_coef a_mags a_marks a_pb a_plan a_row a_ctx a_cw a_rw a_cr a_rr a_scan fld_wide fld_high fld_band fld_causal pb_style pb_isWritten pb_isRead)) [0, 3] (by decide) rfl
    have hFc := va_free (wc := (wd_fld_pb a_fld a_coef a_mags a_marks a_pb a_plan a_row a_ctx a_cw a_rw a_cr a_rr a_scan fld_wide fld_high fld_band fld_causal pb_style pb_isWritten pb_isRead)) hD hS hA [0, 3] rfl
    refine va_callv (va_runV (As := [.int p1, .int p2]) (rest := []) ⟨hx, hb, hml, hown, hts⟩ (c_X10_needReadAt l dC dI cI cJ cZ a_fld a_coef a_mags a_marks a_pb a_plan a_row a_ctx a_cw a_rw a_cr a_rr a_scan H.size fld_wide fld_high fld_band fld_causal pb_style pb_isWritten pb_isRead p1 p2 hpre) (cwV 2 hts gX10_value_X10_needReadAt rfl rfl rfl (by decide +kernel) ⟨Nat.le_of_ble_eq_true rfl, Nat.le_of_ble_eq_true rfl⟩) ⟨fun a U g mk q => by obtain ⟨q0, q1, qP, qK, qD⟩ := q; exact ⟨q0, q1, qP, va_K.moved (u := U) (U := U.calling g mk a) (Vm.Alike.refl U.vm) qK, qD⟩, va_recv hK hPc (ci := 9) (q0 := 1) rfl rfl, fun U hU hW => ⟨rfl, by rw [hU], by rw [hU]; exact hPc, va_K.moved hW.alike hK, hDc.weaken (fun _ _ _ _ => trivial)⟩⟩ rfl rfl hl.1 rfl (lv_room (Nat.le_of_ble_eq_true rfl)) dX10_value_3 ⟨Nat.le_of_ble_eq_true rfl, Nat.le_of_ble_eq_true rfl⟩) hS (fun q _ h => hFc q h) hFc (fun u t H1 locs ht hvm hw hB hz1 hk1 hS => ?_)
    obtain ⟨hP1, hK1, hD1⟩ := hB
    rw [ht] at hP1
    obtain ⟨hP, hD⟩ := va_join (wr := [(a_mags, .inl (cI, mags_n, .inl mags_f)), (a_marks, .inl (cI, marks_n, .inl marks_f))]) (w1 := (wd_fld_pb a_fld a_coef a_mags a_marks a_pb a_plan a_row a_ctx a_cw a_rw a_cr a_rr a_scan fld_wide fld_high fld_band fld_causal pb_style pb_isWritten pb_isRead)) hP hD [0, 3] [1, 2] rfl rfl (by decide) (by decide) hk1 hFc hP1 hD1
    have hP : va_P (dC, dI) vwCl (wd_fld_mags_marks_pb cI a_fld a_coef a_mags a_marks a_pb a_plan a_row a_ctx a_cw a_rw a_cr a_rr a_scan fld_wide fld_high fld_band fld_causal mags_n mags_f marks_n marks_f pb_style pb_isWritten pb_isRead) H1 := hP.sub [2, 0, 1, 3] rfl
    have hD : va_D A (wd_fld_mags_marks_pb cI a_fld a_coef a_mags a_marks a_pb a_plan a_row a_ctx a_cw a_rw a_cr a_rr a_scan fld_wide fld_high fld_band fld_causal mags_n mags_f marks_n marks_f pb_style pb_isWritten pb_isRead) := hD.sub [2, 0, 1, 3] (by decide) rfl
    generalize H1 = H at hP hS ⊢
    exact absurd hg.symm hk
  · rw [if_neg cq] at hg
    have hPc := hP.sub (ws' := (wd_fld_pb a_fld a_coef a_mags a_marks a_pb a_plan a_row a_ctx a_cw a_rw a_cr a_rr a_scan fld_wide fld_high fld_band fld_causal pb_style pb_isWritten pb_isRead)) [0, 3] rfl
    have hDc := hD.sub (ws' := (wd_fld_pb a_fld a_coef a_mags a_marks a_pb a_plan a_row a_ctx a_cw a_rw a_cr a_rr a_scan fld_wide fld_high fld_band fld_causal pb_style pb_isWritten pb_isRead)) [0, 3] (by decide) rfl
    have hFc := va_free (wc := (wd_fld_pb a_fld a_coef a_mags a_marks a_pb a_plan a_row a_ctx a_cw a_rw a_cr a_rr a_scan fld_wide fld_high fld_band fld_causal pb_style pb_isWritten pb_isRead)) hD hS hA [0, 3] rfl
    refine vx_callv (vx_runV (As := [.int p1, .int p2]) (rest := []) ⟨hx, hb, hml, hown, hts⟩ (cx_X10_needReadAt l hl0 dC dI cI cJ cZ a_fld a_coef a_mags a_marks a_pb a_plan a_row a_ctx a_cw a_rw a_cr a_rr a_scan H.size fld_wide fld_high fld_band fld_causal pb_style pb_isWritten pb_isRead p1 p2 k hk hg) (cwV 2 hts gX10_value_X10_needReadAt rfl rfl rfl (by decide +kernel) ⟨Nat.le_of_ble_eq_true rfl, Nat.le_of_ble_eq_true rfl⟩) ⟨fun a U g mk q => by obtain ⟨q0, q1, qP, qK, qD, qZ⟩ := q; exact ⟨q0, q1, qP, va_K.moved (u := U) (U := U.calling g mk a) (Vm.Alike.refl U.vm) qK, qD, Zt.same (u := U) (U := U.calling g mk a) rfl qZ⟩, va_recv hK hPc (ci := 9) (q0 := 1) rfl rfl, fun U hU hW => ⟨rfl, by rw [hU], by rw [hU]; exact hPc, va_K.moved hW.alike hK, hDc.weaken (fun _ _ _ _ => trivial), by rw [hU]; exact ((hZ.kept hS.2.1).narrow hFc).warm hW⟩⟩ rfl rfl hl.1 rfl (lv_room (Nat.le_of_ble_eq_true rfl)) dX10_value_3 ⟨Nat.le_of_ble_eq_true rfl, Nat.le_of_ble_eq_true rfl⟩) hS (fun q _ h => hFc q h) hFc (fun q _ h => hFc q h) (fun E ce q9 u t H1 locs ht hvm hp hB hz1 hk1 hS hce hcv hcl => ?_) (fun u t H1 locs ht hvm hp hB hz1 hk1 hS => hp.elim)
    obtain ⟨hE, hP1, hK1, hD1⟩ := hB
    rw [ht] at hP1
    obtain ⟨hP, hD⟩ := va_join (wr := [(a_mags, .inl (cI, mags_n, .inl mags_f)), (a_marks, .inl (cI, marks_n, .inl marks_f))]) (w1 := (wd_fld_pb a_fld a_coef a_mags a_marks a_pb a_plan a_row a_ctx a_cw a_rw a_cr a_rr a_scan fld_wide fld_high fld_band fld_causal pb_style pb_isWritten pb_isRead)) hP hD [0, 3] [1, 2] rfl rfl (by decide) (by decide) hk1 hFc hP1 hD1
    have hP : va_P (dC, dI) vwCl (wd_fld_mags_marks_pb cI a_fld a_coef a_mags a_marks a_pb a_plan a_row a_ctx a_cw a_rw a_cr a_rr a_scan fld_wide fld_high fld_band fld_causal mags_n mags_f marks_n marks_f pb_style pb_isWritten pb_isRead) H1 := hP.sub [2, 0, 1, 3] rfl
    have hD : va_D A (wd_fld_mags_marks_pb cI a_fld a_coef a_mags a_marks a_pb a_plan a_row a_ctx a_cw a_rw a_cr a_rr a_scan fld_wide fld_high fld_band fld_causal mags_n mags_f marks_n marks_f pb_style pb_isWritten pb_isRead) := hD.sub [2, 0, 1, 3] (by decide) rfl
    rw [← hQe]
    exact vx_out (E := E) (fun x h9 => (hout x h9).elim) hlocks hce hcv hcl (fun t ht hW => ⟨(), trivial, ⟨hE, by rw [ht]; exact hP, va_K.moved hW hK, hD⟩, hS.F ht⟩) hS.2.2 (Nat.le_of_ble_eq_true rfl) (Nat.le_of_ble_eq_true rfl)
abbrev rmx_X10_known : Room := { frames := 8, cells := 1, slots := 6, locals := 132 }
def TX_X10_known (p1 : Int32) (p2 : Int32) (fld_wide : Int32) (fld_high : Int32) (pb_isRead : Int32) : Nat := if TX_X10_needReadAt p1 p2 fld_wide fld_high pb_isRead = 0 then 0 else TX_X10_needReadAt p1 p2 fld_wide fld_high pb_isRead
theorem cx_X10_known (l : Launch) (hl0 : l.stackTraces = false) (dC : Nat → ClassId) (dI : Nat → Nat → Nat) (cI cJ cZ : ClassId) (a_fld : Nat) (a_coef : Nat) (a_mags : Nat) (a_marks : Nat) (a_pb : Nat) (a_plan : Nat) (a_row : Nat) (a_ctx : Nat) (a_cw : Nat) (a_rw : Nat) (a_cr : Nat) (a_rr : Nat) (a_scan : Nat) (sz : Nat) (fld_wide : Int32) (fld_high : Int32) (fld_band : Int32) (fld_causal : Int32) (mags_n : Nat) (mags_f : Nat → Int32) (pb_style : Int32) (pb_isWritten : Int32) (pb_isRead : Int32) (p1 : Int32) (p2 : Int32) (k : Nat) (hk : k ≠ 0) (hT : TX_X10_known p1 p2 fld_wide fld_high pb_isRead = k) : vx_Met l yX10_known wsX10_known rmx_X10_known (va_Pc [.ref a_pb, .int p1, .int p2] (fun U => U.heap.size = sz ∧ va_P (dC, dI) vwCl (wd_fld_mags_pb cI a_fld a_coef a_mags a_marks a_pb a_plan a_row a_ctx a_cw a_rw a_cr a_rr a_scan fld_wide fld_high fld_band fld_causal mags_n mags_f pb_style pb_isWritten pb_isRead) U.heap ∧ va_K (dC, dI) vwCl [(cI, .int), (cJ, .long), (cZ, .boolean)] U ∧ va_D (fun _ => True) (wd_fld_mags_pb cI a_fld a_coef a_mags a_marks a_pb a_plan a_row a_ctx a_cw a_rw a_cr a_rr a_scan fld_wide fld_high fld_band fld_causal mags_n mags_f pb_style pb_isWritten pb_isRead) ∧ Zt (va_A (wd_fld_mags_pb cI a_fld a_coef a_mags a_marks a_pb a_plan a_row a_ctx a_cw a_rw a_cr a_rr a_scan fld_wide fld_high fld_band fld_causal mags_n mags_f pb_style pb_isWritten pb_isRead) sz) U U.heap)) (va_Qi (fun (_ : Int32) (_ : Unit) => False) (fun _ _ => True) (va_A (wd_fld_mags_pb cI a_fld a_coef a_mags a_marks a_pb a_plan a_row a_ctx a_cw a_rw a_cr a_rr a_scan fld_wide fld_high fld_band fld_causal mags_n mags_f pb_style pb_isWritten pb_isRead) sz)) (vx_X (fun _ : Unit => True) (fun E _ t => E = exN k ∧ va_P (dC, dI) vwCl (wd_fld_mags_pb cI a_fld a_coef a_mags a_marks a_pb a_plan a_row a_ctx a_cw a_rw a_cr a_rr a_scan fld_wide fld_high fld_band fld_causal mags_n mags_f pb_style pb_isWritten pb_isRead) t.heap ∧ va_K (dC, dI) vwCl [(cI, .int), (cJ, .long), (cZ, .boolean)] t ∧ va_D (va_A (wd_fld_mags_pb cI a_fld a_coef a_mags a_marks a_pb a_plan a_row a_ctx a_cw a_rw a_cr a_rr a_scan fld_wide fld_high fld_band fld_causal mags_n mags_f pb_style pb_isWritten pb_isRead) sz) (wd_fld_mags_pb cI a_fld a_coef a_mags a_marks a_pb a_plan a_row a_ctx a_cw a_rw a_cr a_rr a_scan fld_wide fld_high fld_band fld_causal mags_n mags_f pb_style pb_isWritten pb_isRead)) (va_A (wd_fld_mags_pb cI a_fld a_coef a_mags a_marks a_pb a_plan a_row a_ctx a_cw a_rw a_cr a_rr a_scan fld_wide fld_high fld_band fld_causal mags_n mags_f pb_style pb_isWritten pb_isRead) sz)) 1 6 (va_A (wd_fld_mags_pb cI a_fld a_coef a_mags a_marks a_pb a_plan a_row a_ctx a_cw a_rw a_cr a_rr a_scan fld_wide fld_high fld_band fld_causal mags_n mags_f pb_style pb_isWritten pb_isRead) sz) := by
  refine vx_ofW (cc := cX10_known) (maxL := 3) (ret := (some .int)) (by decide) rfl ?_
  intro p e s m args below meth c s₁ B hml hout hv
  obtain ⟨rfl, hsz, hP, hK, hD0, hZ⟩ := hv
  have hx := B.exec
  have hb := B.bytes
  have hr := B.returns
  have hts := atoms_spec (ws := wsX10_known) B.pre
  have hown : s.vm.findClass RX10 = some m.cls := findClass_of_methodNamed B.named
  have hlocks := B.notSynchronized
  subst hsz
  have hD := hD0.self (sz := s.heap.size)
  generalize hAe : va_A (wd_fld_mags_pb cI a_fld a_coef a_mags a_marks a_pb a_plan a_row a_ctx a_cw a_rw a_cr a_rr a_scan fld_wide fld_high fld_band fld_causal mags_n mags_f pb_style pb_isWritten pb_isRead) s.heap.size = A at hD hZ ⊢
  have hA : ∀ q : Nat, s.heap.size ≤ q → A q := fun q h => by rw [← hAe]; exact Or.inr h
  have hS : va_S A s.heap s.heap [] := va_S.rf
  obtain ⟨H, hH⟩ : ∃ z, z = s.heap := ⟨_, rfl⟩
  have hP : va_P (dC, dI) vwCl (wd_fld_mags_pb cI a_fld a_coef a_mags a_marks a_pb a_plan a_row a_ctx a_cw a_rw a_cr a_rr a_scan fld_wide fld_high fld_band fld_causal mags_n mags_f pb_style pb_isWritten pb_isRead) H := by rw [hH]; exact hP
  have hS : va_S A s.heap H [] := by rw [hH]; exact va_S.rf
  generalize hQe : vx_MQ below (va_Qi (fun (_ : Int32) (_ : Unit) => False) (fun _ _ => True) A) (vx_X (fun _ : Unit => True) (fun E _ t => E = exN k ∧ va_P (dC, dI) vwCl (wd_fld_mags_pb cI a_fld a_coef a_mags a_marks a_pb a_plan a_row a_ctx a_cw a_rw a_cr a_rr a_scan fld_wide fld_high fld_band fld_causal mags_n mags_f pb_style pb_isWritten pb_isRead) t.heap ∧ va_K (dC, dI) vwCl [(cI, .int), (cJ, .long), (cZ, .boolean)] t ∧ va_D A (wd_fld_mags_pb cI a_fld a_coef a_mags a_marks a_pb a_plan a_row a_ctx a_cw a_rw a_cr a_rr a_scan fld_wide fld_high fld_band fld_causal mags_n mags_f pb_style pb_isWritten pb_isRead)) A) _ s 1 6 A = Q
  rw [← hH]
  clear hH
  have hl := lv_entry ([.ref a_pb, .int p1, .int p2]) (n := 3) (Nat.le_of_ble_eq_true rfl)
  rw [lg_entry_eq]
  generalize (lg_sl ([.ref a_pb, .int p1, .int p2]) ++ List.replicate (3 - (lg_sl ([.ref a_pb, .int p1, .int p2])).length) Slot.unset).toArray = ls at hl ⊢
  have hl : lv_has ls 3 [(0, .ref a_pb), (1, .int p1), (2, .int p2)] := hl
  have hg := hT
  unfold TX_X10_known at hg
  refine lv_aload_n hx hb dX10_known_0 rfl (lv_at hl 0 rfl) ?_
  refine lv_iload_n hx hb dX10_known_1 rfl (lv_at hl 1 rfl) ?_
  refine lv_iload_n hx hb dX10_known_2 rfl (lv_at hl 2 rfl) ?_
  by_cases cq : TX_X10_needReadAt p1 p2 fld_wide fld_high pb_isRead = 0
  · rw [if_pos cq] at hg
    have hpre := tp_X10_needReadAt cq
    have hPc := hP.sub (ws' := (wd_fld_pb a_fld a_coef a_mags a_marks a_pb a_plan a_row a_ctx a_cw a_rw a_cr a_rr a_scan fld_wide fld_high fld_band fld_causal pb_style pb_isWritten pb_isRead)) [0, 2] rfl
    have hDc := hD.sub (ws' := (wd_fld_pb a_fld a_coef a_mags a_marks a_pb a_plan a_row a_ctx a_cw a_rw a_cr a_rr a_scan fld_wide fld_high fld_band fld_causal pb_style pb_isWritten pb_isRead)) [0, 2] (by decide) rfl
    have hFc := va_free (wc := (wd_fld_pb a_fld a_coef a_mags a_marks a_pb a_plan a_row a_ctx a_cw a_rw a_cr a_rr a_scan fld_wide fld_high fld_band fld_causal pb_style pb_isWritten pb_isRead)) hD hS hA [0, 2] rfl
    refine va_callv (va_runV (As := [.int p1, .int p2]) (rest := []) ⟨hx, hb, hml, hown, hts⟩ (c_X10_needReadAt l dC dI cI cJ cZ a_fld a_coef a_mags a_marks a_pb a_plan a_row a_ctx a_cw a_rw a_cr a_rr a_scan H.size fld_wide fld_high fld_band fld_causal pb_style pb_isWritten pb_isRead p1 p2 hpre) (cwV 2 hts gX10_known_X10_needReadAt rfl rfl rfl (by decide +kernel) ⟨Nat.le_of_ble_eq_true rfl, Nat.le_of_ble_eq_true rfl⟩) ⟨fun a U g mk q => by obtain ⟨q0, q1, qP, qK, qD⟩ := q; exact ⟨q0, q1, qP, va_K.moved (u := U) (U := U.calling g mk a) (Vm.Alike.refl U.vm) qK, qD⟩, va_recv hK hPc (ci := 9) (q0 := 1) rfl rfl, fun U hU hW => ⟨rfl, by rw [hU], by rw [hU]; exact hPc, va_K.moved hW.alike hK, hDc.weaken (fun _ _ _ _ => trivial)⟩⟩ rfl rfl hl.1 rfl (lv_room (Nat.le_of_ble_eq_true rfl)) dX10_known_3 ⟨Nat.le_of_ble_eq_true rfl, Nat.le_of_ble_eq_true rfl⟩) hS (fun q _ h => hFc q h) hFc (fun u t H1 locs ht hvm hw hB hz1 hk1 hS => ?_)
    obtain ⟨hP1, hK1, hD1⟩ := hB
    rw [ht] at hP1
    obtain ⟨hP, hD⟩ := va_join (wr := [(a_mags, .inl (cI, mags_n, .inl mags_f))]) (w1 := (wd_fld_pb a_fld a_coef a_mags a_marks a_pb a_plan a_row a_ctx a_cw a_rw a_cr a_rr a_scan fld_wide fld_high fld_band fld_causal pb_style pb_isWritten pb_isRead)) hP hD [0, 2] [1] rfl rfl (by decide) (by decide) hk1 hFc hP1 hD1
    have hP : va_P (dC, dI) vwCl (wd_fld_mags_pb cI a_fld a_coef a_mags a_marks a_pb a_plan a_row a_ctx a_cw a_rw a_cr a_rr a_scan fld_wide fld_high fld_band fld_causal mags_n mags_f pb_style pb_isWritten pb_isRead) H1 := hP.sub [1, 0, 2] rfl
    have hD : va_D A (wd_fld_mags_pb cI a_fld a_coef a_mags a_marks a_pb a_plan a_row a_ctx a_cw a_rw a_cr a_rr a_scan fld_wide fld_high fld_band fld_causal mags_n mags_f pb_style pb_isWritten pb_isRead) := hD.sub [1, 0, 2] (by decide) rfl
    generalize H1 = H at hP hS ⊢
    exact absurd hg.symm hk
  · rw [if_neg cq] at hg
    have hPc := hP.sub (ws' := (wd_fld_pb a_fld a_coef a_mags a_marks a_pb a_plan a_row a_ctx a_cw a_rw a_cr a_rr a_scan fld_wide fld_high fld_band fld_causal pb_style pb_isWritten pb_isRead)) [0, 2] rfl
    have hDc := hD.sub (ws' := (wd_fld_pb a_fld a_coef a_mags a_marks a_pb a_plan a_row a_ctx a_cw a_rw a_cr a_rr a_scan fld_wide fld_high fld_band fld_causal pb_style pb_isWritten pb_isRead)) [0, 2] (by decide) rfl
    have hFc := va_free (wc := (wd_fld_pb a_fld a_coef a_mags a_marks a_pb a_plan a_row a_ctx a_cw a_rw a_cr a_rr a_scan fld_wide fld_high fld_band fld_causal pb_style pb_isWritten pb_isRead)) hD hS hA [0, 2] rfl
    refine vx_callv (vx_runV (As := [.int p1, .int p2]) (rest := []) ⟨hx, hb, hml, hown, hts⟩ (cx_X10_needReadAt l hl0 dC dI cI cJ cZ a_fld a_coef a_mags a_marks a_pb a_plan a_row a_ctx a_cw a_rw a_cr a_rr a_scan H.size fld_wide fld_high fld_band fld_causal pb_style pb_isWritten pb_isRead p1 p2 k hk hg) (cwV 2 hts gX10_known_X10_needReadAt rfl rfl rfl (by decide +kernel) ⟨Nat.le_of_ble_eq_true rfl, Nat.le_of_ble_eq_true rfl⟩) ⟨fun a U g mk q => by obtain ⟨q0, q1, qP, qK, qD, qZ⟩ := q; exact ⟨q0, q1, qP, va_K.moved (u := U) (U := U.calling g mk a) (Vm.Alike.refl U.vm) qK, qD, Zt.same (u := U) (U := U.calling g mk a) rfl qZ⟩, va_recv hK hPc (ci := 9) (q0 := 1) rfl rfl, fun U hU hW => ⟨rfl, by rw [hU], by rw [hU]; exact hPc, va_K.moved hW.alike hK, hDc.weaken (fun _ _ _ _ => trivial), by rw [hU]; exact ((hZ.kept hS.2.1).narrow hFc).warm hW⟩⟩ rfl rfl hl.1 rfl (lv_room (Nat.le_of_ble_eq_true rfl)) dX10_known_3 ⟨Nat.le_of_ble_eq_true rfl, Nat.le_of_ble_eq_true rfl⟩) hS (fun q _ h => hFc q h) hFc (fun q _ h => hFc q h) (fun E ce q9 u t H1 locs ht hvm hp hB hz1 hk1 hS hce hcv hcl => ?_) (fun u t H1 locs ht hvm hp hB hz1 hk1 hS => hp.elim)
    obtain ⟨hE, hP1, hK1, hD1⟩ := hB
    rw [ht] at hP1
    obtain ⟨hP, hD⟩ := va_join (wr := [(a_mags, .inl (cI, mags_n, .inl mags_f))]) (w1 := (wd_fld_pb a_fld a_coef a_mags a_marks a_pb a_plan a_row a_ctx a_cw a_rw a_cr a_rr a_scan fld_wide fld_high fld_band fld_causal pb_style pb_isWritten pb_isRead)) hP hD [0, 2] [1] rfl rfl (by decide) (by decide) hk1 hFc hP1 hD1
    have hP : va_P (dC, dI) vwCl (wd_fld_mags_pb cI a_fld a_coef a_mags a_marks a_pb a_plan a_row a_ctx a_cw a_rw a_cr a_rr a_scan fld_wide fld_high fld_band fld_causal mags_n mags_f pb_style pb_isWritten pb_isRead) H1 := hP.sub [1, 0, 2] rfl
    have hD : va_D A (wd_fld_mags_pb cI a_fld a_coef a_mags a_marks a_pb a_plan a_row a_ctx a_cw a_rw a_cr a_rr a_scan fld_wide fld_high fld_band fld_causal mags_n mags_f pb_style pb_isWritten pb_isRead) := hD.sub [1, 0, 2] (by decide) rfl
    rw [← hQe]
    exact vx_out (E := E) (fun x h9 => (hout x h9).elim) hlocks hce hcv hcl (fun t ht hW => ⟨(), trivial, ⟨hE, by rw [ht]; exact hP, va_K.moved hW hK, hD⟩, hS.F ht⟩) hS.2.2 (Nat.le_of_ble_eq_true rfl) (Nat.le_of_ble_eq_true rfl)
abbrev rmx_X10_sum : Room := { frames := 7, cells := 1, slots := 6, locals := 110 }
def TX_X10_sum (pb_isRead : Int32) : Nat := if TX_X10_needRead pb_isRead = 0 then 0 else TX_X10_needRead pb_isRead
theorem cx_X10_sum (l : Launch) (hl0 : l.stackTraces = false) (dC : Nat → ClassId) (dI : Nat → Nat → Nat) (cI cJ cZ : ClassId) (a_fld : Nat) (a_coef : Nat) (a_mags : Nat) (a_marks : Nat) (a_pb : Nat) (a_plan : Nat) (a_row : Nat) (a_ctx : Nat) (a_cw : Nat) (a_rw : Nat) (a_cr : Nat) (a_rr : Nat) (a_scan : Nat) (sz : Nat) (fld_wide : Int32) (fld_high : Int32) (fld_band : Int32) (fld_causal : Int32) (mags_n : Nat) (mags_f : Nat → Int32) (marks_n : Nat) (marks_f : Nat → Int32) (pb_style : Int32) (pb_isWritten : Int32) (pb_isRead : Int32) (k : Nat) (hk : k ≠ 0) (hT : TX_X10_sum pb_isRead = k) : vx_Met l yX10_sum wsX10_sum rmx_X10_sum (va_Pc [.ref a_pb] (fun U => U.heap.size = sz ∧ va_P (dC, dI) vwCl (wd_fld_mags_marks_pb cI a_fld a_coef a_mags a_marks a_pb a_plan a_row a_ctx a_cw a_rw a_cr a_rr a_scan fld_wide fld_high fld_band fld_causal mags_n mags_f marks_n marks_f pb_style pb_isWritten pb_isRead) U.heap ∧ va_K (dC, dI) vwCl [(cI, .int), (cJ, .long), (cZ, .boolean)] U ∧ va_D (fun _ => True) (wd_fld_mags_marks_pb cI a_fld a_coef a_mags a_marks a_pb a_plan a_row a_ctx a_cw a_rw a_cr a_rr a_scan fld_wide fld_high fld_band fld_causal mags_n mags_f marks_n marks_f pb_style pb_isWritten pb_isRead) ∧ Zt (va_A (wd_fld_mags_marks_pb cI a_fld a_coef a_mags a_marks a_pb a_plan a_row a_ctx a_cw a_rw a_cr a_rr a_scan fld_wide fld_high fld_band fld_causal mags_n mags_f marks_n marks_f pb_style pb_isWritten pb_isRead) sz) U U.heap)) (va_Qi (fun (_ : Int32) (_ : Unit) => False) (fun _ _ => True) (va_A (wd_fld_mags_marks_pb cI a_fld a_coef a_mags a_marks a_pb a_plan a_row a_ctx a_cw a_rw a_cr a_rr a_scan fld_wide fld_high fld_band fld_causal mags_n mags_f marks_n marks_f pb_style pb_isWritten pb_isRead) sz)) (vx_X (fun _ : Unit => True) (fun E _ t => E = exN k ∧ va_P (dC, dI) vwCl (wd_fld_mags_marks_pb cI a_fld a_coef a_mags a_marks a_pb a_plan a_row a_ctx a_cw a_rw a_cr a_rr a_scan fld_wide fld_high fld_band fld_causal mags_n mags_f marks_n marks_f pb_style pb_isWritten pb_isRead) t.heap ∧ va_K (dC, dI) vwCl [(cI, .int), (cJ, .long), (cZ, .boolean)] t ∧ va_D (va_A (wd_fld_mags_marks_pb cI a_fld a_coef a_mags a_marks a_pb a_plan a_row a_ctx a_cw a_rw a_cr a_rr a_scan fld_wide fld_high fld_band fld_causal mags_n mags_f marks_n marks_f pb_style pb_isWritten pb_isRead) sz) (wd_fld_mags_marks_pb cI a_fld a_coef a_mags a_marks a_pb a_plan a_row a_ctx a_cw a_rw a_cr a_rr a_scan fld_wide fld_high fld_band fld_causal mags_n mags_f marks_n marks_f pb_style pb_isWritten pb_isRead)) (va_A (wd_fld_mags_marks_pb cI a_fld a_coef a_mags a_marks a_pb a_plan a_row a_ctx a_cw a_rw a_cr a_rr a_scan fld_wide fld_high fld_band fld_causal mags_n mags_f marks_n marks_f pb_style pb_isWritten pb_isRead) sz)) 1 6 (va_A (wd_fld_mags_marks_pb cI a_fld a_coef a_mags a_marks a_pb a_plan a_row a_ctx a_cw a_rw a_cr a_rr a_scan fld_wide fld_high fld_band fld_causal mags_n mags_f marks_n marks_f pb_style pb_isWritten pb_isRead) sz) := by
  refine vx_ofW (cc := cX10_sum) (maxL := 3) (ret := (some .int)) (by decide) rfl ?_
  intro p e s m args below meth c s₁ B hml hout hv
  obtain ⟨rfl, hsz, hP, hK, hD0, hZ⟩ := hv
  have hx := B.exec
  have hb := B.bytes
  have hr := B.returns
  have hts := atoms_spec (ws := wsX10_sum) B.pre
  have hown : s.vm.findClass RX10 = some m.cls := findClass_of_methodNamed B.named
  have hlocks := B.notSynchronized
  subst hsz
  have hD := hD0.self (sz := s.heap.size)
  generalize hAe : va_A (wd_fld_mags_marks_pb cI a_fld a_coef a_mags a_marks a_pb a_plan a_row a_ctx a_cw a_rw a_cr a_rr a_scan fld_wide fld_high fld_band fld_causal mags_n mags_f marks_n marks_f pb_style pb_isWritten pb_isRead) s.heap.size = A at hD hZ ⊢
  have hA : ∀ q : Nat, s.heap.size ≤ q → A q := fun q h => by rw [← hAe]; exact Or.inr h
  have hS : va_S A s.heap s.heap [] := va_S.rf
  obtain ⟨H, hH⟩ : ∃ z, z = s.heap := ⟨_, rfl⟩
  have hP : va_P (dC, dI) vwCl (wd_fld_mags_marks_pb cI a_fld a_coef a_mags a_marks a_pb a_plan a_row a_ctx a_cw a_rw a_cr a_rr a_scan fld_wide fld_high fld_band fld_causal mags_n mags_f marks_n marks_f pb_style pb_isWritten pb_isRead) H := by rw [hH]; exact hP
  have hS : va_S A s.heap H [] := by rw [hH]; exact va_S.rf
  generalize hQe : vx_MQ below (va_Qi (fun (_ : Int32) (_ : Unit) => False) (fun _ _ => True) A) (vx_X (fun _ : Unit => True) (fun E _ t => E = exN k ∧ va_P (dC, dI) vwCl (wd_fld_mags_marks_pb cI a_fld a_coef a_mags a_marks a_pb a_plan a_row a_ctx a_cw a_rw a_cr a_rr a_scan fld_wide fld_high fld_band fld_causal mags_n mags_f marks_n marks_f pb_style pb_isWritten pb_isRead) t.heap ∧ va_K (dC, dI) vwCl [(cI, .int), (cJ, .long), (cZ, .boolean)] t ∧ va_D A (wd_fld_mags_marks_pb cI a_fld a_coef a_mags a_marks a_pb a_plan a_row a_ctx a_cw a_rw a_cr a_rr a_scan fld_wide fld_high fld_band fld_causal mags_n mags_f marks_n marks_f pb_style pb_isWritten pb_isRead)) A) _ s 1 6 A = Q
  rw [← hH]
  clear hH
  have hl := lv_entry ([.ref a_pb]) (n := 3) (Nat.le_of_ble_eq_true rfl)
  rw [lg_entry_eq]
  generalize (lg_sl ([.ref a_pb]) ++ List.replicate (3 - (lg_sl ([.ref a_pb])).length) Slot.unset).toArray = ls at hl ⊢
  have hl : lv_has ls 3 [(0, .ref a_pb)] := hl
  have hg := hT
  unfold TX_X10_sum at hg
  refine lv_aload_n hx hb dX10_sum_0 rfl (lv_at hl 0 rfl) ?_
  by_cases cq : TX_X10_needRead pb_isRead = 0
  · rw [if_pos cq] at hg
    have hpre := tp_X10_needRead cq
    have hPc := hP.sub (ws' := (wd_pb a_pb a_fld a_plan a_row a_ctx a_cw a_rw a_cr a_rr a_scan pb_style pb_isWritten pb_isRead)) [3] rfl
    have hDc := hD.sub (ws' := (wd_pb a_pb a_fld a_plan a_row a_ctx a_cw a_rw a_cr a_rr a_scan pb_style pb_isWritten pb_isRead)) [3] (by decide) rfl
    have hFc := va_free (wc := (wd_pb a_pb a_fld a_plan a_row a_ctx a_cw a_rw a_cr a_rr a_scan pb_style pb_isWritten pb_isRead)) hD hS hA [3] rfl
    refine va_callv (va_runV (As := []) (rest := []) ⟨hx, hb, hml, hown, hts⟩ (c_X10_needRead l dC dI cI cJ cZ a_pb a_fld a_plan a_row a_ctx a_cw a_rw a_cr a_rr a_scan H.size pb_style pb_isWritten pb_isRead hpre) (cwV 0 hts gX10_sum_X10_needRead rfl rfl rfl (by decide +kernel) ⟨Nat.le_of_ble_eq_true rfl, Nat.le_of_ble_eq_true rfl⟩) ⟨fun a U g mk q => by obtain ⟨q0, q1, qP, qK, qD⟩ := q; exact ⟨q0, q1, qP, va_K.moved (u := U) (U := U.calling g mk a) (Vm.Alike.refl U.vm) qK, qD⟩, va_recv hK hPc (ci := 9) (q0 := 0) rfl rfl, fun U hU hW => ⟨rfl, by rw [hU], by rw [hU]; exact hPc, va_K.moved hW.alike hK, hDc.weaken (fun _ _ _ _ => trivial)⟩⟩ rfl rfl hl.1 rfl (lv_room (Nat.le_of_ble_eq_true rfl)) dX10_sum_1 ⟨Nat.le_of_ble_eq_true rfl, Nat.le_of_ble_eq_true rfl⟩) hS (fun q _ h => hFc q h) hFc (fun u t H1 locs ht hvm hw hB hz1 hk1 hS => ?_)
    obtain ⟨hP1, hK1, hD1⟩ := hB
    rw [ht] at hP1
    obtain ⟨hP, hD⟩ := va_join (wr := [(a_fld, .inr (4, [.int fld_wide, .int fld_high, .ref a_coef, .ref a_mags, .ref a_marks, .int fld_band, .int fld_causal])), (a_mags, .inl (cI, mags_n, .inl mags_f)), (a_marks, .inl (cI, marks_n, .inl marks_f))]) (w1 := (wd_pb a_pb a_fld a_plan a_row a_ctx a_cw a_rw a_cr a_rr a_scan pb_style pb_isWritten pb_isRead)) hP hD [3] [0, 1, 2] rfl rfl (by decide) (by decide) hk1 hFc hP1 hD1
    have hP : va_P (dC, dI) vwCl (wd_fld_mags_marks_pb cI a_fld a_coef a_mags a_marks a_pb a_plan a_row a_ctx a_cw a_rw a_cr a_rr a_scan fld_wide fld_high fld_band fld_causal mags_n mags_f marks_n marks_f pb_style pb_isWritten pb_isRead) H1 := hP.sub [0, 1, 2, 3] rfl
    have hD : va_D A (wd_fld_mags_marks_pb cI a_fld a_coef a_mags a_marks a_pb a_plan a_row a_ctx a_cw a_rw a_cr a_rr a_scan fld_wide fld_high fld_band fld_causal mags_n mags_f marks_n marks_f pb_style pb_isWritten pb_isRead) := hD.sub [0, 1, 2, 3] (by decide) rfl
    generalize H1 = H at hP hS ⊢
    exact absurd hg.symm hk
  · rw [if_neg cq] at hg
    have hPc := hP.sub (ws' := (wd_pb a_pb a_fld a_plan a_row a_ctx a_cw a_rw a_cr a_rr a_scan pb_style pb_isWritten pb_isRead)) [3] rfl
    have hDc := hD.sub (ws' := (wd_pb a_pb a_fld a_plan a_row a_ctx a_cw a_rw a_cr a_rr a_scan pb_style pb_isWritten pb_isRead)) [3] (by decide) rfl
    have hFc := va_free (wc := (wd_pb a_pb a_fld a_plan a_row a_ctx a_cw a_rw a_cr a_rr a_scan pb_style pb_isWritten pb_isRead)) hD hS hA [3] rfl
    refine vx_callv (vx_runV (As := []) (rest := []) ⟨hx, hb, hml, hown, hts⟩ (cx_X10_needRead l hl0 dC dI cI cJ cZ a_pb a_fld a_plan a_row a_ctx a_cw a_rw a_cr a_rr a_scan H.size pb_style pb_isWritten pb_isRead k hk hg) (cwV 0 hts gX10_sum_X10_needRead rfl rfl rfl (by decide +kernel) ⟨Nat.le_of_ble_eq_true rfl, Nat.le_of_ble_eq_true rfl⟩) ⟨fun a U g mk q => by obtain ⟨q0, q1, qP, qK, qD, qZ⟩ := q; exact ⟨q0, q1, qP, va_K.moved (u := U) (U := U.calling g mk a) (Vm.Alike.refl U.vm) qK, qD, Zt.same (u := U) (U := U.calling g mk a) rfl qZ⟩, va_recv hK hPc (ci := 9) (q0 := 0) rfl rfl, fun U hU hW => ⟨rfl, by rw [hU], by rw [hU]; exact hPc, va_K.moved hW.alike hK, hDc.weaken (fun _ _ _ _ => trivial), by rw [hU]; exact ((hZ.kept hS.2.1).narrow hFc).warm hW⟩⟩ rfl rfl hl.1 rfl (lv_room (Nat.le_of_ble_eq_true rfl)) dX10_sum_1 ⟨Nat.le_of_ble_eq_true rfl, Nat.le_of_ble_eq_true rfl⟩) hS (fun q _ h => hFc q h) hFc (fun q _ h => hFc q h) (fun E ce q9 u t H1 locs ht hvm hp hB hz1 hk1 hS hce hcv hcl => ?_) (fun u t H1 locs ht hvm hp hB hz1 hk1 hS => hp.elim)
    obtain ⟨hE, hP1, hK1, hD1⟩ := hB
    rw [ht] at hP1
    obtain ⟨hP, hD⟩ := va_join (wr := [(a_fld, .inr (4, [.int fld_wide, .int fld_high, .ref a_coef, .ref a_mags, .ref a_marks, .int fld_band, .int fld_causal])), (a_mags, .inl (cI, mags_n, .inl mags_f)), (a_marks, .inl (cI, marks_n, .inl marks_f))]) (w1 := (wd_pb a_pb a_fld a_plan a_row a_ctx a_cw a_rw a_cr a_rr a_scan pb_style pb_isWritten pb_isRead)) hP hD [3] [0, 1, 2] rfl rfl (by decide) (by decide) hk1 hFc hP1 hD1
    have hP : va_P (dC, dI) vwCl (wd_fld_mags_marks_pb cI a_fld a_coef a_mags a_marks a_pb a_plan a_row a_ctx a_cw a_rw a_cr a_rr a_scan fld_wide fld_high fld_band fld_causal mags_n mags_f marks_n marks_f pb_style pb_isWritten pb_isRead) H1 := hP.sub [0, 1, 2, 3] rfl
    have hD : va_D A (wd_fld_mags_marks_pb cI a_fld a_coef a_mags a_marks a_pb a_plan a_row a_ctx a_cw a_rw a_cr a_rr a_scan fld_wide fld_high fld_band fld_causal mags_n mags_f marks_n marks_f pb_style pb_isWritten pb_isRead) := hD.sub [0, 1, 2, 3] (by decide) rfl
    rw [← hQe]
    exact vx_out (E := E) (fun x h9 => (hout x h9).elim) hlocks hce hcv hcl (fun t ht hW => ⟨(), trivial, ⟨hE, by rw [ht]; exact hP, va_K.moved hW hK, hD⟩, hS.F ht⟩) hS.2.2 (Nat.le_of_ble_eq_true rfl) (Nat.le_of_ble_eq_true rfl)
abbrev rmx_X10_read : Room := { frames := 7, cells := 1, slots := 6, locals := 110 }
def TX_X10_read (p1 : Int32) (plan_passes : Int32) (pb_isWritten : Int32) : Nat := if TX_X10_needWritten pb_isWritten = 0 then (if p1 < (0 : Int32) then 3 else (if p1 ≤ plan_passes then 0 else 3)) else TX_X10_needWritten pb_isWritten

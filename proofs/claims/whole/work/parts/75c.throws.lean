theorem cx_X10_written (l : Launch) (hl0 : l.stackTraces = false) (dC : Nat → ClassId) (dI : Nat → Nat → Nat) (cI cJ cZ : ClassId) (a_row : Nat) (a_bytes : Nat) (a_plan : Nat) (a_reaches : Nat) (a_gains : Nat) (a_pb : Nat) (a_fld : Nat) (a_ctx : Nat) (a_cw : Nat) (a_rw : Nat) (a_cr : Nat) (a_rr : Nat) (a_scan : Nat) (sz : Nat) (row_count : Int32) (row_start : Int32) (plan_planes : Int32) (plan_passes : Int32) (plan_segments : Int32) (plan_style : Int32) (plan_firstOfSegment : Int32) (pb_style : Int32) (pb_isWritten : Int32) (pb_isRead : Int32) (p1 : Int32) (k : Nat) (hk : k ≠ 0) (hT : TX_X10_written p1 pb_isWritten = k) : vx_Met l yX10_written wsX10_written rmx_X10_written (va_Pc [.ref a_pb, .int p1] (fun U => U.heap.size = sz ∧ va_P (dC, dI) vwCl (wd_row_plan_pb a_row a_bytes a_plan a_reaches a_gains a_pb a_fld a_ctx a_cw a_rw a_cr a_rr a_scan row_count row_start plan_planes plan_passes plan_segments plan_style plan_firstOfSegment pb_style pb_isWritten pb_isRead) U.heap ∧ va_K (dC, dI) vwCl [(cI, .int), (cJ, .long), (cZ, .boolean)] U ∧ va_D (fun _ => True) (wd_row_plan_pb a_row a_bytes a_plan a_reaches a_gains a_pb a_fld a_ctx a_cw a_rw a_cr a_rr a_scan row_count row_start plan_planes plan_passes plan_segments plan_style plan_firstOfSegment pb_style pb_isWritten pb_isRead) ∧ Zt (va_A (wd_row_plan_pb a_row a_bytes a_plan a_reaches a_gains a_pb a_fld a_ctx a_cw a_rw a_cr a_rr a_scan row_count row_start plan_planes plan_passes plan_segments plan_style plan_firstOfSegment pb_style pb_isWritten pb_isRead) sz) U U.heap)) (va_Qi (fun (_ : Int32) (_ : Unit) => False) (fun _ _ => True) (va_A (wd_row_plan_pb a_row a_bytes a_plan a_reaches a_gains a_pb a_fld a_ctx a_cw a_rw a_cr a_rr a_scan row_count row_start plan_planes plan_passes plan_segments plan_style plan_firstOfSegment pb_style pb_isWritten pb_isRead) sz)) (vx_X (fun _ : Unit => True) (fun E _ t => E = exN k ∧ va_P (dC, dI) vwCl (wd_row_plan_pb a_row a_bytes a_plan a_reaches a_gains a_pb a_fld a_ctx a_cw a_rw a_cr a_rr a_scan row_count row_start plan_planes plan_passes plan_segments plan_style plan_firstOfSegment pb_style pb_isWritten pb_isRead) t.heap ∧ va_K (dC, dI) vwCl [(cI, .int), (cJ, .long), (cZ, .boolean)] t ∧ va_D (va_A (wd_row_plan_pb a_row a_bytes a_plan a_reaches a_gains a_pb a_fld a_ctx a_cw a_rw a_cr a_rr a_scan row_count row_start plan_planes plan_passes plan_segments plan_style plan_firstOfSegment pb_style pb_isWritten pb_isRead) sz) (wd_row_plan_pb a_row a_bytes a_plan a_reaches a_gains a_pb a_fld a_ctx a_cw a_rw a_cr a_rr a_scan row_count row_start plan_planes plan_passes plan_segments plan_style plan_firstOfSegment pb_style pb_isWritten pb_isRead)) (va_A (wd_row_plan_pb a_row a_bytes a_plan a_reaches a_gains a_pb a_fld a_ctx a_cw a_rw a_cr a_rr a_scan row_count row_start plan_planes plan_passes plan_segments plan_style plan_firstOfSegment pb_style pb_isWritten pb_isRead) sz)) 1 6 (va_A (wd_row_plan_pb a_row a_bytes a_plan a_reaches a_gains a_pb a_fld a_ctx a_cw a_rw a_cr a_rr a_scan row_count row_start plan_planes plan_passes plan_segments plan_style plan_firstOfSegment pb_style pb_isWritten pb_isRead) sz) := by
  refine vx_ofW (cc := cX10_written) (maxL := 2) (ret := (some .int)) (by decide) rfl ?_
  intro p e s m args below meth c s₁ B hml hout hv
  obtain ⟨rfl, hsz, hP, hK, hD0, hZ⟩ := hv
  have hx := B.exec
  have hb := B.bytes
  have hr := B.returns
  have hts := atoms_spec (ws := wsX10_written) B.pre
  have hown : s.vm.findClass RX10 = some m.cls := findClass_of_methodNamed B.named
  have hlocks := B.notSynchronized
  subst hsz
  have hD := hD0.self (sz := s.heap.size)
  generalize hAe : va_A (wd_row_plan_pb a_row a_bytes a_plan a_reaches a_gains a_pb a_fld a_ctx a_cw a_rw a_cr a_rr a_scan row_count row_start plan_planes plan_passes plan_segments plan_style plan_firstOfSegment pb_style pb_isWritten pb_isRead) s.heap.size = A at hD hZ ⊢
  have hA : ∀ q : Nat, s.heap.size ≤ q → A q := fun q h => by rw [← hAe]; exact Or.inr h
  have hS : va_S A s.heap s.heap [] := va_S.rf
  obtain ⟨H, hH⟩ : ∃ z, z = s.heap := ⟨_, rfl⟩
  have hP : va_P (dC, dI) vwCl (wd_row_plan_pb a_row a_bytes a_plan a_reaches a_gains a_pb a_fld a_ctx a_cw a_rw a_cr a_rr a_scan row_count row_start plan_planes plan_passes plan_segments plan_style plan_firstOfSegment pb_style pb_isWritten pb_isRead) H := by rw [hH]; exact hP
  have hS : va_S A s.heap H [] := by rw [hH]; exact va_S.rf
  generalize hQe : vx_MQ below (va_Qi (fun (_ : Int32) (_ : Unit) => False) (fun _ _ => True) A) (vx_X (fun _ : Unit => True) (fun E _ t => E = exN k ∧ va_P (dC, dI) vwCl (wd_row_plan_pb a_row a_bytes a_plan a_reaches a_gains a_pb a_fld a_ctx a_cw a_rw a_cr a_rr a_scan row_count row_start plan_planes plan_passes plan_segments plan_style plan_firstOfSegment pb_style pb_isWritten pb_isRead) t.heap ∧ va_K (dC, dI) vwCl [(cI, .int), (cJ, .long), (cZ, .boolean)] t ∧ va_D A (wd_row_plan_pb a_row a_bytes a_plan a_reaches a_gains a_pb a_fld a_ctx a_cw a_rw a_cr a_rr a_scan row_count row_start plan_planes plan_passes plan_segments plan_style plan_firstOfSegment pb_style pb_isWritten pb_isRead)) A) _ s 1 6 A = Q
  rw [← hH]
  clear hH
  have hl := lv_entry ([.ref a_pb, .int p1]) (n := 2) (Nat.le_of_ble_eq_true rfl)
  rw [lg_entry_eq]
  generalize (lg_sl ([.ref a_pb, .int p1]) ++ List.replicate (2 - (lg_sl ([.ref a_pb, .int p1])).length) Slot.unset).toArray = ls at hl ⊢
  have hl : lv_has ls 2 [(0, .ref a_pb), (1, .int p1)] := hl
  have hg := hT
  unfold TX_X10_written at hg
  refine lv_aload_n hx hb dX10_written_0 rfl (lv_at hl 0 rfl) ?_
  by_cases cq : TX_X10_needWritten pb_isWritten = 0
  · rw [if_pos cq] at hg
    have hpre := tp_X10_needWritten cq
    have hPc := hP.sub (ws' := (wd_pb a_pb a_fld a_plan a_row a_ctx a_cw a_rw a_cr a_rr a_scan pb_style pb_isWritten pb_isRead)) [2] rfl
    have hDc := hD.sub (ws' := (wd_pb a_pb a_fld a_plan a_row a_ctx a_cw a_rw a_cr a_rr a_scan pb_style pb_isWritten pb_isRead)) [2] (by decide) rfl
    have hFc := va_free (wc := (wd_pb a_pb a_fld a_plan a_row a_ctx a_cw a_rw a_cr a_rr a_scan pb_style pb_isWritten pb_isRead)) hD hS hA [2] rfl
    refine va_callv (va_runV (As := []) (rest := []) ⟨hx, hb, hml, hown, hts⟩ (c_X10_needWritten l dC dI cI cJ cZ a_pb a_fld a_plan a_row a_ctx a_cw a_rw a_cr a_rr a_scan H.size pb_style pb_isWritten pb_isRead hpre) (cwV 0 hts gX10_written_X10_needWritten rfl rfl rfl (by decide +kernel) ⟨Nat.le_of_ble_eq_true rfl, Nat.le_of_ble_eq_true rfl⟩) ⟨fun a U g mk q => by obtain ⟨q0, q1, qP, qK, qD⟩ := q; exact ⟨q0, q1, qP, va_K.moved (u := U) (U := U.calling g mk a) (Vm.Alike.refl U.vm) qK, qD⟩, va_recv hK hPc (ci := 9) (q0 := 0) rfl rfl, fun U hU hW => ⟨rfl, by rw [hU], by rw [hU]; exact hPc, va_K.moved hW.alike hK, hDc.weaken (fun _ _ _ _ => trivial)⟩⟩ rfl rfl hl.1 rfl (lv_room (Nat.le_of_ble_eq_true rfl)) dX10_written_1 ⟨Nat.le_of_ble_eq_true rfl, Nat.le_of_ble_eq_true rfl⟩) hS (fun q _ h => hFc q h) hFc (fun u t H1 locs ht hvm hw hB hz1 hk1 hS => ?_)
    obtain ⟨hP1, hK1, hD1⟩ := hB
    rw [ht] at hP1
    obtain ⟨hP, hD⟩ := va_join (wr := [(a_row, .inr (0, [.ref a_bytes, .int row_count, .int row_start])), (a_plan, .inr (5, [.ref a_reaches, .ref a_gains, .int plan_planes, .int plan_passes, .int plan_segments, .int plan_style, .int plan_firstOfSegment]))]) (w1 := (wd_pb a_pb a_fld a_plan a_row a_ctx a_cw a_rw a_cr a_rr a_scan pb_style pb_isWritten pb_isRead)) hP hD [2] [0, 1] rfl rfl (by decide) (by decide) hk1 hFc hP1 hD1
    have hP : va_P (dC, dI) vwCl (wd_row_plan_pb a_row a_bytes a_plan a_reaches a_gains a_pb a_fld a_ctx a_cw a_rw a_cr a_rr a_scan row_count row_start plan_planes plan_passes plan_segments plan_style plan_firstOfSegment pb_style pb_isWritten pb_isRead) H1 := hP.sub [0, 1, 2] rfl
    have hD : va_D A (wd_row_plan_pb a_row a_bytes a_plan a_reaches a_gains a_pb a_fld a_ctx a_cw a_rw a_cr a_rr a_scan row_count row_start plan_planes plan_passes plan_segments plan_style plan_firstOfSegment pb_style pb_isWritten pb_isRead) := hD.sub [0, 1, 2] (by decide) rfl
    generalize H1 = H at hP hS ⊢
    refine lv_iload_n hx hb dX10_written_4 rfl (lv_at hl 1 rfl) ?_
    by_cases c_2_0 : p1 = (0 : Int32)
    · rw [if_pos c_2_0] at hg
      refine lv_tableIn (tgt := 36) (off := 31) hx hb dX10_written_5 (by rw [c_2_0]; decide) (by rw [c_2_0]; decide) (by rw [c_2_0]; rfl) (by decide) ?_
      exact absurd hg.symm hk
    rw [if_neg c_2_0] at hg
    by_cases c_2_1 : p1 = (1 : Int32)
    · rw [if_pos c_2_1] at hg
      refine lv_tableIn (tgt := 44) (off := 39) hx hb dX10_written_5 (by rw [c_2_1]; decide) (by rw [c_2_1]; decide) (by rw [c_2_1]; rfl) (by decide) ?_
      exact absurd hg.symm hk
    rw [if_neg c_2_1] at hg
    by_cases c_2_2 : p1 = (2 : Int32)
    · rw [if_pos c_2_2] at hg
      refine lv_tableIn (tgt := 52) (off := 47) hx hb dX10_written_5 (by rw [c_2_2]; decide) (by rw [c_2_2]; decide) (by rw [c_2_2]; rfl) (by decide) ?_
      exact absurd hg.symm hk
    rw [if_neg c_2_2] at hg
    by_cases c_2_3 : p1 = (3 : Int32)
    · rw [if_pos c_2_3] at hg
      refine lv_tableIn (tgt := 60) (off := 55) hx hb dX10_written_5 (by rw [c_2_3]; decide) (by rw [c_2_3]; decide) (by rw [c_2_3]; rfl) (by decide) ?_
      exact absurd hg.symm hk
    rw [if_neg c_2_3] at hg
    have hsw : p1.toInt < 0 ∨ 3 < p1.toInt := by
      have f0 := ne_toInt (c := 0) rfl c_2_0
      have f1 := ne_toInt (c := 1) rfl c_2_1
      have f2 := ne_toInt (c := 2) rfl c_2_2
      have f3 := ne_toInt (c := 3) rfl c_2_3
      omega
    refine lv_tableOut (tgt := 68) hx hb dX10_written_5 hsw (by decide) ?_
    subst hg
    rw [← hQe]
    obtain ⟨sa, hsa⟩ := hZ.t222
    exact vx_throwS (own := RX10) (cls := "java/lang/IllegalArgumentException") (text := "w is 0 to 3") (names := ["java/lang/RuntimeException", "java/lang/Exception"]) (ik := 78) (is := 222) (ic := 82) hx hb hl0 hown (by decide) (by decide) (hts (.classLink RX10 78 "java/lang/IllegalArgumentException") (by decide +kernel)) (hts (.initialized "java/lang/IllegalArgumentException") (by decide +kernel)) hsa (vx_hat (fun w hw => hts w (List.mem_cons_of_mem _ (List.mem_append_left _ (List.mem_append_right _ hw)))) hb_IA hZ.decl) hg_IA hZ.1 hZ.2.1 hS (hl.1.trans hml.symm) dX10_written_68 dX10_written_71 dX10_written_72 dX10_written_74 dX10_written_77 (fun x h9 => (hout x h9).elim) (Nat.le_of_ble_eq_true rfl) (Nat.le_of_ble_eq_true rfl) (Nat.le_of_ble_eq_true rfl) (Nat.le_of_ble_eq_true rfl) hlocks (fun t hW hz hq => ⟨(), trivial, ⟨rfl, hP.kept (fun k9 q9 hk9 => hq q9.1 (vx_lt hP hk9)), va_K.moved hW hK, hD⟩, ⟨Nat.le_trans hS.1 hz, fun q9 h1 h2 => (hq q9 (Nat.lt_of_lt_of_le h1 hS.1)).trans (hS.2.1 q9 h1 h2)⟩⟩) hS.2.2 (Nat.le_of_ble_eq_true rfl) (Nat.le_of_ble_eq_true rfl)
  · rw [if_neg cq] at hg
    have hPc := hP.sub (ws' := (wd_pb a_pb a_fld a_plan a_row a_ctx a_cw a_rw a_cr a_rr a_scan pb_style pb_isWritten pb_isRead)) [2] rfl
    have hDc := hD.sub (ws' := (wd_pb a_pb a_fld a_plan a_row a_ctx a_cw a_rw a_cr a_rr a_scan pb_style pb_isWritten pb_isRead)) [2] (by decide) rfl
    have hFc := va_free (wc := (wd_pb a_pb a_fld a_plan a_row a_ctx a_cw a_rw a_cr a_rr a_scan pb_style pb_isWritten pb_isRead)) hD hS hA [2] rfl
    refine vx_callv (vx_runV (As := []) (rest := []) ⟨hx, hb, hml, hown, hts⟩ (cx_X10_needWritten l hl0 dC dI cI cJ cZ a_pb a_fld a_plan a_row a_ctx a_cw a_rw a_cr a_rr a_scan H.size pb_style pb_isWritten pb_isRead k hk hg) (cwV 0 hts gX10_written_X10_needWritten rfl rfl rfl (by decide +kernel) ⟨Nat.le_of_ble_eq_true rfl, Nat.le_of_ble_eq_true rfl⟩) ⟨fun a U g mk q => by obtain ⟨q0, q1, qP, qK, qD, qZ⟩ := q; exact ⟨q0, q1, qP, va_K.moved (u := U) (U := U.calling g mk a) (Vm.Alike.refl U.vm) qK, qD, Zt.same (u := U) (U := U.calling g mk a) rfl qZ⟩, va_recv hK hPc (ci := 9) (q0 := 0) rfl rfl, fun U hU hW => ⟨rfl, by rw [hU], by rw [hU]; exact hPc, va_K.moved hW.alike hK, hDc.weaken (fun _ _ _ _ => trivial), by rw [hU]; exact ((hZ.kept hS.2.1).narrow hFc).warm hW⟩⟩ rfl rfl hl.1 rfl (lv_room (Nat.le_of_ble_eq_true rfl)) dX10_written_1 ⟨Nat.le_of_ble_eq_true rfl, Nat.le_of_ble_eq_true rfl⟩) hS (fun q _ h => hFc q h) hFc (fun q _ h => hFc q h) (fun E ce q9 u t H1 locs ht hvm hp hB hz1 hk1 hS hce hcv hcl => ?_) (fun u t H1 locs ht hvm hp hB hz1 hk1 hS => hp.elim)
    obtain ⟨hE, hP1, hK1, hD1⟩ := hB
    rw [ht] at hP1
    obtain ⟨hP, hD⟩ := va_join (wr := [(a_row, .inr (0, [.ref a_bytes, .int row_count, .int row_start])), (a_plan, .inr (5, [.ref a_reaches, .ref a_gains, .int plan_planes, .int plan_passes, .int plan_segments, .int plan_style, .int plan_firstOfSegment]))]) (w1 := (wd_pb a_pb a_fld a_plan a_row a_ctx a_cw a_rw a_cr a_rr a_scan pb_style pb_isWritten pb_isRead)) hP hD [2] [0, 1] rfl rfl (by decide) (by decide) hk1 hFc hP1 hD1
    have hP : va_P (dC, dI) vwCl (wd_row_plan_pb a_row a_bytes a_plan a_reaches a_gains a_pb a_fld a_ctx a_cw a_rw a_cr a_rr a_scan row_count row_start plan_planes plan_passes plan_segments plan_style plan_firstOfSegment pb_style pb_isWritten pb_isRead) H1 := hP.sub [0, 1, 2] rfl
    have hD : va_D A (wd_row_plan_pb a_row a_bytes a_plan a_reaches a_gains a_pb a_fld a_ctx a_cw a_rw a_cr a_rr a_scan row_count row_start plan_planes plan_passes plan_segments plan_style plan_firstOfSegment pb_style pb_isWritten pb_isRead) := hD.sub [0, 1, 2] (by decide) rfl
    rw [← hQe]
    exact vx_out (E := E) (fun x h9 => (hout x h9).elim) hlocks hce hcv hcl (fun t ht hW => ⟨(), trivial, ⟨hE, by rw [ht]; exact hP, va_K.moved hW hK, hD⟩, hS.F ht⟩) hS.2.2 (Nat.le_of_ble_eq_true rfl) (Nat.le_of_ble_eq_true rfl)
abbrev rmx_X10_pass : Room := { frames := 8, cells := 1, slots := 6, locals := 131 }
def TX_X10_pass (p1 : Int32) (p2 : Int32) (plan_passes : Int32) (pb_isWritten : Int32) : Nat := if TX_X10_needPass p1 plan_passes pb_isWritten = 0 then (if p2 = (0 : Int32) then 0 else (if p2 = (1 : Int32) then 0 else (if p2 = (2 : Int32) then 0 else (if p2 = (3 : Int32) then 0 else (if p2 = (4 : Int32) then 0 else 3))))) else TX_X10_needPass p1 plan_passes pb_isWritten
theorem cx_X10_pass (l : Launch) (hl0 : l.stackTraces = false) (dC : Nat → ClassId) (dI : Nat → Nat → Nat) (cI cJ cZ : ClassId) (a_plan : Nat) (a_reaches : Nat) (a_gains : Nat) (a_pb : Nat) (a_fld : Nat) (a_row : Nat) (a_ctx : Nat) (a_cw : Nat) (a_rw : Nat) (a_cr : Nat) (a_rr : Nat) (a_scan : Nat) (sz : Nat) (plan_planes : Int32) (plan_passes : Int32) (plan_segments : Int32) (plan_style : Int32) (plan_firstOfSegment : Int32) (reaches_n : Nat) (reaches_f : Nat → Int32) (pb_style : Int32) (pb_isWritten : Int32) (pb_isRead : Int32) (p1 : Int32) (p2 : Int32) (k : Nat) (hk : k ≠ 0) (hT : TX_X10_pass p1 p2 plan_passes pb_isWritten = k) : vx_Met l yX10_pass wsX10_pass rmx_X10_pass (va_Pc [.ref a_pb, .int p1, .int p2] (fun U => U.heap.size = sz ∧ va_P (dC, dI) vwCl (wd_plan_reaches_pb cI a_plan a_reaches a_gains a_pb a_fld a_row a_ctx a_cw a_rw a_cr a_rr a_scan plan_planes plan_passes plan_segments plan_style plan_firstOfSegment reaches_n reaches_f pb_style pb_isWritten pb_isRead) U.heap ∧ va_K (dC, dI) vwCl [(cI, .int), (cJ, .long), (cZ, .boolean)] U ∧ va_D (fun _ => True) (wd_plan_reaches_pb cI a_plan a_reaches a_gains a_pb a_fld a_row a_ctx a_cw a_rw a_cr a_rr a_scan plan_planes plan_passes plan_segments plan_style plan_firstOfSegment reaches_n reaches_f pb_style pb_isWritten pb_isRead) ∧ Zt (va_A (wd_plan_reaches_pb cI a_plan a_reaches a_gains a_pb a_fld a_row a_ctx a_cw a_rw a_cr a_rr a_scan plan_planes plan_passes plan_segments plan_style plan_firstOfSegment reaches_n reaches_f pb_style pb_isWritten pb_isRead) sz) U U.heap)) (va_Qi (fun (_ : Int32) (_ : Unit) => False) (fun _ _ => True) (va_A (wd_plan_reaches_pb cI a_plan a_reaches a_gains a_pb a_fld a_row a_ctx a_cw a_rw a_cr a_rr a_scan plan_planes plan_passes plan_segments plan_style plan_firstOfSegment reaches_n reaches_f pb_style pb_isWritten pb_isRead) sz)) (vx_X (fun _ : Unit => True) (fun E _ t => E = exN k ∧ va_P (dC, dI) vwCl (wd_plan_reaches_pb cI a_plan a_reaches a_gains a_pb a_fld a_row a_ctx a_cw a_rw a_cr a_rr a_scan plan_planes plan_passes plan_segments plan_style plan_firstOfSegment reaches_n reaches_f pb_style pb_isWritten pb_isRead) t.heap ∧ va_K (dC, dI) vwCl [(cI, .int), (cJ, .long), (cZ, .boolean)] t ∧ va_D (va_A (wd_plan_reaches_pb cI a_plan a_reaches a_gains a_pb a_fld a_row a_ctx a_cw a_rw a_cr a_rr a_scan plan_planes plan_passes plan_segments plan_style plan_firstOfSegment reaches_n reaches_f pb_style pb_isWritten pb_isRead) sz) (wd_plan_reaches_pb cI a_plan a_reaches a_gains a_pb a_fld a_row a_ctx a_cw a_rw a_cr a_rr a_scan plan_planes plan_passes plan_segments plan_style plan_firstOfSegment reaches_n reaches_f pb_style pb_isWritten pb_isRead)) (va_A (wd_plan_reaches_pb cI a_plan a_reaches a_gains a_pb a_fld a_row a_ctx a_cw a_rw a_cr a_rr a_scan plan_planes plan_passes plan_segments plan_style plan_firstOfSegment reaches_n reaches_f pb_style pb_isWritten pb_isRead) sz)) 1 6 (va_A (wd_plan_reaches_pb cI a_plan a_reaches a_gains a_pb a_fld a_row a_ctx a_cw a_rw a_cr a_rr a_scan plan_planes plan_passes plan_segments plan_style plan_firstOfSegment reaches_n reaches_f pb_style pb_isWritten pb_isRead) sz) := by
  refine vx_ofW (cc := cX10_pass) (maxL := 3) (ret := (some .int)) (by decide) rfl ?_
  intro p e s m args below meth c s₁ B hml hout hv
  obtain ⟨rfl, hsz, hP, hK, hD0, hZ⟩ := hv
  have hx := B.exec
  have hb := B.bytes
  have hr := B.returns
  have hts := atoms_spec (ws := wsX10_pass) B.pre
  have hown : s.vm.findClass RX10 = some m.cls := findClass_of_methodNamed B.named
  have hlocks := B.notSynchronized
  subst hsz
  have hD := hD0.self (sz := s.heap.size)
  generalize hAe : va_A (wd_plan_reaches_pb cI a_plan a_reaches a_gains a_pb a_fld a_row a_ctx a_cw a_rw a_cr a_rr a_scan plan_planes plan_passes plan_segments plan_style plan_firstOfSegment reaches_n reaches_f pb_style pb_isWritten pb_isRead) s.heap.size = A at hD hZ ⊢
  have hA : ∀ q : Nat, s.heap.size ≤ q → A q := fun q h => by rw [← hAe]; exact Or.inr h
  have hS : va_S A s.heap s.heap [] := va_S.rf
  obtain ⟨H, hH⟩ : ∃ z, z = s.heap := ⟨_, rfl⟩
  have hP : va_P (dC, dI) vwCl (wd_plan_reaches_pb cI a_plan a_reaches a_gains a_pb a_fld a_row a_ctx a_cw a_rw a_cr a_rr a_scan plan_planes plan_passes plan_segments plan_style plan_firstOfSegment reaches_n reaches_f pb_style pb_isWritten pb_isRead) H := by rw [hH]; exact hP
  have hS : va_S A s.heap H [] := by rw [hH]; exact va_S.rf
  generalize hQe : vx_MQ below (va_Qi (fun (_ : Int32) (_ : Unit) => False) (fun _ _ => True) A) (vx_X (fun _ : Unit => True) (fun E _ t => E = exN k ∧ va_P (dC, dI) vwCl (wd_plan_reaches_pb cI a_plan a_reaches a_gains a_pb a_fld a_row a_ctx a_cw a_rw a_cr a_rr a_scan plan_planes plan_passes plan_segments plan_style plan_firstOfSegment reaches_n reaches_f pb_style pb_isWritten pb_isRead) t.heap ∧ va_K (dC, dI) vwCl [(cI, .int), (cJ, .long), (cZ, .boolean)] t ∧ va_D A (wd_plan_reaches_pb cI a_plan a_reaches a_gains a_pb a_fld a_row a_ctx a_cw a_rw a_cr a_rr a_scan plan_planes plan_passes plan_segments plan_style plan_firstOfSegment reaches_n reaches_f pb_style pb_isWritten pb_isRead)) A) _ s 1 6 A = Q
  rw [← hH]
  clear hH
  have hl := lv_entry ([.ref a_pb, .int p1, .int p2]) (n := 3) (Nat.le_of_ble_eq_true rfl)
  rw [lg_entry_eq]
  generalize (lg_sl ([.ref a_pb, .int p1, .int p2]) ++ List.replicate (3 - (lg_sl ([.ref a_pb, .int p1, .int p2])).length) Slot.unset).toArray = ls at hl ⊢
  have hl : lv_has ls 3 [(0, .ref a_pb), (1, .int p1), (2, .int p2)] := hl
  have hg := hT
  unfold TX_X10_pass at hg
  refine lv_aload_n hx hb dX10_pass_0 rfl (lv_at hl 0 rfl) ?_
  refine lv_iload_n hx hb dX10_pass_1 rfl (lv_at hl 1 rfl) ?_
  by_cases cq : TX_X10_needPass p1 plan_passes pb_isWritten = 0
  · rw [if_pos cq] at hg
    have hpre := tp_X10_needPass cq
    have hPc := hP.sub (ws' := (wd_plan_pb a_plan a_reaches a_gains a_pb a_fld a_row a_ctx a_cw a_rw a_cr a_rr a_scan plan_planes plan_passes plan_segments plan_style plan_firstOfSegment pb_style pb_isWritten pb_isRead)) [0, 2] rfl
    have hDc := hD.sub (ws' := (wd_plan_pb a_plan a_reaches a_gains a_pb a_fld a_row a_ctx a_cw a_rw a_cr a_rr a_scan plan_planes plan_passes plan_segments plan_style plan_firstOfSegment pb_style pb_isWritten pb_isRead)) [0, 2] (by decide) rfl
    have hFc := va_free (wc := (wd_plan_pb a_plan a_reaches a_gains a_pb a_fld a_row a_ctx a_cw a_rw a_cr a_rr a_scan plan_planes plan_passes plan_segments plan_style plan_firstOfSegment pb_style pb_isWritten pb_isRead)) hD hS hA [0, 2] rfl
    refine va_callv (va_runV (As := [.int p1]) (rest := []) ⟨hx, hb, hml, hown, hts⟩ (c_X10_needPass l dC dI cI cJ cZ a_plan a_reaches a_gains a_pb a_fld a_row a_ctx a_cw a_rw a_cr a_rr a_scan H.size plan_planes plan_passes plan_segments plan_style plan_firstOfSegment pb_style pb_isWritten pb_isRead p1 hpre) (cwV 1 hts gX10_pass_X10_needPass rfl rfl rfl (by decide +kernel) ⟨Nat.le_of_ble_eq_true rfl, Nat.le_of_ble_eq_true rfl⟩) ⟨fun a U g mk q => by obtain ⟨q0, q1, qP, qK, qD⟩ := q; exact ⟨q0, q1, qP, va_K.moved (u := U) (U := U.calling g mk a) (Vm.Alike.refl U.vm) qK, qD⟩, va_recv hK hPc (ci := 9) (q0 := 1) rfl rfl, fun U hU hW => ⟨rfl, by rw [hU], by rw [hU]; exact hPc, va_K.moved hW.alike hK, hDc.weaken (fun _ _ _ _ => trivial)⟩⟩ rfl rfl hl.1 rfl (lv_room (Nat.le_of_ble_eq_true rfl)) dX10_pass_2 ⟨Nat.le_of_ble_eq_true rfl, Nat.le_of_ble_eq_true rfl⟩) hS (fun q _ h => hFc q h) hFc (fun u t H1 locs ht hvm hw hB hz1 hk1 hS => ?_)
    obtain ⟨hP1, hK1, hD1⟩ := hB
    rw [ht] at hP1
    obtain ⟨hP, hD⟩ := va_join (wr := [(a_reaches, .inl (cI, reaches_n, .inl reaches_f))]) (w1 := (wd_plan_pb a_plan a_reaches a_gains a_pb a_fld a_row a_ctx a_cw a_rw a_cr a_rr a_scan plan_planes plan_passes plan_segments plan_style plan_firstOfSegment pb_style pb_isWritten pb_isRead)) hP hD [0, 2] [1] rfl rfl (by decide) (by decide) hk1 hFc hP1 hD1
    have hP : va_P (dC, dI) vwCl (wd_plan_reaches_pb cI a_plan a_reaches a_gains a_pb a_fld a_row a_ctx a_cw a_rw a_cr a_rr a_scan plan_planes plan_passes plan_segments plan_style plan_firstOfSegment reaches_n reaches_f pb_style pb_isWritten pb_isRead) H1 := hP.sub [1, 0, 2] rfl
    have hD : va_D A (wd_plan_reaches_pb cI a_plan a_reaches a_gains a_pb a_fld a_row a_ctx a_cw a_rw a_cr a_rr a_scan plan_planes plan_passes plan_segments plan_style plan_firstOfSegment reaches_n reaches_f pb_style pb_isWritten pb_isRead) := hD.sub [1, 0, 2] (by decide) rfl
    generalize H1 = H at hP hS ⊢
    refine lv_iload_n hx hb dX10_pass_5 rfl (lv_at hl 2 rfl) ?_
    by_cases c_2_0 : p2 = (0 : Int32)
    · rw [if_pos c_2_0] at hg
      refine lv_tableIn (tgt := 40) (off := 34) hx hb dX10_pass_6 (by rw [c_2_0]; decide) (by rw [c_2_0]; decide) (by rw [c_2_0]; rfl) (by decide) ?_
      exact absurd hg.symm hk
    rw [if_neg c_2_0] at hg
    by_cases c_2_1 : p2 = (1 : Int32)
    · rw [if_pos c_2_1] at hg
      refine lv_tableIn (tgt := 49) (off := 43) hx hb dX10_pass_6 (by rw [c_2_1]; decide) (by rw [c_2_1]; decide) (by rw [c_2_1]; rfl) (by decide) ?_
      exact absurd hg.symm hk
    rw [if_neg c_2_1] at hg
    by_cases c_2_2 : p2 = (2 : Int32)
    · rw [if_pos c_2_2] at hg
      refine lv_tableIn (tgt := 58) (off := 52) hx hb dX10_pass_6 (by rw [c_2_2]; decide) (by rw [c_2_2]; decide) (by rw [c_2_2]; rfl) (by decide) ?_
      exact absurd hg.symm hk
    rw [if_neg c_2_2] at hg
    by_cases c_2_3 : p2 = (3 : Int32)
    · rw [if_pos c_2_3] at hg
      refine lv_tableIn (tgt := 75) (off := 69) hx hb dX10_pass_6 (by rw [c_2_3]; decide) (by rw [c_2_3]; decide) (by rw [c_2_3]; rfl) (by decide) ?_
      exact absurd hg.symm hk
    rw [if_neg c_2_3] at hg
    by_cases c_2_4 : p2 = (4 : Int32)
    · rw [if_pos c_2_4] at hg
      refine lv_tableIn (tgt := 92) (off := 86) hx hb dX10_pass_6 (by rw [c_2_4]; decide) (by rw [c_2_4]; decide) (by rw [c_2_4]; rfl) (by decide) ?_
      exact absurd hg.symm hk
    rw [if_neg c_2_4] at hg
    have hsw : p2.toInt < 0 ∨ 4 < p2.toInt := by
      have f0 := ne_toInt (c := 0) rfl c_2_0
      have f1 := ne_toInt (c := 1) rfl c_2_1
      have f2 := ne_toInt (c := 2) rfl c_2_2
      have f3 := ne_toInt (c := 3) rfl c_2_3
      have f4 := ne_toInt (c := 4) rfl c_2_4
      omega
    refine lv_tableOut (tgt := 102) hx hb dX10_pass_6 hsw (by decide) ?_
    subst hg
    rw [← hQe]
    obtain ⟨sa, hsa⟩ := hZ.t228
    exact vx_throwS (own := RX10) (cls := "java/lang/IllegalArgumentException") (text := "w is 0 to 4") (names := ["java/lang/RuntimeException", "java/lang/Exception"]) (ik := 78) (is := 228) (ic := 82) hx hb hl0 hown (by decide) (by decide) (hts (.classLink RX10 78 "java/lang/IllegalArgumentException") (by decide +kernel)) (hts (.initialized "java/lang/IllegalArgumentException") (by decide +kernel)) hsa (vx_hat (fun w hw => hts w (List.mem_cons_of_mem _ (List.mem_append_left _ (List.mem_append_left _ (List.mem_append_right _ hw))))) hb_IA hZ.decl) hg_IA hZ.1 hZ.2.1 hS (hl.1.trans hml.symm) dX10_pass_102 dX10_pass_105 dX10_pass_106 dX10_pass_108 dX10_pass_111 (fun x h9 => (hout x h9).elim) (Nat.le_of_ble_eq_true rfl) (Nat.le_of_ble_eq_true rfl) (Nat.le_of_ble_eq_true rfl) (Nat.le_of_ble_eq_true rfl) hlocks (fun t hW hz hq => ⟨(), trivial, ⟨rfl, hP.kept (fun k9 q9 hk9 => hq q9.1 (vx_lt hP hk9)), va_K.moved hW hK, hD⟩, ⟨Nat.le_trans hS.1 hz, fun q9 h1 h2 => (hq q9 (Nat.lt_of_lt_of_le h1 hS.1)).trans (hS.2.1 q9 h1 h2)⟩⟩) hS.2.2 (Nat.le_of_ble_eq_true rfl) (Nat.le_of_ble_eq_true rfl)
  · rw [if_neg cq] at hg
    have hPc := hP.sub (ws' := (wd_plan_pb a_plan a_reaches a_gains a_pb a_fld a_row a_ctx a_cw a_rw a_cr a_rr a_scan plan_planes plan_passes plan_segments plan_style plan_firstOfSegment pb_style pb_isWritten pb_isRead)) [0, 2] rfl
    have hDc := hD.sub (ws' := (wd_plan_pb a_plan a_reaches a_gains a_pb a_fld a_row a_ctx a_cw a_rw a_cr a_rr a_scan plan_planes plan_passes plan_segments plan_style plan_firstOfSegment pb_style pb_isWritten pb_isRead)) [0, 2] (by decide) rfl
    have hFc := va_free (wc := (wd_plan_pb a_plan a_reaches a_gains a_pb a_fld a_row a_ctx a_cw a_rw a_cr a_rr a_scan plan_planes plan_passes plan_segments plan_style plan_firstOfSegment pb_style pb_isWritten pb_isRead)) hD hS hA [0, 2] rfl
    refine vx_callv (vx_runV (As := [.int p1]) (rest := []) ⟨hx, hb, hml, hown, hts⟩ (cx_X10_needPass l hl0 dC dI cI cJ cZ a_plan a_reaches a_gains a_pb a_fld a_row a_ctx a_cw a_rw a_cr a_rr a_scan H.size plan_planes plan_passes plan_segments plan_style plan_firstOfSegment pb_style pb_isWritten pb_isRead p1 k hk hg) (cwV 1 hts gX10_pass_X10_needPass rfl rfl rfl (by decide +kernel) ⟨Nat.le_of_ble_eq_true rfl, Nat.le_of_ble_eq_true rfl⟩) ⟨fun a U g mk q => by obtain ⟨q0, q1, qP, qK, qD, qZ⟩ := q; exact ⟨q0, q1, qP, va_K.moved (u := U) (U := U.calling g mk a) (Vm.Alike.refl U.vm) qK, qD, Zt.same (u := U) (U := U.calling g mk a) rfl qZ⟩, va_recv hK hPc (ci := 9) (q0 := 1) rfl rfl, fun U hU hW => ⟨rfl, by rw [hU], by rw [hU]; exact hPc, va_K.moved hW.alike hK, hDc.weaken (fun _ _ _ _ => trivial), by rw [hU]; exact ((hZ.kept hS.2.1).narrow hFc).warm hW⟩⟩ rfl rfl hl.1 rfl (lv_room (Nat.le_of_ble_eq_true rfl)) dX10_pass_2 ⟨Nat.le_of_ble_eq_true rfl, Nat.le_of_ble_eq_true rfl⟩) hS (fun q _ h => hFc q h) hFc (fun q _ h => hFc q h) (fun E ce q9 u t H1 locs ht hvm hp hB hz1 hk1 hS hce hcv hcl => ?_) (fun u t H1 locs ht hvm hp hB hz1 hk1 hS => hp.elim)
    obtain ⟨hE, hP1, hK1, hD1⟩ := hB
    rw [ht] at hP1
    obtain ⟨hP, hD⟩ := va_join (wr := [(a_reaches, .inl (cI, reaches_n, .inl reaches_f))]) (w1 := (wd_plan_pb a_plan a_reaches a_gains a_pb a_fld a_row a_ctx a_cw a_rw a_cr a_rr a_scan plan_planes plan_passes plan_segments plan_style plan_firstOfSegment pb_style pb_isWritten pb_isRead)) hP hD [0, 2] [1] rfl rfl (by decide) (by decide) hk1 hFc hP1 hD1
    have hP : va_P (dC, dI) vwCl (wd_plan_reaches_pb cI a_plan a_reaches a_gains a_pb a_fld a_row a_ctx a_cw a_rw a_cr a_rr a_scan plan_planes plan_passes plan_segments plan_style plan_firstOfSegment reaches_n reaches_f pb_style pb_isWritten pb_isRead) H1 := hP.sub [1, 0, 2] rfl
    have hD : va_D A (wd_plan_reaches_pb cI a_plan a_reaches a_gains a_pb a_fld a_row a_ctx a_cw a_rw a_cr a_rr a_scan plan_planes plan_passes plan_segments plan_style plan_firstOfSegment reaches_n reaches_f pb_style pb_isWritten pb_isRead) := hD.sub [1, 0, 2] (by decide) rfl
    rw [← hQe]
    exact vx_out (E := E) (fun x h9 => (hout x h9).elim) hlocks hce hcv hcl (fun t ht hW => ⟨(), trivial, ⟨hE, by rw [ht]; exact hP, va_K.moved hW hK, hD⟩, hS.F ht⟩) hS.2.2 (Nat.le_of_ble_eq_true rfl) (Nat.le_of_ble_eq_true rfl)
abbrev rmx_X10_gain : Room := { frames := 8, cells := 1, slots := 6, locals := 131 }
def TX_X10_gain (p1 : Int32) (plan_passes : Int32) (pb_isWritten : Int32) : Nat := if TX_X10_needPass p1 plan_passes pb_isWritten = 0 then 0 else TX_X10_needPass p1 plan_passes pb_isWritten
theorem cx_X10_gain (l : Launch) (hl0 : l.stackTraces = false) (dC : Nat → ClassId) (dI : Nat → Nat → Nat) (cI cJ cZ : ClassId) (a_plan : Nat) (a_reaches : Nat) (a_gains : Nat) (a_pb : Nat) (a_fld : Nat) (a_row : Nat) (a_ctx : Nat) (a_cw : Nat) (a_rw : Nat) (a_cr : Nat) (a_rr : Nat) (a_scan : Nat) (sz : Nat) (plan_planes : Int32) (plan_passes : Int32) (plan_segments : Int32) (plan_style : Int32) (plan_firstOfSegment : Int32) (gains_n : Nat) (gains_f : Nat → Int64) (pb_style : Int32) (pb_isWritten : Int32) (pb_isRead : Int32) (p1 : Int32) (k : Nat) (hk : k ≠ 0) (hT : TX_X10_gain p1 plan_passes pb_isWritten = k) : vx_Met l yX10_gain wsX10_gain rmx_X10_gain (va_Pc [.ref a_pb, .int p1] (fun U => U.heap.size = sz ∧ va_P (dC, dI) vwCl (wd_plan_gains_pb cJ a_plan a_reaches a_gains a_pb a_fld a_row a_ctx a_cw a_rw a_cr a_rr a_scan plan_planes plan_passes plan_segments plan_style plan_firstOfSegment gains_n gains_f pb_style pb_isWritten pb_isRead) U.heap ∧ va_K (dC, dI) vwCl [(cI, .int), (cJ, .long), (cZ, .boolean)] U ∧ va_D (fun _ => True) (wd_plan_gains_pb cJ a_plan a_reaches a_gains a_pb a_fld a_row a_ctx a_cw a_rw a_cr a_rr a_scan plan_planes plan_passes plan_segments plan_style plan_firstOfSegment gains_n gains_f pb_style pb_isWritten pb_isRead) ∧ Zt (va_A (wd_plan_gains_pb cJ a_plan a_reaches a_gains a_pb a_fld a_row a_ctx a_cw a_rw a_cr a_rr a_scan plan_planes plan_passes plan_segments plan_style plan_firstOfSegment gains_n gains_f pb_style pb_isWritten pb_isRead) sz) U U.heap)) (va_Ql (fun (_ : Int64) (_ : Unit) => False) (fun _ _ => True) (va_A (wd_plan_gains_pb cJ a_plan a_reaches a_gains a_pb a_fld a_row a_ctx a_cw a_rw a_cr a_rr a_scan plan_planes plan_passes plan_segments plan_style plan_firstOfSegment gains_n gains_f pb_style pb_isWritten pb_isRead) sz)) (vx_X (fun _ : Unit => True) (fun E _ t => E = exN k ∧ va_P (dC, dI) vwCl (wd_plan_gains_pb cJ a_plan a_reaches a_gains a_pb a_fld a_row a_ctx a_cw a_rw a_cr a_rr a_scan plan_planes plan_passes plan_segments plan_style plan_firstOfSegment gains_n gains_f pb_style pb_isWritten pb_isRead) t.heap ∧ va_K (dC, dI) vwCl [(cI, .int), (cJ, .long), (cZ, .boolean)] t ∧ va_D (va_A (wd_plan_gains_pb cJ a_plan a_reaches a_gains a_pb a_fld a_row a_ctx a_cw a_rw a_cr a_rr a_scan plan_planes plan_passes plan_segments plan_style plan_firstOfSegment gains_n gains_f pb_style pb_isWritten pb_isRead) sz) (wd_plan_gains_pb cJ a_plan a_reaches a_gains a_pb a_fld a_row a_ctx a_cw a_rw a_cr a_rr a_scan plan_planes plan_passes plan_segments plan_style plan_firstOfSegment gains_n gains_f pb_style pb_isWritten pb_isRead)) (va_A (wd_plan_gains_pb cJ a_plan a_reaches a_gains a_pb a_fld a_row a_ctx a_cw a_rw a_cr a_rr a_scan plan_planes plan_passes plan_segments plan_style plan_firstOfSegment gains_n gains_f pb_style pb_isWritten pb_isRead) sz)) 1 6 (va_A (wd_plan_gains_pb cJ a_plan a_reaches a_gains a_pb a_fld a_row a_ctx a_cw a_rw a_cr a_rr a_scan plan_planes plan_passes plan_segments plan_style plan_firstOfSegment gains_n gains_f pb_style pb_isWritten pb_isRead) sz) := by
  refine vx_ofW (cc := cX10_gain) (maxL := 2) (ret := (some .long)) (by decide) rfl ?_
  intro p e s m args below meth c s₁ B hml hout hv
  obtain ⟨rfl, hsz, hP, hK, hD0, hZ⟩ := hv
  have hx := B.exec
  have hb := B.bytes
  have hr := B.returns
  have hts := atoms_spec (ws := wsX10_gain) B.pre
  have hown : s.vm.findClass RX10 = some m.cls := findClass_of_methodNamed B.named
  have hlocks := B.notSynchronized
  subst hsz
  have hD := hD0.self (sz := s.heap.size)
  generalize hAe : va_A (wd_plan_gains_pb cJ a_plan a_reaches a_gains a_pb a_fld a_row a_ctx a_cw a_rw a_cr a_rr a_scan plan_planes plan_passes plan_segments plan_style plan_firstOfSegment gains_n gains_f pb_style pb_isWritten pb_isRead) s.heap.size = A at hD hZ ⊢
  have hA : ∀ q : Nat, s.heap.size ≤ q → A q := fun q h => by rw [← hAe]; exact Or.inr h
  have hS : va_S A s.heap s.heap [] := va_S.rf
  obtain ⟨H, hH⟩ : ∃ z, z = s.heap := ⟨_, rfl⟩
  have hP : va_P (dC, dI) vwCl (wd_plan_gains_pb cJ a_plan a_reaches a_gains a_pb a_fld a_row a_ctx a_cw a_rw a_cr a_rr a_scan plan_planes plan_passes plan_segments plan_style plan_firstOfSegment gains_n gains_f pb_style pb_isWritten pb_isRead) H := by rw [hH]; exact hP
  have hS : va_S A s.heap H [] := by rw [hH]; exact va_S.rf
  generalize hQe : vx_MQ below (va_Ql (fun (_ : Int64) (_ : Unit) => False) (fun _ _ => True) A) (vx_X (fun _ : Unit => True) (fun E _ t => E = exN k ∧ va_P (dC, dI) vwCl (wd_plan_gains_pb cJ a_plan a_reaches a_gains a_pb a_fld a_row a_ctx a_cw a_rw a_cr a_rr a_scan plan_planes plan_passes plan_segments plan_style plan_firstOfSegment gains_n gains_f pb_style pb_isWritten pb_isRead) t.heap ∧ va_K (dC, dI) vwCl [(cI, .int), (cJ, .long), (cZ, .boolean)] t ∧ va_D A (wd_plan_gains_pb cJ a_plan a_reaches a_gains a_pb a_fld a_row a_ctx a_cw a_rw a_cr a_rr a_scan plan_planes plan_passes plan_segments plan_style plan_firstOfSegment gains_n gains_f pb_style pb_isWritten pb_isRead)) A) _ s 1 6 A = Q
  rw [← hH]
  clear hH
  have hl := lv_entry ([.ref a_pb, .int p1]) (n := 2) (Nat.le_of_ble_eq_true rfl)
  rw [lg_entry_eq]
  generalize (lg_sl ([.ref a_pb, .int p1]) ++ List.replicate (2 - (lg_sl ([.ref a_pb, .int p1])).length) Slot.unset).toArray = ls at hl ⊢
  have hl : lv_has ls 2 [(0, .ref a_pb), (1, .int p1)] := hl
  have hg := hT
  unfold TX_X10_gain at hg
  refine lv_aload_n hx hb dX10_gain_0 rfl (lv_at hl 0 rfl) ?_
  refine lv_iload_n hx hb dX10_gain_1 rfl (lv_at hl 1 rfl) ?_
  by_cases cq : TX_X10_needPass p1 plan_passes pb_isWritten = 0
  · rw [if_pos cq] at hg
    have hpre := tp_X10_needPass cq
    have hPc := hP.sub (ws' := (wd_plan_pb a_plan a_reaches a_gains a_pb a_fld a_row a_ctx a_cw a_rw a_cr a_rr a_scan plan_planes plan_passes plan_segments plan_style plan_firstOfSegment pb_style pb_isWritten pb_isRead)) [0, 2] rfl
    have hDc := hD.sub (ws' := (wd_plan_pb a_plan a_reaches a_gains a_pb a_fld a_row a_ctx a_cw a_rw a_cr a_rr a_scan plan_planes plan_passes plan_segments plan_style plan_firstOfSegment pb_style pb_isWritten pb_isRead)) [0, 2] (by decide) rfl
    have hFc := va_free (wc := (wd_plan_pb a_plan a_reaches a_gains a_pb a_fld a_row a_ctx a_cw a_rw a_cr a_rr a_scan plan_planes plan_passes plan_segments plan_style plan_firstOfSegment pb_style pb_isWritten pb_isRead)) hD hS hA [0, 2] rfl
    refine va_callv (va_runV (As := [.int p1]) (rest := []) ⟨hx, hb, hml, hown, hts⟩ (c_X10_needPass l dC dI cI cJ cZ a_plan a_reaches a_gains a_pb a_fld a_row a_ctx a_cw a_rw a_cr a_rr a_scan H.size plan_planes plan_passes plan_segments plan_style plan_firstOfSegment pb_style pb_isWritten pb_isRead p1 hpre) (cwV 1 hts gX10_gain_X10_needPass rfl rfl rfl (by decide +kernel) ⟨Nat.le_of_ble_eq_true rfl, Nat.le_of_ble_eq_true rfl⟩) ⟨fun a U g mk q => by obtain ⟨q0, q1, qP, qK, qD⟩ := q; exact ⟨q0, q1, qP, va_K.moved (u := U) (U := U.calling g mk a) (Vm.Alike.refl U.vm) qK, qD⟩, va_recv hK hPc (ci := 9) (q0 := 1) rfl rfl, fun U hU hW => ⟨rfl, by rw [hU], by rw [hU]; exact hPc, va_K.moved hW.alike hK, hDc.weaken (fun _ _ _ _ => trivial)⟩⟩ rfl rfl hl.1 rfl (lv_room (Nat.le_of_ble_eq_true rfl)) dX10_gain_2 ⟨Nat.le_of_ble_eq_true rfl, Nat.le_of_ble_eq_true rfl⟩) hS (fun q _ h => hFc q h) hFc (fun u t H1 locs ht hvm hw hB hz1 hk1 hS => ?_)
    obtain ⟨hP1, hK1, hD1⟩ := hB
    rw [ht] at hP1
    obtain ⟨hP, hD⟩ := va_join (wr := [(a_gains, .inl (cJ, gains_n, .inr (.inl gains_f)))]) (w1 := (wd_plan_pb a_plan a_reaches a_gains a_pb a_fld a_row a_ctx a_cw a_rw a_cr a_rr a_scan plan_planes plan_passes plan_segments plan_style plan_firstOfSegment pb_style pb_isWritten pb_isRead)) hP hD [0, 2] [1] rfl rfl (by decide) (by decide) hk1 hFc hP1 hD1
    have hP : va_P (dC, dI) vwCl (wd_plan_gains_pb cJ a_plan a_reaches a_gains a_pb a_fld a_row a_ctx a_cw a_rw a_cr a_rr a_scan plan_planes plan_passes plan_segments plan_style plan_firstOfSegment gains_n gains_f pb_style pb_isWritten pb_isRead) H1 := hP.sub [1, 0, 2] rfl
    have hD : va_D A (wd_plan_gains_pb cJ a_plan a_reaches a_gains a_pb a_fld a_row a_ctx a_cw a_rw a_cr a_rr a_scan plan_planes plan_passes plan_segments plan_style plan_firstOfSegment gains_n gains_f pb_style pb_isWritten pb_isRead) := hD.sub [1, 0, 2] (by decide) rfl
    generalize H1 = H at hP hS ⊢
    exact absurd hg.symm hk
  · rw [if_neg cq] at hg
    have hPc := hP.sub (ws' := (wd_plan_pb a_plan a_reaches a_gains a_pb a_fld a_row a_ctx a_cw a_rw a_cr a_rr a_scan plan_planes plan_passes plan_segments plan_style plan_firstOfSegment pb_style pb_isWritten pb_isRead)) [0, 2] rfl
    have hDc := hD.sub (ws' := (wd_plan_pb a_plan a_reaches a_gains a_pb a_fld a_row a_ctx a_cw a_rw a_cr a_rr a_scan plan_planes plan_passes plan_segments plan_style plan_firstOfSegment pb_style pb_isWritten pb_isRead)) [0, 2] (by decide) rfl
    have hFc := va_free (wc := (wd_plan_pb a_plan a_reaches a_gains a_pb a_fld a_row a_ctx a_cw a_rw a_cr a_rr a_scan plan_planes plan_passes plan_segments plan_style plan_firstOfSegment pb_style pb_isWritten pb_isRead)) hD hS hA [0, 2] rfl
    refine vx_callv (vx_runV (As := [.int p1]) (rest := []) ⟨hx, hb, hml, hown, hts⟩ (cx_X10_needPass l hl0 dC dI cI cJ cZ a_plan a_reaches a_gains a_pb a_fld a_row a_ctx a_cw a_rw a_cr a_rr a_scan H.size plan_planes plan_passes plan_segments plan_style plan_firstOfSegment pb_style pb_isWritten pb_isRead p1 k hk hg) (cwV 1 hts gX10_gain_X10_needPass rfl rfl rfl (by decide +kernel) ⟨Nat.le_of_ble_eq_true rfl, Nat.le_of_ble_eq_true rfl⟩) ⟨fun a U g mk q => by obtain ⟨q0, q1, qP, qK, qD, qZ⟩ := q; exact ⟨q0, q1, qP, va_K.moved (u := U) (U := U.calling g mk a) (Vm.Alike.refl U.vm) qK, qD, Zt.same (u := U) (U := U.calling g mk a) rfl qZ⟩, va_recv hK hPc (ci := 9) (q0 := 1) rfl rfl, fun U hU hW => ⟨rfl, by rw [hU], by rw [hU]; exact hPc, va_K.moved hW.alike hK, hDc.weaken (fun _ _ _ _ => trivial), by rw [hU]; exact ((hZ.kept hS.2.1).narrow hFc).warm hW⟩⟩ rfl rfl hl.1 rfl (lv_room (Nat.le_of_ble_eq_true rfl)) dX10_gain_2 ⟨Nat.le_of_ble_eq_true rfl, Nat.le_of_ble_eq_true rfl⟩) hS (fun q _ h => hFc q h) hFc (fun q _ h => hFc q h) (fun E ce q9 u t H1 locs ht hvm hp hB hz1 hk1 hS hce hcv hcl => ?_) (fun u t H1 locs ht hvm hp hB hz1 hk1 hS => hp.elim)
    obtain ⟨hE, hP1, hK1, hD1⟩ := hB
    rw [ht] at hP1
    obtain ⟨hP, hD⟩ := va_join (wr := [(a_gains, .inl (cJ, gains_n, .inr (.inl gains_f)))]) (w1 := (wd_plan_pb a_plan a_reaches a_gains a_pb a_fld a_row a_ctx a_cw a_rw a_cr a_rr a_scan plan_planes plan_passes plan_segments plan_style plan_firstOfSegment pb_style pb_isWritten pb_isRead)) hP hD [0, 2] [1] rfl rfl (by decide) (by decide) hk1 hFc hP1 hD1
    have hP : va_P (dC, dI) vwCl (wd_plan_gains_pb cJ a_plan a_reaches a_gains a_pb a_fld a_row a_ctx a_cw a_rw a_cr a_rr a_scan plan_planes plan_passes plan_segments plan_style plan_firstOfSegment gains_n gains_f pb_style pb_isWritten pb_isRead) H1 := hP.sub [1, 0, 2] rfl
    have hD : va_D A (wd_plan_gains_pb cJ a_plan a_reaches a_gains a_pb a_fld a_row a_ctx a_cw a_rw a_cr a_rr a_scan plan_planes plan_passes plan_segments plan_style plan_firstOfSegment gains_n gains_f pb_style pb_isWritten pb_isRead) := hD.sub [1, 0, 2] (by decide) rfl
    rw [← hQe]
    exact vx_out (E := E) (fun x h9 => (hout x h9).elim) hlocks hce hcv hcl (fun t ht hW => ⟨(), trivial, ⟨hE, by rw [ht]; exact hP, va_K.moved hW hK, hD⟩, hS.F ht⟩) hS.2.2 (Nat.le_of_ble_eq_true rfl) (Nat.le_of_ble_eq_true rfl)
abbrev rmx_X10_at : Room := { frames := 8, cells := 1, slots := 6, locals := 131 }
def TX_X10_at (p1 : Int32) (row_count : Int32) (pb_isWritten : Int32) : Nat := if TX_X10_needByte p1 row_count pb_isWritten = 0 then 0 else TX_X10_needByte p1 row_count pb_isWritten
theorem cx_X10_at (l : Launch) (hl0 : l.stackTraces = false) (dC : Nat → ClassId) (dI : Nat → Nat → Nat) (cI cJ cZ : ClassId) (a_row : Nat) (a_bytes : Nat) (a_pb : Nat) (a_fld : Nat) (a_plan : Nat) (a_ctx : Nat) (a_cw : Nat) (a_rw : Nat) (a_cr : Nat) (a_rr : Nat) (a_scan : Nat) (sz : Nat) (row_count : Int32) (row_start : Int32) (bytes_n : Nat) (bytes_f : Nat → Int32) (pb_style : Int32) (pb_isWritten : Int32) (pb_isRead : Int32) (p1 : Int32) (k : Nat) (hk : k ≠ 0) (hT : TX_X10_at p1 row_count pb_isWritten = k) : vx_Met l yX10_at wsX10_at rmx_X10_at (va_Pc [.ref a_pb, .int p1] (fun U => U.heap.size = sz ∧ va_P (dC, dI) vwCl (wd_row_bytes_pb cI a_row a_bytes a_pb a_fld a_plan a_ctx a_cw a_rw a_cr a_rr a_scan row_count row_start bytes_n bytes_f pb_style pb_isWritten pb_isRead) U.heap ∧ va_K (dC, dI) vwCl [(cI, .int), (cJ, .long), (cZ, .boolean)] U ∧ va_D (fun _ => True) (wd_row_bytes_pb cI a_row a_bytes a_pb a_fld a_plan a_ctx a_cw a_rw a_cr a_rr a_scan row_count row_start bytes_n bytes_f pb_style pb_isWritten pb_isRead) ∧ Zt (va_A (wd_row_bytes_pb cI a_row a_bytes a_pb a_fld a_plan a_ctx a_cw a_rw a_cr a_rr a_scan row_count row_start bytes_n bytes_f pb_style pb_isWritten pb_isRead) sz) U U.heap)) (va_Qi (fun (_ : Int32) (_ : Unit) => False) (fun _ _ => True) (va_A (wd_row_bytes_pb cI a_row a_bytes a_pb a_fld a_plan a_ctx a_cw a_rw a_cr a_rr a_scan row_count row_start bytes_n bytes_f pb_style pb_isWritten pb_isRead) sz)) (vx_X (fun _ : Unit => True) (fun E _ t => E = exN k ∧ va_P (dC, dI) vwCl (wd_row_bytes_pb cI a_row a_bytes a_pb a_fld a_plan a_ctx a_cw a_rw a_cr a_rr a_scan row_count row_start bytes_n bytes_f pb_style pb_isWritten pb_isRead) t.heap ∧ va_K (dC, dI) vwCl [(cI, .int), (cJ, .long), (cZ, .boolean)] t ∧ va_D (va_A (wd_row_bytes_pb cI a_row a_bytes a_pb a_fld a_plan a_ctx a_cw a_rw a_cr a_rr a_scan row_count row_start bytes_n bytes_f pb_style pb_isWritten pb_isRead) sz) (wd_row_bytes_pb cI a_row a_bytes a_pb a_fld a_plan a_ctx a_cw a_rw a_cr a_rr a_scan row_count row_start bytes_n bytes_f pb_style pb_isWritten pb_isRead)) (va_A (wd_row_bytes_pb cI a_row a_bytes a_pb a_fld a_plan a_ctx a_cw a_rw a_cr a_rr a_scan row_count row_start bytes_n bytes_f pb_style pb_isWritten pb_isRead) sz)) 1 6 (va_A (wd_row_bytes_pb cI a_row a_bytes a_pb a_fld a_plan a_ctx a_cw a_rw a_cr a_rr a_scan row_count row_start bytes_n bytes_f pb_style pb_isWritten pb_isRead) sz) := by
  refine vx_ofW (cc := cX10_at) (maxL := 2) (ret := (some .int)) (by decide) rfl ?_
  intro p e s m args below meth c s₁ B hml hout hv
  obtain ⟨rfl, hsz, hP, hK, hD0, hZ⟩ := hv
  have hx := B.exec
  have hb := B.bytes
  have hr := B.returns
  have hts := atoms_spec (ws := wsX10_at) B.pre
  have hown : s.vm.findClass RX10 = some m.cls := findClass_of_methodNamed B.named
  have hlocks := B.notSynchronized
  subst hsz
  have hD := hD0.self (sz := s.heap.size)
  generalize hAe : va_A (wd_row_bytes_pb cI a_row a_bytes a_pb a_fld a_plan a_ctx a_cw a_rw a_cr a_rr a_scan row_count row_start bytes_n bytes_f pb_style pb_isWritten pb_isRead) s.heap.size = A at hD hZ ⊢
  have hA : ∀ q : Nat, s.heap.size ≤ q → A q := fun q h => by rw [← hAe]; exact Or.inr h
  have hS : va_S A s.heap s.heap [] := va_S.rf
  obtain ⟨H, hH⟩ : ∃ z, z = s.heap := ⟨_, rfl⟩
  have hP : va_P (dC, dI) vwCl (wd_row_bytes_pb cI a_row a_bytes a_pb a_fld a_plan a_ctx a_cw a_rw a_cr a_rr a_scan row_count row_start bytes_n bytes_f pb_style pb_isWritten pb_isRead) H := by rw [hH]; exact hP
  have hS : va_S A s.heap H [] := by rw [hH]; exact va_S.rf
  generalize hQe : vx_MQ below (va_Qi (fun (_ : Int32) (_ : Unit) => False) (fun _ _ => True) A) (vx_X (fun _ : Unit => True) (fun E _ t => E = exN k ∧ va_P (dC, dI) vwCl (wd_row_bytes_pb cI a_row a_bytes a_pb a_fld a_plan a_ctx a_cw a_rw a_cr a_rr a_scan row_count row_start bytes_n bytes_f pb_style pb_isWritten pb_isRead) t.heap ∧ va_K (dC, dI) vwCl [(cI, .int), (cJ, .long), (cZ, .boolean)] t ∧ va_D A (wd_row_bytes_pb cI a_row a_bytes a_pb a_fld a_plan a_ctx a_cw a_rw a_cr a_rr a_scan row_count row_start bytes_n bytes_f pb_style pb_isWritten pb_isRead)) A) _ s 1 6 A = Q
  rw [← hH]
  clear hH
  have hl := lv_entry ([.ref a_pb, .int p1]) (n := 2) (Nat.le_of_ble_eq_true rfl)
  rw [lg_entry_eq]
  generalize (lg_sl ([.ref a_pb, .int p1]) ++ List.replicate (2 - (lg_sl ([.ref a_pb, .int p1])).length) Slot.unset).toArray = ls at hl ⊢
  have hl : lv_has ls 2 [(0, .ref a_pb), (1, .int p1)] := hl
  have hg := hT
  unfold TX_X10_at at hg
  refine lv_aload_n hx hb dX10_at_0 rfl (lv_at hl 0 rfl) ?_
  refine lv_iload_n hx hb dX10_at_1 rfl (lv_at hl 1 rfl) ?_
  by_cases cq : TX_X10_needByte p1 row_count pb_isWritten = 0
  · rw [if_pos cq] at hg
    have hpre := tp_X10_needByte cq
    have hPc := hP.sub (ws' := (wd_row_pb a_row a_bytes a_pb a_fld a_plan a_ctx a_cw a_rw a_cr a_rr a_scan row_count row_start pb_style pb_isWritten pb_isRead)) [0, 2] rfl
    have hDc := hD.sub (ws' := (wd_row_pb a_row a_bytes a_pb a_fld a_plan a_ctx a_cw a_rw a_cr a_rr a_scan row_count row_start pb_style pb_isWritten pb_isRead)) [0, 2] (by decide) rfl
    have hFc := va_free (wc := (wd_row_pb a_row a_bytes a_pb a_fld a_plan a_ctx a_cw a_rw a_cr a_rr a_scan row_count row_start pb_style pb_isWritten pb_isRead)) hD hS hA [0, 2] rfl
    refine va_callv (va_runV (As := [.int p1]) (rest := []) ⟨hx, hb, hml, hown, hts⟩ (c_X10_needByte l dC dI cI cJ cZ a_row a_bytes a_pb a_fld a_plan a_ctx a_cw a_rw a_cr a_rr a_scan H.size row_count row_start pb_style pb_isWritten pb_isRead p1 hpre) (cwV 1 hts gX10_at_X10_needByte rfl rfl rfl (by decide +kernel) ⟨Nat.le_of_ble_eq_true rfl, Nat.le_of_ble_eq_true rfl⟩) ⟨fun a U g mk q => by obtain ⟨q0, q1, qP, qK, qD⟩ := q; exact ⟨q0, q1, qP, va_K.moved (u := U) (U := U.calling g mk a) (Vm.Alike.refl U.vm) qK, qD⟩, va_recv hK hPc (ci := 9) (q0 := 1) rfl rfl, fun U hU hW => ⟨rfl, by rw [hU], by rw [hU]; exact hPc, va_K.moved hW.alike hK, hDc.weaken (fun _ _ _ _ => trivial)⟩⟩ rfl rfl hl.1 rfl (lv_room (Nat.le_of_ble_eq_true rfl)) dX10_at_2 ⟨Nat.le_of_ble_eq_true rfl, Nat.le_of_ble_eq_true rfl⟩) hS (fun q _ h => hFc q h) hFc (fun u t H1 locs ht hvm hw hB hz1 hk1 hS => ?_)
    obtain ⟨hP1, hK1, hD1⟩ := hB
    rw [ht] at hP1
    obtain ⟨hP, hD⟩ := va_join (wr := [(a_bytes, .inl (cI, bytes_n, .inl bytes_f))]) (w1 := (wd_row_pb a_row a_bytes a_pb a_fld a_plan a_ctx a_cw a_rw a_cr a_rr a_scan row_count row_start pb_style pb_isWritten pb_isRead)) hP hD [0, 2] [1] rfl rfl (by decide) (by decide) hk1 hFc hP1 hD1
    have hP : va_P (dC, dI) vwCl (wd_row_bytes_pb cI a_row a_bytes a_pb a_fld a_plan a_ctx a_cw a_rw a_cr a_rr a_scan row_count row_start bytes_n bytes_f pb_style pb_isWritten pb_isRead) H1 := hP.sub [1, 0, 2] rfl
    have hD : va_D A (wd_row_bytes_pb cI a_row a_bytes a_pb a_fld a_plan a_ctx a_cw a_rw a_cr a_rr a_scan row_count row_start bytes_n bytes_f pb_style pb_isWritten pb_isRead) := hD.sub [1, 0, 2] (by decide) rfl
    generalize H1 = H at hP hS ⊢
    exact absurd hg.symm hk
  · rw [if_neg cq] at hg
    have hPc := hP.sub (ws' := (wd_row_pb a_row a_bytes a_pb a_fld a_plan a_ctx a_cw a_rw a_cr a_rr a_scan row_count row_start pb_style pb_isWritten pb_isRead)) [0, 2] rfl
    have hDc := hD.sub (ws' := (wd_row_pb a_row a_bytes a_pb a_fld a_plan a_ctx a_cw a_rw a_cr a_rr a_scan row_count row_start pb_style pb_isWritten pb_isRead)) [0, 2] (by decide) rfl
    have hFc := va_free (wc := (wd_row_pb a_row a_bytes a_pb a_fld a_plan a_ctx a_cw a_rw a_cr a_rr a_scan row_count row_start pb_style pb_isWritten pb_isRead)) hD hS hA [0, 2] rfl
    refine vx_callv (vx_runV (As := [.int p1]) (rest := []) ⟨hx, hb, hml, hown, hts⟩ (cx_X10_needByte l hl0 dC dI cI cJ cZ a_row a_bytes a_pb a_fld a_plan a_ctx a_cw a_rw a_cr a_rr a_scan H.size row_count row_start pb_style pb_isWritten pb_isRead p1 k hk hg) (cwV 1 hts gX10_at_X10_needByte rfl rfl rfl (by decide +kernel) ⟨Nat.le_of_ble_eq_true rfl, Nat.le_of_ble_eq_true rfl⟩) ⟨fun a U g mk q => by obtain ⟨q0, q1, qP, qK, qD, qZ⟩ := q; exact ⟨q0, q1, qP, va_K.moved (u := U) (U := U.calling g mk a) (Vm.Alike.refl U.vm) qK, qD, Zt.same (u := U) (U := U.calling g mk a) rfl qZ⟩, va_recv hK hPc (ci := 9) (q0 := 1) rfl rfl, fun U hU hW => ⟨rfl, by rw [hU], by rw [hU]; exact hPc, va_K.moved hW.alike hK, hDc.weaken (fun _ _ _ _ => trivial), by rw [hU]; exact ((hZ.kept hS.2.1).narrow hFc).warm hW⟩⟩ rfl rfl hl.1 rfl (lv_room (Nat.le_of_ble_eq_true rfl)) dX10_at_2 ⟨Nat.le_of_ble_eq_true rfl, Nat.le_of_ble_eq_true rfl⟩) hS (fun q _ h => hFc q h) hFc (fun q _ h => hFc q h) (fun E ce q9 u t H1 locs ht hvm hp hB hz1 hk1 hS hce hcv hcl => ?_) (fun u t H1 locs ht hvm hp hB hz1 hk1 hS => hp.elim)
    obtain ⟨hE, hP1, hK1, hD1⟩ := hB
    rw [ht] at hP1
    obtain ⟨hP, hD⟩ := va_join (wr := [(a_bytes, .inl (cI, bytes_n, .inl bytes_f))]) (w1 := (wd_row_pb a_row a_bytes a_pb a_fld a_plan a_ctx a_cw a_rw a_cr a_rr a_scan row_count row_start pb_style pb_isWritten pb_isRead)) hP hD [0, 2] [1] rfl rfl (by decide) (by decide) hk1 hFc hP1 hD1
    have hP : va_P (dC, dI) vwCl (wd_row_bytes_pb cI a_row a_bytes a_pb a_fld a_plan a_ctx a_cw a_rw a_cr a_rr a_scan row_count row_start bytes_n bytes_f pb_style pb_isWritten pb_isRead) H1 := hP.sub [1, 0, 2] rfl
    have hD : va_D A (wd_row_bytes_pb cI a_row a_bytes a_pb a_fld a_plan a_ctx a_cw a_rw a_cr a_rr a_scan row_count row_start bytes_n bytes_f pb_style pb_isWritten pb_isRead) := hD.sub [1, 0, 2] (by decide) rfl
    rw [← hQe]
    exact vx_out (E := E) (fun x h9 => (hout x h9).elim) hlocks hce hcv hcl (fun t ht hW => ⟨(), trivial, ⟨hE, by rw [ht]; exact hP, va_K.moved hW hK, hD⟩, hS.F ht⟩) hS.2.2 (Nat.le_of_ble_eq_true rfl) (Nat.le_of_ble_eq_true rfl)
abbrev rmx_X10_change : Room := { frames := 8, cells := 1, slots := 6, locals := 131 }
def TX_X10_change (p1 : Int32) (row_count : Int32) (pb_isWritten : Int32) : Nat := if TX_X10_needByte p1 row_count pb_isWritten = 0 then 0 else TX_X10_needByte p1 row_count pb_isWritten

set_option maxHeartbeats 4000000 in
set_option maxRecDepth 100000 in
theorem cy_L_pass_1 (l : Launch) (hl0 : l.stackTraces = false) (dC : Nat → ClassId) (dI : Nat → Nat → Nat) (cI cJ cZ : ClassId) (tP tN tO : Nat) (a_plan : Nat) (a_reaches : Nat) (a_gains : Nat) (a_pb : Nat) (a_fld : Nat) (a_row : Nat) (a_ctx : Nat) (a_cw : Nat) (a_rw : Nat) (a_cr : Nat) (a_rr : Nat) (a_scan : Nat) (a_out : Nat) (sz : Nat) (plan_planes : Int32) (plan_passes : Int32) (plan_segments : Int32) (plan_style : Int32) (plan_firstOfSegment : Int32) (reaches_n : Nat) (reaches_f : Nat → Int32) (pb_style : Int32) (pb_isWritten : Int32) (pb_isRead : Int32) (out_n : Nat) (out_f : Nat → Int64) (p2 : Int32) (p3 : Int32) (hT : TX_X10_pass p2 p3 plan_passes pb_isWritten = 1) : Met l yL_pass wsL_pass (rm_L_pass 6) (va_Pc [.ref a_pb, .int p2, .int p3, .ref a_out] (fun U => U.heap.size = sz ∧ va_P (dC, dI) vwCl (wd_plan_reaches_pb_out cI cJ a_plan a_reaches a_gains a_pb a_fld a_row a_ctx a_cw a_rw a_cr a_rr a_scan a_out plan_planes plan_passes plan_segments plan_style plan_firstOfSegment reaches_n reaches_f pb_style pb_isWritten pb_isRead out_n out_f) U.heap ∧ va_K (dC, dI) vwCl [(cI, .int), (cJ, .long), (cZ, .boolean)] U ∧ va_D (fun _ => True) (wd_plan_reaches_pb_out cI cJ a_plan a_reaches a_gains a_pb a_fld a_row a_ctx a_cw a_rw a_cr a_rr a_scan a_out plan_planes plan_passes plan_segments plan_style plan_firstOfSegment reaches_n reaches_f pb_style pb_isWritten pb_isRead out_n out_f) ∧ Zl tP tN tO (va_A (wd_plan_reaches_pb_out cI cJ a_plan a_reaches a_gains a_pb a_fld a_row a_ctx a_cw a_rw a_cr a_rr a_scan a_out plan_planes plan_passes plan_segments plan_style plan_firstOfSegment reaches_n reaches_f pb_style pb_isWritten pb_isRead out_n out_f) sz) U U.heap)) (Q_L_pass dC dI cI cJ cZ tP tN tO (va_A (wd_plan_reaches_pb_out cI cJ a_plan a_reaches a_gains a_pb a_fld a_row a_ctx a_cw a_rw a_cr a_rr a_scan a_out plan_planes plan_passes plan_segments plan_style plan_firstOfSegment reaches_n reaches_f pb_style pb_isWritten pb_isRead out_n out_f) sz) a_plan a_reaches a_gains a_pb a_fld a_row a_ctx a_cw a_rw a_cr a_rr a_scan a_out plan_planes plan_passes plan_segments plan_style plan_firstOfSegment reaches_n reaches_f pb_style pb_isWritten pb_isRead out_n out_f ((1 : Int32), out_f)) 6 6 (va_A (wd_plan_reaches_pb_out cI cJ a_plan a_reaches a_gains a_pb a_fld a_row a_ctx a_cw a_rw a_cr a_rr a_scan a_out plan_planes plan_passes plan_segments plan_style plan_firstOfSegment reaches_n reaches_f pb_style pb_isWritten pb_isRead out_n out_f) sz) := by
  refine va_MetW (cc := cL_pass) (maxL := 5) (ret := (some .int)) (hh := [(0, 10, 13, 26), (0, 10, 17, 32), (0, 10, 21, 13)]) (by decide) rfl ?_
  intro p e s m args below meth c s₁ B hml hv
  obtain ⟨rfl, hsz, hP, hK, hD0, hZ⟩ := hv
  have hx := B.exec
  have hb := B.bytes
  have hr := B.returns
  have hts := atoms_spec (ws := wsL_pass) B.pre
  have hown : s.vm.findClass RL = some m.cls := findClass_of_methodNamed B.named
  have hlocks := B.notSynchronized
  subst hsz
  have hD := hD0.self (sz := s.heap.size)
  generalize hAe : va_A (wd_plan_reaches_pb_out cI cJ a_plan a_reaches a_gains a_pb a_fld a_row a_ctx a_cw a_rw a_cr a_rr a_scan a_out plan_planes plan_passes plan_segments plan_style plan_firstOfSegment reaches_n reaches_f pb_style pb_isWritten pb_isRead out_n out_f) s.heap.size = A at hD hZ ⊢
  have hA : ∀ q : Nat, s.heap.size ≤ q → A q := fun q h => by rw [← hAe]; exact Or.inr h
  have hS : va_S A s.heap s.heap [] := va_S.rf
  obtain ⟨H, hH⟩ : ∃ z, z = s.heap := ⟨_, rfl⟩
  have hP : va_P (dC, dI) vwCl (wd_plan_reaches_pb_out cI cJ a_plan a_reaches a_gains a_pb a_fld a_row a_ctx a_cw a_rw a_cr a_rr a_scan a_out plan_planes plan_passes plan_segments plan_style plan_firstOfSegment reaches_n reaches_f pb_style pb_isWritten pb_isRead out_n out_f) H := by rw [hH]; exact hP
  have hS : va_S A s.heap H [] := by rw [hH]; exact va_S.rf
  have htab : c.exceptionTable.toList = tableOf [(0, 10, 13, 26), (0, 10, 17, 32), (0, 10, 21, 13)] := vx_table (x := yL_pass) B (hts _ List.mem_cons_self)
  generalize hQe : MQ below (Q_L_pass dC dI cI cJ cZ tP tN tO A a_plan a_reaches a_gains a_pb a_fld a_row a_ctx a_cw a_rw a_cr a_rr a_scan a_out plan_planes plan_passes plan_segments plan_style plan_firstOfSegment reaches_n reaches_f pb_style pb_isWritten pb_isRead out_n out_f ((1 : Int32), out_f)) _ s 6 6 A = Q
  rw [← hH]
  clear hH
  have hl := lv_entry ([.ref a_pb, .int p2, .int p3, .ref a_out]) (n := 5) (Nat.le_of_ble_eq_true rfl)
  rw [lg_entry_eq]
  generalize (lg_sl ([.ref a_pb, .int p2, .int p3, .ref a_out]) ++ List.replicate (5 - (lg_sl ([.ref a_pb, .int p2, .int p3, .ref a_out])).length) Slot.unset).toArray = ls at hl ⊢
  have hl : lv_has ls 5 [(0, .ref a_pb), (1, .int p2), (2, .int p3), (3, .ref a_out)] := hl
  refine lv_aload_n hx hb dL_pass_0 rfl (lv_at hl 3 rfl) ?_
  refine lv_iconst (v := 0) hx hb dL_pass_1 (by decide) ?_
  refine lv_aload_n hx hb dL_pass_2 rfl (lv_at hl 0 rfl) ?_
  refine lv_iload_n hx hb dL_pass_3 rfl (lv_at hl 1 rfl) ?_
  refine lv_iload_n hx hb dL_pass_4 rfl (lv_at hl 2 rfl) ?_
  have hPc := hP.sub (ws' := (wd_plan_reaches_pb cI a_plan a_reaches a_gains a_pb a_fld a_row a_ctx a_cw a_rw a_cr a_rr a_scan plan_planes plan_passes plan_segments plan_style plan_firstOfSegment reaches_n reaches_f pb_style pb_isWritten pb_isRead)) [0, 1, 2] rfl
  have hDc := hD.sub (ws' := (wd_plan_reaches_pb cI a_plan a_reaches a_gains a_pb a_fld a_row a_ctx a_cw a_rw a_cr a_rr a_scan plan_planes plan_passes plan_segments plan_style plan_firstOfSegment reaches_n reaches_f pb_style pb_isWritten pb_isRead)) [0, 1, 2] (by decide) rfl
  have hFc := va_free (wc := (wd_plan_reaches_pb cI a_plan a_reaches a_gains a_pb a_fld a_row a_ctx a_cw a_rw a_cr a_rr a_scan plan_planes plan_passes plan_segments plan_style plan_firstOfSegment reaches_n reaches_f pb_style pb_isWritten pb_isRead)) hD hS hA [0, 1, 2] rfl
  refine vx_calli (vx_runV (As := [.int p2, .int p3]) (rest := [.int (0 : Int32), .ref a_out]) ⟨hx, hb, hml, hown, hts⟩ (cx_X10_pass l hl0 dC dI cI cJ cZ a_plan a_reaches a_gains a_pb a_fld a_row a_ctx a_cw a_rw a_cr a_rr a_scan H.size plan_planes plan_passes plan_segments plan_style plan_firstOfSegment reaches_n reaches_f pb_style pb_isWritten pb_isRead p2 p3 1 (by decide) hT) (cwV 2 hts gL_pass_X10_pass rfl rfl rfl (by decide +kernel) ⟨Nat.le_of_ble_eq_true rfl, Nat.le_of_ble_eq_true rfl⟩) ⟨fun a U g mk q => by obtain ⟨q0, q1, qP, qK, qD, qZ⟩ := q; exact ⟨q0, q1, qP, va_K.moved (u := U) (U := U.calling g mk a) (Vm.Alike.refl U.vm) qK, qD, Zt.same (u := U) (U := U.calling g mk a) rfl qZ⟩, va_recv hK hPc (ci := 9) (q0 := 2) rfl rfl, fun U hU hW => ⟨rfl, by rw [hU], by rw [hU]; exact hPc, va_K.moved hW.alike hK, hDc.weaken (fun _ _ _ _ => trivial), by rw [hU]; exact ((hZ.2.kept hS.2.1).narrow hFc).warm hW⟩⟩ rfl rfl hl.1 rfl (lv_room (Nat.le_of_ble_eq_true rfl)) dL_pass_5 ⟨Nat.le_of_ble_eq_true rfl, Nat.le_of_ble_eq_true rfl⟩) hS (fun q _ h => hFc q h) hFc (fun q _ h => hFc q h) (fun E ce q9 u t H1 locs ht hvm hp hB hz1 hk1 hS hce hcv hcl => ?_) (fun r u t H1 locs ht hvm hp hB hz1 hk1 hS => hp.elim)
  obtain ⟨hE, hP1, hK1, hD1⟩ := hB
  rw [ht] at hP1
  have hE : E = "java/lang/IllegalStateException" := hE
  subst hE
  obtain ⟨hP, hD⟩ := va_join (wr := [(a_out, .inl (cJ, out_n, .inr (.inl out_f)))]) (w1 := (wd_plan_reaches_pb cI a_plan a_reaches a_gains a_pb a_fld a_row a_ctx a_cw a_rw a_cr a_rr a_scan plan_planes plan_passes plan_segments plan_style plan_firstOfSegment reaches_n reaches_f pb_style pb_isWritten pb_isRead)) hP hD [0, 1, 2] [3] rfl rfl (by decide) (by decide) hk1 hFc hP1 hD1
  have hP : va_P (dC, dI) vwCl (wd_plan_reaches_pb_out cI cJ a_plan a_reaches a_gains a_pb a_fld a_row a_ctx a_cw a_rw a_cr a_rr a_scan a_out plan_planes plan_passes plan_segments plan_style plan_firstOfSegment reaches_n reaches_f pb_style pb_isWritten pb_isRead out_n out_f) H1 := hP.sub [1, 2, 3, 0] rfl
  have hD : va_D A (wd_plan_reaches_pb_out cI cJ a_plan a_reaches a_gains a_pb a_fld a_row a_ctx a_cw a_rw a_cr a_rr a_scan a_out plan_planes plan_passes plan_segments plan_style plan_firstOfSegment reaches_n reaches_f pb_style pb_isWritten pb_isRead out_n out_f) := hD.sub [1, 2, 3, 0] (by decide) rfl
  have hpass : ∀ z ∈ ([] : List ExceptionTableEntry), covers z 5 = false ∨ (z.catchType ≠ 0 ∧ ∃ nm : String, (Cond.classLink RL z.catchType nm).before [.ref a_pb, .int p2, .int p3, .ref a_out].toArray s = true ∧ va_Nc "java/lang/IllegalStateException" nm s) := fun z hz => nomatch hz
  refine vx_catch (own := RL) (name := "java/lang/IllegalStateException") (E := "java/lang/IllegalStateException") hown [] ⟨0, 10, 13, 26⟩ [⟨0, 10, 17, 32⟩, ⟨0, 10, 21, 13⟩] htab hpass (by decide) (by decide) (hts (.classLink RL 26 "java/lang/IllegalStateException") (by decide +kernel)) (va_tabs rfl rfl hZ.2.2.2.1.2.2.2.2.1) hce hcv hcl ?_
  refine lv_astore (lv' := [(4, .ref q9), (0, .ref a_pb), (1, .int p2), (2, .int p3), (3, .ref a_out)]) hx hb dL_pass_13 hl (by decide) rfl (fun ls hl => ?_)
  refine lv_iconst (v := 1) hx hb dL_pass_15 (by decide) ?_
  refine W.widen (k := 6) (n := 6) (by decide) (by decide) ?_
  rw [← hQe]
  exact W.iret (v := (1 : Int32)) hx hb hr (fun t ht hW => ⟨⟨(1 : Int32), (), rfl, rfl, by rw [ht]; exact hP, va_K.moved hW.alike hK, hD⟩, hS.F ht⟩) hS.2.2 dL_pass_16
set_option maxHeartbeats 4000000 in
set_option maxRecDepth 100000 in
theorem cy_L_pass_2 (l : Launch) (hl0 : l.stackTraces = false) (dC : Nat → ClassId) (dI : Nat → Nat → Nat) (cI cJ cZ : ClassId) (tP tN tO : Nat) (a_plan : Nat) (a_reaches : Nat) (a_gains : Nat) (a_pb : Nat) (a_fld : Nat) (a_row : Nat) (a_ctx : Nat) (a_cw : Nat) (a_rw : Nat) (a_cr : Nat) (a_rr : Nat) (a_scan : Nat) (a_out : Nat) (sz : Nat) (plan_planes : Int32) (plan_passes : Int32) (plan_segments : Int32) (plan_style : Int32) (plan_firstOfSegment : Int32) (reaches_n : Nat) (reaches_f : Nat → Int32) (pb_style : Int32) (pb_isWritten : Int32) (pb_isRead : Int32) (out_n : Nat) (out_f : Nat → Int64) (p2 : Int32) (p3 : Int32) (hT : TX_X10_pass p2 p3 plan_passes pb_isWritten = 2) : Met l yL_pass wsL_pass (rm_L_pass 6) (va_Pc [.ref a_pb, .int p2, .int p3, .ref a_out] (fun U => U.heap.size = sz ∧ va_P (dC, dI) vwCl (wd_plan_reaches_pb_out cI cJ a_plan a_reaches a_gains a_pb a_fld a_row a_ctx a_cw a_rw a_cr a_rr a_scan a_out plan_planes plan_passes plan_segments plan_style plan_firstOfSegment reaches_n reaches_f pb_style pb_isWritten pb_isRead out_n out_f) U.heap ∧ va_K (dC, dI) vwCl [(cI, .int), (cJ, .long), (cZ, .boolean)] U ∧ va_D (fun _ => True) (wd_plan_reaches_pb_out cI cJ a_plan a_reaches a_gains a_pb a_fld a_row a_ctx a_cw a_rw a_cr a_rr a_scan a_out plan_planes plan_passes plan_segments plan_style plan_firstOfSegment reaches_n reaches_f pb_style pb_isWritten pb_isRead out_n out_f) ∧ Zl tP tN tO (va_A (wd_plan_reaches_pb_out cI cJ a_plan a_reaches a_gains a_pb a_fld a_row a_ctx a_cw a_rw a_cr a_rr a_scan a_out plan_planes plan_passes plan_segments plan_style plan_firstOfSegment reaches_n reaches_f pb_style pb_isWritten pb_isRead out_n out_f) sz) U U.heap)) (Q_L_pass dC dI cI cJ cZ tP tN tO (va_A (wd_plan_reaches_pb_out cI cJ a_plan a_reaches a_gains a_pb a_fld a_row a_ctx a_cw a_rw a_cr a_rr a_scan a_out plan_planes plan_passes plan_segments plan_style plan_firstOfSegment reaches_n reaches_f pb_style pb_isWritten pb_isRead out_n out_f) sz) a_plan a_reaches a_gains a_pb a_fld a_row a_ctx a_cw a_rw a_cr a_rr a_scan a_out plan_planes plan_passes plan_segments plan_style plan_firstOfSegment reaches_n reaches_f pb_style pb_isWritten pb_isRead out_n out_f ((2 : Int32), out_f)) 6 6 (va_A (wd_plan_reaches_pb_out cI cJ a_plan a_reaches a_gains a_pb a_fld a_row a_ctx a_cw a_rw a_cr a_rr a_scan a_out plan_planes plan_passes plan_segments plan_style plan_firstOfSegment reaches_n reaches_f pb_style pb_isWritten pb_isRead out_n out_f) sz) := by
  refine va_MetW (cc := cL_pass) (maxL := 5) (ret := (some .int)) (hh := [(0, 10, 13, 26), (0, 10, 17, 32), (0, 10, 21, 13)]) (by decide) rfl ?_
  intro p e s m args below meth c s₁ B hml hv
  obtain ⟨rfl, hsz, hP, hK, hD0, hZ⟩ := hv
  have hx := B.exec
  have hb := B.bytes
  have hr := B.returns
  have hts := atoms_spec (ws := wsL_pass) B.pre
  have hown : s.vm.findClass RL = some m.cls := findClass_of_methodNamed B.named
  have hlocks := B.notSynchronized
  subst hsz
  have hD := hD0.self (sz := s.heap.size)
  generalize hAe : va_A (wd_plan_reaches_pb_out cI cJ a_plan a_reaches a_gains a_pb a_fld a_row a_ctx a_cw a_rw a_cr a_rr a_scan a_out plan_planes plan_passes plan_segments plan_style plan_firstOfSegment reaches_n reaches_f pb_style pb_isWritten pb_isRead out_n out_f) s.heap.size = A at hD hZ ⊢
  have hA : ∀ q : Nat, s.heap.size ≤ q → A q := fun q h => by rw [← hAe]; exact Or.inr h
  have hS : va_S A s.heap s.heap [] := va_S.rf
  obtain ⟨H, hH⟩ : ∃ z, z = s.heap := ⟨_, rfl⟩
  have hP : va_P (dC, dI) vwCl (wd_plan_reaches_pb_out cI cJ a_plan a_reaches a_gains a_pb a_fld a_row a_ctx a_cw a_rw a_cr a_rr a_scan a_out plan_planes plan_passes plan_segments plan_style plan_firstOfSegment reaches_n reaches_f pb_style pb_isWritten pb_isRead out_n out_f) H := by rw [hH]; exact hP
  have hS : va_S A s.heap H [] := by rw [hH]; exact va_S.rf
  have htab : c.exceptionTable.toList = tableOf [(0, 10, 13, 26), (0, 10, 17, 32), (0, 10, 21, 13)] := vx_table (x := yL_pass) B (hts _ List.mem_cons_self)
  generalize hQe : MQ below (Q_L_pass dC dI cI cJ cZ tP tN tO A a_plan a_reaches a_gains a_pb a_fld a_row a_ctx a_cw a_rw a_cr a_rr a_scan a_out plan_planes plan_passes plan_segments plan_style plan_firstOfSegment reaches_n reaches_f pb_style pb_isWritten pb_isRead out_n out_f ((2 : Int32), out_f)) _ s 6 6 A = Q
  rw [← hH]
  clear hH
  have hl := lv_entry ([.ref a_pb, .int p2, .int p3, .ref a_out]) (n := 5) (Nat.le_of_ble_eq_true rfl)
  rw [lg_entry_eq]
  generalize (lg_sl ([.ref a_pb, .int p2, .int p3, .ref a_out]) ++ List.replicate (5 - (lg_sl ([.ref a_pb, .int p2, .int p3, .ref a_out])).length) Slot.unset).toArray = ls at hl ⊢
  have hl : lv_has ls 5 [(0, .ref a_pb), (1, .int p2), (2, .int p3), (3, .ref a_out)] := hl
  refine lv_aload_n hx hb dL_pass_0 rfl (lv_at hl 3 rfl) ?_
  refine lv_iconst (v := 0) hx hb dL_pass_1 (by decide) ?_
  refine lv_aload_n hx hb dL_pass_2 rfl (lv_at hl 0 rfl) ?_
  refine lv_iload_n hx hb dL_pass_3 rfl (lv_at hl 1 rfl) ?_
  refine lv_iload_n hx hb dL_pass_4 rfl (lv_at hl 2 rfl) ?_
  have hPc := hP.sub (ws' := (wd_plan_reaches_pb cI a_plan a_reaches a_gains a_pb a_fld a_row a_ctx a_cw a_rw a_cr a_rr a_scan plan_planes plan_passes plan_segments plan_style plan_firstOfSegment reaches_n reaches_f pb_style pb_isWritten pb_isRead)) [0, 1, 2] rfl
  have hDc := hD.sub (ws' := (wd_plan_reaches_pb cI a_plan a_reaches a_gains a_pb a_fld a_row a_ctx a_cw a_rw a_cr a_rr a_scan plan_planes plan_passes plan_segments plan_style plan_firstOfSegment reaches_n reaches_f pb_style pb_isWritten pb_isRead)) [0, 1, 2] (by decide) rfl
  have hFc := va_free (wc := (wd_plan_reaches_pb cI a_plan a_reaches a_gains a_pb a_fld a_row a_ctx a_cw a_rw a_cr a_rr a_scan plan_planes plan_passes plan_segments plan_style plan_firstOfSegment reaches_n reaches_f pb_style pb_isWritten pb_isRead)) hD hS hA [0, 1, 2] rfl
  refine vx_calli (vx_runV (As := [.int p2, .int p3]) (rest := [.int (0 : Int32), .ref a_out]) ⟨hx, hb, hml, hown, hts⟩ (cx_X10_pass l hl0 dC dI cI cJ cZ a_plan a_reaches a_gains a_pb a_fld a_row a_ctx a_cw a_rw a_cr a_rr a_scan H.size plan_planes plan_passes plan_segments plan_style plan_firstOfSegment reaches_n reaches_f pb_style pb_isWritten pb_isRead p2 p3 2 (by decide) hT) (cwV 2 hts gL_pass_X10_pass rfl rfl rfl (by decide +kernel) ⟨Nat.le_of_ble_eq_true rfl, Nat.le_of_ble_eq_true rfl⟩) ⟨fun a U g mk q => by obtain ⟨q0, q1, qP, qK, qD, qZ⟩ := q; exact ⟨q0, q1, qP, va_K.moved (u := U) (U := U.calling g mk a) (Vm.Alike.refl U.vm) qK, qD, Zt.same (u := U) (U := U.calling g mk a) rfl qZ⟩, va_recv hK hPc (ci := 9) (q0 := 2) rfl rfl, fun U hU hW => ⟨rfl, by rw [hU], by rw [hU]; exact hPc, va_K.moved hW.alike hK, hDc.weaken (fun _ _ _ _ => trivial), by rw [hU]; exact ((hZ.2.kept hS.2.1).narrow hFc).warm hW⟩⟩ rfl rfl hl.1 rfl (lv_room (Nat.le_of_ble_eq_true rfl)) dL_pass_5 ⟨Nat.le_of_ble_eq_true rfl, Nat.le_of_ble_eq_true rfl⟩) hS (fun q _ h => hFc q h) hFc (fun q _ h => hFc q h) (fun E ce q9 u t H1 locs ht hvm hp hB hz1 hk1 hS hce hcv hcl => ?_) (fun r u t H1 locs ht hvm hp hB hz1 hk1 hS => hp.elim)
  obtain ⟨hE, hP1, hK1, hD1⟩ := hB
  rw [ht] at hP1
  have hE : E = "java/lang/IndexOutOfBoundsException" := hE
  subst hE
  obtain ⟨hP, hD⟩ := va_join (wr := [(a_out, .inl (cJ, out_n, .inr (.inl out_f)))]) (w1 := (wd_plan_reaches_pb cI a_plan a_reaches a_gains a_pb a_fld a_row a_ctx a_cw a_rw a_cr a_rr a_scan plan_planes plan_passes plan_segments plan_style plan_firstOfSegment reaches_n reaches_f pb_style pb_isWritten pb_isRead)) hP hD [0, 1, 2] [3] rfl rfl (by decide) (by decide) hk1 hFc hP1 hD1
  have hP : va_P (dC, dI) vwCl (wd_plan_reaches_pb_out cI cJ a_plan a_reaches a_gains a_pb a_fld a_row a_ctx a_cw a_rw a_cr a_rr a_scan a_out plan_planes plan_passes plan_segments plan_style plan_firstOfSegment reaches_n reaches_f pb_style pb_isWritten pb_isRead out_n out_f) H1 := hP.sub [1, 2, 3, 0] rfl
  have hD : va_D A (wd_plan_reaches_pb_out cI cJ a_plan a_reaches a_gains a_pb a_fld a_row a_ctx a_cw a_rw a_cr a_rr a_scan a_out plan_planes plan_passes plan_segments plan_style plan_firstOfSegment reaches_n reaches_f pb_style pb_isWritten pb_isRead out_n out_f) := hD.sub [1, 2, 3, 0] (by decide) rfl
  have hpass : ∀ z ∈ ([⟨0, 10, 13, 26⟩] : List ExceptionTableEntry), covers z 5 = false ∨ (z.catchType ≠ 0 ∧ ∃ nm : String, (Cond.classLink RL z.catchType nm).before [.ref a_pb, .int p2, .int p3, .ref a_out].toArray s = true ∧ va_Nc "java/lang/IndexOutOfBoundsException" nm s) := by
      intro z hz
      rcases List.mem_cons.mp hz with rfl | hz
      · exact Or.inr ⟨by decide, "java/lang/IllegalStateException", hts (.classLink RL 26 "java/lang/IllegalStateException") (by decide +kernel), hZ.2.2.2.2.1.2.1⟩
      cases hz
  refine vx_catch (own := RL) (name := "java/lang/IndexOutOfBoundsException") (E := "java/lang/IndexOutOfBoundsException") hown [⟨0, 10, 13, 26⟩] ⟨0, 10, 17, 32⟩ [⟨0, 10, 21, 13⟩] htab hpass (by decide) (by decide) (hts (.classLink RL 32 "java/lang/IndexOutOfBoundsException") (by decide +kernel)) (va_tabs rfl rfl hZ.2.2.2.1.2.2.2.2.2) hce hcv hcl ?_
  refine lv_astore (lv' := [(4, .ref q9), (0, .ref a_pb), (1, .int p2), (2, .int p3), (3, .ref a_out)]) hx hb dL_pass_17 hl (by decide) rfl (fun ls hl => ?_)
  refine lv_iconst (v := 2) hx hb dL_pass_19 (by decide) ?_
  refine W.widen (k := 6) (n := 6) (by decide) (by decide) ?_
  rw [← hQe]
  exact W.iret (v := (2 : Int32)) hx hb hr (fun t ht hW => ⟨⟨(2 : Int32), (), rfl, rfl, by rw [ht]; exact hP, va_K.moved hW.alike hK, hD⟩, hS.F ht⟩) hS.2.2 dL_pass_20
set_option maxHeartbeats 4000000 in
set_option maxRecDepth 100000 in
theorem cy_L_pass_3 (l : Launch) (hl0 : l.stackTraces = false) (dC : Nat → ClassId) (dI : Nat → Nat → Nat) (cI cJ cZ : ClassId) (tP tN tO : Nat) (a_plan : Nat) (a_reaches : Nat) (a_gains : Nat) (a_pb : Nat) (a_fld : Nat) (a_row : Nat) (a_ctx : Nat) (a_cw : Nat) (a_rw : Nat) (a_cr : Nat) (a_rr : Nat) (a_scan : Nat) (a_out : Nat) (sz : Nat) (plan_planes : Int32) (plan_passes : Int32) (plan_segments : Int32) (plan_style : Int32) (plan_firstOfSegment : Int32) (reaches_n : Nat) (reaches_f : Nat → Int32) (pb_style : Int32) (pb_isWritten : Int32) (pb_isRead : Int32) (out_n : Nat) (out_f : Nat → Int64) (p2 : Int32) (p3 : Int32) (hT : TX_X10_pass p2 p3 plan_passes pb_isWritten = 3) : Met l yL_pass wsL_pass (rm_L_pass 6) (va_Pc [.ref a_pb, .int p2, .int p3, .ref a_out] (fun U => U.heap.size = sz ∧ va_P (dC, dI) vwCl (wd_plan_reaches_pb_out cI cJ a_plan a_reaches a_gains a_pb a_fld a_row a_ctx a_cw a_rw a_cr a_rr a_scan a_out plan_planes plan_passes plan_segments plan_style plan_firstOfSegment reaches_n reaches_f pb_style pb_isWritten pb_isRead out_n out_f) U.heap ∧ va_K (dC, dI) vwCl [(cI, .int), (cJ, .long), (cZ, .boolean)] U ∧ va_D (fun _ => True) (wd_plan_reaches_pb_out cI cJ a_plan a_reaches a_gains a_pb a_fld a_row a_ctx a_cw a_rw a_cr a_rr a_scan a_out plan_planes plan_passes plan_segments plan_style plan_firstOfSegment reaches_n reaches_f pb_style pb_isWritten pb_isRead out_n out_f) ∧ Zl tP tN tO (va_A (wd_plan_reaches_pb_out cI cJ a_plan a_reaches a_gains a_pb a_fld a_row a_ctx a_cw a_rw a_cr a_rr a_scan a_out plan_planes plan_passes plan_segments plan_style plan_firstOfSegment reaches_n reaches_f pb_style pb_isWritten pb_isRead out_n out_f) sz) U U.heap)) (Q_L_pass dC dI cI cJ cZ tP tN tO (va_A (wd_plan_reaches_pb_out cI cJ a_plan a_reaches a_gains a_pb a_fld a_row a_ctx a_cw a_rw a_cr a_rr a_scan a_out plan_planes plan_passes plan_segments plan_style plan_firstOfSegment reaches_n reaches_f pb_style pb_isWritten pb_isRead out_n out_f) sz) a_plan a_reaches a_gains a_pb a_fld a_row a_ctx a_cw a_rw a_cr a_rr a_scan a_out plan_planes plan_passes plan_segments plan_style plan_firstOfSegment reaches_n reaches_f pb_style pb_isWritten pb_isRead out_n out_f ((3 : Int32), out_f)) 6 6 (va_A (wd_plan_reaches_pb_out cI cJ a_plan a_reaches a_gains a_pb a_fld a_row a_ctx a_cw a_rw a_cr a_rr a_scan a_out plan_planes plan_passes plan_segments plan_style plan_firstOfSegment reaches_n reaches_f pb_style pb_isWritten pb_isRead out_n out_f) sz) := by
  refine va_MetW (cc := cL_pass) (maxL := 5) (ret := (some .int)) (hh := [(0, 10, 13, 26), (0, 10, 17, 32), (0, 10, 21, 13)]) (by decide) rfl ?_
  intro p e s m args below meth c s₁ B hml hv
  obtain ⟨rfl, hsz, hP, hK, hD0, hZ⟩ := hv
  have hx := B.exec
  have hb := B.bytes
  have hr := B.returns
  have hts := atoms_spec (ws := wsL_pass) B.pre
  have hown : s.vm.findClass RL = some m.cls := findClass_of_methodNamed B.named
  have hlocks := B.notSynchronized
  subst hsz
  have hD := hD0.self (sz := s.heap.size)
  generalize hAe : va_A (wd_plan_reaches_pb_out cI cJ a_plan a_reaches a_gains a_pb a_fld a_row a_ctx a_cw a_rw a_cr a_rr a_scan a_out plan_planes plan_passes plan_segments plan_style plan_firstOfSegment reaches_n reaches_f pb_style pb_isWritten pb_isRead out_n out_f) s.heap.size = A at hD hZ ⊢
  have hA : ∀ q : Nat, s.heap.size ≤ q → A q := fun q h => by rw [← hAe]; exact Or.inr h
  have hS : va_S A s.heap s.heap [] := va_S.rf
  obtain ⟨H, hH⟩ : ∃ z, z = s.heap := ⟨_, rfl⟩
  have hP : va_P (dC, dI) vwCl (wd_plan_reaches_pb_out cI cJ a_plan a_reaches a_gains a_pb a_fld a_row a_ctx a_cw a_rw a_cr a_rr a_scan a_out plan_planes plan_passes plan_segments plan_style plan_firstOfSegment reaches_n reaches_f pb_style pb_isWritten pb_isRead out_n out_f) H := by rw [hH]; exact hP
  have hS : va_S A s.heap H [] := by rw [hH]; exact va_S.rf
  have htab : c.exceptionTable.toList = tableOf [(0, 10, 13, 26), (0, 10, 17, 32), (0, 10, 21, 13)] := vx_table (x := yL_pass) B (hts _ List.mem_cons_self)
  generalize hQe : MQ below (Q_L_pass dC dI cI cJ cZ tP tN tO A a_plan a_reaches a_gains a_pb a_fld a_row a_ctx a_cw a_rw a_cr a_rr a_scan a_out plan_planes plan_passes plan_segments plan_style plan_firstOfSegment reaches_n reaches_f pb_style pb_isWritten pb_isRead out_n out_f ((3 : Int32), out_f)) _ s 6 6 A = Q
  rw [← hH]
  clear hH
  have hl := lv_entry ([.ref a_pb, .int p2, .int p3, .ref a_out]) (n := 5) (Nat.le_of_ble_eq_true rfl)
  rw [lg_entry_eq]
  generalize (lg_sl ([.ref a_pb, .int p2, .int p3, .ref a_out]) ++ List.replicate (5 - (lg_sl ([.ref a_pb, .int p2, .int p3, .ref a_out])).length) Slot.unset).toArray = ls at hl ⊢
  have hl : lv_has ls 5 [(0, .ref a_pb), (1, .int p2), (2, .int p3), (3, .ref a_out)] := hl
  refine lv_aload_n hx hb dL_pass_0 rfl (lv_at hl 3 rfl) ?_
  refine lv_iconst (v := 0) hx hb dL_pass_1 (by decide) ?_
  refine lv_aload_n hx hb dL_pass_2 rfl (lv_at hl 0 rfl) ?_
  refine lv_iload_n hx hb dL_pass_3 rfl (lv_at hl 1 rfl) ?_
  refine lv_iload_n hx hb dL_pass_4 rfl (lv_at hl 2 rfl) ?_
  have hPc := hP.sub (ws' := (wd_plan_reaches_pb cI a_plan a_reaches a_gains a_pb a_fld a_row a_ctx a_cw a_rw a_cr a_rr a_scan plan_planes plan_passes plan_segments plan_style plan_firstOfSegment reaches_n reaches_f pb_style pb_isWritten pb_isRead)) [0, 1, 2] rfl
  have hDc := hD.sub (ws' := (wd_plan_reaches_pb cI a_plan a_reaches a_gains a_pb a_fld a_row a_ctx a_cw a_rw a_cr a_rr a_scan plan_planes plan_passes plan_segments plan_style plan_firstOfSegment reaches_n reaches_f pb_style pb_isWritten pb_isRead)) [0, 1, 2] (by decide) rfl
  have hFc := va_free (wc := (wd_plan_reaches_pb cI a_plan a_reaches a_gains a_pb a_fld a_row a_ctx a_cw a_rw a_cr a_rr a_scan plan_planes plan_passes plan_segments plan_style plan_firstOfSegment reaches_n reaches_f pb_style pb_isWritten pb_isRead)) hD hS hA [0, 1, 2] rfl
  refine vx_calli (vx_runV (As := [.int p2, .int p3]) (rest := [.int (0 : Int32), .ref a_out]) ⟨hx, hb, hml, hown, hts⟩ (cx_X10_pass l hl0 dC dI cI cJ cZ a_plan a_reaches a_gains a_pb a_fld a_row a_ctx a_cw a_rw a_cr a_rr a_scan H.size plan_planes plan_passes plan_segments plan_style plan_firstOfSegment reaches_n reaches_f pb_style pb_isWritten pb_isRead p2 p3 3 (by decide) hT) (cwV 2 hts gL_pass_X10_pass rfl rfl rfl (by decide +kernel) ⟨Nat.le_of_ble_eq_true rfl, Nat.le_of_ble_eq_true rfl⟩) ⟨fun a U g mk q => by obtain ⟨q0, q1, qP, qK, qD, qZ⟩ := q; exact ⟨q0, q1, qP, va_K.moved (u := U) (U := U.calling g mk a) (Vm.Alike.refl U.vm) qK, qD, Zt.same (u := U) (U := U.calling g mk a) rfl qZ⟩, va_recv hK hPc (ci := 9) (q0 := 2) rfl rfl, fun U hU hW => ⟨rfl, by rw [hU], by rw [hU]; exact hPc, va_K.moved hW.alike hK, hDc.weaken (fun _ _ _ _ => trivial), by rw [hU]; exact ((hZ.2.kept hS.2.1).narrow hFc).warm hW⟩⟩ rfl rfl hl.1 rfl (lv_room (Nat.le_of_ble_eq_true rfl)) dL_pass_5 ⟨Nat.le_of_ble_eq_true rfl, Nat.le_of_ble_eq_true rfl⟩) hS (fun q _ h => hFc q h) hFc (fun q _ h => hFc q h) (fun E ce q9 u t H1 locs ht hvm hp hB hz1 hk1 hS hce hcv hcl => ?_) (fun r u t H1 locs ht hvm hp hB hz1 hk1 hS => hp.elim)
  obtain ⟨hE, hP1, hK1, hD1⟩ := hB
  rw [ht] at hP1
  have hE : E = "java/lang/IllegalArgumentException" := hE
  subst hE
  obtain ⟨hP, hD⟩ := va_join (wr := [(a_out, .inl (cJ, out_n, .inr (.inl out_f)))]) (w1 := (wd_plan_reaches_pb cI a_plan a_reaches a_gains a_pb a_fld a_row a_ctx a_cw a_rw a_cr a_rr a_scan plan_planes plan_passes plan_segments plan_style plan_firstOfSegment reaches_n reaches_f pb_style pb_isWritten pb_isRead)) hP hD [0, 1, 2] [3] rfl rfl (by decide) (by decide) hk1 hFc hP1 hD1
  have hP : va_P (dC, dI) vwCl (wd_plan_reaches_pb_out cI cJ a_plan a_reaches a_gains a_pb a_fld a_row a_ctx a_cw a_rw a_cr a_rr a_scan a_out plan_planes plan_passes plan_segments plan_style plan_firstOfSegment reaches_n reaches_f pb_style pb_isWritten pb_isRead out_n out_f) H1 := hP.sub [1, 2, 3, 0] rfl
  have hD : va_D A (wd_plan_reaches_pb_out cI cJ a_plan a_reaches a_gains a_pb a_fld a_row a_ctx a_cw a_rw a_cr a_rr a_scan a_out plan_planes plan_passes plan_segments plan_style plan_firstOfSegment reaches_n reaches_f pb_style pb_isWritten pb_isRead out_n out_f) := hD.sub [1, 2, 3, 0] (by decide) rfl
  have hpass : ∀ z ∈ ([⟨0, 10, 13, 26⟩, ⟨0, 10, 17, 32⟩] : List ExceptionTableEntry), covers z 5 = false ∨ (z.catchType ≠ 0 ∧ ∃ nm : String, (Cond.classLink RL z.catchType nm).before [.ref a_pb, .int p2, .int p3, .ref a_out].toArray s = true ∧ va_Nc "java/lang/IllegalArgumentException" nm s) := by
      intro z hz
      rcases List.mem_cons.mp hz with rfl | hz
      · exact Or.inr ⟨by decide, "java/lang/IllegalStateException", hts (.classLink RL 26 "java/lang/IllegalStateException") (by decide +kernel), hZ.2.2.2.2.1.1⟩
      rcases List.mem_cons.mp hz with rfl | hz
      · exact Or.inr ⟨by decide, "java/lang/IndexOutOfBoundsException", hts (.classLink RL 32 "java/lang/IndexOutOfBoundsException") (by decide +kernel), hZ.2.2.2.2.1.2.2.1⟩
      cases hz
  refine vx_catch (own := RL) (name := "java/lang/IllegalArgumentException") (E := "java/lang/IllegalArgumentException") hown [⟨0, 10, 13, 26⟩, ⟨0, 10, 17, 32⟩] ⟨0, 10, 21, 13⟩ [] htab hpass (by decide) (by decide) (hts (.classLink RL 13 "java/lang/IllegalArgumentException") (by decide +kernel)) (va_tabs rfl rfl hZ.2.2.2.1.2.2.2.1) hce hcv hcl ?_
  refine lv_astore (lv' := [(4, .ref q9), (0, .ref a_pb), (1, .int p2), (2, .int p3), (3, .ref a_out)]) hx hb dL_pass_21 hl (by decide) rfl (fun ls hl => ?_)
  refine lv_iconst (v := 3) hx hb dL_pass_23 (by decide) ?_
  refine W.widen (k := 6) (n := 6) (by decide) (by decide) ?_
  rw [← hQe]
  exact W.iret (v := (3 : Int32)) hx hb hr (fun t ht hW => ⟨⟨(3 : Int32), (), rfl, rfl, by rw [ht]; exact hP, va_K.moved hW.alike hK, hD⟩, hS.F ht⟩) hS.2.2 dL_pass_24
noncomputable def F_L_pass (p2 : Int32) (p3 : Int32) (plan_planes : Int32) (plan_passes : Int32) (plan_style : Int32) (reaches_f : Nat → Int32) (pb_isWritten : Int32) (out_f : Nat → Int64) : (Int32 × (Nat → Int64)) := if TX_X10_pass p2 p3 plan_passes pb_isWritten = 0 then (FA_L_pass p2 p3 plan_planes plan_passes plan_style reaches_f out_f) else (if TX_X10_pass p2 p3 plan_passes pb_isWritten = 1 then (1 : Int32) else if TX_X10_pass p2 p3 plan_passes pb_isWritten = 2 then (2 : Int32) else if TX_X10_pass p2 p3 plan_passes pb_isWritten = 3 then (3 : Int32) else (0 : Int32), out_f)
noncomputable def D_L_pass (p2 : Int32) (p3 : Int32) (plan_passes : Int32) (pb_isWritten : Int32) : Nat := if TX_X10_pass p2 p3 plan_passes pb_isWritten = 0 then DA_L_pass else 6
def P_L_pass (p2 : Int32) (p3 : Int32) (plan_planes : Int32) (plan_passes : Int32) (plan_style : Int32) (reaches_n : Nat) (reaches_f : Nat → Int32) (pb_isWritten : Int32) (out_n : Nat) : Prop := (TX_X10_pass p2 p3 plan_passes pb_isWritten = 0 → (PA_L_pass p2 p3 plan_planes plan_passes plan_style reaches_n reaches_f pb_isWritten out_n))
theorem txr_L_pass (p1 : Int32) (p2 : Int32) (plan_passes : Int32) (pb_isWritten : Int32) : TX_X10_pass p1 p2 plan_passes pb_isWritten = 0 ∨ TX_X10_pass p1 p2 plan_passes pb_isWritten = 1 ∨ TX_X10_pass p1 p2 plan_passes pb_isWritten = 2 ∨ TX_X10_pass p1 p2 plan_passes pb_isWritten = 3 := by
  unfold TX_X10_pass TX_X10_needPass TX_X10_needWritten
  try dsimp only
  repeat' split
  all_goals first | (simp; done) | (simp_all; done) | omega
theorem c_L_pass (l : Launch) (hl0 : l.stackTraces = false) (dC : Nat → ClassId) (dI : Nat → Nat → Nat) (cI cJ cZ : ClassId) (tP tN tO : Nat) (a_plan : Nat) (a_reaches : Nat) (a_gains : Nat) (a_pb : Nat) (a_fld : Nat) (a_row : Nat) (a_ctx : Nat) (a_cw : Nat) (a_rw : Nat) (a_cr : Nat) (a_rr : Nat) (a_scan : Nat) (a_out : Nat) (sz : Nat) (plan_planes : Int32) (plan_passes : Int32) (plan_segments : Int32) (plan_style : Int32) (plan_firstOfSegment : Int32) (reaches_n : Nat) (reaches_f : Nat → Int32) (pb_style : Int32) (pb_isWritten : Int32) (pb_isRead : Int32) (out_n : Nat) (out_f : Nat → Int64) (p2 : Int32) (p3 : Int32) (hpre : P_L_pass p2 p3 plan_planes plan_passes plan_style reaches_n reaches_f pb_isWritten out_n) : Met l yL_pass wsL_pass (rm_L_pass (D_L_pass p2 p3 plan_passes pb_isWritten)) (va_Pc [.ref a_pb, .int p2, .int p3, .ref a_out] (fun U => U.heap.size = sz ∧ va_P (dC, dI) vwCl (wd_plan_reaches_pb_out cI cJ a_plan a_reaches a_gains a_pb a_fld a_row a_ctx a_cw a_rw a_cr a_rr a_scan a_out plan_planes plan_passes plan_segments plan_style plan_firstOfSegment reaches_n reaches_f pb_style pb_isWritten pb_isRead out_n out_f) U.heap ∧ va_K (dC, dI) vwCl [(cI, .int), (cJ, .long), (cZ, .boolean)] U ∧ va_D (fun _ => True) (wd_plan_reaches_pb_out cI cJ a_plan a_reaches a_gains a_pb a_fld a_row a_ctx a_cw a_rw a_cr a_rr a_scan a_out plan_planes plan_passes plan_segments plan_style plan_firstOfSegment reaches_n reaches_f pb_style pb_isWritten pb_isRead out_n out_f) ∧ Zl tP tN tO (va_A (wd_plan_reaches_pb_out cI cJ a_plan a_reaches a_gains a_pb a_fld a_row a_ctx a_cw a_rw a_cr a_rr a_scan a_out plan_planes plan_passes plan_segments plan_style plan_firstOfSegment reaches_n reaches_f pb_style pb_isWritten pb_isRead out_n out_f) sz) U U.heap)) (Q_L_pass dC dI cI cJ cZ tP tN tO (va_A (wd_plan_reaches_pb_out cI cJ a_plan a_reaches a_gains a_pb a_fld a_row a_ctx a_cw a_rw a_cr a_rr a_scan a_out plan_planes plan_passes plan_segments plan_style plan_firstOfSegment reaches_n reaches_f pb_style pb_isWritten pb_isRead out_n out_f) sz) a_plan a_reaches a_gains a_pb a_fld a_row a_ctx a_cw a_rw a_cr a_rr a_scan a_out plan_planes plan_passes plan_segments plan_style plan_firstOfSegment reaches_n reaches_f pb_style pb_isWritten pb_isRead out_n out_f (F_L_pass p2 p3 plan_planes plan_passes plan_style reaches_f pb_isWritten out_f)) (D_L_pass p2 p3 plan_passes pb_isWritten) (D_L_pass p2 p3 plan_passes pb_isWritten) (va_A (wd_plan_reaches_pb_out cI cJ a_plan a_reaches a_gains a_pb a_fld a_row a_ctx a_cw a_rw a_cr a_rr a_scan a_out plan_planes plan_passes plan_segments plan_style plan_firstOfSegment reaches_n reaches_f pb_style pb_isWritten pb_isRead out_n out_f) sz) := by
  by_cases h0 : TX_X10_pass p2 p3 plan_passes pb_isWritten = 0
  · have eF : F_L_pass p2 p3 plan_planes plan_passes plan_style reaches_f pb_isWritten out_f = FA_L_pass p2 p3 plan_planes plan_passes plan_style reaches_f out_f := by unfold F_L_pass; rw [if_pos h0]
    have eD : D_L_pass p2 p3 plan_passes pb_isWritten = DA_L_pass := by unfold D_L_pass; rw [if_pos h0]
    rw [eF, eD]
    exact ca_L_pass l hl0 dC dI cI cJ cZ tP tN tO a_plan a_reaches a_gains a_pb a_fld a_row a_ctx a_cw a_rw a_cr a_rr a_scan a_out sz plan_planes plan_passes plan_segments plan_style plan_firstOfSegment reaches_n reaches_f pb_style pb_isWritten pb_isRead out_n out_f p2 p3 (hpre h0)
  · have eD : D_L_pass p2 p3 plan_passes pb_isWritten = 6 := by unfold D_L_pass; rw [if_neg h0]
    rcases txr_L_pass p2 p3 plan_passes pb_isWritten with h | h | h | h
    · exact absurd h h0
    · have eF : F_L_pass p2 p3 plan_planes plan_passes plan_style reaches_f pb_isWritten out_f = ((1 : Int32), out_f) := by unfold F_L_pass; rw [if_neg h0, if_pos h]
      rw [eF, eD]
      exact cy_L_pass_1 l hl0 dC dI cI cJ cZ tP tN tO a_plan a_reaches a_gains a_pb a_fld a_row a_ctx a_cw a_rw a_cr a_rr a_scan a_out sz plan_planes plan_passes plan_segments plan_style plan_firstOfSegment reaches_n reaches_f pb_style pb_isWritten pb_isRead out_n out_f p2 p3 h
    · have eF : F_L_pass p2 p3 plan_planes plan_passes plan_style reaches_f pb_isWritten out_f = ((2 : Int32), out_f) := by unfold F_L_pass; rw [if_neg h0, if_neg (by rw [h]; decide), if_pos h]
      rw [eF, eD]
      exact cy_L_pass_2 l hl0 dC dI cI cJ cZ tP tN tO a_plan a_reaches a_gains a_pb a_fld a_row a_ctx a_cw a_rw a_cr a_rr a_scan a_out sz plan_planes plan_passes plan_segments plan_style plan_firstOfSegment reaches_n reaches_f pb_style pb_isWritten pb_isRead out_n out_f p2 p3 h
    · have eF : F_L_pass p2 p3 plan_planes plan_passes plan_style reaches_f pb_isWritten out_f = ((3 : Int32), out_f) := by unfold F_L_pass; rw [if_neg h0, if_neg (by rw [h]; decide), if_neg (by rw [h]; decide), if_pos h]
      rw [eF, eD]
      exact cy_L_pass_3 l hl0 dC dI cI cJ cZ tP tN tO a_plan a_reaches a_gains a_pb a_fld a_row a_ctx a_cw a_rw a_cr a_rr a_scan a_out sz plan_planes plan_passes plan_segments plan_style plan_firstOfSegment reaches_n reaches_f pb_style pb_isWritten pb_isRead out_n out_f p2 p3 h
abbrev wd_plan_gains_pb_out (cJ : ClassId) (a_plan : Nat) (a_reaches : Nat) (a_gains : Nat) (a_pb : Nat) (a_fld : Nat) (a_row : Nat) (a_ctx : Nat) (a_cw : Nat) (a_rw : Nat) (a_cr : Nat) (a_rr : Nat) (a_scan : Nat) (a_out : Nat) (plan_planes : Int32) (plan_passes : Int32) (plan_segments : Int32) (plan_style : Int32) (plan_firstOfSegment : Int32) (gains_n : Nat) (gains_f : Nat → Int64) (pb_style : Int32) (pb_isWritten : Int32) (pb_isRead : Int32) (out_n : Nat) (out_f : Nat → Int64) : va_W := [(a_plan, .inr (5, [.ref a_reaches, .ref a_gains, .int plan_planes, .int plan_passes, .int plan_segments, .int plan_style, .int plan_firstOfSegment])), (a_gains, .inl (cJ, gains_n, .inr (.inl gains_f))), (a_pb, .inr (9, [.ref a_fld, .ref a_plan, .ref a_row, .ref a_ctx, .ref a_cw, .ref a_rw, .ref a_cr, .ref a_rr, .ref a_scan, .int pb_style, .int pb_isWritten, .int pb_isRead])), (a_out, .inl (cJ, out_n, .inr (.inl out_f)))]
abbrev rm_L_gain (Dt : Nat) : Room := { frames := 9, cells := Dt, slots := Dt, locals := 152 }
noncomputable def FA_L_gain (p2 : Int32) (gains_f : Nat → Int64) (out_f : Nat → Int64) : (Int32 × (Nat → Int64)) := let r_1 := F_X10_gain p2 gains_f; ((0 : Int32), vp_updL out_f (0 : Int32).toNatClampNeg r_1)
noncomputable def DA_L_gain : Nat := 0
def PA_L_gain (p2 : Int32) (plan_passes : Int32) (gains_n : Nat) (gains_f : Nat → Int64) (pb_isWritten : Int32) (out_n : Nat) : Prop := (P_X10_gain p2 plan_passes gains_n pb_isWritten) ∧ (∀ r_1, F_X10_gain p2 gains_f = r_1 → (vp_in (0 : Int32) out_n))
abbrev Q_L_gain (dC : Nat → ClassId) (dI : Nat → Nat → Nat) (cI cJ cZ : ClassId) (tP tN tO : Nat) (A : Nat → Prop) (a_plan : Nat) (a_reaches : Nat) (a_gains : Nat) (a_pb : Nat) (a_fld : Nat) (a_row : Nat) (a_ctx : Nat) (a_cw : Nat) (a_rw : Nat) (a_cr : Nat) (a_rr : Nat) (a_scan : Nat) (a_out : Nat) (plan_planes : Int32) (plan_passes : Int32) (plan_segments : Int32) (plan_style : Int32) (plan_firstOfSegment : Int32) (gains_n : Nat) (gains_f : Nat → Int64) (pb_style : Int32) (pb_isWritten : Int32) (pb_isRead : Int32) (out_n : Nat) (out_f : Nat → Int64) (g : (Int32 × (Nat → Int64))) : Array Value → State → Outcome → State → Prop := va_Qi (fun (r : Int32) (_ : Unit) => r = g.1) (fun u t => va_P (dC, dI) vwCl (wd_plan_gains_pb_out cJ a_plan a_reaches a_gains a_pb a_fld a_row a_ctx a_cw a_rw a_cr a_rr a_scan a_out plan_planes plan_passes plan_segments plan_style plan_firstOfSegment gains_n gains_f pb_style pb_isWritten pb_isRead out_n g.2) t.heap ∧ va_K (dC, dI) vwCl [(cI, .int), (cJ, .long), (cZ, .boolean)] t ∧ va_D A (wd_plan_gains_pb_out cJ a_plan a_reaches a_gains a_pb a_fld a_row a_ctx a_cw a_rw a_cr a_rr a_scan a_out plan_planes plan_passes plan_segments plan_style plan_firstOfSegment gains_n gains_f pb_style pb_isWritten pb_isRead out_n g.2)) A
set_option maxHeartbeats 4000000 in
set_option maxRecDepth 100000 in
theorem ca_L_gain (l : Launch) (hl0 : l.stackTraces = false) (dC : Nat → ClassId) (dI : Nat → Nat → Nat) (cI cJ cZ : ClassId) (tP tN tO : Nat) (a_plan : Nat) (a_reaches : Nat) (a_gains : Nat) (a_pb : Nat) (a_fld : Nat) (a_row : Nat) (a_ctx : Nat) (a_cw : Nat) (a_rw : Nat) (a_cr : Nat) (a_rr : Nat) (a_scan : Nat) (a_out : Nat) (sz : Nat) (plan_planes : Int32) (plan_passes : Int32) (plan_segments : Int32) (plan_style : Int32) (plan_firstOfSegment : Int32) (gains_n : Nat) (gains_f : Nat → Int64) (pb_style : Int32) (pb_isWritten : Int32) (pb_isRead : Int32) (out_n : Nat) (out_f : Nat → Int64) (p2 : Int32) (hpre : PA_L_gain p2 plan_passes gains_n gains_f pb_isWritten out_n) : Met l yL_gain wsL_gain (rm_L_gain (DA_L_gain)) (va_Pc [.ref a_pb, .int p2, .ref a_out] (fun U => U.heap.size = sz ∧ va_P (dC, dI) vwCl (wd_plan_gains_pb_out cJ a_plan a_reaches a_gains a_pb a_fld a_row a_ctx a_cw a_rw a_cr a_rr a_scan a_out plan_planes plan_passes plan_segments plan_style plan_firstOfSegment gains_n gains_f pb_style pb_isWritten pb_isRead out_n out_f) U.heap ∧ va_K (dC, dI) vwCl [(cI, .int), (cJ, .long), (cZ, .boolean)] U ∧ va_D (fun _ => True) (wd_plan_gains_pb_out cJ a_plan a_reaches a_gains a_pb a_fld a_row a_ctx a_cw a_rw a_cr a_rr a_scan a_out plan_planes plan_passes plan_segments plan_style plan_firstOfSegment gains_n gains_f pb_style pb_isWritten pb_isRead out_n out_f) ∧ Zl tP tN tO (va_A (wd_plan_gains_pb_out cJ a_plan a_reaches a_gains a_pb a_fld a_row a_ctx a_cw a_rw a_cr a_rr a_scan a_out plan_planes plan_passes plan_segments plan_style plan_firstOfSegment gains_n gains_f pb_style pb_isWritten pb_isRead out_n out_f) sz) U U.heap)) (Q_L_gain dC dI cI cJ cZ tP tN tO (va_A (wd_plan_gains_pb_out cJ a_plan a_reaches a_gains a_pb a_fld a_row a_ctx a_cw a_rw a_cr a_rr a_scan a_out plan_planes plan_passes plan_segments plan_style plan_firstOfSegment gains_n gains_f pb_style pb_isWritten pb_isRead out_n out_f) sz) a_plan a_reaches a_gains a_pb a_fld a_row a_ctx a_cw a_rw a_cr a_rr a_scan a_out plan_planes plan_passes plan_segments plan_style plan_firstOfSegment gains_n gains_f pb_style pb_isWritten pb_isRead out_n out_f (FA_L_gain p2 gains_f out_f)) (DA_L_gain) (DA_L_gain) (va_A (wd_plan_gains_pb_out cJ a_plan a_reaches a_gains a_pb a_fld a_row a_ctx a_cw a_rw a_cr a_rr a_scan a_out plan_planes plan_passes plan_segments plan_style plan_firstOfSegment gains_n gains_f pb_style pb_isWritten pb_isRead out_n out_f) sz) := by
  refine va_MetW (cc := cL_gain) (maxL := 4) (ret := (some .int)) (hh := [(0, 8, 11, 26), (0, 8, 14, 32)]) (by decide) rfl ?_
  intro p e s m args below meth c s₁ B hml hv
  obtain ⟨rfl, hsz, hP, hK, hD0, hZ⟩ := hv
  have hx := B.exec
  have hb := B.bytes
  have hr := B.returns
  have hts := atoms_spec (ws := wsL_gain) B.pre
  have hown : s.vm.findClass RL = some m.cls := findClass_of_methodNamed B.named
  have hlocks := B.notSynchronized
  subst hsz
  have hD := hD0.self (sz := s.heap.size)
  generalize hAe : va_A (wd_plan_gains_pb_out cJ a_plan a_reaches a_gains a_pb a_fld a_row a_ctx a_cw a_rw a_cr a_rr a_scan a_out plan_planes plan_passes plan_segments plan_style plan_firstOfSegment gains_n gains_f pb_style pb_isWritten pb_isRead out_n out_f) s.heap.size = A at hD hZ ⊢
  have hA : ∀ q : Nat, s.heap.size ≤ q → A q := fun q h => by rw [← hAe]; exact Or.inr h
  have hS : va_S A s.heap s.heap [] := va_S.rf
  obtain ⟨H, hH⟩ : ∃ z, z = s.heap := ⟨_, rfl⟩
  have hP : va_P (dC, dI) vwCl (wd_plan_gains_pb_out cJ a_plan a_reaches a_gains a_pb a_fld a_row a_ctx a_cw a_rw a_cr a_rr a_scan a_out plan_planes plan_passes plan_segments plan_style plan_firstOfSegment gains_n gains_f pb_style pb_isWritten pb_isRead out_n out_f) H := by rw [hH]; exact hP
  have hS : va_S A s.heap H [] := by rw [hH]; exact va_S.rf
  obtain ⟨g, hg⟩ : ∃ z, FA_L_gain p2 gains_f out_f = z := ⟨_, rfl⟩
  rw [hg]
  obtain ⟨Dt, hDt⟩ : ∃ z, DA_L_gain = z := ⟨_, rfl⟩
  rw [hDt]
  generalize hQe : MQ below (Q_L_gain dC dI cI cJ cZ tP tN tO A a_plan a_reaches a_gains a_pb a_fld a_row a_ctx a_cw a_rw a_cr a_rr a_scan a_out plan_planes plan_passes plan_segments plan_style plan_firstOfSegment gains_n gains_f pb_style pb_isWritten pb_isRead out_n out_f g) _ s Dt Dt A = Q
  rw [← hH]
  clear hH
  have hl := lv_entry ([.ref a_pb, .int p2, .ref a_out]) (n := 4) (Nat.le_of_ble_eq_true rfl)
  rw [lg_entry_eq]
  generalize (lg_sl ([.ref a_pb, .int p2, .ref a_out]) ++ List.replicate (4 - (lg_sl ([.ref a_pb, .int p2, .ref a_out])).length) Slot.unset).toArray = ls at hl ⊢
  have hl : lv_has ls 4 [(0, .ref a_pb), (1, .int p2), (2, .ref a_out)] := hl
  unfold FA_L_gain at hg
  unfold PA_L_gain at hpre
  unfold DA_L_gain at hDt
  obtain ⟨k, hk⟩ : ∃ z : Nat, z = 0 := ⟨_, rfl⟩
  obtain ⟨E, hE⟩ : ∃ z : Nat, z = 0 := ⟨_, rfl⟩
  have hC : k + (0) + E ≤ Dt := by rw [hk, hE, Nat.zero_add]; exact Nat.le_of_eq hDt
  refine W.widen (k := k) (n := k) (Nat.zero_le _) (Nat.zero_le _) ?_
  clear hk hE hDt
  refine lv_aload_n hx hb dL_gain_0 rfl (lv_at hl 2 rfl) ?_
  refine lv_iconst (v := 0) hx hb dL_gain_1 (by decide) ?_
  refine lv_aload_n hx hb dL_gain_2 rfl (lv_at hl 0 rfl) ?_
  refine lv_iload_n hx hb dL_gain_3 rfl (lv_at hl 1 rfl) ?_
  have hPc := hP.sub (ws' := (wd_plan_gains_pb cJ a_plan a_reaches a_gains a_pb a_fld a_row a_ctx a_cw a_rw a_cr a_rr a_scan plan_planes plan_passes plan_segments plan_style plan_firstOfSegment gains_n gains_f pb_style pb_isWritten pb_isRead)) [0, 1, 2] rfl
  have hDc := hD.sub (ws' := (wd_plan_gains_pb cJ a_plan a_reaches a_gains a_pb a_fld a_row a_ctx a_cw a_rw a_cr a_rr a_scan plan_planes plan_passes plan_segments plan_style plan_firstOfSegment gains_n gains_f pb_style pb_isWritten pb_isRead)) [0, 1, 2] (by decide) rfl
  have hFc := va_free (wc := (wd_plan_gains_pb cJ a_plan a_reaches a_gains a_pb a_fld a_row a_ctx a_cw a_rw a_cr a_rr a_scan plan_planes plan_passes plan_segments plan_style plan_firstOfSegment gains_n gains_f pb_style pb_isWritten pb_isRead)) hD hS hA [0, 1, 2] rfl
  refine va_calll (va_runV (As := [.int p2]) (rest := [.int (0 : Int32), .ref a_out]) ⟨hx, hb, hml, hown, hts⟩ (c_X10_gain l dC dI cI cJ cZ a_plan a_reaches a_gains a_pb a_fld a_row a_ctx a_cw a_rw a_cr a_rr a_scan H.size plan_planes plan_passes plan_segments plan_style plan_firstOfSegment gains_n gains_f pb_style pb_isWritten pb_isRead p2 hpre.1) (cwV 1 hts gL_gain_X10_gain rfl rfl rfl (by decide +kernel) ⟨Nat.le_of_ble_eq_true rfl, Nat.le_of_ble_eq_true rfl⟩) ⟨fun a U g mk q => by obtain ⟨q0, q1, qP, qK, qD⟩ := q; exact ⟨q0, q1, qP, va_K.moved (u := U) (U := U.calling g mk a) (Vm.Alike.refl U.vm) qK, qD⟩, va_recv hK hPc (ci := 9) (q0 := 2) rfl rfl, fun U hU hW => ⟨rfl, by rw [hU], by rw [hU]; exact hPc, va_K.moved hW.alike hK, hDc.weaken (fun _ _ _ _ => trivial)⟩⟩ rfl rfl hl.1 rfl (lv_room (Nat.le_of_ble_eq_true rfl)) dL_gain_4 ⟨k0_le hC, k0_le hC⟩) hS (fun q _ h => hFc q h) hFc (fun r u t H1 locs ht hvm hw hB hz1 hk1 hS => ?_)
  obtain ⟨hP1, hK1, hD1⟩ := hB
  rw [ht] at hP1
  obtain ⟨r_1, hr_1⟩ : ∃ z, F_X10_gain p2 gains_f = z := ⟨_, rfl⟩
  try rw [hr_1] at hw
  try rw [hr_1] at hP1
  try rw [hr_1] at hD1
  have hg : ((0 : Int32), vp_updL out_f (0 : Int32).toNatClampNeg r_1) = g := by first | (rw [hr_1] at hg; exact hg) | (subst hr_1; exact hg)
  have hw := hw.symm
  subst hw
  obtain ⟨hP, hD⟩ := va_join (wr := [(a_out, .inl (cJ, out_n, .inr (.inl out_f)))]) (w1 := (wd_plan_gains_pb cJ a_plan a_reaches a_gains a_pb a_fld a_row a_ctx a_cw a_rw a_cr a_rr a_scan plan_planes plan_passes plan_segments plan_style plan_firstOfSegment gains_n gains_f pb_style pb_isWritten pb_isRead)) hP hD [0, 1, 2] [3] rfl rfl (by decide) (by decide) hk1 hFc hP1 hD1
  have hP : va_P (dC, dI) vwCl (wd_plan_gains_pb_out cJ a_plan a_reaches a_gains a_pb a_fld a_row a_ctx a_cw a_rw a_cr a_rr a_scan a_out plan_planes plan_passes plan_segments plan_style plan_firstOfSegment gains_n gains_f pb_style pb_isWritten pb_isRead out_n out_f) H1 := hP.sub [1, 2, 3, 0] rfl
  have hD : va_D A (wd_plan_gains_pb_out cJ a_plan a_reaches a_gains a_pb a_fld a_row a_ctx a_cw a_rw a_cr a_rr a_scan a_out plan_planes plan_passes plan_segments plan_style plan_firstOfSegment gains_n gains_f pb_style pb_isWritten pb_isRead out_n out_f) := hD.sub [1, 2, 3, 0] (by decide) rfl
  generalize H1 = H at hP hS ⊢
  have hpre := hpre.2 r_1 hr_1
  have h_2 := hpre
  refine va_last hx hb hK hP hD hS 3 1 rfl rfl h_2 dL_gain_7 (fun H locs hP hD hS => ?_)
  have hP : va_P (dC, dI) vwCl (wd_plan_gains_pb_out cJ a_plan a_reaches a_gains a_pb a_fld a_row a_ctx a_cw a_rw a_cr a_rr a_scan a_out plan_planes plan_passes plan_segments plan_style plan_firstOfSegment gains_n gains_f pb_style pb_isWritten pb_isRead out_n (vp_updL out_f (0 : Int32).toNatClampNeg r_1)) H := hP
  have hD : va_D A (wd_plan_gains_pb_out cJ a_plan a_reaches a_gains a_pb a_fld a_row a_ctx a_cw a_rw a_cr a_rr a_scan a_out plan_planes plan_passes plan_segments plan_style plan_firstOfSegment gains_n gains_f pb_style pb_isWritten pb_isRead out_n (vp_updL out_f (0 : Int32).toNatClampNeg r_1)) := hD
  refine lv_goto (tgt := 17) hx hb dL_gain_8 (by decide) ?_
  refine lv_iconst (v := 0) hx hb dL_gain_17 (by decide) ?_
  subst hg
  refine W.widen (k := Dt) (n := Dt) (k0_le hC) (k0_le hC) ?_
  rw [← hQe]
  exact W.iret (v := (0 : Int32)) hx hb hr (fun t ht hW => ⟨⟨(0 : Int32), (), rfl, rfl, by rw [ht]; exact hP, va_K.moved hW.alike hK, hD⟩, hS.F ht⟩) hS.2.2 dL_gain_18
set_option maxHeartbeats 4000000 in
set_option maxRecDepth 100000 in
theorem cy_L_gain_1 (l : Launch) (hl0 : l.stackTraces = false) (dC : Nat → ClassId) (dI : Nat → Nat → Nat) (cI cJ cZ : ClassId) (tP tN tO : Nat) (a_plan : Nat) (a_reaches : Nat) (a_gains : Nat) (a_pb : Nat) (a_fld : Nat) (a_row : Nat) (a_ctx : Nat) (a_cw : Nat) (a_rw : Nat) (a_cr : Nat) (a_rr : Nat) (a_scan : Nat) (a_out : Nat) (sz : Nat) (plan_planes : Int32) (plan_passes : Int32) (plan_segments : Int32) (plan_style : Int32) (plan_firstOfSegment : Int32) (gains_n : Nat) (gains_f : Nat → Int64) (pb_style : Int32) (pb_isWritten : Int32) (pb_isRead : Int32) (out_n : Nat) (out_f : Nat → Int64) (p2 : Int32) (hT : TX_X10_gain p2 plan_passes pb_isWritten = 1) : Met l yL_gain wsL_gain (rm_L_gain 6) (va_Pc [.ref a_pb, .int p2, .ref a_out] (fun U => U.heap.size = sz ∧ va_P (dC, dI) vwCl (wd_plan_gains_pb_out cJ a_plan a_reaches a_gains a_pb a_fld a_row a_ctx a_cw a_rw a_cr a_rr a_scan a_out plan_planes plan_passes plan_segments plan_style plan_firstOfSegment gains_n gains_f pb_style pb_isWritten pb_isRead out_n out_f) U.heap ∧ va_K (dC, dI) vwCl [(cI, .int), (cJ, .long), (cZ, .boolean)] U ∧ va_D (fun _ => True) (wd_plan_gains_pb_out cJ a_plan a_reaches a_gains a_pb a_fld a_row a_ctx a_cw a_rw a_cr a_rr a_scan a_out plan_planes plan_passes plan_segments plan_style plan_firstOfSegment gains_n gains_f pb_style pb_isWritten pb_isRead out_n out_f) ∧ Zl tP tN tO (va_A (wd_plan_gains_pb_out cJ a_plan a_reaches a_gains a_pb a_fld a_row a_ctx a_cw a_rw a_cr a_rr a_scan a_out plan_planes plan_passes plan_segments plan_style plan_firstOfSegment gains_n gains_f pb_style pb_isWritten pb_isRead out_n out_f) sz) U U.heap)) (Q_L_gain dC dI cI cJ cZ tP tN tO (va_A (wd_plan_gains_pb_out cJ a_plan a_reaches a_gains a_pb a_fld a_row a_ctx a_cw a_rw a_cr a_rr a_scan a_out plan_planes plan_passes plan_segments plan_style plan_firstOfSegment gains_n gains_f pb_style pb_isWritten pb_isRead out_n out_f) sz) a_plan a_reaches a_gains a_pb a_fld a_row a_ctx a_cw a_rw a_cr a_rr a_scan a_out plan_planes plan_passes plan_segments plan_style plan_firstOfSegment gains_n gains_f pb_style pb_isWritten pb_isRead out_n out_f ((1 : Int32), out_f)) 6 6 (va_A (wd_plan_gains_pb_out cJ a_plan a_reaches a_gains a_pb a_fld a_row a_ctx a_cw a_rw a_cr a_rr a_scan a_out plan_planes plan_passes plan_segments plan_style plan_firstOfSegment gains_n gains_f pb_style pb_isWritten pb_isRead out_n out_f) sz) := by
  refine va_MetW (cc := cL_gain) (maxL := 4) (ret := (some .int)) (hh := [(0, 8, 11, 26), (0, 8, 14, 32)]) (by decide) rfl ?_
  intro p e s m args below meth c s₁ B hml hv
  obtain ⟨rfl, hsz, hP, hK, hD0, hZ⟩ := hv
  have hx := B.exec
  have hb := B.bytes
  have hr := B.returns
  have hts := atoms_spec (ws := wsL_gain) B.pre
  have hown : s.vm.findClass RL = some m.cls := findClass_of_methodNamed B.named
  have hlocks := B.notSynchronized
  subst hsz
  have hD := hD0.self (sz := s.heap.size)
  generalize hAe : va_A (wd_plan_gains_pb_out cJ a_plan a_reaches a_gains a_pb a_fld a_row a_ctx a_cw a_rw a_cr a_rr a_scan a_out plan_planes plan_passes plan_segments plan_style plan_firstOfSegment gains_n gains_f pb_style pb_isWritten pb_isRead out_n out_f) s.heap.size = A at hD hZ ⊢
  have hA : ∀ q : Nat, s.heap.size ≤ q → A q := fun q h => by rw [← hAe]; exact Or.inr h
  have hS : va_S A s.heap s.heap [] := va_S.rf
  obtain ⟨H, hH⟩ : ∃ z, z = s.heap := ⟨_, rfl⟩
  have hP : va_P (dC, dI) vwCl (wd_plan_gains_pb_out cJ a_plan a_reaches a_gains a_pb a_fld a_row a_ctx a_cw a_rw a_cr a_rr a_scan a_out plan_planes plan_passes plan_segments plan_style plan_firstOfSegment gains_n gains_f pb_style pb_isWritten pb_isRead out_n out_f) H := by rw [hH]; exact hP
  have hS : va_S A s.heap H [] := by rw [hH]; exact va_S.rf
  have htab : c.exceptionTable.toList = tableOf [(0, 8, 11, 26), (0, 8, 14, 32)] := vx_table (x := yL_gain) B (hts _ List.mem_cons_self)
  generalize hQe : MQ below (Q_L_gain dC dI cI cJ cZ tP tN tO A a_plan a_reaches a_gains a_pb a_fld a_row a_ctx a_cw a_rw a_cr a_rr a_scan a_out plan_planes plan_passes plan_segments plan_style plan_firstOfSegment gains_n gains_f pb_style pb_isWritten pb_isRead out_n out_f ((1 : Int32), out_f)) _ s 6 6 A = Q
  rw [← hH]
  clear hH
  have hl := lv_entry ([.ref a_pb, .int p2, .ref a_out]) (n := 4) (Nat.le_of_ble_eq_true rfl)
  rw [lg_entry_eq]
  generalize (lg_sl ([.ref a_pb, .int p2, .ref a_out]) ++ List.replicate (4 - (lg_sl ([.ref a_pb, .int p2, .ref a_out])).length) Slot.unset).toArray = ls at hl ⊢
  have hl : lv_has ls 4 [(0, .ref a_pb), (1, .int p2), (2, .ref a_out)] := hl
  refine lv_aload_n hx hb dL_gain_0 rfl (lv_at hl 2 rfl) ?_
  refine lv_iconst (v := 0) hx hb dL_gain_1 (by decide) ?_
  refine lv_aload_n hx hb dL_gain_2 rfl (lv_at hl 0 rfl) ?_
  refine lv_iload_n hx hb dL_gain_3 rfl (lv_at hl 1 rfl) ?_
  have hPc := hP.sub (ws' := (wd_plan_gains_pb cJ a_plan a_reaches a_gains a_pb a_fld a_row a_ctx a_cw a_rw a_cr a_rr a_scan plan_planes plan_passes plan_segments plan_style plan_firstOfSegment gains_n gains_f pb_style pb_isWritten pb_isRead)) [0, 1, 2] rfl
  have hDc := hD.sub (ws' := (wd_plan_gains_pb cJ a_plan a_reaches a_gains a_pb a_fld a_row a_ctx a_cw a_rw a_cr a_rr a_scan plan_planes plan_passes plan_segments plan_style plan_firstOfSegment gains_n gains_f pb_style pb_isWritten pb_isRead)) [0, 1, 2] (by decide) rfl
  have hFc := va_free (wc := (wd_plan_gains_pb cJ a_plan a_reaches a_gains a_pb a_fld a_row a_ctx a_cw a_rw a_cr a_rr a_scan plan_planes plan_passes plan_segments plan_style plan_firstOfSegment gains_n gains_f pb_style pb_isWritten pb_isRead)) hD hS hA [0, 1, 2] rfl
  refine vx_calll (vx_runV (As := [.int p2]) (rest := [.int (0 : Int32), .ref a_out]) ⟨hx, hb, hml, hown, hts⟩ (cx_X10_gain l hl0 dC dI cI cJ cZ a_plan a_reaches a_gains a_pb a_fld a_row a_ctx a_cw a_rw a_cr a_rr a_scan H.size plan_planes plan_passes plan_segments plan_style plan_firstOfSegment gains_n gains_f pb_style pb_isWritten pb_isRead p2 1 (by decide) hT) (cwV 1 hts gL_gain_X10_gain rfl rfl rfl (by decide +kernel) ⟨Nat.le_of_ble_eq_true rfl, Nat.le_of_ble_eq_true rfl⟩) ⟨fun a U g mk q => by obtain ⟨q0, q1, qP, qK, qD, qZ⟩ := q; exact ⟨q0, q1, qP, va_K.moved (u := U) (U := U.calling g mk a) (Vm.Alike.refl U.vm) qK, qD, Zt.same (u := U) (U := U.calling g mk a) rfl qZ⟩, va_recv hK hPc (ci := 9) (q0 := 2) rfl rfl, fun U hU hW => ⟨rfl, by rw [hU], by rw [hU]; exact hPc, va_K.moved hW.alike hK, hDc.weaken (fun _ _ _ _ => trivial), by rw [hU]; exact ((hZ.2.kept hS.2.1).narrow hFc).warm hW⟩⟩ rfl rfl hl.1 rfl (lv_room (Nat.le_of_ble_eq_true rfl)) dL_gain_4 ⟨Nat.le_of_ble_eq_true rfl, Nat.le_of_ble_eq_true rfl⟩) hS (fun q _ h => hFc q h) hFc (fun q _ h => hFc q h) (fun E ce q9 u t H1 locs ht hvm hp hB hz1 hk1 hS hce hcv hcl => ?_) (fun r u t H1 locs ht hvm hp hB hz1 hk1 hS => hp.elim)
  obtain ⟨hE, hP1, hK1, hD1⟩ := hB
  rw [ht] at hP1
  have hE : E = "java/lang/IllegalStateException" := hE
  subst hE
  obtain ⟨hP, hD⟩ := va_join (wr := [(a_out, .inl (cJ, out_n, .inr (.inl out_f)))]) (w1 := (wd_plan_gains_pb cJ a_plan a_reaches a_gains a_pb a_fld a_row a_ctx a_cw a_rw a_cr a_rr a_scan plan_planes plan_passes plan_segments plan_style plan_firstOfSegment gains_n gains_f pb_style pb_isWritten pb_isRead)) hP hD [0, 1, 2] [3] rfl rfl (by decide) (by decide) hk1 hFc hP1 hD1
  have hP : va_P (dC, dI) vwCl (wd_plan_gains_pb_out cJ a_plan a_reaches a_gains a_pb a_fld a_row a_ctx a_cw a_rw a_cr a_rr a_scan a_out plan_planes plan_passes plan_segments plan_style plan_firstOfSegment gains_n gains_f pb_style pb_isWritten pb_isRead out_n out_f) H1 := hP.sub [1, 2, 3, 0] rfl
  have hD : va_D A (wd_plan_gains_pb_out cJ a_plan a_reaches a_gains a_pb a_fld a_row a_ctx a_cw a_rw a_cr a_rr a_scan a_out plan_planes plan_passes plan_segments plan_style plan_firstOfSegment gains_n gains_f pb_style pb_isWritten pb_isRead out_n out_f) := hD.sub [1, 2, 3, 0] (by decide) rfl
  have hpass : ∀ z ∈ ([] : List ExceptionTableEntry), covers z 4 = false ∨ (z.catchType ≠ 0 ∧ ∃ nm : String, (Cond.classLink RL z.catchType nm).before [.ref a_pb, .int p2, .ref a_out].toArray s = true ∧ va_Nc "java/lang/IllegalStateException" nm s) := fun z hz => nomatch hz
  refine vx_catch (own := RL) (name := "java/lang/IllegalStateException") (E := "java/lang/IllegalStateException") hown [] ⟨0, 8, 11, 26⟩ [⟨0, 8, 14, 32⟩] htab hpass (by decide) (by decide) (hts (.classLink RL 26 "java/lang/IllegalStateException") (by decide +kernel)) (va_tabs rfl rfl hZ.2.2.2.1.2.2.2.2.1) hce hcv hcl ?_
  refine lv_astore_n (lv' := [(3, .ref q9), (0, .ref a_pb), (1, .int p2), (2, .ref a_out)]) hx hb dL_gain_11 rfl hl (by decide) rfl (fun ls hl => ?_)
  refine lv_iconst (v := 1) hx hb dL_gain_12 (by decide) ?_
  refine W.widen (k := 6) (n := 6) (by decide) (by decide) ?_
  rw [← hQe]
  exact W.iret (v := (1 : Int32)) hx hb hr (fun t ht hW => ⟨⟨(1 : Int32), (), rfl, rfl, by rw [ht]; exact hP, va_K.moved hW.alike hK, hD⟩, hS.F ht⟩) hS.2.2 dL_gain_13
set_option maxHeartbeats 4000000 in
set_option maxRecDepth 100000 in
theorem cy_L_gain_2 (l : Launch) (hl0 : l.stackTraces = false) (dC : Nat → ClassId) (dI : Nat → Nat → Nat) (cI cJ cZ : ClassId) (tP tN tO : Nat) (a_plan : Nat) (a_reaches : Nat) (a_gains : Nat) (a_pb : Nat) (a_fld : Nat) (a_row : Nat) (a_ctx : Nat) (a_cw : Nat) (a_rw : Nat) (a_cr : Nat) (a_rr : Nat) (a_scan : Nat) (a_out : Nat) (sz : Nat) (plan_planes : Int32) (plan_passes : Int32) (plan_segments : Int32) (plan_style : Int32) (plan_firstOfSegment : Int32) (gains_n : Nat) (gains_f : Nat → Int64) (pb_style : Int32) (pb_isWritten : Int32) (pb_isRead : Int32) (out_n : Nat) (out_f : Nat → Int64) (p2 : Int32) (hT : TX_X10_gain p2 plan_passes pb_isWritten = 2) : Met l yL_gain wsL_gain (rm_L_gain 6) (va_Pc [.ref a_pb, .int p2, .ref a_out] (fun U => U.heap.size = sz ∧ va_P (dC, dI) vwCl (wd_plan_gains_pb_out cJ a_plan a_reaches a_gains a_pb a_fld a_row a_ctx a_cw a_rw a_cr a_rr a_scan a_out plan_planes plan_passes plan_segments plan_style plan_firstOfSegment gains_n gains_f pb_style pb_isWritten pb_isRead out_n out_f) U.heap ∧ va_K (dC, dI) vwCl [(cI, .int), (cJ, .long), (cZ, .boolean)] U ∧ va_D (fun _ => True) (wd_plan_gains_pb_out cJ a_plan a_reaches a_gains a_pb a_fld a_row a_ctx a_cw a_rw a_cr a_rr a_scan a_out plan_planes plan_passes plan_segments plan_style plan_firstOfSegment gains_n gains_f pb_style pb_isWritten pb_isRead out_n out_f) ∧ Zl tP tN tO (va_A (wd_plan_gains_pb_out cJ a_plan a_reaches a_gains a_pb a_fld a_row a_ctx a_cw a_rw a_cr a_rr a_scan a_out plan_planes plan_passes plan_segments plan_style plan_firstOfSegment gains_n gains_f pb_style pb_isWritten pb_isRead out_n out_f) sz) U U.heap)) (Q_L_gain dC dI cI cJ cZ tP tN tO (va_A (wd_plan_gains_pb_out cJ a_plan a_reaches a_gains a_pb a_fld a_row a_ctx a_cw a_rw a_cr a_rr a_scan a_out plan_planes plan_passes plan_segments plan_style plan_firstOfSegment gains_n gains_f pb_style pb_isWritten pb_isRead out_n out_f) sz) a_plan a_reaches a_gains a_pb a_fld a_row a_ctx a_cw a_rw a_cr a_rr a_scan a_out plan_planes plan_passes plan_segments plan_style plan_firstOfSegment gains_n gains_f pb_style pb_isWritten pb_isRead out_n out_f ((2 : Int32), out_f)) 6 6 (va_A (wd_plan_gains_pb_out cJ a_plan a_reaches a_gains a_pb a_fld a_row a_ctx a_cw a_rw a_cr a_rr a_scan a_out plan_planes plan_passes plan_segments plan_style plan_firstOfSegment gains_n gains_f pb_style pb_isWritten pb_isRead out_n out_f) sz) := by
  refine va_MetW (cc := cL_gain) (maxL := 4) (ret := (some .int)) (hh := [(0, 8, 11, 26), (0, 8, 14, 32)]) (by decide) rfl ?_
  intro p e s m args below meth c s₁ B hml hv
  obtain ⟨rfl, hsz, hP, hK, hD0, hZ⟩ := hv
  have hx := B.exec
  have hb := B.bytes
  have hr := B.returns
  have hts := atoms_spec (ws := wsL_gain) B.pre
  have hown : s.vm.findClass RL = some m.cls := findClass_of_methodNamed B.named
  have hlocks := B.notSynchronized
  subst hsz
  have hD := hD0.self (sz := s.heap.size)
  generalize hAe : va_A (wd_plan_gains_pb_out cJ a_plan a_reaches a_gains a_pb a_fld a_row a_ctx a_cw a_rw a_cr a_rr a_scan a_out plan_planes plan_passes plan_segments plan_style plan_firstOfSegment gains_n gains_f pb_style pb_isWritten pb_isRead out_n out_f) s.heap.size = A at hD hZ ⊢
  have hA : ∀ q : Nat, s.heap.size ≤ q → A q := fun q h => by rw [← hAe]; exact Or.inr h
  have hS : va_S A s.heap s.heap [] := va_S.rf
  obtain ⟨H, hH⟩ : ∃ z, z = s.heap := ⟨_, rfl⟩
  have hP : va_P (dC, dI) vwCl (wd_plan_gains_pb_out cJ a_plan a_reaches a_gains a_pb a_fld a_row a_ctx a_cw a_rw a_cr a_rr a_scan a_out plan_planes plan_passes plan_segments plan_style plan_firstOfSegment gains_n gains_f pb_style pb_isWritten pb_isRead out_n out_f) H := by rw [hH]; exact hP
  have hS : va_S A s.heap H [] := by rw [hH]; exact va_S.rf
  have htab : c.exceptionTable.toList = tableOf [(0, 8, 11, 26), (0, 8, 14, 32)] := vx_table (x := yL_gain) B (hts _ List.mem_cons_self)
  generalize hQe : MQ below (Q_L_gain dC dI cI cJ cZ tP tN tO A a_plan a_reaches a_gains a_pb a_fld a_row a_ctx a_cw a_rw a_cr a_rr a_scan a_out plan_planes plan_passes plan_segments plan_style plan_firstOfSegment gains_n gains_f pb_style pb_isWritten pb_isRead out_n out_f ((2 : Int32), out_f)) _ s 6 6 A = Q
  rw [← hH]
  clear hH
  have hl := lv_entry ([.ref a_pb, .int p2, .ref a_out]) (n := 4) (Nat.le_of_ble_eq_true rfl)
  rw [lg_entry_eq]
  generalize (lg_sl ([.ref a_pb, .int p2, .ref a_out]) ++ List.replicate (4 - (lg_sl ([.ref a_pb, .int p2, .ref a_out])).length) Slot.unset).toArray = ls at hl ⊢
  have hl : lv_has ls 4 [(0, .ref a_pb), (1, .int p2), (2, .ref a_out)] := hl
  refine lv_aload_n hx hb dL_gain_0 rfl (lv_at hl 2 rfl) ?_
  refine lv_iconst (v := 0) hx hb dL_gain_1 (by decide) ?_
  refine lv_aload_n hx hb dL_gain_2 rfl (lv_at hl 0 rfl) ?_
  refine lv_iload_n hx hb dL_gain_3 rfl (lv_at hl 1 rfl) ?_
  have hPc := hP.sub (ws' := (wd_plan_gains_pb cJ a_plan a_reaches a_gains a_pb a_fld a_row a_ctx a_cw a_rw a_cr a_rr a_scan plan_planes plan_passes plan_segments plan_style plan_firstOfSegment gains_n gains_f pb_style pb_isWritten pb_isRead)) [0, 1, 2] rfl
  have hDc := hD.sub (ws' := (wd_plan_gains_pb cJ a_plan a_reaches a_gains a_pb a_fld a_row a_ctx a_cw a_rw a_cr a_rr a_scan plan_planes plan_passes plan_segments plan_style plan_firstOfSegment gains_n gains_f pb_style pb_isWritten pb_isRead)) [0, 1, 2] (by decide) rfl
  have hFc := va_free (wc := (wd_plan_gains_pb cJ a_plan a_reaches a_gains a_pb a_fld a_row a_ctx a_cw a_rw a_cr a_rr a_scan plan_planes plan_passes plan_segments plan_style plan_firstOfSegment gains_n gains_f pb_style pb_isWritten pb_isRead)) hD hS hA [0, 1, 2] rfl
  refine vx_calll (vx_runV (As := [.int p2]) (rest := [.int (0 : Int32), .ref a_out]) ⟨hx, hb, hml, hown, hts⟩ (cx_X10_gain l hl0 dC dI cI cJ cZ a_plan a_reaches a_gains a_pb a_fld a_row a_ctx a_cw a_rw a_cr a_rr a_scan H.size plan_planes plan_passes plan_segments plan_style plan_firstOfSegment gains_n gains_f pb_style pb_isWritten pb_isRead p2 2 (by decide) hT) (cwV 1 hts gL_gain_X10_gain rfl rfl rfl (by decide +kernel) ⟨Nat.le_of_ble_eq_true rfl, Nat.le_of_ble_eq_true rfl⟩) ⟨fun a U g mk q => by obtain ⟨q0, q1, qP, qK, qD, qZ⟩ := q; exact ⟨q0, q1, qP, va_K.moved (u := U) (U := U.calling g mk a) (Vm.Alike.refl U.vm) qK, qD, Zt.same (u := U) (U := U.calling g mk a) rfl qZ⟩, va_recv hK hPc (ci := 9) (q0 := 2) rfl rfl, fun U hU hW => ⟨rfl, by rw [hU], by rw [hU]; exact hPc, va_K.moved hW.alike hK, hDc.weaken (fun _ _ _ _ => trivial), by rw [hU]; exact ((hZ.2.kept hS.2.1).narrow hFc).warm hW⟩⟩ rfl rfl hl.1 rfl (lv_room (Nat.le_of_ble_eq_true rfl)) dL_gain_4 ⟨Nat.le_of_ble_eq_true rfl, Nat.le_of_ble_eq_true rfl⟩) hS (fun q _ h => hFc q h) hFc (fun q _ h => hFc q h) (fun E ce q9 u t H1 locs ht hvm hp hB hz1 hk1 hS hce hcv hcl => ?_) (fun r u t H1 locs ht hvm hp hB hz1 hk1 hS => hp.elim)
  obtain ⟨hE, hP1, hK1, hD1⟩ := hB
  rw [ht] at hP1
  have hE : E = "java/lang/IndexOutOfBoundsException" := hE
  subst hE
  obtain ⟨hP, hD⟩ := va_join (wr := [(a_out, .inl (cJ, out_n, .inr (.inl out_f)))]) (w1 := (wd_plan_gains_pb cJ a_plan a_reaches a_gains a_pb a_fld a_row a_ctx a_cw a_rw a_cr a_rr a_scan plan_planes plan_passes plan_segments plan_style plan_firstOfSegment gains_n gains_f pb_style pb_isWritten pb_isRead)) hP hD [0, 1, 2] [3] rfl rfl (by decide) (by decide) hk1 hFc hP1 hD1
  have hP : va_P (dC, dI) vwCl (wd_plan_gains_pb_out cJ a_plan a_reaches a_gains a_pb a_fld a_row a_ctx a_cw a_rw a_cr a_rr a_scan a_out plan_planes plan_passes plan_segments plan_style plan_firstOfSegment gains_n gains_f pb_style pb_isWritten pb_isRead out_n out_f) H1 := hP.sub [1, 2, 3, 0] rfl
  have hD : va_D A (wd_plan_gains_pb_out cJ a_plan a_reaches a_gains a_pb a_fld a_row a_ctx a_cw a_rw a_cr a_rr a_scan a_out plan_planes plan_passes plan_segments plan_style plan_firstOfSegment gains_n gains_f pb_style pb_isWritten pb_isRead out_n out_f) := hD.sub [1, 2, 3, 0] (by decide) rfl
  have hpass : ∀ z ∈ ([⟨0, 8, 11, 26⟩] : List ExceptionTableEntry), covers z 4 = false ∨ (z.catchType ≠ 0 ∧ ∃ nm : String, (Cond.classLink RL z.catchType nm).before [.ref a_pb, .int p2, .ref a_out].toArray s = true ∧ va_Nc "java/lang/IndexOutOfBoundsException" nm s) := by
      intro z hz
      rcases List.mem_cons.mp hz with rfl | hz
      · exact Or.inr ⟨by decide, "java/lang/IllegalStateException", hts (.classLink RL 26 "java/lang/IllegalStateException") (by decide +kernel), hZ.2.2.2.2.1.2.1⟩
      cases hz
  refine vx_catch (own := RL) (name := "java/lang/IndexOutOfBoundsException") (E := "java/lang/IndexOutOfBoundsException") hown [⟨0, 8, 11, 26⟩] ⟨0, 8, 14, 32⟩ [] htab hpass (by decide) (by decide) (hts (.classLink RL 32 "java/lang/IndexOutOfBoundsException") (by decide +kernel)) (va_tabs rfl rfl hZ.2.2.2.1.2.2.2.2.2) hce hcv hcl ?_
  refine lv_astore_n (lv' := [(3, .ref q9), (0, .ref a_pb), (1, .int p2), (2, .ref a_out)]) hx hb dL_gain_14 rfl hl (by decide) rfl (fun ls hl => ?_)
  refine lv_iconst (v := 2) hx hb dL_gain_15 (by decide) ?_
  refine W.widen (k := 6) (n := 6) (by decide) (by decide) ?_
  rw [← hQe]
  exact W.iret (v := (2 : Int32)) hx hb hr (fun t ht hW => ⟨⟨(2 : Int32), (), rfl, rfl, by rw [ht]; exact hP, va_K.moved hW.alike hK, hD⟩, hS.F ht⟩) hS.2.2 dL_gain_16
noncomputable def F_L_gain (p2 : Int32) (plan_passes : Int32) (gains_f : Nat → Int64) (pb_isWritten : Int32) (out_f : Nat → Int64) : (Int32 × (Nat → Int64)) := if TX_X10_gain p2 plan_passes pb_isWritten = 0 then (FA_L_gain p2 gains_f out_f) else (if TX_X10_gain p2 plan_passes pb_isWritten = 1 then (1 : Int32) else if TX_X10_gain p2 plan_passes pb_isWritten = 2 then (2 : Int32) else (0 : Int32), out_f)
noncomputable def D_L_gain (p2 : Int32) (plan_passes : Int32) (pb_isWritten : Int32) : Nat := if TX_X10_gain p2 plan_passes pb_isWritten = 0 then DA_L_gain else 6
def P_L_gain (p2 : Int32) (plan_passes : Int32) (gains_n : Nat) (gains_f : Nat → Int64) (pb_isWritten : Int32) (out_n : Nat) : Prop := (TX_X10_gain p2 plan_passes pb_isWritten = 0 → (PA_L_gain p2 plan_passes gains_n gains_f pb_isWritten out_n))
theorem txr_L_gain (p1 : Int32) (plan_passes : Int32) (pb_isWritten : Int32) : TX_X10_gain p1 plan_passes pb_isWritten = 0 ∨ TX_X10_gain p1 plan_passes pb_isWritten = 1 ∨ TX_X10_gain p1 plan_passes pb_isWritten = 2 := by
  unfold TX_X10_gain TX_X10_needPass TX_X10_needWritten
  try dsimp only
  repeat' split
  all_goals first | (simp; done) | (simp_all; done) | omega

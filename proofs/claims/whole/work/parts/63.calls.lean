abbrev rm_X10_needWritten : Room := { frames := 0, cells := 0, slots := 0, locals := 0 }
abbrev Q_X10_needWritten (dC : Nat → ClassId) (dI : Nat → Nat → Nat) (cI cJ cZ : ClassId) (a_pb : Nat) (a_fld : Nat) (a_plan : Nat) (a_row : Nat) (a_ctx : Nat) (a_cw : Nat) (a_rw : Nat) (a_cr : Nat) (a_rr : Nat) (a_scan : Nat) (A : Nat → Prop) (pb_style : Int32) (pb_isWritten : Int32) (pb_isRead : Int32) (g : Unit) : Array Value → State → Outcome → State → Prop := va_Qv (fun _ : Unit => True) (fun u t => va_P (dC, dI) vwCl (wd_pb a_pb a_fld a_plan a_row a_ctx a_cw a_rw a_cr a_rr a_scan pb_style pb_isWritten pb_isRead) t.heap ∧ va_K (dC, dI) vwCl [(cI, .int), (cJ, .long), (cZ, .boolean)] t ∧ va_D A (wd_pb a_pb a_fld a_plan a_row a_ctx a_cw a_rw a_cr a_rr a_scan pb_style pb_isWritten pb_isRead)) A
theorem iw_X10_needWritten_X10 : ∀ w ∈ u_ws RX10 TX10 12, w ∈ wsX10_needWritten := by decide +kernel
set_option maxHeartbeats 4000000 in
set_option maxRecDepth 100000 in
theorem c_X10_needWritten (l : Launch) (dC : Nat → ClassId) (dI : Nat → Nat → Nat) (cI cJ cZ : ClassId) (a_pb : Nat) (a_fld : Nat) (a_plan : Nat) (a_row : Nat) (a_ctx : Nat) (a_cw : Nat) (a_rw : Nat) (a_cr : Nat) (a_rr : Nat) (a_scan : Nat) (sz : Nat) (pb_style : Int32) (pb_isWritten : Int32) (pb_isRead : Int32) (hpre : P_X10_needWritten pb_isWritten) : Met l yX10_needWritten wsX10_needWritten rm_X10_needWritten (va_Pc [.ref a_pb] (fun U => U.heap.size = sz ∧ va_P (dC, dI) vwCl (wd_pb a_pb a_fld a_plan a_row a_ctx a_cw a_rw a_cr a_rr a_scan pb_style pb_isWritten pb_isRead) U.heap ∧ va_K (dC, dI) vwCl [(cI, .int), (cJ, .long), (cZ, .boolean)] U ∧ va_D (fun _ => True) (wd_pb a_pb a_fld a_plan a_row a_ctx a_cw a_rw a_cr a_rr a_scan pb_style pb_isWritten pb_isRead))) (Q_X10_needWritten dC dI cI cJ cZ a_pb a_fld a_plan a_row a_ctx a_cw a_rw a_cr a_rr a_scan (va_A (wd_pb a_pb a_fld a_plan a_row a_ctx a_cw a_rw a_cr a_rr a_scan pb_style pb_isWritten pb_isRead) sz) pb_style pb_isWritten pb_isRead ()) 0 0 (va_A (wd_pb a_pb a_fld a_plan a_row a_ctx a_cw a_rw a_cr a_rr a_scan pb_style pb_isWritten pb_isRead) sz) := by
  refine Met.ofW (cc := cX10_needWritten) (maxL := 1) (ret := none) (by decide) rfl ?_
  intro p e s m args below meth c s₁ B hml hv
  obtain ⟨rfl, hsz, hP, hK, hD0⟩ := hv
  have hx := B.exec
  have hb := B.bytes
  have hr := B.returns
  have hts := atoms_spec (ws := wsX10_needWritten) B.pre
  have hown : s.vm.findClass RX10 = some m.cls := findClass_of_methodNamed B.named
  have hlocks := B.notSynchronized
  subst hsz
  have hD := hD0.self (sz := s.heap.size)
  generalize hAe : va_A (wd_pb a_pb a_fld a_plan a_row a_ctx a_cw a_rw a_cr a_rr a_scan pb_style pb_isWritten pb_isRead) s.heap.size = A at hD ⊢
  have hA : ∀ q : Nat, s.heap.size ≤ q → A q := fun q h => by rw [← hAe]; exact Or.inr h
  have hS : va_S A s.heap s.heap [] := va_S.rf
  obtain ⟨H, hH⟩ : ∃ z, z = s.heap := ⟨_, rfl⟩
  have hP : va_P (dC, dI) vwCl (wd_pb a_pb a_fld a_plan a_row a_ctx a_cw a_rw a_cr a_rr a_scan pb_style pb_isWritten pb_isRead) H := by rw [hH]; exact hP
  have hS : va_S A s.heap H [] := by rw [hH]; exact va_S.rf
  generalize hQe : MQ below (Q_X10_needWritten dC dI cI cJ cZ a_pb a_fld a_plan a_row a_ctx a_cw a_rw a_cr a_rr a_scan A pb_style pb_isWritten pb_isRead ()) _ s 0 0 A = Q
  rw [← hH]
  clear hH
  have hl := lv_entry ([.ref a_pb]) (n := 1) (Nat.le_of_ble_eq_true rfl)
  rw [lg_entry_eq]
  generalize (lg_sl ([.ref a_pb]) ++ List.replicate (1 - (lg_sl ([.ref a_pb])).length) Slot.unset).toArray = ls at hl ⊢
  have hl : lv_has ls 1 [(0, .ref a_pb)] := hl
  unfold P_X10_needWritten at hpre
  refine lv_aload_n hx hb dX10_needWritten_0 rfl (lv_at hl 0 rfl) ?_
  refine va_get (D := (dC, dI)) (ci := 9) (v := .int pb_isWritten) (C := RX10) (T := TX10) (N := 12) hx hb hts iw_X10_needWritten_X10 hown hK hP 0 rfl rfl 10 (by decide) (hts (.fieldLink RX10 209 "PlaneBlocks" "isWritten" "Z") (by decide +kernel)) (fun _ h9 => h9) rfl dX10_needWritten_1 ?_
  refine lv_if_ne (tgt := 18) hx hb dX10_needWritten_4 (by decide) (fun c_1 => ?_) (fun c_1 => ?_)
  · rw [← hQe]
    exact W.vret hx hb hr (fun t ht hW => ⟨⟨(), rfl, trivial, by rw [ht]; exact hP, va_K.moved hW.alike hK, hD⟩, hS.F ht⟩) hS.2.2 dX10_needWritten_18
  · have hpre := hpre c_1
    exact absurd hpre id
abbrev wd_plan_pb (a_plan : Nat) (a_reaches : Nat) (a_gains : Nat) (a_pb : Nat) (a_fld : Nat) (a_row : Nat) (a_ctx : Nat) (a_cw : Nat) (a_rw : Nat) (a_cr : Nat) (a_rr : Nat) (a_scan : Nat) (plan_planes : Int32) (plan_passes : Int32) (plan_segments : Int32) (plan_style : Int32) (plan_firstOfSegment : Int32) (pb_style : Int32) (pb_isWritten : Int32) (pb_isRead : Int32) : va_W := [(a_plan, .inr (5, [.ref a_reaches, .ref a_gains, .int plan_planes, .int plan_passes, .int plan_segments, .int plan_style, .int plan_firstOfSegment])), (a_pb, .inr (9, [.ref a_fld, .ref a_plan, .ref a_row, .ref a_ctx, .ref a_cw, .ref a_rw, .ref a_cr, .ref a_rr, .ref a_scan, .int pb_style, .int pb_isWritten, .int pb_isRead]))]
abbrev rm_X10_needPass : Room := { frames := 1, cells := 0, slots := 0, locals := 20 }
abbrev Q_X10_needPass (dC : Nat → ClassId) (dI : Nat → Nat → Nat) (cI cJ cZ : ClassId) (a_plan : Nat) (a_reaches : Nat) (a_gains : Nat) (a_pb : Nat) (a_fld : Nat) (a_row : Nat) (a_ctx : Nat) (a_cw : Nat) (a_rw : Nat) (a_cr : Nat) (a_rr : Nat) (a_scan : Nat) (A : Nat → Prop) (plan_planes : Int32) (plan_passes : Int32) (plan_segments : Int32) (plan_style : Int32) (plan_firstOfSegment : Int32) (pb_style : Int32) (pb_isWritten : Int32) (pb_isRead : Int32) (g : Unit) : Array Value → State → Outcome → State → Prop := va_Qv (fun _ : Unit => True) (fun u t => va_P (dC, dI) vwCl (wd_plan_pb a_plan a_reaches a_gains a_pb a_fld a_row a_ctx a_cw a_rw a_cr a_rr a_scan plan_planes plan_passes plan_segments plan_style plan_firstOfSegment pb_style pb_isWritten pb_isRead) t.heap ∧ va_K (dC, dI) vwCl [(cI, .int), (cJ, .long), (cZ, .boolean)] t ∧ va_D A (wd_plan_pb a_plan a_reaches a_gains a_pb a_fld a_row a_ctx a_cw a_rw a_cr a_rr a_scan plan_planes plan_passes plan_segments plan_style plan_firstOfSegment pb_style pb_isWritten pb_isRead)) A
theorem iw_X10_needPass_X10 : ∀ w ∈ u_ws RX10 TX10 12, w ∈ wsX10_needPass := by decide +kernel
theorem iw_X10_needPass_X6 : ∀ w ∈ u_ws RX6 TX6 7, w ∈ wsX10_needPass := by decide +kernel
set_option maxHeartbeats 4000000 in
set_option maxRecDepth 100000 in
theorem c_X10_needPass (l : Launch) (dC : Nat → ClassId) (dI : Nat → Nat → Nat) (cI cJ cZ : ClassId) (a_plan : Nat) (a_reaches : Nat) (a_gains : Nat) (a_pb : Nat) (a_fld : Nat) (a_row : Nat) (a_ctx : Nat) (a_cw : Nat) (a_rw : Nat) (a_cr : Nat) (a_rr : Nat) (a_scan : Nat) (sz : Nat) (plan_planes : Int32) (plan_passes : Int32) (plan_segments : Int32) (plan_style : Int32) (plan_firstOfSegment : Int32) (pb_style : Int32) (pb_isWritten : Int32) (pb_isRead : Int32) (p1 : Int32) (hpre : P_X10_needPass p1 plan_passes pb_isWritten) : Met l yX10_needPass wsX10_needPass rm_X10_needPass (va_Pc [.ref a_pb, .int p1] (fun U => U.heap.size = sz ∧ va_P (dC, dI) vwCl (wd_plan_pb a_plan a_reaches a_gains a_pb a_fld a_row a_ctx a_cw a_rw a_cr a_rr a_scan plan_planes plan_passes plan_segments plan_style plan_firstOfSegment pb_style pb_isWritten pb_isRead) U.heap ∧ va_K (dC, dI) vwCl [(cI, .int), (cJ, .long), (cZ, .boolean)] U ∧ va_D (fun _ => True) (wd_plan_pb a_plan a_reaches a_gains a_pb a_fld a_row a_ctx a_cw a_rw a_cr a_rr a_scan plan_planes plan_passes plan_segments plan_style plan_firstOfSegment pb_style pb_isWritten pb_isRead))) (Q_X10_needPass dC dI cI cJ cZ a_plan a_reaches a_gains a_pb a_fld a_row a_ctx a_cw a_rw a_cr a_rr a_scan (va_A (wd_plan_pb a_plan a_reaches a_gains a_pb a_fld a_row a_ctx a_cw a_rw a_cr a_rr a_scan plan_planes plan_passes plan_segments plan_style plan_firstOfSegment pb_style pb_isWritten pb_isRead) sz) plan_planes plan_passes plan_segments plan_style plan_firstOfSegment pb_style pb_isWritten pb_isRead ()) 0 0 (va_A (wd_plan_pb a_plan a_reaches a_gains a_pb a_fld a_row a_ctx a_cw a_rw a_cr a_rr a_scan plan_planes plan_passes plan_segments plan_style plan_firstOfSegment pb_style pb_isWritten pb_isRead) sz) := by
  refine Met.ofW (cc := cX10_needPass) (maxL := 2) (ret := none) (by decide) rfl ?_
  intro p e s m args below meth c s₁ B hml hv
  obtain ⟨rfl, hsz, hP, hK, hD0⟩ := hv
  have hx := B.exec
  have hb := B.bytes
  have hr := B.returns
  have hts := atoms_spec (ws := wsX10_needPass) B.pre
  have hown : s.vm.findClass RX10 = some m.cls := findClass_of_methodNamed B.named
  have hlocks := B.notSynchronized
  subst hsz
  have hD := hD0.self (sz := s.heap.size)
  generalize hAe : va_A (wd_plan_pb a_plan a_reaches a_gains a_pb a_fld a_row a_ctx a_cw a_rw a_cr a_rr a_scan plan_planes plan_passes plan_segments plan_style plan_firstOfSegment pb_style pb_isWritten pb_isRead) s.heap.size = A at hD ⊢
  have hA : ∀ q : Nat, s.heap.size ≤ q → A q := fun q h => by rw [← hAe]; exact Or.inr h
  have hS : va_S A s.heap s.heap [] := va_S.rf
  obtain ⟨H, hH⟩ : ∃ z, z = s.heap := ⟨_, rfl⟩
  have hP : va_P (dC, dI) vwCl (wd_plan_pb a_plan a_reaches a_gains a_pb a_fld a_row a_ctx a_cw a_rw a_cr a_rr a_scan plan_planes plan_passes plan_segments plan_style plan_firstOfSegment pb_style pb_isWritten pb_isRead) H := by rw [hH]; exact hP
  have hS : va_S A s.heap H [] := by rw [hH]; exact va_S.rf
  generalize hQe : MQ below (Q_X10_needPass dC dI cI cJ cZ a_plan a_reaches a_gains a_pb a_fld a_row a_ctx a_cw a_rw a_cr a_rr a_scan A plan_planes plan_passes plan_segments plan_style plan_firstOfSegment pb_style pb_isWritten pb_isRead ()) _ s 0 0 A = Q
  rw [← hH]
  clear hH
  have hl := lv_entry ([.ref a_pb, .int p1]) (n := 2) (Nat.le_of_ble_eq_true rfl)
  rw [lg_entry_eq]
  generalize (lg_sl ([.ref a_pb, .int p1]) ++ List.replicate (2 - (lg_sl ([.ref a_pb, .int p1])).length) Slot.unset).toArray = ls at hl ⊢
  have hl : lv_has ls 2 [(0, .ref a_pb), (1, .int p1)] := hl
  unfold P_X10_needPass at hpre
  refine lv_aload_n hx hb dX10_needPass_0 rfl (lv_at hl 0 rfl) ?_
  have hPc := hP.sub (ws' := (wd_pb a_pb a_fld a_plan a_row a_ctx a_cw a_rw a_cr a_rr a_scan pb_style pb_isWritten pb_isRead)) [1] rfl
  have hDc := hD.sub (ws' := (wd_pb a_pb a_fld a_plan a_row a_ctx a_cw a_rw a_cr a_rr a_scan pb_style pb_isWritten pb_isRead)) [1] (by decide) rfl
  have hFc := va_free (wc := (wd_pb a_pb a_fld a_plan a_row a_ctx a_cw a_rw a_cr a_rr a_scan pb_style pb_isWritten pb_isRead)) hD hS hA [1] rfl
  refine va_callv (va_runV (As := []) (rest := []) ⟨hx, hb, hml, hown, hts⟩ (c_X10_needWritten l dC dI cI cJ cZ a_pb a_fld a_plan a_row a_ctx a_cw a_rw a_cr a_rr a_scan H.size pb_style pb_isWritten pb_isRead hpre.1) (cwV 0 hts gX10_needPass_X10_needWritten rfl rfl rfl (by decide +kernel) ⟨Nat.le_of_ble_eq_true rfl, Nat.le_of_ble_eq_true rfl⟩) ⟨fun a U g mk q => by obtain ⟨q0, q1, qP, qK, qD⟩ := q; exact ⟨q0, q1, qP, va_K.moved (u := U) (U := U.calling g mk a) (Vm.Alike.refl U.vm) qK, qD⟩, va_recv hK hPc (ci := 9) (q0 := 0) rfl rfl, fun U hU hW => ⟨rfl, by rw [hU], by rw [hU]; exact hPc, va_K.moved hW.alike hK, hDc.weaken (fun _ _ _ _ => trivial)⟩⟩ rfl rfl hl.1 rfl (lv_room (Nat.le_of_ble_eq_true rfl)) dX10_needPass_1 ⟨Nat.le_of_ble_eq_true rfl, Nat.le_of_ble_eq_true rfl⟩) hS (fun q _ h => hFc q h) hFc (fun u t H1 locs ht hvm hw hB hz1 hk1 hS => ?_)
  obtain ⟨hP1, hK1, hD1⟩ := hB
  rw [ht] at hP1
  obtain ⟨hP, hD⟩ := va_join (wr := [(a_plan, .inr (5, [.ref a_reaches, .ref a_gains, .int plan_planes, .int plan_passes, .int plan_segments, .int plan_style, .int plan_firstOfSegment]))]) (w1 := (wd_pb a_pb a_fld a_plan a_row a_ctx a_cw a_rw a_cr a_rr a_scan pb_style pb_isWritten pb_isRead)) hP hD [1] [0] rfl rfl (by decide) (by decide) hk1 hFc hP1 hD1
  have hP : va_P (dC, dI) vwCl (wd_plan_pb a_plan a_reaches a_gains a_pb a_fld a_row a_ctx a_cw a_rw a_cr a_rr a_scan plan_planes plan_passes plan_segments plan_style plan_firstOfSegment pb_style pb_isWritten pb_isRead) H1 := hP.sub [0, 1] rfl
  have hD : va_D A (wd_plan_pb a_plan a_reaches a_gains a_pb a_fld a_row a_ctx a_cw a_rw a_cr a_rr a_scan plan_planes plan_passes plan_segments plan_style plan_firstOfSegment pb_style pb_isWritten pb_isRead) := hD.sub [0, 1] (by decide) rfl
  generalize H1 = H at hP hS ⊢
  have hpre := hpre.2
  refine lv_iload_n hx hb dX10_needPass_4 rfl (lv_at hl 1 rfl) ?_
  refine lv_if_lt (tgt := 19) hx hb dX10_needPass_5 (by decide) (fun c_2 => ?_) (fun c_2 => ?_)
  · have hpre := hpre.1 c_2
    exact absurd hpre id
  · have hpre := hpre.2 c_2
    refine lv_iload_n hx hb dX10_needPass_8 rfl (lv_at hl 1 rfl) ?_
    refine lv_aload_n hx hb dX10_needPass_9 rfl (lv_at hl 0 rfl) ?_
    refine va_get (D := (dC, dI)) (ci := 9) (v := .ref a_plan) (C := RX10) (T := TX10) (N := 12) hx hb hts iw_X10_needPass_X10 hown hK hP 1 rfl rfl 1 (by decide) (hts (.fieldLink RX10 19 "PlaneBlocks" "plan" "LPlaneBlocks$Plan;") (by decide +kernel)) (fun _ h9 => h9) rfl dX10_needPass_10 ?_
    refine va_get (D := (dC, dI)) (ci := 5) (v := .int plan_passes) (C := RX6) (T := TX6) (N := 7) hx hb hts iw_X10_needPass_X6 hown hK hP 0 rfl rfl 3 (by decide) (hts (.fieldLink RX10 147 "PlaneBlocks$Plan" "passes" "I") (by decide +kernel)) (fun _ h9 => h9) rfl dX10_needPass_13 ?_
    refine lv_icmp_lt (tgt := 30) hx hb dX10_needPass_16 (by decide) (fun c_3 => ?_) (fun c_3 => ?_)
    · rw [← hQe]
      exact W.vret hx hb hr (fun t ht hW => ⟨⟨(), rfl, trivial, by rw [ht]; exact hP, va_K.moved hW.alike hK, hD⟩, hS.F ht⟩) hS.2.2 dX10_needPass_30
    · have hpre := hpre c_3
      exact absurd hpre id
abbrev wd_row_pb (a_row : Nat) (a_bytes : Nat) (a_pb : Nat) (a_fld : Nat) (a_plan : Nat) (a_ctx : Nat) (a_cw : Nat) (a_rw : Nat) (a_cr : Nat) (a_rr : Nat) (a_scan : Nat) (row_count : Int32) (row_start : Int32) (pb_style : Int32) (pb_isWritten : Int32) (pb_isRead : Int32) : va_W := [(a_row, .inr (0, [.ref a_bytes, .int row_count, .int row_start])), (a_pb, .inr (9, [.ref a_fld, .ref a_plan, .ref a_row, .ref a_ctx, .ref a_cw, .ref a_rw, .ref a_cr, .ref a_rr, .ref a_scan, .int pb_style, .int pb_isWritten, .int pb_isRead]))]
abbrev rm_X10_needByte : Room := { frames := 1, cells := 0, slots := 0, locals := 20 }
abbrev Q_X10_needByte (dC : Nat → ClassId) (dI : Nat → Nat → Nat) (cI cJ cZ : ClassId) (a_row : Nat) (a_bytes : Nat) (a_pb : Nat) (a_fld : Nat) (a_plan : Nat) (a_ctx : Nat) (a_cw : Nat) (a_rw : Nat) (a_cr : Nat) (a_rr : Nat) (a_scan : Nat) (A : Nat → Prop) (row_count : Int32) (row_start : Int32) (pb_style : Int32) (pb_isWritten : Int32) (pb_isRead : Int32) (g : Unit) : Array Value → State → Outcome → State → Prop := va_Qv (fun _ : Unit => True) (fun u t => va_P (dC, dI) vwCl (wd_row_pb a_row a_bytes a_pb a_fld a_plan a_ctx a_cw a_rw a_cr a_rr a_scan row_count row_start pb_style pb_isWritten pb_isRead) t.heap ∧ va_K (dC, dI) vwCl [(cI, .int), (cJ, .long), (cZ, .boolean)] t ∧ va_D A (wd_row_pb a_row a_bytes a_pb a_fld a_plan a_ctx a_cw a_rw a_cr a_rr a_scan row_count row_start pb_style pb_isWritten pb_isRead)) A
theorem iw_X10_needByte_X1 : ∀ w ∈ u_ws RX1 TX1 3, w ∈ wsX10_needByte := by decide +kernel
theorem iw_X10_needByte_X10 : ∀ w ∈ u_ws RX10 TX10 12, w ∈ wsX10_needByte := by decide +kernel
set_option maxHeartbeats 4000000 in
set_option maxRecDepth 100000 in
theorem c_X10_needByte (l : Launch) (dC : Nat → ClassId) (dI : Nat → Nat → Nat) (cI cJ cZ : ClassId) (a_row : Nat) (a_bytes : Nat) (a_pb : Nat) (a_fld : Nat) (a_plan : Nat) (a_ctx : Nat) (a_cw : Nat) (a_rw : Nat) (a_cr : Nat) (a_rr : Nat) (a_scan : Nat) (sz : Nat) (row_count : Int32) (row_start : Int32) (pb_style : Int32) (pb_isWritten : Int32) (pb_isRead : Int32) (p1 : Int32) (hpre : P_X10_needByte p1 row_count pb_isWritten) : Met l yX10_needByte wsX10_needByte rm_X10_needByte (va_Pc [.ref a_pb, .int p1] (fun U => U.heap.size = sz ∧ va_P (dC, dI) vwCl (wd_row_pb a_row a_bytes a_pb a_fld a_plan a_ctx a_cw a_rw a_cr a_rr a_scan row_count row_start pb_style pb_isWritten pb_isRead) U.heap ∧ va_K (dC, dI) vwCl [(cI, .int), (cJ, .long), (cZ, .boolean)] U ∧ va_D (fun _ => True) (wd_row_pb a_row a_bytes a_pb a_fld a_plan a_ctx a_cw a_rw a_cr a_rr a_scan row_count row_start pb_style pb_isWritten pb_isRead))) (Q_X10_needByte dC dI cI cJ cZ a_row a_bytes a_pb a_fld a_plan a_ctx a_cw a_rw a_cr a_rr a_scan (va_A (wd_row_pb a_row a_bytes a_pb a_fld a_plan a_ctx a_cw a_rw a_cr a_rr a_scan row_count row_start pb_style pb_isWritten pb_isRead) sz) row_count row_start pb_style pb_isWritten pb_isRead ()) 0 0 (va_A (wd_row_pb a_row a_bytes a_pb a_fld a_plan a_ctx a_cw a_rw a_cr a_rr a_scan row_count row_start pb_style pb_isWritten pb_isRead) sz) := by
  refine Met.ofW (cc := cX10_needByte) (maxL := 2) (ret := none) (by decide) rfl ?_
  intro p e s m args below meth c s₁ B hml hv
  obtain ⟨rfl, hsz, hP, hK, hD0⟩ := hv
  have hx := B.exec
  have hb := B.bytes
  have hr := B.returns
  have hts := atoms_spec (ws := wsX10_needByte) B.pre
  have hown : s.vm.findClass RX10 = some m.cls := findClass_of_methodNamed B.named
  have hlocks := B.notSynchronized
  subst hsz
  have hD := hD0.self (sz := s.heap.size)
  generalize hAe : va_A (wd_row_pb a_row a_bytes a_pb a_fld a_plan a_ctx a_cw a_rw a_cr a_rr a_scan row_count row_start pb_style pb_isWritten pb_isRead) s.heap.size = A at hD ⊢
  have hA : ∀ q : Nat, s.heap.size ≤ q → A q := fun q h => by rw [← hAe]; exact Or.inr h
  have hS : va_S A s.heap s.heap [] := va_S.rf
  obtain ⟨H, hH⟩ : ∃ z, z = s.heap := ⟨_, rfl⟩
  have hP : va_P (dC, dI) vwCl (wd_row_pb a_row a_bytes a_pb a_fld a_plan a_ctx a_cw a_rw a_cr a_rr a_scan row_count row_start pb_style pb_isWritten pb_isRead) H := by rw [hH]; exact hP
  have hS : va_S A s.heap H [] := by rw [hH]; exact va_S.rf
  generalize hQe : MQ below (Q_X10_needByte dC dI cI cJ cZ a_row a_bytes a_pb a_fld a_plan a_ctx a_cw a_rw a_cr a_rr a_scan A row_count row_start pb_style pb_isWritten pb_isRead ()) _ s 0 0 A = Q
  rw [← hH]
  clear hH
  have hl := lv_entry ([.ref a_pb, .int p1]) (n := 2) (Nat.le_of_ble_eq_true rfl)
  rw [lg_entry_eq]
  generalize (lg_sl ([.ref a_pb, .int p1]) ++ List.replicate (2 - (lg_sl ([.ref a_pb, .int p1])).length) Slot.unset).toArray = ls at hl ⊢
  have hl : lv_has ls 2 [(0, .ref a_pb), (1, .int p1)] := hl
  unfold P_X10_needByte at hpre
  refine lv_aload_n hx hb dX10_needByte_0 rfl (lv_at hl 0 rfl) ?_
  have hPc := hP.sub (ws' := (wd_pb a_pb a_fld a_plan a_row a_ctx a_cw a_rw a_cr a_rr a_scan pb_style pb_isWritten pb_isRead)) [1] rfl
  have hDc := hD.sub (ws' := (wd_pb a_pb a_fld a_plan a_row a_ctx a_cw a_rw a_cr a_rr a_scan pb_style pb_isWritten pb_isRead)) [1] (by decide) rfl
  have hFc := va_free (wc := (wd_pb a_pb a_fld a_plan a_row a_ctx a_cw a_rw a_cr a_rr a_scan pb_style pb_isWritten pb_isRead)) hD hS hA [1] rfl
  refine va_callv (va_runV (As := []) (rest := []) ⟨hx, hb, hml, hown, hts⟩ (c_X10_needWritten l dC dI cI cJ cZ a_pb a_fld a_plan a_row a_ctx a_cw a_rw a_cr a_rr a_scan H.size pb_style pb_isWritten pb_isRead hpre.1) (cwV 0 hts gX10_needByte_X10_needWritten rfl rfl rfl (by decide +kernel) ⟨Nat.le_of_ble_eq_true rfl, Nat.le_of_ble_eq_true rfl⟩) ⟨fun a U g mk q => by obtain ⟨q0, q1, qP, qK, qD⟩ := q; exact ⟨q0, q1, qP, va_K.moved (u := U) (U := U.calling g mk a) (Vm.Alike.refl U.vm) qK, qD⟩, va_recv hK hPc (ci := 9) (q0 := 0) rfl rfl, fun U hU hW => ⟨rfl, by rw [hU], by rw [hU]; exact hPc, va_K.moved hW.alike hK, hDc.weaken (fun _ _ _ _ => trivial)⟩⟩ rfl rfl hl.1 rfl (lv_room (Nat.le_of_ble_eq_true rfl)) dX10_needByte_1 ⟨Nat.le_of_ble_eq_true rfl, Nat.le_of_ble_eq_true rfl⟩) hS (fun q _ h => hFc q h) hFc (fun u t H1 locs ht hvm hw hB hz1 hk1 hS => ?_)
  obtain ⟨hP1, hK1, hD1⟩ := hB
  rw [ht] at hP1
  obtain ⟨hP, hD⟩ := va_join (wr := [(a_row, .inr (0, [.ref a_bytes, .int row_count, .int row_start]))]) (w1 := (wd_pb a_pb a_fld a_plan a_row a_ctx a_cw a_rw a_cr a_rr a_scan pb_style pb_isWritten pb_isRead)) hP hD [1] [0] rfl rfl (by decide) (by decide) hk1 hFc hP1 hD1
  have hP : va_P (dC, dI) vwCl (wd_row_pb a_row a_bytes a_pb a_fld a_plan a_ctx a_cw a_rw a_cr a_rr a_scan row_count row_start pb_style pb_isWritten pb_isRead) H1 := hP.sub [0, 1] rfl
  have hD : va_D A (wd_row_pb a_row a_bytes a_pb a_fld a_plan a_ctx a_cw a_rw a_cr a_rr a_scan row_count row_start pb_style pb_isWritten pb_isRead) := hD.sub [0, 1] (by decide) rfl
  generalize H1 = H at hP hS ⊢
  have hpre := hpre.2
  refine lv_iload_n hx hb dX10_needByte_4 rfl (lv_at hl 1 rfl) ?_
  refine lv_if_lt (tgt := 19) hx hb dX10_needByte_5 (by decide) (fun c_2 => ?_) (fun c_2 => ?_)
  · have hpre := hpre.1 c_2
    exact absurd hpre id
  · have hpre := hpre.2 c_2
    refine lv_iload_n hx hb dX10_needByte_8 rfl (lv_at hl 1 rfl) ?_
    refine lv_aload_n hx hb dX10_needByte_9 rfl (lv_at hl 0 rfl) ?_
    refine va_get (D := (dC, dI)) (ci := 9) (v := .ref a_row) (C := RX10) (T := TX10) (N := 12) hx hb hts iw_X10_needByte_X10 hown hK hP 1 rfl rfl 2 (by decide) (hts (.fieldLink RX10 26 "PlaneBlocks" "row" "LPlaneBlocks$ByteRow;") (by decide +kernel)) (fun _ h9 => h9) rfl dX10_needByte_10 ?_
    refine va_get (D := (dC, dI)) (ci := 0) (v := .int row_count) (C := RX1) (T := TX1) (N := 3) hx hb hts iw_X10_needByte_X1 hown hK hP 0 rfl rfl 1 (by decide) (hts (.fieldLink RX10 200 "PlaneBlocks$ByteRow" "count" "I") (by decide +kernel)) (fun _ h9 => h9) rfl dX10_needByte_13 ?_
    refine lv_icmp_lt (tgt := 30) hx hb dX10_needByte_16 (by decide) (fun c_3 => ?_) (fun c_3 => ?_)
    · rw [← hQe]
      exact W.vret hx hb hr (fun t ht hW => ⟨⟨(), rfl, trivial, by rw [ht]; exact hP, va_K.moved hW.alike hK, hD⟩, hS.F ht⟩) hS.2.2 dX10_needByte_30
    · have hpre := hpre c_3
      exact absurd hpre id
abbrev rm_X10_needRead : Room := { frames := 0, cells := 0, slots := 0, locals := 0 }
abbrev Q_X10_needRead (dC : Nat → ClassId) (dI : Nat → Nat → Nat) (cI cJ cZ : ClassId) (a_pb : Nat) (a_fld : Nat) (a_plan : Nat) (a_row : Nat) (a_ctx : Nat) (a_cw : Nat) (a_rw : Nat) (a_cr : Nat) (a_rr : Nat) (a_scan : Nat) (A : Nat → Prop) (pb_style : Int32) (pb_isWritten : Int32) (pb_isRead : Int32) (g : Unit) : Array Value → State → Outcome → State → Prop := va_Qv (fun _ : Unit => True) (fun u t => va_P (dC, dI) vwCl (wd_pb a_pb a_fld a_plan a_row a_ctx a_cw a_rw a_cr a_rr a_scan pb_style pb_isWritten pb_isRead) t.heap ∧ va_K (dC, dI) vwCl [(cI, .int), (cJ, .long), (cZ, .boolean)] t ∧ va_D A (wd_pb a_pb a_fld a_plan a_row a_ctx a_cw a_rw a_cr a_rr a_scan pb_style pb_isWritten pb_isRead)) A
theorem iw_X10_needRead_X10 : ∀ w ∈ u_ws RX10 TX10 12, w ∈ wsX10_needRead := by decide +kernel
set_option maxHeartbeats 4000000 in
set_option maxRecDepth 100000 in
theorem c_X10_needRead (l : Launch) (dC : Nat → ClassId) (dI : Nat → Nat → Nat) (cI cJ cZ : ClassId) (a_pb : Nat) (a_fld : Nat) (a_plan : Nat) (a_row : Nat) (a_ctx : Nat) (a_cw : Nat) (a_rw : Nat) (a_cr : Nat) (a_rr : Nat) (a_scan : Nat) (sz : Nat) (pb_style : Int32) (pb_isWritten : Int32) (pb_isRead : Int32) (hpre : P_X10_needRead pb_isRead) : Met l yX10_needRead wsX10_needRead rm_X10_needRead (va_Pc [.ref a_pb] (fun U => U.heap.size = sz ∧ va_P (dC, dI) vwCl (wd_pb a_pb a_fld a_plan a_row a_ctx a_cw a_rw a_cr a_rr a_scan pb_style pb_isWritten pb_isRead) U.heap ∧ va_K (dC, dI) vwCl [(cI, .int), (cJ, .long), (cZ, .boolean)] U ∧ va_D (fun _ => True) (wd_pb a_pb a_fld a_plan a_row a_ctx a_cw a_rw a_cr a_rr a_scan pb_style pb_isWritten pb_isRead))) (Q_X10_needRead dC dI cI cJ cZ a_pb a_fld a_plan a_row a_ctx a_cw a_rw a_cr a_rr a_scan (va_A (wd_pb a_pb a_fld a_plan a_row a_ctx a_cw a_rw a_cr a_rr a_scan pb_style pb_isWritten pb_isRead) sz) pb_style pb_isWritten pb_isRead ()) 0 0 (va_A (wd_pb a_pb a_fld a_plan a_row a_ctx a_cw a_rw a_cr a_rr a_scan pb_style pb_isWritten pb_isRead) sz) := by
  refine Met.ofW (cc := cX10_needRead) (maxL := 1) (ret := none) (by decide) rfl ?_
  intro p e s m args below meth c s₁ B hml hv
  obtain ⟨rfl, hsz, hP, hK, hD0⟩ := hv
  have hx := B.exec
  have hb := B.bytes
  have hr := B.returns
  have hts := atoms_spec (ws := wsX10_needRead) B.pre
  have hown : s.vm.findClass RX10 = some m.cls := findClass_of_methodNamed B.named
  have hlocks := B.notSynchronized
  subst hsz
  have hD := hD0.self (sz := s.heap.size)
  generalize hAe : va_A (wd_pb a_pb a_fld a_plan a_row a_ctx a_cw a_rw a_cr a_rr a_scan pb_style pb_isWritten pb_isRead) s.heap.size = A at hD ⊢
  have hA : ∀ q : Nat, s.heap.size ≤ q → A q := fun q h => by rw [← hAe]; exact Or.inr h
  have hS : va_S A s.heap s.heap [] := va_S.rf
  obtain ⟨H, hH⟩ : ∃ z, z = s.heap := ⟨_, rfl⟩
  have hP : va_P (dC, dI) vwCl (wd_pb a_pb a_fld a_plan a_row a_ctx a_cw a_rw a_cr a_rr a_scan pb_style pb_isWritten pb_isRead) H := by rw [hH]; exact hP
  have hS : va_S A s.heap H [] := by rw [hH]; exact va_S.rf
  generalize hQe : MQ below (Q_X10_needRead dC dI cI cJ cZ a_pb a_fld a_plan a_row a_ctx a_cw a_rw a_cr a_rr a_scan A pb_style pb_isWritten pb_isRead ()) _ s 0 0 A = Q
  rw [← hH]
  clear hH
  have hl := lv_entry ([.ref a_pb]) (n := 1) (Nat.le_of_ble_eq_true rfl)
  rw [lg_entry_eq]
  generalize (lg_sl ([.ref a_pb]) ++ List.replicate (1 - (lg_sl ([.ref a_pb])).length) Slot.unset).toArray = ls at hl ⊢
  have hl : lv_has ls 1 [(0, .ref a_pb)] := hl
  unfold P_X10_needRead at hpre
  refine lv_aload_n hx hb dX10_needRead_0 rfl (lv_at hl 0 rfl) ?_
  refine va_get (D := (dC, dI)) (ci := 9) (v := .int pb_isRead) (C := RX10) (T := TX10) (N := 12) hx hb hts iw_X10_needRead_X10 hown hK hP 0 rfl rfl 11 (by decide) (hts (.fieldLink RX10 213 "PlaneBlocks" "isRead" "Z") (by decide +kernel)) (fun _ h9 => h9) rfl dX10_needRead_1 ?_
  refine lv_if_ne (tgt := 18) hx hb dX10_needRead_4 (by decide) (fun c_1 => ?_) (fun c_1 => ?_)
  · rw [← hQe]
    exact W.vret hx hb hr (fun t ht hW => ⟨⟨(), rfl, trivial, by rw [ht]; exact hP, va_K.moved hW.alike hK, hD⟩, hS.F ht⟩) hS.2.2 dX10_needRead_18
  · have hpre := hpre c_1
    exact absurd hpre id
abbrev wd_fld_pb (a_fld : Nat) (a_coef : Nat) (a_mags : Nat) (a_marks : Nat) (a_pb : Nat) (a_plan : Nat) (a_row : Nat) (a_ctx : Nat) (a_cw : Nat) (a_rw : Nat) (a_cr : Nat) (a_rr : Nat) (a_scan : Nat) (fld_wide : Int32) (fld_high : Int32) (fld_band : Int32) (fld_causal : Int32) (pb_style : Int32) (pb_isWritten : Int32) (pb_isRead : Int32) : va_W := [(a_fld, .inr (4, [.int fld_wide, .int fld_high, .ref a_coef, .ref a_mags, .ref a_marks, .int fld_band, .int fld_causal])), (a_pb, .inr (9, [.ref a_fld, .ref a_plan, .ref a_row, .ref a_ctx, .ref a_cw, .ref a_rw, .ref a_cr, .ref a_rr, .ref a_scan, .int pb_style, .int pb_isWritten, .int pb_isRead]))]
abbrev rm_X10_needReadAt : Room := { frames := 1, cells := 0, slots := 0, locals := 22 }
abbrev Q_X10_needReadAt (dC : Nat → ClassId) (dI : Nat → Nat → Nat) (cI cJ cZ : ClassId) (a_fld : Nat) (a_coef : Nat) (a_mags : Nat) (a_marks : Nat) (a_pb : Nat) (a_plan : Nat) (a_row : Nat) (a_ctx : Nat) (a_cw : Nat) (a_rw : Nat) (a_cr : Nat) (a_rr : Nat) (a_scan : Nat) (A : Nat → Prop) (fld_wide : Int32) (fld_high : Int32) (fld_band : Int32) (fld_causal : Int32) (pb_style : Int32) (pb_isWritten : Int32) (pb_isRead : Int32) (g : Unit) : Array Value → State → Outcome → State → Prop := va_Qv (fun _ : Unit => True) (fun u t => va_P (dC, dI) vwCl (wd_fld_pb a_fld a_coef a_mags a_marks a_pb a_plan a_row a_ctx a_cw a_rw a_cr a_rr a_scan fld_wide fld_high fld_band fld_causal pb_style pb_isWritten pb_isRead) t.heap ∧ va_K (dC, dI) vwCl [(cI, .int), (cJ, .long), (cZ, .boolean)] t ∧ va_D A (wd_fld_pb a_fld a_coef a_mags a_marks a_pb a_plan a_row a_ctx a_cw a_rw a_cr a_rr a_scan fld_wide fld_high fld_band fld_causal pb_style pb_isWritten pb_isRead)) A
theorem iw_X10_needReadAt_X10 : ∀ w ∈ u_ws RX10 TX10 12, w ∈ wsX10_needReadAt := by decide +kernel
set_option maxHeartbeats 4000000 in
set_option maxRecDepth 100000 in
theorem c_X10_needReadAt (l : Launch) (dC : Nat → ClassId) (dI : Nat → Nat → Nat) (cI cJ cZ : ClassId) (a_fld : Nat) (a_coef : Nat) (a_mags : Nat) (a_marks : Nat) (a_pb : Nat) (a_plan : Nat) (a_row : Nat) (a_ctx : Nat) (a_cw : Nat) (a_rw : Nat) (a_cr : Nat) (a_rr : Nat) (a_scan : Nat) (sz : Nat) (fld_wide : Int32) (fld_high : Int32) (fld_band : Int32) (fld_causal : Int32) (pb_style : Int32) (pb_isWritten : Int32) (pb_isRead : Int32) (p1 : Int32) (p2 : Int32) (hpre : P_X10_needReadAt p1 p2 fld_wide fld_high pb_isRead) : Met l yX10_needReadAt wsX10_needReadAt rm_X10_needReadAt (va_Pc [.ref a_pb, .int p1, .int p2] (fun U => U.heap.size = sz ∧ va_P (dC, dI) vwCl (wd_fld_pb a_fld a_coef a_mags a_marks a_pb a_plan a_row a_ctx a_cw a_rw a_cr a_rr a_scan fld_wide fld_high fld_band fld_causal pb_style pb_isWritten pb_isRead) U.heap ∧ va_K (dC, dI) vwCl [(cI, .int), (cJ, .long), (cZ, .boolean)] U ∧ va_D (fun _ => True) (wd_fld_pb a_fld a_coef a_mags a_marks a_pb a_plan a_row a_ctx a_cw a_rw a_cr a_rr a_scan fld_wide fld_high fld_band fld_causal pb_style pb_isWritten pb_isRead))) (Q_X10_needReadAt dC dI cI cJ cZ a_fld a_coef a_mags a_marks a_pb a_plan a_row a_ctx a_cw a_rw a_cr a_rr a_scan (va_A (wd_fld_pb a_fld a_coef a_mags a_marks a_pb a_plan a_row a_ctx a_cw a_rw a_cr a_rr a_scan fld_wide fld_high fld_band fld_causal pb_style pb_isWritten pb_isRead) sz) fld_wide fld_high fld_band fld_causal pb_style pb_isWritten pb_isRead ()) 0 0 (va_A (wd_fld_pb a_fld a_coef a_mags a_marks a_pb a_plan a_row a_ctx a_cw a_rw a_cr a_rr a_scan fld_wide fld_high fld_band fld_causal pb_style pb_isWritten pb_isRead) sz) := by
  refine Met.ofW (cc := cX10_needReadAt) (maxL := 3) (ret := none) (by decide) rfl ?_
  intro p e s m args below meth c s₁ B hml hv
  obtain ⟨rfl, hsz, hP, hK, hD0⟩ := hv
  have hx := B.exec
  have hb := B.bytes
  have hr := B.returns
  have hts := atoms_spec (ws := wsX10_needReadAt) B.pre
  have hown : s.vm.findClass RX10 = some m.cls := findClass_of_methodNamed B.named
  have hlocks := B.notSynchronized
  subst hsz
  have hD := hD0.self (sz := s.heap.size)
  generalize hAe : va_A (wd_fld_pb a_fld a_coef a_mags a_marks a_pb a_plan a_row a_ctx a_cw a_rw a_cr a_rr a_scan fld_wide fld_high fld_band fld_causal pb_style pb_isWritten pb_isRead) s.heap.size = A at hD ⊢
  have hA : ∀ q : Nat, s.heap.size ≤ q → A q := fun q h => by rw [← hAe]; exact Or.inr h
  have hS : va_S A s.heap s.heap [] := va_S.rf
  obtain ⟨H, hH⟩ : ∃ z, z = s.heap := ⟨_, rfl⟩
  have hP : va_P (dC, dI) vwCl (wd_fld_pb a_fld a_coef a_mags a_marks a_pb a_plan a_row a_ctx a_cw a_rw a_cr a_rr a_scan fld_wide fld_high fld_band fld_causal pb_style pb_isWritten pb_isRead) H := by rw [hH]; exact hP
  have hS : va_S A s.heap H [] := by rw [hH]; exact va_S.rf
  generalize hQe : MQ below (Q_X10_needReadAt dC dI cI cJ cZ a_fld a_coef a_mags a_marks a_pb a_plan a_row a_ctx a_cw a_rw a_cr a_rr a_scan A fld_wide fld_high fld_band fld_causal pb_style pb_isWritten pb_isRead ()) _ s 0 0 A = Q
  rw [← hH]
  clear hH
  have hl := lv_entry ([.ref a_pb, .int p1, .int p2]) (n := 3) (Nat.le_of_ble_eq_true rfl)
  rw [lg_entry_eq]
  generalize (lg_sl ([.ref a_pb, .int p1, .int p2]) ++ List.replicate (3 - (lg_sl ([.ref a_pb, .int p1, .int p2])).length) Slot.unset).toArray = ls at hl ⊢
  have hl : lv_has ls 3 [(0, .ref a_pb), (1, .int p1), (2, .int p2)] := hl
  unfold P_X10_needReadAt at hpre
  refine lv_aload_n hx hb dX10_needReadAt_0 rfl (lv_at hl 0 rfl) ?_
  refine va_get (D := (dC, dI)) (ci := 9) (v := .ref a_fld) (C := RX10) (T := TX10) (N := 12) hx hb hts iw_X10_needReadAt_X10 hown hK hP 1 rfl rfl 0 (by decide) (hts (.fieldLink RX10 12 "PlaneBlocks" "field" "LPlaneBlocks$Field;") (by decide +kernel)) (fun _ h9 => h9) rfl dX10_needReadAt_1 ?_
  refine lv_iload_n hx hb dX10_needReadAt_4 rfl (lv_at hl 1 rfl) ?_
  refine lv_iload_n hx hb dX10_needReadAt_5 rfl (lv_at hl 2 rfl) ?_
  have hPc := hP.sub (ws' := (wd_fld a_fld a_coef a_mags a_marks fld_wide fld_high fld_band fld_causal)) [0] rfl
  have hDc := hD.sub (ws' := (wd_fld a_fld a_coef a_mags a_marks fld_wide fld_high fld_band fld_causal)) [0] (by decide) rfl
  have hFc := va_free (wc := (wd_fld a_fld a_coef a_mags a_marks fld_wide fld_high fld_band fld_causal)) hD hS hA [0] rfl
  refine va_calli (va_runV (As := [.int p1, .int p2]) (rest := []) ⟨hx, hb, hml, hown, hts⟩ (c_X5_holds l dC dI cI cJ cZ a_fld a_coef a_mags a_marks H.size fld_wide fld_high fld_band fld_causal p1 p2) (cwV 2 hts gX10_needReadAt_X5_holds rfl rfl rfl (by decide +kernel) ⟨Nat.le_of_ble_eq_true rfl, Nat.le_of_ble_eq_true rfl⟩) ⟨fun a U g mk q => by obtain ⟨q0, q1, qP, qK, qD⟩ := q; exact ⟨q0, q1, qP, va_K.moved (u := U) (U := U.calling g mk a) (Vm.Alike.refl U.vm) qK, qD⟩, va_recv hK hPc (ci := 4) (q0 := 0) rfl rfl, fun U hU hW => ⟨rfl, by rw [hU], by rw [hU]; exact hPc, va_K.moved hW.alike hK, hDc.weaken (fun _ _ _ _ => trivial)⟩⟩ rfl rfl hl.1 rfl (lv_room (Nat.le_of_ble_eq_true rfl)) dX10_needReadAt_6 ⟨Nat.le_of_ble_eq_true rfl, Nat.le_of_ble_eq_true rfl⟩) hS (fun q _ h => hFc q h) hFc (fun r u t H1 locs ht hvm hw hB hz1 hk1 hS => ?_)
  obtain ⟨hP1, hK1, hD1⟩ := hB
  rw [ht] at hP1
  obtain ⟨r_1, hr_1⟩ : ∃ z, F_X5_holds p1 p2 fld_wide fld_high = z := ⟨_, rfl⟩
  try rw [hr_1] at hw
  try rw [hr_1] at hP1
  try rw [hr_1] at hD1
  have hw := hw.symm
  subst hw
  obtain ⟨hP, hD⟩ := va_join (wr := [(a_pb, .inr (9, [.ref a_fld, .ref a_plan, .ref a_row, .ref a_ctx, .ref a_cw, .ref a_rw, .ref a_cr, .ref a_rr, .ref a_scan, .int pb_style, .int pb_isWritten, .int pb_isRead]))]) (w1 := (wd_fld a_fld a_coef a_mags a_marks fld_wide fld_high fld_band fld_causal)) hP hD [0] [1] rfl rfl (by decide) (by decide) hk1 hFc hP1 hD1
  have hP : va_P (dC, dI) vwCl (wd_fld_pb a_fld a_coef a_mags a_marks a_pb a_plan a_row a_ctx a_cw a_rw a_cr a_rr a_scan fld_wide fld_high fld_band fld_causal pb_style pb_isWritten pb_isRead) H1 := hP.sub [1, 0] rfl
  have hD : va_D A (wd_fld_pb a_fld a_coef a_mags a_marks a_pb a_plan a_row a_ctx a_cw a_rw a_cr a_rr a_scan fld_wide fld_high fld_band fld_causal pb_style pb_isWritten pb_isRead) := hD.sub [1, 0] (by decide) rfl
  generalize H1 = H at hP hS ⊢
  have hpre := hpre r_1 hr_1
  refine lv_if_ne (tgt := 22) hx hb dX10_needReadAt_9 (by decide) (fun c_2 => ?_) (fun c_2 => ?_)
  · have hpre := hpre.2 c_2
    refine lv_aload_n hx hb dX10_needReadAt_22 rfl (lv_at hl 0 rfl) ?_
    have hPc := hP.sub (ws' := (wd_pb a_pb a_fld a_plan a_row a_ctx a_cw a_rw a_cr a_rr a_scan pb_style pb_isWritten pb_isRead)) [1] rfl
    have hDc := hD.sub (ws' := (wd_pb a_pb a_fld a_plan a_row a_ctx a_cw a_rw a_cr a_rr a_scan pb_style pb_isWritten pb_isRead)) [1] (by decide) rfl
    have hFc := va_free (wc := (wd_pb a_pb a_fld a_plan a_row a_ctx a_cw a_rw a_cr a_rr a_scan pb_style pb_isWritten pb_isRead)) hD hS hA [1] rfl
    refine va_callv (va_runV (As := []) (rest := []) ⟨hx, hb, hml, hown, hts⟩ (c_X10_needRead l dC dI cI cJ cZ a_pb a_fld a_plan a_row a_ctx a_cw a_rw a_cr a_rr a_scan H.size pb_style pb_isWritten pb_isRead hpre) (cwV 0 hts gX10_needReadAt_X10_needRead rfl rfl rfl (by decide +kernel) ⟨Nat.le_of_ble_eq_true rfl, Nat.le_of_ble_eq_true rfl⟩) ⟨fun a U g mk q => by obtain ⟨q0, q1, qP, qK, qD⟩ := q; exact ⟨q0, q1, qP, va_K.moved (u := U) (U := U.calling g mk a) (Vm.Alike.refl U.vm) qK, qD⟩, va_recv hK hPc (ci := 9) (q0 := 0) rfl rfl, fun U hU hW => ⟨rfl, by rw [hU], by rw [hU]; exact hPc, va_K.moved hW.alike hK, hDc.weaken (fun _ _ _ _ => trivial)⟩⟩ rfl rfl hl.1 rfl (lv_room (Nat.le_of_ble_eq_true rfl)) dX10_needReadAt_23 ⟨Nat.le_of_ble_eq_true rfl, Nat.le_of_ble_eq_true rfl⟩) hS (fun q _ h => hFc q h) hFc (fun u t H1 locs ht hvm hw hB hz1 hk1 hS => ?_)
    obtain ⟨hP1, hK1, hD1⟩ := hB
    rw [ht] at hP1
    obtain ⟨hP, hD⟩ := va_join (wr := [(a_fld, .inr (4, [.int fld_wide, .int fld_high, .ref a_coef, .ref a_mags, .ref a_marks, .int fld_band, .int fld_causal]))]) (w1 := (wd_pb a_pb a_fld a_plan a_row a_ctx a_cw a_rw a_cr a_rr a_scan pb_style pb_isWritten pb_isRead)) hP hD [1] [0] rfl rfl (by decide) (by decide) hk1 hFc hP1 hD1
    have hP : va_P (dC, dI) vwCl (wd_fld_pb a_fld a_coef a_mags a_marks a_pb a_plan a_row a_ctx a_cw a_rw a_cr a_rr a_scan fld_wide fld_high fld_band fld_causal pb_style pb_isWritten pb_isRead) H1 := hP.sub [0, 1] rfl
    have hD : va_D A (wd_fld_pb a_fld a_coef a_mags a_marks a_pb a_plan a_row a_ctx a_cw a_rw a_cr a_rr a_scan fld_wide fld_high fld_band fld_causal pb_style pb_isWritten pb_isRead) := hD.sub [0, 1] (by decide) rfl
    generalize H1 = H at hP hS ⊢
    rw [← hQe]
    exact W.vret hx hb hr (fun t ht hW => ⟨⟨(), rfl, trivial, by rw [ht]; exact hP, va_K.moved hW.alike hK, hD⟩, hS.F ht⟩) hS.2.2 dX10_needReadAt_26
  · have hpre := hpre.1 c_2
    exact absurd hpre id
abbrev wd_fld_coef_mags_marks_pb (cI : ClassId) (a_fld : Nat) (a_coef : Nat) (a_mags : Nat) (a_marks : Nat) (a_pb : Nat) (a_plan : Nat) (a_row : Nat) (a_ctx : Nat) (a_cw : Nat) (a_rw : Nat) (a_cr : Nat) (a_rr : Nat) (a_scan : Nat) (fld_wide : Int32) (fld_high : Int32) (fld_band : Int32) (fld_causal : Int32) (coef_n : Nat) (coef_f : Nat → Int32) (mags_n : Nat) (mags_f : Nat → Int32) (marks_n : Nat) (marks_f : Nat → Int32) (pb_style : Int32) (pb_isWritten : Int32) (pb_isRead : Int32) : va_W := [(a_fld, .inr (4, [.int fld_wide, .int fld_high, .ref a_coef, .ref a_mags, .ref a_marks, .int fld_band, .int fld_causal])), (a_coef, .inl (cI, coef_n, .inl coef_f)), (a_mags, .inl (cI, mags_n, .inl mags_f)), (a_marks, .inl (cI, marks_n, .inl marks_f)), (a_pb, .inr (9, [.ref a_fld, .ref a_plan, .ref a_row, .ref a_ctx, .ref a_cw, .ref a_rw, .ref a_cr, .ref a_rr, .ref a_scan, .int pb_style, .int pb_isWritten, .int pb_isRead]))]
abbrev rm_X10_begin (Dt : Nat) : Room := { frames := 2, cells := Dt, slots := Dt, locals := 49 }
abbrev Q_X10_begin (dC : Nat → ClassId) (dI : Nat → Nat → Nat) (cI cJ cZ : ClassId) (a_fld : Nat) (a_coef : Nat) (a_mags : Nat) (a_marks : Nat) (a_pb : Nat) (a_plan : Nat) (a_row : Nat) (a_ctx : Nat) (a_cw : Nat) (a_rw : Nat) (a_cr : Nat) (a_rr : Nat) (a_scan : Nat) (A : Nat → Prop) (fld_wide : Int32) (fld_high : Int32) (fld_band : Int32) (fld_causal : Int32) (coef_n : Nat) (coef_f : Nat → Int32) (mags_n : Nat) (mags_f : Nat → Int32) (marks_n : Nat) (marks_f : Nat → Int32) (pb_style : Int32) (pb_isWritten : Int32) (pb_isRead : Int32) (g : (Int32 × Int32 × Int32 × Int32 × Nat × (Nat → Int32) × Nat × (Nat → Int32) × Nat × (Nat → Int32) × Int32 × Int32 × Int32)) : Array Value → State → Outcome → State → Prop := va_Qv (fun _ : (Nat × Nat × Nat) => True) (fun u t => va_P (dC, dI) vwCl (wd_fld_coef_mags_marks_pb cI a_fld u.1 u.2.1 u.2.2 a_pb a_plan a_row a_ctx a_cw a_rw a_cr a_rr a_scan g.1 g.2.1 g.2.2.1 g.2.2.2.1 g.2.2.2.2.1 g.2.2.2.2.2.1 g.2.2.2.2.2.2.1 g.2.2.2.2.2.2.2.1 g.2.2.2.2.2.2.2.2.1 g.2.2.2.2.2.2.2.2.2.1 g.2.2.2.2.2.2.2.2.2.2.1 g.2.2.2.2.2.2.2.2.2.2.2.1 g.2.2.2.2.2.2.2.2.2.2.2.2) t.heap ∧ va_K (dC, dI) vwCl [(cI, .int), (cJ, .long), (cZ, .boolean)] t ∧ va_D A (wd_fld_coef_mags_marks_pb cI a_fld u.1 u.2.1 u.2.2 a_pb a_plan a_row a_ctx a_cw a_rw a_cr a_rr a_scan g.1 g.2.1 g.2.2.1 g.2.2.2.1 g.2.2.2.2.1 g.2.2.2.2.2.1 g.2.2.2.2.2.2.1 g.2.2.2.2.2.2.2.1 g.2.2.2.2.2.2.2.2.1 g.2.2.2.2.2.2.2.2.2.1 g.2.2.2.2.2.2.2.2.2.2.1 g.2.2.2.2.2.2.2.2.2.2.2.1 g.2.2.2.2.2.2.2.2.2.2.2.2)) A
theorem iw_X10_begin_X10 : ∀ w ∈ u_ws RX10 TX10 12, w ∈ wsX10_begin := by decide +kernel
set_option maxHeartbeats 4000000 in
set_option maxRecDepth 100000 in
theorem c_X10_begin (l : Launch) (dC : Nat → ClassId) (dI : Nat → Nat → Nat) (cI cJ cZ : ClassId) (a_fld : Nat) (a_coef : Nat) (a_mags : Nat) (a_marks : Nat) (a_pb : Nat) (a_plan : Nat) (a_row : Nat) (a_ctx : Nat) (a_cw : Nat) (a_rw : Nat) (a_cr : Nat) (a_rr : Nat) (a_scan : Nat) (sz : Nat) (fld_wide : Int32) (fld_high : Int32) (fld_band : Int32) (fld_causal : Int32) (coef_n : Nat) (coef_f : Nat → Int32) (mags_n : Nat) (mags_f : Nat → Int32) (marks_n : Nat) (marks_f : Nat → Int32) (pb_style : Int32) (pb_isWritten : Int32) (pb_isRead : Int32) (p1 : Int32) (p2 : Int32) (p3 : Int32) (p4 : Int32) (hpre : P_X10_begin p1 p2 p3 p4 coef_n coef_f mags_n mags_f marks_n marks_f) : Met l yX10_begin wsX10_begin (rm_X10_begin (D_X10_begin p1 p2 p3 p4 coef_n coef_f mags_n mags_f marks_n marks_f)) (va_Pc [.ref a_pb, .int p1, .int p2, .int p3, .int p4] (fun U => U.heap.size = sz ∧ va_P (dC, dI) vwCl (wd_fld_coef_mags_marks_pb cI a_fld a_coef a_mags a_marks a_pb a_plan a_row a_ctx a_cw a_rw a_cr a_rr a_scan fld_wide fld_high fld_band fld_causal coef_n coef_f mags_n mags_f marks_n marks_f pb_style pb_isWritten pb_isRead) U.heap ∧ va_K (dC, dI) vwCl [(cI, .int), (cJ, .long), (cZ, .boolean)] U ∧ va_D (fun _ => True) (wd_fld_coef_mags_marks_pb cI a_fld a_coef a_mags a_marks a_pb a_plan a_row a_ctx a_cw a_rw a_cr a_rr a_scan fld_wide fld_high fld_band fld_causal coef_n coef_f mags_n mags_f marks_n marks_f pb_style pb_isWritten pb_isRead))) (Q_X10_begin dC dI cI cJ cZ a_fld a_coef a_mags a_marks a_pb a_plan a_row a_ctx a_cw a_rw a_cr a_rr a_scan (va_A (wd_fld_coef_mags_marks_pb cI a_fld a_coef a_mags a_marks a_pb a_plan a_row a_ctx a_cw a_rw a_cr a_rr a_scan fld_wide fld_high fld_band fld_causal coef_n coef_f mags_n mags_f marks_n marks_f pb_style pb_isWritten pb_isRead) sz) fld_wide fld_high fld_band fld_causal coef_n coef_f mags_n mags_f marks_n marks_f pb_style pb_isWritten pb_isRead (F_X10_begin p1 p2 p3 p4 coef_n coef_f mags_n mags_f marks_n marks_f)) (D_X10_begin p1 p2 p3 p4 coef_n coef_f mags_n mags_f marks_n marks_f) (D_X10_begin p1 p2 p3 p4 coef_n coef_f mags_n mags_f marks_n marks_f) (va_A (wd_fld_coef_mags_marks_pb cI a_fld a_coef a_mags a_marks a_pb a_plan a_row a_ctx a_cw a_rw a_cr a_rr a_scan fld_wide fld_high fld_band fld_causal coef_n coef_f mags_n mags_f marks_n marks_f pb_style pb_isWritten pb_isRead) sz) := by
  refine Met.ofW (cc := cX10_begin) (maxL := 5) (ret := none) (by decide) rfl ?_
  intro p e s m args below meth c s₁ B hml hv
  obtain ⟨rfl, hsz, hP, hK, hD0⟩ := hv
  have hx := B.exec
  have hb := B.bytes
  have hr := B.returns
  have hts := atoms_spec (ws := wsX10_begin) B.pre
  have hown : s.vm.findClass RX10 = some m.cls := findClass_of_methodNamed B.named
  have hlocks := B.notSynchronized
  subst hsz
  have hD := hD0.self (sz := s.heap.size)
  generalize hAe : va_A (wd_fld_coef_mags_marks_pb cI a_fld a_coef a_mags a_marks a_pb a_plan a_row a_ctx a_cw a_rw a_cr a_rr a_scan fld_wide fld_high fld_band fld_causal coef_n coef_f mags_n mags_f marks_n marks_f pb_style pb_isWritten pb_isRead) s.heap.size = A at hD ⊢
  have hA : ∀ q : Nat, s.heap.size ≤ q → A q := fun q h => by rw [← hAe]; exact Or.inr h
  have hS : va_S A s.heap s.heap [] := va_S.rf
  obtain ⟨H, hH⟩ : ∃ z, z = s.heap := ⟨_, rfl⟩
  have hP : va_P (dC, dI) vwCl (wd_fld_coef_mags_marks_pb cI a_fld a_coef a_mags a_marks a_pb a_plan a_row a_ctx a_cw a_rw a_cr a_rr a_scan fld_wide fld_high fld_band fld_causal coef_n coef_f mags_n mags_f marks_n marks_f pb_style pb_isWritten pb_isRead) H := by rw [hH]; exact hP
  have hS : va_S A s.heap H [] := by rw [hH]; exact va_S.rf
  obtain ⟨g, hg⟩ : ∃ z, F_X10_begin p1 p2 p3 p4 coef_n coef_f mags_n mags_f marks_n marks_f = z := ⟨_, rfl⟩
  rw [hg]
  obtain ⟨Dt, hDt⟩ : ∃ z, D_X10_begin p1 p2 p3 p4 coef_n coef_f mags_n mags_f marks_n marks_f = z := ⟨_, rfl⟩
  rw [hDt]
  generalize hQe : MQ below (Q_X10_begin dC dI cI cJ cZ a_fld a_coef a_mags a_marks a_pb a_plan a_row a_ctx a_cw a_rw a_cr a_rr a_scan A fld_wide fld_high fld_band fld_causal coef_n coef_f mags_n mags_f marks_n marks_f pb_style pb_isWritten pb_isRead g) _ s Dt Dt A = Q
  rw [← hH]
  clear hH
  have hl := lv_entry ([.ref a_pb, .int p1, .int p2, .int p3, .int p4]) (n := 5) (Nat.le_of_ble_eq_true rfl)
  rw [lg_entry_eq]
  generalize (lg_sl ([.ref a_pb, .int p1, .int p2, .int p3, .int p4]) ++ List.replicate (5 - (lg_sl ([.ref a_pb, .int p1, .int p2, .int p3, .int p4])).length) Slot.unset).toArray = ls at hl ⊢
  have hl : lv_has ls 5 [(0, .ref a_pb), (1, .int p1), (2, .int p2), (3, .int p3), (4, .int p4)] := hl
  unfold F_X10_begin at hg
  unfold P_X10_begin at hpre
  unfold D_X10_begin at hDt
  obtain ⟨k, hk⟩ : ∃ z : Nat, z = 0 := ⟨_, rfl⟩
  obtain ⟨E, hE⟩ : ∃ z : Nat, z = 0 := ⟨_, rfl⟩
  have hC : k + (if p1 < (1 : Int32) then 0 else (if (64 : Int32) < p1 then 0 else (if p2 < (1 : Int32) then 0 else (if p2 ≤ (64 : Int32) then (if p3 < (0 : Int32) then 0 else (if p3 ≤ (3 : Int32) then (if p4 < (0 : Int32) then 0 else (if p4 ≤ (63 : Int32) then (let r_9 := F_X10_has (8 : Int32) p4; D_X5_resize p1 p2 coef_n coef_f mags_n mags_f marks_n marks_f + (let r_10 := F_X5_resize p1 p2 p3 r_9 coef_n coef_f mags_n mags_f marks_n marks_f; 0)) else 0)) else 0)) else 0)))) + E ≤ Dt := by rw [hk, hE, Nat.zero_add]; exact Nat.le_of_eq hDt
  refine W.widen (k := k) (n := k) (Nat.zero_le _) (Nat.zero_le _) ?_
  clear hk hE hDt
  refine lv_iload_n hx hb dX10_begin_0 rfl (lv_at hl 1 rfl) ?_
  refine lv_iconst (v := 1) hx hb dX10_begin_1 (by decide) ?_
  refine lv_icmp_lt (tgt := 22) hx hb dX10_begin_2 (by decide) (fun c_1 => ?_) (fun c_1 => ?_)
  · rw [if_pos c_1] at hg
    rw [if_pos c_1] at hC
    have hpre := hpre.1 c_1
    exact absurd hpre id
  · rw [if_neg c_1] at hg
    rw [if_neg c_1] at hC
    have hpre := hpre.2 c_1
    refine lv_iload_n hx hb dX10_begin_5 rfl (lv_at hl 1 rfl) ?_
    refine lv_bipush (v := 64) hx hb dX10_begin_6 (by decide) ?_
    refine lv_icmp_gt (tgt := 22) hx hb dX10_begin_8 (by decide) (fun c_2 => ?_) (fun c_2 => ?_)
    · rw [if_pos c_2] at hg
      rw [if_pos c_2] at hC
      have hpre := hpre.1 c_2
      exact absurd hpre id
    · rw [if_neg c_2] at hg
      rw [if_neg c_2] at hC
      have hpre := hpre.2 c_2
      refine lv_iload_n hx hb dX10_begin_11 rfl (lv_at hl 2 rfl) ?_
      refine lv_iconst (v := 1) hx hb dX10_begin_12 (by decide) ?_
      refine lv_icmp_lt (tgt := 22) hx hb dX10_begin_13 (by decide) (fun c_3 => ?_) (fun c_3 => ?_)
      · rw [if_pos c_3] at hg
        rw [if_pos c_3] at hC
        have hpre := hpre.1 c_3
        exact absurd hpre id
      · rw [if_neg c_3] at hg
        rw [if_neg c_3] at hC
        have hpre := hpre.2 c_3
        refine lv_iload_n hx hb dX10_begin_16 rfl (lv_at hl 2 rfl) ?_
        refine lv_bipush (v := 64) hx hb dX10_begin_17 (by decide) ?_
        refine lv_icmp_le (tgt := 32) hx hb dX10_begin_19 (by decide) (fun c_4 => ?_) (fun c_4 => ?_)
        · rw [if_pos c_4] at hg
          rw [if_pos c_4] at hC
          have hpre := hpre.1 c_4
          refine lv_iload_n hx hb dX10_begin_32 rfl (lv_at hl 3 rfl) ?_
          refine lv_if_lt (tgt := 41) hx hb dX10_begin_33 (by decide) (fun c_5 => ?_) (fun c_5 => ?_)
          · rw [if_pos c_5] at hg
            rw [if_pos c_5] at hC
            have hpre := hpre.1 c_5
            exact absurd hpre id
          · rw [if_neg c_5] at hg
            rw [if_neg c_5] at hC
            have hpre := hpre.2 c_5
            refine lv_iload_n hx hb dX10_begin_36 rfl (lv_at hl 3 rfl) ?_
            refine lv_iconst (v := 3) hx hb dX10_begin_37 (by decide) ?_
            refine lv_icmp_le (tgt := 51) hx hb dX10_begin_38 (by decide) (fun c_6 => ?_) (fun c_6 => ?_)
            · rw [if_pos c_6] at hg
              rw [if_pos c_6] at hC
              have hpre := hpre.1 c_6
              refine lv_iload hx hb dX10_begin_51 (lv_at hl 4 rfl) ?_
              refine lv_if_lt (tgt := 63) hx hb dX10_begin_53 (by decide) (fun c_7 => ?_) (fun c_7 => ?_)
              · rw [if_pos c_7] at hg
                rw [if_pos c_7] at hC
                have hpre := hpre.1 c_7
                exact absurd hpre id
              · rw [if_neg c_7] at hg
                rw [if_neg c_7] at hC
                have hpre := hpre.2 c_7
                refine lv_iload hx hb dX10_begin_56 (lv_at hl 4 rfl) ?_
                refine lv_bipush (v := 63) hx hb dX10_begin_58 (by decide) ?_
                refine lv_icmp_le (tgt := 73) hx hb dX10_begin_60 (by decide) (fun c_8 => ?_) (fun c_8 => ?_)
                · rw [if_pos c_8] at hg
                  rw [if_pos c_8] at hC
                  have hpre := hpre.1 c_8
                  refine lv_aload_n hx hb dX10_begin_73 rfl (lv_at hl 0 rfl) ?_
                  refine lv_iload hx hb dX10_begin_74 (lv_at hl 4 rfl) ?_
                  refine va_put (D := (dC, dI)) (ci := 9) (v := .int p4) (ty := .int) (C := RX10) (T := TX10) (N := 12) hx hb hts iw_X10_begin_X10 tyX10 tyX10_ok nmX10 hown hK hP hD hS 4 rfl rfl 9 (by decide) (hts (.fieldLink RX10 89 "PlaneBlocks" "style" "I") (by decide +kernel)) (fun _ h9 => h9) rfl (by decide +kernel) rfl rfl (Nat.le_of_ble_eq_true rfl) dX10_begin_76 (fun H locs hP hD hS => ?_)
                  have hP : va_P (dC, dI) vwCl (wd_fld_coef_mags_marks_pb cI a_fld a_coef a_mags a_marks a_pb a_plan a_row a_ctx a_cw a_rw a_cr a_rr a_scan fld_wide fld_high fld_band fld_causal coef_n coef_f mags_n mags_f marks_n marks_f p4 pb_isWritten pb_isRead) H := hP
                  have hD : va_D A (wd_fld_coef_mags_marks_pb cI a_fld a_coef a_mags a_marks a_pb a_plan a_row a_ctx a_cw a_rw a_cr a_rr a_scan fld_wide fld_high fld_band fld_causal coef_n coef_f mags_n mags_f marks_n marks_f p4 pb_isWritten pb_isRead) := hD
                  refine lv_aload_n hx hb dX10_begin_79 rfl (lv_at hl 0 rfl) ?_
                  refine va_get (D := (dC, dI)) (ci := 9) (v := .ref a_fld) (C := RX10) (T := TX10) (N := 12) hx hb hts iw_X10_begin_X10 hown hK hP 4 rfl rfl 0 (by decide) (hts (.fieldLink RX10 12 "PlaneBlocks" "field" "LPlaneBlocks$Field;") (by decide +kernel)) (fun _ h9 => h9) rfl dX10_begin_80 ?_
                  refine lv_iload_n hx hb dX10_begin_83 rfl (lv_at hl 1 rfl) ?_
                  refine lv_iload_n hx hb dX10_begin_84 rfl (lv_at hl 2 rfl) ?_
                  refine lv_iload_n hx hb dX10_begin_85 rfl (lv_at hl 3 rfl) ?_
                  refine lv_aload_n hx hb dX10_begin_86 rfl (lv_at hl 0 rfl) ?_
                  refine lv_bipush (v := 8) hx hb dX10_begin_87 (by decide) ?_
                  have hPc := hP.sub (ws' := (wd_pb a_pb a_fld a_plan a_row a_ctx a_cw a_rw a_cr a_rr a_scan p4 pb_isWritten pb_isRead)) [4] rfl
                  have hDc := hD.sub (ws' := (wd_pb a_pb a_fld a_plan a_row a_ctx a_cw a_rw a_cr a_rr a_scan p4 pb_isWritten pb_isRead)) [4] (by decide) rfl
                  have hFc := va_free (wc := (wd_pb a_pb a_fld a_plan a_row a_ctx a_cw a_rw a_cr a_rr a_scan p4 pb_isWritten pb_isRead)) hD hS hA [4] rfl
                  refine va_calli (va_runV (As := [.int (8 : Int32)]) (rest := [.int p3, .int p2, .int p1, .ref a_fld]) ⟨hx, hb, hml, hown, hts⟩ (c_X10_has l dC dI cI cJ cZ a_pb a_fld a_plan a_row a_ctx a_cw a_rw a_cr a_rr a_scan H.size p4 pb_isWritten pb_isRead (8 : Int32)) (cwV 1 hts gX10_begin_X10_has rfl rfl rfl (by decide +kernel) ⟨Nat.le_of_ble_eq_true rfl, Nat.le_of_ble_eq_true rfl⟩) ⟨fun a U g mk q => by obtain ⟨q0, q1, qP, qK, qD⟩ := q; exact ⟨q0, q1, qP, va_K.moved (u := U) (U := U.calling g mk a) (Vm.Alike.refl U.vm) qK, qD⟩, va_recv hK hPc (ci := 9) (q0 := 0) rfl rfl, fun U hU hW => ⟨rfl, by rw [hU], by rw [hU]; exact hPc, va_K.moved hW.alike hK, hDc.weaken (fun _ _ _ _ => trivial)⟩⟩ rfl rfl hl.1 rfl (lv_room (Nat.le_of_ble_eq_true rfl)) dX10_begin_89 ⟨k0_le hC, k0_le hC⟩) hS (fun q _ h => hFc q h) hFc (fun r u t H1 locs ht hvm hw hB hz1 hk1 hS => ?_)
                  obtain ⟨hP1, hK1, hD1⟩ := hB
                  rw [ht] at hP1
                  obtain ⟨r_9, hr_9⟩ : ∃ z, F_X10_has (8 : Int32) p4 = z := ⟨_, rfl⟩
                  try rw [hr_9] at hw
                  try rw [hr_9] at hP1
                  try rw [hr_9] at hD1
                  have hg : (let r_10 := F_X5_resize p1 p2 p3 r_9 coef_n coef_f mags_n mags_f marks_n marks_f; let r_14 := F_X10_forgetAll; (r_10.1, r_10.2.1, r_10.2.2.1, r_10.2.2.2.1, r_10.2.2.2.2.1, r_10.2.2.2.2.2.1, r_10.2.2.2.2.2.2.1, r_10.2.2.2.2.2.2.2.1, r_10.2.2.2.2.2.2.2.2.1, r_10.2.2.2.2.2.2.2.2.2, p4, r_14.1, r_14.2)) = g := by first | (rw [hr_9] at hg; exact hg) | (subst hr_9; exact hg)
                  have hw := hw.symm
                  subst hw
                  obtain ⟨hP, hD⟩ := va_join (wr := [(a_fld, .inr (4, [.int fld_wide, .int fld_high, .ref a_coef, .ref a_mags, .ref a_marks, .int fld_band, .int fld_causal])), (a_coef, .inl (cI, coef_n, .inl coef_f)), (a_mags, .inl (cI, mags_n, .inl mags_f)), (a_marks, .inl (cI, marks_n, .inl marks_f))]) (w1 := (wd_pb a_pb a_fld a_plan a_row a_ctx a_cw a_rw a_cr a_rr a_scan p4 pb_isWritten pb_isRead)) hP hD [4] [0, 1, 2, 3] rfl rfl (by decide) (by decide) hk1 hFc hP1 hD1
                  have hP : va_P (dC, dI) vwCl (wd_fld_coef_mags_marks_pb cI a_fld a_coef a_mags a_marks a_pb a_plan a_row a_ctx a_cw a_rw a_cr a_rr a_scan fld_wide fld_high fld_band fld_causal coef_n coef_f mags_n mags_f marks_n marks_f p4 pb_isWritten pb_isRead) H1 := hP.sub [0, 1, 2, 3, 4] rfl
                  have hD : va_D A (wd_fld_coef_mags_marks_pb cI a_fld a_coef a_mags a_marks a_pb a_plan a_row a_ctx a_cw a_rw a_cr a_rr a_scan fld_wide fld_high fld_band fld_causal coef_n coef_f mags_n mags_f marks_n marks_f p4 pb_isWritten pb_isRead) := hD.sub [0, 1, 2, 3, 4] (by decide) rfl
                  generalize H1 = H at hP hS ⊢
                  have hC : k + (D_X5_resize p1 p2 coef_n coef_f mags_n mags_f marks_n marks_f + (let r_10 := F_X5_resize p1 p2 p3 r_9 coef_n coef_f mags_n mags_f marks_n marks_f; 0)) + E ≤ Dt := by subst hr_9; exact hC
                  have hpre := hpre r_9 hr_9
                  have hPc := hP.sub (ws' := (wd_fld_coef_mags_marks cI a_fld a_coef a_mags a_marks fld_wide fld_high fld_band fld_causal coef_n coef_f mags_n mags_f marks_n marks_f)) [0, 1, 2, 3] rfl
                  have hDc := hD.sub (ws' := (wd_fld_coef_mags_marks cI a_fld a_coef a_mags a_marks fld_wide fld_high fld_band fld_causal coef_n coef_f mags_n mags_f marks_n marks_f)) [0, 1, 2, 3] (by decide) rfl
                  have hFc := va_free (wc := (wd_fld_coef_mags_marks cI a_fld a_coef a_mags a_marks fld_wide fld_high fld_band fld_causal coef_n coef_f mags_n mags_f marks_n marks_f)) hD hS hA [0, 1, 2, 3] rfl
                  refine va_callv (va_runV (As := [.int p1, .int p2, .int p3, .int r_9]) (rest := []) ⟨hx, hb, hml, hown, hts⟩ (c_X5_resize l dC dI cI cJ cZ a_fld a_coef a_mags a_marks H.size fld_wide fld_high fld_band fld_causal coef_n coef_f mags_n mags_f marks_n marks_f p1 p2 p3 r_9 hpre) (cwV 4 hts gX10_begin_X5_resize rfl rfl rfl (by decide +kernel) ⟨Nat.le_of_ble_eq_true rfl, Nat.le_of_ble_eq_true rfl⟩) ⟨fun a U g mk q => by obtain ⟨q0, q1, qP, qK, qD⟩ := q; exact ⟨q0, q1, qP, va_K.moved (u := U) (U := U.calling g mk a) (Vm.Alike.refl U.vm) qK, qD⟩, va_recv hK hPc (ci := 4) (q0 := 0) rfl rfl, fun U hU hW => ⟨rfl, by rw [hU], by rw [hU]; exact hPc, va_K.moved hW.alike hK, hDc.weaken (fun _ _ _ _ => trivial)⟩⟩ rfl rfl hl.1 rfl (lv_room (Nat.le_of_ble_eq_true rfl)) dX10_begin_92 ⟨kd_le hC, kd_le hC⟩) hS (fun q _ h => hFc q h) hFc (fun u t H1 locs ht hvm hw hB hz1 hk1 hS => ?_)
                  obtain ⟨u_11, u_12, u_13⟩ := u
                  obtain ⟨hP1, hK1, hD1⟩ := hB
                  rw [ht] at hP1
                  obtain ⟨r_10, hr_10⟩ : ∃ z, F_X5_resize p1 p2 p3 r_9 coef_n coef_f mags_n mags_f marks_n marks_f = z := ⟨_, rfl⟩
                  try rw [hr_10] at hw
                  try rw [hr_10] at hP1
                  try rw [hr_10] at hD1
                  have hg : (let r_14 := F_X10_forgetAll; (r_10.1, r_10.2.1, r_10.2.2.1, r_10.2.2.2.1, r_10.2.2.2.2.1, r_10.2.2.2.2.2.1, r_10.2.2.2.2.2.2.1, r_10.2.2.2.2.2.2.2.1, r_10.2.2.2.2.2.2.2.2.1, r_10.2.2.2.2.2.2.2.2.2, p4, r_14.1, r_14.2)) = g := by first | (rw [hr_10] at hg; exact hg) | (subst hr_10; exact hg)
                  obtain ⟨hP, hD⟩ := va_join (wr := [(a_pb, .inr (9, [.ref a_fld, .ref a_plan, .ref a_row, .ref a_ctx, .ref a_cw, .ref a_rw, .ref a_cr, .ref a_rr, .ref a_scan, .int p4, .int pb_isWritten, .int pb_isRead]))]) (w1 := (wd_fld_coef_mags_marks cI a_fld u_11 u_12 u_13 r_10.1 r_10.2.1 r_10.2.2.1 r_10.2.2.2.1 r_10.2.2.2.2.1 r_10.2.2.2.2.2.1 r_10.2.2.2.2.2.2.1 r_10.2.2.2.2.2.2.2.1 r_10.2.2.2.2.2.2.2.2.1 r_10.2.2.2.2.2.2.2.2.2)) hP hD [0, 1, 2, 3] [4] rfl rfl (by decide) (by decide) hk1 hFc hP1 hD1
                  have hP : va_P (dC, dI) vwCl (wd_fld_coef_mags_marks_pb cI a_fld u_11 u_12 u_13 a_pb a_plan a_row a_ctx a_cw a_rw a_cr a_rr a_scan r_10.1 r_10.2.1 r_10.2.2.1 r_10.2.2.2.1 r_10.2.2.2.2.1 r_10.2.2.2.2.2.1 r_10.2.2.2.2.2.2.1 r_10.2.2.2.2.2.2.2.1 r_10.2.2.2.2.2.2.2.2.1 r_10.2.2.2.2.2.2.2.2.2 p4 pb_isWritten pb_isRead) H1 := hP.sub [1, 2, 3, 4, 0] rfl
                  have hD : va_D A (wd_fld_coef_mags_marks_pb cI a_fld u_11 u_12 u_13 a_pb a_plan a_row a_ctx a_cw a_rw a_cr a_rr a_scan r_10.1 r_10.2.1 r_10.2.2.1 r_10.2.2.2.1 r_10.2.2.2.2.1 r_10.2.2.2.2.2.1 r_10.2.2.2.2.2.2.1 r_10.2.2.2.2.2.2.2.1 r_10.2.2.2.2.2.2.2.2.1 r_10.2.2.2.2.2.2.2.2.2 p4 pb_isWritten pb_isRead) := hD.sub [1, 2, 3, 4, 0] (by decide) rfl
                  generalize H1 = H at hP hS ⊢
                  have hC : k + (D_X5_resize p1 p2 coef_n coef_f mags_n mags_f marks_n marks_f + (0)) + E ≤ Dt := by subst hr_10; exact hC
                  obtain ⟨k1, hk1⟩ : ∃ z, z = k + (D_X5_resize p1 p2 coef_n coef_f mags_n mags_f marks_n marks_f) := ⟨_, rfl⟩
                  have hC : k1 + (0) + E ≤ Dt := by rw [hk1, Nat.add_assoc k]; exact hC
                  refine W.widen (k := k1) (n := k1) (Nat.le_of_eq hk1.symm) (Nat.le_of_eq hk1.symm) ?_
                  clear hk1
                  generalize k1 = k at hC ⊢
                  refine lv_aload_n hx hb dX10_begin_95 rfl (lv_at hl 0 rfl) ?_
                  have hPc := hP.sub (ws' := (wd_pb a_pb a_fld a_plan a_row a_ctx a_cw a_rw a_cr a_rr a_scan p4 pb_isWritten pb_isRead)) [4] rfl
                  have hDc := hD.sub (ws' := (wd_pb a_pb a_fld a_plan a_row a_ctx a_cw a_rw a_cr a_rr a_scan p4 pb_isWritten pb_isRead)) [4] (by decide) rfl
                  have hFc := va_free (wc := (wd_pb a_pb a_fld a_plan a_row a_ctx a_cw a_rw a_cr a_rr a_scan p4 pb_isWritten pb_isRead)) hD hS hA [4] rfl
                  refine va_callv (va_runV (As := []) (rest := []) ⟨hx, hb, hml, hown, hts⟩ (c_X10_forgetAll l dC dI cI cJ cZ a_pb a_fld a_plan a_row a_ctx a_cw a_rw a_cr a_rr a_scan H.size p4 pb_isWritten pb_isRead) (cwV 0 hts gX10_begin_X10_forgetAll rfl rfl rfl (by decide +kernel) ⟨Nat.le_of_ble_eq_true rfl, Nat.le_of_ble_eq_true rfl⟩) ⟨fun a U g mk q => by obtain ⟨q0, q1, qP, qK, qD⟩ := q; exact ⟨q0, q1, qP, va_K.moved (u := U) (U := U.calling g mk a) (Vm.Alike.refl U.vm) qK, qD⟩, va_recv hK hPc (ci := 9) (q0 := 0) rfl rfl, fun U hU hW => ⟨rfl, by rw [hU], by rw [hU]; exact hPc, va_K.moved hW.alike hK, hDc.weaken (fun _ _ _ _ => trivial)⟩⟩ rfl rfl hl.1 rfl (lv_room (Nat.le_of_ble_eq_true rfl)) dX10_begin_96 ⟨k0_le hC, k0_le hC⟩) hS (fun q _ h => hFc q h) hFc (fun u t H1 locs ht hvm hw hB hz1 hk1 hS => ?_)
                  obtain ⟨hP1, hK1, hD1⟩ := hB
                  rw [ht] at hP1
                  obtain ⟨r_14, hr_14⟩ : ∃ z, F_X10_forgetAll = z := ⟨_, rfl⟩
                  try rw [hr_14] at hw
                  try rw [hr_14] at hP1
                  try rw [hr_14] at hD1
                  have hg : (r_10.1, r_10.2.1, r_10.2.2.1, r_10.2.2.2.1, r_10.2.2.2.2.1, r_10.2.2.2.2.2.1, r_10.2.2.2.2.2.2.1, r_10.2.2.2.2.2.2.2.1, r_10.2.2.2.2.2.2.2.2.1, r_10.2.2.2.2.2.2.2.2.2, p4, r_14.1, r_14.2) = g := by first | (rw [hr_14] at hg; exact hg) | (subst hr_14; exact hg)
                  obtain ⟨hP, hD⟩ := va_join (wr := [(a_fld, .inr (4, [.int r_10.1, .int r_10.2.1, .ref u_11, .ref u_12, .ref u_13, .int r_10.2.2.1, .int r_10.2.2.2.1])), (u_11, .inl (cI, r_10.2.2.2.2.1, .inl r_10.2.2.2.2.2.1)), (u_12, .inl (cI, r_10.2.2.2.2.2.2.1, .inl r_10.2.2.2.2.2.2.2.1)), (u_13, .inl (cI, r_10.2.2.2.2.2.2.2.2.1, .inl r_10.2.2.2.2.2.2.2.2.2))]) (w1 := (wd_pb a_pb a_fld a_plan a_row a_ctx a_cw a_rw a_cr a_rr a_scan p4 r_14.1 r_14.2)) hP hD [4] [0, 1, 2, 3] rfl rfl (by decide) (by decide) hk1 hFc hP1 hD1
                  have hP : va_P (dC, dI) vwCl (wd_fld_coef_mags_marks_pb cI a_fld u_11 u_12 u_13 a_pb a_plan a_row a_ctx a_cw a_rw a_cr a_rr a_scan r_10.1 r_10.2.1 r_10.2.2.1 r_10.2.2.2.1 r_10.2.2.2.2.1 r_10.2.2.2.2.2.1 r_10.2.2.2.2.2.2.1 r_10.2.2.2.2.2.2.2.1 r_10.2.2.2.2.2.2.2.2.1 r_10.2.2.2.2.2.2.2.2.2 p4 r_14.1 r_14.2) H1 := hP.sub [0, 1, 2, 3, 4] rfl
                  have hD : va_D A (wd_fld_coef_mags_marks_pb cI a_fld u_11 u_12 u_13 a_pb a_plan a_row a_ctx a_cw a_rw a_cr a_rr a_scan r_10.1 r_10.2.1 r_10.2.2.1 r_10.2.2.2.1 r_10.2.2.2.2.1 r_10.2.2.2.2.2.1 r_10.2.2.2.2.2.2.1 r_10.2.2.2.2.2.2.2.1 r_10.2.2.2.2.2.2.2.2.1 r_10.2.2.2.2.2.2.2.2.2 p4 r_14.1 r_14.2) := hD.sub [0, 1, 2, 3, 4] (by decide) rfl
                  generalize H1 = H at hP hS ⊢
                  subst hg
                  refine W.widen (k := Dt) (n := Dt) (k0_le hC) (k0_le hC) ?_
                  rw [← hQe]
                  exact W.vret hx hb hr (fun t ht hW => ⟨⟨(u_11, u_12, u_13), rfl, trivial, by rw [ht]; exact hP, va_K.moved hW.alike hK, hD⟩, hS.F ht⟩) hS.2.2 dX10_begin_99
                · rw [if_neg c_8] at hg
                  rw [if_neg c_8] at hC
                  have hpre := hpre.2 c_8
                  exact absurd hpre id
            · rw [if_neg c_6] at hg
              rw [if_neg c_6] at hC
              have hpre := hpre.2 c_6
              exact absurd hpre id
        · rw [if_neg c_4] at hg
          rw [if_neg c_4] at hC
          have hpre := hpre.2 c_4
          exact absurd hpre id
abbrev wd_fld_coef_pb (cI : ClassId) (a_fld : Nat) (a_coef : Nat) (a_mags : Nat) (a_marks : Nat) (a_pb : Nat) (a_plan : Nat) (a_row : Nat) (a_ctx : Nat) (a_cw : Nat) (a_rw : Nat) (a_cr : Nat) (a_rr : Nat) (a_scan : Nat) (fld_wide : Int32) (fld_high : Int32) (fld_band : Int32) (fld_causal : Int32) (coef_n : Nat) (coef_f : Nat → Int32) (pb_style : Int32) (pb_isWritten : Int32) (pb_isRead : Int32) : va_W := [(a_fld, .inr (4, [.int fld_wide, .int fld_high, .ref a_coef, .ref a_mags, .ref a_marks, .int fld_band, .int fld_causal])), (a_coef, .inl (cI, coef_n, .inl coef_f)), (a_pb, .inr (9, [.ref a_fld, .ref a_plan, .ref a_row, .ref a_ctx, .ref a_cw, .ref a_rw, .ref a_cr, .ref a_rr, .ref a_scan, .int pb_style, .int pb_isWritten, .int pb_isRead]))]
abbrev rm_X10_set : Room := { frames := 1, cells := 0, slots := 0, locals := 22 }
abbrev Q_X10_set (dC : Nat → ClassId) (dI : Nat → Nat → Nat) (cI cJ cZ : ClassId) (a_fld : Nat) (a_coef : Nat) (a_mags : Nat) (a_marks : Nat) (a_pb : Nat) (a_plan : Nat) (a_row : Nat) (a_ctx : Nat) (a_cw : Nat) (a_rw : Nat) (a_cr : Nat) (a_rr : Nat) (a_scan : Nat) (A : Nat → Prop) (fld_wide : Int32) (fld_high : Int32) (fld_band : Int32) (fld_causal : Int32) (coef_n : Nat) (coef_f : Nat → Int32) (pb_style : Int32) (pb_isWritten : Int32) (pb_isRead : Int32) (g : ((Nat → Int32) × Int32 × Int32)) : Array Value → State → Outcome → State → Prop := va_Qv (fun _ : Unit => True) (fun u t => va_P (dC, dI) vwCl (wd_fld_coef_pb cI a_fld a_coef a_mags a_marks a_pb a_plan a_row a_ctx a_cw a_rw a_cr a_rr a_scan fld_wide fld_high fld_band fld_causal coef_n g.1 pb_style g.2.1 g.2.2) t.heap ∧ va_K (dC, dI) vwCl [(cI, .int), (cJ, .long), (cZ, .boolean)] t ∧ va_D A (wd_fld_coef_pb cI a_fld a_coef a_mags a_marks a_pb a_plan a_row a_ctx a_cw a_rw a_cr a_rr a_scan fld_wide fld_high fld_band fld_causal coef_n g.1 pb_style g.2.1 g.2.2)) A
theorem iw_X10_set_X10 : ∀ w ∈ u_ws RX10 TX10 12, w ∈ wsX10_set := by decide +kernel
theorem iw_X10_set_X5 : ∀ w ∈ u_ws RX5 TX5 7, w ∈ wsX10_set := by decide +kernel
set_option maxHeartbeats 4000000 in
set_option maxRecDepth 100000 in
theorem c_X10_set (l : Launch) (dC : Nat → ClassId) (dI : Nat → Nat → Nat) (cI cJ cZ : ClassId) (a_fld : Nat) (a_coef : Nat) (a_mags : Nat) (a_marks : Nat) (a_pb : Nat) (a_plan : Nat) (a_row : Nat) (a_ctx : Nat) (a_cw : Nat) (a_rw : Nat) (a_cr : Nat) (a_rr : Nat) (a_scan : Nat) (sz : Nat) (fld_wide : Int32) (fld_high : Int32) (fld_band : Int32) (fld_causal : Int32) (coef_n : Nat) (coef_f : Nat → Int32) (pb_style : Int32) (pb_isWritten : Int32) (pb_isRead : Int32) (p1 : Int32) (p2 : Int32) (p3 : Int32) (hpre : P_X10_set p1 p2 p3 fld_wide fld_high coef_n) : Met l yX10_set wsX10_set rm_X10_set (va_Pc [.ref a_pb, .int p1, .int p2, .int p3] (fun U => U.heap.size = sz ∧ va_P (dC, dI) vwCl (wd_fld_coef_pb cI a_fld a_coef a_mags a_marks a_pb a_plan a_row a_ctx a_cw a_rw a_cr a_rr a_scan fld_wide fld_high fld_band fld_causal coef_n coef_f pb_style pb_isWritten pb_isRead) U.heap ∧ va_K (dC, dI) vwCl [(cI, .int), (cJ, .long), (cZ, .boolean)] U ∧ va_D (fun _ => True) (wd_fld_coef_pb cI a_fld a_coef a_mags a_marks a_pb a_plan a_row a_ctx a_cw a_rw a_cr a_rr a_scan fld_wide fld_high fld_band fld_causal coef_n coef_f pb_style pb_isWritten pb_isRead))) (Q_X10_set dC dI cI cJ cZ a_fld a_coef a_mags a_marks a_pb a_plan a_row a_ctx a_cw a_rw a_cr a_rr a_scan (va_A (wd_fld_coef_pb cI a_fld a_coef a_mags a_marks a_pb a_plan a_row a_ctx a_cw a_rw a_cr a_rr a_scan fld_wide fld_high fld_band fld_causal coef_n coef_f pb_style pb_isWritten pb_isRead) sz) fld_wide fld_high fld_band fld_causal coef_n coef_f pb_style pb_isWritten pb_isRead (F_X10_set p1 p2 p3 fld_wide fld_high coef_f)) 0 0 (va_A (wd_fld_coef_pb cI a_fld a_coef a_mags a_marks a_pb a_plan a_row a_ctx a_cw a_rw a_cr a_rr a_scan fld_wide fld_high fld_band fld_causal coef_n coef_f pb_style pb_isWritten pb_isRead) sz) := by
  refine Met.ofW (cc := cX10_set) (maxL := 4) (ret := none) (by decide) rfl ?_
  intro p e s m args below meth c s₁ B hml hv
  obtain ⟨rfl, hsz, hP, hK, hD0⟩ := hv
  have hx := B.exec
  have hb := B.bytes
  have hr := B.returns
  have hts := atoms_spec (ws := wsX10_set) B.pre
  have hown : s.vm.findClass RX10 = some m.cls := findClass_of_methodNamed B.named
  have hlocks := B.notSynchronized
  subst hsz
  have hD := hD0.self (sz := s.heap.size)
  generalize hAe : va_A (wd_fld_coef_pb cI a_fld a_coef a_mags a_marks a_pb a_plan a_row a_ctx a_cw a_rw a_cr a_rr a_scan fld_wide fld_high fld_band fld_causal coef_n coef_f pb_style pb_isWritten pb_isRead) s.heap.size = A at hD ⊢
  have hA : ∀ q : Nat, s.heap.size ≤ q → A q := fun q h => by rw [← hAe]; exact Or.inr h
  have hS : va_S A s.heap s.heap [] := va_S.rf
  obtain ⟨H, hH⟩ : ∃ z, z = s.heap := ⟨_, rfl⟩
  have hP : va_P (dC, dI) vwCl (wd_fld_coef_pb cI a_fld a_coef a_mags a_marks a_pb a_plan a_row a_ctx a_cw a_rw a_cr a_rr a_scan fld_wide fld_high fld_band fld_causal coef_n coef_f pb_style pb_isWritten pb_isRead) H := by rw [hH]; exact hP
  have hS : va_S A s.heap H [] := by rw [hH]; exact va_S.rf
  obtain ⟨g, hg⟩ : ∃ z, F_X10_set p1 p2 p3 fld_wide fld_high coef_f = z := ⟨_, rfl⟩
  rw [hg]
  generalize hQe : MQ below (Q_X10_set dC dI cI cJ cZ a_fld a_coef a_mags a_marks a_pb a_plan a_row a_ctx a_cw a_rw a_cr a_rr a_scan A fld_wide fld_high fld_band fld_causal coef_n coef_f pb_style pb_isWritten pb_isRead g) _ s 0 0 A = Q
  rw [← hH]
  clear hH
  have hl := lv_entry ([.ref a_pb, .int p1, .int p2, .int p3]) (n := 4) (Nat.le_of_ble_eq_true rfl)
  rw [lg_entry_eq]
  generalize (lg_sl ([.ref a_pb, .int p1, .int p2, .int p3]) ++ List.replicate (4 - (lg_sl ([.ref a_pb, .int p1, .int p2, .int p3])).length) Slot.unset).toArray = ls at hl ⊢
  have hl : lv_has ls 4 [(0, .ref a_pb), (1, .int p1), (2, .int p2), (3, .int p3)] := hl
  unfold F_X10_set at hg
  unfold P_X10_set at hpre
  refine lv_aload_n hx hb dX10_set_0 rfl (lv_at hl 0 rfl) ?_
  refine va_get (D := (dC, dI)) (ci := 9) (v := .ref a_fld) (C := RX10) (T := TX10) (N := 12) hx hb hts iw_X10_set_X10 hown hK hP 2 rfl rfl 0 (by decide) (hts (.fieldLink RX10 12 "PlaneBlocks" "field" "LPlaneBlocks$Field;") (by decide +kernel)) (fun _ h9 => h9) rfl dX10_set_1 ?_
  refine lv_iload_n hx hb dX10_set_4 rfl (lv_at hl 1 rfl) ?_
  refine lv_iload_n hx hb dX10_set_5 rfl (lv_at hl 2 rfl) ?_
  have hPc := hP.sub (ws' := (wd_fld a_fld a_coef a_mags a_marks fld_wide fld_high fld_band fld_causal)) [0] rfl
  have hDc := hD.sub (ws' := (wd_fld a_fld a_coef a_mags a_marks fld_wide fld_high fld_band fld_causal)) [0] (by decide) rfl
  have hFc := va_free (wc := (wd_fld a_fld a_coef a_mags a_marks fld_wide fld_high fld_band fld_causal)) hD hS hA [0] rfl
  refine va_calli (va_runV (As := [.int p1, .int p2]) (rest := []) ⟨hx, hb, hml, hown, hts⟩ (c_X5_holds l dC dI cI cJ cZ a_fld a_coef a_mags a_marks H.size fld_wide fld_high fld_band fld_causal p1 p2) (cwV 2 hts gX10_set_X5_holds rfl rfl rfl (by decide +kernel) ⟨Nat.le_of_ble_eq_true rfl, Nat.le_of_ble_eq_true rfl⟩) ⟨fun a U g mk q => by obtain ⟨q0, q1, qP, qK, qD⟩ := q; exact ⟨q0, q1, qP, va_K.moved (u := U) (U := U.calling g mk a) (Vm.Alike.refl U.vm) qK, qD⟩, va_recv hK hPc (ci := 4) (q0 := 0) rfl rfl, fun U hU hW => ⟨rfl, by rw [hU], by rw [hU]; exact hPc, va_K.moved hW.alike hK, hDc.weaken (fun _ _ _ _ => trivial)⟩⟩ rfl rfl hl.1 rfl (lv_room (Nat.le_of_ble_eq_true rfl)) dX10_set_6 ⟨Nat.le_of_ble_eq_true rfl, Nat.le_of_ble_eq_true rfl⟩) hS (fun q _ h => hFc q h) hFc (fun r u t H1 locs ht hvm hw hB hz1 hk1 hS => ?_)
  obtain ⟨hP1, hK1, hD1⟩ := hB
  rw [ht] at hP1
  obtain ⟨r_1, hr_1⟩ : ∃ z, F_X5_holds p1 p2 fld_wide fld_high = z := ⟨_, rfl⟩
  try rw [hr_1] at hw
  try rw [hr_1] at hP1
  try rw [hr_1] at hD1
  have hg : (if r_1 = (0 : Int32) then default else (if (-2147483647 : Int32) ≤ p3 then (let r_4 := F_X5_place p1 p2 fld_wide; let r_6 := F_X10_forgetAll; (upd coef_f r_4.toNatClampNeg p3, r_6.1, r_6.2)) else default)) = g := by first | (rw [hr_1] at hg; exact hg) | (subst hr_1; exact hg)
  have hw := hw.symm
  subst hw
  obtain ⟨hP, hD⟩ := va_join (wr := [(a_coef, .inl (cI, coef_n, .inl coef_f)), (a_pb, .inr (9, [.ref a_fld, .ref a_plan, .ref a_row, .ref a_ctx, .ref a_cw, .ref a_rw, .ref a_cr, .ref a_rr, .ref a_scan, .int pb_style, .int pb_isWritten, .int pb_isRead]))]) (w1 := (wd_fld a_fld a_coef a_mags a_marks fld_wide fld_high fld_band fld_causal)) hP hD [0] [1, 2] rfl rfl (by decide) (by decide) hk1 hFc hP1 hD1
  have hP : va_P (dC, dI) vwCl (wd_fld_coef_pb cI a_fld a_coef a_mags a_marks a_pb a_plan a_row a_ctx a_cw a_rw a_cr a_rr a_scan fld_wide fld_high fld_band fld_causal coef_n coef_f pb_style pb_isWritten pb_isRead) H1 := hP.sub [2, 0, 1] rfl
  have hD : va_D A (wd_fld_coef_pb cI a_fld a_coef a_mags a_marks a_pb a_plan a_row a_ctx a_cw a_rw a_cr a_rr a_scan fld_wide fld_high fld_band fld_causal coef_n coef_f pb_style pb_isWritten pb_isRead) := hD.sub [2, 0, 1] (by decide) rfl
  generalize H1 = H at hP hS ⊢
  have hpre := hpre r_1 hr_1
  refine lv_if_ne (tgt := 22) hx hb dX10_set_9 (by decide) (fun c_2 => ?_) (fun c_2 => ?_)
  · rw [if_neg c_2] at hg
    have hpre := hpre.2 c_2
    refine lv_iload_n hx hb dX10_set_22 rfl (lv_at hl 3 rfl) ?_
    refine lv_ldc (v := -2147483647) hx hb hown (hts (.constant RX10 110 (-2147483647)) (by decide +kernel)) dX10_set_23 ?_
    refine lv_icmp_ge (tgt := 38) hx hb dX10_set_25 (by decide) (fun c_3 => ?_) (fun c_3 => ?_)
    · rw [if_pos c_3] at hg
      have hpre := hpre.1 c_3
      refine lv_aload_n hx hb dX10_set_38 rfl (lv_at hl 0 rfl) ?_
      refine va_get (D := (dC, dI)) (ci := 9) (v := .ref a_fld) (C := RX10) (T := TX10) (N := 12) hx hb hts iw_X10_set_X10 hown hK hP 2 rfl rfl 0 (by decide) (hts (.fieldLink RX10 12 "PlaneBlocks" "field" "LPlaneBlocks$Field;") (by decide +kernel)) (fun _ h9 => h9) rfl dX10_set_39 ?_
      refine va_get (D := (dC, dI)) (ci := 4) (v := .ref a_coef) (C := RX5) (T := TX5) (N := 7) hx hb hts iw_X10_set_X5 hown hK hP 0 rfl rfl 2 (by decide) (hts (.fieldLink RX10 113 "PlaneBlocks$Field" "coefficients" "[I") (by decide +kernel)) (fun _ h9 => h9) rfl dX10_set_42 ?_
      refine lv_aload_n hx hb dX10_set_45 rfl (lv_at hl 0 rfl) ?_
      refine va_get (D := (dC, dI)) (ci := 9) (v := .ref a_fld) (C := RX10) (T := TX10) (N := 12) hx hb hts iw_X10_set_X10 hown hK hP 2 rfl rfl 0 (by decide) (hts (.fieldLink RX10 12 "PlaneBlocks" "field" "LPlaneBlocks$Field;") (by decide +kernel)) (fun _ h9 => h9) rfl dX10_set_46 ?_
      refine lv_iload_n hx hb dX10_set_49 rfl (lv_at hl 1 rfl) ?_
      refine lv_iload_n hx hb dX10_set_50 rfl (lv_at hl 2 rfl) ?_
      have hPc := hP.sub (ws' := (wd_fld a_fld a_coef a_mags a_marks fld_wide fld_high fld_band fld_causal)) [0] rfl
      have hDc := hD.sub (ws' := (wd_fld a_fld a_coef a_mags a_marks fld_wide fld_high fld_band fld_causal)) [0] (by decide) rfl
      have hFc := va_free (wc := (wd_fld a_fld a_coef a_mags a_marks fld_wide fld_high fld_band fld_causal)) hD hS hA [0] rfl
      refine va_calli (va_runV (As := [.int p1, .int p2]) (rest := [.ref a_coef]) ⟨hx, hb, hml, hown, hts⟩ (c_X5_place l dC dI cI cJ cZ a_fld a_coef a_mags a_marks H.size fld_wide fld_high fld_band fld_causal p1 p2) (cwV 2 hts gX10_set_X5_place rfl rfl rfl (by decide +kernel) ⟨Nat.le_of_ble_eq_true rfl, Nat.le_of_ble_eq_true rfl⟩) ⟨fun a U g mk q => by obtain ⟨q0, q1, qP, qK, qD⟩ := q; exact ⟨q0, q1, qP, va_K.moved (u := U) (U := U.calling g mk a) (Vm.Alike.refl U.vm) qK, qD⟩, va_recv hK hPc (ci := 4) (q0 := 0) rfl rfl, fun U hU hW => ⟨rfl, by rw [hU], by rw [hU]; exact hPc, va_K.moved hW.alike hK, hDc.weaken (fun _ _ _ _ => trivial)⟩⟩ rfl rfl hl.1 rfl (lv_room (Nat.le_of_ble_eq_true rfl)) dX10_set_51 ⟨Nat.le_of_ble_eq_true rfl, Nat.le_of_ble_eq_true rfl⟩) hS (fun q _ h => hFc q h) hFc (fun r u t H1 locs ht hvm hw hB hz1 hk1 hS => ?_)
      obtain ⟨hP1, hK1, hD1⟩ := hB
      rw [ht] at hP1
      obtain ⟨r_4, hr_4⟩ : ∃ z, F_X5_place p1 p2 fld_wide = z := ⟨_, rfl⟩
      try rw [hr_4] at hw
      try rw [hr_4] at hP1
      try rw [hr_4] at hD1
      have hg : (let r_6 := F_X10_forgetAll; (upd coef_f r_4.toNatClampNeg p3, r_6.1, r_6.2)) = g := by first | (rw [hr_4] at hg; exact hg) | (subst hr_4; exact hg)
      have hw := hw.symm
      subst hw
      obtain ⟨hP, hD⟩ := va_join (wr := [(a_coef, .inl (cI, coef_n, .inl coef_f)), (a_pb, .inr (9, [.ref a_fld, .ref a_plan, .ref a_row, .ref a_ctx, .ref a_cw, .ref a_rw, .ref a_cr, .ref a_rr, .ref a_scan, .int pb_style, .int pb_isWritten, .int pb_isRead]))]) (w1 := (wd_fld a_fld a_coef a_mags a_marks fld_wide fld_high fld_band fld_causal)) hP hD [0] [1, 2] rfl rfl (by decide) (by decide) hk1 hFc hP1 hD1
      have hP : va_P (dC, dI) vwCl (wd_fld_coef_pb cI a_fld a_coef a_mags a_marks a_pb a_plan a_row a_ctx a_cw a_rw a_cr a_rr a_scan fld_wide fld_high fld_band fld_causal coef_n coef_f pb_style pb_isWritten pb_isRead) H1 := hP.sub [2, 0, 1] rfl
      have hD : va_D A (wd_fld_coef_pb cI a_fld a_coef a_mags a_marks a_pb a_plan a_row a_ctx a_cw a_rw a_cr a_rr a_scan fld_wide fld_high fld_band fld_causal coef_n coef_f pb_style pb_isWritten pb_isRead) := hD.sub [2, 0, 1] (by decide) rfl
      generalize H1 = H at hP hS ⊢
      have hpre := hpre r_4 hr_4
      refine lv_iload_n hx hb dX10_set_54 rfl (lv_at hl 3 rfl) ?_
      have h_5 := hpre
      refine va_iast hx hb hK hP hD hS 1 0 rfl rfl h_5 dX10_set_55 (fun H locs hP hD hS => ?_)
      have hP : va_P (dC, dI) vwCl (wd_fld_coef_pb cI a_fld a_coef a_mags a_marks a_pb a_plan a_row a_ctx a_cw a_rw a_cr a_rr a_scan fld_wide fld_high fld_band fld_causal coef_n (upd coef_f r_4.toNatClampNeg p3) pb_style pb_isWritten pb_isRead) H := hP
      have hD : va_D A (wd_fld_coef_pb cI a_fld a_coef a_mags a_marks a_pb a_plan a_row a_ctx a_cw a_rw a_cr a_rr a_scan fld_wide fld_high fld_band fld_causal coef_n (upd coef_f r_4.toNatClampNeg p3) pb_style pb_isWritten pb_isRead) := hD
      refine lv_aload_n hx hb dX10_set_56 rfl (lv_at hl 0 rfl) ?_
      have hPc := hP.sub (ws' := (wd_pb a_pb a_fld a_plan a_row a_ctx a_cw a_rw a_cr a_rr a_scan pb_style pb_isWritten pb_isRead)) [2] rfl
      have hDc := hD.sub (ws' := (wd_pb a_pb a_fld a_plan a_row a_ctx a_cw a_rw a_cr a_rr a_scan pb_style pb_isWritten pb_isRead)) [2] (by decide) rfl
      have hFc := va_free (wc := (wd_pb a_pb a_fld a_plan a_row a_ctx a_cw a_rw a_cr a_rr a_scan pb_style pb_isWritten pb_isRead)) hD hS hA [2] rfl
      refine va_callv (va_runV (As := []) (rest := []) ⟨hx, hb, hml, hown, hts⟩ (c_X10_forgetAll l dC dI cI cJ cZ a_pb a_fld a_plan a_row a_ctx a_cw a_rw a_cr a_rr a_scan H.size pb_style pb_isWritten pb_isRead) (cwV 0 hts gX10_set_X10_forgetAll rfl rfl rfl (by decide +kernel) ⟨Nat.le_of_ble_eq_true rfl, Nat.le_of_ble_eq_true rfl⟩) ⟨fun a U g mk q => by obtain ⟨q0, q1, qP, qK, qD⟩ := q; exact ⟨q0, q1, qP, va_K.moved (u := U) (U := U.calling g mk a) (Vm.Alike.refl U.vm) qK, qD⟩, va_recv hK hPc (ci := 9) (q0 := 0) rfl rfl, fun U hU hW => ⟨rfl, by rw [hU], by rw [hU]; exact hPc, va_K.moved hW.alike hK, hDc.weaken (fun _ _ _ _ => trivial)⟩⟩ rfl rfl hl.1 rfl (lv_room (Nat.le_of_ble_eq_true rfl)) dX10_set_57 ⟨Nat.le_of_ble_eq_true rfl, Nat.le_of_ble_eq_true rfl⟩) hS (fun q _ h => hFc q h) hFc (fun u t H1 locs ht hvm hw hB hz1 hk1 hS => ?_)
      obtain ⟨hP1, hK1, hD1⟩ := hB
      rw [ht] at hP1
      obtain ⟨r_6, hr_6⟩ : ∃ z, F_X10_forgetAll = z := ⟨_, rfl⟩
      try rw [hr_6] at hw
      try rw [hr_6] at hP1
      try rw [hr_6] at hD1
      have hg : (upd coef_f r_4.toNatClampNeg p3, r_6.1, r_6.2) = g := by first | (rw [hr_6] at hg; exact hg) | (subst hr_6; exact hg)
      obtain ⟨hP, hD⟩ := va_join (wr := [(a_fld, .inr (4, [.int fld_wide, .int fld_high, .ref a_coef, .ref a_mags, .ref a_marks, .int fld_band, .int fld_causal])), (a_coef, .inl (cI, coef_n, .inl (upd coef_f r_4.toNatClampNeg p3)))]) (w1 := (wd_pb a_pb a_fld a_plan a_row a_ctx a_cw a_rw a_cr a_rr a_scan pb_style r_6.1 r_6.2)) hP hD [2] [0, 1] rfl rfl (by decide) (by decide) hk1 hFc hP1 hD1
      have hP : va_P (dC, dI) vwCl (wd_fld_coef_pb cI a_fld a_coef a_mags a_marks a_pb a_plan a_row a_ctx a_cw a_rw a_cr a_rr a_scan fld_wide fld_high fld_band fld_causal coef_n (upd coef_f r_4.toNatClampNeg p3) pb_style r_6.1 r_6.2) H1 := hP.sub [0, 1, 2] rfl
      have hD : va_D A (wd_fld_coef_pb cI a_fld a_coef a_mags a_marks a_pb a_plan a_row a_ctx a_cw a_rw a_cr a_rr a_scan fld_wide fld_high fld_band fld_causal coef_n (upd coef_f r_4.toNatClampNeg p3) pb_style r_6.1 r_6.2) := hD.sub [0, 1, 2] (by decide) rfl
      generalize H1 = H at hP hS ⊢
      subst hg
      rw [← hQe]
      exact W.vret hx hb hr (fun t ht hW => ⟨⟨(), rfl, trivial, by rw [ht]; exact hP, va_K.moved hW.alike hK, hD⟩, hS.F ht⟩) hS.2.2 dX10_set_60
    · rw [if_neg c_3] at hg
      have hpre := hpre.2 c_3
      exact absurd hpre id
  · rw [if_pos c_2] at hg
    have hpre := hpre.1 c_2
    exact absurd hpre id
abbrev rm_X10_fill : Room := { frames := 1, cells := 0, slots := 0, locals := 22 }
abbrev Q_X10_fill (dC : Nat → ClassId) (dI : Nat → Nat → Nat) (cI cJ cZ : ClassId) (a_fld : Nat) (a_coef : Nat) (a_mags : Nat) (a_marks : Nat) (a_pb : Nat) (a_plan : Nat) (a_row : Nat) (a_ctx : Nat) (a_cw : Nat) (a_rw : Nat) (a_cr : Nat) (a_rr : Nat) (a_scan : Nat) (A : Nat → Prop) (fld_wide : Int32) (fld_high : Int32) (fld_band : Int32) (fld_causal : Int32) (coef_n : Nat) (coef_f : Nat → Int32) (pb_style : Int32) (pb_isWritten : Int32) (pb_isRead : Int32) (g : ((Nat → Int32) × Int32 × Int32)) : Array Value → State → Outcome → State → Prop := va_Qv (fun _ : Unit => True) (fun u t => va_P (dC, dI) vwCl (wd_fld_coef_pb cI a_fld a_coef a_mags a_marks a_pb a_plan a_row a_ctx a_cw a_rw a_cr a_rr a_scan fld_wide fld_high fld_band fld_causal coef_n g.1 pb_style g.2.1 g.2.2) t.heap ∧ va_K (dC, dI) vwCl [(cI, .int), (cJ, .long), (cZ, .boolean)] t ∧ va_D A (wd_fld_coef_pb cI a_fld a_coef a_mags a_marks a_pb a_plan a_row a_ctx a_cw a_rw a_cr a_rr a_scan fld_wide fld_high fld_band fld_causal coef_n g.1 pb_style g.2.1 g.2.2)) A
theorem iw_X10_fill_X10 : ∀ w ∈ u_ws RX10 TX10 12, w ∈ wsX10_fill := by decide +kernel
theorem iw_X10_fill_X5 : ∀ w ∈ u_ws RX5 TX5 7, w ∈ wsX10_fill := by decide +kernel
set_option maxHeartbeats 4000000 in
set_option maxRecDepth 100000 in
theorem c_X10_fill (l : Launch) (dC : Nat → ClassId) (dI : Nat → Nat → Nat) (cI cJ cZ : ClassId) (a_fld : Nat) (a_coef : Nat) (a_mags : Nat) (a_marks : Nat) (a_pb : Nat) (a_plan : Nat) (a_row : Nat) (a_ctx : Nat) (a_cw : Nat) (a_rw : Nat) (a_cr : Nat) (a_rr : Nat) (a_scan : Nat) (sz : Nat) (fld_wide : Int32) (fld_high : Int32) (fld_band : Int32) (fld_causal : Int32) (coef_n : Nat) (coef_f : Nat → Int32) (pb_style : Int32) (pb_isWritten : Int32) (pb_isRead : Int32) (p1 : Int32) (p2 : Int32) (p3 : Int32) (p4 : Int32) (hpre : P_X10_fill p1 p2 p3 p4 fld_wide fld_high coef_n coef_f) : Met l yX10_fill wsX10_fill rm_X10_fill (va_Pc [.ref a_pb, .int p1, .int p2, .int p3, .int p4] (fun U => U.heap.size = sz ∧ va_P (dC, dI) vwCl (wd_fld_coef_pb cI a_fld a_coef a_mags a_marks a_pb a_plan a_row a_ctx a_cw a_rw a_cr a_rr a_scan fld_wide fld_high fld_band fld_causal coef_n coef_f pb_style pb_isWritten pb_isRead) U.heap ∧ va_K (dC, dI) vwCl [(cI, .int), (cJ, .long), (cZ, .boolean)] U ∧ va_D (fun _ => True) (wd_fld_coef_pb cI a_fld a_coef a_mags a_marks a_pb a_plan a_row a_ctx a_cw a_rw a_cr a_rr a_scan fld_wide fld_high fld_band fld_causal coef_n coef_f pb_style pb_isWritten pb_isRead))) (Q_X10_fill dC dI cI cJ cZ a_fld a_coef a_mags a_marks a_pb a_plan a_row a_ctx a_cw a_rw a_cr a_rr a_scan (va_A (wd_fld_coef_pb cI a_fld a_coef a_mags a_marks a_pb a_plan a_row a_ctx a_cw a_rw a_cr a_rr a_scan fld_wide fld_high fld_band fld_causal coef_n coef_f pb_style pb_isWritten pb_isRead) sz) fld_wide fld_high fld_band fld_causal coef_n coef_f pb_style pb_isWritten pb_isRead (F_X10_fill p1 p2 p3 p4 fld_wide fld_high coef_f)) 0 0 (va_A (wd_fld_coef_pb cI a_fld a_coef a_mags a_marks a_pb a_plan a_row a_ctx a_cw a_rw a_cr a_rr a_scan fld_wide fld_high fld_band fld_causal coef_n coef_f pb_style pb_isWritten pb_isRead) sz) := by
  refine Met.ofW (cc := cX10_fill) (maxL := 8) (ret := none) (by decide) rfl ?_
  intro p e s m args below meth c s₁ B hml hv
  obtain ⟨rfl, hsz, hP, hK, hD0⟩ := hv
  have hx := B.exec
  have hb := B.bytes
  have hr := B.returns
  have hts := atoms_spec (ws := wsX10_fill) B.pre
  have hown : s.vm.findClass RX10 = some m.cls := findClass_of_methodNamed B.named
  have hlocks := B.notSynchronized
  subst hsz
  have hD := hD0.self (sz := s.heap.size)
  generalize hAe : va_A (wd_fld_coef_pb cI a_fld a_coef a_mags a_marks a_pb a_plan a_row a_ctx a_cw a_rw a_cr a_rr a_scan fld_wide fld_high fld_band fld_causal coef_n coef_f pb_style pb_isWritten pb_isRead) s.heap.size = A at hD ⊢
  have hA : ∀ q : Nat, s.heap.size ≤ q → A q := fun q h => by rw [← hAe]; exact Or.inr h
  have hS : va_S A s.heap s.heap [] := va_S.rf
  obtain ⟨H, hH⟩ : ∃ z, z = s.heap := ⟨_, rfl⟩
  have hP : va_P (dC, dI) vwCl (wd_fld_coef_pb cI a_fld a_coef a_mags a_marks a_pb a_plan a_row a_ctx a_cw a_rw a_cr a_rr a_scan fld_wide fld_high fld_band fld_causal coef_n coef_f pb_style pb_isWritten pb_isRead) H := by rw [hH]; exact hP
  have hS : va_S A s.heap H [] := by rw [hH]; exact va_S.rf
  obtain ⟨g, hg⟩ : ∃ z, F_X10_fill p1 p2 p3 p4 fld_wide fld_high coef_f = z := ⟨_, rfl⟩
  rw [hg]
  generalize hQe : MQ below (Q_X10_fill dC dI cI cJ cZ a_fld a_coef a_mags a_marks a_pb a_plan a_row a_ctx a_cw a_rw a_cr a_rr a_scan A fld_wide fld_high fld_band fld_causal coef_n coef_f pb_style pb_isWritten pb_isRead g) _ s 0 0 A = Q
  rw [← hH]
  clear hH
  have hl := lv_entry ([.ref a_pb, .int p1, .int p2, .int p3, .int p4]) (n := 8) (Nat.le_of_ble_eq_true rfl)
  rw [lg_entry_eq]
  generalize (lg_sl ([.ref a_pb, .int p1, .int p2, .int p3, .int p4]) ++ List.replicate (8 - (lg_sl ([.ref a_pb, .int p1, .int p2, .int p3, .int p4])).length) Slot.unset).toArray = ls at hl ⊢
  have hl : lv_has ls 8 [(0, .ref a_pb), (1, .int p1), (2, .int p2), (3, .int p3), (4, .int p4)] := hl
  unfold F_X10_fill at hg
  unfold P_X10_fill at hpre
  refine lv_iload hx hb dX10_fill_0 (lv_at hl 4 rfl) ?_
  refine lv_if_lt (tgt := 12) hx hb dX10_fill_2 (by decide) (fun c_1 => ?_) (fun c_1 => ?_)
  · rw [if_pos c_1] at hg
    have hpre := hpre.1 c_1
    exact absurd hpre id
  · rw [if_neg c_1] at hg
    have hpre := hpre.2 c_1
    refine lv_iload hx hb dX10_fill_5 (lv_at hl 4 rfl) ?_
    refine lv_bipush (v := 31) hx hb dX10_fill_7 (by decide) ?_
    refine lv_icmp_le (tgt := 22) hx hb dX10_fill_9 (by decide) (fun c_2 => ?_) (fun c_2 => ?_)
    · rw [if_pos c_2] at hg
      have hpre := hpre.1 c_2
      refine lv_iconst (v := 0) hx hb dX10_fill_22 (by decide) ?_
      refine lv_istore (lv' := [(5, .int (0 : Int32)), (0, .ref a_pb), (1, .int p1), (2, .int p2), (3, .int p3), (4, .int p4)]) hx hb dX10_fill_23 hl (by decide) rfl (fun ls hl => ?_)
      obtain ⟨j_3, hj_3⟩ : ∃ z, L_X10_fill_j_3 p1 p2 p3 p4 fld_wide fld_high fu (0 : Int32) coef_f = z := ⟨_, rfl⟩
      have hg : (let r_9 := F_X10_forgetAll; (j_3.2, r_9.1, r_9.2)) = g := by first | (rw [hj_3] at hg; exact hg) | (subst hj_3; exact hg)
      have hJ_j_3 : ∀ (H : Heap) (locs : List Loc) (ls : Array Slot), va_P (dC, dI) vwCl (wd_fld_coef_pb cI a_fld a_coef a_mags a_marks a_pb a_plan a_row a_ctx a_cw a_rw a_cr a_rr a_scan fld_wide fld_high fld_band fld_causal coef_n j_3.2 pb_style pb_isWritten pb_isRead) H → va_D A (wd_fld_coef_pb cI a_fld a_coef a_mags a_marks a_pb a_plan a_row a_ctx a_cw a_rw a_cr a_rr a_scan fld_wide fld_high fld_band fld_causal coef_n j_3.2 pb_style pb_isWritten pb_isRead) → va_S A s.heap H locs → lv_has ls 8 [(0, .ref a_pb), (1, .int p1), (2, .int p2), (3, .int p3), (4, .int p4), (5, .int j_3.1)] → W p l e (headSpec wsX10_fill rm_X10_fill).room s m ([.ref a_pb, .int p1, .int p2, .int p3, .int p4] : List Value).toArray below meth c H locs 0 0 Q (F0 m 112 ls []) := by
        intro H locs ls hP hD hS hl
        refine lv_aload_n hx hb dX10_fill_112 rfl (lv_at hl 0 rfl) ?_
        have hPc := hP.sub (ws' := (wd_pb a_pb a_fld a_plan a_row a_ctx a_cw a_rw a_cr a_rr a_scan pb_style pb_isWritten pb_isRead)) [2] rfl
        have hDc := hD.sub (ws' := (wd_pb a_pb a_fld a_plan a_row a_ctx a_cw a_rw a_cr a_rr a_scan pb_style pb_isWritten pb_isRead)) [2] (by decide) rfl
        have hFc := va_free (wc := (wd_pb a_pb a_fld a_plan a_row a_ctx a_cw a_rw a_cr a_rr a_scan pb_style pb_isWritten pb_isRead)) hD hS hA [2] rfl
        refine va_callv (va_runV (As := []) (rest := []) ⟨hx, hb, hml, hown, hts⟩ (c_X10_forgetAll l dC dI cI cJ cZ a_pb a_fld a_plan a_row a_ctx a_cw a_rw a_cr a_rr a_scan H.size pb_style pb_isWritten pb_isRead) (cwV 0 hts gX10_fill_X10_forgetAll rfl rfl rfl (by decide +kernel) ⟨Nat.le_of_ble_eq_true rfl, Nat.le_of_ble_eq_true rfl⟩) ⟨fun a U g mk q => by obtain ⟨q0, q1, qP, qK, qD⟩ := q; exact ⟨q0, q1, qP, va_K.moved (u := U) (U := U.calling g mk a) (Vm.Alike.refl U.vm) qK, qD⟩, va_recv hK hPc (ci := 9) (q0 := 0) rfl rfl, fun U hU hW => ⟨rfl, by rw [hU], by rw [hU]; exact hPc, va_K.moved hW.alike hK, hDc.weaken (fun _ _ _ _ => trivial)⟩⟩ rfl rfl hl.1 rfl (lv_room (Nat.le_of_ble_eq_true rfl)) dX10_fill_113 ⟨Nat.le_of_ble_eq_true rfl, Nat.le_of_ble_eq_true rfl⟩) hS (fun q _ h => hFc q h) hFc (fun u t H1 locs ht hvm hw hB hz1 hk1 hS => ?_)
        obtain ⟨hP1, hK1, hD1⟩ := hB
        rw [ht] at hP1
        obtain ⟨r_9, hr_9⟩ : ∃ z, F_X10_forgetAll = z := ⟨_, rfl⟩
        try rw [hr_9] at hw
        try rw [hr_9] at hP1
        try rw [hr_9] at hD1
        have hg : (j_3.2, r_9.1, r_9.2) = g := by first | (rw [hr_9] at hg; exact hg) | (subst hr_9; exact hg)
        obtain ⟨hP, hD⟩ := va_join (wr := [(a_fld, .inr (4, [.int fld_wide, .int fld_high, .ref a_coef, .ref a_mags, .ref a_marks, .int fld_band, .int fld_causal])), (a_coef, .inl (cI, coef_n, .inl j_3.2))]) (w1 := (wd_pb a_pb a_fld a_plan a_row a_ctx a_cw a_rw a_cr a_rr a_scan pb_style r_9.1 r_9.2)) hP hD [2] [0, 1] rfl rfl (by decide) (by decide) hk1 hFc hP1 hD1
        have hP : va_P (dC, dI) vwCl (wd_fld_coef_pb cI a_fld a_coef a_mags a_marks a_pb a_plan a_row a_ctx a_cw a_rw a_cr a_rr a_scan fld_wide fld_high fld_band fld_causal coef_n j_3.2 pb_style r_9.1 r_9.2) H1 := hP.sub [0, 1, 2] rfl
        have hD : va_D A (wd_fld_coef_pb cI a_fld a_coef a_mags a_marks a_pb a_plan a_row a_ctx a_cw a_rw a_cr a_rr a_scan fld_wide fld_high fld_band fld_causal coef_n j_3.2 pb_style r_9.1 r_9.2) := hD.sub [0, 1, 2] (by decide) rfl
        generalize H1 = H at hP hS ⊢
        subst hg
        rw [← hQe]
        exact W.vret hx hb hr (fun t ht hW => ⟨⟨(), rfl, trivial, by rw [ht]; exact hP, va_K.moved hW.alike hK, hD⟩, hS.F ht⟩) hS.2.2 dX10_fill_116
      have hL_j_3 : ∀ (n : Nat) (v5_j_3 : Int32) (coef_f_j_3 : Nat → Int32) (H : Heap) (locs : List Loc) (ls : Array Slot), PL_X10_fill_j_3 p1 p2 p3 p4 fld_wide fld_high coef_n n v5_j_3 coef_f_j_3 → L_X10_fill_j_3 p1 p2 p3 p4 fld_wide fld_high n v5_j_3 coef_f_j_3 = j_3 → va_P (dC, dI) vwCl (wd_fld_coef_pb cI a_fld a_coef a_mags a_marks a_pb a_plan a_row a_ctx a_cw a_rw a_cr a_rr a_scan fld_wide fld_high fld_band fld_causal coef_n coef_f_j_3 pb_style pb_isWritten pb_isRead) H → va_D A (wd_fld_coef_pb cI a_fld a_coef a_mags a_marks a_pb a_plan a_row a_ctx a_cw a_rw a_cr a_rr a_scan fld_wide fld_high fld_band fld_causal coef_n coef_f_j_3 pb_style pb_isWritten pb_isRead) → va_S A s.heap H locs → lv_has ls 8 [(0, .ref a_pb), (1, .int p1), (2, .int p2), (3, .int p3), (4, .int p4), (5, .int v5_j_3)] → W p l e (headSpec wsX10_fill rm_X10_fill).room s m ([.ref a_pb, .int p1, .int p2, .int p3, .int p4] : List Value).toArray below meth c H locs 0 0 Q (F0 m 25 ls []) := by
        intro n
        induction n with
        | zero => intro v5_j_3 coef_f_j_3 H locs ls hpre; exact absurd hpre id
        | succ n ih =>
          intro v5_j_3 coef_f_j_3 H locs ls hpre hg hP hD hS hl
          rw [PL_X10_fill_j_3] at hpre
          rw [L_X10_fill_j_3] at hg
          refine lv_iload hx hb dX10_fill_25 (lv_at hl 5 rfl) ?_
          refine lv_aload_n hx hb dX10_fill_27 rfl (lv_at hl 0 rfl) ?_
          refine va_get (D := (dC, dI)) (ci := 9) (v := .ref a_fld) (C := RX10) (T := TX10) (N := 12) hx hb hts iw_X10_fill_X10 hown hK hP 2 rfl rfl 0 (by decide) (hts (.fieldLink RX10 12 "PlaneBlocks" "field" "LPlaneBlocks$Field;") (by decide +kernel)) (fun _ h9 => h9) rfl dX10_fill_28 ?_
          refine va_get (D := (dC, dI)) (ci := 4) (v := .int fld_high) (C := RX5) (T := TX5) (N := 7) hx hb hts iw_X10_fill_X5 hown hK hP 0 rfl rfl 1 (by decide) (hts (.fieldLink RX10 123 "PlaneBlocks$Field" "high" "I") (by decide +kernel)) (fun _ h9 => h9) rfl dX10_fill_31 ?_
          refine lv_icmp_ge (tgt := 112) hx hb dX10_fill_34 (by decide) (fun c_4 => ?_) (fun c_4 => ?_)
          · rw [if_pos c_4] at hg
            exact hJ_j_3 _ _ _ (by rw [← hg]; exact hP) (by rw [← hg]; exact hD) hS (by rw [← hg]; exact lv_sub hl [0, 1, 2, 3, 4, 5] rfl)
          · rw [if_neg c_4] at hg
            have hpre := hpre c_4
            refine lv_iconst (v := 0) hx hb dX10_fill_37 (by decide) ?_
            refine lv_istore (lv' := [(6, .int (0 : Int32)), (0, .ref a_pb), (1, .int p1), (2, .int p2), (3, .int p3), (4, .int p4), (5, .int v5_j_3)]) hx hb dX10_fill_38 hl (by decide) rfl (fun ls hl => ?_)
            obtain ⟨j_5, hj_5⟩ : ∃ z, L_X10_fill_j_5 p1 p2 p3 p4 fld_wide v5_j_3 fu (0 : Int32) coef_f_j_3 = z := ⟨_, rfl⟩
            have hg : (L_X10_fill_j_3 p1 p2 p3 p4 fld_wide fld_high n (v5_j_3 + (1 : Int32)) j_5.2) = j_3 := by first | (rw [hj_5] at hg; exact hg) | (subst hj_5; exact hg)
            have hJ_j_5 : ∀ (H : Heap) (locs : List Loc) (ls : Array Slot), va_P (dC, dI) vwCl (wd_fld_coef_pb cI a_fld a_coef a_mags a_marks a_pb a_plan a_row a_ctx a_cw a_rw a_cr a_rr a_scan fld_wide fld_high fld_band fld_causal coef_n j_5.2 pb_style pb_isWritten pb_isRead) H → va_D A (wd_fld_coef_pb cI a_fld a_coef a_mags a_marks a_pb a_plan a_row a_ctx a_cw a_rw a_cr a_rr a_scan fld_wide fld_high fld_band fld_causal coef_n j_5.2 pb_style pb_isWritten pb_isRead) → va_S A s.heap H locs → lv_has ls 8 [(0, .ref a_pb), (1, .int p1), (2, .int p2), (3, .int p3), (4, .int p4), (5, .int v5_j_3), (6, .int j_5.1)] → W p l e (headSpec wsX10_fill rm_X10_fill).room s m ([.ref a_pb, .int p1, .int p2, .int p3, .int p4] : List Value).toArray below meth c H locs 0 0 Q (F0 m 106 ls []) := by
              intro H locs ls hP hD hS hl
              have hpre := hpre.2 j_5 hj_5
              refine lv_iinc (v := (v5_j_3 + (1 : Int32))) (lv' := [(5, .int (v5_j_3 + (1 : Int32))), (0, .ref a_pb), (1, .int p1), (2, .int p2), (3, .int p3), (4, .int p4), (6, .int j_5.1)]) hx hb dX10_fill_106 hl (k := 5) rfl rfl (by decide) rfl (fun ls hl => ?_)
              refine lv_goto (tgt := 25) hx hb dX10_fill_109 (by decide) ?_
              exact ih (v5_j_3 + (1 : Int32)) j_5.2 _ _ _ hpre hg hP hD hS (lv_sub hl [1, 2, 3, 4, 5, 0] rfl)
            have hpre := hpre.1
            have hL_j_5 : ∀ (n : Nat) (v6_j_5 : Int32) (coef_f_j_5 : Nat → Int32) (H : Heap) (locs : List Loc) (ls : Array Slot), PL_X10_fill_j_5 p1 p2 p3 p4 fld_wide coef_n v5_j_3 n v6_j_5 coef_f_j_5 → L_X10_fill_j_5 p1 p2 p3 p4 fld_wide v5_j_3 n v6_j_5 coef_f_j_5 = j_5 → va_P (dC, dI) vwCl (wd_fld_coef_pb cI a_fld a_coef a_mags a_marks a_pb a_plan a_row a_ctx a_cw a_rw a_cr a_rr a_scan fld_wide fld_high fld_band fld_causal coef_n coef_f_j_5 pb_style pb_isWritten pb_isRead) H → va_D A (wd_fld_coef_pb cI a_fld a_coef a_mags a_marks a_pb a_plan a_row a_ctx a_cw a_rw a_cr a_rr a_scan fld_wide fld_high fld_band fld_causal coef_n coef_f_j_5 pb_style pb_isWritten pb_isRead) → va_S A s.heap H locs → lv_has ls 8 [(0, .ref a_pb), (1, .int p1), (2, .int p2), (3, .int p3), (4, .int p4), (5, .int v5_j_3), (6, .int v6_j_5)] → W p l e (headSpec wsX10_fill rm_X10_fill).room s m ([.ref a_pb, .int p1, .int p2, .int p3, .int p4] : List Value).toArray below meth c H locs 0 0 Q (F0 m 40 ls []) := by
              intro n
              induction n with
              | zero => intro v6_j_5 coef_f_j_5 H locs ls hpre; exact absurd hpre id
              | succ n ih =>
                intro v6_j_5 coef_f_j_5 H locs ls hpre hg hP hD hS hl
                rw [PL_X10_fill_j_5] at hpre
                rw [L_X10_fill_j_5] at hg
                refine lv_iload hx hb dX10_fill_40 (lv_at hl 6 rfl) ?_
                refine lv_aload_n hx hb dX10_fill_42 rfl (lv_at hl 0 rfl) ?_
                refine va_get (D := (dC, dI)) (ci := 9) (v := .ref a_fld) (C := RX10) (T := TX10) (N := 12) hx hb hts iw_X10_fill_X10 hown hK hP 2 rfl rfl 0 (by decide) (hts (.fieldLink RX10 12 "PlaneBlocks" "field" "LPlaneBlocks$Field;") (by decide +kernel)) (fun _ h9 => h9) rfl dX10_fill_43 ?_
                refine va_get (D := (dC, dI)) (ci := 4) (v := .int fld_wide) (C := RX5) (T := TX5) (N := 7) hx hb hts iw_X10_fill_X5 hown hK hP 0 rfl rfl 0 (by decide) (hts (.fieldLink RX10 126 "PlaneBlocks$Field" "wide" "I") (by decide +kernel)) (fun _ h9 => h9) rfl dX10_fill_46 ?_
                refine lv_icmp_ge (tgt := 106) hx hb dX10_fill_49 (by decide) (fun c_6 => ?_) (fun c_6 => ?_)
                · rw [if_pos c_6] at hg
                  exact hJ_j_5 _ _ _ (by rw [← hg]; exact hP) (by rw [← hg]; exact hD) hS (by rw [← hg]; exact lv_sub hl [0, 1, 2, 3, 4, 5, 6] rfl)
                · rw [if_neg c_6] at hg
                  have hpre := hpre c_6
                  refine lv_iload_n hx hb dX10_fill_52 rfl (lv_at hl 1 rfl) ?_
                  refine lv_iload hx hb dX10_fill_53 (lv_at hl 6 rfl) ?_
                  refine lv_imul hx hb dX10_fill_55 ?_
                  refine lv_iload_n hx hb dX10_fill_56 rfl (lv_at hl 2 rfl) ?_
                  refine lv_iload hx hb dX10_fill_57 (lv_at hl 5 rfl) ?_
                  refine lv_imul hx hb dX10_fill_59 ?_
                  refine lv_iadd hx hb dX10_fill_60 ?_
                  refine lv_iload_n hx hb dX10_fill_61 rfl (lv_at hl 3 rfl) ?_
                  refine lv_iload hx hb dX10_fill_62 (lv_at hl 6 rfl) ?_
                  refine lv_imul hx hb dX10_fill_64 ?_
                  refine lv_iload hx hb dX10_fill_65 (lv_at hl 5 rfl) ?_
                  refine lv_imul hx hb dX10_fill_67 ?_
                  refine lv_iadd hx hb dX10_fill_68 ?_
                  refine lv_iload hx hb dX10_fill_69 (lv_at hl 4 rfl) ?_
                  refine lv_ishr hx hb dX10_fill_71 ?_
                  refine lv_istore (lv' := [(7, .int ((((p1 * v6_j_5) + (p2 * v5_j_3)) + ((p3 * v6_j_5) * v5_j_3)) >>> (p4 &&& 31))), (0, .ref a_pb), (1, .int p1), (2, .int p2), (3, .int p3), (4, .int p4), (5, .int v5_j_3), (6, .int v6_j_5)]) hx hb dX10_fill_72 hl (by decide) rfl (fun ls hl => ?_)
                  refine lv_aload_n hx hb dX10_fill_74 rfl (lv_at hl 1 rfl) ?_
                  refine va_get (D := (dC, dI)) (ci := 9) (v := .ref a_fld) (C := RX10) (T := TX10) (N := 12) hx hb hts iw_X10_fill_X10 hown hK hP 2 rfl rfl 0 (by decide) (hts (.fieldLink RX10 12 "PlaneBlocks" "field" "LPlaneBlocks$Field;") (by decide +kernel)) (fun _ h9 => h9) rfl dX10_fill_75 ?_
                  refine va_get (D := (dC, dI)) (ci := 4) (v := .ref a_coef) (C := RX5) (T := TX5) (N := 7) hx hb hts iw_X10_fill_X5 hown hK hP 0 rfl rfl 2 (by decide) (hts (.fieldLink RX10 113 "PlaneBlocks$Field" "coefficients" "[I") (by decide +kernel)) (fun _ h9 => h9) rfl dX10_fill_78 ?_
                  refine lv_aload_n hx hb dX10_fill_81 rfl (lv_at hl 1 rfl) ?_
                  refine va_get (D := (dC, dI)) (ci := 9) (v := .ref a_fld) (C := RX10) (T := TX10) (N := 12) hx hb hts iw_X10_fill_X10 hown hK hP 2 rfl rfl 0 (by decide) (hts (.fieldLink RX10 12 "PlaneBlocks" "field" "LPlaneBlocks$Field;") (by decide +kernel)) (fun _ h9 => h9) rfl dX10_fill_82 ?_
                  refine lv_iload hx hb dX10_fill_85 (lv_at hl 7 rfl) ?_
                  refine lv_iload hx hb dX10_fill_87 (lv_at hl 6 rfl) ?_
                  have hPc := hP.sub (ws' := (wd_fld a_fld a_coef a_mags a_marks fld_wide fld_high fld_band fld_causal)) [0] rfl
                  have hDc := hD.sub (ws' := (wd_fld a_fld a_coef a_mags a_marks fld_wide fld_high fld_band fld_causal)) [0] (by decide) rfl
                  have hFc := va_free (wc := (wd_fld a_fld a_coef a_mags a_marks fld_wide fld_high fld_band fld_causal)) hD hS hA [0] rfl
                  refine va_calli (va_runV (As := [.int v6_j_5, .int v5_j_3]) (rest := [.ref a_coef]) ⟨hx, hb, hml, hown, hts⟩ (c_X5_place l dC dI cI cJ cZ a_fld a_coef a_mags a_marks H.size fld_wide fld_high fld_band fld_causal v6_j_5 v5_j_3) (cwV 2 hts gX10_fill_X5_place rfl rfl rfl (by decide +kernel) ⟨Nat.le_of_ble_eq_true rfl, Nat.le_of_ble_eq_true rfl⟩) ⟨fun a U g mk q => by obtain ⟨q0, q1, qP, qK, qD⟩ := q; exact ⟨q0, q1, qP, va_K.moved (u := U) (U := U.calling g mk a) (Vm.Alike.refl U.vm) qK, qD⟩, va_recv hK hPc (ci := 4) (q0 := 0) rfl rfl, fun U hU hW => ⟨rfl, by rw [hU], by rw [hU]; exact hPc, va_K.moved hW.alike hK, hDc.weaken (fun _ _ _ _ => trivial)⟩⟩ rfl rfl hl.1 rfl (lv_room (Nat.le_of_ble_eq_true rfl)) dX10_fill_89 ⟨Nat.le_of_ble_eq_true rfl, Nat.le_of_ble_eq_true rfl⟩) hS (fun q _ h => hFc q h) hFc (fun r u t H1 locs ht hvm hw hB hz1 hk1 hS => ?_)
                  obtain ⟨hP1, hK1, hD1⟩ := hB
                  rw [ht] at hP1
                  obtain ⟨r_7, hr_7⟩ : ∃ z, F_X5_place v6_j_5 v5_j_3 fld_wide = z := ⟨_, rfl⟩
                  try rw [hr_7] at hw
                  try rw [hr_7] at hP1
                  try rw [hr_7] at hD1
                  have hg : (L_X10_fill_j_5 p1 p2 p3 p4 fld_wide v5_j_3 n (v6_j_5 + (1 : Int32)) (upd coef_f_j_5 r_7.toNatClampNeg (if ((((p1 * v6_j_5) + (p2 * v5_j_3)) + ((p3 * v6_j_5) * v5_j_3)) >>> (p4 &&& 31)) < (-2147483647 : Int32) then (-2147483647 : Int32) else ((((p1 * v6_j_5) + (p2 * v5_j_3)) + ((p3 * v6_j_5) * v5_j_3)) >>> (p4 &&& 31))))) = j_5 := by first | (rw [hr_7] at hg; exact hg) | (subst hr_7; exact hg)
                  have hw := hw.symm
                  subst hw
                  obtain ⟨hP, hD⟩ := va_join (wr := [(a_coef, .inl (cI, coef_n, .inl coef_f_j_5)), (a_pb, .inr (9, [.ref a_fld, .ref a_plan, .ref a_row, .ref a_ctx, .ref a_cw, .ref a_rw, .ref a_cr, .ref a_rr, .ref a_scan, .int pb_style, .int pb_isWritten, .int pb_isRead]))]) (w1 := (wd_fld a_fld a_coef a_mags a_marks fld_wide fld_high fld_band fld_causal)) hP hD [0] [1, 2] rfl rfl (by decide) (by decide) hk1 hFc hP1 hD1
                  have hP : va_P (dC, dI) vwCl (wd_fld_coef_pb cI a_fld a_coef a_mags a_marks a_pb a_plan a_row a_ctx a_cw a_rw a_cr a_rr a_scan fld_wide fld_high fld_band fld_causal coef_n coef_f_j_5 pb_style pb_isWritten pb_isRead) H1 := hP.sub [2, 0, 1] rfl
                  have hD : va_D A (wd_fld_coef_pb cI a_fld a_coef a_mags a_marks a_pb a_plan a_row a_ctx a_cw a_rw a_cr a_rr a_scan fld_wide fld_high fld_band fld_causal coef_n coef_f_j_5 pb_style pb_isWritten pb_isRead) := hD.sub [2, 0, 1] (by decide) rfl
                  generalize H1 = H at hP hS ⊢
                  have hpre := hpre r_7 hr_7
                  refine lv_iload hx hb dX10_fill_92 (lv_at hl 0 rfl) ?_
                  refine lv_ldc (v := -2147483647) hx hb hown (hts (.constant RX10 110 (-2147483647)) (by decide +kernel)) dX10_fill_94 ?_
                  refine va_mmax hx hb (hml.trans hl.1.symm) hown (hts (.methodLink RX10 129 Lib.Math.max.name) (by decide +kernel)) (hts (.static Lib.Math.max.name) (by decide +kernel)) (hts (.initialized "java/lang/Math") (by decide +kernel)) (hts (.code Lib.Math.max.name Lib.Math.max.code 2 (some .int)) (by decide +kernel)) (Nat.le_of_ble_eq_true rfl) (Nat.le_of_ble_eq_true rfl) (Nat.le_of_ble_eq_true rfl) (Nat.le_of_ble_eq_true rfl) dX10_fill_96 ?_
                  have h_8 := hpre.1
                  have hpre := hpre.2
                  refine va_iast hx hb hK hP hD hS 1 0 rfl rfl h_8 dX10_fill_99 (fun H locs hP hD hS => ?_)
                  have hP : va_P (dC, dI) vwCl (wd_fld_coef_pb cI a_fld a_coef a_mags a_marks a_pb a_plan a_row a_ctx a_cw a_rw a_cr a_rr a_scan fld_wide fld_high fld_band fld_causal coef_n (upd coef_f_j_5 r_7.toNatClampNeg (if ((((p1 * v6_j_5) + (p2 * v5_j_3)) + ((p3 * v6_j_5) * v5_j_3)) >>> (p4 &&& 31)) < (-2147483647 : Int32) then (-2147483647 : Int32) else ((((p1 * v6_j_5) + (p2 * v5_j_3)) + ((p3 * v6_j_5) * v5_j_3)) >>> (p4 &&& 31)))) pb_style pb_isWritten pb_isRead) H := hP
                  have hD : va_D A (wd_fld_coef_pb cI a_fld a_coef a_mags a_marks a_pb a_plan a_row a_ctx a_cw a_rw a_cr a_rr a_scan fld_wide fld_high fld_band fld_causal coef_n (upd coef_f_j_5 r_7.toNatClampNeg (if ((((p1 * v6_j_5) + (p2 * v5_j_3)) + ((p3 * v6_j_5) * v5_j_3)) >>> (p4 &&& 31)) < (-2147483647 : Int32) then (-2147483647 : Int32) else ((((p1 * v6_j_5) + (p2 * v5_j_3)) + ((p3 * v6_j_5) * v5_j_3)) >>> (p4 &&& 31)))) pb_style pb_isWritten pb_isRead) := hD
                  refine lv_iinc (v := (v6_j_5 + (1 : Int32))) (lv' := [(6, .int (v6_j_5 + (1 : Int32))), (7, .int ((((p1 * v6_j_5) + (p2 * v5_j_3)) + ((p3 * v6_j_5) * v5_j_3)) >>> (p4 &&& 31))), (0, .ref a_pb), (1, .int p1), (2, .int p2), (3, .int p3), (4, .int p4), (5, .int v5_j_3)]) hx hb dX10_fill_100 hl (k := 7) rfl rfl (by decide) rfl (fun ls hl => ?_)
                  refine lv_goto (tgt := 40) hx hb dX10_fill_103 (by decide) ?_
                  exact ih (v6_j_5 + (1 : Int32)) (upd coef_f_j_5 r_7.toNatClampNeg (if ((((p1 * v6_j_5) + (p2 * v5_j_3)) + ((p3 * v6_j_5) * v5_j_3)) >>> (p4 &&& 31)) < (-2147483647 : Int32) then (-2147483647 : Int32) else ((((p1 * v6_j_5) + (p2 * v5_j_3)) + ((p3 * v6_j_5) * v5_j_3)) >>> (p4 &&& 31)))) _ _ _ hpre hg hP hD hS (lv_sub hl [2, 3, 4, 5, 6, 7, 0] rfl)
            exact hL_j_5 fu (0 : Int32) coef_f_j_3 _ _ _ hpre hj_5 hP hD hS (lv_sub hl [1, 2, 3, 4, 5, 6, 0] rfl)
      exact hL_j_3 fu (0 : Int32) coef_f _ _ _ hpre hj_3 hP hD hS (lv_sub hl [1, 2, 3, 4, 5, 0] rfl)
    · rw [if_neg c_2] at hg
      have hpre := hpre.2 c_2
      exact absurd hpre id
abbrev wd_row_plan_pb (a_row : Nat) (a_bytes : Nat) (a_plan : Nat) (a_reaches : Nat) (a_gains : Nat) (a_pb : Nat) (a_fld : Nat) (a_ctx : Nat) (a_cw : Nat) (a_rw : Nat) (a_cr : Nat) (a_rr : Nat) (a_scan : Nat) (row_count : Int32) (row_start : Int32) (plan_planes : Int32) (plan_passes : Int32) (plan_segments : Int32) (plan_style : Int32) (plan_firstOfSegment : Int32) (pb_style : Int32) (pb_isWritten : Int32) (pb_isRead : Int32) : va_W := [(a_row, .inr (0, [.ref a_bytes, .int row_count, .int row_start])), (a_plan, .inr (5, [.ref a_reaches, .ref a_gains, .int plan_planes, .int plan_passes, .int plan_segments, .int plan_style, .int plan_firstOfSegment])), (a_pb, .inr (9, [.ref a_fld, .ref a_plan, .ref a_row, .ref a_ctx, .ref a_cw, .ref a_rw, .ref a_cr, .ref a_rr, .ref a_scan, .int pb_style, .int pb_isWritten, .int pb_isRead]))]
abbrev rm_X10_written : Room := { frames := 1, cells := 0, slots := 0, locals := 20 }
abbrev Q_X10_written (dC : Nat → ClassId) (dI : Nat → Nat → Nat) (cI cJ cZ : ClassId) (a_row : Nat) (a_bytes : Nat) (a_plan : Nat) (a_reaches : Nat) (a_gains : Nat) (a_pb : Nat) (a_fld : Nat) (a_ctx : Nat) (a_cw : Nat) (a_rw : Nat) (a_cr : Nat) (a_rr : Nat) (a_scan : Nat) (A : Nat → Prop) (row_count : Int32) (row_start : Int32) (plan_planes : Int32) (plan_passes : Int32) (plan_segments : Int32) (plan_style : Int32) (plan_firstOfSegment : Int32) (pb_style : Int32) (pb_isWritten : Int32) (pb_isRead : Int32) (g : Int32) : Array Value → State → Outcome → State → Prop := va_Qi (fun (r : Int32) (_ : Unit) => r = g) (fun u t => va_P (dC, dI) vwCl (wd_row_plan_pb a_row a_bytes a_plan a_reaches a_gains a_pb a_fld a_ctx a_cw a_rw a_cr a_rr a_scan row_count row_start plan_planes plan_passes plan_segments plan_style plan_firstOfSegment pb_style pb_isWritten pb_isRead) t.heap ∧ va_K (dC, dI) vwCl [(cI, .int), (cJ, .long), (cZ, .boolean)] t ∧ va_D A (wd_row_plan_pb a_row a_bytes a_plan a_reaches a_gains a_pb a_fld a_ctx a_cw a_rw a_cr a_rr a_scan row_count row_start plan_planes plan_passes plan_segments plan_style plan_firstOfSegment pb_style pb_isWritten pb_isRead)) A
theorem iw_X10_written_X1 : ∀ w ∈ u_ws RX1 TX1 3, w ∈ wsX10_written := by decide +kernel
theorem iw_X10_written_X10 : ∀ w ∈ u_ws RX10 TX10 12, w ∈ wsX10_written := by decide +kernel
theorem iw_X10_written_X6 : ∀ w ∈ u_ws RX6 TX6 7, w ∈ wsX10_written := by decide +kernel
set_option maxHeartbeats 4000000 in
set_option maxRecDepth 100000 in
theorem c_X10_written (l : Launch) (dC : Nat → ClassId) (dI : Nat → Nat → Nat) (cI cJ cZ : ClassId) (a_row : Nat) (a_bytes : Nat) (a_plan : Nat) (a_reaches : Nat) (a_gains : Nat) (a_pb : Nat) (a_fld : Nat) (a_ctx : Nat) (a_cw : Nat) (a_rw : Nat) (a_cr : Nat) (a_rr : Nat) (a_scan : Nat) (sz : Nat) (row_count : Int32) (row_start : Int32) (plan_planes : Int32) (plan_passes : Int32) (plan_segments : Int32) (plan_style : Int32) (plan_firstOfSegment : Int32) (pb_style : Int32) (pb_isWritten : Int32) (pb_isRead : Int32) (p1 : Int32) (hpre : P_X10_written p1 pb_isWritten) : Met l yX10_written wsX10_written rm_X10_written (va_Pc [.ref a_pb, .int p1] (fun U => U.heap.size = sz ∧ va_P (dC, dI) vwCl (wd_row_plan_pb a_row a_bytes a_plan a_reaches a_gains a_pb a_fld a_ctx a_cw a_rw a_cr a_rr a_scan row_count row_start plan_planes plan_passes plan_segments plan_style plan_firstOfSegment pb_style pb_isWritten pb_isRead) U.heap ∧ va_K (dC, dI) vwCl [(cI, .int), (cJ, .long), (cZ, .boolean)] U ∧ va_D (fun _ => True) (wd_row_plan_pb a_row a_bytes a_plan a_reaches a_gains a_pb a_fld a_ctx a_cw a_rw a_cr a_rr a_scan row_count row_start plan_planes plan_passes plan_segments plan_style plan_firstOfSegment pb_style pb_isWritten pb_isRead))) (Q_X10_written dC dI cI cJ cZ a_row a_bytes a_plan a_reaches a_gains a_pb a_fld a_ctx a_cw a_rw a_cr a_rr a_scan (va_A (wd_row_plan_pb a_row a_bytes a_plan a_reaches a_gains a_pb a_fld a_ctx a_cw a_rw a_cr a_rr a_scan row_count row_start plan_planes plan_passes plan_segments plan_style plan_firstOfSegment pb_style pb_isWritten pb_isRead) sz) row_count row_start plan_planes plan_passes plan_segments plan_style plan_firstOfSegment pb_style pb_isWritten pb_isRead (F_X10_written p1 row_count plan_planes plan_passes plan_segments)) 0 0 (va_A (wd_row_plan_pb a_row a_bytes a_plan a_reaches a_gains a_pb a_fld a_ctx a_cw a_rw a_cr a_rr a_scan row_count row_start plan_planes plan_passes plan_segments plan_style plan_firstOfSegment pb_style pb_isWritten pb_isRead) sz) := by
  refine Met.ofW (cc := cX10_written) (maxL := 2) (ret := (some .int)) (by decide) rfl ?_
  intro p e s m args below meth c s₁ B hml hv
  obtain ⟨rfl, hsz, hP, hK, hD0⟩ := hv
  have hx := B.exec
  have hb := B.bytes
  have hr := B.returns
  have hts := atoms_spec (ws := wsX10_written) B.pre
  have hown : s.vm.findClass RX10 = some m.cls := findClass_of_methodNamed B.named
  have hlocks := B.notSynchronized
  subst hsz
  have hD := hD0.self (sz := s.heap.size)
  generalize hAe : va_A (wd_row_plan_pb a_row a_bytes a_plan a_reaches a_gains a_pb a_fld a_ctx a_cw a_rw a_cr a_rr a_scan row_count row_start plan_planes plan_passes plan_segments plan_style plan_firstOfSegment pb_style pb_isWritten pb_isRead) s.heap.size = A at hD ⊢
  have hA : ∀ q : Nat, s.heap.size ≤ q → A q := fun q h => by rw [← hAe]; exact Or.inr h
  have hS : va_S A s.heap s.heap [] := va_S.rf
  obtain ⟨H, hH⟩ : ∃ z, z = s.heap := ⟨_, rfl⟩
  have hP : va_P (dC, dI) vwCl (wd_row_plan_pb a_row a_bytes a_plan a_reaches a_gains a_pb a_fld a_ctx a_cw a_rw a_cr a_rr a_scan row_count row_start plan_planes plan_passes plan_segments plan_style plan_firstOfSegment pb_style pb_isWritten pb_isRead) H := by rw [hH]; exact hP
  have hS : va_S A s.heap H [] := by rw [hH]; exact va_S.rf
  obtain ⟨g, hg⟩ : ∃ z, F_X10_written p1 row_count plan_planes plan_passes plan_segments = z := ⟨_, rfl⟩
  rw [hg]
  generalize hQe : MQ below (Q_X10_written dC dI cI cJ cZ a_row a_bytes a_plan a_reaches a_gains a_pb a_fld a_ctx a_cw a_rw a_cr a_rr a_scan A row_count row_start plan_planes plan_passes plan_segments plan_style plan_firstOfSegment pb_style pb_isWritten pb_isRead g) _ s 0 0 A = Q
  rw [← hH]
  clear hH
  have hl := lv_entry ([.ref a_pb, .int p1]) (n := 2) (Nat.le_of_ble_eq_true rfl)
  rw [lg_entry_eq]
  generalize (lg_sl ([.ref a_pb, .int p1]) ++ List.replicate (2 - (lg_sl ([.ref a_pb, .int p1])).length) Slot.unset).toArray = ls at hl ⊢
  have hl : lv_has ls 2 [(0, .ref a_pb), (1, .int p1)] := hl
  unfold F_X10_written at hg
  unfold P_X10_written at hpre
  refine lv_aload_n hx hb dX10_written_0 rfl (lv_at hl 0 rfl) ?_
  have hPc := hP.sub (ws' := (wd_pb a_pb a_fld a_plan a_row a_ctx a_cw a_rw a_cr a_rr a_scan pb_style pb_isWritten pb_isRead)) [2] rfl
  have hDc := hD.sub (ws' := (wd_pb a_pb a_fld a_plan a_row a_ctx a_cw a_rw a_cr a_rr a_scan pb_style pb_isWritten pb_isRead)) [2] (by decide) rfl
  have hFc := va_free (wc := (wd_pb a_pb a_fld a_plan a_row a_ctx a_cw a_rw a_cr a_rr a_scan pb_style pb_isWritten pb_isRead)) hD hS hA [2] rfl
  refine va_callv (va_runV (As := []) (rest := []) ⟨hx, hb, hml, hown, hts⟩ (c_X10_needWritten l dC dI cI cJ cZ a_pb a_fld a_plan a_row a_ctx a_cw a_rw a_cr a_rr a_scan H.size pb_style pb_isWritten pb_isRead hpre.1) (cwV 0 hts gX10_written_X10_needWritten rfl rfl rfl (by decide +kernel) ⟨Nat.le_of_ble_eq_true rfl, Nat.le_of_ble_eq_true rfl⟩) ⟨fun a U g mk q => by obtain ⟨q0, q1, qP, qK, qD⟩ := q; exact ⟨q0, q1, qP, va_K.moved (u := U) (U := U.calling g mk a) (Vm.Alike.refl U.vm) qK, qD⟩, va_recv hK hPc (ci := 9) (q0 := 0) rfl rfl, fun U hU hW => ⟨rfl, by rw [hU], by rw [hU]; exact hPc, va_K.moved hW.alike hK, hDc.weaken (fun _ _ _ _ => trivial)⟩⟩ rfl rfl hl.1 rfl (lv_room (Nat.le_of_ble_eq_true rfl)) dX10_written_1 ⟨Nat.le_of_ble_eq_true rfl, Nat.le_of_ble_eq_true rfl⟩) hS (fun q _ h => hFc q h) hFc (fun u t H1 locs ht hvm hw hB hz1 hk1 hS => ?_)
  obtain ⟨hP1, hK1, hD1⟩ := hB
  rw [ht] at hP1
  obtain ⟨hP, hD⟩ := va_join (wr := [(a_row, .inr (0, [.ref a_bytes, .int row_count, .int row_start])), (a_plan, .inr (5, [.ref a_reaches, .ref a_gains, .int plan_planes, .int plan_passes, .int plan_segments, .int plan_style, .int plan_firstOfSegment]))]) (w1 := (wd_pb a_pb a_fld a_plan a_row a_ctx a_cw a_rw a_cr a_rr a_scan pb_style pb_isWritten pb_isRead)) hP hD [2] [0, 1] rfl rfl (by decide) (by decide) hk1 hFc hP1 hD1
  have hP : va_P (dC, dI) vwCl (wd_row_plan_pb a_row a_bytes a_plan a_reaches a_gains a_pb a_fld a_ctx a_cw a_rw a_cr a_rr a_scan row_count row_start plan_planes plan_passes plan_segments plan_style plan_firstOfSegment pb_style pb_isWritten pb_isRead) H1 := hP.sub [0, 1, 2] rfl
  have hD : va_D A (wd_row_plan_pb a_row a_bytes a_plan a_reaches a_gains a_pb a_fld a_ctx a_cw a_rw a_cr a_rr a_scan row_count row_start plan_planes plan_passes plan_segments plan_style plan_firstOfSegment pb_style pb_isWritten pb_isRead) := hD.sub [0, 1, 2] (by decide) rfl
  generalize H1 = H at hP hS ⊢
  have hpre := hpre.2
  refine lv_iload_n hx hb dX10_written_4 rfl (lv_at hl 1 rfl) ?_
  by_cases c_2_0 : p1 = (0 : Int32)
  · rw [if_pos c_2_0] at hg
    have hpre := hpre.1 c_2_0
    refine lv_tableIn (tgt := 36) (off := 31) hx hb dX10_written_5 (by rw [c_2_0]; decide) (by rw [c_2_0]; decide) (by rw [c_2_0]; rfl) (by decide) ?_
    clear hpre
    refine lv_aload_n hx hb dX10_written_36 rfl (lv_at hl 0 rfl) ?_
    refine va_get (D := (dC, dI)) (ci := 9) (v := .ref a_plan) (C := RX10) (T := TX10) (N := 12) hx hb hts iw_X10_written_X10 hown hK hP 2 rfl rfl 1 (by decide) (hts (.fieldLink RX10 19 "PlaneBlocks" "plan" "LPlaneBlocks$Plan;") (by decide +kernel)) (fun _ h9 => h9) rfl dX10_written_37 ?_
    refine va_get (D := (dC, dI)) (ci := 5) (v := .int plan_planes) (C := RX6) (T := TX6) (N := 7) hx hb hts iw_X10_written_X6 hown hK hP 1 rfl rfl 2 (by decide) (hts (.fieldLink RX10 145 "PlaneBlocks$Plan" "planes" "I") (by decide +kernel)) (fun _ h9 => h9) rfl dX10_written_40 ?_
    subst hg
    rw [← hQe]
    exact W.iret (v := plan_planes) hx hb hr (fun t ht hW => ⟨⟨plan_planes, (), rfl, rfl, by rw [ht]; exact hP, va_K.moved hW.alike hK, hD⟩, hS.F ht⟩) hS.2.2 dX10_written_43
  rw [if_neg c_2_0] at hg
  have hpre := hpre.2 c_2_0
  by_cases c_2_1 : p1 = (1 : Int32)
  · rw [if_pos c_2_1] at hg
    have hpre := hpre.1 c_2_1
    refine lv_tableIn (tgt := 44) (off := 39) hx hb dX10_written_5 (by rw [c_2_1]; decide) (by rw [c_2_1]; decide) (by rw [c_2_1]; rfl) (by decide) ?_
    clear hpre
    refine lv_aload_n hx hb dX10_written_44 rfl (lv_at hl 0 rfl) ?_
    refine va_get (D := (dC, dI)) (ci := 9) (v := .ref a_plan) (C := RX10) (T := TX10) (N := 12) hx hb hts iw_X10_written_X10 hown hK hP 2 rfl rfl 1 (by decide) (hts (.fieldLink RX10 19 "PlaneBlocks" "plan" "LPlaneBlocks$Plan;") (by decide +kernel)) (fun _ h9 => h9) rfl dX10_written_45 ?_
    refine va_get (D := (dC, dI)) (ci := 5) (v := .int plan_passes) (C := RX6) (T := TX6) (N := 7) hx hb hts iw_X10_written_X6 hown hK hP 1 rfl rfl 3 (by decide) (hts (.fieldLink RX10 147 "PlaneBlocks$Plan" "passes" "I") (by decide +kernel)) (fun _ h9 => h9) rfl dX10_written_48 ?_
    subst hg
    rw [← hQe]
    exact W.iret (v := plan_passes) hx hb hr (fun t ht hW => ⟨⟨plan_passes, (), rfl, rfl, by rw [ht]; exact hP, va_K.moved hW.alike hK, hD⟩, hS.F ht⟩) hS.2.2 dX10_written_51
  rw [if_neg c_2_1] at hg
  have hpre := hpre.2 c_2_1
  by_cases c_2_2 : p1 = (2 : Int32)
  · rw [if_pos c_2_2] at hg
    have hpre := hpre.1 c_2_2
    refine lv_tableIn (tgt := 52) (off := 47) hx hb dX10_written_5 (by rw [c_2_2]; decide) (by rw [c_2_2]; decide) (by rw [c_2_2]; rfl) (by decide) ?_
    clear hpre
    refine lv_aload_n hx hb dX10_written_52 rfl (lv_at hl 0 rfl) ?_
    refine va_get (D := (dC, dI)) (ci := 9) (v := .ref a_row) (C := RX10) (T := TX10) (N := 12) hx hb hts iw_X10_written_X10 hown hK hP 2 rfl rfl 2 (by decide) (hts (.fieldLink RX10 26 "PlaneBlocks" "row" "LPlaneBlocks$ByteRow;") (by decide +kernel)) (fun _ h9 => h9) rfl dX10_written_53 ?_
    refine va_get (D := (dC, dI)) (ci := 0) (v := .int row_count) (C := RX1) (T := TX1) (N := 3) hx hb hts iw_X10_written_X1 hown hK hP 0 rfl rfl 1 (by decide) (hts (.fieldLink RX10 200 "PlaneBlocks$ByteRow" "count" "I") (by decide +kernel)) (fun _ h9 => h9) rfl dX10_written_56 ?_
    subst hg
    rw [← hQe]
    exact W.iret (v := row_count) hx hb hr (fun t ht hW => ⟨⟨row_count, (), rfl, rfl, by rw [ht]; exact hP, va_K.moved hW.alike hK, hD⟩, hS.F ht⟩) hS.2.2 dX10_written_59
  rw [if_neg c_2_2] at hg
  have hpre := hpre.2 c_2_2
  by_cases c_2_3 : p1 = (3 : Int32)
  · rw [if_pos c_2_3] at hg
    have hpre := hpre.1 c_2_3
    refine lv_tableIn (tgt := 60) (off := 55) hx hb dX10_written_5 (by rw [c_2_3]; decide) (by rw [c_2_3]; decide) (by rw [c_2_3]; rfl) (by decide) ?_
    clear hpre
    refine lv_aload_n hx hb dX10_written_60 rfl (lv_at hl 0 rfl) ?_
    refine va_get (D := (dC, dI)) (ci := 9) (v := .ref a_plan) (C := RX10) (T := TX10) (N := 12) hx hb hts iw_X10_written_X10 hown hK hP 2 rfl rfl 1 (by decide) (hts (.fieldLink RX10 19 "PlaneBlocks" "plan" "LPlaneBlocks$Plan;") (by decide +kernel)) (fun _ h9 => h9) rfl dX10_written_61 ?_
    refine va_get (D := (dC, dI)) (ci := 5) (v := .int plan_segments) (C := RX6) (T := TX6) (N := 7) hx hb hts iw_X10_written_X6 hown hK hP 1 rfl rfl 4 (by decide) (hts (.fieldLink RX10 219 "PlaneBlocks$Plan" "segments" "I") (by decide +kernel)) (fun _ h9 => h9) rfl dX10_written_64 ?_
    subst hg
    rw [← hQe]
    exact W.iret (v := plan_segments) hx hb hr (fun t ht hW => ⟨⟨plan_segments, (), rfl, rfl, by rw [ht]; exact hP, va_K.moved hW.alike hK, hD⟩, hS.F ht⟩) hS.2.2 dX10_written_67
  rw [if_neg c_2_3] at hg
  have hpre := hpre.2 c_2_3
  have hsw : p1.toInt < 0 ∨ 3 < p1.toInt := by
    have f0 := ne_toInt (c := 0) rfl c_2_0
    have f1 := ne_toInt (c := 1) rfl c_2_1
    have f2 := ne_toInt (c := 2) rfl c_2_2
    have f3 := ne_toInt (c := 3) rfl c_2_3
    omega
  refine lv_tableOut (tgt := 68) hx hb dX10_written_5 hsw (by decide) ?_
  exact absurd hpre id
abbrev wd_plan_reaches_pb (cI : ClassId) (a_plan : Nat) (a_reaches : Nat) (a_gains : Nat) (a_pb : Nat) (a_fld : Nat) (a_row : Nat) (a_ctx : Nat) (a_cw : Nat) (a_rw : Nat) (a_cr : Nat) (a_rr : Nat) (a_scan : Nat) (plan_planes : Int32) (plan_passes : Int32) (plan_segments : Int32) (plan_style : Int32) (plan_firstOfSegment : Int32) (reaches_n : Nat) (reaches_f : Nat → Int32) (pb_style : Int32) (pb_isWritten : Int32) (pb_isRead : Int32) : va_W := [(a_plan, .inr (5, [.ref a_reaches, .ref a_gains, .int plan_planes, .int plan_passes, .int plan_segments, .int plan_style, .int plan_firstOfSegment])), (a_reaches, .inl (cI, reaches_n, .inl reaches_f)), (a_pb, .inr (9, [.ref a_fld, .ref a_plan, .ref a_row, .ref a_ctx, .ref a_cw, .ref a_rw, .ref a_cr, .ref a_rr, .ref a_scan, .int pb_style, .int pb_isWritten, .int pb_isRead]))]
abbrev rm_X10_pass : Room := { frames := 2, cells := 0, slots := 0, locals := 42 }
abbrev Q_X10_pass (dC : Nat → ClassId) (dI : Nat → Nat → Nat) (cI cJ cZ : ClassId) (a_plan : Nat) (a_reaches : Nat) (a_gains : Nat) (a_pb : Nat) (a_fld : Nat) (a_row : Nat) (a_ctx : Nat) (a_cw : Nat) (a_rw : Nat) (a_cr : Nat) (a_rr : Nat) (a_scan : Nat) (A : Nat → Prop) (plan_planes : Int32) (plan_passes : Int32) (plan_segments : Int32) (plan_style : Int32) (plan_firstOfSegment : Int32) (reaches_n : Nat) (reaches_f : Nat → Int32) (pb_style : Int32) (pb_isWritten : Int32) (pb_isRead : Int32) (g : Int32) : Array Value → State → Outcome → State → Prop := va_Qi (fun (r : Int32) (_ : Unit) => r = g) (fun u t => va_P (dC, dI) vwCl (wd_plan_reaches_pb cI a_plan a_reaches a_gains a_pb a_fld a_row a_ctx a_cw a_rw a_cr a_rr a_scan plan_planes plan_passes plan_segments plan_style plan_firstOfSegment reaches_n reaches_f pb_style pb_isWritten pb_isRead) t.heap ∧ va_K (dC, dI) vwCl [(cI, .int), (cJ, .long), (cZ, .boolean)] t ∧ va_D A (wd_plan_reaches_pb cI a_plan a_reaches a_gains a_pb a_fld a_row a_ctx a_cw a_rw a_cr a_rr a_scan plan_planes plan_passes plan_segments plan_style plan_firstOfSegment reaches_n reaches_f pb_style pb_isWritten pb_isRead)) A
theorem iw_X10_pass_X10 : ∀ w ∈ u_ws RX10 TX10 12, w ∈ wsX10_pass := by decide +kernel
theorem iw_X10_pass_X6 : ∀ w ∈ u_ws RX6 TX6 7, w ∈ wsX10_pass := by decide +kernel
set_option maxHeartbeats 4000000 in
set_option maxRecDepth 100000 in
theorem c_X10_pass (l : Launch) (dC : Nat → ClassId) (dI : Nat → Nat → Nat) (cI cJ cZ : ClassId) (a_plan : Nat) (a_reaches : Nat) (a_gains : Nat) (a_pb : Nat) (a_fld : Nat) (a_row : Nat) (a_ctx : Nat) (a_cw : Nat) (a_rw : Nat) (a_cr : Nat) (a_rr : Nat) (a_scan : Nat) (sz : Nat) (plan_planes : Int32) (plan_passes : Int32) (plan_segments : Int32) (plan_style : Int32) (plan_firstOfSegment : Int32) (reaches_n : Nat) (reaches_f : Nat → Int32) (pb_style : Int32) (pb_isWritten : Int32) (pb_isRead : Int32) (p1 : Int32) (p2 : Int32) (hpre : P_X10_pass p1 p2 plan_passes reaches_n pb_isWritten) : Met l yX10_pass wsX10_pass rm_X10_pass (va_Pc [.ref a_pb, .int p1, .int p2] (fun U => U.heap.size = sz ∧ va_P (dC, dI) vwCl (wd_plan_reaches_pb cI a_plan a_reaches a_gains a_pb a_fld a_row a_ctx a_cw a_rw a_cr a_rr a_scan plan_planes plan_passes plan_segments plan_style plan_firstOfSegment reaches_n reaches_f pb_style pb_isWritten pb_isRead) U.heap ∧ va_K (dC, dI) vwCl [(cI, .int), (cJ, .long), (cZ, .boolean)] U ∧ va_D (fun _ => True) (wd_plan_reaches_pb cI a_plan a_reaches a_gains a_pb a_fld a_row a_ctx a_cw a_rw a_cr a_rr a_scan plan_planes plan_passes plan_segments plan_style plan_firstOfSegment reaches_n reaches_f pb_style pb_isWritten pb_isRead))) (Q_X10_pass dC dI cI cJ cZ a_plan a_reaches a_gains a_pb a_fld a_row a_ctx a_cw a_rw a_cr a_rr a_scan (va_A (wd_plan_reaches_pb cI a_plan a_reaches a_gains a_pb a_fld a_row a_ctx a_cw a_rw a_cr a_rr a_scan plan_planes plan_passes plan_segments plan_style plan_firstOfSegment reaches_n reaches_f pb_style pb_isWritten pb_isRead) sz) plan_planes plan_passes plan_segments plan_style plan_firstOfSegment reaches_n reaches_f pb_style pb_isWritten pb_isRead (F_X10_pass p1 p2 plan_planes plan_passes plan_style reaches_f)) 0 0 (va_A (wd_plan_reaches_pb cI a_plan a_reaches a_gains a_pb a_fld a_row a_ctx a_cw a_rw a_cr a_rr a_scan plan_planes plan_passes plan_segments plan_style plan_firstOfSegment reaches_n reaches_f pb_style pb_isWritten pb_isRead) sz) := by
  refine Met.ofW (cc := cX10_pass) (maxL := 3) (ret := (some .int)) (by decide) rfl ?_
  intro p e s m args below meth c s₁ B hml hv
  obtain ⟨rfl, hsz, hP, hK, hD0⟩ := hv
  have hx := B.exec
  have hb := B.bytes
  have hr := B.returns
  have hts := atoms_spec (ws := wsX10_pass) B.pre
  have hown : s.vm.findClass RX10 = some m.cls := findClass_of_methodNamed B.named
  have hlocks := B.notSynchronized
  subst hsz
  have hD := hD0.self (sz := s.heap.size)
  generalize hAe : va_A (wd_plan_reaches_pb cI a_plan a_reaches a_gains a_pb a_fld a_row a_ctx a_cw a_rw a_cr a_rr a_scan plan_planes plan_passes plan_segments plan_style plan_firstOfSegment reaches_n reaches_f pb_style pb_isWritten pb_isRead) s.heap.size = A at hD ⊢
  have hA : ∀ q : Nat, s.heap.size ≤ q → A q := fun q h => by rw [← hAe]; exact Or.inr h
  have hS : va_S A s.heap s.heap [] := va_S.rf
  obtain ⟨H, hH⟩ : ∃ z, z = s.heap := ⟨_, rfl⟩
  have hP : va_P (dC, dI) vwCl (wd_plan_reaches_pb cI a_plan a_reaches a_gains a_pb a_fld a_row a_ctx a_cw a_rw a_cr a_rr a_scan plan_planes plan_passes plan_segments plan_style plan_firstOfSegment reaches_n reaches_f pb_style pb_isWritten pb_isRead) H := by rw [hH]; exact hP
  have hS : va_S A s.heap H [] := by rw [hH]; exact va_S.rf
  obtain ⟨g, hg⟩ : ∃ z, F_X10_pass p1 p2 plan_planes plan_passes plan_style reaches_f = z := ⟨_, rfl⟩
  rw [hg]
  generalize hQe : MQ below (Q_X10_pass dC dI cI cJ cZ a_plan a_reaches a_gains a_pb a_fld a_row a_ctx a_cw a_rw a_cr a_rr a_scan A plan_planes plan_passes plan_segments plan_style plan_firstOfSegment reaches_n reaches_f pb_style pb_isWritten pb_isRead g) _ s 0 0 A = Q
  rw [← hH]
  clear hH
  have hl := lv_entry ([.ref a_pb, .int p1, .int p2]) (n := 3) (Nat.le_of_ble_eq_true rfl)
  rw [lg_entry_eq]
  generalize (lg_sl ([.ref a_pb, .int p1, .int p2]) ++ List.replicate (3 - (lg_sl ([.ref a_pb, .int p1, .int p2])).length) Slot.unset).toArray = ls at hl ⊢
  have hl : lv_has ls 3 [(0, .ref a_pb), (1, .int p1), (2, .int p2)] := hl
  unfold F_X10_pass at hg
  unfold P_X10_pass at hpre
  refine lv_aload_n hx hb dX10_pass_0 rfl (lv_at hl 0 rfl) ?_
  refine lv_iload_n hx hb dX10_pass_1 rfl (lv_at hl 1 rfl) ?_
  have hPc := hP.sub (ws' := (wd_plan_pb a_plan a_reaches a_gains a_pb a_fld a_row a_ctx a_cw a_rw a_cr a_rr a_scan plan_planes plan_passes plan_segments plan_style plan_firstOfSegment pb_style pb_isWritten pb_isRead)) [0, 2] rfl
  have hDc := hD.sub (ws' := (wd_plan_pb a_plan a_reaches a_gains a_pb a_fld a_row a_ctx a_cw a_rw a_cr a_rr a_scan plan_planes plan_passes plan_segments plan_style plan_firstOfSegment pb_style pb_isWritten pb_isRead)) [0, 2] (by decide) rfl
  have hFc := va_free (wc := (wd_plan_pb a_plan a_reaches a_gains a_pb a_fld a_row a_ctx a_cw a_rw a_cr a_rr a_scan plan_planes plan_passes plan_segments plan_style plan_firstOfSegment pb_style pb_isWritten pb_isRead)) hD hS hA [0, 2] rfl
  refine va_callv (va_runV (As := [.int p1]) (rest := []) ⟨hx, hb, hml, hown, hts⟩ (c_X10_needPass l dC dI cI cJ cZ a_plan a_reaches a_gains a_pb a_fld a_row a_ctx a_cw a_rw a_cr a_rr a_scan H.size plan_planes plan_passes plan_segments plan_style plan_firstOfSegment pb_style pb_isWritten pb_isRead p1 hpre.1) (cwV 1 hts gX10_pass_X10_needPass rfl rfl rfl (by decide +kernel) ⟨Nat.le_of_ble_eq_true rfl, Nat.le_of_ble_eq_true rfl⟩) ⟨fun a U g mk q => by obtain ⟨q0, q1, qP, qK, qD⟩ := q; exact ⟨q0, q1, qP, va_K.moved (u := U) (U := U.calling g mk a) (Vm.Alike.refl U.vm) qK, qD⟩, va_recv hK hPc (ci := 9) (q0 := 1) rfl rfl, fun U hU hW => ⟨rfl, by rw [hU], by rw [hU]; exact hPc, va_K.moved hW.alike hK, hDc.weaken (fun _ _ _ _ => trivial)⟩⟩ rfl rfl hl.1 rfl (lv_room (Nat.le_of_ble_eq_true rfl)) dX10_pass_2 ⟨Nat.le_of_ble_eq_true rfl, Nat.le_of_ble_eq_true rfl⟩) hS (fun q _ h => hFc q h) hFc (fun u t H1 locs ht hvm hw hB hz1 hk1 hS => ?_)
  obtain ⟨hP1, hK1, hD1⟩ := hB
  rw [ht] at hP1
  obtain ⟨hP, hD⟩ := va_join (wr := [(a_reaches, .inl (cI, reaches_n, .inl reaches_f))]) (w1 := (wd_plan_pb a_plan a_reaches a_gains a_pb a_fld a_row a_ctx a_cw a_rw a_cr a_rr a_scan plan_planes plan_passes plan_segments plan_style plan_firstOfSegment pb_style pb_isWritten pb_isRead)) hP hD [0, 2] [1] rfl rfl (by decide) (by decide) hk1 hFc hP1 hD1
  have hP : va_P (dC, dI) vwCl (wd_plan_reaches_pb cI a_plan a_reaches a_gains a_pb a_fld a_row a_ctx a_cw a_rw a_cr a_rr a_scan plan_planes plan_passes plan_segments plan_style plan_firstOfSegment reaches_n reaches_f pb_style pb_isWritten pb_isRead) H1 := hP.sub [1, 0, 2] rfl
  have hD : va_D A (wd_plan_reaches_pb cI a_plan a_reaches a_gains a_pb a_fld a_row a_ctx a_cw a_rw a_cr a_rr a_scan plan_planes plan_passes plan_segments plan_style plan_firstOfSegment reaches_n reaches_f pb_style pb_isWritten pb_isRead) := hD.sub [1, 0, 2] (by decide) rfl
  generalize H1 = H at hP hS ⊢
  have hpre := hpre.2
  refine lv_iload_n hx hb dX10_pass_5 rfl (lv_at hl 2 rfl) ?_
  by_cases c_2_0 : p2 = (0 : Int32)
  · rw [if_pos c_2_0] at hg
    have hpre := hpre.1 c_2_0
    refine lv_tableIn (tgt := 40) (off := 34) hx hb dX10_pass_6 (by rw [c_2_0]; decide) (by rw [c_2_0]; decide) (by rw [c_2_0]; rfl) (by decide) ?_
    clear hpre
    refine lv_aload_n hx hb dX10_pass_40 rfl (lv_at hl 0 rfl) ?_
    refine va_get (D := (dC, dI)) (ci := 9) (v := .ref a_plan) (C := RX10) (T := TX10) (N := 12) hx hb hts iw_X10_pass_X10 hown hK hP 2 rfl rfl 1 (by decide) (hts (.fieldLink RX10 19 "PlaneBlocks" "plan" "LPlaneBlocks$Plan;") (by decide +kernel)) (fun _ h9 => h9) rfl dX10_pass_41 ?_
    refine lv_iload_n hx hb dX10_pass_44 rfl (lv_at hl 1 rfl) ?_
    have hPc := hP.sub (ws' := (wd_plan a_plan a_reaches a_gains plan_planes plan_passes plan_segments plan_style plan_firstOfSegment)) [0] rfl
    have hDc := hD.sub (ws' := (wd_plan a_plan a_reaches a_gains plan_planes plan_passes plan_segments plan_style plan_firstOfSegment)) [0] (by decide) rfl
    have hFc := va_free (wc := (wd_plan a_plan a_reaches a_gains plan_planes plan_passes plan_segments plan_style plan_firstOfSegment)) hD hS hA [0] rfl
    refine va_calli (va_runV (As := [.int p1]) (rest := []) ⟨hx, hb, hml, hown, hts⟩ (c_X6_kindOf l dC dI cI cJ cZ a_plan a_reaches a_gains H.size plan_planes plan_passes plan_segments plan_style plan_firstOfSegment p1) (cwV 1 hts gX10_pass_X6_kindOf rfl rfl rfl (by decide +kernel) ⟨Nat.le_of_ble_eq_true rfl, Nat.le_of_ble_eq_true rfl⟩) ⟨fun a U g mk q => by obtain ⟨q0, q1, qP, qK, qD⟩ := q; exact ⟨q0, q1, qP, va_K.moved (u := U) (U := U.calling g mk a) (Vm.Alike.refl U.vm) qK, qD⟩, va_recv hK hPc (ci := 5) (q0 := 0) rfl rfl, fun U hU hW => ⟨rfl, by rw [hU], by rw [hU]; exact hPc, va_K.moved hW.alike hK, hDc.weaken (fun _ _ _ _ => trivial)⟩⟩ rfl rfl hl.1 rfl (lv_room (Nat.le_of_ble_eq_true rfl)) dX10_pass_45 ⟨Nat.le_of_ble_eq_true rfl, Nat.le_of_ble_eq_true rfl⟩) hS (fun q _ h => hFc q h) hFc (fun r u t H1 locs ht hvm hw hB hz1 hk1 hS => ?_)
    obtain ⟨hP1, hK1, hD1⟩ := hB
    rw [ht] at hP1
    obtain ⟨r_3, hr_3⟩ : ∃ z, F_X6_kindOf p1 = z := ⟨_, rfl⟩
    try rw [hr_3] at hw
    try rw [hr_3] at hP1
    try rw [hr_3] at hD1
    have hg : r_3 = g := by first | (rw [hr_3] at hg; exact hg) | (subst hr_3; exact hg)
    have hw := hw.symm
    subst hw
    obtain ⟨hP, hD⟩ := va_join (wr := [(a_reaches, .inl (cI, reaches_n, .inl reaches_f)), (a_pb, .inr (9, [.ref a_fld, .ref a_plan, .ref a_row, .ref a_ctx, .ref a_cw, .ref a_rw, .ref a_cr, .ref a_rr, .ref a_scan, .int pb_style, .int pb_isWritten, .int pb_isRead]))]) (w1 := (wd_plan a_plan a_reaches a_gains plan_planes plan_passes plan_segments plan_style plan_firstOfSegment)) hP hD [0] [1, 2] rfl rfl (by decide) (by decide) hk1 hFc hP1 hD1
    have hP : va_P (dC, dI) vwCl (wd_plan_reaches_pb cI a_plan a_reaches a_gains a_pb a_fld a_row a_ctx a_cw a_rw a_cr a_rr a_scan plan_planes plan_passes plan_segments plan_style plan_firstOfSegment reaches_n reaches_f pb_style pb_isWritten pb_isRead) H1 := hP.sub [2, 0, 1] rfl
    have hD : va_D A (wd_plan_reaches_pb cI a_plan a_reaches a_gains a_pb a_fld a_row a_ctx a_cw a_rw a_cr a_rr a_scan plan_planes plan_passes plan_segments plan_style plan_firstOfSegment reaches_n reaches_f pb_style pb_isWritten pb_isRead) := hD.sub [2, 0, 1] (by decide) rfl
    generalize H1 = H at hP hS ⊢
    subst hg
    rw [← hQe]
    exact W.iret (v := r_3) hx hb hr (fun t ht hW => ⟨⟨r_3, (), rfl, rfl, by rw [ht]; exact hP, va_K.moved hW.alike hK, hD⟩, hS.F ht⟩) hS.2.2 dX10_pass_48
  rw [if_neg c_2_0] at hg
  have hpre := hpre.2 c_2_0
  by_cases c_2_1 : p2 = (1 : Int32)
  · rw [if_pos c_2_1] at hg
    have hpre := hpre.1 c_2_1
    refine lv_tableIn (tgt := 49) (off := 43) hx hb dX10_pass_6 (by rw [c_2_1]; decide) (by rw [c_2_1]; decide) (by rw [c_2_1]; rfl) (by decide) ?_
    clear hpre
    refine lv_aload_n hx hb dX10_pass_49 rfl (lv_at hl 0 rfl) ?_
    refine va_get (D := (dC, dI)) (ci := 9) (v := .ref a_plan) (C := RX10) (T := TX10) (N := 12) hx hb hts iw_X10_pass_X10 hown hK hP 2 rfl rfl 1 (by decide) (hts (.fieldLink RX10 19 "PlaneBlocks" "plan" "LPlaneBlocks$Plan;") (by decide +kernel)) (fun _ h9 => h9) rfl dX10_pass_50 ?_
    refine lv_iload_n hx hb dX10_pass_53 rfl (lv_at hl 1 rfl) ?_
    have hPc := hP.sub (ws' := (wd_plan a_plan a_reaches a_gains plan_planes plan_passes plan_segments plan_style plan_firstOfSegment)) [0] rfl
    have hDc := hD.sub (ws' := (wd_plan a_plan a_reaches a_gains plan_planes plan_passes plan_segments plan_style plan_firstOfSegment)) [0] (by decide) rfl
    have hFc := va_free (wc := (wd_plan a_plan a_reaches a_gains plan_planes plan_passes plan_segments plan_style plan_firstOfSegment)) hD hS hA [0] rfl
    refine va_calli (va_runV (As := [.int p1]) (rest := []) ⟨hx, hb, hml, hown, hts⟩ (c_X6_planeOf l dC dI cI cJ cZ a_plan a_reaches a_gains H.size plan_planes plan_passes plan_segments plan_style plan_firstOfSegment p1) (cwV 1 hts gX10_pass_X6_planeOf rfl rfl rfl (by decide +kernel) ⟨Nat.le_of_ble_eq_true rfl, Nat.le_of_ble_eq_true rfl⟩) ⟨fun a U g mk q => by obtain ⟨q0, q1, qP, qK, qD⟩ := q; exact ⟨q0, q1, qP, va_K.moved (u := U) (U := U.calling g mk a) (Vm.Alike.refl U.vm) qK, qD⟩, va_recv hK hPc (ci := 5) (q0 := 0) rfl rfl, fun U hU hW => ⟨rfl, by rw [hU], by rw [hU]; exact hPc, va_K.moved hW.alike hK, hDc.weaken (fun _ _ _ _ => trivial)⟩⟩ rfl rfl hl.1 rfl (lv_room (Nat.le_of_ble_eq_true rfl)) dX10_pass_54 ⟨Nat.le_of_ble_eq_true rfl, Nat.le_of_ble_eq_true rfl⟩) hS (fun q _ h => hFc q h) hFc (fun r u t H1 locs ht hvm hw hB hz1 hk1 hS => ?_)
    obtain ⟨hP1, hK1, hD1⟩ := hB
    rw [ht] at hP1
    obtain ⟨r_4, hr_4⟩ : ∃ z, F_X6_planeOf p1 plan_planes = z := ⟨_, rfl⟩
    try rw [hr_4] at hw
    try rw [hr_4] at hP1
    try rw [hr_4] at hD1
    have hg : r_4 = g := by first | (rw [hr_4] at hg; exact hg) | (subst hr_4; exact hg)
    have hw := hw.symm
    subst hw
    obtain ⟨hP, hD⟩ := va_join (wr := [(a_reaches, .inl (cI, reaches_n, .inl reaches_f)), (a_pb, .inr (9, [.ref a_fld, .ref a_plan, .ref a_row, .ref a_ctx, .ref a_cw, .ref a_rw, .ref a_cr, .ref a_rr, .ref a_scan, .int pb_style, .int pb_isWritten, .int pb_isRead]))]) (w1 := (wd_plan a_plan a_reaches a_gains plan_planes plan_passes plan_segments plan_style plan_firstOfSegment)) hP hD [0] [1, 2] rfl rfl (by decide) (by decide) hk1 hFc hP1 hD1
    have hP : va_P (dC, dI) vwCl (wd_plan_reaches_pb cI a_plan a_reaches a_gains a_pb a_fld a_row a_ctx a_cw a_rw a_cr a_rr a_scan plan_planes plan_passes plan_segments plan_style plan_firstOfSegment reaches_n reaches_f pb_style pb_isWritten pb_isRead) H1 := hP.sub [2, 0, 1] rfl
    have hD : va_D A (wd_plan_reaches_pb cI a_plan a_reaches a_gains a_pb a_fld a_row a_ctx a_cw a_rw a_cr a_rr a_scan plan_planes plan_passes plan_segments plan_style plan_firstOfSegment reaches_n reaches_f pb_style pb_isWritten pb_isRead) := hD.sub [2, 0, 1] (by decide) rfl
    generalize H1 = H at hP hS ⊢
    subst hg
    rw [← hQe]
    exact W.iret (v := r_4) hx hb hr (fun t ht hW => ⟨⟨r_4, (), rfl, rfl, by rw [ht]; exact hP, va_K.moved hW.alike hK, hD⟩, hS.F ht⟩) hS.2.2 dX10_pass_57
  rw [if_neg c_2_1] at hg
  have hpre := hpre.2 c_2_1
  by_cases c_2_2 : p2 = (2 : Int32)
  · rw [if_pos c_2_2] at hg
    have hpre := hpre.1 c_2_2
    refine lv_tableIn (tgt := 58) (off := 52) hx hb dX10_pass_6 (by rw [c_2_2]; decide) (by rw [c_2_2]; decide) (by rw [c_2_2]; rfl) (by decide) ?_
    clear hpre
    refine lv_aload_n hx hb dX10_pass_58 rfl (lv_at hl 0 rfl) ?_
    refine va_get (D := (dC, dI)) (ci := 9) (v := .ref a_plan) (C := RX10) (T := TX10) (N := 12) hx hb hts iw_X10_pass_X10 hown hK hP 2 rfl rfl 1 (by decide) (hts (.fieldLink RX10 19 "PlaneBlocks" "plan" "LPlaneBlocks$Plan;") (by decide +kernel)) (fun _ h9 => h9) rfl dX10_pass_59 ?_
    refine lv_iload_n hx hb dX10_pass_62 rfl (lv_at hl 1 rfl) ?_
    have hPc := hP.sub (ws' := (wd_plan a_plan a_reaches a_gains plan_planes plan_passes plan_segments plan_style plan_firstOfSegment)) [0] rfl
    have hDc := hD.sub (ws' := (wd_plan a_plan a_reaches a_gains plan_planes plan_passes plan_segments plan_style plan_firstOfSegment)) [0] (by decide) rfl
    have hFc := va_free (wc := (wd_plan a_plan a_reaches a_gains plan_planes plan_passes plan_segments plan_style plan_firstOfSegment)) hD hS hA [0] rfl
    refine va_calli (va_runV (As := [.int p1]) (rest := []) ⟨hx, hb, hml, hown, hts⟩ (c_X6_isRaw l dC dI cI cJ cZ a_plan a_reaches a_gains H.size plan_planes plan_passes plan_segments plan_style plan_firstOfSegment p1) (cwV 1 hts gX10_pass_X6_isRaw rfl rfl rfl (by decide +kernel) ⟨Nat.le_of_ble_eq_true rfl, Nat.le_of_ble_eq_true rfl⟩) ⟨fun a U g mk q => by obtain ⟨q0, q1, qP, qK, qD⟩ := q; exact ⟨q0, q1, qP, va_K.moved (u := U) (U := U.calling g mk a) (Vm.Alike.refl U.vm) qK, qD⟩, va_recv hK hPc (ci := 5) (q0 := 0) rfl rfl, fun U hU hW => ⟨rfl, by rw [hU], by rw [hU]; exact hPc, va_K.moved hW.alike hK, hDc.weaken (fun _ _ _ _ => trivial)⟩⟩ rfl rfl hl.1 rfl (lv_room (Nat.le_of_ble_eq_true rfl)) dX10_pass_63 ⟨Nat.le_of_ble_eq_true rfl, Nat.le_of_ble_eq_true rfl⟩) hS (fun q _ h => hFc q h) hFc (fun r u t H1 locs ht hvm hw hB hz1 hk1 hS => ?_)
    obtain ⟨hP1, hK1, hD1⟩ := hB
    rw [ht] at hP1
    obtain ⟨r_5, hr_5⟩ : ∃ z, F_X6_isRaw p1 plan_style = z := ⟨_, rfl⟩
    try rw [hr_5] at hw
    try rw [hr_5] at hP1
    try rw [hr_5] at hD1
    have hg : (if r_5 = (0 : Int32) then (0 : Int32) else (1 : Int32)) = g := by first | (rw [hr_5] at hg; exact hg) | (subst hr_5; exact hg)
    have hw := hw.symm
    subst hw
    obtain ⟨hP, hD⟩ := va_join (wr := [(a_reaches, .inl (cI, reaches_n, .inl reaches_f)), (a_pb, .inr (9, [.ref a_fld, .ref a_plan, .ref a_row, .ref a_ctx, .ref a_cw, .ref a_rw, .ref a_cr, .ref a_rr, .ref a_scan, .int pb_style, .int pb_isWritten, .int pb_isRead]))]) (w1 := (wd_plan a_plan a_reaches a_gains plan_planes plan_passes plan_segments plan_style plan_firstOfSegment)) hP hD [0] [1, 2] rfl rfl (by decide) (by decide) hk1 hFc hP1 hD1
    have hP : va_P (dC, dI) vwCl (wd_plan_reaches_pb cI a_plan a_reaches a_gains a_pb a_fld a_row a_ctx a_cw a_rw a_cr a_rr a_scan plan_planes plan_passes plan_segments plan_style plan_firstOfSegment reaches_n reaches_f pb_style pb_isWritten pb_isRead) H1 := hP.sub [2, 0, 1] rfl
    have hD : va_D A (wd_plan_reaches_pb cI a_plan a_reaches a_gains a_pb a_fld a_row a_ctx a_cw a_rw a_cr a_rr a_scan plan_planes plan_passes plan_segments plan_style plan_firstOfSegment reaches_n reaches_f pb_style pb_isWritten pb_isRead) := hD.sub [2, 0, 1] (by decide) rfl
    generalize H1 = H at hP hS ⊢
    refine lv_if_eq (tgt := 73) hx hb dX10_pass_66 (by decide) (fun c_6 => ?_) (fun c_6 => ?_)
    · rw [if_pos c_6] at hg
      refine lv_iconst (v := 0) hx hb dX10_pass_73 (by decide) ?_
      subst hg
      rw [← hQe]
      exact W.iret (v := (0 : Int32)) hx hb hr (fun t ht hW => ⟨⟨(0 : Int32), (), rfl, rfl, by rw [ht]; exact hP, va_K.moved hW.alike hK, hD⟩, hS.F ht⟩) hS.2.2 dX10_pass_74
    · rw [if_neg c_6] at hg
      refine lv_iconst (v := 1) hx hb dX10_pass_69 (by decide) ?_
      refine lv_goto (tgt := 74) hx hb dX10_pass_70 (by decide) ?_
      subst hg
      rw [← hQe]
      exact W.iret (v := (1 : Int32)) hx hb hr (fun t ht hW => ⟨⟨(1 : Int32), (), rfl, rfl, by rw [ht]; exact hP, va_K.moved hW.alike hK, hD⟩, hS.F ht⟩) hS.2.2 dX10_pass_74
  rw [if_neg c_2_2] at hg
  have hpre := hpre.2 c_2_2
  by_cases c_2_3 : p2 = (3 : Int32)
  · rw [if_pos c_2_3] at hg
    have hpre := hpre.1 c_2_3
    refine lv_tableIn (tgt := 75) (off := 69) hx hb dX10_pass_6 (by rw [c_2_3]; decide) (by rw [c_2_3]; decide) (by rw [c_2_3]; rfl) (by decide) ?_
    clear hpre
    refine lv_aload_n hx hb dX10_pass_75 rfl (lv_at hl 0 rfl) ?_
    refine va_get (D := (dC, dI)) (ci := 9) (v := .ref a_plan) (C := RX10) (T := TX10) (N := 12) hx hb hts iw_X10_pass_X10 hown hK hP 2 rfl rfl 1 (by decide) (hts (.fieldLink RX10 19 "PlaneBlocks" "plan" "LPlaneBlocks$Plan;") (by decide +kernel)) (fun _ h9 => h9) rfl dX10_pass_76 ?_
    refine lv_iload_n hx hb dX10_pass_79 rfl (lv_at hl 1 rfl) ?_
    have hPc := hP.sub (ws' := (wd_plan a_plan a_reaches a_gains plan_planes plan_passes plan_segments plan_style plan_firstOfSegment)) [0] rfl
    have hDc := hD.sub (ws' := (wd_plan a_plan a_reaches a_gains plan_planes plan_passes plan_segments plan_style plan_firstOfSegment)) [0] (by decide) rfl
    have hFc := va_free (wc := (wd_plan a_plan a_reaches a_gains plan_planes plan_passes plan_segments plan_style plan_firstOfSegment)) hD hS hA [0] rfl
    refine va_calli (va_runV (As := [.int p1]) (rest := []) ⟨hx, hb, hml, hown, hts⟩ (c_X6_endsSegment l dC dI cI cJ cZ a_plan a_reaches a_gains H.size plan_planes plan_passes plan_segments plan_style plan_firstOfSegment p1) (cwV 1 hts gX10_pass_X6_endsSegment rfl rfl rfl (by decide +kernel) ⟨Nat.le_of_ble_eq_true rfl, Nat.le_of_ble_eq_true rfl⟩) ⟨fun a U g mk q => by obtain ⟨q0, q1, qP, qK, qD⟩ := q; exact ⟨q0, q1, qP, va_K.moved (u := U) (U := U.calling g mk a) (Vm.Alike.refl U.vm) qK, qD⟩, va_recv hK hPc (ci := 5) (q0 := 0) rfl rfl, fun U hU hW => ⟨rfl, by rw [hU], by rw [hU]; exact hPc, va_K.moved hW.alike hK, hDc.weaken (fun _ _ _ _ => trivial)⟩⟩ rfl rfl hl.1 rfl (lv_room (Nat.le_of_ble_eq_true rfl)) dX10_pass_80 ⟨Nat.le_of_ble_eq_true rfl, Nat.le_of_ble_eq_true rfl⟩) hS (fun q _ h => hFc q h) hFc (fun r u t H1 locs ht hvm hw hB hz1 hk1 hS => ?_)
    obtain ⟨hP1, hK1, hD1⟩ := hB
    rw [ht] at hP1
    obtain ⟨r_7, hr_7⟩ : ∃ z, F_X6_endsSegment p1 plan_passes plan_style = z := ⟨_, rfl⟩
    try rw [hr_7] at hw
    try rw [hr_7] at hP1
    try rw [hr_7] at hD1
    have hg : (if r_7 = (0 : Int32) then (0 : Int32) else (1 : Int32)) = g := by first | (rw [hr_7] at hg; exact hg) | (subst hr_7; exact hg)
    have hw := hw.symm
    subst hw
    obtain ⟨hP, hD⟩ := va_join (wr := [(a_reaches, .inl (cI, reaches_n, .inl reaches_f)), (a_pb, .inr (9, [.ref a_fld, .ref a_plan, .ref a_row, .ref a_ctx, .ref a_cw, .ref a_rw, .ref a_cr, .ref a_rr, .ref a_scan, .int pb_style, .int pb_isWritten, .int pb_isRead]))]) (w1 := (wd_plan a_plan a_reaches a_gains plan_planes plan_passes plan_segments plan_style plan_firstOfSegment)) hP hD [0] [1, 2] rfl rfl (by decide) (by decide) hk1 hFc hP1 hD1
    have hP : va_P (dC, dI) vwCl (wd_plan_reaches_pb cI a_plan a_reaches a_gains a_pb a_fld a_row a_ctx a_cw a_rw a_cr a_rr a_scan plan_planes plan_passes plan_segments plan_style plan_firstOfSegment reaches_n reaches_f pb_style pb_isWritten pb_isRead) H1 := hP.sub [2, 0, 1] rfl
    have hD : va_D A (wd_plan_reaches_pb cI a_plan a_reaches a_gains a_pb a_fld a_row a_ctx a_cw a_rw a_cr a_rr a_scan plan_planes plan_passes plan_segments plan_style plan_firstOfSegment reaches_n reaches_f pb_style pb_isWritten pb_isRead) := hD.sub [2, 0, 1] (by decide) rfl
    generalize H1 = H at hP hS ⊢
    refine lv_if_eq (tgt := 90) hx hb dX10_pass_83 (by decide) (fun c_8 => ?_) (fun c_8 => ?_)
    · rw [if_pos c_8] at hg
      refine lv_iconst (v := 0) hx hb dX10_pass_90 (by decide) ?_
      subst hg
      rw [← hQe]
      exact W.iret (v := (0 : Int32)) hx hb hr (fun t ht hW => ⟨⟨(0 : Int32), (), rfl, rfl, by rw [ht]; exact hP, va_K.moved hW.alike hK, hD⟩, hS.F ht⟩) hS.2.2 dX10_pass_91
    · rw [if_neg c_8] at hg
      refine lv_iconst (v := 1) hx hb dX10_pass_86 (by decide) ?_
      refine lv_goto (tgt := 91) hx hb dX10_pass_87 (by decide) ?_
      subst hg
      rw [← hQe]
      exact W.iret (v := (1 : Int32)) hx hb hr (fun t ht hW => ⟨⟨(1 : Int32), (), rfl, rfl, by rw [ht]; exact hP, va_K.moved hW.alike hK, hD⟩, hS.F ht⟩) hS.2.2 dX10_pass_91
  rw [if_neg c_2_3] at hg
  have hpre := hpre.2 c_2_3
  by_cases c_2_4 : p2 = (4 : Int32)
  · rw [if_pos c_2_4] at hg
    have hpre := hpre.1 c_2_4
    refine lv_tableIn (tgt := 92) (off := 86) hx hb dX10_pass_6 (by rw [c_2_4]; decide) (by rw [c_2_4]; decide) (by rw [c_2_4]; rfl) (by decide) ?_
    refine lv_aload_n hx hb dX10_pass_92 rfl (lv_at hl 0 rfl) ?_
    refine va_get (D := (dC, dI)) (ci := 9) (v := .ref a_plan) (C := RX10) (T := TX10) (N := 12) hx hb hts iw_X10_pass_X10 hown hK hP 2 rfl rfl 1 (by decide) (hts (.fieldLink RX10 19 "PlaneBlocks" "plan" "LPlaneBlocks$Plan;") (by decide +kernel)) (fun _ h9 => h9) rfl dX10_pass_93 ?_
    refine va_get (D := (dC, dI)) (ci := 5) (v := .ref a_reaches) (C := RX6) (T := TX6) (N := 7) hx hb hts iw_X10_pass_X6 hown hK hP 0 rfl rfl 0 (by decide) (hts (.fieldLink RX10 187 "PlaneBlocks$Plan" "reaches" "[I") (by decide +kernel)) (fun _ h9 => h9) rfl dX10_pass_96 ?_
    refine lv_iload_n hx hb dX10_pass_99 rfl (lv_at hl 1 rfl) ?_
    have h_9 := hpre
    refine va_iald hx hb hK hP 1 0 rfl rfl h_9 dX10_pass_100 ?_
    subst hg
    rw [← hQe]
    exact W.iret (v := (reaches_f p1.toNatClampNeg)) hx hb hr (fun t ht hW => ⟨⟨(reaches_f p1.toNatClampNeg), (), rfl, rfl, by rw [ht]; exact hP, va_K.moved hW.alike hK, hD⟩, hS.F ht⟩) hS.2.2 dX10_pass_101
  rw [if_neg c_2_4] at hg
  have hpre := hpre.2 c_2_4
  have hsw : p2.toInt < 0 ∨ 4 < p2.toInt := by
    have f0 := ne_toInt (c := 0) rfl c_2_0
    have f1 := ne_toInt (c := 1) rfl c_2_1
    have f2 := ne_toInt (c := 2) rfl c_2_2
    have f3 := ne_toInt (c := 3) rfl c_2_3
    have f4 := ne_toInt (c := 4) rfl c_2_4
    omega
  refine lv_tableOut (tgt := 102) hx hb dX10_pass_6 hsw (by decide) ?_
  exact absurd hpre id
abbrev wd_plan_gains_pb (cJ : ClassId) (a_plan : Nat) (a_reaches : Nat) (a_gains : Nat) (a_pb : Nat) (a_fld : Nat) (a_row : Nat) (a_ctx : Nat) (a_cw : Nat) (a_rw : Nat) (a_cr : Nat) (a_rr : Nat) (a_scan : Nat) (plan_planes : Int32) (plan_passes : Int32) (plan_segments : Int32) (plan_style : Int32) (plan_firstOfSegment : Int32) (gains_n : Nat) (gains_f : Nat → Int64) (pb_style : Int32) (pb_isWritten : Int32) (pb_isRead : Int32) : va_W := [(a_plan, .inr (5, [.ref a_reaches, .ref a_gains, .int plan_planes, .int plan_passes, .int plan_segments, .int plan_style, .int plan_firstOfSegment])), (a_gains, .inl (cJ, gains_n, .inr (.inl gains_f))), (a_pb, .inr (9, [.ref a_fld, .ref a_plan, .ref a_row, .ref a_ctx, .ref a_cw, .ref a_rw, .ref a_cr, .ref a_rr, .ref a_scan, .int pb_style, .int pb_isWritten, .int pb_isRead]))]
abbrev rm_X10_gain : Room := { frames := 2, cells := 0, slots := 0, locals := 41 }
abbrev Q_X10_gain (dC : Nat → ClassId) (dI : Nat → Nat → Nat) (cI cJ cZ : ClassId) (a_plan : Nat) (a_reaches : Nat) (a_gains : Nat) (a_pb : Nat) (a_fld : Nat) (a_row : Nat) (a_ctx : Nat) (a_cw : Nat) (a_rw : Nat) (a_cr : Nat) (a_rr : Nat) (a_scan : Nat) (A : Nat → Prop) (plan_planes : Int32) (plan_passes : Int32) (plan_segments : Int32) (plan_style : Int32) (plan_firstOfSegment : Int32) (gains_n : Nat) (gains_f : Nat → Int64) (pb_style : Int32) (pb_isWritten : Int32) (pb_isRead : Int32) (g : Int64) : Array Value → State → Outcome → State → Prop := va_Ql (fun (r : Int64) (_ : Unit) => r = g) (fun u t => va_P (dC, dI) vwCl (wd_plan_gains_pb cJ a_plan a_reaches a_gains a_pb a_fld a_row a_ctx a_cw a_rw a_cr a_rr a_scan plan_planes plan_passes plan_segments plan_style plan_firstOfSegment gains_n gains_f pb_style pb_isWritten pb_isRead) t.heap ∧ va_K (dC, dI) vwCl [(cI, .int), (cJ, .long), (cZ, .boolean)] t ∧ va_D A (wd_plan_gains_pb cJ a_plan a_reaches a_gains a_pb a_fld a_row a_ctx a_cw a_rw a_cr a_rr a_scan plan_planes plan_passes plan_segments plan_style plan_firstOfSegment gains_n gains_f pb_style pb_isWritten pb_isRead)) A
theorem iw_X10_gain_X10 : ∀ w ∈ u_ws RX10 TX10 12, w ∈ wsX10_gain := by decide +kernel
theorem iw_X10_gain_X6 : ∀ w ∈ u_ws RX6 TX6 7, w ∈ wsX10_gain := by decide +kernel
set_option maxHeartbeats 4000000 in
set_option maxRecDepth 100000 in
theorem c_X10_gain (l : Launch) (dC : Nat → ClassId) (dI : Nat → Nat → Nat) (cI cJ cZ : ClassId) (a_plan : Nat) (a_reaches : Nat) (a_gains : Nat) (a_pb : Nat) (a_fld : Nat) (a_row : Nat) (a_ctx : Nat) (a_cw : Nat) (a_rw : Nat) (a_cr : Nat) (a_rr : Nat) (a_scan : Nat) (sz : Nat) (plan_planes : Int32) (plan_passes : Int32) (plan_segments : Int32) (plan_style : Int32) (plan_firstOfSegment : Int32) (gains_n : Nat) (gains_f : Nat → Int64) (pb_style : Int32) (pb_isWritten : Int32) (pb_isRead : Int32) (p1 : Int32) (hpre : P_X10_gain p1 plan_passes gains_n pb_isWritten) : Met l yX10_gain wsX10_gain rm_X10_gain (va_Pc [.ref a_pb, .int p1] (fun U => U.heap.size = sz ∧ va_P (dC, dI) vwCl (wd_plan_gains_pb cJ a_plan a_reaches a_gains a_pb a_fld a_row a_ctx a_cw a_rw a_cr a_rr a_scan plan_planes plan_passes plan_segments plan_style plan_firstOfSegment gains_n gains_f pb_style pb_isWritten pb_isRead) U.heap ∧ va_K (dC, dI) vwCl [(cI, .int), (cJ, .long), (cZ, .boolean)] U ∧ va_D (fun _ => True) (wd_plan_gains_pb cJ a_plan a_reaches a_gains a_pb a_fld a_row a_ctx a_cw a_rw a_cr a_rr a_scan plan_planes plan_passes plan_segments plan_style plan_firstOfSegment gains_n gains_f pb_style pb_isWritten pb_isRead))) (Q_X10_gain dC dI cI cJ cZ a_plan a_reaches a_gains a_pb a_fld a_row a_ctx a_cw a_rw a_cr a_rr a_scan (va_A (wd_plan_gains_pb cJ a_plan a_reaches a_gains a_pb a_fld a_row a_ctx a_cw a_rw a_cr a_rr a_scan plan_planes plan_passes plan_segments plan_style plan_firstOfSegment gains_n gains_f pb_style pb_isWritten pb_isRead) sz) plan_planes plan_passes plan_segments plan_style plan_firstOfSegment gains_n gains_f pb_style pb_isWritten pb_isRead (F_X10_gain p1 gains_f)) 0 0 (va_A (wd_plan_gains_pb cJ a_plan a_reaches a_gains a_pb a_fld a_row a_ctx a_cw a_rw a_cr a_rr a_scan plan_planes plan_passes plan_segments plan_style plan_firstOfSegment gains_n gains_f pb_style pb_isWritten pb_isRead) sz) := by
  refine Met.ofW (cc := cX10_gain) (maxL := 2) (ret := (some .long)) (by decide) rfl ?_
  intro p e s m args below meth c s₁ B hml hv
  obtain ⟨rfl, hsz, hP, hK, hD0⟩ := hv
  have hx := B.exec
  have hb := B.bytes
  have hr := B.returns
  have hts := atoms_spec (ws := wsX10_gain) B.pre
  have hown : s.vm.findClass RX10 = some m.cls := findClass_of_methodNamed B.named
  have hlocks := B.notSynchronized
  subst hsz
  have hD := hD0.self (sz := s.heap.size)
  generalize hAe : va_A (wd_plan_gains_pb cJ a_plan a_reaches a_gains a_pb a_fld a_row a_ctx a_cw a_rw a_cr a_rr a_scan plan_planes plan_passes plan_segments plan_style plan_firstOfSegment gains_n gains_f pb_style pb_isWritten pb_isRead) s.heap.size = A at hD ⊢
  have hA : ∀ q : Nat, s.heap.size ≤ q → A q := fun q h => by rw [← hAe]; exact Or.inr h
  have hS : va_S A s.heap s.heap [] := va_S.rf
  obtain ⟨H, hH⟩ : ∃ z, z = s.heap := ⟨_, rfl⟩
  have hP : va_P (dC, dI) vwCl (wd_plan_gains_pb cJ a_plan a_reaches a_gains a_pb a_fld a_row a_ctx a_cw a_rw a_cr a_rr a_scan plan_planes plan_passes plan_segments plan_style plan_firstOfSegment gains_n gains_f pb_style pb_isWritten pb_isRead) H := by rw [hH]; exact hP
  have hS : va_S A s.heap H [] := by rw [hH]; exact va_S.rf
  obtain ⟨g, hg⟩ : ∃ z, F_X10_gain p1 gains_f = z := ⟨_, rfl⟩
  rw [hg]
  generalize hQe : MQ below (Q_X10_gain dC dI cI cJ cZ a_plan a_reaches a_gains a_pb a_fld a_row a_ctx a_cw a_rw a_cr a_rr a_scan A plan_planes plan_passes plan_segments plan_style plan_firstOfSegment gains_n gains_f pb_style pb_isWritten pb_isRead g) _ s 0 0 A = Q
  rw [← hH]
  clear hH
  have hl := lv_entry ([.ref a_pb, .int p1]) (n := 2) (Nat.le_of_ble_eq_true rfl)
  rw [lg_entry_eq]
  generalize (lg_sl ([.ref a_pb, .int p1]) ++ List.replicate (2 - (lg_sl ([.ref a_pb, .int p1])).length) Slot.unset).toArray = ls at hl ⊢
  have hl : lv_has ls 2 [(0, .ref a_pb), (1, .int p1)] := hl
  unfold F_X10_gain at hg
  unfold P_X10_gain at hpre
  refine lv_aload_n hx hb dX10_gain_0 rfl (lv_at hl 0 rfl) ?_
  refine lv_iload_n hx hb dX10_gain_1 rfl (lv_at hl 1 rfl) ?_
  have hPc := hP.sub (ws' := (wd_plan_pb a_plan a_reaches a_gains a_pb a_fld a_row a_ctx a_cw a_rw a_cr a_rr a_scan plan_planes plan_passes plan_segments plan_style plan_firstOfSegment pb_style pb_isWritten pb_isRead)) [0, 2] rfl
  have hDc := hD.sub (ws' := (wd_plan_pb a_plan a_reaches a_gains a_pb a_fld a_row a_ctx a_cw a_rw a_cr a_rr a_scan plan_planes plan_passes plan_segments plan_style plan_firstOfSegment pb_style pb_isWritten pb_isRead)) [0, 2] (by decide) rfl
  have hFc := va_free (wc := (wd_plan_pb a_plan a_reaches a_gains a_pb a_fld a_row a_ctx a_cw a_rw a_cr a_rr a_scan plan_planes plan_passes plan_segments plan_style plan_firstOfSegment pb_style pb_isWritten pb_isRead)) hD hS hA [0, 2] rfl
  refine va_callv (va_runV (As := [.int p1]) (rest := []) ⟨hx, hb, hml, hown, hts⟩ (c_X10_needPass l dC dI cI cJ cZ a_plan a_reaches a_gains a_pb a_fld a_row a_ctx a_cw a_rw a_cr a_rr a_scan H.size plan_planes plan_passes plan_segments plan_style plan_firstOfSegment pb_style pb_isWritten pb_isRead p1 hpre.1) (cwV 1 hts gX10_gain_X10_needPass rfl rfl rfl (by decide +kernel) ⟨Nat.le_of_ble_eq_true rfl, Nat.le_of_ble_eq_true rfl⟩) ⟨fun a U g mk q => by obtain ⟨q0, q1, qP, qK, qD⟩ := q; exact ⟨q0, q1, qP, va_K.moved (u := U) (U := U.calling g mk a) (Vm.Alike.refl U.vm) qK, qD⟩, va_recv hK hPc (ci := 9) (q0 := 1) rfl rfl, fun U hU hW => ⟨rfl, by rw [hU], by rw [hU]; exact hPc, va_K.moved hW.alike hK, hDc.weaken (fun _ _ _ _ => trivial)⟩⟩ rfl rfl hl.1 rfl (lv_room (Nat.le_of_ble_eq_true rfl)) dX10_gain_2 ⟨Nat.le_of_ble_eq_true rfl, Nat.le_of_ble_eq_true rfl⟩) hS (fun q _ h => hFc q h) hFc (fun u t H1 locs ht hvm hw hB hz1 hk1 hS => ?_)
  obtain ⟨hP1, hK1, hD1⟩ := hB
  rw [ht] at hP1
  obtain ⟨hP, hD⟩ := va_join (wr := [(a_gains, .inl (cJ, gains_n, .inr (.inl gains_f)))]) (w1 := (wd_plan_pb a_plan a_reaches a_gains a_pb a_fld a_row a_ctx a_cw a_rw a_cr a_rr a_scan plan_planes plan_passes plan_segments plan_style plan_firstOfSegment pb_style pb_isWritten pb_isRead)) hP hD [0, 2] [1] rfl rfl (by decide) (by decide) hk1 hFc hP1 hD1
  have hP : va_P (dC, dI) vwCl (wd_plan_gains_pb cJ a_plan a_reaches a_gains a_pb a_fld a_row a_ctx a_cw a_rw a_cr a_rr a_scan plan_planes plan_passes plan_segments plan_style plan_firstOfSegment gains_n gains_f pb_style pb_isWritten pb_isRead) H1 := hP.sub [1, 0, 2] rfl
  have hD : va_D A (wd_plan_gains_pb cJ a_plan a_reaches a_gains a_pb a_fld a_row a_ctx a_cw a_rw a_cr a_rr a_scan plan_planes plan_passes plan_segments plan_style plan_firstOfSegment gains_n gains_f pb_style pb_isWritten pb_isRead) := hD.sub [1, 0, 2] (by decide) rfl
  generalize H1 = H at hP hS ⊢
  have hpre := hpre.2
  refine lv_aload_n hx hb dX10_gain_5 rfl (lv_at hl 0 rfl) ?_
  refine va_get (D := (dC, dI)) (ci := 9) (v := .ref a_plan) (C := RX10) (T := TX10) (N := 12) hx hb hts iw_X10_gain_X10 hown hK hP 2 rfl rfl 1 (by decide) (hts (.fieldLink RX10 19 "PlaneBlocks" "plan" "LPlaneBlocks$Plan;") (by decide +kernel)) (fun _ h9 => h9) rfl dX10_gain_6 ?_
  refine va_get (D := (dC, dI)) (ci := 5) (v := .ref a_gains) (C := RX6) (T := TX6) (N := 7) hx hb hts iw_X10_gain_X6 hown hK hP 0 rfl rfl 1 (by decide) (hts (.fieldLink RX10 179 "PlaneBlocks$Plan" "gains" "[J") (by decide +kernel)) (fun _ h9 => h9) rfl dX10_gain_9 ?_
  refine lv_iload_n hx hb dX10_gain_12 rfl (lv_at hl 1 rfl) ?_
  have h_2 := hpre
  refine va_lald hx hb hK hP 1 1 rfl rfl h_2 dX10_gain_13 ?_
  subst hg
  rw [← hQe]
  exact W.lret (v := (gains_f p1.toNatClampNeg)) hx hb hr (fun t ht hW => ⟨⟨(gains_f p1.toNatClampNeg), (), rfl, rfl, by rw [ht]; exact hP, va_K.moved hW.alike hK, hD⟩, hS.F ht⟩) hS.2.2 dX10_gain_14
abbrev wd_row_bytes_pb (cI : ClassId) (a_row : Nat) (a_bytes : Nat) (a_pb : Nat) (a_fld : Nat) (a_plan : Nat) (a_ctx : Nat) (a_cw : Nat) (a_rw : Nat) (a_cr : Nat) (a_rr : Nat) (a_scan : Nat) (row_count : Int32) (row_start : Int32) (bytes_n : Nat) (bytes_f : Nat → Int32) (pb_style : Int32) (pb_isWritten : Int32) (pb_isRead : Int32) : va_W := [(a_row, .inr (0, [.ref a_bytes, .int row_count, .int row_start])), (a_bytes, .inl (cI, bytes_n, .inl bytes_f)), (a_pb, .inr (9, [.ref a_fld, .ref a_plan, .ref a_row, .ref a_ctx, .ref a_cw, .ref a_rw, .ref a_cr, .ref a_rr, .ref a_scan, .int pb_style, .int pb_isWritten, .int pb_isRead]))]
abbrev rm_X10_at : Room := { frames := 2, cells := 0, slots := 0, locals := 41 }
abbrev Q_X10_at (dC : Nat → ClassId) (dI : Nat → Nat → Nat) (cI cJ cZ : ClassId) (a_row : Nat) (a_bytes : Nat) (a_pb : Nat) (a_fld : Nat) (a_plan : Nat) (a_ctx : Nat) (a_cw : Nat) (a_rw : Nat) (a_cr : Nat) (a_rr : Nat) (a_scan : Nat) (A : Nat → Prop) (row_count : Int32) (row_start : Int32) (bytes_n : Nat) (bytes_f : Nat → Int32) (pb_style : Int32) (pb_isWritten : Int32) (pb_isRead : Int32) (g : Int32) : Array Value → State → Outcome → State → Prop := va_Qi (fun (r : Int32) (_ : Unit) => r = g) (fun u t => va_P (dC, dI) vwCl (wd_row_bytes_pb cI a_row a_bytes a_pb a_fld a_plan a_ctx a_cw a_rw a_cr a_rr a_scan row_count row_start bytes_n bytes_f pb_style pb_isWritten pb_isRead) t.heap ∧ va_K (dC, dI) vwCl [(cI, .int), (cJ, .long), (cZ, .boolean)] t ∧ va_D A (wd_row_bytes_pb cI a_row a_bytes a_pb a_fld a_plan a_ctx a_cw a_rw a_cr a_rr a_scan row_count row_start bytes_n bytes_f pb_style pb_isWritten pb_isRead)) A
theorem iw_X10_at_X1 : ∀ w ∈ u_ws RX1 TX1 3, w ∈ wsX10_at := by decide +kernel
theorem iw_X10_at_X10 : ∀ w ∈ u_ws RX10 TX10 12, w ∈ wsX10_at := by decide +kernel
set_option maxHeartbeats 4000000 in
set_option maxRecDepth 100000 in
theorem c_X10_at (l : Launch) (dC : Nat → ClassId) (dI : Nat → Nat → Nat) (cI cJ cZ : ClassId) (a_row : Nat) (a_bytes : Nat) (a_pb : Nat) (a_fld : Nat) (a_plan : Nat) (a_ctx : Nat) (a_cw : Nat) (a_rw : Nat) (a_cr : Nat) (a_rr : Nat) (a_scan : Nat) (sz : Nat) (row_count : Int32) (row_start : Int32) (bytes_n : Nat) (bytes_f : Nat → Int32) (pb_style : Int32) (pb_isWritten : Int32) (pb_isRead : Int32) (p1 : Int32) (hpre : P_X10_at p1 row_count bytes_n pb_isWritten) : Met l yX10_at wsX10_at rm_X10_at (va_Pc [.ref a_pb, .int p1] (fun U => U.heap.size = sz ∧ va_P (dC, dI) vwCl (wd_row_bytes_pb cI a_row a_bytes a_pb a_fld a_plan a_ctx a_cw a_rw a_cr a_rr a_scan row_count row_start bytes_n bytes_f pb_style pb_isWritten pb_isRead) U.heap ∧ va_K (dC, dI) vwCl [(cI, .int), (cJ, .long), (cZ, .boolean)] U ∧ va_D (fun _ => True) (wd_row_bytes_pb cI a_row a_bytes a_pb a_fld a_plan a_ctx a_cw a_rw a_cr a_rr a_scan row_count row_start bytes_n bytes_f pb_style pb_isWritten pb_isRead))) (Q_X10_at dC dI cI cJ cZ a_row a_bytes a_pb a_fld a_plan a_ctx a_cw a_rw a_cr a_rr a_scan (va_A (wd_row_bytes_pb cI a_row a_bytes a_pb a_fld a_plan a_ctx a_cw a_rw a_cr a_rr a_scan row_count row_start bytes_n bytes_f pb_style pb_isWritten pb_isRead) sz) row_count row_start bytes_n bytes_f pb_style pb_isWritten pb_isRead (F_X10_at p1 bytes_f)) 0 0 (va_A (wd_row_bytes_pb cI a_row a_bytes a_pb a_fld a_plan a_ctx a_cw a_rw a_cr a_rr a_scan row_count row_start bytes_n bytes_f pb_style pb_isWritten pb_isRead) sz) := by
  refine Met.ofW (cc := cX10_at) (maxL := 2) (ret := (some .int)) (by decide) rfl ?_
  intro p e s m args below meth c s₁ B hml hv
  obtain ⟨rfl, hsz, hP, hK, hD0⟩ := hv
  have hx := B.exec
  have hb := B.bytes
  have hr := B.returns
  have hts := atoms_spec (ws := wsX10_at) B.pre
  have hown : s.vm.findClass RX10 = some m.cls := findClass_of_methodNamed B.named
  have hlocks := B.notSynchronized
  subst hsz
  have hD := hD0.self (sz := s.heap.size)
  generalize hAe : va_A (wd_row_bytes_pb cI a_row a_bytes a_pb a_fld a_plan a_ctx a_cw a_rw a_cr a_rr a_scan row_count row_start bytes_n bytes_f pb_style pb_isWritten pb_isRead) s.heap.size = A at hD ⊢
  have hA : ∀ q : Nat, s.heap.size ≤ q → A q := fun q h => by rw [← hAe]; exact Or.inr h
  have hS : va_S A s.heap s.heap [] := va_S.rf
  obtain ⟨H, hH⟩ : ∃ z, z = s.heap := ⟨_, rfl⟩
  have hP : va_P (dC, dI) vwCl (wd_row_bytes_pb cI a_row a_bytes a_pb a_fld a_plan a_ctx a_cw a_rw a_cr a_rr a_scan row_count row_start bytes_n bytes_f pb_style pb_isWritten pb_isRead) H := by rw [hH]; exact hP
  have hS : va_S A s.heap H [] := by rw [hH]; exact va_S.rf
  obtain ⟨g, hg⟩ : ∃ z, F_X10_at p1 bytes_f = z := ⟨_, rfl⟩
  rw [hg]
  generalize hQe : MQ below (Q_X10_at dC dI cI cJ cZ a_row a_bytes a_pb a_fld a_plan a_ctx a_cw a_rw a_cr a_rr a_scan A row_count row_start bytes_n bytes_f pb_style pb_isWritten pb_isRead g) _ s 0 0 A = Q
  rw [← hH]
  clear hH
  have hl := lv_entry ([.ref a_pb, .int p1]) (n := 2) (Nat.le_of_ble_eq_true rfl)
  rw [lg_entry_eq]
  generalize (lg_sl ([.ref a_pb, .int p1]) ++ List.replicate (2 - (lg_sl ([.ref a_pb, .int p1])).length) Slot.unset).toArray = ls at hl ⊢
  have hl : lv_has ls 2 [(0, .ref a_pb), (1, .int p1)] := hl
  unfold F_X10_at at hg
  unfold P_X10_at at hpre
  refine lv_aload_n hx hb dX10_at_0 rfl (lv_at hl 0 rfl) ?_
  refine lv_iload_n hx hb dX10_at_1 rfl (lv_at hl 1 rfl) ?_
  have hPc := hP.sub (ws' := (wd_row_pb a_row a_bytes a_pb a_fld a_plan a_ctx a_cw a_rw a_cr a_rr a_scan row_count row_start pb_style pb_isWritten pb_isRead)) [0, 2] rfl
  have hDc := hD.sub (ws' := (wd_row_pb a_row a_bytes a_pb a_fld a_plan a_ctx a_cw a_rw a_cr a_rr a_scan row_count row_start pb_style pb_isWritten pb_isRead)) [0, 2] (by decide) rfl
  have hFc := va_free (wc := (wd_row_pb a_row a_bytes a_pb a_fld a_plan a_ctx a_cw a_rw a_cr a_rr a_scan row_count row_start pb_style pb_isWritten pb_isRead)) hD hS hA [0, 2] rfl
  refine va_callv (va_runV (As := [.int p1]) (rest := []) ⟨hx, hb, hml, hown, hts⟩ (c_X10_needByte l dC dI cI cJ cZ a_row a_bytes a_pb a_fld a_plan a_ctx a_cw a_rw a_cr a_rr a_scan H.size row_count row_start pb_style pb_isWritten pb_isRead p1 hpre.1) (cwV 1 hts gX10_at_X10_needByte rfl rfl rfl (by decide +kernel) ⟨Nat.le_of_ble_eq_true rfl, Nat.le_of_ble_eq_true rfl⟩) ⟨fun a U g mk q => by obtain ⟨q0, q1, qP, qK, qD⟩ := q; exact ⟨q0, q1, qP, va_K.moved (u := U) (U := U.calling g mk a) (Vm.Alike.refl U.vm) qK, qD⟩, va_recv hK hPc (ci := 9) (q0 := 1) rfl rfl, fun U hU hW => ⟨rfl, by rw [hU], by rw [hU]; exact hPc, va_K.moved hW.alike hK, hDc.weaken (fun _ _ _ _ => trivial)⟩⟩ rfl rfl hl.1 rfl (lv_room (Nat.le_of_ble_eq_true rfl)) dX10_at_2 ⟨Nat.le_of_ble_eq_true rfl, Nat.le_of_ble_eq_true rfl⟩) hS (fun q _ h => hFc q h) hFc (fun u t H1 locs ht hvm hw hB hz1 hk1 hS => ?_)
  obtain ⟨hP1, hK1, hD1⟩ := hB
  rw [ht] at hP1
  obtain ⟨hP, hD⟩ := va_join (wr := [(a_bytes, .inl (cI, bytes_n, .inl bytes_f))]) (w1 := (wd_row_pb a_row a_bytes a_pb a_fld a_plan a_ctx a_cw a_rw a_cr a_rr a_scan row_count row_start pb_style pb_isWritten pb_isRead)) hP hD [0, 2] [1] rfl rfl (by decide) (by decide) hk1 hFc hP1 hD1
  have hP : va_P (dC, dI) vwCl (wd_row_bytes_pb cI a_row a_bytes a_pb a_fld a_plan a_ctx a_cw a_rw a_cr a_rr a_scan row_count row_start bytes_n bytes_f pb_style pb_isWritten pb_isRead) H1 := hP.sub [1, 0, 2] rfl
  have hD : va_D A (wd_row_bytes_pb cI a_row a_bytes a_pb a_fld a_plan a_ctx a_cw a_rw a_cr a_rr a_scan row_count row_start bytes_n bytes_f pb_style pb_isWritten pb_isRead) := hD.sub [1, 0, 2] (by decide) rfl
  generalize H1 = H at hP hS ⊢
  have hpre := hpre.2
  refine lv_aload_n hx hb dX10_at_5 rfl (lv_at hl 0 rfl) ?_
  refine va_get (D := (dC, dI)) (ci := 9) (v := .ref a_row) (C := RX10) (T := TX10) (N := 12) hx hb hts iw_X10_at_X10 hown hK hP 2 rfl rfl 2 (by decide) (hts (.fieldLink RX10 26 "PlaneBlocks" "row" "LPlaneBlocks$ByteRow;") (by decide +kernel)) (fun _ h9 => h9) rfl dX10_at_6 ?_
  refine va_get (D := (dC, dI)) (ci := 0) (v := .ref a_bytes) (C := RX1) (T := TX1) (N := 3) hx hb hts iw_X10_at_X1 hown hK hP 0 rfl rfl 0 (by decide) (hts (.fieldLink RX10 233 "PlaneBlocks$ByteRow" "bytes" "[I") (by decide +kernel)) (fun _ h9 => h9) rfl dX10_at_9 ?_
  refine lv_iload_n hx hb dX10_at_12 rfl (lv_at hl 1 rfl) ?_
  have h_2 := hpre
  refine va_iald hx hb hK hP 1 0 rfl rfl h_2 dX10_at_13 ?_
  subst hg
  rw [← hQe]
  exact W.iret (v := (bytes_f p1.toNatClampNeg)) hx hb hr (fun t ht hW => ⟨⟨(bytes_f p1.toNatClampNeg), (), rfl, rfl, by rw [ht]; exact hP, va_K.moved hW.alike hK, hD⟩, hS.F ht⟩) hS.2.2 dX10_at_14
abbrev rm_X10_change : Room := { frames := 2, cells := 0, slots := 0, locals := 41 }
abbrev Q_X10_change (dC : Nat → ClassId) (dI : Nat → Nat → Nat) (cI cJ cZ : ClassId) (a_row : Nat) (a_bytes : Nat) (a_pb : Nat) (a_fld : Nat) (a_plan : Nat) (a_ctx : Nat) (a_cw : Nat) (a_rw : Nat) (a_cr : Nat) (a_rr : Nat) (a_scan : Nat) (A : Nat → Prop) (row_count : Int32) (row_start : Int32) (bytes_n : Nat) (bytes_f : Nat → Int32) (pb_style : Int32) (pb_isWritten : Int32) (pb_isRead : Int32) (g : (Int32 × (Nat → Int32) × Int32)) : Array Value → State → Outcome → State → Prop := va_Qi (fun (r : Int32) (_ : Unit) => r = g.1) (fun u t => va_P (dC, dI) vwCl (wd_row_bytes_pb cI a_row a_bytes a_pb a_fld a_plan a_ctx a_cw a_rw a_cr a_rr a_scan row_count row_start bytes_n g.2.1 pb_style pb_isWritten g.2.2) t.heap ∧ va_K (dC, dI) vwCl [(cI, .int), (cJ, .long), (cZ, .boolean)] t ∧ va_D A (wd_row_bytes_pb cI a_row a_bytes a_pb a_fld a_plan a_ctx a_cw a_rw a_cr a_rr a_scan row_count row_start bytes_n g.2.1 pb_style pb_isWritten g.2.2)) A
theorem iw_X10_change_X1 : ∀ w ∈ u_ws RX1 TX1 3, w ∈ wsX10_change := by decide +kernel
theorem iw_X10_change_X10 : ∀ w ∈ u_ws RX10 TX10 12, w ∈ wsX10_change := by decide +kernel
set_option maxHeartbeats 4000000 in
set_option maxRecDepth 100000 in
theorem c_X10_change (l : Launch) (dC : Nat → ClassId) (dI : Nat → Nat → Nat) (cI cJ cZ : ClassId) (a_row : Nat) (a_bytes : Nat) (a_pb : Nat) (a_fld : Nat) (a_plan : Nat) (a_ctx : Nat) (a_cw : Nat) (a_rw : Nat) (a_cr : Nat) (a_rr : Nat) (a_scan : Nat) (sz : Nat) (row_count : Int32) (row_start : Int32) (bytes_n : Nat) (bytes_f : Nat → Int32) (pb_style : Int32) (pb_isWritten : Int32) (pb_isRead : Int32) (p1 : Int32) (p2 : Int32) (hpre : P_X10_change p1 row_count bytes_n pb_isWritten) : Met l yX10_change wsX10_change rm_X10_change (va_Pc [.ref a_pb, .int p1, .int p2] (fun U => U.heap.size = sz ∧ va_P (dC, dI) vwCl (wd_row_bytes_pb cI a_row a_bytes a_pb a_fld a_plan a_ctx a_cw a_rw a_cr a_rr a_scan row_count row_start bytes_n bytes_f pb_style pb_isWritten pb_isRead) U.heap ∧ va_K (dC, dI) vwCl [(cI, .int), (cJ, .long), (cZ, .boolean)] U ∧ va_D (fun _ => True) (wd_row_bytes_pb cI a_row a_bytes a_pb a_fld a_plan a_ctx a_cw a_rw a_cr a_rr a_scan row_count row_start bytes_n bytes_f pb_style pb_isWritten pb_isRead))) (Q_X10_change dC dI cI cJ cZ a_row a_bytes a_pb a_fld a_plan a_ctx a_cw a_rw a_cr a_rr a_scan (va_A (wd_row_bytes_pb cI a_row a_bytes a_pb a_fld a_plan a_ctx a_cw a_rw a_cr a_rr a_scan row_count row_start bytes_n bytes_f pb_style pb_isWritten pb_isRead) sz) row_count row_start bytes_n bytes_f pb_style pb_isWritten pb_isRead (F_X10_change p1 p2 bytes_f)) 0 0 (va_A (wd_row_bytes_pb cI a_row a_bytes a_pb a_fld a_plan a_ctx a_cw a_rw a_cr a_rr a_scan row_count row_start bytes_n bytes_f pb_style pb_isWritten pb_isRead) sz) := by
  refine Met.ofW (cc := cX10_change) (maxL := 4) (ret := (some .int)) (by decide) rfl ?_
  intro p e s m args below meth c s₁ B hml hv
  obtain ⟨rfl, hsz, hP, hK, hD0⟩ := hv
  have hx := B.exec
  have hb := B.bytes
  have hr := B.returns
  have hts := atoms_spec (ws := wsX10_change) B.pre
  have hown : s.vm.findClass RX10 = some m.cls := findClass_of_methodNamed B.named
  have hlocks := B.notSynchronized
  subst hsz
  have hD := hD0.self (sz := s.heap.size)
  generalize hAe : va_A (wd_row_bytes_pb cI a_row a_bytes a_pb a_fld a_plan a_ctx a_cw a_rw a_cr a_rr a_scan row_count row_start bytes_n bytes_f pb_style pb_isWritten pb_isRead) s.heap.size = A at hD ⊢
  have hA : ∀ q : Nat, s.heap.size ≤ q → A q := fun q h => by rw [← hAe]; exact Or.inr h
  have hS : va_S A s.heap s.heap [] := va_S.rf
  obtain ⟨H, hH⟩ : ∃ z, z = s.heap := ⟨_, rfl⟩
  have hP : va_P (dC, dI) vwCl (wd_row_bytes_pb cI a_row a_bytes a_pb a_fld a_plan a_ctx a_cw a_rw a_cr a_rr a_scan row_count row_start bytes_n bytes_f pb_style pb_isWritten pb_isRead) H := by rw [hH]; exact hP
  have hS : va_S A s.heap H [] := by rw [hH]; exact va_S.rf
  obtain ⟨g, hg⟩ : ∃ z, F_X10_change p1 p2 bytes_f = z := ⟨_, rfl⟩
  rw [hg]
  generalize hQe : MQ below (Q_X10_change dC dI cI cJ cZ a_row a_bytes a_pb a_fld a_plan a_ctx a_cw a_rw a_cr a_rr a_scan A row_count row_start bytes_n bytes_f pb_style pb_isWritten pb_isRead g) _ s 0 0 A = Q
  rw [← hH]
  clear hH
  have hl := lv_entry ([.ref a_pb, .int p1, .int p2]) (n := 4) (Nat.le_of_ble_eq_true rfl)
  rw [lg_entry_eq]
  generalize (lg_sl ([.ref a_pb, .int p1, .int p2]) ++ List.replicate (4 - (lg_sl ([.ref a_pb, .int p1, .int p2])).length) Slot.unset).toArray = ls at hl ⊢
  have hl : lv_has ls 4 [(0, .ref a_pb), (1, .int p1), (2, .int p2)] := hl
  unfold F_X10_change at hg
  unfold P_X10_change at hpre
  refine lv_aload_n hx hb dX10_change_0 rfl (lv_at hl 0 rfl) ?_
  refine lv_iload_n hx hb dX10_change_1 rfl (lv_at hl 1 rfl) ?_
  have hPc := hP.sub (ws' := (wd_row_pb a_row a_bytes a_pb a_fld a_plan a_ctx a_cw a_rw a_cr a_rr a_scan row_count row_start pb_style pb_isWritten pb_isRead)) [0, 2] rfl
  have hDc := hD.sub (ws' := (wd_row_pb a_row a_bytes a_pb a_fld a_plan a_ctx a_cw a_rw a_cr a_rr a_scan row_count row_start pb_style pb_isWritten pb_isRead)) [0, 2] (by decide) rfl
  have hFc := va_free (wc := (wd_row_pb a_row a_bytes a_pb a_fld a_plan a_ctx a_cw a_rw a_cr a_rr a_scan row_count row_start pb_style pb_isWritten pb_isRead)) hD hS hA [0, 2] rfl
  refine va_callv (va_runV (As := [.int p1]) (rest := []) ⟨hx, hb, hml, hown, hts⟩ (c_X10_needByte l dC dI cI cJ cZ a_row a_bytes a_pb a_fld a_plan a_ctx a_cw a_rw a_cr a_rr a_scan H.size row_count row_start pb_style pb_isWritten pb_isRead p1 hpre.1) (cwV 1 hts gX10_change_X10_needByte rfl rfl rfl (by decide +kernel) ⟨Nat.le_of_ble_eq_true rfl, Nat.le_of_ble_eq_true rfl⟩) ⟨fun a U g mk q => by obtain ⟨q0, q1, qP, qK, qD⟩ := q; exact ⟨q0, q1, qP, va_K.moved (u := U) (U := U.calling g mk a) (Vm.Alike.refl U.vm) qK, qD⟩, va_recv hK hPc (ci := 9) (q0 := 1) rfl rfl, fun U hU hW => ⟨rfl, by rw [hU], by rw [hU]; exact hPc, va_K.moved hW.alike hK, hDc.weaken (fun _ _ _ _ => trivial)⟩⟩ rfl rfl hl.1 rfl (lv_room (Nat.le_of_ble_eq_true rfl)) dX10_change_2 ⟨Nat.le_of_ble_eq_true rfl, Nat.le_of_ble_eq_true rfl⟩) hS (fun q _ h => hFc q h) hFc (fun u t H1 locs ht hvm hw hB hz1 hk1 hS => ?_)
  obtain ⟨hP1, hK1, hD1⟩ := hB
  rw [ht] at hP1
  obtain ⟨hP, hD⟩ := va_join (wr := [(a_bytes, .inl (cI, bytes_n, .inl bytes_f))]) (w1 := (wd_row_pb a_row a_bytes a_pb a_fld a_plan a_ctx a_cw a_rw a_cr a_rr a_scan row_count row_start pb_style pb_isWritten pb_isRead)) hP hD [0, 2] [1] rfl rfl (by decide) (by decide) hk1 hFc hP1 hD1
  have hP : va_P (dC, dI) vwCl (wd_row_bytes_pb cI a_row a_bytes a_pb a_fld a_plan a_ctx a_cw a_rw a_cr a_rr a_scan row_count row_start bytes_n bytes_f pb_style pb_isWritten pb_isRead) H1 := hP.sub [1, 0, 2] rfl
  have hD : va_D A (wd_row_bytes_pb cI a_row a_bytes a_pb a_fld a_plan a_ctx a_cw a_rw a_cr a_rr a_scan row_count row_start bytes_n bytes_f pb_style pb_isWritten pb_isRead) := hD.sub [1, 0, 2] (by decide) rfl
  generalize H1 = H at hP hS ⊢
  have hpre := hpre.2
  refine lv_aload_n hx hb dX10_change_5 rfl (lv_at hl 0 rfl) ?_
  refine va_get (D := (dC, dI)) (ci := 9) (v := .ref a_row) (C := RX10) (T := TX10) (N := 12) hx hb hts iw_X10_change_X10 hown hK hP 2 rfl rfl 2 (by decide) (hts (.fieldLink RX10 26 "PlaneBlocks" "row" "LPlaneBlocks$ByteRow;") (by decide +kernel)) (fun _ h9 => h9) rfl dX10_change_6 ?_
  refine va_get (D := (dC, dI)) (ci := 0) (v := .ref a_bytes) (C := RX1) (T := TX1) (N := 3) hx hb hts iw_X10_change_X1 hown hK hP 0 rfl rfl 0 (by decide) (hts (.fieldLink RX10 233 "PlaneBlocks$ByteRow" "bytes" "[I") (by decide +kernel)) (fun _ h9 => h9) rfl dX10_change_9 ?_
  refine lv_iload_n hx hb dX10_change_12 rfl (lv_at hl 1 rfl) ?_
  have h_2 := hpre
  refine va_iald hx hb hK hP 1 0 rfl rfl h_2 dX10_change_13 ?_
  refine lv_istore_n (lv' := [(3, .int (bytes_f p1.toNatClampNeg)), (0, .ref a_pb), (1, .int p1), (2, .int p2)]) hx hb dX10_change_14 rfl hl (by decide) rfl (fun ls hl => ?_)
  refine lv_aload_n hx hb dX10_change_15 rfl (lv_at hl 1 rfl) ?_
  refine va_get (D := (dC, dI)) (ci := 9) (v := .ref a_row) (C := RX10) (T := TX10) (N := 12) hx hb hts iw_X10_change_X10 hown hK hP 2 rfl rfl 2 (by decide) (hts (.fieldLink RX10 26 "PlaneBlocks" "row" "LPlaneBlocks$ByteRow;") (by decide +kernel)) (fun _ h9 => h9) rfl dX10_change_16 ?_
  refine va_get (D := (dC, dI)) (ci := 0) (v := .ref a_bytes) (C := RX1) (T := TX1) (N := 3) hx hb hts iw_X10_change_X1 hown hK hP 0 rfl rfl 0 (by decide) (hts (.fieldLink RX10 233 "PlaneBlocks$ByteRow" "bytes" "[I") (by decide +kernel)) (fun _ h9 => h9) rfl dX10_change_19 ?_
  refine lv_iload_n hx hb dX10_change_22 rfl (lv_at hl 2 rfl) ?_
  refine lv_iload_n hx hb dX10_change_23 rfl (lv_at hl 3 rfl) ?_
  refine lv_sipush (v := 255) hx hb dX10_change_24 (by decide) ?_
  refine lv_iand hx hb dX10_change_27 ?_
  refine va_iast hx hb hK hP hD hS 1 0 rfl rfl h_2 dX10_change_28 (fun H locs hP hD hS => ?_)
  have hP : va_P (dC, dI) vwCl (wd_row_bytes_pb cI a_row a_bytes a_pb a_fld a_plan a_ctx a_cw a_rw a_cr a_rr a_scan row_count row_start bytes_n (upd bytes_f p1.toNatClampNeg (p2 &&& (255 : Int32))) pb_style pb_isWritten pb_isRead) H := hP
  have hD : va_D A (wd_row_bytes_pb cI a_row a_bytes a_pb a_fld a_plan a_ctx a_cw a_rw a_cr a_rr a_scan row_count row_start bytes_n (upd bytes_f p1.toNatClampNeg (p2 &&& (255 : Int32))) pb_style pb_isWritten pb_isRead) := hD
  refine lv_aload_n hx hb dX10_change_29 rfl (lv_at hl 1 rfl) ?_
  refine lv_iconst (v := 0) hx hb dX10_change_30 (by decide) ?_
  refine va_put (D := (dC, dI)) (ci := 9) (v := .int (0 : Int32)) (ty := .boolean) (C := RX10) (T := TX10) (N := 12) hx hb hts iw_X10_change_X10 tyX10 tyX10_ok nmX10 hown hK hP hD hS 2 rfl rfl 11 (by decide) (hts (.fieldLink RX10 213 "PlaneBlocks" "isRead" "Z") (by decide +kernel)) (fun _ h9 => h9) rfl (by decide +kernel) rfl rfl (Nat.le_of_ble_eq_true rfl) dX10_change_31 (fun H locs hP hD hS => ?_)
  have hP : va_P (dC, dI) vwCl (wd_row_bytes_pb cI a_row a_bytes a_pb a_fld a_plan a_ctx a_cw a_rw a_cr a_rr a_scan row_count row_start bytes_n (upd bytes_f p1.toNatClampNeg (p2 &&& (255 : Int32))) pb_style pb_isWritten (0 : Int32)) H := hP
  have hD : va_D A (wd_row_bytes_pb cI a_row a_bytes a_pb a_fld a_plan a_ctx a_cw a_rw a_cr a_rr a_scan row_count row_start bytes_n (upd bytes_f p1.toNatClampNeg (p2 &&& (255 : Int32))) pb_style pb_isWritten (0 : Int32)) := hD
  refine lv_iload_n hx hb dX10_change_34 rfl (lv_at hl 0 rfl) ?_
  subst hg
  rw [← hQe]
  exact W.iret (v := (bytes_f p1.toNatClampNeg)) hx hb hr (fun t ht hW => ⟨⟨(bytes_f p1.toNatClampNeg), (), rfl, rfl, by rw [ht]; exact hP, va_K.moved hW.alike hK, hD⟩, hS.F ht⟩) hS.2.2 dX10_change_35
abbrev wd_fld_mags_marks_pb (cI : ClassId) (a_fld : Nat) (a_coef : Nat) (a_mags : Nat) (a_marks : Nat) (a_pb : Nat) (a_plan : Nat) (a_row : Nat) (a_ctx : Nat) (a_cw : Nat) (a_rw : Nat) (a_cr : Nat) (a_rr : Nat) (a_scan : Nat) (fld_wide : Int32) (fld_high : Int32) (fld_band : Int32) (fld_causal : Int32) (mags_n : Nat) (mags_f : Nat → Int32) (marks_n : Nat) (marks_f : Nat → Int32) (pb_style : Int32) (pb_isWritten : Int32) (pb_isRead : Int32) : va_W := [(a_fld, .inr (4, [.int fld_wide, .int fld_high, .ref a_coef, .ref a_mags, .ref a_marks, .int fld_band, .int fld_causal])), (a_mags, .inl (cI, mags_n, .inl mags_f)), (a_marks, .inl (cI, marks_n, .inl marks_f)), (a_pb, .inr (9, [.ref a_fld, .ref a_plan, .ref a_row, .ref a_ctx, .ref a_cw, .ref a_rw, .ref a_cr, .ref a_rr, .ref a_scan, .int pb_style, .int pb_isWritten, .int pb_isRead]))]
abbrev rm_X10_value : Room := { frames := 2, cells := 0, slots := 0, locals := 44 }
abbrev Q_X10_value (dC : Nat → ClassId) (dI : Nat → Nat → Nat) (cI cJ cZ : ClassId) (a_fld : Nat) (a_coef : Nat) (a_mags : Nat) (a_marks : Nat) (a_pb : Nat) (a_plan : Nat) (a_row : Nat) (a_ctx : Nat) (a_cw : Nat) (a_rw : Nat) (a_cr : Nat) (a_rr : Nat) (a_scan : Nat) (A : Nat → Prop) (fld_wide : Int32) (fld_high : Int32) (fld_band : Int32) (fld_causal : Int32) (mags_n : Nat) (mags_f : Nat → Int32) (marks_n : Nat) (marks_f : Nat → Int32) (pb_style : Int32) (pb_isWritten : Int32) (pb_isRead : Int32) (g : Int32) : Array Value → State → Outcome → State → Prop := va_Qi (fun (r : Int32) (_ : Unit) => r = g) (fun u t => va_P (dC, dI) vwCl (wd_fld_mags_marks_pb cI a_fld a_coef a_mags a_marks a_pb a_plan a_row a_ctx a_cw a_rw a_cr a_rr a_scan fld_wide fld_high fld_band fld_causal mags_n mags_f marks_n marks_f pb_style pb_isWritten pb_isRead) t.heap ∧ va_K (dC, dI) vwCl [(cI, .int), (cJ, .long), (cZ, .boolean)] t ∧ va_D A (wd_fld_mags_marks_pb cI a_fld a_coef a_mags a_marks a_pb a_plan a_row a_ctx a_cw a_rw a_cr a_rr a_scan fld_wide fld_high fld_band fld_causal mags_n mags_f marks_n marks_f pb_style pb_isWritten pb_isRead)) A
theorem iw_X10_value_X10 : ∀ w ∈ u_ws RX10 TX10 12, w ∈ wsX10_value := by decide +kernel
set_option maxHeartbeats 4000000 in
set_option maxRecDepth 100000 in
theorem c_X10_value (l : Launch) (dC : Nat → ClassId) (dI : Nat → Nat → Nat) (cI cJ cZ : ClassId) (a_fld : Nat) (a_coef : Nat) (a_mags : Nat) (a_marks : Nat) (a_pb : Nat) (a_plan : Nat) (a_row : Nat) (a_ctx : Nat) (a_cw : Nat) (a_rw : Nat) (a_cr : Nat) (a_rr : Nat) (a_scan : Nat) (sz : Nat) (fld_wide : Int32) (fld_high : Int32) (fld_band : Int32) (fld_causal : Int32) (mags_n : Nat) (mags_f : Nat → Int32) (marks_n : Nat) (marks_f : Nat → Int32) (pb_style : Int32) (pb_isWritten : Int32) (pb_isRead : Int32) (p1 : Int32) (p2 : Int32) (hpre : P_X10_value p1 p2 fld_wide fld_high mags_n marks_n marks_f pb_isRead) : Met l yX10_value wsX10_value rm_X10_value (va_Pc [.ref a_pb, .int p1, .int p2] (fun U => U.heap.size = sz ∧ va_P (dC, dI) vwCl (wd_fld_mags_marks_pb cI a_fld a_coef a_mags a_marks a_pb a_plan a_row a_ctx a_cw a_rw a_cr a_rr a_scan fld_wide fld_high fld_band fld_causal mags_n mags_f marks_n marks_f pb_style pb_isWritten pb_isRead) U.heap ∧ va_K (dC, dI) vwCl [(cI, .int), (cJ, .long), (cZ, .boolean)] U ∧ va_D (fun _ => True) (wd_fld_mags_marks_pb cI a_fld a_coef a_mags a_marks a_pb a_plan a_row a_ctx a_cw a_rw a_cr a_rr a_scan fld_wide fld_high fld_band fld_causal mags_n mags_f marks_n marks_f pb_style pb_isWritten pb_isRead))) (Q_X10_value dC dI cI cJ cZ a_fld a_coef a_mags a_marks a_pb a_plan a_row a_ctx a_cw a_rw a_cr a_rr a_scan (va_A (wd_fld_mags_marks_pb cI a_fld a_coef a_mags a_marks a_pb a_plan a_row a_ctx a_cw a_rw a_cr a_rr a_scan fld_wide fld_high fld_band fld_causal mags_n mags_f marks_n marks_f pb_style pb_isWritten pb_isRead) sz) fld_wide fld_high fld_band fld_causal mags_n mags_f marks_n marks_f pb_style pb_isWritten pb_isRead (F_X10_value p1 p2 fld_wide mags_f marks_f)) 0 0 (va_A (wd_fld_mags_marks_pb cI a_fld a_coef a_mags a_marks a_pb a_plan a_row a_ctx a_cw a_rw a_cr a_rr a_scan fld_wide fld_high fld_band fld_causal mags_n mags_f marks_n marks_f pb_style pb_isWritten pb_isRead) sz) := by
  refine Met.ofW (cc := cX10_value) (maxL := 3) (ret := (some .int)) (by decide) rfl ?_
  intro p e s m args below meth c s₁ B hml hv
  obtain ⟨rfl, hsz, hP, hK, hD0⟩ := hv
  have hx := B.exec
  have hb := B.bytes
  have hr := B.returns
  have hts := atoms_spec (ws := wsX10_value) B.pre
  have hown : s.vm.findClass RX10 = some m.cls := findClass_of_methodNamed B.named
  have hlocks := B.notSynchronized
  subst hsz
  have hD := hD0.self (sz := s.heap.size)
  generalize hAe : va_A (wd_fld_mags_marks_pb cI a_fld a_coef a_mags a_marks a_pb a_plan a_row a_ctx a_cw a_rw a_cr a_rr a_scan fld_wide fld_high fld_band fld_causal mags_n mags_f marks_n marks_f pb_style pb_isWritten pb_isRead) s.heap.size = A at hD ⊢
  have hA : ∀ q : Nat, s.heap.size ≤ q → A q := fun q h => by rw [← hAe]; exact Or.inr h
  have hS : va_S A s.heap s.heap [] := va_S.rf
  obtain ⟨H, hH⟩ : ∃ z, z = s.heap := ⟨_, rfl⟩
  have hP : va_P (dC, dI) vwCl (wd_fld_mags_marks_pb cI a_fld a_coef a_mags a_marks a_pb a_plan a_row a_ctx a_cw a_rw a_cr a_rr a_scan fld_wide fld_high fld_band fld_causal mags_n mags_f marks_n marks_f pb_style pb_isWritten pb_isRead) H := by rw [hH]; exact hP
  have hS : va_S A s.heap H [] := by rw [hH]; exact va_S.rf
  obtain ⟨g, hg⟩ : ∃ z, F_X10_value p1 p2 fld_wide mags_f marks_f = z := ⟨_, rfl⟩
  rw [hg]
  generalize hQe : MQ below (Q_X10_value dC dI cI cJ cZ a_fld a_coef a_mags a_marks a_pb a_plan a_row a_ctx a_cw a_rw a_cr a_rr a_scan A fld_wide fld_high fld_band fld_causal mags_n mags_f marks_n marks_f pb_style pb_isWritten pb_isRead g) _ s 0 0 A = Q
  rw [← hH]
  clear hH
  have hl := lv_entry ([.ref a_pb, .int p1, .int p2]) (n := 3) (Nat.le_of_ble_eq_true rfl)
  rw [lg_entry_eq]
  generalize (lg_sl ([.ref a_pb, .int p1, .int p2]) ++ List.replicate (3 - (lg_sl ([.ref a_pb, .int p1, .int p2])).length) Slot.unset).toArray = ls at hl ⊢
  have hl : lv_has ls 3 [(0, .ref a_pb), (1, .int p1), (2, .int p2)] := hl
  unfold F_X10_value at hg
  unfold P_X10_value at hpre
  refine lv_aload_n hx hb dX10_value_0 rfl (lv_at hl 0 rfl) ?_
  refine lv_iload_n hx hb dX10_value_1 rfl (lv_at hl 1 rfl) ?_
  refine lv_iload_n hx hb dX10_value_2 rfl (lv_at hl 2 rfl) ?_
  have hPc := hP.sub (ws' := (wd_fld_pb a_fld a_coef a_mags a_marks a_pb a_plan a_row a_ctx a_cw a_rw a_cr a_rr a_scan fld_wide fld_high fld_band fld_causal pb_style pb_isWritten pb_isRead)) [0, 3] rfl
  have hDc := hD.sub (ws' := (wd_fld_pb a_fld a_coef a_mags a_marks a_pb a_plan a_row a_ctx a_cw a_rw a_cr a_rr a_scan fld_wide fld_high fld_band fld_causal pb_style pb_isWritten pb_isRead)) [0, 3] (by decide) rfl
  have hFc := va_free (wc := (wd_fld_pb a_fld a_coef a_mags a_marks a_pb a_plan a_row a_ctx a_cw a_rw a_cr a_rr a_scan fld_wide fld_high fld_band fld_causal pb_style pb_isWritten pb_isRead)) hD hS hA [0, 3] rfl
  refine va_callv (va_runV (As := [.int p1, .int p2]) (rest := []) ⟨hx, hb, hml, hown, hts⟩ (c_X10_needReadAt l dC dI cI cJ cZ a_fld a_coef a_mags a_marks a_pb a_plan a_row a_ctx a_cw a_rw a_cr a_rr a_scan H.size fld_wide fld_high fld_band fld_causal pb_style pb_isWritten pb_isRead p1 p2 hpre.1) (cwV 2 hts gX10_value_X10_needReadAt rfl rfl rfl (by decide +kernel) ⟨Nat.le_of_ble_eq_true rfl, Nat.le_of_ble_eq_true rfl⟩) ⟨fun a U g mk q => by obtain ⟨q0, q1, qP, qK, qD⟩ := q; exact ⟨q0, q1, qP, va_K.moved (u := U) (U := U.calling g mk a) (Vm.Alike.refl U.vm) qK, qD⟩, va_recv hK hPc (ci := 9) (q0 := 1) rfl rfl, fun U hU hW => ⟨rfl, by rw [hU], by rw [hU]; exact hPc, va_K.moved hW.alike hK, hDc.weaken (fun _ _ _ _ => trivial)⟩⟩ rfl rfl hl.1 rfl (lv_room (Nat.le_of_ble_eq_true rfl)) dX10_value_3 ⟨Nat.le_of_ble_eq_true rfl, Nat.le_of_ble_eq_true rfl⟩) hS (fun q _ h => hFc q h) hFc (fun u t H1 locs ht hvm hw hB hz1 hk1 hS => ?_)
  obtain ⟨hP1, hK1, hD1⟩ := hB
  rw [ht] at hP1
  obtain ⟨hP, hD⟩ := va_join (wr := [(a_mags, .inl (cI, mags_n, .inl mags_f)), (a_marks, .inl (cI, marks_n, .inl marks_f))]) (w1 := (wd_fld_pb a_fld a_coef a_mags a_marks a_pb a_plan a_row a_ctx a_cw a_rw a_cr a_rr a_scan fld_wide fld_high fld_band fld_causal pb_style pb_isWritten pb_isRead)) hP hD [0, 3] [1, 2] rfl rfl (by decide) (by decide) hk1 hFc hP1 hD1
  have hP : va_P (dC, dI) vwCl (wd_fld_mags_marks_pb cI a_fld a_coef a_mags a_marks a_pb a_plan a_row a_ctx a_cw a_rw a_cr a_rr a_scan fld_wide fld_high fld_band fld_causal mags_n mags_f marks_n marks_f pb_style pb_isWritten pb_isRead) H1 := hP.sub [2, 0, 1, 3] rfl
  have hD : va_D A (wd_fld_mags_marks_pb cI a_fld a_coef a_mags a_marks a_pb a_plan a_row a_ctx a_cw a_rw a_cr a_rr a_scan fld_wide fld_high fld_band fld_causal mags_n mags_f marks_n marks_f pb_style pb_isWritten pb_isRead) := hD.sub [2, 0, 1, 3] (by decide) rfl
  generalize H1 = H at hP hS ⊢
  have hpre := hpre.2
  refine lv_aload_n hx hb dX10_value_6 rfl (lv_at hl 0 rfl) ?_
  refine va_get (D := (dC, dI)) (ci := 9) (v := .ref a_fld) (C := RX10) (T := TX10) (N := 12) hx hb hts iw_X10_value_X10 hown hK hP 3 rfl rfl 0 (by decide) (hts (.fieldLink RX10 12 "PlaneBlocks" "field" "LPlaneBlocks$Field;") (by decide +kernel)) (fun _ h9 => h9) rfl dX10_value_7 ?_
  refine lv_aload_n hx hb dX10_value_10 rfl (lv_at hl 0 rfl) ?_
  refine va_get (D := (dC, dI)) (ci := 9) (v := .ref a_fld) (C := RX10) (T := TX10) (N := 12) hx hb hts iw_X10_value_X10 hown hK hP 3 rfl rfl 0 (by decide) (hts (.fieldLink RX10 12 "PlaneBlocks" "field" "LPlaneBlocks$Field;") (by decide +kernel)) (fun _ h9 => h9) rfl dX10_value_11 ?_
  refine lv_iload_n hx hb dX10_value_14 rfl (lv_at hl 1 rfl) ?_
  refine lv_iload_n hx hb dX10_value_15 rfl (lv_at hl 2 rfl) ?_
  have hPc := hP.sub (ws' := (wd_fld a_fld a_coef a_mags a_marks fld_wide fld_high fld_band fld_causal)) [0] rfl
  have hDc := hD.sub (ws' := (wd_fld a_fld a_coef a_mags a_marks fld_wide fld_high fld_band fld_causal)) [0] (by decide) rfl
  have hFc := va_free (wc := (wd_fld a_fld a_coef a_mags a_marks fld_wide fld_high fld_band fld_causal)) hD hS hA [0] rfl
  refine va_calli (va_runV (As := [.int p1, .int p2]) (rest := [.ref a_fld]) ⟨hx, hb, hml, hown, hts⟩ (c_X5_place l dC dI cI cJ cZ a_fld a_coef a_mags a_marks H.size fld_wide fld_high fld_band fld_causal p1 p2) (cwV 2 hts gX10_value_X5_place rfl rfl rfl (by decide +kernel) ⟨Nat.le_of_ble_eq_true rfl, Nat.le_of_ble_eq_true rfl⟩) ⟨fun a U g mk q => by obtain ⟨q0, q1, qP, qK, qD⟩ := q; exact ⟨q0, q1, qP, va_K.moved (u := U) (U := U.calling g mk a) (Vm.Alike.refl U.vm) qK, qD⟩, va_recv hK hPc (ci := 4) (q0 := 0) rfl rfl, fun U hU hW => ⟨rfl, by rw [hU], by rw [hU]; exact hPc, va_K.moved hW.alike hK, hDc.weaken (fun _ _ _ _ => trivial)⟩⟩ rfl rfl hl.1 rfl (lv_room (Nat.le_of_ble_eq_true rfl)) dX10_value_16 ⟨Nat.le_of_ble_eq_true rfl, Nat.le_of_ble_eq_true rfl⟩) hS (fun q _ h => hFc q h) hFc (fun r u t H1 locs ht hvm hw hB hz1 hk1 hS => ?_)
  obtain ⟨hP1, hK1, hD1⟩ := hB
  rw [ht] at hP1
  obtain ⟨r_2, hr_2⟩ : ∃ z, F_X5_place p1 p2 fld_wide = z := ⟨_, rfl⟩
  try rw [hr_2] at hw
  try rw [hr_2] at hP1
  try rw [hr_2] at hD1
  have hg : (let r_3 := F_X5_valueOf r_2 mags_f marks_f; r_3) = g := by first | (rw [hr_2] at hg; exact hg) | (subst hr_2; exact hg)
  have hw := hw.symm
  subst hw
  obtain ⟨hP, hD⟩ := va_join (wr := [(a_mags, .inl (cI, mags_n, .inl mags_f)), (a_marks, .inl (cI, marks_n, .inl marks_f)), (a_pb, .inr (9, [.ref a_fld, .ref a_plan, .ref a_row, .ref a_ctx, .ref a_cw, .ref a_rw, .ref a_cr, .ref a_rr, .ref a_scan, .int pb_style, .int pb_isWritten, .int pb_isRead]))]) (w1 := (wd_fld a_fld a_coef a_mags a_marks fld_wide fld_high fld_band fld_causal)) hP hD [0] [1, 2, 3] rfl rfl (by decide) (by decide) hk1 hFc hP1 hD1
  have hP : va_P (dC, dI) vwCl (wd_fld_mags_marks_pb cI a_fld a_coef a_mags a_marks a_pb a_plan a_row a_ctx a_cw a_rw a_cr a_rr a_scan fld_wide fld_high fld_band fld_causal mags_n mags_f marks_n marks_f pb_style pb_isWritten pb_isRead) H1 := hP.sub [3, 0, 1, 2] rfl
  have hD : va_D A (wd_fld_mags_marks_pb cI a_fld a_coef a_mags a_marks a_pb a_plan a_row a_ctx a_cw a_rw a_cr a_rr a_scan fld_wide fld_high fld_band fld_causal mags_n mags_f marks_n marks_f pb_style pb_isWritten pb_isRead) := hD.sub [3, 0, 1, 2] (by decide) rfl
  generalize H1 = H at hP hS ⊢
  have hpre := hpre r_2 hr_2
  have hPc := hP.sub (ws' := (wd_fld_mags_marks cI a_fld a_coef a_mags a_marks fld_wide fld_high fld_band fld_causal mags_n mags_f marks_n marks_f)) [0, 1, 2] rfl
  have hDc := hD.sub (ws' := (wd_fld_mags_marks cI a_fld a_coef a_mags a_marks fld_wide fld_high fld_band fld_causal mags_n mags_f marks_n marks_f)) [0, 1, 2] (by decide) rfl
  have hFc := va_free (wc := (wd_fld_mags_marks cI a_fld a_coef a_mags a_marks fld_wide fld_high fld_band fld_causal mags_n mags_f marks_n marks_f)) hD hS hA [0, 1, 2] rfl
  refine va_calli (va_runV (As := [.int r_2]) (rest := []) ⟨hx, hb, hml, hown, hts⟩ (c_X5_valueOf l dC dI cI cJ cZ a_fld a_coef a_mags a_marks H.size fld_wide fld_high fld_band fld_causal mags_n mags_f marks_n marks_f r_2 hpre) (cwV 1 hts gX10_value_X5_valueOf rfl rfl rfl (by decide +kernel) ⟨Nat.le_of_ble_eq_true rfl, Nat.le_of_ble_eq_true rfl⟩) ⟨fun a U g mk q => by obtain ⟨q0, q1, qP, qK, qD⟩ := q; exact ⟨q0, q1, qP, va_K.moved (u := U) (U := U.calling g mk a) (Vm.Alike.refl U.vm) qK, qD⟩, va_recv hK hPc (ci := 4) (q0 := 0) rfl rfl, fun U hU hW => ⟨rfl, by rw [hU], by rw [hU]; exact hPc, va_K.moved hW.alike hK, hDc.weaken (fun _ _ _ _ => trivial)⟩⟩ rfl rfl hl.1 rfl (lv_room (Nat.le_of_ble_eq_true rfl)) dX10_value_19 ⟨Nat.le_of_ble_eq_true rfl, Nat.le_of_ble_eq_true rfl⟩) hS (fun q _ h => hFc q h) hFc (fun r u t H1 locs ht hvm hw hB hz1 hk1 hS => ?_)
  obtain ⟨hP1, hK1, hD1⟩ := hB
  rw [ht] at hP1
  obtain ⟨r_3, hr_3⟩ : ∃ z, F_X5_valueOf r_2 mags_f marks_f = z := ⟨_, rfl⟩
  try rw [hr_3] at hw
  try rw [hr_3] at hP1
  try rw [hr_3] at hD1
  have hg : r_3 = g := by first | (rw [hr_3] at hg; exact hg) | (subst hr_3; exact hg)
  have hw := hw.symm
  subst hw
  obtain ⟨hP, hD⟩ := va_join (wr := [(a_pb, .inr (9, [.ref a_fld, .ref a_plan, .ref a_row, .ref a_ctx, .ref a_cw, .ref a_rw, .ref a_cr, .ref a_rr, .ref a_scan, .int pb_style, .int pb_isWritten, .int pb_isRead]))]) (w1 := (wd_fld_mags_marks cI a_fld a_coef a_mags a_marks fld_wide fld_high fld_band fld_causal mags_n mags_f marks_n marks_f)) hP hD [0, 1, 2] [3] rfl rfl (by decide) (by decide) hk1 hFc hP1 hD1
  have hP : va_P (dC, dI) vwCl (wd_fld_mags_marks_pb cI a_fld a_coef a_mags a_marks a_pb a_plan a_row a_ctx a_cw a_rw a_cr a_rr a_scan fld_wide fld_high fld_band fld_causal mags_n mags_f marks_n marks_f pb_style pb_isWritten pb_isRead) H1 := hP.sub [1, 2, 3, 0] rfl
  have hD : va_D A (wd_fld_mags_marks_pb cI a_fld a_coef a_mags a_marks a_pb a_plan a_row a_ctx a_cw a_rw a_cr a_rr a_scan fld_wide fld_high fld_band fld_causal mags_n mags_f marks_n marks_f pb_style pb_isWritten pb_isRead) := hD.sub [1, 2, 3, 0] (by decide) rfl
  generalize H1 = H at hP hS ⊢
  subst hg
  rw [← hQe]
  exact W.iret (v := r_3) hx hb hr (fun t ht hW => ⟨⟨r_3, (), rfl, rfl, by rw [ht]; exact hP, va_K.moved hW.alike hK, hD⟩, hS.F ht⟩) hS.2.2 dX10_value_22
abbrev wd_fld_mags_pb (cI : ClassId) (a_fld : Nat) (a_coef : Nat) (a_mags : Nat) (a_marks : Nat) (a_pb : Nat) (a_plan : Nat) (a_row : Nat) (a_ctx : Nat) (a_cw : Nat) (a_rw : Nat) (a_cr : Nat) (a_rr : Nat) (a_scan : Nat) (fld_wide : Int32) (fld_high : Int32) (fld_band : Int32) (fld_causal : Int32) (mags_n : Nat) (mags_f : Nat → Int32) (pb_style : Int32) (pb_isWritten : Int32) (pb_isRead : Int32) : va_W := [(a_fld, .inr (4, [.int fld_wide, .int fld_high, .ref a_coef, .ref a_mags, .ref a_marks, .int fld_band, .int fld_causal])), (a_mags, .inl (cI, mags_n, .inl mags_f)), (a_pb, .inr (9, [.ref a_fld, .ref a_plan, .ref a_row, .ref a_ctx, .ref a_cw, .ref a_rw, .ref a_cr, .ref a_rr, .ref a_scan, .int pb_style, .int pb_isWritten, .int pb_isRead]))]
abbrev rm_X10_known : Room := { frames := 2, cells := 0, slots := 0, locals := 44 }
abbrev Q_X10_known (dC : Nat → ClassId) (dI : Nat → Nat → Nat) (cI cJ cZ : ClassId) (a_fld : Nat) (a_coef : Nat) (a_mags : Nat) (a_marks : Nat) (a_pb : Nat) (a_plan : Nat) (a_row : Nat) (a_ctx : Nat) (a_cw : Nat) (a_rw : Nat) (a_cr : Nat) (a_rr : Nat) (a_scan : Nat) (A : Nat → Prop) (fld_wide : Int32) (fld_high : Int32) (fld_band : Int32) (fld_causal : Int32) (mags_n : Nat) (mags_f : Nat → Int32) (pb_style : Int32) (pb_isWritten : Int32) (pb_isRead : Int32) (g : Int32) : Array Value → State → Outcome → State → Prop := va_Qi (fun (r : Int32) (_ : Unit) => r = g) (fun u t => va_P (dC, dI) vwCl (wd_fld_mags_pb cI a_fld a_coef a_mags a_marks a_pb a_plan a_row a_ctx a_cw a_rw a_cr a_rr a_scan fld_wide fld_high fld_band fld_causal mags_n mags_f pb_style pb_isWritten pb_isRead) t.heap ∧ va_K (dC, dI) vwCl [(cI, .int), (cJ, .long), (cZ, .boolean)] t ∧ va_D A (wd_fld_mags_pb cI a_fld a_coef a_mags a_marks a_pb a_plan a_row a_ctx a_cw a_rw a_cr a_rr a_scan fld_wide fld_high fld_band fld_causal mags_n mags_f pb_style pb_isWritten pb_isRead)) A
theorem iw_X10_known_X10 : ∀ w ∈ u_ws RX10 TX10 12, w ∈ wsX10_known := by decide +kernel
theorem iw_X10_known_X5 : ∀ w ∈ u_ws RX5 TX5 7, w ∈ wsX10_known := by decide +kernel
set_option maxHeartbeats 4000000 in
set_option maxRecDepth 100000 in
theorem c_X10_known (l : Launch) (dC : Nat → ClassId) (dI : Nat → Nat → Nat) (cI cJ cZ : ClassId) (a_fld : Nat) (a_coef : Nat) (a_mags : Nat) (a_marks : Nat) (a_pb : Nat) (a_plan : Nat) (a_row : Nat) (a_ctx : Nat) (a_cw : Nat) (a_rw : Nat) (a_cr : Nat) (a_rr : Nat) (a_scan : Nat) (sz : Nat) (fld_wide : Int32) (fld_high : Int32) (fld_band : Int32) (fld_causal : Int32) (mags_n : Nat) (mags_f : Nat → Int32) (pb_style : Int32) (pb_isWritten : Int32) (pb_isRead : Int32) (p1 : Int32) (p2 : Int32) (hpre : P_X10_known p1 p2 fld_wide fld_high mags_n pb_isRead) : Met l yX10_known wsX10_known rm_X10_known (va_Pc [.ref a_pb, .int p1, .int p2] (fun U => U.heap.size = sz ∧ va_P (dC, dI) vwCl (wd_fld_mags_pb cI a_fld a_coef a_mags a_marks a_pb a_plan a_row a_ctx a_cw a_rw a_cr a_rr a_scan fld_wide fld_high fld_band fld_causal mags_n mags_f pb_style pb_isWritten pb_isRead) U.heap ∧ va_K (dC, dI) vwCl [(cI, .int), (cJ, .long), (cZ, .boolean)] U ∧ va_D (fun _ => True) (wd_fld_mags_pb cI a_fld a_coef a_mags a_marks a_pb a_plan a_row a_ctx a_cw a_rw a_cr a_rr a_scan fld_wide fld_high fld_band fld_causal mags_n mags_f pb_style pb_isWritten pb_isRead))) (Q_X10_known dC dI cI cJ cZ a_fld a_coef a_mags a_marks a_pb a_plan a_row a_ctx a_cw a_rw a_cr a_rr a_scan (va_A (wd_fld_mags_pb cI a_fld a_coef a_mags a_marks a_pb a_plan a_row a_ctx a_cw a_rw a_cr a_rr a_scan fld_wide fld_high fld_band fld_causal mags_n mags_f pb_style pb_isWritten pb_isRead) sz) fld_wide fld_high fld_band fld_causal mags_n mags_f pb_style pb_isWritten pb_isRead (F_X10_known p1 p2 fld_wide mags_f)) 0 0 (va_A (wd_fld_mags_pb cI a_fld a_coef a_mags a_marks a_pb a_plan a_row a_ctx a_cw a_rw a_cr a_rr a_scan fld_wide fld_high fld_band fld_causal mags_n mags_f pb_style pb_isWritten pb_isRead) sz) := by
  refine Met.ofW (cc := cX10_known) (maxL := 3) (ret := (some .int)) (by decide) rfl ?_
  intro p e s m args below meth c s₁ B hml hv
  obtain ⟨rfl, hsz, hP, hK, hD0⟩ := hv
  have hx := B.exec
  have hb := B.bytes
  have hr := B.returns
  have hts := atoms_spec (ws := wsX10_known) B.pre
  have hown : s.vm.findClass RX10 = some m.cls := findClass_of_methodNamed B.named
  have hlocks := B.notSynchronized
  subst hsz
  have hD := hD0.self (sz := s.heap.size)
  generalize hAe : va_A (wd_fld_mags_pb cI a_fld a_coef a_mags a_marks a_pb a_plan a_row a_ctx a_cw a_rw a_cr a_rr a_scan fld_wide fld_high fld_band fld_causal mags_n mags_f pb_style pb_isWritten pb_isRead) s.heap.size = A at hD ⊢
  have hA : ∀ q : Nat, s.heap.size ≤ q → A q := fun q h => by rw [← hAe]; exact Or.inr h
  have hS : va_S A s.heap s.heap [] := va_S.rf
  obtain ⟨H, hH⟩ : ∃ z, z = s.heap := ⟨_, rfl⟩
  have hP : va_P (dC, dI) vwCl (wd_fld_mags_pb cI a_fld a_coef a_mags a_marks a_pb a_plan a_row a_ctx a_cw a_rw a_cr a_rr a_scan fld_wide fld_high fld_band fld_causal mags_n mags_f pb_style pb_isWritten pb_isRead) H := by rw [hH]; exact hP
  have hS : va_S A s.heap H [] := by rw [hH]; exact va_S.rf
  obtain ⟨g, hg⟩ : ∃ z, F_X10_known p1 p2 fld_wide mags_f = z := ⟨_, rfl⟩
  rw [hg]
  generalize hQe : MQ below (Q_X10_known dC dI cI cJ cZ a_fld a_coef a_mags a_marks a_pb a_plan a_row a_ctx a_cw a_rw a_cr a_rr a_scan A fld_wide fld_high fld_band fld_causal mags_n mags_f pb_style pb_isWritten pb_isRead g) _ s 0 0 A = Q
  rw [← hH]
  clear hH
  have hl := lv_entry ([.ref a_pb, .int p1, .int p2]) (n := 3) (Nat.le_of_ble_eq_true rfl)
  rw [lg_entry_eq]
  generalize (lg_sl ([.ref a_pb, .int p1, .int p2]) ++ List.replicate (3 - (lg_sl ([.ref a_pb, .int p1, .int p2])).length) Slot.unset).toArray = ls at hl ⊢
  have hl : lv_has ls 3 [(0, .ref a_pb), (1, .int p1), (2, .int p2)] := hl
  unfold F_X10_known at hg
  unfold P_X10_known at hpre
  refine lv_aload_n hx hb dX10_known_0 rfl (lv_at hl 0 rfl) ?_
  refine lv_iload_n hx hb dX10_known_1 rfl (lv_at hl 1 rfl) ?_
  refine lv_iload_n hx hb dX10_known_2 rfl (lv_at hl 2 rfl) ?_
  have hPc := hP.sub (ws' := (wd_fld_pb a_fld a_coef a_mags a_marks a_pb a_plan a_row a_ctx a_cw a_rw a_cr a_rr a_scan fld_wide fld_high fld_band fld_causal pb_style pb_isWritten pb_isRead)) [0, 2] rfl
  have hDc := hD.sub (ws' := (wd_fld_pb a_fld a_coef a_mags a_marks a_pb a_plan a_row a_ctx a_cw a_rw a_cr a_rr a_scan fld_wide fld_high fld_band fld_causal pb_style pb_isWritten pb_isRead)) [0, 2] (by decide) rfl
  have hFc := va_free (wc := (wd_fld_pb a_fld a_coef a_mags a_marks a_pb a_plan a_row a_ctx a_cw a_rw a_cr a_rr a_scan fld_wide fld_high fld_band fld_causal pb_style pb_isWritten pb_isRead)) hD hS hA [0, 2] rfl
  refine va_callv (va_runV (As := [.int p1, .int p2]) (rest := []) ⟨hx, hb, hml, hown, hts⟩ (c_X10_needReadAt l dC dI cI cJ cZ a_fld a_coef a_mags a_marks a_pb a_plan a_row a_ctx a_cw a_rw a_cr a_rr a_scan H.size fld_wide fld_high fld_band fld_causal pb_style pb_isWritten pb_isRead p1 p2 hpre.1) (cwV 2 hts gX10_known_X10_needReadAt rfl rfl rfl (by decide +kernel) ⟨Nat.le_of_ble_eq_true rfl, Nat.le_of_ble_eq_true rfl⟩) ⟨fun a U g mk q => by obtain ⟨q0, q1, qP, qK, qD⟩ := q; exact ⟨q0, q1, qP, va_K.moved (u := U) (U := U.calling g mk a) (Vm.Alike.refl U.vm) qK, qD⟩, va_recv hK hPc (ci := 9) (q0 := 1) rfl rfl, fun U hU hW => ⟨rfl, by rw [hU], by rw [hU]; exact hPc, va_K.moved hW.alike hK, hDc.weaken (fun _ _ _ _ => trivial)⟩⟩ rfl rfl hl.1 rfl (lv_room (Nat.le_of_ble_eq_true rfl)) dX10_known_3 ⟨Nat.le_of_ble_eq_true rfl, Nat.le_of_ble_eq_true rfl⟩) hS (fun q _ h => hFc q h) hFc (fun u t H1 locs ht hvm hw hB hz1 hk1 hS => ?_)
  obtain ⟨hP1, hK1, hD1⟩ := hB
  rw [ht] at hP1
  obtain ⟨hP, hD⟩ := va_join (wr := [(a_mags, .inl (cI, mags_n, .inl mags_f))]) (w1 := (wd_fld_pb a_fld a_coef a_mags a_marks a_pb a_plan a_row a_ctx a_cw a_rw a_cr a_rr a_scan fld_wide fld_high fld_band fld_causal pb_style pb_isWritten pb_isRead)) hP hD [0, 2] [1] rfl rfl (by decide) (by decide) hk1 hFc hP1 hD1
  have hP : va_P (dC, dI) vwCl (wd_fld_mags_pb cI a_fld a_coef a_mags a_marks a_pb a_plan a_row a_ctx a_cw a_rw a_cr a_rr a_scan fld_wide fld_high fld_band fld_causal mags_n mags_f pb_style pb_isWritten pb_isRead) H1 := hP.sub [1, 0, 2] rfl
  have hD : va_D A (wd_fld_mags_pb cI a_fld a_coef a_mags a_marks a_pb a_plan a_row a_ctx a_cw a_rw a_cr a_rr a_scan fld_wide fld_high fld_band fld_causal mags_n mags_f pb_style pb_isWritten pb_isRead) := hD.sub [1, 0, 2] (by decide) rfl
  generalize H1 = H at hP hS ⊢
  have hpre := hpre.2
  refine lv_aload_n hx hb dX10_known_6 rfl (lv_at hl 0 rfl) ?_
  refine va_get (D := (dC, dI)) (ci := 9) (v := .ref a_fld) (C := RX10) (T := TX10) (N := 12) hx hb hts iw_X10_known_X10 hown hK hP 2 rfl rfl 0 (by decide) (hts (.fieldLink RX10 12 "PlaneBlocks" "field" "LPlaneBlocks$Field;") (by decide +kernel)) (fun _ h9 => h9) rfl dX10_known_7 ?_
  refine va_get (D := (dC, dI)) (ci := 4) (v := .ref a_mags) (C := RX5) (T := TX5) (N := 7) hx hb hts iw_X10_known_X5 hown hK hP 0 rfl rfl 3 (by decide) (hts (.fieldLink RX10 257 "PlaneBlocks$Field" "magnitudes" "[I") (by decide +kernel)) (fun _ h9 => h9) rfl dX10_known_10 ?_
  refine lv_aload_n hx hb dX10_known_13 rfl (lv_at hl 0 rfl) ?_
  refine va_get (D := (dC, dI)) (ci := 9) (v := .ref a_fld) (C := RX10) (T := TX10) (N := 12) hx hb hts iw_X10_known_X10 hown hK hP 2 rfl rfl 0 (by decide) (hts (.fieldLink RX10 12 "PlaneBlocks" "field" "LPlaneBlocks$Field;") (by decide +kernel)) (fun _ h9 => h9) rfl dX10_known_14 ?_
  refine lv_iload_n hx hb dX10_known_17 rfl (lv_at hl 1 rfl) ?_
  refine lv_iload_n hx hb dX10_known_18 rfl (lv_at hl 2 rfl) ?_
  have hPc := hP.sub (ws' := (wd_fld a_fld a_coef a_mags a_marks fld_wide fld_high fld_band fld_causal)) [0] rfl
  have hDc := hD.sub (ws' := (wd_fld a_fld a_coef a_mags a_marks fld_wide fld_high fld_band fld_causal)) [0] (by decide) rfl
  have hFc := va_free (wc := (wd_fld a_fld a_coef a_mags a_marks fld_wide fld_high fld_band fld_causal)) hD hS hA [0] rfl
  refine va_calli (va_runV (As := [.int p1, .int p2]) (rest := [.ref a_mags]) ⟨hx, hb, hml, hown, hts⟩ (c_X5_place l dC dI cI cJ cZ a_fld a_coef a_mags a_marks H.size fld_wide fld_high fld_band fld_causal p1 p2) (cwV 2 hts gX10_known_X5_place rfl rfl rfl (by decide +kernel) ⟨Nat.le_of_ble_eq_true rfl, Nat.le_of_ble_eq_true rfl⟩) ⟨fun a U g mk q => by obtain ⟨q0, q1, qP, qK, qD⟩ := q; exact ⟨q0, q1, qP, va_K.moved (u := U) (U := U.calling g mk a) (Vm.Alike.refl U.vm) qK, qD⟩, va_recv hK hPc (ci := 4) (q0 := 0) rfl rfl, fun U hU hW => ⟨rfl, by rw [hU], by rw [hU]; exact hPc, va_K.moved hW.alike hK, hDc.weaken (fun _ _ _ _ => trivial)⟩⟩ rfl rfl hl.1 rfl (lv_room (Nat.le_of_ble_eq_true rfl)) dX10_known_19 ⟨Nat.le_of_ble_eq_true rfl, Nat.le_of_ble_eq_true rfl⟩) hS (fun q _ h => hFc q h) hFc (fun r u t H1 locs ht hvm hw hB hz1 hk1 hS => ?_)
  obtain ⟨hP1, hK1, hD1⟩ := hB
  rw [ht] at hP1
  obtain ⟨r_2, hr_2⟩ : ∃ z, F_X5_place p1 p2 fld_wide = z := ⟨_, rfl⟩
  try rw [hr_2] at hw
  try rw [hr_2] at hP1
  try rw [hr_2] at hD1
  have hg : (mags_f r_2.toNatClampNeg) = g := by first | (rw [hr_2] at hg; exact hg) | (subst hr_2; exact hg)
  have hw := hw.symm
  subst hw
  obtain ⟨hP, hD⟩ := va_join (wr := [(a_mags, .inl (cI, mags_n, .inl mags_f)), (a_pb, .inr (9, [.ref a_fld, .ref a_plan, .ref a_row, .ref a_ctx, .ref a_cw, .ref a_rw, .ref a_cr, .ref a_rr, .ref a_scan, .int pb_style, .int pb_isWritten, .int pb_isRead]))]) (w1 := (wd_fld a_fld a_coef a_mags a_marks fld_wide fld_high fld_band fld_causal)) hP hD [0] [1, 2] rfl rfl (by decide) (by decide) hk1 hFc hP1 hD1
  have hP : va_P (dC, dI) vwCl (wd_fld_mags_pb cI a_fld a_coef a_mags a_marks a_pb a_plan a_row a_ctx a_cw a_rw a_cr a_rr a_scan fld_wide fld_high fld_band fld_causal mags_n mags_f pb_style pb_isWritten pb_isRead) H1 := hP.sub [2, 0, 1] rfl
  have hD : va_D A (wd_fld_mags_pb cI a_fld a_coef a_mags a_marks a_pb a_plan a_row a_ctx a_cw a_rw a_cr a_rr a_scan fld_wide fld_high fld_band fld_causal mags_n mags_f pb_style pb_isWritten pb_isRead) := hD.sub [2, 0, 1] (by decide) rfl
  generalize H1 = H at hP hS ⊢
  have hpre := hpre r_2 hr_2
  have h_3 := hpre
  refine va_iald hx hb hK hP 1 0 rfl rfl h_3 dX10_known_22 ?_
  subst hg
  rw [← hQe]
  exact W.iret (v := (mags_f r_2.toNatClampNeg)) hx hb hr (fun t ht hW => ⟨⟨(mags_f r_2.toNatClampNeg), (), rfl, rfl, by rw [ht]; exact hP, va_K.moved hW.alike hK, hD⟩, hS.F ht⟩) hS.2.2 dX10_known_23
abbrev rm_X10_sum : Room := { frames := 1, cells := 0, slots := 0, locals := 23 }
abbrev Q_X10_sum (dC : Nat → ClassId) (dI : Nat → Nat → Nat) (cI cJ cZ : ClassId) (a_fld : Nat) (a_coef : Nat) (a_mags : Nat) (a_marks : Nat) (a_pb : Nat) (a_plan : Nat) (a_row : Nat) (a_ctx : Nat) (a_cw : Nat) (a_rw : Nat) (a_cr : Nat) (a_rr : Nat) (a_scan : Nat) (A : Nat → Prop) (fld_wide : Int32) (fld_high : Int32) (fld_band : Int32) (fld_causal : Int32) (mags_n : Nat) (mags_f : Nat → Int32) (marks_n : Nat) (marks_f : Nat → Int32) (pb_style : Int32) (pb_isWritten : Int32) (pb_isRead : Int32) (g : Int32) : Array Value → State → Outcome → State → Prop := va_Qi (fun (r : Int32) (_ : Unit) => r = g) (fun u t => va_P (dC, dI) vwCl (wd_fld_mags_marks_pb cI a_fld a_coef a_mags a_marks a_pb a_plan a_row a_ctx a_cw a_rw a_cr a_rr a_scan fld_wide fld_high fld_band fld_causal mags_n mags_f marks_n marks_f pb_style pb_isWritten pb_isRead) t.heap ∧ va_K (dC, dI) vwCl [(cI, .int), (cJ, .long), (cZ, .boolean)] t ∧ va_D A (wd_fld_mags_marks_pb cI a_fld a_coef a_mags a_marks a_pb a_plan a_row a_ctx a_cw a_rw a_cr a_rr a_scan fld_wide fld_high fld_band fld_causal mags_n mags_f marks_n marks_f pb_style pb_isWritten pb_isRead)) A
theorem iw_X10_sum_X10 : ∀ w ∈ u_ws RX10 TX10 12, w ∈ wsX10_sum := by decide +kernel
theorem iw_X10_sum_X5 : ∀ w ∈ u_ws RX5 TX5 7, w ∈ wsX10_sum := by decide +kernel
set_option maxHeartbeats 4000000 in
set_option maxRecDepth 100000 in
theorem c_X10_sum (l : Launch) (dC : Nat → ClassId) (dI : Nat → Nat → Nat) (cI cJ cZ : ClassId) (a_fld : Nat) (a_coef : Nat) (a_mags : Nat) (a_marks : Nat) (a_pb : Nat) (a_plan : Nat) (a_row : Nat) (a_ctx : Nat) (a_cw : Nat) (a_rw : Nat) (a_cr : Nat) (a_rr : Nat) (a_scan : Nat) (sz : Nat) (fld_wide : Int32) (fld_high : Int32) (fld_band : Int32) (fld_causal : Int32) (mags_n : Nat) (mags_f : Nat → Int32) (marks_n : Nat) (marks_f : Nat → Int32) (pb_style : Int32) (pb_isWritten : Int32) (pb_isRead : Int32) (hpre : P_X10_sum fld_wide fld_high mags_n mags_f marks_n marks_f pb_isRead) : Met l yX10_sum wsX10_sum rm_X10_sum (va_Pc [.ref a_pb] (fun U => U.heap.size = sz ∧ va_P (dC, dI) vwCl (wd_fld_mags_marks_pb cI a_fld a_coef a_mags a_marks a_pb a_plan a_row a_ctx a_cw a_rw a_cr a_rr a_scan fld_wide fld_high fld_band fld_causal mags_n mags_f marks_n marks_f pb_style pb_isWritten pb_isRead) U.heap ∧ va_K (dC, dI) vwCl [(cI, .int), (cJ, .long), (cZ, .boolean)] U ∧ va_D (fun _ => True) (wd_fld_mags_marks_pb cI a_fld a_coef a_mags a_marks a_pb a_plan a_row a_ctx a_cw a_rw a_cr a_rr a_scan fld_wide fld_high fld_band fld_causal mags_n mags_f marks_n marks_f pb_style pb_isWritten pb_isRead))) (Q_X10_sum dC dI cI cJ cZ a_fld a_coef a_mags a_marks a_pb a_plan a_row a_ctx a_cw a_rw a_cr a_rr a_scan (va_A (wd_fld_mags_marks_pb cI a_fld a_coef a_mags a_marks a_pb a_plan a_row a_ctx a_cw a_rw a_cr a_rr a_scan fld_wide fld_high fld_band fld_causal mags_n mags_f marks_n marks_f pb_style pb_isWritten pb_isRead) sz) fld_wide fld_high fld_band fld_causal mags_n mags_f marks_n marks_f pb_style pb_isWritten pb_isRead (F_X10_sum fld_wide fld_high mags_f marks_f)) 0 0 (va_A (wd_fld_mags_marks_pb cI a_fld a_coef a_mags a_marks a_pb a_plan a_row a_ctx a_cw a_rw a_cr a_rr a_scan fld_wide fld_high fld_band fld_causal mags_n mags_f marks_n marks_f pb_style pb_isWritten pb_isRead) sz) := by
  refine Met.ofW (cc := cX10_sum) (maxL := 3) (ret := (some .int)) (by decide) rfl ?_
  intro p e s m args below meth c s₁ B hml hv
  obtain ⟨rfl, hsz, hP, hK, hD0⟩ := hv
  have hx := B.exec
  have hb := B.bytes
  have hr := B.returns
  have hts := atoms_spec (ws := wsX10_sum) B.pre
  have hown : s.vm.findClass RX10 = some m.cls := findClass_of_methodNamed B.named
  have hlocks := B.notSynchronized
  subst hsz
  have hD := hD0.self (sz := s.heap.size)
  generalize hAe : va_A (wd_fld_mags_marks_pb cI a_fld a_coef a_mags a_marks a_pb a_plan a_row a_ctx a_cw a_rw a_cr a_rr a_scan fld_wide fld_high fld_band fld_causal mags_n mags_f marks_n marks_f pb_style pb_isWritten pb_isRead) s.heap.size = A at hD ⊢
  have hA : ∀ q : Nat, s.heap.size ≤ q → A q := fun q h => by rw [← hAe]; exact Or.inr h
  have hS : va_S A s.heap s.heap [] := va_S.rf
  obtain ⟨H, hH⟩ : ∃ z, z = s.heap := ⟨_, rfl⟩
  have hP : va_P (dC, dI) vwCl (wd_fld_mags_marks_pb cI a_fld a_coef a_mags a_marks a_pb a_plan a_row a_ctx a_cw a_rw a_cr a_rr a_scan fld_wide fld_high fld_band fld_causal mags_n mags_f marks_n marks_f pb_style pb_isWritten pb_isRead) H := by rw [hH]; exact hP
  have hS : va_S A s.heap H [] := by rw [hH]; exact va_S.rf
  obtain ⟨g, hg⟩ : ∃ z, F_X10_sum fld_wide fld_high mags_f marks_f = z := ⟨_, rfl⟩
  rw [hg]
  generalize hQe : MQ below (Q_X10_sum dC dI cI cJ cZ a_fld a_coef a_mags a_marks a_pb a_plan a_row a_ctx a_cw a_rw a_cr a_rr a_scan A fld_wide fld_high fld_band fld_causal mags_n mags_f marks_n marks_f pb_style pb_isWritten pb_isRead g) _ s 0 0 A = Q
  rw [← hH]
  clear hH
  have hl := lv_entry ([.ref a_pb]) (n := 3) (Nat.le_of_ble_eq_true rfl)
  rw [lg_entry_eq]
  generalize (lg_sl ([.ref a_pb]) ++ List.replicate (3 - (lg_sl ([.ref a_pb])).length) Slot.unset).toArray = ls at hl ⊢
  have hl : lv_has ls 3 [(0, .ref a_pb)] := hl
  unfold F_X10_sum at hg
  unfold P_X10_sum at hpre
  refine lv_aload_n hx hb dX10_sum_0 rfl (lv_at hl 0 rfl) ?_
  have hPc := hP.sub (ws' := (wd_pb a_pb a_fld a_plan a_row a_ctx a_cw a_rw a_cr a_rr a_scan pb_style pb_isWritten pb_isRead)) [3] rfl
  have hDc := hD.sub (ws' := (wd_pb a_pb a_fld a_plan a_row a_ctx a_cw a_rw a_cr a_rr a_scan pb_style pb_isWritten pb_isRead)) [3] (by decide) rfl
  have hFc := va_free (wc := (wd_pb a_pb a_fld a_plan a_row a_ctx a_cw a_rw a_cr a_rr a_scan pb_style pb_isWritten pb_isRead)) hD hS hA [3] rfl
  refine va_callv (va_runV (As := []) (rest := []) ⟨hx, hb, hml, hown, hts⟩ (c_X10_needRead l dC dI cI cJ cZ a_pb a_fld a_plan a_row a_ctx a_cw a_rw a_cr a_rr a_scan H.size pb_style pb_isWritten pb_isRead hpre.1) (cwV 0 hts gX10_sum_X10_needRead rfl rfl rfl (by decide +kernel) ⟨Nat.le_of_ble_eq_true rfl, Nat.le_of_ble_eq_true rfl⟩) ⟨fun a U g mk q => by obtain ⟨q0, q1, qP, qK, qD⟩ := q; exact ⟨q0, q1, qP, va_K.moved (u := U) (U := U.calling g mk a) (Vm.Alike.refl U.vm) qK, qD⟩, va_recv hK hPc (ci := 9) (q0 := 0) rfl rfl, fun U hU hW => ⟨rfl, by rw [hU], by rw [hU]; exact hPc, va_K.moved hW.alike hK, hDc.weaken (fun _ _ _ _ => trivial)⟩⟩ rfl rfl hl.1 rfl (lv_room (Nat.le_of_ble_eq_true rfl)) dX10_sum_1 ⟨Nat.le_of_ble_eq_true rfl, Nat.le_of_ble_eq_true rfl⟩) hS (fun q _ h => hFc q h) hFc (fun u t H1 locs ht hvm hw hB hz1 hk1 hS => ?_)
  obtain ⟨hP1, hK1, hD1⟩ := hB
  rw [ht] at hP1
  obtain ⟨hP, hD⟩ := va_join (wr := [(a_fld, .inr (4, [.int fld_wide, .int fld_high, .ref a_coef, .ref a_mags, .ref a_marks, .int fld_band, .int fld_causal])), (a_mags, .inl (cI, mags_n, .inl mags_f)), (a_marks, .inl (cI, marks_n, .inl marks_f))]) (w1 := (wd_pb a_pb a_fld a_plan a_row a_ctx a_cw a_rw a_cr a_rr a_scan pb_style pb_isWritten pb_isRead)) hP hD [3] [0, 1, 2] rfl rfl (by decide) (by decide) hk1 hFc hP1 hD1
  have hP : va_P (dC, dI) vwCl (wd_fld_mags_marks_pb cI a_fld a_coef a_mags a_marks a_pb a_plan a_row a_ctx a_cw a_rw a_cr a_rr a_scan fld_wide fld_high fld_band fld_causal mags_n mags_f marks_n marks_f pb_style pb_isWritten pb_isRead) H1 := hP.sub [0, 1, 2, 3] rfl
  have hD : va_D A (wd_fld_mags_marks_pb cI a_fld a_coef a_mags a_marks a_pb a_plan a_row a_ctx a_cw a_rw a_cr a_rr a_scan fld_wide fld_high fld_band fld_causal mags_n mags_f marks_n marks_f pb_style pb_isWritten pb_isRead) := hD.sub [0, 1, 2, 3] (by decide) rfl
  generalize H1 = H at hP hS ⊢
  have hpre := hpre.2
  refine lv_iconst (v := 0) hx hb dX10_sum_4 (by decide) ?_
  refine lv_istore_n (lv' := [(1, .int (0 : Int32)), (0, .ref a_pb)]) hx hb dX10_sum_5 rfl hl (by decide) rfl (fun ls hl => ?_)
  refine lv_iconst (v := 0) hx hb dX10_sum_6 (by decide) ?_
  refine lv_istore_n (lv' := [(2, .int (0 : Int32)), (1, .int (0 : Int32)), (0, .ref a_pb)]) hx hb dX10_sum_7 rfl hl (by decide) rfl (fun ls hl => ?_)
  obtain ⟨j_2, hj_2⟩ : ∃ z, L_X10_sum_j_2 fld_wide fld_high mags_f marks_f fu (0 : Int32) (0 : Int32) = z := ⟨_, rfl⟩
  have hg : j_2.1 = g := by first | (rw [hj_2] at hg; exact hg) | (subst hj_2; exact hg)
  have hJ_j_2 : ∀ (H : Heap) (locs : List Loc) (ls : Array Slot), va_P (dC, dI) vwCl (wd_fld_mags_marks_pb cI a_fld a_coef a_mags a_marks a_pb a_plan a_row a_ctx a_cw a_rw a_cr a_rr a_scan fld_wide fld_high fld_band fld_causal mags_n mags_f marks_n marks_f pb_style pb_isWritten pb_isRead) H → va_D A (wd_fld_mags_marks_pb cI a_fld a_coef a_mags a_marks a_pb a_plan a_row a_ctx a_cw a_rw a_cr a_rr a_scan fld_wide fld_high fld_band fld_causal mags_n mags_f marks_n marks_f pb_style pb_isWritten pb_isRead) → va_S A s.heap H locs → lv_has ls 3 [(0, .ref a_pb), (1, .int j_2.1), (2, .int j_2.2)] → W p l e (headSpec wsX10_sum rm_X10_sum).room s m ([.ref a_pb] : List Value).toArray below meth c H locs 0 0 Q (F0 m 47 ls []) := by
    intro H locs ls hP hD hS hl
    refine lv_iload_n hx hb dX10_sum_47 rfl (lv_at hl 1 rfl) ?_
    subst hg
    rw [← hQe]
    exact W.iret (v := j_2.1) hx hb hr (fun t ht hW => ⟨⟨j_2.1, (), rfl, rfl, by rw [ht]; exact hP, va_K.moved hW.alike hK, hD⟩, hS.F ht⟩) hS.2.2 dX10_sum_48
  have hL_j_2 : ∀ (n : Nat) (v1_j_2 : Int32) (v2_j_2 : Int32) (H : Heap) (locs : List Loc) (ls : Array Slot), PL_X10_sum_j_2 fld_wide fld_high mags_n mags_f marks_n marks_f n v1_j_2 v2_j_2 → L_X10_sum_j_2 fld_wide fld_high mags_f marks_f n v1_j_2 v2_j_2 = j_2 → va_P (dC, dI) vwCl (wd_fld_mags_marks_pb cI a_fld a_coef a_mags a_marks a_pb a_plan a_row a_ctx a_cw a_rw a_cr a_rr a_scan fld_wide fld_high fld_band fld_causal mags_n mags_f marks_n marks_f pb_style pb_isWritten pb_isRead) H → va_D A (wd_fld_mags_marks_pb cI a_fld a_coef a_mags a_marks a_pb a_plan a_row a_ctx a_cw a_rw a_cr a_rr a_scan fld_wide fld_high fld_band fld_causal mags_n mags_f marks_n marks_f pb_style pb_isWritten pb_isRead) → va_S A s.heap H locs → lv_has ls 3 [(0, .ref a_pb), (1, .int v1_j_2), (2, .int v2_j_2)] → W p l e (headSpec wsX10_sum rm_X10_sum).room s m ([.ref a_pb] : List Value).toArray below meth c H locs 0 0 Q (F0 m 8 ls []) := by
    intro n
    induction n with
    | zero => intro v1_j_2 v2_j_2 H locs ls hpre; exact absurd hpre id
    | succ n ih =>
      intro v1_j_2 v2_j_2 H locs ls hpre hg hP hD hS hl
      rw [PL_X10_sum_j_2] at hpre
      rw [L_X10_sum_j_2] at hg
      refine lv_iload_n hx hb dX10_sum_8 rfl (lv_at hl 2 rfl) ?_
      refine lv_aload_n hx hb dX10_sum_9 rfl (lv_at hl 0 rfl) ?_
      refine va_get (D := (dC, dI)) (ci := 9) (v := .ref a_fld) (C := RX10) (T := TX10) (N := 12) hx hb hts iw_X10_sum_X10 hown hK hP 3 rfl rfl 0 (by decide) (hts (.fieldLink RX10 12 "PlaneBlocks" "field" "LPlaneBlocks$Field;") (by decide +kernel)) (fun _ h9 => h9) rfl dX10_sum_10 ?_
      refine va_get (D := (dC, dI)) (ci := 4) (v := .int fld_wide) (C := RX5) (T := TX5) (N := 7) hx hb hts iw_X10_sum_X5 hown hK hP 0 rfl rfl 0 (by decide) (hts (.fieldLink RX10 126 "PlaneBlocks$Field" "wide" "I") (by decide +kernel)) (fun _ h9 => h9) rfl dX10_sum_13 ?_
      refine lv_aload_n hx hb dX10_sum_16 rfl (lv_at hl 0 rfl) ?_
      refine va_get (D := (dC, dI)) (ci := 9) (v := .ref a_fld) (C := RX10) (T := TX10) (N := 12) hx hb hts iw_X10_sum_X10 hown hK hP 3 rfl rfl 0 (by decide) (hts (.fieldLink RX10 12 "PlaneBlocks" "field" "LPlaneBlocks$Field;") (by decide +kernel)) (fun _ h9 => h9) rfl dX10_sum_17 ?_
      refine va_get (D := (dC, dI)) (ci := 4) (v := .int fld_high) (C := RX5) (T := TX5) (N := 7) hx hb hts iw_X10_sum_X5 hown hK hP 0 rfl rfl 1 (by decide) (hts (.fieldLink RX10 123 "PlaneBlocks$Field" "high" "I") (by decide +kernel)) (fun _ h9 => h9) rfl dX10_sum_20 ?_
      refine lv_imul hx hb dX10_sum_23 ?_
      refine lv_icmp_ge (tgt := 47) hx hb dX10_sum_24 (by decide) (fun c_3 => ?_) (fun c_3 => ?_)
      · rw [if_pos c_3] at hg
        exact hJ_j_2 _ _ _ hP hD hS (by rw [← hg]; exact lv_sub hl [0, 1, 2] rfl)
      · rw [if_neg c_3] at hg
        have hpre := hpre c_3
        refine lv_bipush (v := 31) hx hb dX10_sum_27 (by decide) ?_
        refine lv_iload_n hx hb dX10_sum_29 rfl (lv_at hl 1 rfl) ?_
        refine lv_imul hx hb dX10_sum_30 ?_
        refine lv_aload_n hx hb dX10_sum_31 rfl (lv_at hl 0 rfl) ?_
        refine va_get (D := (dC, dI)) (ci := 9) (v := .ref a_fld) (C := RX10) (T := TX10) (N := 12) hx hb hts iw_X10_sum_X10 hown hK hP 3 rfl rfl 0 (by decide) (hts (.fieldLink RX10 12 "PlaneBlocks" "field" "LPlaneBlocks$Field;") (by decide +kernel)) (fun _ h9 => h9) rfl dX10_sum_32 ?_
        refine lv_iload_n hx hb dX10_sum_35 rfl (lv_at hl 2 rfl) ?_
        have hPc := hP.sub (ws' := (wd_fld_mags_marks cI a_fld a_coef a_mags a_marks fld_wide fld_high fld_band fld_causal mags_n mags_f marks_n marks_f)) [0, 1, 2] rfl
        have hDc := hD.sub (ws' := (wd_fld_mags_marks cI a_fld a_coef a_mags a_marks fld_wide fld_high fld_band fld_causal mags_n mags_f marks_n marks_f)) [0, 1, 2] (by decide) rfl
        have hFc := va_free (wc := (wd_fld_mags_marks cI a_fld a_coef a_mags a_marks fld_wide fld_high fld_band fld_causal mags_n mags_f marks_n marks_f)) hD hS hA [0, 1, 2] rfl
        refine va_calli (va_runV (As := [.int v2_j_2]) (rest := [.int ((31 : Int32) * v1_j_2)]) ⟨hx, hb, hml, hown, hts⟩ (c_X5_valueOf l dC dI cI cJ cZ a_fld a_coef a_mags a_marks H.size fld_wide fld_high fld_band fld_causal mags_n mags_f marks_n marks_f v2_j_2 hpre.1) (cwV 1 hts gX10_sum_X5_valueOf rfl rfl rfl (by decide +kernel) ⟨Nat.le_of_ble_eq_true rfl, Nat.le_of_ble_eq_true rfl⟩) ⟨fun a U g mk q => by obtain ⟨q0, q1, qP, qK, qD⟩ := q; exact ⟨q0, q1, qP, va_K.moved (u := U) (U := U.calling g mk a) (Vm.Alike.refl U.vm) qK, qD⟩, va_recv hK hPc (ci := 4) (q0 := 0) rfl rfl, fun U hU hW => ⟨rfl, by rw [hU], by rw [hU]; exact hPc, va_K.moved hW.alike hK, hDc.weaken (fun _ _ _ _ => trivial)⟩⟩ rfl rfl hl.1 rfl (lv_room (Nat.le_of_ble_eq_true rfl)) dX10_sum_36 ⟨Nat.le_of_ble_eq_true rfl, Nat.le_of_ble_eq_true rfl⟩) hS (fun q _ h => hFc q h) hFc (fun r u t H1 locs ht hvm hw hB hz1 hk1 hS => ?_)
        obtain ⟨hP1, hK1, hD1⟩ := hB
        rw [ht] at hP1
        obtain ⟨r_4, hr_4⟩ : ∃ z, F_X5_valueOf v2_j_2 mags_f marks_f = z := ⟨_, rfl⟩
        try rw [hr_4] at hw
        try rw [hr_4] at hP1
        try rw [hr_4] at hD1
        have hg : (L_X10_sum_j_2 fld_wide fld_high mags_f marks_f n (((31 : Int32) * v1_j_2) + r_4) (v2_j_2 + (1 : Int32))) = j_2 := by first | (rw [hr_4] at hg; exact hg) | (subst hr_4; exact hg)
        have hw := hw.symm
        subst hw
        obtain ⟨hP, hD⟩ := va_join (wr := [(a_pb, .inr (9, [.ref a_fld, .ref a_plan, .ref a_row, .ref a_ctx, .ref a_cw, .ref a_rw, .ref a_cr, .ref a_rr, .ref a_scan, .int pb_style, .int pb_isWritten, .int pb_isRead]))]) (w1 := (wd_fld_mags_marks cI a_fld a_coef a_mags a_marks fld_wide fld_high fld_band fld_causal mags_n mags_f marks_n marks_f)) hP hD [0, 1, 2] [3] rfl rfl (by decide) (by decide) hk1 hFc hP1 hD1
        have hP : va_P (dC, dI) vwCl (wd_fld_mags_marks_pb cI a_fld a_coef a_mags a_marks a_pb a_plan a_row a_ctx a_cw a_rw a_cr a_rr a_scan fld_wide fld_high fld_band fld_causal mags_n mags_f marks_n marks_f pb_style pb_isWritten pb_isRead) H1 := hP.sub [1, 2, 3, 0] rfl
        have hD : va_D A (wd_fld_mags_marks_pb cI a_fld a_coef a_mags a_marks a_pb a_plan a_row a_ctx a_cw a_rw a_cr a_rr a_scan fld_wide fld_high fld_band fld_causal mags_n mags_f marks_n marks_f pb_style pb_isWritten pb_isRead) := hD.sub [1, 2, 3, 0] (by decide) rfl
        generalize H1 = H at hP hS ⊢
        have hpre := hpre.2 r_4 hr_4
        refine lv_iadd hx hb dX10_sum_39 ?_
        refine lv_istore_n (lv' := [(1, .int (((31 : Int32) * v1_j_2) + r_4)), (0, .ref a_pb), (2, .int v2_j_2)]) hx hb dX10_sum_40 rfl hl (by decide) rfl (fun ls hl => ?_)
        refine lv_iinc (v := (v2_j_2 + (1 : Int32))) (lv' := [(2, .int (v2_j_2 + (1 : Int32))), (1, .int (((31 : Int32) * v1_j_2) + r_4)), (0, .ref a_pb)]) hx hb dX10_sum_41 hl (k := 2) rfl rfl (by decide) rfl (fun ls hl => ?_)
        refine lv_goto (tgt := 8) hx hb dX10_sum_44 (by decide) ?_
        exact ih (((31 : Int32) * v1_j_2) + r_4) (v2_j_2 + (1 : Int32)) _ _ _ hpre hg hP hD hS (lv_sub hl [2, 1, 0] rfl)
  exact hL_j_2 fu (0 : Int32) (0 : Int32) _ _ _ hpre hj_2 hP hD hS (lv_sub hl [2, 1, 0] rfl)

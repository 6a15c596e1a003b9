set_option maxHeartbeats 4000000 in
set_option maxRecDepth 100000 in
theorem cy_L_fill_3 (l : Launch) (hl0 : l.stackTraces = false) (dC : Nat → ClassId) (dI : Nat → Nat → Nat) (cI cJ cZ : ClassId) (tP tN tO : Nat) (a_fld : Nat) (a_coef : Nat) (a_mags : Nat) (a_marks : Nat) (a_pb : Nat) (a_plan : Nat) (a_row : Nat) (a_ctx : Nat) (a_cw : Nat) (a_rw : Nat) (a_cr : Nat) (a_rr : Nat) (a_scan : Nat) (sz : Nat) (fld_wide : Int32) (fld_high : Int32) (fld_band : Int32) (fld_causal : Int32) (coef_n : Nat) (coef_f : Nat → Int32) (pb_style : Int32) (pb_isWritten : Int32) (pb_isRead : Int32) (p2 : Int32) (p3 : Int32) (p4 : Int32) (p5 : Int32) (hT : TX_X10_fill p5 = 3) : Met l yL_fill wsL_fill (rm_L_fill 6) (va_Pc [.ref a_pb, .int p2, .int p3, .int p4, .int p5] (fun U => U.heap.size = sz ∧ va_P (dC, dI) vwCl (wd_fld_coef_pb cI a_fld a_coef a_mags a_marks a_pb a_plan a_row a_ctx a_cw a_rw a_cr a_rr a_scan fld_wide fld_high fld_band fld_causal coef_n coef_f pb_style pb_isWritten pb_isRead) U.heap ∧ va_K (dC, dI) vwCl [(cI, .int), (cJ, .long), (cZ, .boolean)] U ∧ va_D (fun _ => True) (wd_fld_coef_pb cI a_fld a_coef a_mags a_marks a_pb a_plan a_row a_ctx a_cw a_rw a_cr a_rr a_scan fld_wide fld_high fld_band fld_causal coef_n coef_f pb_style pb_isWritten pb_isRead) ∧ Zl tP tN tO (va_A (wd_fld_coef_pb cI a_fld a_coef a_mags a_marks a_pb a_plan a_row a_ctx a_cw a_rw a_cr a_rr a_scan fld_wide fld_high fld_band fld_causal coef_n coef_f pb_style pb_isWritten pb_isRead) sz) U U.heap)) (Q_L_fill dC dI cI cJ cZ tP tN tO (va_A (wd_fld_coef_pb cI a_fld a_coef a_mags a_marks a_pb a_plan a_row a_ctx a_cw a_rw a_cr a_rr a_scan fld_wide fld_high fld_band fld_causal coef_n coef_f pb_style pb_isWritten pb_isRead) sz) a_fld a_coef a_mags a_marks a_pb a_plan a_row a_ctx a_cw a_rw a_cr a_rr a_scan fld_wide fld_high fld_band fld_causal coef_n coef_f pb_style pb_isWritten pb_isRead ((1 : Int32), coef_f, pb_isWritten, pb_isRead)) 6 6 (va_A (wd_fld_coef_pb cI a_fld a_coef a_mags a_marks a_pb a_plan a_row a_ctx a_cw a_rw a_cr a_rr a_scan fld_wide fld_high fld_band fld_causal coef_n coef_f pb_style pb_isWritten pb_isRead) sz) := by
  refine va_MetW (cc := cL_fill) (maxL := 6) (ret := (some .int)) (hh := [(0, 9, 12, 13)]) (by decide) rfl ?_
  intro p e s m args below meth c s₁ B hml hv
  obtain ⟨rfl, hsz, hP, hK, hD0, hZ⟩ := hv
  have hx := B.exec
  have hb := B.bytes
  have hr := B.returns
  have hts := atoms_spec (ws := wsL_fill) B.pre
  have hown : s.vm.findClass RL = some m.cls := findClass_of_methodNamed B.named
  have hlocks := B.notSynchronized
  subst hsz
  have hD := hD0.self (sz := s.heap.size)
  generalize hAe : va_A (wd_fld_coef_pb cI a_fld a_coef a_mags a_marks a_pb a_plan a_row a_ctx a_cw a_rw a_cr a_rr a_scan fld_wide fld_high fld_band fld_causal coef_n coef_f pb_style pb_isWritten pb_isRead) s.heap.size = A at hD hZ ⊢
  have hA : ∀ q : Nat, s.heap.size ≤ q → A q := fun q h => by rw [← hAe]; exact Or.inr h
  have hS : va_S A s.heap s.heap [] := va_S.rf
  obtain ⟨H, hH⟩ : ∃ z, z = s.heap := ⟨_, rfl⟩
  have hP : va_P (dC, dI) vwCl (wd_fld_coef_pb cI a_fld a_coef a_mags a_marks a_pb a_plan a_row a_ctx a_cw a_rw a_cr a_rr a_scan fld_wide fld_high fld_band fld_causal coef_n coef_f pb_style pb_isWritten pb_isRead) H := by rw [hH]; exact hP
  have hS : va_S A s.heap H [] := by rw [hH]; exact va_S.rf
  have htab : c.exceptionTable.toList = tableOf [(0, 9, 12, 13)] := vx_table (x := yL_fill) B (hts _ List.mem_cons_self)
  generalize hQe : MQ below (Q_L_fill dC dI cI cJ cZ tP tN tO A a_fld a_coef a_mags a_marks a_pb a_plan a_row a_ctx a_cw a_rw a_cr a_rr a_scan fld_wide fld_high fld_band fld_causal coef_n coef_f pb_style pb_isWritten pb_isRead ((1 : Int32), coef_f, pb_isWritten, pb_isRead)) _ s 6 6 A = Q
  rw [← hH]
  clear hH
  have hl := lv_entry ([.ref a_pb, .int p2, .int p3, .int p4, .int p5]) (n := 6) (Nat.le_of_ble_eq_true rfl)
  rw [lg_entry_eq]
  generalize (lg_sl ([.ref a_pb, .int p2, .int p3, .int p4, .int p5]) ++ List.replicate (6 - (lg_sl ([.ref a_pb, .int p2, .int p3, .int p4, .int p5])).length) Slot.unset).toArray = ls at hl ⊢
  have hl : lv_has ls 6 [(0, .ref a_pb), (1, .int p2), (2, .int p3), (3, .int p4), (4, .int p5)] := hl
  refine lv_aload_n hx hb dL_fill_0 rfl (lv_at hl 0 rfl) ?_
  refine lv_iload_n hx hb dL_fill_1 rfl (lv_at hl 1 rfl) ?_
  refine lv_iload_n hx hb dL_fill_2 rfl (lv_at hl 2 rfl) ?_
  refine lv_iload_n hx hb dL_fill_3 rfl (lv_at hl 3 rfl) ?_
  refine lv_iload hx hb dL_fill_4 (lv_at hl 4 rfl) ?_
  have hPc := hP.sub (ws' := (wd_fld_coef_pb cI a_fld a_coef a_mags a_marks a_pb a_plan a_row a_ctx a_cw a_rw a_cr a_rr a_scan fld_wide fld_high fld_band fld_causal coef_n coef_f pb_style pb_isWritten pb_isRead)) [0, 1, 2] rfl
  have hDc := hD.sub (ws' := (wd_fld_coef_pb cI a_fld a_coef a_mags a_marks a_pb a_plan a_row a_ctx a_cw a_rw a_cr a_rr a_scan fld_wide fld_high fld_band fld_causal coef_n coef_f pb_style pb_isWritten pb_isRead)) [0, 1, 2] (by decide) rfl
  have hFc := va_free (wc := (wd_fld_coef_pb cI a_fld a_coef a_mags a_marks a_pb a_plan a_row a_ctx a_cw a_rw a_cr a_rr a_scan fld_wide fld_high fld_band fld_causal coef_n coef_f pb_style pb_isWritten pb_isRead)) hD hS hA [0, 1, 2] rfl
  refine vx_callv (vx_runV (As := [.int p2, .int p3, .int p4, .int p5]) (rest := []) ⟨hx, hb, hml, hown, hts⟩ (cx_X10_fill l hl0 dC dI cI cJ cZ a_fld a_coef a_mags a_marks a_pb a_plan a_row a_ctx a_cw a_rw a_cr a_rr a_scan H.size fld_wide fld_high fld_band fld_causal coef_n coef_f pb_style pb_isWritten pb_isRead p2 p3 p4 p5 3 (by decide) hT) (cwV 4 hts gL_fill_X10_fill rfl rfl rfl (by decide +kernel) ⟨Nat.le_of_ble_eq_true rfl, Nat.le_of_ble_eq_true rfl⟩) ⟨fun a U g mk q => by obtain ⟨q0, q1, qP, qK, qD, qZ⟩ := q; exact ⟨q0, q1, qP, va_K.moved (u := U) (U := U.calling g mk a) (Vm.Alike.refl U.vm) qK, qD, Zt.same (u := U) (U := U.calling g mk a) rfl qZ⟩, va_recv hK hPc (ci := 9) (q0 := 2) rfl rfl, fun U hU hW => ⟨rfl, by rw [hU], by rw [hU]; exact hPc, va_K.moved hW.alike hK, hDc.weaken (fun _ _ _ _ => trivial), by rw [hU]; exact ((hZ.2.kept hS.2.1).narrow hFc).warm hW⟩⟩ rfl rfl hl.1 rfl (lv_room (Nat.le_of_ble_eq_true rfl)) dL_fill_6 ⟨Nat.le_of_ble_eq_true rfl, Nat.le_of_ble_eq_true rfl⟩) hS (fun q _ h => hFc q h) hFc (fun q _ h => hFc q h) (fun E ce q9 u t H1 locs ht hvm hp hB hz1 hk1 hS hce hcv hcl => ?_) (fun u t H1 locs ht hvm hp hB hz1 hk1 hS => hp.elim)
  obtain ⟨hE, hP1, hK1, hD1⟩ := hB
  rw [ht] at hP1
  have hE : E = "java/lang/IllegalArgumentException" := hE
  subst hE
  obtain ⟨hP, hD⟩ := va_join (wr := []) (w1 := (wd_fld_coef_pb cI a_fld a_coef a_mags a_marks a_pb a_plan a_row a_ctx a_cw a_rw a_cr a_rr a_scan fld_wide fld_high fld_band fld_causal coef_n coef_f pb_style pb_isWritten pb_isRead)) hP hD [0, 1, 2] [] rfl rfl (by decide) (by decide) hk1 hFc hP1 hD1
  have hP : va_P (dC, dI) vwCl (wd_fld_coef_pb cI a_fld a_coef a_mags a_marks a_pb a_plan a_row a_ctx a_cw a_rw a_cr a_rr a_scan fld_wide fld_high fld_band fld_causal coef_n coef_f pb_style pb_isWritten pb_isRead) H1 := hP.sub [0, 1, 2] rfl
  have hD : va_D A (wd_fld_coef_pb cI a_fld a_coef a_mags a_marks a_pb a_plan a_row a_ctx a_cw a_rw a_cr a_rr a_scan fld_wide fld_high fld_band fld_causal coef_n coef_f pb_style pb_isWritten pb_isRead) := hD.sub [0, 1, 2] (by decide) rfl
  have hpass : ∀ z ∈ ([] : List ExceptionTableEntry), covers z 6 = false ∨ (z.catchType ≠ 0 ∧ ∃ nm : String, (Cond.classLink RL z.catchType nm).before [.ref a_pb, .int p2, .int p3, .int p4, .int p5].toArray s = true ∧ va_Nc "java/lang/IllegalArgumentException" nm s) := fun z hz => nomatch hz
  refine vx_catch (own := RL) (name := "java/lang/IllegalArgumentException") (E := "java/lang/IllegalArgumentException") hown [] ⟨0, 9, 12, 13⟩ [] htab hpass (by decide) (by decide) (hts (.classLink RL 13 "java/lang/IllegalArgumentException") (by decide +kernel)) (va_tabs rfl rfl hZ.2.2.2.1.2.2.2.1) hce hcv hcl ?_
  refine lv_astore (lv' := [(5, .ref q9), (0, .ref a_pb), (1, .int p2), (2, .int p3), (3, .int p4), (4, .int p5)]) hx hb dL_fill_12 hl (by decide) rfl (fun ls hl => ?_)
  refine lv_iconst (v := 1) hx hb dL_fill_14 (by decide) ?_
  refine W.widen (k := 6) (n := 6) (by decide) (by decide) ?_
  rw [← hQe]
  exact W.iret (v := (1 : Int32)) hx hb hr (fun t ht hW => ⟨⟨(1 : Int32), (), rfl, rfl, by rw [ht]; exact hP, va_K.moved hW.alike hK, hD⟩, hS.F ht⟩) hS.2.2 dL_fill_15
noncomputable def F_L_fill (p2 : Int32) (p3 : Int32) (p4 : Int32) (p5 : Int32) (fld_wide : Int32) (fld_high : Int32) (coef_f : Nat → Int32) (pb_isWritten : Int32) (pb_isRead : Int32) : (Int32 × (Nat → Int32) × Int32 × Int32) := if TX_X10_fill p5 = 0 then (FA_L_fill p2 p3 p4 p5 fld_wide fld_high coef_f) else (if TX_X10_fill p5 = 3 then (1 : Int32) else (0 : Int32), coef_f, pb_isWritten, pb_isRead)
noncomputable def D_L_fill (p5 : Int32) : Nat := if TX_X10_fill p5 = 0 then DA_L_fill else 6
def P_L_fill (p2 : Int32) (p3 : Int32) (p4 : Int32) (p5 : Int32) (fld_wide : Int32) (fld_high : Int32) (coef_n : Nat) (coef_f : Nat → Int32) : Prop := (TX_X10_fill p5 = 0 → (PA_L_fill p2 p3 p4 p5 fld_wide fld_high coef_n coef_f))
theorem txr_L_fill (p4 : Int32) : TX_X10_fill p4 = 0 ∨ TX_X10_fill p4 = 3 := by
  unfold TX_X10_fill 
  try dsimp only
  repeat' split
  all_goals first | (simp; done) | (simp_all; done) | omega
theorem c_L_fill (l : Launch) (hl0 : l.stackTraces = false) (dC : Nat → ClassId) (dI : Nat → Nat → Nat) (cI cJ cZ : ClassId) (tP tN tO : Nat) (a_fld : Nat) (a_coef : Nat) (a_mags : Nat) (a_marks : Nat) (a_pb : Nat) (a_plan : Nat) (a_row : Nat) (a_ctx : Nat) (a_cw : Nat) (a_rw : Nat) (a_cr : Nat) (a_rr : Nat) (a_scan : Nat) (sz : Nat) (fld_wide : Int32) (fld_high : Int32) (fld_band : Int32) (fld_causal : Int32) (coef_n : Nat) (coef_f : Nat → Int32) (pb_style : Int32) (pb_isWritten : Int32) (pb_isRead : Int32) (p2 : Int32) (p3 : Int32) (p4 : Int32) (p5 : Int32) (hpre : P_L_fill p2 p3 p4 p5 fld_wide fld_high coef_n coef_f) : Met l yL_fill wsL_fill (rm_L_fill (D_L_fill p5)) (va_Pc [.ref a_pb, .int p2, .int p3, .int p4, .int p5] (fun U => U.heap.size = sz ∧ va_P (dC, dI) vwCl (wd_fld_coef_pb cI a_fld a_coef a_mags a_marks a_pb a_plan a_row a_ctx a_cw a_rw a_cr a_rr a_scan fld_wide fld_high fld_band fld_causal coef_n coef_f pb_style pb_isWritten pb_isRead) U.heap ∧ va_K (dC, dI) vwCl [(cI, .int), (cJ, .long), (cZ, .boolean)] U ∧ va_D (fun _ => True) (wd_fld_coef_pb cI a_fld a_coef a_mags a_marks a_pb a_plan a_row a_ctx a_cw a_rw a_cr a_rr a_scan fld_wide fld_high fld_band fld_causal coef_n coef_f pb_style pb_isWritten pb_isRead) ∧ Zl tP tN tO (va_A (wd_fld_coef_pb cI a_fld a_coef a_mags a_marks a_pb a_plan a_row a_ctx a_cw a_rw a_cr a_rr a_scan fld_wide fld_high fld_band fld_causal coef_n coef_f pb_style pb_isWritten pb_isRead) sz) U U.heap)) (Q_L_fill dC dI cI cJ cZ tP tN tO (va_A (wd_fld_coef_pb cI a_fld a_coef a_mags a_marks a_pb a_plan a_row a_ctx a_cw a_rw a_cr a_rr a_scan fld_wide fld_high fld_band fld_causal coef_n coef_f pb_style pb_isWritten pb_isRead) sz) a_fld a_coef a_mags a_marks a_pb a_plan a_row a_ctx a_cw a_rw a_cr a_rr a_scan fld_wide fld_high fld_band fld_causal coef_n coef_f pb_style pb_isWritten pb_isRead (F_L_fill p2 p3 p4 p5 fld_wide fld_high coef_f pb_isWritten pb_isRead)) (D_L_fill p5) (D_L_fill p5) (va_A (wd_fld_coef_pb cI a_fld a_coef a_mags a_marks a_pb a_plan a_row a_ctx a_cw a_rw a_cr a_rr a_scan fld_wide fld_high fld_band fld_causal coef_n coef_f pb_style pb_isWritten pb_isRead) sz) := by
  by_cases h0 : TX_X10_fill p5 = 0
  · have eF : F_L_fill p2 p3 p4 p5 fld_wide fld_high coef_f pb_isWritten pb_isRead = FA_L_fill p2 p3 p4 p5 fld_wide fld_high coef_f := by unfold F_L_fill; rw [if_pos h0]
    have eD : D_L_fill p5 = DA_L_fill := by unfold D_L_fill; rw [if_pos h0]
    rw [eF, eD]
    exact ca_L_fill l hl0 dC dI cI cJ cZ tP tN tO a_fld a_coef a_mags a_marks a_pb a_plan a_row a_ctx a_cw a_rw a_cr a_rr a_scan sz fld_wide fld_high fld_band fld_causal coef_n coef_f pb_style pb_isWritten pb_isRead p2 p3 p4 p5 (hpre h0)
  · have eD : D_L_fill p5 = 6 := by unfold D_L_fill; rw [if_neg h0]
    rcases txr_L_fill p5 with h | h
    · exact absurd h h0
    · have eF : F_L_fill p2 p3 p4 p5 fld_wide fld_high coef_f pb_isWritten pb_isRead = ((1 : Int32), coef_f, pb_isWritten, pb_isRead) := by unfold F_L_fill; rw [if_neg h0, if_pos h]
      rw [eF, eD]
      exact cy_L_fill_3 l hl0 dC dI cI cJ cZ tP tN tO a_fld a_coef a_mags a_marks a_pb a_plan a_row a_ctx a_cw a_rw a_cr a_rr a_scan sz fld_wide fld_high fld_band fld_causal coef_n coef_f pb_style pb_isWritten pb_isRead p2 p3 p4 p5 h
abbrev wd_row_plan_pb_out (cJ : ClassId) (a_row : Nat) (a_bytes : Nat) (a_plan : Nat) (a_reaches : Nat) (a_gains : Nat) (a_pb : Nat) (a_fld : Nat) (a_ctx : Nat) (a_cw : Nat) (a_rw : Nat) (a_cr : Nat) (a_rr : Nat) (a_scan : Nat) (a_out : Nat) (row_count : Int32) (row_start : Int32) (plan_planes : Int32) (plan_passes : Int32) (plan_segments : Int32) (plan_style : Int32) (plan_firstOfSegment : Int32) (pb_style : Int32) (pb_isWritten : Int32) (pb_isRead : Int32) (out_n : Nat) (out_f : Nat → Int64) : va_W := [(a_row, .inr (0, [.ref a_bytes, .int row_count, .int row_start])), (a_plan, .inr (5, [.ref a_reaches, .ref a_gains, .int plan_planes, .int plan_passes, .int plan_segments, .int plan_style, .int plan_firstOfSegment])), (a_pb, .inr (9, [.ref a_fld, .ref a_plan, .ref a_row, .ref a_ctx, .ref a_cw, .ref a_rw, .ref a_cr, .ref a_rr, .ref a_scan, .int pb_style, .int pb_isWritten, .int pb_isRead])), (a_out, .inl (cJ, out_n, .inr (.inl out_f)))]
abbrev rm_L_written (Dt : Nat) : Room := { frames := 8, cells := Dt, slots := Dt, locals := 131 }
noncomputable def FA_L_written (p2 : Int32) (row_count : Int32) (plan_planes : Int32) (plan_passes : Int32) (plan_segments : Int32) (out_f : Nat → Int64) : (Int32 × (Nat → Int64)) := let r_1 := F_X10_written p2 row_count plan_planes plan_passes plan_segments; ((0 : Int32), vp_updL out_f (0 : Int32).toNatClampNeg r_1.toInt64)
noncomputable def DA_L_written : Nat := 0
def PA_L_written (p2 : Int32) (row_count : Int32) (plan_planes : Int32) (plan_passes : Int32) (plan_segments : Int32) (pb_isWritten : Int32) (out_n : Nat) : Prop := (P_X10_written p2 pb_isWritten) ∧ (∀ r_1, F_X10_written p2 row_count plan_planes plan_passes plan_segments = r_1 → (vp_in (0 : Int32) out_n))
abbrev Q_L_written (dC : Nat → ClassId) (dI : Nat → Nat → Nat) (cI cJ cZ : ClassId) (tP tN tO : Nat) (A : Nat → Prop) (a_row : Nat) (a_bytes : Nat) (a_plan : Nat) (a_reaches : Nat) (a_gains : Nat) (a_pb : Nat) (a_fld : Nat) (a_ctx : Nat) (a_cw : Nat) (a_rw : Nat) (a_cr : Nat) (a_rr : Nat) (a_scan : Nat) (a_out : Nat) (row_count : Int32) (row_start : Int32) (plan_planes : Int32) (plan_passes : Int32) (plan_segments : Int32) (plan_style : Int32) (plan_firstOfSegment : Int32) (pb_style : Int32) (pb_isWritten : Int32) (pb_isRead : Int32) (out_n : Nat) (out_f : Nat → Int64) (g : (Int32 × (Nat → Int64))) : Array Value → State → Outcome → State → Prop := va_Qi (fun (r : Int32) (_ : Unit) => r = g.1) (fun u t => va_P (dC, dI) vwCl (wd_row_plan_pb_out cJ a_row a_bytes a_plan a_reaches a_gains a_pb a_fld a_ctx a_cw a_rw a_cr a_rr a_scan a_out row_count row_start plan_planes plan_passes plan_segments plan_style plan_firstOfSegment pb_style pb_isWritten pb_isRead out_n g.2) t.heap ∧ va_K (dC, dI) vwCl [(cI, .int), (cJ, .long), (cZ, .boolean)] t ∧ va_D A (wd_row_plan_pb_out cJ a_row a_bytes a_plan a_reaches a_gains a_pb a_fld a_ctx a_cw a_rw a_cr a_rr a_scan a_out row_count row_start plan_planes plan_passes plan_segments plan_style plan_firstOfSegment pb_style pb_isWritten pb_isRead out_n g.2)) A
set_option maxHeartbeats 4000000 in
set_option maxRecDepth 100000 in
theorem ca_L_written (l : Launch) (hl0 : l.stackTraces = false) (dC : Nat → ClassId) (dI : Nat → Nat → Nat) (cI cJ cZ : ClassId) (tP tN tO : Nat) (a_row : Nat) (a_bytes : Nat) (a_plan : Nat) (a_reaches : Nat) (a_gains : Nat) (a_pb : Nat) (a_fld : Nat) (a_ctx : Nat) (a_cw : Nat) (a_rw : Nat) (a_cr : Nat) (a_rr : Nat) (a_scan : Nat) (a_out : Nat) (sz : Nat) (row_count : Int32) (row_start : Int32) (plan_planes : Int32) (plan_passes : Int32) (plan_segments : Int32) (plan_style : Int32) (plan_firstOfSegment : Int32) (pb_style : Int32) (pb_isWritten : Int32) (pb_isRead : Int32) (out_n : Nat) (out_f : Nat → Int64) (p2 : Int32) (hpre : PA_L_written p2 row_count plan_planes plan_passes plan_segments pb_isWritten out_n) : Met l yL_written wsL_written (rm_L_written (DA_L_written)) (va_Pc [.ref a_pb, .int p2, .ref a_out] (fun U => U.heap.size = sz ∧ va_P (dC, dI) vwCl (wd_row_plan_pb_out cJ a_row a_bytes a_plan a_reaches a_gains a_pb a_fld a_ctx a_cw a_rw a_cr a_rr a_scan a_out row_count row_start plan_planes plan_passes plan_segments plan_style plan_firstOfSegment pb_style pb_isWritten pb_isRead out_n out_f) U.heap ∧ va_K (dC, dI) vwCl [(cI, .int), (cJ, .long), (cZ, .boolean)] U ∧ va_D (fun _ => True) (wd_row_plan_pb_out cJ a_row a_bytes a_plan a_reaches a_gains a_pb a_fld a_ctx a_cw a_rw a_cr a_rr a_scan a_out row_count row_start plan_planes plan_passes plan_segments plan_style plan_firstOfSegment pb_style pb_isWritten pb_isRead out_n out_f) ∧ Zl tP tN tO (va_A (wd_row_plan_pb_out cJ a_row a_bytes a_plan a_reaches a_gains a_pb a_fld a_ctx a_cw a_rw a_cr a_rr a_scan a_out row_count row_start plan_planes plan_passes plan_segments plan_style plan_firstOfSegment pb_style pb_isWritten pb_isRead out_n out_f) sz) U U.heap)) (Q_L_written dC dI cI cJ cZ tP tN tO (va_A (wd_row_plan_pb_out cJ a_row a_bytes a_plan a_reaches a_gains a_pb a_fld a_ctx a_cw a_rw a_cr a_rr a_scan a_out row_count row_start plan_planes plan_passes plan_segments plan_style plan_firstOfSegment pb_style pb_isWritten pb_isRead out_n out_f) sz) a_row a_bytes a_plan a_reaches a_gains a_pb a_fld a_ctx a_cw a_rw a_cr a_rr a_scan a_out row_count row_start plan_planes plan_passes plan_segments plan_style plan_firstOfSegment pb_style pb_isWritten pb_isRead out_n out_f (FA_L_written p2 row_count plan_planes plan_passes plan_segments out_f)) (DA_L_written) (DA_L_written) (va_A (wd_row_plan_pb_out cJ a_row a_bytes a_plan a_reaches a_gains a_pb a_fld a_ctx a_cw a_rw a_cr a_rr a_scan a_out row_count row_start plan_planes plan_passes plan_segments plan_style plan_firstOfSegment pb_style pb_isWritten pb_isRead out_n out_f) sz) := by
  refine va_MetW (cc := cL_written) (maxL := 4) (ret := (some .int)) (hh := [(0, 9, 12, 26), (0, 9, 15, 13)]) (by decide) rfl ?_
  intro p e s m args below meth c s₁ B hml hv
  obtain ⟨rfl, hsz, hP, hK, hD0, hZ⟩ := hv
  have hx := B.exec
  have hb := B.bytes
  have hr := B.returns
  have hts := atoms_spec (ws := wsL_written) B.pre
  have hown : s.vm.findClass RL = some m.cls := findClass_of_methodNamed B.named
  have hlocks := B.notSynchronized
  subst hsz
  have hD := hD0.self (sz := s.heap.size)
  generalize hAe : va_A (wd_row_plan_pb_out cJ a_row a_bytes a_plan a_reaches a_gains a_pb a_fld a_ctx a_cw a_rw a_cr a_rr a_scan a_out row_count row_start plan_planes plan_passes plan_segments plan_style plan_firstOfSegment pb_style pb_isWritten pb_isRead out_n out_f) s.heap.size = A at hD hZ ⊢
  have hA : ∀ q : Nat, s.heap.size ≤ q → A q := fun q h => by rw [← hAe]; exact Or.inr h
  have hS : va_S A s.heap s.heap [] := va_S.rf
  obtain ⟨H, hH⟩ : ∃ z, z = s.heap := ⟨_, rfl⟩
  have hP : va_P (dC, dI) vwCl (wd_row_plan_pb_out cJ a_row a_bytes a_plan a_reaches a_gains a_pb a_fld a_ctx a_cw a_rw a_cr a_rr a_scan a_out row_count row_start plan_planes plan_passes plan_segments plan_style plan_firstOfSegment pb_style pb_isWritten pb_isRead out_n out_f) H := by rw [hH]; exact hP
  have hS : va_S A s.heap H [] := by rw [hH]; exact va_S.rf
  obtain ⟨g, hg⟩ : ∃ z, FA_L_written p2 row_count plan_planes plan_passes plan_segments out_f = z := ⟨_, rfl⟩
  rw [hg]
  obtain ⟨Dt, hDt⟩ : ∃ z, DA_L_written = z := ⟨_, rfl⟩
  rw [hDt]
  generalize hQe : MQ below (Q_L_written dC dI cI cJ cZ tP tN tO A a_row a_bytes a_plan a_reaches a_gains a_pb a_fld a_ctx a_cw a_rw a_cr a_rr a_scan a_out row_count row_start plan_planes plan_passes plan_segments plan_style plan_firstOfSegment pb_style pb_isWritten pb_isRead out_n out_f g) _ s Dt Dt A = Q
  rw [← hH]
  clear hH
  have hl := lv_entry ([.ref a_pb, .int p2, .ref a_out]) (n := 4) (Nat.le_of_ble_eq_true rfl)
  rw [lg_entry_eq]
  generalize (lg_sl ([.ref a_pb, .int p2, .ref a_out]) ++ List.replicate (4 - (lg_sl ([.ref a_pb, .int p2, .ref a_out])).length) Slot.unset).toArray = ls at hl ⊢
  have hl : lv_has ls 4 [(0, .ref a_pb), (1, .int p2), (2, .ref a_out)] := hl
  unfold FA_L_written at hg
  unfold PA_L_written at hpre
  unfold DA_L_written at hDt
  obtain ⟨k, hk⟩ : ∃ z : Nat, z = 0 := ⟨_, rfl⟩
  obtain ⟨E, hE⟩ : ∃ z : Nat, z = 0 := ⟨_, rfl⟩
  have hC : k + (0) + E ≤ Dt := by rw [hk, hE, Nat.zero_add]; exact Nat.le_of_eq hDt
  refine W.widen (k := k) (n := k) (Nat.zero_le _) (Nat.zero_le _) ?_
  clear hk hE hDt
  refine lv_aload_n hx hb dL_written_0 rfl (lv_at hl 2 rfl) ?_
  refine lv_iconst (v := 0) hx hb dL_written_1 (by decide) ?_
  refine lv_aload_n hx hb dL_written_2 rfl (lv_at hl 0 rfl) ?_
  refine lv_iload_n hx hb dL_written_3 rfl (lv_at hl 1 rfl) ?_
  have hPc := hP.sub (ws' := (wd_row_plan_pb a_row a_bytes a_plan a_reaches a_gains a_pb a_fld a_ctx a_cw a_rw a_cr a_rr a_scan row_count row_start plan_planes plan_passes plan_segments plan_style plan_firstOfSegment pb_style pb_isWritten pb_isRead)) [0, 1, 2] rfl
  have hDc := hD.sub (ws' := (wd_row_plan_pb a_row a_bytes a_plan a_reaches a_gains a_pb a_fld a_ctx a_cw a_rw a_cr a_rr a_scan row_count row_start plan_planes plan_passes plan_segments plan_style plan_firstOfSegment pb_style pb_isWritten pb_isRead)) [0, 1, 2] (by decide) rfl
  have hFc := va_free (wc := (wd_row_plan_pb a_row a_bytes a_plan a_reaches a_gains a_pb a_fld a_ctx a_cw a_rw a_cr a_rr a_scan row_count row_start plan_planes plan_passes plan_segments plan_style plan_firstOfSegment pb_style pb_isWritten pb_isRead)) hD hS hA [0, 1, 2] rfl
  refine va_calli (va_runV (As := [.int p2]) (rest := [.int (0 : Int32), .ref a_out]) ⟨hx, hb, hml, hown, hts⟩ (c_X10_written l dC dI cI cJ cZ a_row a_bytes a_plan a_reaches a_gains a_pb a_fld a_ctx a_cw a_rw a_cr a_rr a_scan H.size row_count row_start plan_planes plan_passes plan_segments plan_style plan_firstOfSegment pb_style pb_isWritten pb_isRead p2 hpre.1) (cwV 1 hts gL_written_X10_written rfl rfl rfl (by decide +kernel) ⟨Nat.le_of_ble_eq_true rfl, Nat.le_of_ble_eq_true rfl⟩) ⟨fun a U g mk q => by obtain ⟨q0, q1, qP, qK, qD⟩ := q; exact ⟨q0, q1, qP, va_K.moved (u := U) (U := U.calling g mk a) (Vm.Alike.refl U.vm) qK, qD⟩, va_recv hK hPc (ci := 9) (q0 := 2) rfl rfl, fun U hU hW => ⟨rfl, by rw [hU], by rw [hU]; exact hPc, va_K.moved hW.alike hK, hDc.weaken (fun _ _ _ _ => trivial)⟩⟩ rfl rfl hl.1 rfl (lv_room (Nat.le_of_ble_eq_true rfl)) dL_written_4 ⟨k0_le hC, k0_le hC⟩) hS (fun q _ h => hFc q h) hFc (fun r u t H1 locs ht hvm hw hB hz1 hk1 hS => ?_)
  obtain ⟨hP1, hK1, hD1⟩ := hB
  rw [ht] at hP1
  obtain ⟨r_1, hr_1⟩ : ∃ z, F_X10_written p2 row_count plan_planes plan_passes plan_segments = z := ⟨_, rfl⟩
  try rw [hr_1] at hw
  try rw [hr_1] at hP1
  try rw [hr_1] at hD1
  have hg : ((0 : Int32), vp_updL out_f (0 : Int32).toNatClampNeg r_1.toInt64) = g := by first | (rw [hr_1] at hg; exact hg) | (subst hr_1; exact hg)
  have hw := hw.symm
  subst hw
  obtain ⟨hP, hD⟩ := va_join (wr := [(a_out, .inl (cJ, out_n, .inr (.inl out_f)))]) (w1 := (wd_row_plan_pb a_row a_bytes a_plan a_reaches a_gains a_pb a_fld a_ctx a_cw a_rw a_cr a_rr a_scan row_count row_start plan_planes plan_passes plan_segments plan_style plan_firstOfSegment pb_style pb_isWritten pb_isRead)) hP hD [0, 1, 2] [3] rfl rfl (by decide) (by decide) hk1 hFc hP1 hD1
  have hP : va_P (dC, dI) vwCl (wd_row_plan_pb_out cJ a_row a_bytes a_plan a_reaches a_gains a_pb a_fld a_ctx a_cw a_rw a_cr a_rr a_scan a_out row_count row_start plan_planes plan_passes plan_segments plan_style plan_firstOfSegment pb_style pb_isWritten pb_isRead out_n out_f) H1 := hP.sub [1, 2, 3, 0] rfl
  have hD : va_D A (wd_row_plan_pb_out cJ a_row a_bytes a_plan a_reaches a_gains a_pb a_fld a_ctx a_cw a_rw a_cr a_rr a_scan a_out row_count row_start plan_planes plan_passes plan_segments plan_style plan_firstOfSegment pb_style pb_isWritten pb_isRead out_n out_f) := hD.sub [1, 2, 3, 0] (by decide) rfl
  generalize H1 = H at hP hS ⊢
  have hpre := hpre.2 r_1 hr_1
  refine lv_i2l hx hb dL_written_7 rfl ?_
  have h_2 := hpre
  refine va_last hx hb hK hP hD hS 3 1 rfl rfl h_2 dL_written_8 (fun H locs hP hD hS => ?_)
  have hP : va_P (dC, dI) vwCl (wd_row_plan_pb_out cJ a_row a_bytes a_plan a_reaches a_gains a_pb a_fld a_ctx a_cw a_rw a_cr a_rr a_scan a_out row_count row_start plan_planes plan_passes plan_segments plan_style plan_firstOfSegment pb_style pb_isWritten pb_isRead out_n (vp_updL out_f (0 : Int32).toNatClampNeg r_1.toInt64)) H := hP
  have hD : va_D A (wd_row_plan_pb_out cJ a_row a_bytes a_plan a_reaches a_gains a_pb a_fld a_ctx a_cw a_rw a_cr a_rr a_scan a_out row_count row_start plan_planes plan_passes plan_segments plan_style plan_firstOfSegment pb_style pb_isWritten pb_isRead out_n (vp_updL out_f (0 : Int32).toNatClampNeg r_1.toInt64)) := hD
  refine lv_goto (tgt := 18) hx hb dL_written_9 (by decide) ?_
  refine lv_iconst (v := 0) hx hb dL_written_18 (by decide) ?_
  subst hg
  refine W.widen (k := Dt) (n := Dt) (k0_le hC) (k0_le hC) ?_
  rw [← hQe]
  exact W.iret (v := (0 : Int32)) hx hb hr (fun t ht hW => ⟨⟨(0 : Int32), (), rfl, rfl, by rw [ht]; exact hP, va_K.moved hW.alike hK, hD⟩, hS.F ht⟩) hS.2.2 dL_written_19
set_option maxHeartbeats 4000000 in
set_option maxRecDepth 100000 in
theorem cy_L_written_1 (l : Launch) (hl0 : l.stackTraces = false) (dC : Nat → ClassId) (dI : Nat → Nat → Nat) (cI cJ cZ : ClassId) (tP tN tO : Nat) (a_row : Nat) (a_bytes : Nat) (a_plan : Nat) (a_reaches : Nat) (a_gains : Nat) (a_pb : Nat) (a_fld : Nat) (a_ctx : Nat) (a_cw : Nat) (a_rw : Nat) (a_cr : Nat) (a_rr : Nat) (a_scan : Nat) (a_out : Nat) (sz : Nat) (row_count : Int32) (row_start : Int32) (plan_planes : Int32) (plan_passes : Int32) (plan_segments : Int32) (plan_style : Int32) (plan_firstOfSegment : Int32) (pb_style : Int32) (pb_isWritten : Int32) (pb_isRead : Int32) (out_n : Nat) (out_f : Nat → Int64) (p2 : Int32) (hT : TX_X10_written p2 pb_isWritten = 1) : Met l yL_written wsL_written (rm_L_written 6) (va_Pc [.ref a_pb, .int p2, .ref a_out] (fun U => U.heap.size = sz ∧ va_P (dC, dI) vwCl (wd_row_plan_pb_out cJ a_row a_bytes a_plan a_reaches a_gains a_pb a_fld a_ctx a_cw a_rw a_cr a_rr a_scan a_out row_count row_start plan_planes plan_passes plan_segments plan_style plan_firstOfSegment pb_style pb_isWritten pb_isRead out_n out_f) U.heap ∧ va_K (dC, dI) vwCl [(cI, .int), (cJ, .long), (cZ, .boolean)] U ∧ va_D (fun _ => True) (wd_row_plan_pb_out cJ a_row a_bytes a_plan a_reaches a_gains a_pb a_fld a_ctx a_cw a_rw a_cr a_rr a_scan a_out row_count row_start plan_planes plan_passes plan_segments plan_style plan_firstOfSegment pb_style pb_isWritten pb_isRead out_n out_f) ∧ Zl tP tN tO (va_A (wd_row_plan_pb_out cJ a_row a_bytes a_plan a_reaches a_gains a_pb a_fld a_ctx a_cw a_rw a_cr a_rr a_scan a_out row_count row_start plan_planes plan_passes plan_segments plan_style plan_firstOfSegment pb_style pb_isWritten pb_isRead out_n out_f) sz) U U.heap)) (Q_L_written dC dI cI cJ cZ tP tN tO (va_A (wd_row_plan_pb_out cJ a_row a_bytes a_plan a_reaches a_gains a_pb a_fld a_ctx a_cw a_rw a_cr a_rr a_scan a_out row_count row_start plan_planes plan_passes plan_segments plan_style plan_firstOfSegment pb_style pb_isWritten pb_isRead out_n out_f) sz) a_row a_bytes a_plan a_reaches a_gains a_pb a_fld a_ctx a_cw a_rw a_cr a_rr a_scan a_out row_count row_start plan_planes plan_passes plan_segments plan_style plan_firstOfSegment pb_style pb_isWritten pb_isRead out_n out_f ((1 : Int32), out_f)) 6 6 (va_A (wd_row_plan_pb_out cJ a_row a_bytes a_plan a_reaches a_gains a_pb a_fld a_ctx a_cw a_rw a_cr a_rr a_scan a_out row_count row_start plan_planes plan_passes plan_segments plan_style plan_firstOfSegment pb_style pb_isWritten pb_isRead out_n out_f) sz) := by
  refine va_MetW (cc := cL_written) (maxL := 4) (ret := (some .int)) (hh := [(0, 9, 12, 26), (0, 9, 15, 13)]) (by decide) rfl ?_
  intro p e s m args below meth c s₁ B hml hv
  obtain ⟨rfl, hsz, hP, hK, hD0, hZ⟩ := hv
  have hx := B.exec
  have hb := B.bytes
  have hr := B.returns
  have hts := atoms_spec (ws := wsL_written) B.pre
  have hown : s.vm.findClass RL = some m.cls := findClass_of_methodNamed B.named
  have hlocks := B.notSynchronized
  subst hsz
  have hD := hD0.self (sz := s.heap.size)
  generalize hAe : va_A (wd_row_plan_pb_out cJ a_row a_bytes a_plan a_reaches a_gains a_pb a_fld a_ctx a_cw a_rw a_cr a_rr a_scan a_out row_count row_start plan_planes plan_passes plan_segments plan_style plan_firstOfSegment pb_style pb_isWritten pb_isRead out_n out_f) s.heap.size = A at hD hZ ⊢
  have hA : ∀ q : Nat, s.heap.size ≤ q → A q := fun q h => by rw [← hAe]; exact Or.inr h
  have hS : va_S A s.heap s.heap [] := va_S.rf
  obtain ⟨H, hH⟩ : ∃ z, z = s.heap := ⟨_, rfl⟩
  have hP : va_P (dC, dI) vwCl (wd_row_plan_pb_out cJ a_row a_bytes a_plan a_reaches a_gains a_pb a_fld a_ctx a_cw a_rw a_cr a_rr a_scan a_out row_count row_start plan_planes plan_passes plan_segments plan_style plan_firstOfSegment pb_style pb_isWritten pb_isRead out_n out_f) H := by rw [hH]; exact hP
  have hS : va_S A s.heap H [] := by rw [hH]; exact va_S.rf
  have htab : c.exceptionTable.toList = tableOf [(0, 9, 12, 26), (0, 9, 15, 13)] := vx_table (x := yL_written) B (hts _ List.mem_cons_self)
  generalize hQe : MQ below (Q_L_written dC dI cI cJ cZ tP tN tO A a_row a_bytes a_plan a_reaches a_gains a_pb a_fld a_ctx a_cw a_rw a_cr a_rr a_scan a_out row_count row_start plan_planes plan_passes plan_segments plan_style plan_firstOfSegment pb_style pb_isWritten pb_isRead out_n out_f ((1 : Int32), out_f)) _ s 6 6 A = Q
  rw [← hH]
  clear hH
  have hl := lv_entry ([.ref a_pb, .int p2, .ref a_out]) (n := 4) (Nat.le_of_ble_eq_true rfl)
  rw [lg_entry_eq]
  generalize (lg_sl ([.ref a_pb, .int p2, .ref a_out]) ++ List.replicate (4 - (lg_sl ([.ref a_pb, .int p2, .ref a_out])).length) Slot.unset).toArray = ls at hl ⊢
  have hl : lv_has ls 4 [(0, .ref a_pb), (1, .int p2), (2, .ref a_out)] := hl
  refine lv_aload_n hx hb dL_written_0 rfl (lv_at hl 2 rfl) ?_
  refine lv_iconst (v := 0) hx hb dL_written_1 (by decide) ?_
  refine lv_aload_n hx hb dL_written_2 rfl (lv_at hl 0 rfl) ?_
  refine lv_iload_n hx hb dL_written_3 rfl (lv_at hl 1 rfl) ?_
  have hPc := hP.sub (ws' := (wd_row_plan_pb a_row a_bytes a_plan a_reaches a_gains a_pb a_fld a_ctx a_cw a_rw a_cr a_rr a_scan row_count row_start plan_planes plan_passes plan_segments plan_style plan_firstOfSegment pb_style pb_isWritten pb_isRead)) [0, 1, 2] rfl
  have hDc := hD.sub (ws' := (wd_row_plan_pb a_row a_bytes a_plan a_reaches a_gains a_pb a_fld a_ctx a_cw a_rw a_cr a_rr a_scan row_count row_start plan_planes plan_passes plan_segments plan_style plan_firstOfSegment pb_style pb_isWritten pb_isRead)) [0, 1, 2] (by decide) rfl
  have hFc := va_free (wc := (wd_row_plan_pb a_row a_bytes a_plan a_reaches a_gains a_pb a_fld a_ctx a_cw a_rw a_cr a_rr a_scan row_count row_start plan_planes plan_passes plan_segments plan_style plan_firstOfSegment pb_style pb_isWritten pb_isRead)) hD hS hA [0, 1, 2] rfl
  refine vx_calli (vx_runV (As := [.int p2]) (rest := [.int (0 : Int32), .ref a_out]) ⟨hx, hb, hml, hown, hts⟩ (cx_X10_written l hl0 dC dI cI cJ cZ a_row a_bytes a_plan a_reaches a_gains a_pb a_fld a_ctx a_cw a_rw a_cr a_rr a_scan H.size row_count row_start plan_planes plan_passes plan_segments plan_style plan_firstOfSegment pb_style pb_isWritten pb_isRead p2 1 (by decide) hT) (cwV 1 hts gL_written_X10_written rfl rfl rfl (by decide +kernel) ⟨Nat.le_of_ble_eq_true rfl, Nat.le_of_ble_eq_true rfl⟩) ⟨fun a U g mk q => by obtain ⟨q0, q1, qP, qK, qD, qZ⟩ := q; exact ⟨q0, q1, qP, va_K.moved (u := U) (U := U.calling g mk a) (Vm.Alike.refl U.vm) qK, qD, Zt.same (u := U) (U := U.calling g mk a) rfl qZ⟩, va_recv hK hPc (ci := 9) (q0 := 2) rfl rfl, fun U hU hW => ⟨rfl, by rw [hU], by rw [hU]; exact hPc, va_K.moved hW.alike hK, hDc.weaken (fun _ _ _ _ => trivial), by rw [hU]; exact ((hZ.2.kept hS.2.1).narrow hFc).warm hW⟩⟩ rfl rfl hl.1 rfl (lv_room (Nat.le_of_ble_eq_true rfl)) dL_written_4 ⟨Nat.le_of_ble_eq_true rfl, Nat.le_of_ble_eq_true rfl⟩) hS (fun q _ h => hFc q h) hFc (fun q _ h => hFc q h) (fun E ce q9 u t H1 locs ht hvm hp hB hz1 hk1 hS hce hcv hcl => ?_) (fun r u t H1 locs ht hvm hp hB hz1 hk1 hS => hp.elim)
  obtain ⟨hE, hP1, hK1, hD1⟩ := hB
  rw [ht] at hP1
  have hE : E = "java/lang/IllegalStateException" := hE
  subst hE
  obtain ⟨hP, hD⟩ := va_join (wr := [(a_out, .inl (cJ, out_n, .inr (.inl out_f)))]) (w1 := (wd_row_plan_pb a_row a_bytes a_plan a_reaches a_gains a_pb a_fld a_ctx a_cw a_rw a_cr a_rr a_scan row_count row_start plan_planes plan_passes plan_segments plan_style plan_firstOfSegment pb_style pb_isWritten pb_isRead)) hP hD [0, 1, 2] [3] rfl rfl (by decide) (by decide) hk1 hFc hP1 hD1
  have hP : va_P (dC, dI) vwCl (wd_row_plan_pb_out cJ a_row a_bytes a_plan a_reaches a_gains a_pb a_fld a_ctx a_cw a_rw a_cr a_rr a_scan a_out row_count row_start plan_planes plan_passes plan_segments plan_style plan_firstOfSegment pb_style pb_isWritten pb_isRead out_n out_f) H1 := hP.sub [1, 2, 3, 0] rfl
  have hD : va_D A (wd_row_plan_pb_out cJ a_row a_bytes a_plan a_reaches a_gains a_pb a_fld a_ctx a_cw a_rw a_cr a_rr a_scan a_out row_count row_start plan_planes plan_passes plan_segments plan_style plan_firstOfSegment pb_style pb_isWritten pb_isRead out_n out_f) := hD.sub [1, 2, 3, 0] (by decide) rfl
  have hpass : ∀ z ∈ ([] : List ExceptionTableEntry), covers z 4 = false ∨ (z.catchType ≠ 0 ∧ ∃ nm : String, (Cond.classLink RL z.catchType nm).before [.ref a_pb, .int p2, .ref a_out].toArray s = true ∧ va_Nc "java/lang/IllegalStateException" nm s) := fun z hz => nomatch hz
  refine vx_catch (own := RL) (name := "java/lang/IllegalStateException") (E := "java/lang/IllegalStateException") hown [] ⟨0, 9, 12, 26⟩ [⟨0, 9, 15, 13⟩] htab hpass (by decide) (by decide) (hts (.classLink RL 26 "java/lang/IllegalStateException") (by decide +kernel)) (va_tabs rfl rfl hZ.2.2.2.1.2.2.2.2.1) hce hcv hcl ?_
  refine lv_astore_n (lv' := [(3, .ref q9), (0, .ref a_pb), (1, .int p2), (2, .ref a_out)]) hx hb dL_written_12 rfl hl (by decide) rfl (fun ls hl => ?_)
  refine lv_iconst (v := 1) hx hb dL_written_13 (by decide) ?_
  refine W.widen (k := 6) (n := 6) (by decide) (by decide) ?_
  rw [← hQe]
  exact W.iret (v := (1 : Int32)) hx hb hr (fun t ht hW => ⟨⟨(1 : Int32), (), rfl, rfl, by rw [ht]; exact hP, va_K.moved hW.alike hK, hD⟩, hS.F ht⟩) hS.2.2 dL_written_14
set_option maxHeartbeats 4000000 in
set_option maxRecDepth 100000 in
theorem cy_L_written_3 (l : Launch) (hl0 : l.stackTraces = false) (dC : Nat → ClassId) (dI : Nat → Nat → Nat) (cI cJ cZ : ClassId) (tP tN tO : Nat) (a_row : Nat) (a_bytes : Nat) (a_plan : Nat) (a_reaches : Nat) (a_gains : Nat) (a_pb : Nat) (a_fld : Nat) (a_ctx : Nat) (a_cw : Nat) (a_rw : Nat) (a_cr : Nat) (a_rr : Nat) (a_scan : Nat) (a_out : Nat) (sz : Nat) (row_count : Int32) (row_start : Int32) (plan_planes : Int32) (plan_passes : Int32) (plan_segments : Int32) (plan_style : Int32) (plan_firstOfSegment : Int32) (pb_style : Int32) (pb_isWritten : Int32) (pb_isRead : Int32) (out_n : Nat) (out_f : Nat → Int64) (p2 : Int32) (hT : TX_X10_written p2 pb_isWritten = 3) : Met l yL_written wsL_written (rm_L_written 6) (va_Pc [.ref a_pb, .int p2, .ref a_out] (fun U => U.heap.size = sz ∧ va_P (dC, dI) vwCl (wd_row_plan_pb_out cJ a_row a_bytes a_plan a_reaches a_gains a_pb a_fld a_ctx a_cw a_rw a_cr a_rr a_scan a_out row_count row_start plan_planes plan_passes plan_segments plan_style plan_firstOfSegment pb_style pb_isWritten pb_isRead out_n out_f) U.heap ∧ va_K (dC, dI) vwCl [(cI, .int), (cJ, .long), (cZ, .boolean)] U ∧ va_D (fun _ => True) (wd_row_plan_pb_out cJ a_row a_bytes a_plan a_reaches a_gains a_pb a_fld a_ctx a_cw a_rw a_cr a_rr a_scan a_out row_count row_start plan_planes plan_passes plan_segments plan_style plan_firstOfSegment pb_style pb_isWritten pb_isRead out_n out_f) ∧ Zl tP tN tO (va_A (wd_row_plan_pb_out cJ a_row a_bytes a_plan a_reaches a_gains a_pb a_fld a_ctx a_cw a_rw a_cr a_rr a_scan a_out row_count row_start plan_planes plan_passes plan_segments plan_style plan_firstOfSegment pb_style pb_isWritten pb_isRead out_n out_f) sz) U U.heap)) (Q_L_written dC dI cI cJ cZ tP tN tO (va_A (wd_row_plan_pb_out cJ a_row a_bytes a_plan a_reaches a_gains a_pb a_fld a_ctx a_cw a_rw a_cr a_rr a_scan a_out row_count row_start plan_planes plan_passes plan_segments plan_style plan_firstOfSegment pb_style pb_isWritten pb_isRead out_n out_f) sz) a_row a_bytes a_plan a_reaches a_gains a_pb a_fld a_ctx a_cw a_rw a_cr a_rr a_scan a_out row_count row_start plan_planes plan_passes plan_segments plan_style plan_firstOfSegment pb_style pb_isWritten pb_isRead out_n out_f ((2 : Int32), out_f)) 6 6 (va_A (wd_row_plan_pb_out cJ a_row a_bytes a_plan a_reaches a_gains a_pb a_fld a_ctx a_cw a_rw a_cr a_rr a_scan a_out row_count row_start plan_planes plan_passes plan_segments plan_style plan_firstOfSegment pb_style pb_isWritten pb_isRead out_n out_f) sz) := by
  refine va_MetW (cc := cL_written) (maxL := 4) (ret := (some .int)) (hh := [(0, 9, 12, 26), (0, 9, 15, 13)]) (by decide) rfl ?_
  intro p e s m args below meth c s₁ B hml hv
  obtain ⟨rfl, hsz, hP, hK, hD0, hZ⟩ := hv
  have hx := B.exec
  have hb := B.bytes
  have hr := B.returns
  have hts := atoms_spec (ws := wsL_written) B.pre
  have hown : s.vm.findClass RL = some m.cls := findClass_of_methodNamed B.named
  have hlocks := B.notSynchronized
  subst hsz
  have hD := hD0.self (sz := s.heap.size)
  generalize hAe : va_A (wd_row_plan_pb_out cJ a_row a_bytes a_plan a_reaches a_gains a_pb a_fld a_ctx a_cw a_rw a_cr a_rr a_scan a_out row_count row_start plan_planes plan_passes plan_segments plan_style plan_firstOfSegment pb_style pb_isWritten pb_isRead out_n out_f) s.heap.size = A at hD hZ ⊢
  have hA : ∀ q : Nat, s.heap.size ≤ q → A q := fun q h => by rw [← hAe]; exact Or.inr h
  have hS : va_S A s.heap s.heap [] := va_S.rf
  obtain ⟨H, hH⟩ : ∃ z, z = s.heap := ⟨_, rfl⟩
  have hP : va_P (dC, dI) vwCl (wd_row_plan_pb_out cJ a_row a_bytes a_plan a_reaches a_gains a_pb a_fld a_ctx a_cw a_rw a_cr a_rr a_scan a_out row_count row_start plan_planes plan_passes plan_segments plan_style plan_firstOfSegment pb_style pb_isWritten pb_isRead out_n out_f) H := by rw [hH]; exact hP
  have hS : va_S A s.heap H [] := by rw [hH]; exact va_S.rf
  have htab : c.exceptionTable.toList = tableOf [(0, 9, 12, 26), (0, 9, 15, 13)] := vx_table (x := yL_written) B (hts _ List.mem_cons_self)
  generalize hQe : MQ below (Q_L_written dC dI cI cJ cZ tP tN tO A a_row a_bytes a_plan a_reaches a_gains a_pb a_fld a_ctx a_cw a_rw a_cr a_rr a_scan a_out row_count row_start plan_planes plan_passes plan_segments plan_style plan_firstOfSegment pb_style pb_isWritten pb_isRead out_n out_f ((2 : Int32), out_f)) _ s 6 6 A = Q
  rw [← hH]
  clear hH
  have hl := lv_entry ([.ref a_pb, .int p2, .ref a_out]) (n := 4) (Nat.le_of_ble_eq_true rfl)
  rw [lg_entry_eq]
  generalize (lg_sl ([.ref a_pb, .int p2, .ref a_out]) ++ List.replicate (4 - (lg_sl ([.ref a_pb, .int p2, .ref a_out])).length) Slot.unset).toArray = ls at hl ⊢
  have hl : lv_has ls 4 [(0, .ref a_pb), (1, .int p2), (2, .ref a_out)] := hl
  refine lv_aload_n hx hb dL_written_0 rfl (lv_at hl 2 rfl) ?_
  refine lv_iconst (v := 0) hx hb dL_written_1 (by decide) ?_
  refine lv_aload_n hx hb dL_written_2 rfl (lv_at hl 0 rfl) ?_
  refine lv_iload_n hx hb dL_written_3 rfl (lv_at hl 1 rfl) ?_
  have hPc := hP.sub (ws' := (wd_row_plan_pb a_row a_bytes a_plan a_reaches a_gains a_pb a_fld a_ctx a_cw a_rw a_cr a_rr a_scan row_count row_start plan_planes plan_passes plan_segments plan_style plan_firstOfSegment pb_style pb_isWritten pb_isRead)) [0, 1, 2] rfl
  have hDc := hD.sub (ws' := (wd_row_plan_pb a_row a_bytes a_plan a_reaches a_gains a_pb a_fld a_ctx a_cw a_rw a_cr a_rr a_scan row_count row_start plan_planes plan_passes plan_segments plan_style plan_firstOfSegment pb_style pb_isWritten pb_isRead)) [0, 1, 2] (by decide) rfl
  have hFc := va_free (wc := (wd_row_plan_pb a_row a_bytes a_plan a_reaches a_gains a_pb a_fld a_ctx a_cw a_rw a_cr a_rr a_scan row_count row_start plan_planes plan_passes plan_segments plan_style plan_firstOfSegment pb_style pb_isWritten pb_isRead)) hD hS hA [0, 1, 2] rfl
  refine vx_calli (vx_runV (As := [.int p2]) (rest := [.int (0 : Int32), .ref a_out]) ⟨hx, hb, hml, hown, hts⟩ (cx_X10_written l hl0 dC dI cI cJ cZ a_row a_bytes a_plan a_reaches a_gains a_pb a_fld a_ctx a_cw a_rw a_cr a_rr a_scan H.size row_count row_start plan_planes plan_passes plan_segments plan_style plan_firstOfSegment pb_style pb_isWritten pb_isRead p2 3 (by decide) hT) (cwV 1 hts gL_written_X10_written rfl rfl rfl (by decide +kernel) ⟨Nat.le_of_ble_eq_true rfl, Nat.le_of_ble_eq_true rfl⟩) ⟨fun a U g mk q => by obtain ⟨q0, q1, qP, qK, qD, qZ⟩ := q; exact ⟨q0, q1, qP, va_K.moved (u := U) (U := U.calling g mk a) (Vm.Alike.refl U.vm) qK, qD, Zt.same (u := U) (U := U.calling g mk a) rfl qZ⟩, va_recv hK hPc (ci := 9) (q0 := 2) rfl rfl, fun U hU hW => ⟨rfl, by rw [hU], by rw [hU]; exact hPc, va_K.moved hW.alike hK, hDc.weaken (fun _ _ _ _ => trivial), by rw [hU]; exact ((hZ.2.kept hS.2.1).narrow hFc).warm hW⟩⟩ rfl rfl hl.1 rfl (lv_room (Nat.le_of_ble_eq_true rfl)) dL_written_4 ⟨Nat.le_of_ble_eq_true rfl, Nat.le_of_ble_eq_true rfl⟩) hS (fun q _ h => hFc q h) hFc (fun q _ h => hFc q h) (fun E ce q9 u t H1 locs ht hvm hp hB hz1 hk1 hS hce hcv hcl => ?_) (fun r u t H1 locs ht hvm hp hB hz1 hk1 hS => hp.elim)
  obtain ⟨hE, hP1, hK1, hD1⟩ := hB
  rw [ht] at hP1
  have hE : E = "java/lang/IllegalArgumentException" := hE
  subst hE
  obtain ⟨hP, hD⟩ := va_join (wr := [(a_out, .inl (cJ, out_n, .inr (.inl out_f)))]) (w1 := (wd_row_plan_pb a_row a_bytes a_plan a_reaches a_gains a_pb a_fld a_ctx a_cw a_rw a_cr a_rr a_scan row_count row_start plan_planes plan_passes plan_segments plan_style plan_firstOfSegment pb_style pb_isWritten pb_isRead)) hP hD [0, 1, 2] [3] rfl rfl (by decide) (by decide) hk1 hFc hP1 hD1
  have hP : va_P (dC, dI) vwCl (wd_row_plan_pb_out cJ a_row a_bytes a_plan a_reaches a_gains a_pb a_fld a_ctx a_cw a_rw a_cr a_rr a_scan a_out row_count row_start plan_planes plan_passes plan_segments plan_style plan_firstOfSegment pb_style pb_isWritten pb_isRead out_n out_f) H1 := hP.sub [1, 2, 3, 0] rfl
  have hD : va_D A (wd_row_plan_pb_out cJ a_row a_bytes a_plan a_reaches a_gains a_pb a_fld a_ctx a_cw a_rw a_cr a_rr a_scan a_out row_count row_start plan_planes plan_passes plan_segments plan_style plan_firstOfSegment pb_style pb_isWritten pb_isRead out_n out_f) := hD.sub [1, 2, 3, 0] (by decide) rfl
  have hpass : ∀ z ∈ ([⟨0, 9, 12, 26⟩] : List ExceptionTableEntry), covers z 4 = false ∨ (z.catchType ≠ 0 ∧ ∃ nm : String, (Cond.classLink RL z.catchType nm).before [.ref a_pb, .int p2, .ref a_out].toArray s = true ∧ va_Nc "java/lang/IllegalArgumentException" nm s) := by
      intro z hz
      rcases List.mem_cons.mp hz with rfl | hz
      · exact Or.inr ⟨by decide, "java/lang/IllegalStateException", hts (.classLink RL 26 "java/lang/IllegalStateException") (by decide +kernel), hZ.2.2.2.2.1.1⟩
      cases hz
  refine vx_catch (own := RL) (name := "java/lang/IllegalArgumentException") (E := "java/lang/IllegalArgumentException") hown [⟨0, 9, 12, 26⟩] ⟨0, 9, 15, 13⟩ [] htab hpass (by decide) (by decide) (hts (.classLink RL 13 "java/lang/IllegalArgumentException") (by decide +kernel)) (va_tabs rfl rfl hZ.2.2.2.1.2.2.2.1) hce hcv hcl ?_
  refine lv_astore_n (lv' := [(3, .ref q9), (0, .ref a_pb), (1, .int p2), (2, .ref a_out)]) hx hb dL_written_15 rfl hl (by decide) rfl (fun ls hl => ?_)
  refine lv_iconst (v := 2) hx hb dL_written_16 (by decide) ?_
  refine W.widen (k := 6) (n := 6) (by decide) (by decide) ?_
  rw [← hQe]
  exact W.iret (v := (2 : Int32)) hx hb hr (fun t ht hW => ⟨⟨(2 : Int32), (), rfl, rfl, by rw [ht]; exact hP, va_K.moved hW.alike hK, hD⟩, hS.F ht⟩) hS.2.2 dL_written_17
noncomputable def F_L_written (p2 : Int32) (row_count : Int32) (plan_planes : Int32) (plan_passes : Int32) (plan_segments : Int32) (pb_isWritten : Int32) (out_f : Nat → Int64) : (Int32 × (Nat → Int64)) := if TX_X10_written p2 pb_isWritten = 0 then (FA_L_written p2 row_count plan_planes plan_passes plan_segments out_f) else (if TX_X10_written p2 pb_isWritten = 1 then (1 : Int32) else if TX_X10_written p2 pb_isWritten = 3 then (2 : Int32) else (0 : Int32), out_f)
noncomputable def D_L_written (p2 : Int32) (pb_isWritten : Int32) : Nat := if TX_X10_written p2 pb_isWritten = 0 then DA_L_written else 6
def P_L_written (p2 : Int32) (row_count : Int32) (plan_planes : Int32) (plan_passes : Int32) (plan_segments : Int32) (pb_isWritten : Int32) (out_n : Nat) : Prop := (TX_X10_written p2 pb_isWritten = 0 → (PA_L_written p2 row_count plan_planes plan_passes plan_segments pb_isWritten out_n))
theorem txr_L_written (p1 : Int32) (pb_isWritten : Int32) : TX_X10_written p1 pb_isWritten = 0 ∨ TX_X10_written p1 pb_isWritten = 1 ∨ TX_X10_written p1 pb_isWritten = 3 := by
  unfold TX_X10_written TX_X10_needWritten
  try dsimp only
  repeat' split
  all_goals first | (simp; done) | (simp_all; done) | omega
theorem c_L_written (l : Launch) (hl0 : l.stackTraces = false) (dC : Nat → ClassId) (dI : Nat → Nat → Nat) (cI cJ cZ : ClassId) (tP tN tO : Nat) (a_row : Nat) (a_bytes : Nat) (a_plan : Nat) (a_reaches : Nat) (a_gains : Nat) (a_pb : Nat) (a_fld : Nat) (a_ctx : Nat) (a_cw : Nat) (a_rw : Nat) (a_cr : Nat) (a_rr : Nat) (a_scan : Nat) (a_out : Nat) (sz : Nat) (row_count : Int32) (row_start : Int32) (plan_planes : Int32) (plan_passes : Int32) (plan_segments : Int32) (plan_style : Int32) (plan_firstOfSegment : Int32) (pb_style : Int32) (pb_isWritten : Int32) (pb_isRead : Int32) (out_n : Nat) (out_f : Nat → Int64) (p2 : Int32) (hpre : P_L_written p2 row_count plan_planes plan_passes plan_segments pb_isWritten out_n) : Met l yL_written wsL_written (rm_L_written (D_L_written p2 pb_isWritten)) (va_Pc [.ref a_pb, .int p2, .ref a_out] (fun U => U.heap.size = sz ∧ va_P (dC, dI) vwCl (wd_row_plan_pb_out cJ a_row a_bytes a_plan a_reaches a_gains a_pb a_fld a_ctx a_cw a_rw a_cr a_rr a_scan a_out row_count row_start plan_planes plan_passes plan_segments plan_style plan_firstOfSegment pb_style pb_isWritten pb_isRead out_n out_f) U.heap ∧ va_K (dC, dI) vwCl [(cI, .int), (cJ, .long), (cZ, .boolean)] U ∧ va_D (fun _ => True) (wd_row_plan_pb_out cJ a_row a_bytes a_plan a_reaches a_gains a_pb a_fld a_ctx a_cw a_rw a_cr a_rr a_scan a_out row_count row_start plan_planes plan_passes plan_segments plan_style plan_firstOfSegment pb_style pb_isWritten pb_isRead out_n out_f) ∧ Zl tP tN tO (va_A (wd_row_plan_pb_out cJ a_row a_bytes a_plan a_reaches a_gains a_pb a_fld a_ctx a_cw a_rw a_cr a_rr a_scan a_out row_count row_start plan_planes plan_passes plan_segments plan_style plan_firstOfSegment pb_style pb_isWritten pb_isRead out_n out_f) sz) U U.heap)) (Q_L_written dC dI cI cJ cZ tP tN tO (va_A (wd_row_plan_pb_out cJ a_row a_bytes a_plan a_reaches a_gains a_pb a_fld a_ctx a_cw a_rw a_cr a_rr a_scan a_out row_count row_start plan_planes plan_passes plan_segments plan_style plan_firstOfSegment pb_style pb_isWritten pb_isRead out_n out_f) sz) a_row a_bytes a_plan a_reaches a_gains a_pb a_fld a_ctx a_cw a_rw a_cr a_rr a_scan a_out row_count row_start plan_planes plan_passes plan_segments plan_style plan_firstOfSegment pb_style pb_isWritten pb_isRead out_n out_f (F_L_written p2 row_count plan_planes plan_passes plan_segments pb_isWritten out_f)) (D_L_written p2 pb_isWritten) (D_L_written p2 pb_isWritten) (va_A (wd_row_plan_pb_out cJ a_row a_bytes a_plan a_reaches a_gains a_pb a_fld a_ctx a_cw a_rw a_cr a_rr a_scan a_out row_count row_start plan_planes plan_passes plan_segments plan_style plan_firstOfSegment pb_style pb_isWritten pb_isRead out_n out_f) sz) := by
  by_cases h0 : TX_X10_written p2 pb_isWritten = 0
  · have eF : F_L_written p2 row_count plan_planes plan_passes plan_segments pb_isWritten out_f = FA_L_written p2 row_count plan_planes plan_passes plan_segments out_f := by unfold F_L_written; rw [if_pos h0]
    have eD : D_L_written p2 pb_isWritten = DA_L_written := by unfold D_L_written; rw [if_pos h0]
    rw [eF, eD]
    exact ca_L_written l hl0 dC dI cI cJ cZ tP tN tO a_row a_bytes a_plan a_reaches a_gains a_pb a_fld a_ctx a_cw a_rw a_cr a_rr a_scan a_out sz row_count row_start plan_planes plan_passes plan_segments plan_style plan_firstOfSegment pb_style pb_isWritten pb_isRead out_n out_f p2 (hpre h0)
  · have eD : D_L_written p2 pb_isWritten = 6 := by unfold D_L_written; rw [if_neg h0]
    rcases txr_L_written p2 pb_isWritten with h | h | h
    · exact absurd h h0
    · have eF : F_L_written p2 row_count plan_planes plan_passes plan_segments pb_isWritten out_f = ((1 : Int32), out_f) := by unfold F_L_written; rw [if_neg h0, if_pos h]
      rw [eF, eD]
      exact cy_L_written_1 l hl0 dC dI cI cJ cZ tP tN tO a_row a_bytes a_plan a_reaches a_gains a_pb a_fld a_ctx a_cw a_rw a_cr a_rr a_scan a_out sz row_count row_start plan_planes plan_passes plan_segments plan_style plan_firstOfSegment pb_style pb_isWritten pb_isRead out_n out_f p2 h
    · have eF : F_L_written p2 row_count plan_planes plan_passes plan_segments pb_isWritten out_f = ((2 : Int32), out_f) := by unfold F_L_written; rw [if_neg h0, if_neg (by rw [h]; decide), if_pos h]
      rw [eF, eD]
      exact cy_L_written_3 l hl0 dC dI cI cJ cZ tP tN tO a_row a_bytes a_plan a_reaches a_gains a_pb a_fld a_ctx a_cw a_rw a_cr a_rr a_scan a_out sz row_count row_start plan_planes plan_passes plan_segments plan_style plan_firstOfSegment pb_style pb_isWritten pb_isRead out_n out_f p2 h
abbrev wd_plan_reaches_pb_out (cI : ClassId) (cJ : ClassId) (a_plan : Nat) (a_reaches : Nat) (a_gains : Nat) (a_pb : Nat) (a_fld : Nat) (a_row : Nat) (a_ctx : Nat) (a_cw : Nat) (a_rw : Nat) (a_cr : Nat) (a_rr : Nat) (a_scan : Nat) (a_out : Nat) (plan_planes : Int32) (plan_passes : Int32) (plan_segments : Int32) (plan_style : Int32) (plan_firstOfSegment : Int32) (reaches_n : Nat) (reaches_f : Nat → Int32) (pb_style : Int32) (pb_isWritten : Int32) (pb_isRead : Int32) (out_n : Nat) (out_f : Nat → Int64) : va_W := [(a_plan, .inr (5, [.ref a_reaches, .ref a_gains, .int plan_planes, .int plan_passes, .int plan_segments, .int plan_style, .int plan_firstOfSegment])), (a_reaches, .inl (cI, reaches_n, .inl reaches_f)), (a_pb, .inr (9, [.ref a_fld, .ref a_plan, .ref a_row, .ref a_ctx, .ref a_cw, .ref a_rw, .ref a_cr, .ref a_rr, .ref a_scan, .int pb_style, .int pb_isWritten, .int pb_isRead])), (a_out, .inl (cJ, out_n, .inr (.inl out_f)))]
abbrev rm_L_pass (Dt : Nat) : Room := { frames := 9, cells := Dt, slots := Dt, locals := 153 }
noncomputable def FA_L_pass (p2 : Int32) (p3 : Int32) (plan_planes : Int32) (plan_passes : Int32) (plan_style : Int32) (reaches_f : Nat → Int32) (out_f : Nat → Int64) : (Int32 × (Nat → Int64)) := let r_1 := F_X10_pass p2 p3 plan_planes plan_passes plan_style reaches_f; ((0 : Int32), vp_updL out_f (0 : Int32).toNatClampNeg r_1.toInt64)
noncomputable def DA_L_pass : Nat := 0
def PA_L_pass (p2 : Int32) (p3 : Int32) (plan_planes : Int32) (plan_passes : Int32) (plan_style : Int32) (reaches_n : Nat) (reaches_f : Nat → Int32) (pb_isWritten : Int32) (out_n : Nat) : Prop := (P_X10_pass p2 p3 plan_passes reaches_n pb_isWritten) ∧ (∀ r_1, F_X10_pass p2 p3 plan_planes plan_passes plan_style reaches_f = r_1 → (vp_in (0 : Int32) out_n))
abbrev Q_L_pass (dC : Nat → ClassId) (dI : Nat → Nat → Nat) (cI cJ cZ : ClassId) (tP tN tO : Nat) (A : Nat → Prop) (a_plan : Nat) (a_reaches : Nat) (a_gains : Nat) (a_pb : Nat) (a_fld : Nat) (a_row : Nat) (a_ctx : Nat) (a_cw : Nat) (a_rw : Nat) (a_cr : Nat) (a_rr : Nat) (a_scan : Nat) (a_out : Nat) (plan_planes : Int32) (plan_passes : Int32) (plan_segments : Int32) (plan_style : Int32) (plan_firstOfSegment : Int32) (reaches_n : Nat) (reaches_f : Nat → Int32) (pb_style : Int32) (pb_isWritten : Int32) (pb_isRead : Int32) (out_n : Nat) (out_f : Nat → Int64) (g : (Int32 × (Nat → Int64))) : Array Value → State → Outcome → State → Prop := va_Qi (fun (r : Int32) (_ : Unit) => r = g.1) (fun u t => va_P (dC, dI) vwCl (wd_plan_reaches_pb_out cI cJ a_plan a_reaches a_gains a_pb a_fld a_row a_ctx a_cw a_rw a_cr a_rr a_scan a_out plan_planes plan_passes plan_segments plan_style plan_firstOfSegment reaches_n reaches_f pb_style pb_isWritten pb_isRead out_n g.2) t.heap ∧ va_K (dC, dI) vwCl [(cI, .int), (cJ, .long), (cZ, .boolean)] t ∧ va_D A (wd_plan_reaches_pb_out cI cJ a_plan a_reaches a_gains a_pb a_fld a_row a_ctx a_cw a_rw a_cr a_rr a_scan a_out plan_planes plan_passes plan_segments plan_style plan_firstOfSegment reaches_n reaches_f pb_style pb_isWritten pb_isRead out_n g.2)) A
set_option maxHeartbeats 4000000 in
set_option maxRecDepth 100000 in
theorem ca_L_pass (l : Launch) (hl0 : l.stackTraces = false) (dC : Nat → ClassId) (dI : Nat → Nat → Nat) (cI cJ cZ : ClassId) (tP tN tO : Nat) (a_plan : Nat) (a_reaches : Nat) (a_gains : Nat) (a_pb : Nat) (a_fld : Nat) (a_row : Nat) (a_ctx : Nat) (a_cw : Nat) (a_rw : Nat) (a_cr : Nat) (a_rr : Nat) (a_scan : Nat) (a_out : Nat) (sz : Nat) (plan_planes : Int32) (plan_passes : Int32) (plan_segments : Int32) (plan_style : Int32) (plan_firstOfSegment : Int32) (reaches_n : Nat) (reaches_f : Nat → Int32) (pb_style : Int32) (pb_isWritten : Int32) (pb_isRead : Int32) (out_n : Nat) (out_f : Nat → Int64) (p2 : Int32) (p3 : Int32) (hpre : PA_L_pass p2 p3 plan_planes plan_passes plan_style reaches_n reaches_f pb_isWritten out_n) : Met l yL_pass wsL_pass (rm_L_pass (DA_L_pass)) (va_Pc [.ref a_pb, .int p2, .int p3, .ref a_out] (fun U => U.heap.size = sz ∧ va_P (dC, dI) vwCl (wd_plan_reaches_pb_out cI cJ a_plan a_reaches a_gains a_pb a_fld a_row a_ctx a_cw a_rw a_cr a_rr a_scan a_out plan_planes plan_passes plan_segments plan_style plan_firstOfSegment reaches_n reaches_f pb_style pb_isWritten pb_isRead out_n out_f) U.heap ∧ va_K (dC, dI) vwCl [(cI, .int), (cJ, .long), (cZ, .boolean)] U ∧ va_D (fun _ => True) (wd_plan_reaches_pb_out cI cJ a_plan a_reaches a_gains a_pb a_fld a_row a_ctx a_cw a_rw a_cr a_rr a_scan a_out plan_planes plan_passes plan_segments plan_style plan_firstOfSegment reaches_n reaches_f pb_style pb_isWritten pb_isRead out_n out_f) ∧ Zl tP tN tO (va_A (wd_plan_reaches_pb_out cI cJ a_plan a_reaches a_gains a_pb a_fld a_row a_ctx a_cw a_rw a_cr a_rr a_scan a_out plan_planes plan_passes plan_segments plan_style plan_firstOfSegment reaches_n reaches_f pb_style pb_isWritten pb_isRead out_n out_f) sz) U U.heap)) (Q_L_pass dC dI cI cJ cZ tP tN tO (va_A (wd_plan_reaches_pb_out cI cJ a_plan a_reaches a_gains a_pb a_fld a_row a_ctx a_cw a_rw a_cr a_rr a_scan a_out plan_planes plan_passes plan_segments plan_style plan_firstOfSegment reaches_n reaches_f pb_style pb_isWritten pb_isRead out_n out_f) sz) a_plan a_reaches a_gains a_pb a_fld a_row a_ctx a_cw a_rw a_cr a_rr a_scan a_out plan_planes plan_passes plan_segments plan_style plan_firstOfSegment reaches_n reaches_f pb_style pb_isWritten pb_isRead out_n out_f (FA_L_pass p2 p3 plan_planes plan_passes plan_style reaches_f out_f)) (DA_L_pass) (DA_L_pass) (va_A (wd_plan_reaches_pb_out cI cJ a_plan a_reaches a_gains a_pb a_fld a_row a_ctx a_cw a_rw a_cr a_rr a_scan a_out plan_planes plan_passes plan_segments plan_style plan_firstOfSegment reaches_n reaches_f pb_style pb_isWritten pb_isRead out_n out_f) sz) := by
  refine va_MetW (cc := cL_pass) (maxL := 5) (ret := (some .int)) (hh := [(0, 10, 13, 26), (0, 10, 17, 32), (0, 10, 21, 13)]) (by decide) rfl ?_
  intro p e s m args below meth c s₁ B hml hv
  obtain ⟨rfl, hsz, hP, hK, hD0, hZ⟩ := hv
  have hx := B.exec
  have hb := B.bytes
  have hr := B.returns
  have hts := atoms_spec (ws := wsL_pass) B.pre
  have hown : s.vm.findClass RL = some m.cls := findClass_of_methodNamed B.named
  have hlocks := B.notSynchronized
  subst hsz
  have hD := hD0.self (sz := s.heap.size)
  generalize hAe : va_A (wd_plan_reaches_pb_out cI cJ a_plan a_reaches a_gains a_pb a_fld a_row a_ctx a_cw a_rw a_cr a_rr a_scan a_out plan_planes plan_passes plan_segments plan_style plan_firstOfSegment reaches_n reaches_f pb_style pb_isWritten pb_isRead out_n out_f) s.heap.size = A at hD hZ ⊢
  have hA : ∀ q : Nat, s.heap.size ≤ q → A q := fun q h => by rw [← hAe]; exact Or.inr h
  have hS : va_S A s.heap s.heap [] := va_S.rf
  obtain ⟨H, hH⟩ : ∃ z, z = s.heap := ⟨_, rfl⟩
  have hP : va_P (dC, dI) vwCl (wd_plan_reaches_pb_out cI cJ a_plan a_reaches a_gains a_pb a_fld a_row a_ctx a_cw a_rw a_cr a_rr a_scan a_out plan_planes plan_passes plan_segments plan_style plan_firstOfSegment reaches_n reaches_f pb_style pb_isWritten pb_isRead out_n out_f) H := by rw [hH]; exact hP
  have hS : va_S A s.heap H [] := by rw [hH]; exact va_S.rf
  obtain ⟨g, hg⟩ : ∃ z, FA_L_pass p2 p3 plan_planes plan_passes plan_style reaches_f out_f = z := ⟨_, rfl⟩
  rw [hg]
  obtain ⟨Dt, hDt⟩ : ∃ z, DA_L_pass = z := ⟨_, rfl⟩
  rw [hDt]
  generalize hQe : MQ below (Q_L_pass dC dI cI cJ cZ tP tN tO A a_plan a_reaches a_gains a_pb a_fld a_row a_ctx a_cw a_rw a_cr a_rr a_scan a_out plan_planes plan_passes plan_segments plan_style plan_firstOfSegment reaches_n reaches_f pb_style pb_isWritten pb_isRead out_n out_f g) _ s Dt Dt A = Q
  rw [← hH]
  clear hH
  have hl := lv_entry ([.ref a_pb, .int p2, .int p3, .ref a_out]) (n := 5) (Nat.le_of_ble_eq_true rfl)
  rw [lg_entry_eq]
  generalize (lg_sl ([.ref a_pb, .int p2, .int p3, .ref a_out]) ++ List.replicate (5 - (lg_sl ([.ref a_pb, .int p2, .int p3, .ref a_out])).length) Slot.unset).toArray = ls at hl ⊢
  have hl : lv_has ls 5 [(0, .ref a_pb), (1, .int p2), (2, .int p3), (3, .ref a_out)] := hl
  unfold FA_L_pass at hg
  unfold PA_L_pass at hpre
  unfold DA_L_pass at hDt
  obtain ⟨k, hk⟩ : ∃ z : Nat, z = 0 := ⟨_, rfl⟩
  obtain ⟨E, hE⟩ : ∃ z : Nat, z = 0 := ⟨_, rfl⟩
  have hC : k + (0) + E ≤ Dt := by rw [hk, hE, Nat.zero_add]; exact Nat.le_of_eq hDt
  refine W.widen (k := k) (n := k) (Nat.zero_le _) (Nat.zero_le _) ?_
  clear hk hE hDt
  refine lv_aload_n hx hb dL_pass_0 rfl (lv_at hl 3 rfl) ?_
  refine lv_iconst (v := 0) hx hb dL_pass_1 (by decide) ?_
  refine lv_aload_n hx hb dL_pass_2 rfl (lv_at hl 0 rfl) ?_
  refine lv_iload_n hx hb dL_pass_3 rfl (lv_at hl 1 rfl) ?_
  refine lv_iload_n hx hb dL_pass_4 rfl (lv_at hl 2 rfl) ?_
  have hPc := hP.sub (ws' := (wd_plan_reaches_pb cI a_plan a_reaches a_gains a_pb a_fld a_row a_ctx a_cw a_rw a_cr a_rr a_scan plan_planes plan_passes plan_segments plan_style plan_firstOfSegment reaches_n reaches_f pb_style pb_isWritten pb_isRead)) [0, 1, 2] rfl
  have hDc := hD.sub (ws' := (wd_plan_reaches_pb cI a_plan a_reaches a_gains a_pb a_fld a_row a_ctx a_cw a_rw a_cr a_rr a_scan plan_planes plan_passes plan_segments plan_style plan_firstOfSegment reaches_n reaches_f pb_style pb_isWritten pb_isRead)) [0, 1, 2] (by decide) rfl
  have hFc := va_free (wc := (wd_plan_reaches_pb cI a_plan a_reaches a_gains a_pb a_fld a_row a_ctx a_cw a_rw a_cr a_rr a_scan plan_planes plan_passes plan_segments plan_style plan_firstOfSegment reaches_n reaches_f pb_style pb_isWritten pb_isRead)) hD hS hA [0, 1, 2] rfl
  refine va_calli (va_runV (As := [.int p2, .int p3]) (rest := [.int (0 : Int32), .ref a_out]) ⟨hx, hb, hml, hown, hts⟩ (c_X10_pass l dC dI cI cJ cZ a_plan a_reaches a_gains a_pb a_fld a_row a_ctx a_cw a_rw a_cr a_rr a_scan H.size plan_planes plan_passes plan_segments plan_style plan_firstOfSegment reaches_n reaches_f pb_style pb_isWritten pb_isRead p2 p3 hpre.1) (cwV 2 hts gL_pass_X10_pass rfl rfl rfl (by decide +kernel) ⟨Nat.le_of_ble_eq_true rfl, Nat.le_of_ble_eq_true rfl⟩) ⟨fun a U g mk q => by obtain ⟨q0, q1, qP, qK, qD⟩ := q; exact ⟨q0, q1, qP, va_K.moved (u := U) (U := U.calling g mk a) (Vm.Alike.refl U.vm) qK, qD⟩, va_recv hK hPc (ci := 9) (q0 := 2) rfl rfl, fun U hU hW => ⟨rfl, by rw [hU], by rw [hU]; exact hPc, va_K.moved hW.alike hK, hDc.weaken (fun _ _ _ _ => trivial)⟩⟩ rfl rfl hl.1 rfl (lv_room (Nat.le_of_ble_eq_true rfl)) dL_pass_5 ⟨k0_le hC, k0_le hC⟩) hS (fun q _ h => hFc q h) hFc (fun r u t H1 locs ht hvm hw hB hz1 hk1 hS => ?_)
  obtain ⟨hP1, hK1, hD1⟩ := hB
  rw [ht] at hP1
  obtain ⟨r_1, hr_1⟩ : ∃ z, F_X10_pass p2 p3 plan_planes plan_passes plan_style reaches_f = z := ⟨_, rfl⟩
  try rw [hr_1] at hw
  try rw [hr_1] at hP1
  try rw [hr_1] at hD1
  have hg : ((0 : Int32), vp_updL out_f (0 : Int32).toNatClampNeg r_1.toInt64) = g := by first | (rw [hr_1] at hg; exact hg) | (subst hr_1; exact hg)
  have hw := hw.symm
  subst hw
  obtain ⟨hP, hD⟩ := va_join (wr := [(a_out, .inl (cJ, out_n, .inr (.inl out_f)))]) (w1 := (wd_plan_reaches_pb cI a_plan a_reaches a_gains a_pb a_fld a_row a_ctx a_cw a_rw a_cr a_rr a_scan plan_planes plan_passes plan_segments plan_style plan_firstOfSegment reaches_n reaches_f pb_style pb_isWritten pb_isRead)) hP hD [0, 1, 2] [3] rfl rfl (by decide) (by decide) hk1 hFc hP1 hD1
  have hP : va_P (dC, dI) vwCl (wd_plan_reaches_pb_out cI cJ a_plan a_reaches a_gains a_pb a_fld a_row a_ctx a_cw a_rw a_cr a_rr a_scan a_out plan_planes plan_passes plan_segments plan_style plan_firstOfSegment reaches_n reaches_f pb_style pb_isWritten pb_isRead out_n out_f) H1 := hP.sub [1, 2, 3, 0] rfl
  have hD : va_D A (wd_plan_reaches_pb_out cI cJ a_plan a_reaches a_gains a_pb a_fld a_row a_ctx a_cw a_rw a_cr a_rr a_scan a_out plan_planes plan_passes plan_segments plan_style plan_firstOfSegment reaches_n reaches_f pb_style pb_isWritten pb_isRead out_n out_f) := hD.sub [1, 2, 3, 0] (by decide) rfl
  generalize H1 = H at hP hS ⊢
  have hpre := hpre.2 r_1 hr_1
  refine lv_i2l hx hb dL_pass_8 rfl ?_
  have h_2 := hpre
  refine va_last hx hb hK hP hD hS 3 1 rfl rfl h_2 dL_pass_9 (fun H locs hP hD hS => ?_)
  have hP : va_P (dC, dI) vwCl (wd_plan_reaches_pb_out cI cJ a_plan a_reaches a_gains a_pb a_fld a_row a_ctx a_cw a_rw a_cr a_rr a_scan a_out plan_planes plan_passes plan_segments plan_style plan_firstOfSegment reaches_n reaches_f pb_style pb_isWritten pb_isRead out_n (vp_updL out_f (0 : Int32).toNatClampNeg r_1.toInt64)) H := hP
  have hD : va_D A (wd_plan_reaches_pb_out cI cJ a_plan a_reaches a_gains a_pb a_fld a_row a_ctx a_cw a_rw a_cr a_rr a_scan a_out plan_planes plan_passes plan_segments plan_style plan_firstOfSegment reaches_n reaches_f pb_style pb_isWritten pb_isRead out_n (vp_updL out_f (0 : Int32).toNatClampNeg r_1.toInt64)) := hD
  refine lv_goto (tgt := 25) hx hb dL_pass_10 (by decide) ?_
  refine lv_iconst (v := 0) hx hb dL_pass_25 (by decide) ?_
  subst hg
  refine W.widen (k := Dt) (n := Dt) (k0_le hC) (k0_le hC) ?_
  rw [← hQe]
  exact W.iret (v := (0 : Int32)) hx hb hr (fun t ht hW => ⟨⟨(0 : Int32), (), rfl, rfl, by rw [ht]; exact hP, va_K.moved hW.alike hK, hD⟩, hS.F ht⟩) hS.2.2 dL_pass_26

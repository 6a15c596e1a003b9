def PA_L_value (p2 : Int32) (p3 : Int32) (fld_wide : Int32) (fld_high : Int32) (mags_n : Nat) (mags_f : Nat → Int32) (marks_n : Nat) (marks_f : Nat → Int32) (pb_isRead : Int32) (out_n : Nat) : Prop := (P_X10_value p2 p3 fld_wide fld_high mags_n marks_n marks_f pb_isRead) ∧ (∀ r_1, F_X10_value p2 p3 fld_wide mags_f marks_f = r_1 → (vp_in (0 : Int32) out_n))
abbrev Q_L_value (dC : Nat → ClassId) (dI : Nat → Nat → Nat) (cI cJ cZ : ClassId) (tP tN tO : Nat) (A : Nat → Prop) (a_fld : Nat) (a_coef : Nat) (a_mags : Nat) (a_marks : Nat) (a_pb : Nat) (a_plan : Nat) (a_row : Nat) (a_ctx : Nat) (a_cw : Nat) (a_rw : Nat) (a_cr : Nat) (a_rr : Nat) (a_scan : Nat) (a_out : Nat) (fld_wide : Int32) (fld_high : Int32) (fld_band : Int32) (fld_causal : Int32) (mags_n : Nat) (mags_f : Nat → Int32) (marks_n : Nat) (marks_f : Nat → Int32) (pb_style : Int32) (pb_isWritten : Int32) (pb_isRead : Int32) (out_n : Nat) (out_f : Nat → Int64) (g : (Int32 × (Nat → Int64))) : Array Value → State → Outcome → State → Prop := va_Qi (fun (r : Int32) (_ : Unit) => r = g.1) (fun u t => va_P (dC, dI) vwCl (wd_fld_mags_marks_pb_out cI cJ a_fld a_coef a_mags a_marks a_pb a_plan a_row a_ctx a_cw a_rw a_cr a_rr a_scan a_out fld_wide fld_high fld_band fld_causal mags_n mags_f marks_n marks_f pb_style pb_isWritten pb_isRead out_n g.2) t.heap ∧ va_K (dC, dI) vwCl [(cI, .int), (cJ, .long), (cZ, .boolean)] t ∧ va_D A (wd_fld_mags_marks_pb_out cI cJ a_fld a_coef a_mags a_marks a_pb a_plan a_row a_ctx a_cw a_rw a_cr a_rr a_scan a_out fld_wide fld_high fld_band fld_causal mags_n mags_f marks_n marks_f pb_style pb_isWritten pb_isRead out_n g.2)) A
set_option maxHeartbeats 4000000 in
set_option maxRecDepth 100000 in
theorem ca_L_value (l : Launch) (hl0 : l.stackTraces = false) (dC : Nat → ClassId) (dI : Nat → Nat → Nat) (cI cJ cZ : ClassId) (tP tN tO : Nat) (a_fld : Nat) (a_coef : Nat) (a_mags : Nat) (a_marks : Nat) (a_pb : Nat) (a_plan : Nat) (a_row : Nat) (a_ctx : Nat) (a_cw : Nat) (a_rw : Nat) (a_cr : Nat) (a_rr : Nat) (a_scan : Nat) (a_out : Nat) (sz : Nat) (fld_wide : Int32) (fld_high : Int32) (fld_band : Int32) (fld_causal : Int32) (mags_n : Nat) (mags_f : Nat → Int32) (marks_n : Nat) (marks_f : Nat → Int32) (pb_style : Int32) (pb_isWritten : Int32) (pb_isRead : Int32) (out_n : Nat) (out_f : Nat → Int64) (p2 : Int32) (p3 : Int32) (hpre : PA_L_value p2 p3 fld_wide fld_high mags_n mags_f marks_n marks_f pb_isRead out_n) : Met l yL_value wsL_value (rm_L_value (DA_L_value)) (va_Pc [.ref a_pb, .int p2, .int p3, .ref a_out] (fun U => U.heap.size = sz ∧ va_P (dC, dI) vwCl (wd_fld_mags_marks_pb_out cI cJ a_fld a_coef a_mags a_marks a_pb a_plan a_row a_ctx a_cw a_rw a_cr a_rr a_scan a_out fld_wide fld_high fld_band fld_causal mags_n mags_f marks_n marks_f pb_style pb_isWritten pb_isRead out_n out_f) U.heap ∧ va_K (dC, dI) vwCl [(cI, .int), (cJ, .long), (cZ, .boolean)] U ∧ va_D (fun _ => True) (wd_fld_mags_marks_pb_out cI cJ a_fld a_coef a_mags a_marks a_pb a_plan a_row a_ctx a_cw a_rw a_cr a_rr a_scan a_out fld_wide fld_high fld_band fld_causal mags_n mags_f marks_n marks_f pb_style pb_isWritten pb_isRead out_n out_f) ∧ Zl tP tN tO (va_A (wd_fld_mags_marks_pb_out cI cJ a_fld a_coef a_mags a_marks a_pb a_plan a_row a_ctx a_cw a_rw a_cr a_rr a_scan a_out fld_wide fld_high fld_band fld_causal mags_n mags_f marks_n marks_f pb_style pb_isWritten pb_isRead out_n out_f) sz) U U.heap)) (Q_L_value dC dI cI cJ cZ tP tN tO (va_A (wd_fld_mags_marks_pb_out cI cJ a_fld a_coef a_mags a_marks a_pb a_plan a_row a_ctx a_cw a_rw a_cr a_rr a_scan a_out fld_wide fld_high fld_band fld_causal mags_n mags_f marks_n marks_f pb_style pb_isWritten pb_isRead out_n out_f) sz) a_fld a_coef a_mags a_marks a_pb a_plan a_row a_ctx a_cw a_rw a_cr a_rr a_scan a_out fld_wide fld_high fld_band fld_causal mags_n mags_f marks_n marks_f pb_style pb_isWritten pb_isRead out_n out_f (FA_L_value p2 p3 fld_wide mags_f marks_f out_f)) (DA_L_value) (DA_L_value) (va_A (wd_fld_mags_marks_pb_out cI cJ a_fld a_coef a_mags a_marks a_pb a_plan a_row a_ctx a_cw a_rw a_cr a_rr a_scan a_out fld_wide fld_high fld_band fld_causal mags_n mags_f marks_n marks_f pb_style pb_isWritten pb_isRead out_n out_f) sz) := by
  refine va_MetW (cc := cL_value) (maxL := 5) (ret := (some .int)) (hh := [(0, 10, 13, 13), (0, 10, 17, 26)]) (by decide) rfl ?_
  intro p e s m args below meth c s₁ B hml hv
  obtain ⟨rfl, hsz, hP, hK, hD0, hZ⟩ := hv
  have hx := B.exec
  have hb := B.bytes
  have hr := B.returns
  have hts := atoms_spec (ws := wsL_value) B.pre
  have hown : s.vm.findClass RL = some m.cls := findClass_of_methodNamed B.named
  have hlocks := B.notSynchronized
  subst hsz
  have hD := hD0.self (sz := s.heap.size)
  generalize hAe : va_A (wd_fld_mags_marks_pb_out cI cJ a_fld a_coef a_mags a_marks a_pb a_plan a_row a_ctx a_cw a_rw a_cr a_rr a_scan a_out fld_wide fld_high fld_band fld_causal mags_n mags_f marks_n marks_f pb_style pb_isWritten pb_isRead out_n out_f) s.heap.size = A at hD hZ ⊢
  have hA : ∀ q : Nat, s.heap.size ≤ q → A q := fun q h => by rw [← hAe]; exact Or.inr h
  have hS : va_S A s.heap s.heap [] := va_S.rf
  obtain ⟨H, hH⟩ : ∃ z, z = s.heap := ⟨_, rfl⟩
  have hP : va_P (dC, dI) vwCl (wd_fld_mags_marks_pb_out cI cJ a_fld a_coef a_mags a_marks a_pb a_plan a_row a_ctx a_cw a_rw a_cr a_rr a_scan a_out fld_wide fld_high fld_band fld_causal mags_n mags_f marks_n marks_f pb_style pb_isWritten pb_isRead out_n out_f) H := by rw [hH]; exact hP
  have hS : va_S A s.heap H [] := by rw [hH]; exact va_S.rf
  obtain ⟨g, hg⟩ : ∃ z, FA_L_value p2 p3 fld_wide mags_f marks_f out_f = z := ⟨_, rfl⟩
  rw [hg]
  obtain ⟨Dt, hDt⟩ : ∃ z, DA_L_value = z := ⟨_, rfl⟩
  rw [hDt]
  generalize hQe : MQ below (Q_L_value dC dI cI cJ cZ tP tN tO A a_fld a_coef a_mags a_marks a_pb a_plan a_row a_ctx a_cw a_rw a_cr a_rr a_scan a_out fld_wide fld_high fld_band fld_causal mags_n mags_f marks_n marks_f pb_style pb_isWritten pb_isRead out_n out_f g) _ s Dt Dt A = Q
  rw [← hH]
  clear hH
  have hl := lv_entry ([.ref a_pb, .int p2, .int p3, .ref a_out]) (n := 5) (Nat.le_of_ble_eq_true rfl)
  rw [lg_entry_eq]
  generalize (lg_sl ([.ref a_pb, .int p2, .int p3, .ref a_out]) ++ List.replicate (5 - (lg_sl ([.ref a_pb, .int p2, .int p3, .ref a_out])).length) Slot.unset).toArray = ls at hl ⊢
  have hl : lv_has ls 5 [(0, .ref a_pb), (1, .int p2), (2, .int p3), (3, .ref a_out)] := hl
  unfold FA_L_value at hg
  unfold PA_L_value at hpre
  unfold DA_L_value at hDt
  obtain ⟨k, hk⟩ : ∃ z : Nat, z = 0 := ⟨_, rfl⟩
  obtain ⟨E, hE⟩ : ∃ z : Nat, z = 0 := ⟨_, rfl⟩
  have hC : k + (0) + E ≤ Dt := by rw [hk, hE, Nat.zero_add]; exact Nat.le_of_eq hDt
  refine W.widen (k := k) (n := k) (Nat.zero_le _) (Nat.zero_le _) ?_
  clear hk hE hDt
  refine lv_aload_n hx hb dL_value_0 rfl (lv_at hl 3 rfl) ?_
  refine lv_iconst (v := 0) hx hb dL_value_1 (by decide) ?_
  refine lv_aload_n hx hb dL_value_2 rfl (lv_at hl 0 rfl) ?_
  refine lv_iload_n hx hb dL_value_3 rfl (lv_at hl 1 rfl) ?_
  refine lv_iload_n hx hb dL_value_4 rfl (lv_at hl 2 rfl) ?_
  have hPc := hP.sub (ws' := (wd_fld_mags_marks_pb cI a_fld a_coef a_mags a_marks a_pb a_plan a_row a_ctx a_cw a_rw a_cr a_rr a_scan fld_wide fld_high fld_band fld_causal mags_n mags_f marks_n marks_f pb_style pb_isWritten pb_isRead)) [0, 1, 2, 3] rfl
  have hDc := hD.sub (ws' := (wd_fld_mags_marks_pb cI a_fld a_coef a_mags a_marks a_pb a_plan a_row a_ctx a_cw a_rw a_cr a_rr a_scan fld_wide fld_high fld_band fld_causal mags_n mags_f marks_n marks_f pb_style pb_isWritten pb_isRead)) [0, 1, 2, 3] (by decide) rfl
  have hFc := va_free (wc := (wd_fld_mags_marks_pb cI a_fld a_coef a_mags a_marks a_pb a_plan a_row a_ctx a_cw a_rw a_cr a_rr a_scan fld_wide fld_high fld_band fld_causal mags_n mags_f marks_n marks_f pb_style pb_isWritten pb_isRead)) hD hS hA [0, 1, 2, 3] rfl
  refine va_calli (va_runV (As := [.int p2, .int p3]) (rest := [.int (0 : Int32), .ref a_out]) ⟨hx, hb, hml, hown, hts⟩ (c_X10_value l dC dI cI cJ cZ a_fld a_coef a_mags a_marks a_pb a_plan a_row a_ctx a_cw a_rw a_cr a_rr a_scan H.size fld_wide fld_high fld_band fld_causal mags_n mags_f marks_n marks_f pb_style pb_isWritten pb_isRead p2 p3 hpre.1) (cwV 2 hts gL_value_X10_value rfl rfl rfl (by decide +kernel) ⟨Nat.le_of_ble_eq_true rfl, Nat.le_of_ble_eq_true rfl⟩) ⟨fun a U g mk q => by obtain ⟨q0, q1, qP, qK, qD⟩ := q; exact ⟨q0, q1, qP, va_K.moved (u := U) (U := U.calling g mk a) (Vm.Alike.refl U.vm) qK, qD⟩, va_recv hK hPc (ci := 9) (q0 := 3) rfl rfl, fun U hU hW => ⟨rfl, by rw [hU], by rw [hU]; exact hPc, va_K.moved hW.alike hK, hDc.weaken (fun _ _ _ _ => trivial)⟩⟩ rfl rfl hl.1 rfl (lv_room (Nat.le_of_ble_eq_true rfl)) dL_value_5 ⟨k0_le hC, k0_le hC⟩) hS (fun q _ h => hFc q h) hFc (fun r u t H1 locs ht hvm hw hB hz1 hk1 hS => ?_)
  obtain ⟨hP1, hK1, hD1⟩ := hB
  rw [ht] at hP1
  obtain ⟨r_1, hr_1⟩ : ∃ z, F_X10_value p2 p3 fld_wide mags_f marks_f = z := ⟨_, rfl⟩
  try rw [hr_1] at hw
  try rw [hr_1] at hP1
  try rw [hr_1] at hD1
  have hg : ((0 : Int32), vp_updL out_f (0 : Int32).toNatClampNeg r_1.toInt64) = g := by first | (rw [hr_1] at hg; exact hg) | (subst hr_1; exact hg)
  have hw := hw.symm
  subst hw
  obtain ⟨hP, hD⟩ := va_join (wr := [(a_out, .inl (cJ, out_n, .inr (.inl out_f)))]) (w1 := (wd_fld_mags_marks_pb cI a_fld a_coef a_mags a_marks a_pb a_plan a_row a_ctx a_cw a_rw a_cr a_rr a_scan fld_wide fld_high fld_band fld_causal mags_n mags_f marks_n marks_f pb_style pb_isWritten pb_isRead)) hP hD [0, 1, 2, 3] [4] rfl rfl (by decide) (by decide) hk1 hFc hP1 hD1
  have hP : va_P (dC, dI) vwCl (wd_fld_mags_marks_pb_out cI cJ a_fld a_coef a_mags a_marks a_pb a_plan a_row a_ctx a_cw a_rw a_cr a_rr a_scan a_out fld_wide fld_high fld_band fld_causal mags_n mags_f marks_n marks_f pb_style pb_isWritten pb_isRead out_n out_f) H1 := hP.sub [1, 2, 3, 4, 0] rfl
  have hD : va_D A (wd_fld_mags_marks_pb_out cI cJ a_fld a_coef a_mags a_marks a_pb a_plan a_row a_ctx a_cw a_rw a_cr a_rr a_scan a_out fld_wide fld_high fld_band fld_causal mags_n mags_f marks_n marks_f pb_style pb_isWritten pb_isRead out_n out_f) := hD.sub [1, 2, 3, 4, 0] (by decide) rfl
  generalize H1 = H at hP hS ⊢
  have hpre := hpre.2 r_1 hr_1
  refine lv_i2l hx hb dL_value_8 rfl ?_
  have h_2 := hpre
  refine va_last hx hb hK hP hD hS 4 1 rfl rfl h_2 dL_value_9 (fun H locs hP hD hS => ?_)
  have hP : va_P (dC, dI) vwCl (wd_fld_mags_marks_pb_out cI cJ a_fld a_coef a_mags a_marks a_pb a_plan a_row a_ctx a_cw a_rw a_cr a_rr a_scan a_out fld_wide fld_high fld_band fld_causal mags_n mags_f marks_n marks_f pb_style pb_isWritten pb_isRead out_n (vp_updL out_f (0 : Int32).toNatClampNeg r_1.toInt64)) H := hP
  have hD : va_D A (wd_fld_mags_marks_pb_out cI cJ a_fld a_coef a_mags a_marks a_pb a_plan a_row a_ctx a_cw a_rw a_cr a_rr a_scan a_out fld_wide fld_high fld_band fld_causal mags_n mags_f marks_n marks_f pb_style pb_isWritten pb_isRead out_n (vp_updL out_f (0 : Int32).toNatClampNeg r_1.toInt64)) := hD
  refine lv_goto (tgt := 21) hx hb dL_value_10 (by decide) ?_
  refine lv_iconst (v := 0) hx hb dL_value_21 (by decide) ?_
  subst hg
  refine W.widen (k := Dt) (n := Dt) (k0_le hC) (k0_le hC) ?_
  rw [← hQe]
  exact W.iret (v := (0 : Int32)) hx hb hr (fun t ht hW => ⟨⟨(0 : Int32), (), rfl, rfl, by rw [ht]; exact hP, va_K.moved hW.alike hK, hD⟩, hS.F ht⟩) hS.2.2 dL_value_22
set_option maxHeartbeats 4000000 in
set_option maxRecDepth 100000 in
theorem cy_L_value_1 (l : Launch) (hl0 : l.stackTraces = false) (dC : Nat → ClassId) (dI : Nat → Nat → Nat) (cI cJ cZ : ClassId) (tP tN tO : Nat) (a_fld : Nat) (a_coef : Nat) (a_mags : Nat) (a_marks : Nat) (a_pb : Nat) (a_plan : Nat) (a_row : Nat) (a_ctx : Nat) (a_cw : Nat) (a_rw : Nat) (a_cr : Nat) (a_rr : Nat) (a_scan : Nat) (a_out : Nat) (sz : Nat) (fld_wide : Int32) (fld_high : Int32) (fld_band : Int32) (fld_causal : Int32) (mags_n : Nat) (mags_f : Nat → Int32) (marks_n : Nat) (marks_f : Nat → Int32) (pb_style : Int32) (pb_isWritten : Int32) (pb_isRead : Int32) (out_n : Nat) (out_f : Nat → Int64) (p2 : Int32) (p3 : Int32) (hT : TX_X10_value p2 p3 fld_wide fld_high pb_isRead = 1) : Met l yL_value wsL_value (rm_L_value 6) (va_Pc [.ref a_pb, .int p2, .int p3, .ref a_out] (fun U => U.heap.size = sz ∧ va_P (dC, dI) vwCl (wd_fld_mags_marks_pb_out cI cJ a_fld a_coef a_mags a_marks a_pb a_plan a_row a_ctx a_cw a_rw a_cr a_rr a_scan a_out fld_wide fld_high fld_band fld_causal mags_n mags_f marks_n marks_f pb_style pb_isWritten pb_isRead out_n out_f) U.heap ∧ va_K (dC, dI) vwCl [(cI, .int), (cJ, .long), (cZ, .boolean)] U ∧ va_D (fun _ => True) (wd_fld_mags_marks_pb_out cI cJ a_fld a_coef a_mags a_marks a_pb a_plan a_row a_ctx a_cw a_rw a_cr a_rr a_scan a_out fld_wide fld_high fld_band fld_causal mags_n mags_f marks_n marks_f pb_style pb_isWritten pb_isRead out_n out_f) ∧ Zl tP tN tO (va_A (wd_fld_mags_marks_pb_out cI cJ a_fld a_coef a_mags a_marks a_pb a_plan a_row a_ctx a_cw a_rw a_cr a_rr a_scan a_out fld_wide fld_high fld_band fld_causal mags_n mags_f marks_n marks_f pb_style pb_isWritten pb_isRead out_n out_f) sz) U U.heap)) (Q_L_value dC dI cI cJ cZ tP tN tO (va_A (wd_fld_mags_marks_pb_out cI cJ a_fld a_coef a_mags a_marks a_pb a_plan a_row a_ctx a_cw a_rw a_cr a_rr a_scan a_out fld_wide fld_high fld_band fld_causal mags_n mags_f marks_n marks_f pb_style pb_isWritten pb_isRead out_n out_f) sz) a_fld a_coef a_mags a_marks a_pb a_plan a_row a_ctx a_cw a_rw a_cr a_rr a_scan a_out fld_wide fld_high fld_band fld_causal mags_n mags_f marks_n marks_f pb_style pb_isWritten pb_isRead out_n out_f ((2 : Int32), out_f)) 6 6 (va_A (wd_fld_mags_marks_pb_out cI cJ a_fld a_coef a_mags a_marks a_pb a_plan a_row a_ctx a_cw a_rw a_cr a_rr a_scan a_out fld_wide fld_high fld_band fld_causal mags_n mags_f marks_n marks_f pb_style pb_isWritten pb_isRead out_n out_f) sz) := by
  refine va_MetW (cc := cL_value) (maxL := 5) (ret := (some .int)) (hh := [(0, 10, 13, 13), (0, 10, 17, 26)]) (by decide) rfl ?_
  intro p e s m args below meth c s₁ B hml hv
  obtain ⟨rfl, hsz, hP, hK, hD0, hZ⟩ := hv
  have hx := B.exec
  have hb := B.bytes
  have hr := B.returns
  have hts := atoms_spec (ws := wsL_value) B.pre
  have hown : s.vm.findClass RL = some m.cls := findClass_of_methodNamed B.named
  have hlocks := B.notSynchronized
  subst hsz
  have hD := hD0.self (sz := s.heap.size)
  generalize hAe : va_A (wd_fld_mags_marks_pb_out cI cJ a_fld a_coef a_mags a_marks a_pb a_plan a_row a_ctx a_cw a_rw a_cr a_rr a_scan a_out fld_wide fld_high fld_band fld_causal mags_n mags_f marks_n marks_f pb_style pb_isWritten pb_isRead out_n out_f) s.heap.size = A at hD hZ ⊢
  have hA : ∀ q : Nat, s.heap.size ≤ q → A q := fun q h => by rw [← hAe]; exact Or.inr h
  have hS : va_S A s.heap s.heap [] := va_S.rf
  obtain ⟨H, hH⟩ : ∃ z, z = s.heap := ⟨_, rfl⟩
  have hP : va_P (dC, dI) vwCl (wd_fld_mags_marks_pb_out cI cJ a_fld a_coef a_mags a_marks a_pb a_plan a_row a_ctx a_cw a_rw a_cr a_rr a_scan a_out fld_wide fld_high fld_band fld_causal mags_n mags_f marks_n marks_f pb_style pb_isWritten pb_isRead out_n out_f) H := by rw [hH]; exact hP
  have hS : va_S A s.heap H [] := by rw [hH]; exact va_S.rf
  have htab : c.exceptionTable.toList = tableOf [(0, 10, 13, 13), (0, 10, 17, 26)] := vx_table (x := yL_value) B (hts _ List.mem_cons_self)
  generalize hQe : MQ below (Q_L_value dC dI cI cJ cZ tP tN tO A a_fld a_coef a_mags a_marks a_pb a_plan a_row a_ctx a_cw a_rw a_cr a_rr a_scan a_out fld_wide fld_high fld_band fld_causal mags_n mags_f marks_n marks_f pb_style pb_isWritten pb_isRead out_n out_f ((2 : Int32), out_f)) _ s 6 6 A = Q
  rw [← hH]
  clear hH
  have hl := lv_entry ([.ref a_pb, .int p2, .int p3, .ref a_out]) (n := 5) (Nat.le_of_ble_eq_true rfl)
  rw [lg_entry_eq]
  generalize (lg_sl ([.ref a_pb, .int p2, .int p3, .ref a_out]) ++ List.replicate (5 - (lg_sl ([.ref a_pb, .int p2, .int p3, .ref a_out])).length) Slot.unset).toArray = ls at hl ⊢
  have hl : lv_has ls 5 [(0, .ref a_pb), (1, .int p2), (2, .int p3), (3, .ref a_out)] := hl
  refine lv_aload_n hx hb dL_value_0 rfl (lv_at hl 3 rfl) ?_
  refine lv_iconst (v := 0) hx hb dL_value_1 (by decide) ?_
  refine lv_aload_n hx hb dL_value_2 rfl (lv_at hl 0 rfl) ?_
  refine lv_iload_n hx hb dL_value_3 rfl (lv_at hl 1 rfl) ?_
  refine lv_iload_n hx hb dL_value_4 rfl (lv_at hl 2 rfl) ?_
  have hPc := hP.sub (ws' := (wd_fld_mags_marks_pb cI a_fld a_coef a_mags a_marks a_pb a_plan a_row a_ctx a_cw a_rw a_cr a_rr a_scan fld_wide fld_high fld_band fld_causal mags_n mags_f marks_n marks_f pb_style pb_isWritten pb_isRead)) [0, 1, 2, 3] rfl
  have hDc := hD.sub (ws' := (wd_fld_mags_marks_pb cI a_fld a_coef a_mags a_marks a_pb a_plan a_row a_ctx a_cw a_rw a_cr a_rr a_scan fld_wide fld_high fld_band fld_causal mags_n mags_f marks_n marks_f pb_style pb_isWritten pb_isRead)) [0, 1, 2, 3] (by decide) rfl
  have hFc := va_free (wc := (wd_fld_mags_marks_pb cI a_fld a_coef a_mags a_marks a_pb a_plan a_row a_ctx a_cw a_rw a_cr a_rr a_scan fld_wide fld_high fld_band fld_causal mags_n mags_f marks_n marks_f pb_style pb_isWritten pb_isRead)) hD hS hA [0, 1, 2, 3] rfl
  refine vx_calli (vx_runV (As := [.int p2, .int p3]) (rest := [.int (0 : Int32), .ref a_out]) ⟨hx, hb, hml, hown, hts⟩ (cx_X10_value l hl0 dC dI cI cJ cZ a_fld a_coef a_mags a_marks a_pb a_plan a_row a_ctx a_cw a_rw a_cr a_rr a_scan H.size fld_wide fld_high fld_band fld_causal mags_n mags_f marks_n marks_f pb_style pb_isWritten pb_isRead p2 p3 1 (by decide) hT) (cwV 2 hts gL_value_X10_value rfl rfl rfl (by decide +kernel) ⟨Nat.le_of_ble_eq_true rfl, Nat.le_of_ble_eq_true rfl⟩) ⟨fun a U g mk q => by obtain ⟨q0, q1, qP, qK, qD, qZ⟩ := q; exact ⟨q0, q1, qP, va_K.moved (u := U) (U := U.calling g mk a) (Vm.Alike.refl U.vm) qK, qD, Zt.same (u := U) (U := U.calling g mk a) rfl qZ⟩, va_recv hK hPc (ci := 9) (q0 := 3) rfl rfl, fun U hU hW => ⟨rfl, by rw [hU], by rw [hU]; exact hPc, va_K.moved hW.alike hK, hDc.weaken (fun _ _ _ _ => trivial), by rw [hU]; exact ((hZ.2.kept hS.2.1).narrow hFc).warm hW⟩⟩ rfl rfl hl.1 rfl (lv_room (Nat.le_of_ble_eq_true rfl)) dL_value_5 ⟨Nat.le_of_ble_eq_true rfl, Nat.le_of_ble_eq_true rfl⟩) hS (fun q _ h => hFc q h) hFc (fun q _ h => hFc q h) (fun E ce q9 u t H1 locs ht hvm hp hB hz1 hk1 hS hce hcv hcl => ?_) (fun r u t H1 locs ht hvm hp hB hz1 hk1 hS => hp.elim)
  obtain ⟨hE, hP1, hK1, hD1⟩ := hB
  rw [ht] at hP1
  have hE : E = "java/lang/IllegalStateException" := hE
  subst hE
  obtain ⟨hP, hD⟩ := va_join (wr := [(a_out, .inl (cJ, out_n, .inr (.inl out_f)))]) (w1 := (wd_fld_mags_marks_pb cI a_fld a_coef a_mags a_marks a_pb a_plan a_row a_ctx a_cw a_rw a_cr a_rr a_scan fld_wide fld_high fld_band fld_causal mags_n mags_f marks_n marks_f pb_style pb_isWritten pb_isRead)) hP hD [0, 1, 2, 3] [4] rfl rfl (by decide) (by decide) hk1 hFc hP1 hD1
  have hP : va_P (dC, dI) vwCl (wd_fld_mags_marks_pb_out cI cJ a_fld a_coef a_mags a_marks a_pb a_plan a_row a_ctx a_cw a_rw a_cr a_rr a_scan a_out fld_wide fld_high fld_band fld_causal mags_n mags_f marks_n marks_f pb_style pb_isWritten pb_isRead out_n out_f) H1 := hP.sub [1, 2, 3, 4, 0] rfl
  have hD : va_D A (wd_fld_mags_marks_pb_out cI cJ a_fld a_coef a_mags a_marks a_pb a_plan a_row a_ctx a_cw a_rw a_cr a_rr a_scan a_out fld_wide fld_high fld_band fld_causal mags_n mags_f marks_n marks_f pb_style pb_isWritten pb_isRead out_n out_f) := hD.sub [1, 2, 3, 4, 0] (by decide) rfl
  have hpass : ∀ z ∈ ([⟨0, 10, 13, 13⟩] : List ExceptionTableEntry), covers z 5 = false ∨ (z.catchType ≠ 0 ∧ ∃ nm : String, (Cond.classLink RL z.catchType nm).before [.ref a_pb, .int p2, .int p3, .ref a_out].toArray s = true ∧ va_Nc "java/lang/IllegalStateException" nm s) := by
      intro z hz
      rcases List.mem_cons.mp hz with rfl | hz
      · exact Or.inr ⟨by decide, "java/lang/IllegalArgumentException", hts (.classLink RL 13 "java/lang/IllegalArgumentException") (by decide +kernel), hZ.2.2.2.2.1.2.2.2⟩
      cases hz
  refine vx_catch (own := RL) (name := "java/lang/IllegalStateException") (E := "java/lang/IllegalStateException") hown [⟨0, 10, 13, 13⟩] ⟨0, 10, 17, 26⟩ [] htab hpass (by decide) (by decide) (hts (.classLink RL 26 "java/lang/IllegalStateException") (by decide +kernel)) (va_tabs rfl rfl hZ.2.2.2.1.2.2.2.2.1) hce hcv hcl ?_
  refine lv_astore (lv' := [(4, .ref q9), (0, .ref a_pb), (1, .int p2), (2, .int p3), (3, .ref a_out)]) hx hb dL_value_17 hl (by decide) rfl (fun ls hl => ?_)
  refine lv_iconst (v := 2) hx hb dL_value_19 (by decide) ?_
  refine W.widen (k := 6) (n := 6) (by decide) (by decide) ?_
  rw [← hQe]
  exact W.iret (v := (2 : Int32)) hx hb hr (fun t ht hW => ⟨⟨(2 : Int32), (), rfl, rfl, by rw [ht]; exact hP, va_K.moved hW.alike hK, hD⟩, hS.F ht⟩) hS.2.2 dL_value_20
set_option maxHeartbeats 4000000 in
set_option maxRecDepth 100000 in
theorem cy_L_value_3 (l : Launch) (hl0 : l.stackTraces = false) (dC : Nat → ClassId) (dI : Nat → Nat → Nat) (cI cJ cZ : ClassId) (tP tN tO : Nat) (a_fld : Nat) (a_coef : Nat) (a_mags : Nat) (a_marks : Nat) (a_pb : Nat) (a_plan : Nat) (a_row : Nat) (a_ctx : Nat) (a_cw : Nat) (a_rw : Nat) (a_cr : Nat) (a_rr : Nat) (a_scan : Nat) (a_out : Nat) (sz : Nat) (fld_wide : Int32) (fld_high : Int32) (fld_band : Int32) (fld_causal : Int32) (mags_n : Nat) (mags_f : Nat → Int32) (marks_n : Nat) (marks_f : Nat → Int32) (pb_style : Int32) (pb_isWritten : Int32) (pb_isRead : Int32) (out_n : Nat) (out_f : Nat → Int64) (p2 : Int32) (p3 : Int32) (hT : TX_X10_value p2 p3 fld_wide fld_high pb_isRead = 3) : Met l yL_value wsL_value (rm_L_value 6) (va_Pc [.ref a_pb, .int p2, .int p3, .ref a_out] (fun U => U.heap.size = sz ∧ va_P (dC, dI) vwCl (wd_fld_mags_marks_pb_out cI cJ a_fld a_coef a_mags a_marks a_pb a_plan a_row a_ctx a_cw a_rw a_cr a_rr a_scan a_out fld_wide fld_high fld_band fld_causal mags_n mags_f marks_n marks_f pb_style pb_isWritten pb_isRead out_n out_f) U.heap ∧ va_K (dC, dI) vwCl [(cI, .int), (cJ, .long), (cZ, .boolean)] U ∧ va_D (fun _ => True) (wd_fld_mags_marks_pb_out cI cJ a_fld a_coef a_mags a_marks a_pb a_plan a_row a_ctx a_cw a_rw a_cr a_rr a_scan a_out fld_wide fld_high fld_band fld_causal mags_n mags_f marks_n marks_f pb_style pb_isWritten pb_isRead out_n out_f) ∧ Zl tP tN tO (va_A (wd_fld_mags_marks_pb_out cI cJ a_fld a_coef a_mags a_marks a_pb a_plan a_row a_ctx a_cw a_rw a_cr a_rr a_scan a_out fld_wide fld_high fld_band fld_causal mags_n mags_f marks_n marks_f pb_style pb_isWritten pb_isRead out_n out_f) sz) U U.heap)) (Q_L_value dC dI cI cJ cZ tP tN tO (va_A (wd_fld_mags_marks_pb_out cI cJ a_fld a_coef a_mags a_marks a_pb a_plan a_row a_ctx a_cw a_rw a_cr a_rr a_scan a_out fld_wide fld_high fld_band fld_causal mags_n mags_f marks_n marks_f pb_style pb_isWritten pb_isRead out_n out_f) sz) a_fld a_coef a_mags a_marks a_pb a_plan a_row a_ctx a_cw a_rw a_cr a_rr a_scan a_out fld_wide fld_high fld_band fld_causal mags_n mags_f marks_n marks_f pb_style pb_isWritten pb_isRead out_n out_f ((1 : Int32), out_f)) 6 6 (va_A (wd_fld_mags_marks_pb_out cI cJ a_fld a_coef a_mags a_marks a_pb a_plan a_row a_ctx a_cw a_rw a_cr a_rr a_scan a_out fld_wide fld_high fld_band fld_causal mags_n mags_f marks_n marks_f pb_style pb_isWritten pb_isRead out_n out_f) sz) := by
  refine va_MetW (cc := cL_value) (maxL := 5) (ret := (some .int)) (hh := [(0, 10, 13, 13), (0, 10, 17, 26)]) (by decide) rfl ?_
  intro p e s m args below meth c s₁ B hml hv
  obtain ⟨rfl, hsz, hP, hK, hD0, hZ⟩ := hv
  have hx := B.exec
  have hb := B.bytes
  have hr := B.returns
  have hts := atoms_spec (ws := wsL_value) B.pre
  have hown : s.vm.findClass RL = some m.cls := findClass_of_methodNamed B.named
  have hlocks := B.notSynchronized
  subst hsz
  have hD := hD0.self (sz := s.heap.size)
  generalize hAe : va_A (wd_fld_mags_marks_pb_out cI cJ a_fld a_coef a_mags a_marks a_pb a_plan a_row a_ctx a_cw a_rw a_cr a_rr a_scan a_out fld_wide fld_high fld_band fld_causal mags_n mags_f marks_n marks_f pb_style pb_isWritten pb_isRead out_n out_f) s.heap.size = A at hD hZ ⊢
  have hA : ∀ q : Nat, s.heap.size ≤ q → A q := fun q h => by rw [← hAe]; exact Or.inr h
  have hS : va_S A s.heap s.heap [] := va_S.rf
  obtain ⟨H, hH⟩ : ∃ z, z = s.heap := ⟨_, rfl⟩
  have hP : va_P (dC, dI) vwCl (wd_fld_mags_marks_pb_out cI cJ a_fld a_coef a_mags a_marks a_pb a_plan a_row a_ctx a_cw a_rw a_cr a_rr a_scan a_out fld_wide fld_high fld_band fld_causal mags_n mags_f marks_n marks_f pb_style pb_isWritten pb_isRead out_n out_f) H := by rw [hH]; exact hP
  have hS : va_S A s.heap H [] := by rw [hH]; exact va_S.rf
  have htab : c.exceptionTable.toList = tableOf [(0, 10, 13, 13), (0, 10, 17, 26)] := vx_table (x := yL_value) B (hts _ List.mem_cons_self)
  generalize hQe : MQ below (Q_L_value dC dI cI cJ cZ tP tN tO A a_fld a_coef a_mags a_marks a_pb a_plan a_row a_ctx a_cw a_rw a_cr a_rr a_scan a_out fld_wide fld_high fld_band fld_causal mags_n mags_f marks_n marks_f pb_style pb_isWritten pb_isRead out_n out_f ((1 : Int32), out_f)) _ s 6 6 A = Q
  rw [← hH]
  clear hH
  have hl := lv_entry ([.ref a_pb, .int p2, .int p3, .ref a_out]) (n := 5) (Nat.le_of_ble_eq_true rfl)
  rw [lg_entry_eq]
  generalize (lg_sl ([.ref a_pb, .int p2, .int p3, .ref a_out]) ++ List.replicate (5 - (lg_sl ([.ref a_pb, .int p2, .int p3, .ref a_out])).length) Slot.unset).toArray = ls at hl ⊢
  have hl : lv_has ls 5 [(0, .ref a_pb), (1, .int p2), (2, .int p3), (3, .ref a_out)] := hl
  refine lv_aload_n hx hb dL_value_0 rfl (lv_at hl 3 rfl) ?_
  refine lv_iconst (v := 0) hx hb dL_value_1 (by decide) ?_
  refine lv_aload_n hx hb dL_value_2 rfl (lv_at hl 0 rfl) ?_
  refine lv_iload_n hx hb dL_value_3 rfl (lv_at hl 1 rfl) ?_
  refine lv_iload_n hx hb dL_value_4 rfl (lv_at hl 2 rfl) ?_
  have hPc := hP.sub (ws' := (wd_fld_mags_marks_pb cI a_fld a_coef a_mags a_marks a_pb a_plan a_row a_ctx a_cw a_rw a_cr a_rr a_scan fld_wide fld_high fld_band fld_causal mags_n mags_f marks_n marks_f pb_style pb_isWritten pb_isRead)) [0, 1, 2, 3] rfl
  have hDc := hD.sub (ws' := (wd_fld_mags_marks_pb cI a_fld a_coef a_mags a_marks a_pb a_plan a_row a_ctx a_cw a_rw a_cr a_rr a_scan fld_wide fld_high fld_band fld_causal mags_n mags_f marks_n marks_f pb_style pb_isWritten pb_isRead)) [0, 1, 2, 3] (by decide) rfl
  have hFc := va_free (wc := (wd_fld_mags_marks_pb cI a_fld a_coef a_mags a_marks a_pb a_plan a_row a_ctx a_cw a_rw a_cr a_rr a_scan fld_wide fld_high fld_band fld_causal mags_n mags_f marks_n marks_f pb_style pb_isWritten pb_isRead)) hD hS hA [0, 1, 2, 3] rfl
  refine vx_calli (vx_runV (As := [.int p2, .int p3]) (rest := [.int (0 : Int32), .ref a_out]) ⟨hx, hb, hml, hown, hts⟩ (cx_X10_value l hl0 dC dI cI cJ cZ a_fld a_coef a_mags a_marks a_pb a_plan a_row a_ctx a_cw a_rw a_cr a_rr a_scan H.size fld_wide fld_high fld_band fld_causal mags_n mags_f marks_n marks_f pb_style pb_isWritten pb_isRead p2 p3 3 (by decide) hT) (cwV 2 hts gL_value_X10_value rfl rfl rfl (by decide +kernel) ⟨Nat.le_of_ble_eq_true rfl, Nat.le_of_ble_eq_true rfl⟩) ⟨fun a U g mk q => by obtain ⟨q0, q1, qP, qK, qD, qZ⟩ := q; exact ⟨q0, q1, qP, va_K.moved (u := U) (U := U.calling g mk a) (Vm.Alike.refl U.vm) qK, qD, Zt.same (u := U) (U := U.calling g mk a) rfl qZ⟩, va_recv hK hPc (ci := 9) (q0 := 3) rfl rfl, fun U hU hW => ⟨rfl, by rw [hU], by rw [hU]; exact hPc, va_K.moved hW.alike hK, hDc.weaken (fun _ _ _ _ => trivial), by rw [hU]; exact ((hZ.2.kept hS.2.1).narrow hFc).warm hW⟩⟩ rfl rfl hl.1 rfl (lv_room (Nat.le_of_ble_eq_true rfl)) dL_value_5 ⟨Nat.le_of_ble_eq_true rfl, Nat.le_of_ble_eq_true rfl⟩) hS (fun q _ h => hFc q h) hFc (fun q _ h => hFc q h) (fun E ce q9 u t H1 locs ht hvm hp hB hz1 hk1 hS hce hcv hcl => ?_) (fun r u t H1 locs ht hvm hp hB hz1 hk1 hS => hp.elim)
  obtain ⟨hE, hP1, hK1, hD1⟩ := hB
  rw [ht] at hP1
  have hE : E = "java/lang/IllegalArgumentException" := hE
  subst hE
  obtain ⟨hP, hD⟩ := va_join (wr := [(a_out, .inl (cJ, out_n, .inr (.inl out_f)))]) (w1 := (wd_fld_mags_marks_pb cI a_fld a_coef a_mags a_marks a_pb a_plan a_row a_ctx a_cw a_rw a_cr a_rr a_scan fld_wide fld_high fld_band fld_causal mags_n mags_f marks_n marks_f pb_style pb_isWritten pb_isRead)) hP hD [0, 1, 2, 3] [4] rfl rfl (by decide) (by decide) hk1 hFc hP1 hD1
  have hP : va_P (dC, dI) vwCl (wd_fld_mags_marks_pb_out cI cJ a_fld a_coef a_mags a_marks a_pb a_plan a_row a_ctx a_cw a_rw a_cr a_rr a_scan a_out fld_wide fld_high fld_band fld_causal mags_n mags_f marks_n marks_f pb_style pb_isWritten pb_isRead out_n out_f) H1 := hP.sub [1, 2, 3, 4, 0] rfl
  have hD : va_D A (wd_fld_mags_marks_pb_out cI cJ a_fld a_coef a_mags a_marks a_pb a_plan a_row a_ctx a_cw a_rw a_cr a_rr a_scan a_out fld_wide fld_high fld_band fld_causal mags_n mags_f marks_n marks_f pb_style pb_isWritten pb_isRead out_n out_f) := hD.sub [1, 2, 3, 4, 0] (by decide) rfl
  have hpass : ∀ z ∈ ([] : List ExceptionTableEntry), covers z 5 = false ∨ (z.catchType ≠ 0 ∧ ∃ nm : String, (Cond.classLink RL z.catchType nm).before [.ref a_pb, .int p2, .int p3, .ref a_out].toArray s = true ∧ va_Nc "java/lang/IllegalArgumentException" nm s) := fun z hz => nomatch hz
  refine vx_catch (own := RL) (name := "java/lang/IllegalArgumentException") (E := "java/lang/IllegalArgumentException") hown [] ⟨0, 10, 13, 13⟩ [⟨0, 10, 17, 26⟩] htab hpass (by decide) (by decide) (hts (.classLink RL 13 "java/lang/IllegalArgumentException") (by decide +kernel)) (va_tabs rfl rfl hZ.2.2.2.1.2.2.2.1) hce hcv hcl ?_
  refine lv_astore (lv' := [(4, .ref q9), (0, .ref a_pb), (1, .int p2), (2, .int p3), (3, .ref a_out)]) hx hb dL_value_13 hl (by decide) rfl (fun ls hl => ?_)
  refine lv_iconst (v := 1) hx hb dL_value_15 (by decide) ?_
  refine W.widen (k := 6) (n := 6) (by decide) (by decide) ?_
  rw [← hQe]
  exact W.iret (v := (1 : Int32)) hx hb hr (fun t ht hW => ⟨⟨(1 : Int32), (), rfl, rfl, by rw [ht]; exact hP, va_K.moved hW.alike hK, hD⟩, hS.F ht⟩) hS.2.2 dL_value_16
noncomputable def F_L_value (p2 : Int32) (p3 : Int32) (fld_wide : Int32) (fld_high : Int32) (mags_f : Nat → Int32) (marks_f : Nat → Int32) (pb_isRead : Int32) (out_f : Nat → Int64) : (Int32 × (Nat → Int64)) := if TX_X10_value p2 p3 fld_wide fld_high pb_isRead = 0 then (FA_L_value p2 p3 fld_wide mags_f marks_f out_f) else (if TX_X10_value p2 p3 fld_wide fld_high pb_isRead = 1 then (2 : Int32) else if TX_X10_value p2 p3 fld_wide fld_high pb_isRead = 3 then (1 : Int32) else (0 : Int32), out_f)
noncomputable def D_L_value (p2 : Int32) (p3 : Int32) (fld_wide : Int32) (fld_high : Int32) (pb_isRead : Int32) : Nat := if TX_X10_value p2 p3 fld_wide fld_high pb_isRead = 0 then DA_L_value else 6
def P_L_value (p2 : Int32) (p3 : Int32) (fld_wide : Int32) (fld_high : Int32) (mags_n : Nat) (mags_f : Nat → Int32) (marks_n : Nat) (marks_f : Nat → Int32) (pb_isRead : Int32) (out_n : Nat) : Prop := (TX_X10_value p2 p3 fld_wide fld_high pb_isRead = 0 → (PA_L_value p2 p3 fld_wide fld_high mags_n mags_f marks_n marks_f pb_isRead out_n))
theorem txr_L_value (p1 : Int32) (p2 : Int32) (fld_wide : Int32) (fld_high : Int32) (pb_isRead : Int32) : TX_X10_value p1 p2 fld_wide fld_high pb_isRead = 0 ∨ TX_X10_value p1 p2 fld_wide fld_high pb_isRead = 1 ∨ TX_X10_value p1 p2 fld_wide fld_high pb_isRead = 3 := by
  unfold TX_X10_value TX_X10_needReadAt TX_X10_needRead
  try dsimp only
  repeat' split
  all_goals first | (simp; done) | (simp_all; done) | omega
theorem c_L_value (l : Launch) (hl0 : l.stackTraces = false) (dC : Nat → ClassId) (dI : Nat → Nat → Nat) (cI cJ cZ : ClassId) (tP tN tO : Nat) (a_fld : Nat) (a_coef : Nat) (a_mags : Nat) (a_marks : Nat) (a_pb : Nat) (a_plan : Nat) (a_row : Nat) (a_ctx : Nat) (a_cw : Nat) (a_rw : Nat) (a_cr : Nat) (a_rr : Nat) (a_scan : Nat) (a_out : Nat) (sz : Nat) (fld_wide : Int32) (fld_high : Int32) (fld_band : Int32) (fld_causal : Int32) (mags_n : Nat) (mags_f : Nat → Int32) (marks_n : Nat) (marks_f : Nat → Int32) (pb_style : Int32) (pb_isWritten : Int32) (pb_isRead : Int32) (out_n : Nat) (out_f : Nat → Int64) (p2 : Int32) (p3 : Int32) (hpre : P_L_value p2 p3 fld_wide fld_high mags_n mags_f marks_n marks_f pb_isRead out_n) : Met l yL_value wsL_value (rm_L_value (D_L_value p2 p3 fld_wide fld_high pb_isRead)) (va_Pc [.ref a_pb, .int p2, .int p3, .ref a_out] (fun U => U.heap.size = sz ∧ va_P (dC, dI) vwCl (wd_fld_mags_marks_pb_out cI cJ a_fld a_coef a_mags a_marks a_pb a_plan a_row a_ctx a_cw a_rw a_cr a_rr a_scan a_out fld_wide fld_high fld_band fld_causal mags_n mags_f marks_n marks_f pb_style pb_isWritten pb_isRead out_n out_f) U.heap ∧ va_K (dC, dI) vwCl [(cI, .int), (cJ, .long), (cZ, .boolean)] U ∧ va_D (fun _ => True) (wd_fld_mags_marks_pb_out cI cJ a_fld a_coef a_mags a_marks a_pb a_plan a_row a_ctx a_cw a_rw a_cr a_rr a_scan a_out fld_wide fld_high fld_band fld_causal mags_n mags_f marks_n marks_f pb_style pb_isWritten pb_isRead out_n out_f) ∧ Zl tP tN tO (va_A (wd_fld_mags_marks_pb_out cI cJ a_fld a_coef a_mags a_marks a_pb a_plan a_row a_ctx a_cw a_rw a_cr a_rr a_scan a_out fld_wide fld_high fld_band fld_causal mags_n mags_f marks_n marks_f pb_style pb_isWritten pb_isRead out_n out_f) sz) U U.heap)) (Q_L_value dC dI cI cJ cZ tP tN tO (va_A (wd_fld_mags_marks_pb_out cI cJ a_fld a_coef a_mags a_marks a_pb a_plan a_row a_ctx a_cw a_rw a_cr a_rr a_scan a_out fld_wide fld_high fld_band fld_causal mags_n mags_f marks_n marks_f pb_style pb_isWritten pb_isRead out_n out_f) sz) a_fld a_coef a_mags a_marks a_pb a_plan a_row a_ctx a_cw a_rw a_cr a_rr a_scan a_out fld_wide fld_high fld_band fld_causal mags_n mags_f marks_n marks_f pb_style pb_isWritten pb_isRead out_n out_f (F_L_value p2 p3 fld_wide fld_high mags_f marks_f pb_isRead out_f)) (D_L_value p2 p3 fld_wide fld_high pb_isRead) (D_L_value p2 p3 fld_wide fld_high pb_isRead) (va_A (wd_fld_mags_marks_pb_out cI cJ a_fld a_coef a_mags a_marks a_pb a_plan a_row a_ctx a_cw a_rw a_cr a_rr a_scan a_out fld_wide fld_high fld_band fld_causal mags_n mags_f marks_n marks_f pb_style pb_isWritten pb_isRead out_n out_f) sz) := by
  by_cases h0 : TX_X10_value p2 p3 fld_wide fld_high pb_isRead = 0
  · have eF : F_L_value p2 p3 fld_wide fld_high mags_f marks_f pb_isRead out_f = FA_L_value p2 p3 fld_wide mags_f marks_f out_f := by unfold F_L_value; rw [if_pos h0]
    have eD : D_L_value p2 p3 fld_wide fld_high pb_isRead = DA_L_value := by unfold D_L_value; rw [if_pos h0]
    rw [eF, eD]
    exact ca_L_value l hl0 dC dI cI cJ cZ tP tN tO a_fld a_coef a_mags a_marks a_pb a_plan a_row a_ctx a_cw a_rw a_cr a_rr a_scan a_out sz fld_wide fld_high fld_band fld_causal mags_n mags_f marks_n marks_f pb_style pb_isWritten pb_isRead out_n out_f p2 p3 (hpre h0)
  · have eD : D_L_value p2 p3 fld_wide fld_high pb_isRead = 6 := by unfold D_L_value; rw [if_neg h0]
    rcases txr_L_value p2 p3 fld_wide fld_high pb_isRead with h | h | h
    · exact absurd h h0
    · have eF : F_L_value p2 p3 fld_wide fld_high mags_f marks_f pb_isRead out_f = ((2 : Int32), out_f) := by unfold F_L_value; rw [if_neg h0, if_pos h]
      rw [eF, eD]
      exact cy_L_value_1 l hl0 dC dI cI cJ cZ tP tN tO a_fld a_coef a_mags a_marks a_pb a_plan a_row a_ctx a_cw a_rw a_cr a_rr a_scan a_out sz fld_wide fld_high fld_band fld_causal mags_n mags_f marks_n marks_f pb_style pb_isWritten pb_isRead out_n out_f p2 p3 h
    · have eF : F_L_value p2 p3 fld_wide fld_high mags_f marks_f pb_isRead out_f = ((1 : Int32), out_f) := by unfold F_L_value; rw [if_neg h0, if_neg (by rw [h]; decide), if_pos h]
      rw [eF, eD]
      exact cy_L_value_3 l hl0 dC dI cI cJ cZ tP tN tO a_fld a_coef a_mags a_marks a_pb a_plan a_row a_ctx a_cw a_rw a_cr a_rr a_scan a_out sz fld_wide fld_high fld_band fld_causal mags_n mags_f marks_n marks_f pb_style pb_isWritten pb_isRead out_n out_f p2 p3 h
abbrev wd_fld_mags_pb_out (cI : ClassId) (cJ : ClassId) (a_fld : Nat) (a_coef : Nat) (a_mags : Nat) (a_marks : Nat) (a_pb : Nat) (a_plan : Nat) (a_row : Nat) (a_ctx : Nat) (a_cw : Nat) (a_rw : Nat) (a_cr : Nat) (a_rr : Nat) (a_scan : Nat) (a_out : Nat) (fld_wide : Int32) (fld_high : Int32) (fld_band : Int32) (fld_causal : Int32) (mags_n : Nat) (mags_f : Nat → Int32) (pb_style : Int32) (pb_isWritten : Int32) (pb_isRead : Int32) (out_n : Nat) (out_f : Nat → Int64) : va_W := [(a_fld, .inr (4, [.int fld_wide, .int fld_high, .ref a_coef, .ref a_mags, .ref a_marks, .int fld_band, .int fld_causal])), (a_mags, .inl (cI, mags_n, .inl mags_f)), (a_pb, .inr (9, [.ref a_fld, .ref a_plan, .ref a_row, .ref a_ctx, .ref a_cw, .ref a_rw, .ref a_cr, .ref a_rr, .ref a_scan, .int pb_style, .int pb_isWritten, .int pb_isRead])), (a_out, .inl (cJ, out_n, .inr (.inl out_f)))]
abbrev rm_L_known (Dt : Nat) : Room := { frames := 9, cells := Dt, slots := Dt, locals := 154 }
noncomputable def FA_L_known (p2 : Int32) (p3 : Int32) (fld_wide : Int32) (mags_f : Nat → Int32) (out_f : Nat → Int64) : (Int32 × (Nat → Int64)) := let r_1 := F_X10_known p2 p3 fld_wide mags_f; ((0 : Int32), vp_updL out_f (0 : Int32).toNatClampNeg r_1.toInt64)
noncomputable def DA_L_known : Nat := 0
def PA_L_known (p2 : Int32) (p3 : Int32) (fld_wide : Int32) (fld_high : Int32) (mags_n : Nat) (mags_f : Nat → Int32) (pb_isRead : Int32) (out_n : Nat) : Prop := (P_X10_known p2 p3 fld_wide fld_high mags_n pb_isRead) ∧ (∀ r_1, F_X10_known p2 p3 fld_wide mags_f = r_1 → (vp_in (0 : Int32) out_n))
abbrev Q_L_known (dC : Nat → ClassId) (dI : Nat → Nat → Nat) (cI cJ cZ : ClassId) (tP tN tO : Nat) (A : Nat → Prop) (a_fld : Nat) (a_coef : Nat) (a_mags : Nat) (a_marks : Nat) (a_pb : Nat) (a_plan : Nat) (a_row : Nat) (a_ctx : Nat) (a_cw : Nat) (a_rw : Nat) (a_cr : Nat) (a_rr : Nat) (a_scan : Nat) (a_out : Nat) (fld_wide : Int32) (fld_high : Int32) (fld_band : Int32) (fld_causal : Int32) (mags_n : Nat) (mags_f : Nat → Int32) (pb_style : Int32) (pb_isWritten : Int32) (pb_isRead : Int32) (out_n : Nat) (out_f : Nat → Int64) (g : (Int32 × (Nat → Int64))) : Array Value → State → Outcome → State → Prop := va_Qi (fun (r : Int32) (_ : Unit) => r = g.1) (fun u t => va_P (dC, dI) vwCl (wd_fld_mags_pb_out cI cJ a_fld a_coef a_mags a_marks a_pb a_plan a_row a_ctx a_cw a_rw a_cr a_rr a_scan a_out fld_wide fld_high fld_band fld_causal mags_n mags_f pb_style pb_isWritten pb_isRead out_n g.2) t.heap ∧ va_K (dC, dI) vwCl [(cI, .int), (cJ, .long), (cZ, .boolean)] t ∧ va_D A (wd_fld_mags_pb_out cI cJ a_fld a_coef a_mags a_marks a_pb a_plan a_row a_ctx a_cw a_rw a_cr a_rr a_scan a_out fld_wide fld_high fld_band fld_causal mags_n mags_f pb_style pb_isWritten pb_isRead out_n g.2)) A
set_option maxHeartbeats 4000000 in
set_option maxRecDepth 100000 in
theorem ca_L_known (l : Launch) (hl0 : l.stackTraces = false) (dC : Nat → ClassId) (dI : Nat → Nat → Nat) (cI cJ cZ : ClassId) (tP tN tO : Nat) (a_fld : Nat) (a_coef : Nat) (a_mags : Nat) (a_marks : Nat) (a_pb : Nat) (a_plan : Nat) (a_row : Nat) (a_ctx : Nat) (a_cw : Nat) (a_rw : Nat) (a_cr : Nat) (a_rr : Nat) (a_scan : Nat) (a_out : Nat) (sz : Nat) (fld_wide : Int32) (fld_high : Int32) (fld_band : Int32) (fld_causal : Int32) (mags_n : Nat) (mags_f : Nat → Int32) (pb_style : Int32) (pb_isWritten : Int32) (pb_isRead : Int32) (out_n : Nat) (out_f : Nat → Int64) (p2 : Int32) (p3 : Int32) (hpre : PA_L_known p2 p3 fld_wide fld_high mags_n mags_f pb_isRead out_n) : Met l yL_known wsL_known (rm_L_known (DA_L_known)) (va_Pc [.ref a_pb, .int p2, .int p3, .ref a_out] (fun U => U.heap.size = sz ∧ va_P (dC, dI) vwCl (wd_fld_mags_pb_out cI cJ a_fld a_coef a_mags a_marks a_pb a_plan a_row a_ctx a_cw a_rw a_cr a_rr a_scan a_out fld_wide fld_high fld_band fld_causal mags_n mags_f pb_style pb_isWritten pb_isRead out_n out_f) U.heap ∧ va_K (dC, dI) vwCl [(cI, .int), (cJ, .long), (cZ, .boolean)] U ∧ va_D (fun _ => True) (wd_fld_mags_pb_out cI cJ a_fld a_coef a_mags a_marks a_pb a_plan a_row a_ctx a_cw a_rw a_cr a_rr a_scan a_out fld_wide fld_high fld_band fld_causal mags_n mags_f pb_style pb_isWritten pb_isRead out_n out_f) ∧ Zl tP tN tO (va_A (wd_fld_mags_pb_out cI cJ a_fld a_coef a_mags a_marks a_pb a_plan a_row a_ctx a_cw a_rw a_cr a_rr a_scan a_out fld_wide fld_high fld_band fld_causal mags_n mags_f pb_style pb_isWritten pb_isRead out_n out_f) sz) U U.heap)) (Q_L_known dC dI cI cJ cZ tP tN tO (va_A (wd_fld_mags_pb_out cI cJ a_fld a_coef a_mags a_marks a_pb a_plan a_row a_ctx a_cw a_rw a_cr a_rr a_scan a_out fld_wide fld_high fld_band fld_causal mags_n mags_f pb_style pb_isWritten pb_isRead out_n out_f) sz) a_fld a_coef a_mags a_marks a_pb a_plan a_row a_ctx a_cw a_rw a_cr a_rr a_scan a_out fld_wide fld_high fld_band fld_causal mags_n mags_f pb_style pb_isWritten pb_isRead out_n out_f (FA_L_known p2 p3 fld_wide mags_f out_f)) (DA_L_known) (DA_L_known) (va_A (wd_fld_mags_pb_out cI cJ a_fld a_coef a_mags a_marks a_pb a_plan a_row a_ctx a_cw a_rw a_cr a_rr a_scan a_out fld_wide fld_high fld_band fld_causal mags_n mags_f pb_style pb_isWritten pb_isRead out_n out_f) sz) := by
  refine va_MetW (cc := cL_known) (maxL := 5) (ret := (some .int)) (hh := [(0, 10, 13, 13), (0, 10, 17, 26)]) (by decide) rfl ?_
  intro p e s m args below meth c s₁ B hml hv
  obtain ⟨rfl, hsz, hP, hK, hD0, hZ⟩ := hv
  have hx := B.exec
  have hb := B.bytes
  have hr := B.returns
  have hts := atoms_spec (ws := wsL_known) B.pre
  have hown : s.vm.findClass RL = some m.cls := findClass_of_methodNamed B.named
  have hlocks := B.notSynchronized
  subst hsz
  have hD := hD0.self (sz := s.heap.size)
  generalize hAe : va_A (wd_fld_mags_pb_out cI cJ a_fld a_coef a_mags a_marks a_pb a_plan a_row a_ctx a_cw a_rw a_cr a_rr a_scan a_out fld_wide fld_high fld_band fld_causal mags_n mags_f pb_style pb_isWritten pb_isRead out_n out_f) s.heap.size = A at hD hZ ⊢
  have hA : ∀ q : Nat, s.heap.size ≤ q → A q := fun q h => by rw [← hAe]; exact Or.inr h
  have hS : va_S A s.heap s.heap [] := va_S.rf
  obtain ⟨H, hH⟩ : ∃ z, z = s.heap := ⟨_, rfl⟩
  have hP : va_P (dC, dI) vwCl (wd_fld_mags_pb_out cI cJ a_fld a_coef a_mags a_marks a_pb a_plan a_row a_ctx a_cw a_rw a_cr a_rr a_scan a_out fld_wide fld_high fld_band fld_causal mags_n mags_f pb_style pb_isWritten pb_isRead out_n out_f) H := by rw [hH]; exact hP
  have hS : va_S A s.heap H [] := by rw [hH]; exact va_S.rf
  obtain ⟨g, hg⟩ : ∃ z, FA_L_known p2 p3 fld_wide mags_f out_f = z := ⟨_, rfl⟩
  rw [hg]
  obtain ⟨Dt, hDt⟩ : ∃ z, DA_L_known = z := ⟨_, rfl⟩
  rw [hDt]
  generalize hQe : MQ below (Q_L_known dC dI cI cJ cZ tP tN tO A a_fld a_coef a_mags a_marks a_pb a_plan a_row a_ctx a_cw a_rw a_cr a_rr a_scan a_out fld_wide fld_high fld_band fld_causal mags_n mags_f pb_style pb_isWritten pb_isRead out_n out_f g) _ s Dt Dt A = Q
  rw [← hH]
  clear hH
  have hl := lv_entry ([.ref a_pb, .int p2, .int p3, .ref a_out]) (n := 5) (Nat.le_of_ble_eq_true rfl)
  rw [lg_entry_eq]
  generalize (lg_sl ([.ref a_pb, .int p2, .int p3, .ref a_out]) ++ List.replicate (5 - (lg_sl ([.ref a_pb, .int p2, .int p3, .ref a_out])).length) Slot.unset).toArray = ls at hl ⊢
  have hl : lv_has ls 5 [(0, .ref a_pb), (1, .int p2), (2, .int p3), (3, .ref a_out)] := hl
  unfold FA_L_known at hg
  unfold PA_L_known at hpre
  unfold DA_L_known at hDt
  obtain ⟨k, hk⟩ : ∃ z : Nat, z = 0 := ⟨_, rfl⟩
  obtain ⟨E, hE⟩ : ∃ z : Nat, z = 0 := ⟨_, rfl⟩
  have hC : k + (0) + E ≤ Dt := by rw [hk, hE, Nat.zero_add]; exact Nat.le_of_eq hDt
  refine W.widen (k := k) (n := k) (Nat.zero_le _) (Nat.zero_le _) ?_
  clear hk hE hDt
  refine lv_aload_n hx hb dL_known_0 rfl (lv_at hl 3 rfl) ?_
  refine lv_iconst (v := 0) hx hb dL_known_1 (by decide) ?_
  refine lv_aload_n hx hb dL_known_2 rfl (lv_at hl 0 rfl) ?_
  refine lv_iload_n hx hb dL_known_3 rfl (lv_at hl 1 rfl) ?_
  refine lv_iload_n hx hb dL_known_4 rfl (lv_at hl 2 rfl) ?_
  have hPc := hP.sub (ws' := (wd_fld_mags_pb cI a_fld a_coef a_mags a_marks a_pb a_plan a_row a_ctx a_cw a_rw a_cr a_rr a_scan fld_wide fld_high fld_band fld_causal mags_n mags_f pb_style pb_isWritten pb_isRead)) [0, 1, 2] rfl
  have hDc := hD.sub (ws' := (wd_fld_mags_pb cI a_fld a_coef a_mags a_marks a_pb a_plan a_row a_ctx a_cw a_rw a_cr a_rr a_scan fld_wide fld_high fld_band fld_causal mags_n mags_f pb_style pb_isWritten pb_isRead)) [0, 1, 2] (by decide) rfl
  have hFc := va_free (wc := (wd_fld_mags_pb cI a_fld a_coef a_mags a_marks a_pb a_plan a_row a_ctx a_cw a_rw a_cr a_rr a_scan fld_wide fld_high fld_band fld_causal mags_n mags_f pb_style pb_isWritten pb_isRead)) hD hS hA [0, 1, 2] rfl
  refine va_calli (va_runV (As := [.int p2, .int p3]) (rest := [.int (0 : Int32), .ref a_out]) ⟨hx, hb, hml, hown, hts⟩ (c_X10_known l dC dI cI cJ cZ a_fld a_coef a_mags a_marks a_pb a_plan a_row a_ctx a_cw a_rw a_cr a_rr a_scan H.size fld_wide fld_high fld_band fld_causal mags_n mags_f pb_style pb_isWritten pb_isRead p2 p3 hpre.1) (cwV 2 hts gL_known_X10_known rfl rfl rfl (by decide +kernel) ⟨Nat.le_of_ble_eq_true rfl, Nat.le_of_ble_eq_true rfl⟩) ⟨fun a U g mk q => by obtain ⟨q0, q1, qP, qK, qD⟩ := q; exact ⟨q0, q1, qP, va_K.moved (u := U) (U := U.calling g mk a) (Vm.Alike.refl U.vm) qK, qD⟩, va_recv hK hPc (ci := 9) (q0 := 2) rfl rfl, fun U hU hW => ⟨rfl, by rw [hU], by rw [hU]; exact hPc, va_K.moved hW.alike hK, hDc.weaken (fun _ _ _ _ => trivial)⟩⟩ rfl rfl hl.1 rfl (lv_room (Nat.le_of_ble_eq_true rfl)) dL_known_5 ⟨k0_le hC, k0_le hC⟩) hS (fun q _ h => hFc q h) hFc (fun r u t H1 locs ht hvm hw hB hz1 hk1 hS => ?_)
  obtain ⟨hP1, hK1, hD1⟩ := hB
  rw [ht] at hP1
  obtain ⟨r_1, hr_1⟩ : ∃ z, F_X10_known p2 p3 fld_wide mags_f = z := ⟨_, rfl⟩
  try rw [hr_1] at hw
  try rw [hr_1] at hP1
  try rw [hr_1] at hD1
  have hg : ((0 : Int32), vp_updL out_f (0 : Int32).toNatClampNeg r_1.toInt64) = g := by first | (rw [hr_1] at hg; exact hg) | (subst hr_1; exact hg)
  have hw := hw.symm
  subst hw
  obtain ⟨hP, hD⟩ := va_join (wr := [(a_out, .inl (cJ, out_n, .inr (.inl out_f)))]) (w1 := (wd_fld_mags_pb cI a_fld a_coef a_mags a_marks a_pb a_plan a_row a_ctx a_cw a_rw a_cr a_rr a_scan fld_wide fld_high fld_band fld_causal mags_n mags_f pb_style pb_isWritten pb_isRead)) hP hD [0, 1, 2] [3] rfl rfl (by decide) (by decide) hk1 hFc hP1 hD1
  have hP : va_P (dC, dI) vwCl (wd_fld_mags_pb_out cI cJ a_fld a_coef a_mags a_marks a_pb a_plan a_row a_ctx a_cw a_rw a_cr a_rr a_scan a_out fld_wide fld_high fld_band fld_causal mags_n mags_f pb_style pb_isWritten pb_isRead out_n out_f) H1 := hP.sub [1, 2, 3, 0] rfl
  have hD : va_D A (wd_fld_mags_pb_out cI cJ a_fld a_coef a_mags a_marks a_pb a_plan a_row a_ctx a_cw a_rw a_cr a_rr a_scan a_out fld_wide fld_high fld_band fld_causal mags_n mags_f pb_style pb_isWritten pb_isRead out_n out_f) := hD.sub [1, 2, 3, 0] (by decide) rfl
  generalize H1 = H at hP hS ⊢
  have hpre := hpre.2 r_1 hr_1
  refine lv_i2l hx hb dL_known_8 rfl ?_
  have h_2 := hpre
  refine va_last hx hb hK hP hD hS 3 1 rfl rfl h_2 dL_known_9 (fun H locs hP hD hS => ?_)
  have hP : va_P (dC, dI) vwCl (wd_fld_mags_pb_out cI cJ a_fld a_coef a_mags a_marks a_pb a_plan a_row a_ctx a_cw a_rw a_cr a_rr a_scan a_out fld_wide fld_high fld_band fld_causal mags_n mags_f pb_style pb_isWritten pb_isRead out_n (vp_updL out_f (0 : Int32).toNatClampNeg r_1.toInt64)) H := hP
  have hD : va_D A (wd_fld_mags_pb_out cI cJ a_fld a_coef a_mags a_marks a_pb a_plan a_row a_ctx a_cw a_rw a_cr a_rr a_scan a_out fld_wide fld_high fld_band fld_causal mags_n mags_f pb_style pb_isWritten pb_isRead out_n (vp_updL out_f (0 : Int32).toNatClampNeg r_1.toInt64)) := hD
  refine lv_goto (tgt := 21) hx hb dL_known_10 (by decide) ?_
  refine lv_iconst (v := 0) hx hb dL_known_21 (by decide) ?_
  subst hg
  refine W.widen (k := Dt) (n := Dt) (k0_le hC) (k0_le hC) ?_
  rw [← hQe]
  exact W.iret (v := (0 : Int32)) hx hb hr (fun t ht hW => ⟨⟨(0 : Int32), (), rfl, rfl, by rw [ht]; exact hP, va_K.moved hW.alike hK, hD⟩, hS.F ht⟩) hS.2.2 dL_known_22
set_option maxHeartbeats 4000000 in
set_option maxRecDepth 100000 in
theorem cy_L_known_1 (l : Launch) (hl0 : l.stackTraces = false) (dC : Nat → ClassId) (dI : Nat → Nat → Nat) (cI cJ cZ : ClassId) (tP tN tO : Nat) (a_fld : Nat) (a_coef : Nat) (a_mags : Nat) (a_marks : Nat) (a_pb : Nat) (a_plan : Nat) (a_row : Nat) (a_ctx : Nat) (a_cw : Nat) (a_rw : Nat) (a_cr : Nat) (a_rr : Nat) (a_scan : Nat) (a_out : Nat) (sz : Nat) (fld_wide : Int32) (fld_high : Int32) (fld_band : Int32) (fld_causal : Int32) (mags_n : Nat) (mags_f : Nat → Int32) (pb_style : Int32) (pb_isWritten : Int32) (pb_isRead : Int32) (out_n : Nat) (out_f : Nat → Int64) (p2 : Int32) (p3 : Int32) (hT : TX_X10_known p2 p3 fld_wide fld_high pb_isRead = 1) : Met l yL_known wsL_known (rm_L_known 6) (va_Pc [.ref a_pb, .int p2, .int p3, .ref a_out] (fun U => U.heap.size = sz ∧ va_P (dC, dI) vwCl (wd_fld_mags_pb_out cI cJ a_fld a_coef a_mags a_marks a_pb a_plan a_row a_ctx a_cw a_rw a_cr a_rr a_scan a_out fld_wide fld_high fld_band fld_causal mags_n mags_f pb_style pb_isWritten pb_isRead out_n out_f) U.heap ∧ va_K (dC, dI) vwCl [(cI, .int), (cJ, .long), (cZ, .boolean)] U ∧ va_D (fun _ => True) (wd_fld_mags_pb_out cI cJ a_fld a_coef a_mags a_marks a_pb a_plan a_row a_ctx a_cw a_rw a_cr a_rr a_scan a_out fld_wide fld_high fld_band fld_causal mags_n mags_f pb_style pb_isWritten pb_isRead out_n out_f) ∧ Zl tP tN tO (va_A (wd_fld_mags_pb_out cI cJ a_fld a_coef a_mags a_marks a_pb a_plan a_row a_ctx a_cw a_rw a_cr a_rr a_scan a_out fld_wide fld_high fld_band fld_causal mags_n mags_f pb_style pb_isWritten pb_isRead out_n out_f) sz) U U.heap)) (Q_L_known dC dI cI cJ cZ tP tN tO (va_A (wd_fld_mags_pb_out cI cJ a_fld a_coef a_mags a_marks a_pb a_plan a_row a_ctx a_cw a_rw a_cr a_rr a_scan a_out fld_wide fld_high fld_band fld_causal mags_n mags_f pb_style pb_isWritten pb_isRead out_n out_f) sz) a_fld a_coef a_mags a_marks a_pb a_plan a_row a_ctx a_cw a_rw a_cr a_rr a_scan a_out fld_wide fld_high fld_band fld_causal mags_n mags_f pb_style pb_isWritten pb_isRead out_n out_f ((2 : Int32), out_f)) 6 6 (va_A (wd_fld_mags_pb_out cI cJ a_fld a_coef a_mags a_marks a_pb a_plan a_row a_ctx a_cw a_rw a_cr a_rr a_scan a_out fld_wide fld_high fld_band fld_causal mags_n mags_f pb_style pb_isWritten pb_isRead out_n out_f) sz) := by
  refine va_MetW (cc := cL_known) (maxL := 5) (ret := (some .int)) (hh := [(0, 10, 13, 13), (0, 10, 17, 26)]) (by decide) rfl ?_
  intro p e s m args below meth c s₁ B hml hv
  obtain ⟨rfl, hsz, hP, hK, hD0, hZ⟩ := hv
  have hx := B.exec
  have hb := B.bytes
  have hr := B.returns
  have hts := atoms_spec (ws := wsL_known) B.pre
  have hown : s.vm.findClass RL = some m.cls := findClass_of_methodNamed B.named
  have hlocks := B.notSynchronized
  subst hsz
  have hD := hD0.self (sz := s.heap.size)
  generalize hAe : va_A (wd_fld_mags_pb_out cI cJ a_fld a_coef a_mags a_marks a_pb a_plan a_row a_ctx a_cw a_rw a_cr a_rr a_scan a_out fld_wide fld_high fld_band fld_causal mags_n mags_f pb_style pb_isWritten pb_isRead out_n out_f) s.heap.size = A at hD hZ ⊢
  have hA : ∀ q : Nat, s.heap.size ≤ q → A q := fun q h => by rw [← hAe]; exact Or.inr h
  have hS : va_S A s.heap s.heap [] := va_S.rf
  obtain ⟨H, hH⟩ : ∃ z, z = s.heap := ⟨_, rfl⟩
  have hP : va_P (dC, dI) vwCl (wd_fld_mags_pb_out cI cJ a_fld a_coef a_mags a_marks a_pb a_plan a_row a_ctx a_cw a_rw a_cr a_rr a_scan a_out fld_wide fld_high fld_band fld_causal mags_n mags_f pb_style pb_isWritten pb_isRead out_n out_f) H := by rw [hH]; exact hP
  have hS : va_S A s.heap H [] := by rw [hH]; exact va_S.rf
  have htab : c.exceptionTable.toList = tableOf [(0, 10, 13, 13), (0, 10, 17, 26)] := vx_table (x := yL_known) B (hts _ List.mem_cons_self)
  generalize hQe : MQ below (Q_L_known dC dI cI cJ cZ tP tN tO A a_fld a_coef a_mags a_marks a_pb a_plan a_row a_ctx a_cw a_rw a_cr a_rr a_scan a_out fld_wide fld_high fld_band fld_causal mags_n mags_f pb_style pb_isWritten pb_isRead out_n out_f ((2 : Int32), out_f)) _ s 6 6 A = Q
  rw [← hH]
  clear hH
  have hl := lv_entry ([.ref a_pb, .int p2, .int p3, .ref a_out]) (n := 5) (Nat.le_of_ble_eq_true rfl)
  rw [lg_entry_eq]
  generalize (lg_sl ([.ref a_pb, .int p2, .int p3, .ref a_out]) ++ List.replicate (5 - (lg_sl ([.ref a_pb, .int p2, .int p3, .ref a_out])).length) Slot.unset).toArray = ls at hl ⊢
  have hl : lv_has ls 5 [(0, .ref a_pb), (1, .int p2), (2, .int p3), (3, .ref a_out)] := hl
  refine lv_aload_n hx hb dL_known_0 rfl (lv_at hl 3 rfl) ?_
  refine lv_iconst (v := 0) hx hb dL_known_1 (by decide) ?_
  refine lv_aload_n hx hb dL_known_2 rfl (lv_at hl 0 rfl) ?_
  refine lv_iload_n hx hb dL_known_3 rfl (lv_at hl 1 rfl) ?_
  refine lv_iload_n hx hb dL_known_4 rfl (lv_at hl 2 rfl) ?_
  have hPc := hP.sub (ws' := (wd_fld_mags_pb cI a_fld a_coef a_mags a_marks a_pb a_plan a_row a_ctx a_cw a_rw a_cr a_rr a_scan fld_wide fld_high fld_band fld_causal mags_n mags_f pb_style pb_isWritten pb_isRead)) [0, 1, 2] rfl
  have hDc := hD.sub (ws' := (wd_fld_mags_pb cI a_fld a_coef a_mags a_marks a_pb a_plan a_row a_ctx a_cw a_rw a_cr a_rr a_scan fld_wide fld_high fld_band fld_causal mags_n mags_f pb_style pb_isWritten pb_isRead)) [0, 1, 2] (by decide) rfl
  have hFc := va_free (wc := (wd_fld_mags_pb cI a_fld a_coef a_mags a_marks a_pb a_plan a_row a_ctx a_cw a_rw a_cr a_rr a_scan fld_wide fld_high fld_band fld_causal mags_n mags_f pb_style pb_isWritten pb_isRead)) hD hS hA [0, 1, 2] rfl
  refine vx_calli (vx_runV (As := [.int p2, .int p3]) (rest := [.int (0 : Int32), .ref a_out]) ⟨hx, hb, hml, hown, hts⟩ (cx_X10_known l hl0 dC dI cI cJ cZ a_fld a_coef a_mags a_marks a_pb a_plan a_row a_ctx a_cw a_rw a_cr a_rr a_scan H.size fld_wide fld_high fld_band fld_causal mags_n mags_f pb_style pb_isWritten pb_isRead p2 p3 1 (by decide) hT) (cwV 2 hts gL_known_X10_known rfl rfl rfl (by decide +kernel) ⟨Nat.le_of_ble_eq_true rfl, Nat.le_of_ble_eq_true rfl⟩) ⟨fun a U g mk q => by obtain ⟨q0, q1, qP, qK, qD, qZ⟩ := q; exact ⟨q0, q1, qP, va_K.moved (u := U) (U := U.calling g mk a) (Vm.Alike.refl U.vm) qK, qD, Zt.same (u := U) (U := U.calling g mk a) rfl qZ⟩, va_recv hK hPc (ci := 9) (q0 := 2) rfl rfl, fun U hU hW => ⟨rfl, by rw [hU], by rw [hU]; exact hPc, va_K.moved hW.alike hK, hDc.weaken (fun _ _ _ _ => trivial), by rw [hU]; exact ((hZ.2.kept hS.2.1).narrow hFc).warm hW⟩⟩ rfl rfl hl.1 rfl (lv_room (Nat.le_of_ble_eq_true rfl)) dL_known_5 ⟨Nat.le_of_ble_eq_true rfl, Nat.le_of_ble_eq_true rfl⟩) hS (fun q _ h => hFc q h) hFc (fun q _ h => hFc q h) (fun E ce q9 u t H1 locs ht hvm hp hB hz1 hk1 hS hce hcv hcl => ?_) (fun r u t H1 locs ht hvm hp hB hz1 hk1 hS => hp.elim)
  obtain ⟨hE, hP1, hK1, hD1⟩ := hB
  rw [ht] at hP1
  have hE : E = "java/lang/IllegalStateException" := hE
  subst hE
  obtain ⟨hP, hD⟩ := va_join (wr := [(a_out, .inl (cJ, out_n, .inr (.inl out_f)))]) (w1 := (wd_fld_mags_pb cI a_fld a_coef a_mags a_marks a_pb a_plan a_row a_ctx a_cw a_rw a_cr a_rr a_scan fld_wide fld_high fld_band fld_causal mags_n mags_f pb_style pb_isWritten pb_isRead)) hP hD [0, 1, 2] [3] rfl rfl (by decide) (by decide) hk1 hFc hP1 hD1
  have hP : va_P (dC, dI) vwCl (wd_fld_mags_pb_out cI cJ a_fld a_coef a_mags a_marks a_pb a_plan a_row a_ctx a_cw a_rw a_cr a_rr a_scan a_out fld_wide fld_high fld_band fld_causal mags_n mags_f pb_style pb_isWritten pb_isRead out_n out_f) H1 := hP.sub [1, 2, 3, 0] rfl
  have hD : va_D A (wd_fld_mags_pb_out cI cJ a_fld a_coef a_mags a_marks a_pb a_plan a_row a_ctx a_cw a_rw a_cr a_rr a_scan a_out fld_wide fld_high fld_band fld_causal mags_n mags_f pb_style pb_isWritten pb_isRead out_n out_f) := hD.sub [1, 2, 3, 0] (by decide) rfl
  have hpass : ∀ z ∈ ([⟨0, 10, 13, 13⟩] : List ExceptionTableEntry), covers z 5 = false ∨ (z.catchType ≠ 0 ∧ ∃ nm : String, (Cond.classLink RL z.catchType nm).before [.ref a_pb, .int p2, .int p3, .ref a_out].toArray s = true ∧ va_Nc "java/lang/IllegalStateException" nm s) := by
      intro z hz
      rcases List.mem_cons.mp hz with rfl | hz
      · exact Or.inr ⟨by decide, "java/lang/IllegalArgumentException", hts (.classLink RL 13 "java/lang/IllegalArgumentException") (by decide +kernel), hZ.2.2.2.2.1.2.2.2⟩
      cases hz
  refine vx_catch (own := RL) (name := "java/lang/IllegalStateException") (E := "java/lang/IllegalStateException") hown [⟨0, 10, 13, 13⟩] ⟨0, 10, 17, 26⟩ [] htab hpass (by decide) (by decide) (hts (.classLink RL 26 "java/lang/IllegalStateException") (by decide +kernel)) (va_tabs rfl rfl hZ.2.2.2.1.2.2.2.2.1) hce hcv hcl ?_
  refine lv_astore (lv' := [(4, .ref q9), (0, .ref a_pb), (1, .int p2), (2, .int p3), (3, .ref a_out)]) hx hb dL_known_17 hl (by decide) rfl (fun ls hl => ?_)
  refine lv_iconst (v := 2) hx hb dL_known_19 (by decide) ?_
  refine W.widen (k := 6) (n := 6) (by decide) (by decide) ?_
  rw [← hQe]
  exact W.iret (v := (2 : Int32)) hx hb hr (fun t ht hW => ⟨⟨(2 : Int32), (), rfl, rfl, by rw [ht]; exact hP, va_K.moved hW.alike hK, hD⟩, hS.F ht⟩) hS.2.2 dL_known_20
set_option maxHeartbeats 4000000 in
set_option maxRecDepth 100000 in
theorem cy_L_known_3 (l : Launch) (hl0 : l.stackTraces = false) (dC : Nat → ClassId) (dI : Nat → Nat → Nat) (cI cJ cZ : ClassId) (tP tN tO : Nat) (a_fld : Nat) (a_coef : Nat) (a_mags : Nat) (a_marks : Nat) (a_pb : Nat) (a_plan : Nat) (a_row : Nat) (a_ctx : Nat) (a_cw : Nat) (a_rw : Nat) (a_cr : Nat) (a_rr : Nat) (a_scan : Nat) (a_out : Nat) (sz : Nat) (fld_wide : Int32) (fld_high : Int32) (fld_band : Int32) (fld_causal : Int32) (mags_n : Nat) (mags_f : Nat → Int32) (pb_style : Int32) (pb_isWritten : Int32) (pb_isRead : Int32) (out_n : Nat) (out_f : Nat → Int64) (p2 : Int32) (p3 : Int32) (hT : TX_X10_known p2 p3 fld_wide fld_high pb_isRead = 3) : Met l yL_known wsL_known (rm_L_known 6) (va_Pc [.ref a_pb, .int p2, .int p3, .ref a_out] (fun U => U.heap.size = sz ∧ va_P (dC, dI) vwCl (wd_fld_mags_pb_out cI cJ a_fld a_coef a_mags a_marks a_pb a_plan a_row a_ctx a_cw a_rw a_cr a_rr a_scan a_out fld_wide fld_high fld_band fld_causal mags_n mags_f pb_style pb_isWritten pb_isRead out_n out_f) U.heap ∧ va_K (dC, dI) vwCl [(cI, .int), (cJ, .long), (cZ, .boolean)] U ∧ va_D (fun _ => True) (wd_fld_mags_pb_out cI cJ a_fld a_coef a_mags a_marks a_pb a_plan a_row a_ctx a_cw a_rw a_cr a_rr a_scan a_out fld_wide fld_high fld_band fld_causal mags_n mags_f pb_style pb_isWritten pb_isRead out_n out_f) ∧ Zl tP tN tO (va_A (wd_fld_mags_pb_out cI cJ a_fld a_coef a_mags a_marks a_pb a_plan a_row a_ctx a_cw a_rw a_cr a_rr a_scan a_out fld_wide fld_high fld_band fld_causal mags_n mags_f pb_style pb_isWritten pb_isRead out_n out_f) sz) U U.heap)) (Q_L_known dC dI cI cJ cZ tP tN tO (va_A (wd_fld_mags_pb_out cI cJ a_fld a_coef a_mags a_marks a_pb a_plan a_row a_ctx a_cw a_rw a_cr a_rr a_scan a_out fld_wide fld_high fld_band fld_causal mags_n mags_f pb_style pb_isWritten pb_isRead out_n out_f) sz) a_fld a_coef a_mags a_marks a_pb a_plan a_row a_ctx a_cw a_rw a_cr a_rr a_scan a_out fld_wide fld_high fld_band fld_causal mags_n mags_f pb_style pb_isWritten pb_isRead out_n out_f ((1 : Int32), out_f)) 6 6 (va_A (wd_fld_mags_pb_out cI cJ a_fld a_coef a_mags a_marks a_pb a_plan a_row a_ctx a_cw a_rw a_cr a_rr a_scan a_out fld_wide fld_high fld_band fld_causal mags_n mags_f pb_style pb_isWritten pb_isRead out_n out_f) sz) := by
  refine va_MetW (cc := cL_known) (maxL := 5) (ret := (some .int)) (hh := [(0, 10, 13, 13), (0, 10, 17, 26)]) (by decide) rfl ?_
  intro p e s m args below meth c s₁ B hml hv
  obtain ⟨rfl, hsz, hP, hK, hD0, hZ⟩ := hv
  have hx := B.exec
  have hb := B.bytes
  have hr := B.returns
  have hts := atoms_spec (ws := wsL_known) B.pre
  have hown : s.vm.findClass RL = some m.cls := findClass_of_methodNamed B.named
  have hlocks := B.notSynchronized
  subst hsz
  have hD := hD0.self (sz := s.heap.size)
  generalize hAe : va_A (wd_fld_mags_pb_out cI cJ a_fld a_coef a_mags a_marks a_pb a_plan a_row a_ctx a_cw a_rw a_cr a_rr a_scan a_out fld_wide fld_high fld_band fld_causal mags_n mags_f pb_style pb_isWritten pb_isRead out_n out_f) s.heap.size = A at hD hZ ⊢
  have hA : ∀ q : Nat, s.heap.size ≤ q → A q := fun q h => by rw [← hAe]; exact Or.inr h
  have hS : va_S A s.heap s.heap [] := va_S.rf
  obtain ⟨H, hH⟩ : ∃ z, z = s.heap := ⟨_, rfl⟩
  have hP : va_P (dC, dI) vwCl (wd_fld_mags_pb_out cI cJ a_fld a_coef a_mags a_marks a_pb a_plan a_row a_ctx a_cw a_rw a_cr a_rr a_scan a_out fld_wide fld_high fld_band fld_causal mags_n mags_f pb_style pb_isWritten pb_isRead out_n out_f) H := by rw [hH]; exact hP
  have hS : va_S A s.heap H [] := by rw [hH]; exact va_S.rf
  have htab : c.exceptionTable.toList = tableOf [(0, 10, 13, 13), (0, 10, 17, 26)] := vx_table (x := yL_known) B (hts _ List.mem_cons_self)
  generalize hQe : MQ below (Q_L_known dC dI cI cJ cZ tP tN tO A a_fld a_coef a_mags a_marks a_pb a_plan a_row a_ctx a_cw a_rw a_cr a_rr a_scan a_out fld_wide fld_high fld_band fld_causal mags_n mags_f pb_style pb_isWritten pb_isRead out_n out_f ((1 : Int32), out_f)) _ s 6 6 A = Q
  rw [← hH]
  clear hH
  have hl := lv_entry ([.ref a_pb, .int p2, .int p3, .ref a_out]) (n := 5) (Nat.le_of_ble_eq_true rfl)
  rw [lg_entry_eq]
  generalize (lg_sl ([.ref a_pb, .int p2, .int p3, .ref a_out]) ++ List.replicate (5 - (lg_sl ([.ref a_pb, .int p2, .int p3, .ref a_out])).length) Slot.unset).toArray = ls at hl ⊢
  have hl : lv_has ls 5 [(0, .ref a_pb), (1, .int p2), (2, .int p3), (3, .ref a_out)] := hl
  refine lv_aload_n hx hb dL_known_0 rfl (lv_at hl 3 rfl) ?_
  refine lv_iconst (v := 0) hx hb dL_known_1 (by decide) ?_
  refine lv_aload_n hx hb dL_known_2 rfl (lv_at hl 0 rfl) ?_
  refine lv_iload_n hx hb dL_known_3 rfl (lv_at hl 1 rfl) ?_
  refine lv_iload_n hx hb dL_known_4 rfl (lv_at hl 2 rfl) ?_
  have hPc := hP.sub (ws' := (wd_fld_mags_pb cI a_fld a_coef a_mags a_marks a_pb a_plan a_row a_ctx a_cw a_rw a_cr a_rr a_scan fld_wide fld_high fld_band fld_causal mags_n mags_f pb_style pb_isWritten pb_isRead)) [0, 1, 2] rfl
  have hDc := hD.sub (ws' := (wd_fld_mags_pb cI a_fld a_coef a_mags a_marks a_pb a_plan a_row a_ctx a_cw a_rw a_cr a_rr a_scan fld_wide fld_high fld_band fld_causal mags_n mags_f pb_style pb_isWritten pb_isRead)) [0, 1, 2] (by decide) rfl
  have hFc := va_free (wc := (wd_fld_mags_pb cI a_fld a_coef a_mags a_marks a_pb a_plan a_row a_ctx a_cw a_rw a_cr a_rr a_scan fld_wide fld_high fld_band fld_causal mags_n mags_f pb_style pb_isWritten pb_isRead)) hD hS hA [0, 1, 2] rfl
  refine vx_calli (vx_runV (As := [.int p2, .int p3]) (rest := [.int (0 : Int32), .ref a_out]) ⟨hx, hb, hml, hown, hts⟩ (cx_X10_known l hl0 dC dI cI cJ cZ a_fld a_coef a_mags a_marks a_pb a_plan a_row a_ctx a_cw a_rw a_cr a_rr a_scan H.size fld_wide fld_high fld_band fld_causal mags_n mags_f pb_style pb_isWritten pb_isRead p2 p3 3 (by decide) hT) (cwV 2 hts gL_known_X10_known rfl rfl rfl (by decide +kernel) ⟨Nat.le_of_ble_eq_true rfl, Nat.le_of_ble_eq_true rfl⟩) ⟨fun a U g mk q => by obtain ⟨q0, q1, qP, qK, qD, qZ⟩ := q; exact ⟨q0, q1, qP, va_K.moved (u := U) (U := U.calling g mk a) (Vm.Alike.refl U.vm) qK, qD, Zt.same (u := U) (U := U.calling g mk a) rfl qZ⟩, va_recv hK hPc (ci := 9) (q0 := 2) rfl rfl, fun U hU hW => ⟨rfl, by rw [hU], by rw [hU]; exact hPc, va_K.moved hW.alike hK, hDc.weaken (fun _ _ _ _ => trivial), by rw [hU]; exact ((hZ.2.kept hS.2.1).narrow hFc).warm hW⟩⟩ rfl rfl hl.1 rfl (lv_room (Nat.le_of_ble_eq_true rfl)) dL_known_5 ⟨Nat.le_of_ble_eq_true rfl, Nat.le_of_ble_eq_true rfl⟩) hS (fun q _ h => hFc q h) hFc (fun q _ h => hFc q h) (fun E ce q9 u t H1 locs ht hvm hp hB hz1 hk1 hS hce hcv hcl => ?_) (fun r u t H1 locs ht hvm hp hB hz1 hk1 hS => hp.elim)
  obtain ⟨hE, hP1, hK1, hD1⟩ := hB
  rw [ht] at hP1
  have hE : E = "java/lang/IllegalArgumentException" := hE
  subst hE
  obtain ⟨hP, hD⟩ := va_join (wr := [(a_out, .inl (cJ, out_n, .inr (.inl out_f)))]) (w1 := (wd_fld_mags_pb cI a_fld a_coef a_mags a_marks a_pb a_plan a_row a_ctx a_cw a_rw a_cr a_rr a_scan fld_wide fld_high fld_band fld_causal mags_n mags_f pb_style pb_isWritten pb_isRead)) hP hD [0, 1, 2] [3] rfl rfl (by decide) (by decide) hk1 hFc hP1 hD1
  have hP : va_P (dC, dI) vwCl (wd_fld_mags_pb_out cI cJ a_fld a_coef a_mags a_marks a_pb a_plan a_row a_ctx a_cw a_rw a_cr a_rr a_scan a_out fld_wide fld_high fld_band fld_causal mags_n mags_f pb_style pb_isWritten pb_isRead out_n out_f) H1 := hP.sub [1, 2, 3, 0] rfl
  have hD : va_D A (wd_fld_mags_pb_out cI cJ a_fld a_coef a_mags a_marks a_pb a_plan a_row a_ctx a_cw a_rw a_cr a_rr a_scan a_out fld_wide fld_high fld_band fld_causal mags_n mags_f pb_style pb_isWritten pb_isRead out_n out_f) := hD.sub [1, 2, 3, 0] (by decide) rfl
  have hpass : ∀ z ∈ ([] : List ExceptionTableEntry), covers z 5 = false ∨ (z.catchType ≠ 0 ∧ ∃ nm : String, (Cond.classLink RL z.catchType nm).before [.ref a_pb, .int p2, .int p3, .ref a_out].toArray s = true ∧ va_Nc "java/lang/IllegalArgumentException" nm s) := fun z hz => nomatch hz
  refine vx_catch (own := RL) (name := "java/lang/IllegalArgumentException") (E := "java/lang/IllegalArgumentException") hown [] ⟨0, 10, 13, 13⟩ [⟨0, 10, 17, 26⟩] htab hpass (by decide) (by decide) (hts (.classLink RL 13 "java/lang/IllegalArgumentException") (by decide +kernel)) (va_tabs rfl rfl hZ.2.2.2.1.2.2.2.1) hce hcv hcl ?_
  refine lv_astore (lv' := [(4, .ref q9), (0, .ref a_pb), (1, .int p2), (2, .int p3), (3, .ref a_out)]) hx hb dL_known_13 hl (by decide) rfl (fun ls hl => ?_)
  refine lv_iconst (v := 1) hx hb dL_known_15 (by decide) ?_
  refine W.widen (k := 6) (n := 6) (by decide) (by decide) ?_
  rw [← hQe]
  exact W.iret (v := (1 : Int32)) hx hb hr (fun t ht hW => ⟨⟨(1 : Int32), (), rfl, rfl, by rw [ht]; exact hP, va_K.moved hW.alike hK, hD⟩, hS.F ht⟩) hS.2.2 dL_known_16
noncomputable def F_L_known (p2 : Int32) (p3 : Int32) (fld_wide : Int32) (fld_high : Int32) (mags_f : Nat → Int32) (pb_isRead : Int32) (out_f : Nat → Int64) : (Int32 × (Nat → Int64)) := if TX_X10_known p2 p3 fld_wide fld_high pb_isRead = 0 then (FA_L_known p2 p3 fld_wide mags_f out_f) else (if TX_X10_known p2 p3 fld_wide fld_high pb_isRead = 1 then (2 : Int32) else if TX_X10_known p2 p3 fld_wide fld_high pb_isRead = 3 then (1 : Int32) else (0 : Int32), out_f)
noncomputable def D_L_known (p2 : Int32) (p3 : Int32) (fld_wide : Int32) (fld_high : Int32) (pb_isRead : Int32) : Nat := if TX_X10_known p2 p3 fld_wide fld_high pb_isRead = 0 then DA_L_known else 6
def P_L_known (p2 : Int32) (p3 : Int32) (fld_wide : Int32) (fld_high : Int32) (mags_n : Nat) (mags_f : Nat → Int32) (pb_isRead : Int32) (out_n : Nat) : Prop := (TX_X10_known p2 p3 fld_wide fld_high pb_isRead = 0 → (PA_L_known p2 p3 fld_wide fld_high mags_n mags_f pb_isRead out_n))
theorem txr_L_known (p1 : Int32) (p2 : Int32) (fld_wide : Int32) (fld_high : Int32) (pb_isRead : Int32) : TX_X10_known p1 p2 fld_wide fld_high pb_isRead = 0 ∨ TX_X10_known p1 p2 fld_wide fld_high pb_isRead = 1 ∨ TX_X10_known p1 p2 fld_wide fld_high pb_isRead = 3 := by
  unfold TX_X10_known TX_X10_needReadAt TX_X10_needRead
  try dsimp only
  repeat' split
  all_goals first | (simp; done) | (simp_all; done) | omega

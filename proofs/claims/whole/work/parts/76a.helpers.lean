/-! ===== WALKS: the law's helpers ===== -/
/-- all that the calls ask beside their words -/
def Zl (tP tN tO : Nat) (A : Nat → Prop) (U : State) (H : Heap) : Prop := Zd tP tN tO A U H ∧ Zt A U H
theorem Zl.kept {tP tN tO : Nat} {A : Nat → Prop} {U : State} {H H1 : Heap} (h : Zl tP tN tO A U H) (hq : ∀ a : Nat, a < H.size → ¬ A a → H1[a]? = H[a]?) : Zl tP tN tO A U H1 := ⟨h.1.kept hq, h.2.kept hq⟩
theorem Zl.narrow {tP tN tO : Nat} {A B : Nat → Prop} {U : State} {H : Heap} (h : Zl tP tN tO A U H) (hAB : ∀ q, B q → A q) : Zl tP tN tO B U H := ⟨h.1.narrow hAB, h.2.narrow hAB⟩
theorem Zl.warm {tP tN tO : Nat} {A : Nat → Prop} {s U : State} {H : Heap} (hW : s.WarmedH U.vm) (h : Zl tP tN tO A s H) : Zl tP tN tO A U H := ⟨h.1.moved hW.alike, h.2.warm hW⟩
theorem Zl.same {tP tN tO : Nat} {A : Nat → Prop} {u U : State} {H : Heap} (hv : U.vm = u.vm) (h : Zl tP tN tO A u H) : Zl tP tN tO A U H := ⟨h.1.moved (by rw [hv]; exact Vm.Alike.refl u.vm), h.2.same hv⟩

abbrev rm_L_begin (Dt : Nat) : Room := { frames := 7, cells := Dt, slots := Dt, locals := 114 }
noncomputable def FA_L_begin (p2 : Int32) (p3 : Int32) (p4 : Int32) (p5 : Int32) (coef_n : Nat) (coef_f : Nat → Int32) (mags_n : Nat) (mags_f : Nat → Int32) (marks_n : Nat) (marks_f : Nat → Int32) : (Int32 × Int32 × Int32 × Int32 × Int32 × Nat × (Nat → Int32) × Nat × (Nat → Int32) × Nat × (Nat → Int32) × Int32 × Int32 × Int32) := let r_1 := F_X10_begin p2 p3 p4 p5 coef_n coef_f mags_n mags_f marks_n marks_f; ((0 : Int32), r_1.1, r_1.2.1, r_1.2.2.1, r_1.2.2.2.1, r_1.2.2.2.2.1, r_1.2.2.2.2.2.1, r_1.2.2.2.2.2.2.1, r_1.2.2.2.2.2.2.2.1, r_1.2.2.2.2.2.2.2.2.1, r_1.2.2.2.2.2.2.2.2.2.1, r_1.2.2.2.2.2.2.2.2.2.2.1, r_1.2.2.2.2.2.2.2.2.2.2.2.1, r_1.2.2.2.2.2.2.2.2.2.2.2.2)
noncomputable def DA_L_begin (p2 : Int32) (p3 : Int32) (p4 : Int32) (p5 : Int32) (coef_n : Nat) (coef_f : Nat → Int32) (mags_n : Nat) (mags_f : Nat → Int32) (marks_n : Nat) (marks_f : Nat → Int32) : Nat := D_X10_begin p2 p3 p4 p5 coef_n coef_f mags_n mags_f marks_n marks_f + (let r_1 := F_X10_begin p2 p3 p4 p5 coef_n coef_f mags_n mags_f marks_n marks_f; 0)
def PA_L_begin (p2 : Int32) (p3 : Int32) (p4 : Int32) (p5 : Int32) (coef_n : Nat) (coef_f : Nat → Int32) (mags_n : Nat) (mags_f : Nat → Int32) (marks_n : Nat) (marks_f : Nat → Int32) : Prop := (P_X10_begin p2 p3 p4 p5 coef_n coef_f mags_n mags_f marks_n marks_f)
abbrev Q_L_begin (dC : Nat → ClassId) (dI : Nat → Nat → Nat) (cI cJ cZ : ClassId) (tP tN tO : Nat) (A : Nat → Prop) (a_fld : Nat) (a_coef : Nat) (a_mags : Nat) (a_marks : Nat) (a_pb : Nat) (a_plan : Nat) (a_row : Nat) (a_ctx : Nat) (a_cw : Nat) (a_rw : Nat) (a_cr : Nat) (a_rr : Nat) (a_scan : Nat) (fld_wide : Int32) (fld_high : Int32) (fld_band : Int32) (fld_causal : Int32) (coef_n : Nat) (coef_f : Nat → Int32) (mags_n : Nat) (mags_f : Nat → Int32) (marks_n : Nat) (marks_f : Nat → Int32) (pb_style : Int32) (pb_isWritten : Int32) (pb_isRead : Int32) (g : (Int32 × Int32 × Int32 × Int32 × Int32 × Nat × (Nat → Int32) × Nat × (Nat → Int32) × Nat × (Nat → Int32) × Int32 × Int32 × Int32)) : Array Value → State → Outcome → State → Prop := va_Qi (fun (r : Int32) (_ : (Nat × Nat × Nat)) => r = g.1) (fun u t => va_P (dC, dI) vwCl (wd_fld_coef_mags_marks_pb cI a_fld u.1 u.2.1 u.2.2 a_pb a_plan a_row a_ctx a_cw a_rw a_cr a_rr a_scan g.2.1 g.2.2.1 g.2.2.2.1 g.2.2.2.2.1 g.2.2.2.2.2.1 g.2.2.2.2.2.2.1 g.2.2.2.2.2.2.2.1 g.2.2.2.2.2.2.2.2.1 g.2.2.2.2.2.2.2.2.2.1 g.2.2.2.2.2.2.2.2.2.2.1 g.2.2.2.2.2.2.2.2.2.2.2.1 g.2.2.2.2.2.2.2.2.2.2.2.2.1 g.2.2.2.2.2.2.2.2.2.2.2.2.2) t.heap ∧ va_K (dC, dI) vwCl [(cI, .int), (cJ, .long), (cZ, .boolean)] t ∧ va_D A (wd_fld_coef_mags_marks_pb cI a_fld u.1 u.2.1 u.2.2 a_pb a_plan a_row a_ctx a_cw a_rw a_cr a_rr a_scan g.2.1 g.2.2.1 g.2.2.2.1 g.2.2.2.2.1 g.2.2.2.2.2.1 g.2.2.2.2.2.2.1 g.2.2.2.2.2.2.2.1 g.2.2.2.2.2.2.2.2.1 g.2.2.2.2.2.2.2.2.2.1 g.2.2.2.2.2.2.2.2.2.2.1 g.2.2.2.2.2.2.2.2.2.2.2.1 g.2.2.2.2.2.2.2.2.2.2.2.2.1 g.2.2.2.2.2.2.2.2.2.2.2.2.2)) A
set_option maxHeartbeats 4000000 in
set_option maxRecDepth 100000 in
theorem ca_L_begin (l : Launch) (hl0 : l.stackTraces = false) (dC : Nat → ClassId) (dI : Nat → Nat → Nat) (cI cJ cZ : ClassId) (tP tN tO : Nat) (a_fld : Nat) (a_coef : Nat) (a_mags : Nat) (a_marks : Nat) (a_pb : Nat) (a_plan : Nat) (a_row : Nat) (a_ctx : Nat) (a_cw : Nat) (a_rw : Nat) (a_cr : Nat) (a_rr : Nat) (a_scan : Nat) (sz : Nat) (fld_wide : Int32) (fld_high : Int32) (fld_band : Int32) (fld_causal : Int32) (coef_n : Nat) (coef_f : Nat → Int32) (mags_n : Nat) (mags_f : Nat → Int32) (marks_n : Nat) (marks_f : Nat → Int32) (pb_style : Int32) (pb_isWritten : Int32) (pb_isRead : Int32) (p2 : Int32) (p3 : Int32) (p4 : Int32) (p5 : Int32) (hpre : PA_L_begin p2 p3 p4 p5 coef_n coef_f mags_n mags_f marks_n marks_f) : Met l yL_begin wsL_begin (rm_L_begin (DA_L_begin p2 p3 p4 p5 coef_n coef_f mags_n mags_f marks_n marks_f)) (va_Pc [.ref a_pb, .int p2, .int p3, .int p4, .int p5] (fun U => U.heap.size = sz ∧ va_P (dC, dI) vwCl (wd_fld_coef_mags_marks_pb cI a_fld a_coef a_mags a_marks a_pb a_plan a_row a_ctx a_cw a_rw a_cr a_rr a_scan fld_wide fld_high fld_band fld_causal coef_n coef_f mags_n mags_f marks_n marks_f pb_style pb_isWritten pb_isRead) U.heap ∧ va_K (dC, dI) vwCl [(cI, .int), (cJ, .long), (cZ, .boolean)] U ∧ va_D (fun _ => True) (wd_fld_coef_mags_marks_pb cI a_fld a_coef a_mags a_marks a_pb a_plan a_row a_ctx a_cw a_rw a_cr a_rr a_scan fld_wide fld_high fld_band fld_causal coef_n coef_f mags_n mags_f marks_n marks_f pb_style pb_isWritten pb_isRead) ∧ Zl tP tN tO (va_A (wd_fld_coef_mags_marks_pb cI a_fld a_coef a_mags a_marks a_pb a_plan a_row a_ctx a_cw a_rw a_cr a_rr a_scan fld_wide fld_high fld_band fld_causal coef_n coef_f mags_n mags_f marks_n marks_f pb_style pb_isWritten pb_isRead) sz) U U.heap)) (Q_L_begin dC dI cI cJ cZ tP tN tO (va_A (wd_fld_coef_mags_marks_pb cI a_fld a_coef a_mags a_marks a_pb a_plan a_row a_ctx a_cw a_rw a_cr a_rr a_scan fld_wide fld_high fld_band fld_causal coef_n coef_f mags_n mags_f marks_n marks_f pb_style pb_isWritten pb_isRead) sz) a_fld a_coef a_mags a_marks a_pb a_plan a_row a_ctx a_cw a_rw a_cr a_rr a_scan fld_wide fld_high fld_band fld_causal coef_n coef_f mags_n mags_f marks_n marks_f pb_style pb_isWritten pb_isRead (FA_L_begin p2 p3 p4 p5 coef_n coef_f mags_n mags_f marks_n marks_f)) (DA_L_begin p2 p3 p4 p5 coef_n coef_f mags_n mags_f marks_n marks_f) (DA_L_begin p2 p3 p4 p5 coef_n coef_f mags_n mags_f marks_n marks_f) (va_A (wd_fld_coef_mags_marks_pb cI a_fld a_coef a_mags a_marks a_pb a_plan a_row a_ctx a_cw a_rw a_cr a_rr a_scan fld_wide fld_high fld_band fld_causal coef_n coef_f mags_n mags_f marks_n marks_f pb_style pb_isWritten pb_isRead) sz) := by
  refine va_MetW (cc := cL_begin) (maxL := 6) (ret := (some .int)) (hh := [(0, 9, 12, 13)]) (by decide) rfl ?_
  intro p e s m args below meth c s₁ B hml hv
  obtain ⟨rfl, hsz, hP, hK, hD0, hZ⟩ := hv
  have hx := B.exec
  have hb := B.bytes
  have hr := B.returns
  have hts := atoms_spec (ws := wsL_begin) B.pre
  have hown : s.vm.findClass RL = some m.cls := findClass_of_methodNamed B.named
  have hlocks := B.notSynchronized
  subst hsz
  have hD := hD0.self (sz := s.heap.size)
  generalize hAe : va_A (wd_fld_coef_mags_marks_pb cI a_fld a_coef a_mags a_marks a_pb a_plan a_row a_ctx a_cw a_rw a_cr a_rr a_scan fld_wide fld_high fld_band fld_causal coef_n coef_f mags_n mags_f marks_n marks_f pb_style pb_isWritten pb_isRead) s.heap.size = A at hD hZ ⊢
  have hA : ∀ q : Nat, s.heap.size ≤ q → A q := fun q h => by rw [← hAe]; exact Or.inr h
  have hS : va_S A s.heap s.heap [] := va_S.rf
  obtain ⟨H, hH⟩ : ∃ z, z = s.heap := ⟨_, rfl⟩
  have hP : va_P (dC, dI) vwCl (wd_fld_coef_mags_marks_pb cI a_fld a_coef a_mags a_marks a_pb a_plan a_row a_ctx a_cw a_rw a_cr a_rr a_scan fld_wide fld_high fld_band fld_causal coef_n coef_f mags_n mags_f marks_n marks_f pb_style pb_isWritten pb_isRead) H := by rw [hH]; exact hP
  have hS : va_S A s.heap H [] := by rw [hH]; exact va_S.rf
  obtain ⟨g, hg⟩ : ∃ z, FA_L_begin p2 p3 p4 p5 coef_n coef_f mags_n mags_f marks_n marks_f = z := ⟨_, rfl⟩
  rw [hg]
  obtain ⟨Dt, hDt⟩ : ∃ z, DA_L_begin p2 p3 p4 p5 coef_n coef_f mags_n mags_f marks_n marks_f = z := ⟨_, rfl⟩
  rw [hDt]
  generalize hQe : MQ below (Q_L_begin dC dI cI cJ cZ tP tN tO A a_fld a_coef a_mags a_marks a_pb a_plan a_row a_ctx a_cw a_rw a_cr a_rr a_scan fld_wide fld_high fld_band fld_causal coef_n coef_f mags_n mags_f marks_n marks_f pb_style pb_isWritten pb_isRead g) _ s Dt Dt A = Q
  rw [← hH]
  clear hH
  have hl := lv_entry ([.ref a_pb, .int p2, .int p3, .int p4, .int p5]) (n := 6) (Nat.le_of_ble_eq_true rfl)
  rw [lg_entry_eq]
  generalize (lg_sl ([.ref a_pb, .int p2, .int p3, .int p4, .int p5]) ++ List.replicate (6 - (lg_sl ([.ref a_pb, .int p2, .int p3, .int p4, .int p5])).length) Slot.unset).toArray = ls at hl ⊢
  have hl : lv_has ls 6 [(0, .ref a_pb), (1, .int p2), (2, .int p3), (3, .int p4), (4, .int p5)] := hl
  unfold FA_L_begin at hg
  unfold PA_L_begin at hpre
  unfold DA_L_begin at hDt
  obtain ⟨k, hk⟩ : ∃ z : Nat, z = 0 := ⟨_, rfl⟩
  obtain ⟨E, hE⟩ : ∃ z : Nat, z = 0 := ⟨_, rfl⟩
  have hC : k + (D_X10_begin p2 p3 p4 p5 coef_n coef_f mags_n mags_f marks_n marks_f + (let r_1 := F_X10_begin p2 p3 p4 p5 coef_n coef_f mags_n mags_f marks_n marks_f; 0)) + E ≤ Dt := by rw [hk, hE, Nat.zero_add]; exact Nat.le_of_eq hDt
  refine W.widen (k := k) (n := k) (Nat.zero_le _) (Nat.zero_le _) ?_
  clear hk hE hDt
  refine lv_aload_n hx hb dL_begin_0 rfl (lv_at hl 0 rfl) ?_
  refine lv_iload_n hx hb dL_begin_1 rfl (lv_at hl 1 rfl) ?_
  refine lv_iload_n hx hb dL_begin_2 rfl (lv_at hl 2 rfl) ?_
  refine lv_iload_n hx hb dL_begin_3 rfl (lv_at hl 3 rfl) ?_
  refine lv_iload hx hb dL_begin_4 (lv_at hl 4 rfl) ?_
  have hPc := hP.sub (ws' := (wd_fld_coef_mags_marks_pb cI a_fld a_coef a_mags a_marks a_pb a_plan a_row a_ctx a_cw a_rw a_cr a_rr a_scan fld_wide fld_high fld_band fld_causal coef_n coef_f mags_n mags_f marks_n marks_f pb_style pb_isWritten pb_isRead)) [0, 1, 2, 3, 4] rfl
  have hDc := hD.sub (ws' := (wd_fld_coef_mags_marks_pb cI a_fld a_coef a_mags a_marks a_pb a_plan a_row a_ctx a_cw a_rw a_cr a_rr a_scan fld_wide fld_high fld_band fld_causal coef_n coef_f mags_n mags_f marks_n marks_f pb_style pb_isWritten pb_isRead)) [0, 1, 2, 3, 4] (by decide) rfl
  have hFc := va_free (wc := (wd_fld_coef_mags_marks_pb cI a_fld a_coef a_mags a_marks a_pb a_plan a_row a_ctx a_cw a_rw a_cr a_rr a_scan fld_wide fld_high fld_band fld_causal coef_n coef_f mags_n mags_f marks_n marks_f pb_style pb_isWritten pb_isRead)) hD hS hA [0, 1, 2, 3, 4] rfl
  refine va_callv (va_runV (As := [.int p2, .int p3, .int p4, .int p5]) (rest := []) ⟨hx, hb, hml, hown, hts⟩ (c_X10_begin l dC dI cI cJ cZ a_fld a_coef a_mags a_marks a_pb a_plan a_row a_ctx a_cw a_rw a_cr a_rr a_scan H.size fld_wide fld_high fld_band fld_causal coef_n coef_f mags_n mags_f marks_n marks_f pb_style pb_isWritten pb_isRead p2 p3 p4 p5 hpre) (cwV 4 hts gL_begin_X10_begin rfl rfl rfl (by decide +kernel) ⟨Nat.le_of_ble_eq_true rfl, Nat.le_of_ble_eq_true rfl⟩) ⟨fun a U g mk q => by obtain ⟨q0, q1, qP, qK, qD⟩ := q; exact ⟨q0, q1, qP, va_K.moved (u := U) (U := U.calling g mk a) (Vm.Alike.refl U.vm) qK, qD⟩, va_recv hK hPc (ci := 9) (q0 := 4) rfl rfl, fun U hU hW => ⟨rfl, by rw [hU], by rw [hU]; exact hPc, va_K.moved hW.alike hK, hDc.weaken (fun _ _ _ _ => trivial)⟩⟩ rfl rfl hl.1 rfl (lv_room (Nat.le_of_ble_eq_true rfl)) dL_begin_6 ⟨kd_le hC, kd_le hC⟩) hS (fun q _ h => hFc q h) hFc (fun u t H1 locs ht hvm hw hB hz1 hk1 hS => ?_)
  obtain ⟨u_2, u_3, u_4⟩ := u
  obtain ⟨hP1, hK1, hD1⟩ := hB
  rw [ht] at hP1
  obtain ⟨r_1, hr_1⟩ : ∃ z, F_X10_begin p2 p3 p4 p5 coef_n coef_f mags_n mags_f marks_n marks_f = z := ⟨_, rfl⟩
  try rw [hr_1] at hw
  try rw [hr_1] at hP1
  try rw [hr_1] at hD1
  have hg : ((0 : Int32), r_1.1, r_1.2.1, r_1.2.2.1, r_1.2.2.2.1, r_1.2.2.2.2.1, r_1.2.2.2.2.2.1, r_1.2.2.2.2.2.2.1, r_1.2.2.2.2.2.2.2.1, r_1.2.2.2.2.2.2.2.2.1, r_1.2.2.2.2.2.2.2.2.2.1, r_1.2.2.2.2.2.2.2.2.2.2.1, r_1.2.2.2.2.2.2.2.2.2.2.2.1, r_1.2.2.2.2.2.2.2.2.2.2.2.2) = g := by first | (rw [hr_1] at hg; exact hg) | (subst hr_1; exact hg)
  obtain ⟨hP, hD⟩ := va_join (wr := []) (w1 := (wd_fld_coef_mags_marks_pb cI a_fld u_2 u_3 u_4 a_pb a_plan a_row a_ctx a_cw a_rw a_cr a_rr a_scan r_1.1 r_1.2.1 r_1.2.2.1 r_1.2.2.2.1 r_1.2.2.2.2.1 r_1.2.2.2.2.2.1 r_1.2.2.2.2.2.2.1 r_1.2.2.2.2.2.2.2.1 r_1.2.2.2.2.2.2.2.2.1 r_1.2.2.2.2.2.2.2.2.2.1 r_1.2.2.2.2.2.2.2.2.2.2.1 r_1.2.2.2.2.2.2.2.2.2.2.2.1 r_1.2.2.2.2.2.2.2.2.2.2.2.2)) hP hD [0, 1, 2, 3, 4] [] rfl rfl (by decide) (by decide) hk1 hFc hP1 hD1
  have hP : va_P (dC, dI) vwCl (wd_fld_coef_mags_marks_pb cI a_fld u_2 u_3 u_4 a_pb a_plan a_row a_ctx a_cw a_rw a_cr a_rr a_scan r_1.1 r_1.2.1 r_1.2.2.1 r_1.2.2.2.1 r_1.2.2.2.2.1 r_1.2.2.2.2.2.1 r_1.2.2.2.2.2.2.1 r_1.2.2.2.2.2.2.2.1 r_1.2.2.2.2.2.2.2.2.1 r_1.2.2.2.2.2.2.2.2.2.1 r_1.2.2.2.2.2.2.2.2.2.2.1 r_1.2.2.2.2.2.2.2.2.2.2.2.1 r_1.2.2.2.2.2.2.2.2.2.2.2.2) H1 := hP.sub [0, 1, 2, 3, 4] rfl
  have hD : va_D A (wd_fld_coef_mags_marks_pb cI a_fld u_2 u_3 u_4 a_pb a_plan a_row a_ctx a_cw a_rw a_cr a_rr a_scan r_1.1 r_1.2.1 r_1.2.2.1 r_1.2.2.2.1 r_1.2.2.2.2.1 r_1.2.2.2.2.2.1 r_1.2.2.2.2.2.2.1 r_1.2.2.2.2.2.2.2.1 r_1.2.2.2.2.2.2.2.2.1 r_1.2.2.2.2.2.2.2.2.2.1 r_1.2.2.2.2.2.2.2.2.2.2.1 r_1.2.2.2.2.2.2.2.2.2.2.2.1 r_1.2.2.2.2.2.2.2.2.2.2.2.2) := hD.sub [0, 1, 2, 3, 4] (by decide) rfl
  generalize H1 = H at hP hS ⊢
  have hC : k + (D_X10_begin p2 p3 p4 p5 coef_n coef_f mags_n mags_f marks_n marks_f + (0)) + E ≤ Dt := by subst hr_1; exact hC
  obtain ⟨k1, hk1⟩ : ∃ z, z = k + (D_X10_begin p2 p3 p4 p5 coef_n coef_f mags_n mags_f marks_n marks_f) := ⟨_, rfl⟩
  have hC : k1 + (0) + E ≤ Dt := by rw [hk1, Nat.add_assoc k]; exact hC
  refine W.widen (k := k1) (n := k1) (Nat.le_of_eq hk1.symm) (Nat.le_of_eq hk1.symm) ?_
  clear hk1
  generalize k1 = k at hC ⊢
  refine lv_goto (tgt := 16) hx hb dL_begin_9 (by decide) ?_
  refine lv_iconst (v := 0) hx hb dL_begin_16 (by decide) ?_
  subst hg
  refine W.widen (k := Dt) (n := Dt) (k0_le hC) (k0_le hC) ?_
  rw [← hQe]
  exact W.iret (v := (0 : Int32)) hx hb hr (fun t ht hW => ⟨⟨(0 : Int32), (u_2, u_3, u_4), rfl, rfl, by rw [ht]; exact hP, va_K.moved hW.alike hK, hD⟩, hS.F ht⟩) hS.2.2 dL_begin_17
set_option maxHeartbeats 4000000 in
set_option maxRecDepth 100000 in
theorem cy_L_begin_3 (l : Launch) (hl0 : l.stackTraces = false) (dC : Nat → ClassId) (dI : Nat → Nat → Nat) (cI cJ cZ : ClassId) (tP tN tO : Nat) (a_fld : Nat) (a_coef : Nat) (a_mags : Nat) (a_marks : Nat) (a_pb : Nat) (a_plan : Nat) (a_row : Nat) (a_ctx : Nat) (a_cw : Nat) (a_rw : Nat) (a_cr : Nat) (a_rr : Nat) (a_scan : Nat) (sz : Nat) (fld_wide : Int32) (fld_high : Int32) (fld_band : Int32) (fld_causal : Int32) (coef_n : Nat) (coef_f : Nat → Int32) (mags_n : Nat) (mags_f : Nat → Int32) (marks_n : Nat) (marks_f : Nat → Int32) (pb_style : Int32) (pb_isWritten : Int32) (pb_isRead : Int32) (p2 : Int32) (p3 : Int32) (p4 : Int32) (p5 : Int32) (hT : TX_X10_begin p2 p3 p4 p5 = 3) : Met l yL_begin wsL_begin (rm_L_begin 6) (va_Pc [.ref a_pb, .int p2, .int p3, .int p4, .int p5] (fun U => U.heap.size = sz ∧ va_P (dC, dI) vwCl (wd_fld_coef_mags_marks_pb cI a_fld a_coef a_mags a_marks a_pb a_plan a_row a_ctx a_cw a_rw a_cr a_rr a_scan fld_wide fld_high fld_band fld_causal coef_n coef_f mags_n mags_f marks_n marks_f pb_style pb_isWritten pb_isRead) U.heap ∧ va_K (dC, dI) vwCl [(cI, .int), (cJ, .long), (cZ, .boolean)] U ∧ va_D (fun _ => True) (wd_fld_coef_mags_marks_pb cI a_fld a_coef a_mags a_marks a_pb a_plan a_row a_ctx a_cw a_rw a_cr a_rr a_scan fld_wide fld_high fld_band fld_causal coef_n coef_f mags_n mags_f marks_n marks_f pb_style pb_isWritten pb_isRead) ∧ Zl tP tN tO (va_A (wd_fld_coef_mags_marks_pb cI a_fld a_coef a_mags a_marks a_pb a_plan a_row a_ctx a_cw a_rw a_cr a_rr a_scan fld_wide fld_high fld_band fld_causal coef_n coef_f mags_n mags_f marks_n marks_f pb_style pb_isWritten pb_isRead) sz) U U.heap)) (Q_L_begin dC dI cI cJ cZ tP tN tO (va_A (wd_fld_coef_mags_marks_pb cI a_fld a_coef a_mags a_marks a_pb a_plan a_row a_ctx a_cw a_rw a_cr a_rr a_scan fld_wide fld_high fld_band fld_causal coef_n coef_f mags_n mags_f marks_n marks_f pb_style pb_isWritten pb_isRead) sz) a_fld a_coef a_mags a_marks a_pb a_plan a_row a_ctx a_cw a_rw a_cr a_rr a_scan fld_wide fld_high fld_band fld_causal coef_n coef_f mags_n mags_f marks_n marks_f pb_style pb_isWritten pb_isRead ((1 : Int32), fld_wide, fld_high, fld_band, fld_causal, coef_n, coef_f, mags_n, mags_f, marks_n, marks_f, pb_style, pb_isWritten, pb_isRead)) 6 6 (va_A (wd_fld_coef_mags_marks_pb cI a_fld a_coef a_mags a_marks a_pb a_plan a_row a_ctx a_cw a_rw a_cr a_rr a_scan fld_wide fld_high fld_band fld_causal coef_n coef_f mags_n mags_f marks_n marks_f pb_style pb_isWritten pb_isRead) sz) := by
  refine va_MetW (cc := cL_begin) (maxL := 6) (ret := (some .int)) (hh := [(0, 9, 12, 13)]) (by decide) rfl ?_
  intro p e s m args below meth c s₁ B hml hv
  obtain ⟨rfl, hsz, hP, hK, hD0, hZ⟩ := hv
  have hx := B.exec
  have hb := B.bytes
  have hr := B.returns
  have hts := atoms_spec (ws := wsL_begin) B.pre
  have hown : s.vm.findClass RL = some m.cls := findClass_of_methodNamed B.named
  have hlocks := B.notSynchronized
  subst hsz
  have hD := hD0.self (sz := s.heap.size)
  generalize hAe : va_A (wd_fld_coef_mags_marks_pb cI a_fld a_coef a_mags a_marks a_pb a_plan a_row a_ctx a_cw a_rw a_cr a_rr a_scan fld_wide fld_high fld_band fld_causal coef_n coef_f mags_n mags_f marks_n marks_f pb_style pb_isWritten pb_isRead) s.heap.size = A at hD hZ ⊢
  have hA : ∀ q : Nat, s.heap.size ≤ q → A q := fun q h => by rw [← hAe]; exact Or.inr h
  have hS : va_S A s.heap s.heap [] := va_S.rf
  obtain ⟨H, hH⟩ : ∃ z, z = s.heap := ⟨_, rfl⟩
  have hP : va_P (dC, dI) vwCl (wd_fld_coef_mags_marks_pb cI a_fld a_coef a_mags a_marks a_pb a_plan a_row a_ctx a_cw a_rw a_cr a_rr a_scan fld_wide fld_high fld_band fld_causal coef_n coef_f mags_n mags_f marks_n marks_f pb_style pb_isWritten pb_isRead) H := by rw [hH]; exact hP
  have hS : va_S A s.heap H [] := by rw [hH]; exact va_S.rf
  have htab : c.exceptionTable.toList = tableOf [(0, 9, 12, 13)] := vx_table (x := yL_begin) B (hts _ List.mem_cons_self)
  generalize hQe : MQ below (Q_L_begin dC dI cI cJ cZ tP tN tO A a_fld a_coef a_mags a_marks a_pb a_plan a_row a_ctx a_cw a_rw a_cr a_rr a_scan fld_wide fld_high fld_band fld_causal coef_n coef_f mags_n mags_f marks_n marks_f pb_style pb_isWritten pb_isRead ((1 : Int32), fld_wide, fld_high, fld_band, fld_causal, coef_n, coef_f, mags_n, mags_f, marks_n, marks_f, pb_style, pb_isWritten, pb_isRead)) _ s 6 6 A = Q
  rw [← hH]
  clear hH
  have hl := lv_entry ([.ref a_pb, .int p2, .int p3, .int p4, .int p5]) (n := 6) (Nat.le_of_ble_eq_true rfl)
  rw [lg_entry_eq]
  generalize (lg_sl ([.ref a_pb, .int p2, .int p3, .int p4, .int p5]) ++ List.replicate (6 - (lg_sl ([.ref a_pb, .int p2, .int p3, .int p4, .int p5])).length) Slot.unset).toArray = ls at hl ⊢
  have hl : lv_has ls 6 [(0, .ref a_pb), (1, .int p2), (2, .int p3), (3, .int p4), (4, .int p5)] := hl
  refine lv_aload_n hx hb dL_begin_0 rfl (lv_at hl 0 rfl) ?_
  refine lv_iload_n hx hb dL_begin_1 rfl (lv_at hl 1 rfl) ?_
  refine lv_iload_n hx hb dL_begin_2 rfl (lv_at hl 2 rfl) ?_
  refine lv_iload_n hx hb dL_begin_3 rfl (lv_at hl 3 rfl) ?_
  refine lv_iload hx hb dL_begin_4 (lv_at hl 4 rfl) ?_
  have hPc := hP.sub (ws' := (wd_fld_coef_mags_marks_pb cI a_fld a_coef a_mags a_marks a_pb a_plan a_row a_ctx a_cw a_rw a_cr a_rr a_scan fld_wide fld_high fld_band fld_causal coef_n coef_f mags_n mags_f marks_n marks_f pb_style pb_isWritten pb_isRead)) [0, 1, 2, 3, 4] rfl
  have hDc := hD.sub (ws' := (wd_fld_coef_mags_marks_pb cI a_fld a_coef a_mags a_marks a_pb a_plan a_row a_ctx a_cw a_rw a_cr a_rr a_scan fld_wide fld_high fld_band fld_causal coef_n coef_f mags_n mags_f marks_n marks_f pb_style pb_isWritten pb_isRead)) [0, 1, 2, 3, 4] (by decide) rfl
  have hFc := va_free (wc := (wd_fld_coef_mags_marks_pb cI a_fld a_coef a_mags a_marks a_pb a_plan a_row a_ctx a_cw a_rw a_cr a_rr a_scan fld_wide fld_high fld_band fld_causal coef_n coef_f mags_n mags_f marks_n marks_f pb_style pb_isWritten pb_isRead)) hD hS hA [0, 1, 2, 3, 4] rfl
  refine vx_callv (vx_runV (As := [.int p2, .int p3, .int p4, .int p5]) (rest := []) ⟨hx, hb, hml, hown, hts⟩ (cx_X10_begin l hl0 dC dI cI cJ cZ a_fld a_coef a_mags a_marks a_pb a_plan a_row a_ctx a_cw a_rw a_cr a_rr a_scan H.size fld_wide fld_high fld_band fld_causal coef_n coef_f mags_n mags_f marks_n marks_f pb_style pb_isWritten pb_isRead p2 p3 p4 p5 3 (by decide) hT) (cwV 4 hts gL_begin_X10_begin rfl rfl rfl (by decide +kernel) ⟨Nat.le_of_ble_eq_true rfl, Nat.le_of_ble_eq_true rfl⟩) ⟨fun a U g mk q => by obtain ⟨q0, q1, qP, qK, qD, qZ⟩ := q; exact ⟨q0, q1, qP, va_K.moved (u := U) (U := U.calling g mk a) (Vm.Alike.refl U.vm) qK, qD, Zt.same (u := U) (U := U.calling g mk a) rfl qZ⟩, va_recv hK hPc (ci := 9) (q0 := 4) rfl rfl, fun U hU hW => ⟨rfl, by rw [hU], by rw [hU]; exact hPc, va_K.moved hW.alike hK, hDc.weaken (fun _ _ _ _ => trivial), by rw [hU]; exact ((hZ.2.kept hS.2.1).narrow hFc).warm hW⟩⟩ rfl rfl hl.1 rfl (lv_room (Nat.le_of_ble_eq_true rfl)) dL_begin_6 ⟨Nat.le_of_ble_eq_true rfl, Nat.le_of_ble_eq_true rfl⟩) hS (fun q _ h => hFc q h) hFc (fun q _ h => hFc q h) (fun E ce q9 u t H1 locs ht hvm hp hB hz1 hk1 hS hce hcv hcl => ?_) (fun u t H1 locs ht hvm hp hB hz1 hk1 hS => hp.elim)
  obtain ⟨hE, hP1, hK1, hD1⟩ := hB
  rw [ht] at hP1
  have hE : E = "java/lang/IllegalArgumentException" := hE
  subst hE
  obtain ⟨hP, hD⟩ := va_join (wr := []) (w1 := (wd_fld_coef_mags_marks_pb cI a_fld a_coef a_mags a_marks a_pb a_plan a_row a_ctx a_cw a_rw a_cr a_rr a_scan fld_wide fld_high fld_band fld_causal coef_n coef_f mags_n mags_f marks_n marks_f pb_style pb_isWritten pb_isRead)) hP hD [0, 1, 2, 3, 4] [] rfl rfl (by decide) (by decide) hk1 hFc hP1 hD1
  have hP : va_P (dC, dI) vwCl (wd_fld_coef_mags_marks_pb cI a_fld a_coef a_mags a_marks a_pb a_plan a_row a_ctx a_cw a_rw a_cr a_rr a_scan fld_wide fld_high fld_band fld_causal coef_n coef_f mags_n mags_f marks_n marks_f pb_style pb_isWritten pb_isRead) H1 := hP.sub [0, 1, 2, 3, 4] rfl
  have hD : va_D A (wd_fld_coef_mags_marks_pb cI a_fld a_coef a_mags a_marks a_pb a_plan a_row a_ctx a_cw a_rw a_cr a_rr a_scan fld_wide fld_high fld_band fld_causal coef_n coef_f mags_n mags_f marks_n marks_f pb_style pb_isWritten pb_isRead) := hD.sub [0, 1, 2, 3, 4] (by decide) rfl
  have hpass : ∀ z ∈ ([] : List ExceptionTableEntry), covers z 6 = false ∨ (z.catchType ≠ 0 ∧ ∃ nm : String, (Cond.classLink RL z.catchType nm).before [.ref a_pb, .int p2, .int p3, .int p4, .int p5].toArray s = true ∧ va_Nc "java/lang/IllegalArgumentException" nm s) := fun z hz => nomatch hz
  refine vx_catch (own := RL) (name := "java/lang/IllegalArgumentException") (E := "java/lang/IllegalArgumentException") hown [] ⟨0, 9, 12, 13⟩ [] htab hpass (by decide) (by decide) (hts (.classLink RL 13 "java/lang/IllegalArgumentException") (by decide +kernel)) (va_tabs rfl rfl hZ.2.2.2.1.2.2.2.1) hce hcv hcl ?_
  refine lv_astore (lv' := [(5, .ref q9), (0, .ref a_pb), (1, .int p2), (2, .int p3), (3, .int p4), (4, .int p5)]) hx hb dL_begin_12 hl (by decide) rfl (fun ls hl => ?_)
  refine lv_iconst (v := 1) hx hb dL_begin_14 (by decide) ?_
  refine W.widen (k := 6) (n := 6) (by decide) (by decide) ?_
  rw [← hQe]
  exact W.iret (v := (1 : Int32)) hx hb hr (fun t ht hW => ⟨⟨(1 : Int32), (a_coef, a_mags, a_marks), rfl, rfl, by rw [ht]; exact hP, va_K.moved hW.alike hK, hD⟩, hS.F ht⟩) hS.2.2 dL_begin_15
noncomputable def F_L_begin (p2 : Int32) (p3 : Int32) (p4 : Int32) (p5 : Int32) (fld_wide : Int32) (fld_high : Int32) (fld_band : Int32) (fld_causal : Int32) (coef_n : Nat) (coef_f : Nat → Int32) (mags_n : Nat) (mags_f : Nat → Int32) (marks_n : Nat) (marks_f : Nat → Int32) (pb_style : Int32) (pb_isWritten : Int32) (pb_isRead : Int32) : (Int32 × Int32 × Int32 × Int32 × Int32 × Nat × (Nat → Int32) × Nat × (Nat → Int32) × Nat × (Nat → Int32) × Int32 × Int32 × Int32) := if TX_X10_begin p2 p3 p4 p5 = 0 then (FA_L_begin p2 p3 p4 p5 coef_n coef_f mags_n mags_f marks_n marks_f) else (if TX_X10_begin p2 p3 p4 p5 = 3 then (1 : Int32) else (0 : Int32), fld_wide, fld_high, fld_band, fld_causal, coef_n, coef_f, mags_n, mags_f, marks_n, marks_f, pb_style, pb_isWritten, pb_isRead)
noncomputable def D_L_begin (p2 : Int32) (p3 : Int32) (p4 : Int32) (p5 : Int32) (coef_n : Nat) (coef_f : Nat → Int32) (mags_n : Nat) (mags_f : Nat → Int32) (marks_n : Nat) (marks_f : Nat → Int32) : Nat := if TX_X10_begin p2 p3 p4 p5 = 0 then (DA_L_begin p2 p3 p4 p5 coef_n coef_f mags_n mags_f marks_n marks_f) else 6
def P_L_begin (p2 : Int32) (p3 : Int32) (p4 : Int32) (p5 : Int32) (coef_n : Nat) (coef_f : Nat → Int32) (mags_n : Nat) (mags_f : Nat → Int32) (marks_n : Nat) (marks_f : Nat → Int32) : Prop := (TX_X10_begin p2 p3 p4 p5 = 0 → (PA_L_begin p2 p3 p4 p5 coef_n coef_f mags_n mags_f marks_n marks_f))
theorem txr_L_begin (p1 : Int32) (p2 : Int32) (p3 : Int32) (p4 : Int32) : TX_X10_begin p1 p2 p3 p4 = 0 ∨ TX_X10_begin p1 p2 p3 p4 = 3 := by
  unfold TX_X10_begin 
  try dsimp only
  repeat' split
  all_goals first | (simp; done) | (simp_all; done) | omega
theorem c_L_begin (l : Launch) (hl0 : l.stackTraces = false) (dC : Nat → ClassId) (dI : Nat → Nat → Nat) (cI cJ cZ : ClassId) (tP tN tO : Nat) (a_fld : Nat) (a_coef : Nat) (a_mags : Nat) (a_marks : Nat) (a_pb : Nat) (a_plan : Nat) (a_row : Nat) (a_ctx : Nat) (a_cw : Nat) (a_rw : Nat) (a_cr : Nat) (a_rr : Nat) (a_scan : Nat) (sz : Nat) (fld_wide : Int32) (fld_high : Int32) (fld_band : Int32) (fld_causal : Int32) (coef_n : Nat) (coef_f : Nat → Int32) (mags_n : Nat) (mags_f : Nat → Int32) (marks_n : Nat) (marks_f : Nat → Int32) (pb_style : Int32) (pb_isWritten : Int32) (pb_isRead : Int32) (p2 : Int32) (p3 : Int32) (p4 : Int32) (p5 : Int32) (hpre : P_L_begin p2 p3 p4 p5 coef_n coef_f mags_n mags_f marks_n marks_f) : Met l yL_begin wsL_begin (rm_L_begin (D_L_begin p2 p3 p4 p5 coef_n coef_f mags_n mags_f marks_n marks_f)) (va_Pc [.ref a_pb, .int p2, .int p3, .int p4, .int p5] (fun U => U.heap.size = sz ∧ va_P (dC, dI) vwCl (wd_fld_coef_mags_marks_pb cI a_fld a_coef a_mags a_marks a_pb a_plan a_row a_ctx a_cw a_rw a_cr a_rr a_scan fld_wide fld_high fld_band fld_causal coef_n coef_f mags_n mags_f marks_n marks_f pb_style pb_isWritten pb_isRead) U.heap ∧ va_K (dC, dI) vwCl [(cI, .int), (cJ, .long), (cZ, .boolean)] U ∧ va_D (fun _ => True) (wd_fld_coef_mags_marks_pb cI a_fld a_coef a_mags a_marks a_pb a_plan a_row a_ctx a_cw a_rw a_cr a_rr a_scan fld_wide fld_high fld_band fld_causal coef_n coef_f mags_n mags_f marks_n marks_f pb_style pb_isWritten pb_isRead) ∧ Zl tP tN tO (va_A (wd_fld_coef_mags_marks_pb cI a_fld a_coef a_mags a_marks a_pb a_plan a_row a_ctx a_cw a_rw a_cr a_rr a_scan fld_wide fld_high fld_band fld_causal coef_n coef_f mags_n mags_f marks_n marks_f pb_style pb_isWritten pb_isRead) sz) U U.heap)) (Q_L_begin dC dI cI cJ cZ tP tN tO (va_A (wd_fld_coef_mags_marks_pb cI a_fld a_coef a_mags a_marks a_pb a_plan a_row a_ctx a_cw a_rw a_cr a_rr a_scan fld_wide fld_high fld_band fld_causal coef_n coef_f mags_n mags_f marks_n marks_f pb_style pb_isWritten pb_isRead) sz) a_fld a_coef a_mags a_marks a_pb a_plan a_row a_ctx a_cw a_rw a_cr a_rr a_scan fld_wide fld_high fld_band fld_causal coef_n coef_f mags_n mags_f marks_n marks_f pb_style pb_isWritten pb_isRead (F_L_begin p2 p3 p4 p5 fld_wide fld_high fld_band fld_causal coef_n coef_f mags_n mags_f marks_n marks_f pb_style pb_isWritten pb_isRead)) (D_L_begin p2 p3 p4 p5 coef_n coef_f mags_n mags_f marks_n marks_f) (D_L_begin p2 p3 p4 p5 coef_n coef_f mags_n mags_f marks_n marks_f) (va_A (wd_fld_coef_mags_marks_pb cI a_fld a_coef a_mags a_marks a_pb a_plan a_row a_ctx a_cw a_rw a_cr a_rr a_scan fld_wide fld_high fld_band fld_causal coef_n coef_f mags_n mags_f marks_n marks_f pb_style pb_isWritten pb_isRead) sz) := by
  by_cases h0 : TX_X10_begin p2 p3 p4 p5 = 0
  · have eF : F_L_begin p2 p3 p4 p5 fld_wide fld_high fld_band fld_causal coef_n coef_f mags_n mags_f marks_n marks_f pb_style pb_isWritten pb_isRead = FA_L_begin p2 p3 p4 p5 coef_n coef_f mags_n mags_f marks_n marks_f := by unfold F_L_begin; rw [if_pos h0]
    have eD : D_L_begin p2 p3 p4 p5 coef_n coef_f mags_n mags_f marks_n marks_f = DA_L_begin p2 p3 p4 p5 coef_n coef_f mags_n mags_f marks_n marks_f := by unfold D_L_begin; rw [if_pos h0]
    rw [eF, eD]
    exact ca_L_begin l hl0 dC dI cI cJ cZ tP tN tO a_fld a_coef a_mags a_marks a_pb a_plan a_row a_ctx a_cw a_rw a_cr a_rr a_scan sz fld_wide fld_high fld_band fld_causal coef_n coef_f mags_n mags_f marks_n marks_f pb_style pb_isWritten pb_isRead p2 p3 p4 p5 (hpre h0)
  · have eD : D_L_begin p2 p3 p4 p5 coef_n coef_f mags_n mags_f marks_n marks_f = 6 := by unfold D_L_begin; rw [if_neg h0]
    rcases txr_L_begin p2 p3 p4 p5 with h | h
    · exact absurd h h0
    · have eF : F_L_begin p2 p3 p4 p5 fld_wide fld_high fld_band fld_causal coef_n coef_f mags_n mags_f marks_n marks_f pb_style pb_isWritten pb_isRead = ((1 : Int32), fld_wide, fld_high, fld_band, fld_causal, coef_n, coef_f, mags_n, mags_f, marks_n, marks_f, pb_style, pb_isWritten, pb_isRead) := by unfold F_L_begin; rw [if_neg h0, if_pos h]
      rw [eF, eD]
      exact cy_L_begin_3 l hl0 dC dI cI cJ cZ tP tN tO a_fld a_coef a_mags a_marks a_pb a_plan a_row a_ctx a_cw a_rw a_cr a_rr a_scan sz fld_wide fld_high fld_band fld_causal coef_n coef_f mags_n mags_f marks_n marks_f pb_style pb_isWritten pb_isRead p2 p3 p4 p5 h
abbrev rm_L_set (Dt : Nat) : Room := { frames := 7, cells := Dt, slots := Dt, locals := 113 }
noncomputable def FA_L_set (p2 : Int32) (p3 : Int32) (p4 : Int32) (fld_wide : Int32) (fld_high : Int32) (coef_f : Nat → Int32) : (Int32 × (Nat → Int32) × Int32 × Int32) := let r_1 := F_X10_set p2 p3 p4 fld_wide fld_high coef_f; ((0 : Int32), r_1.1, r_1.2.1, r_1.2.2)
noncomputable def DA_L_set : Nat := 0
def PA_L_set (p2 : Int32) (p3 : Int32) (p4 : Int32) (fld_wide : Int32) (fld_high : Int32) (coef_n : Nat) : Prop := (P_X10_set p2 p3 p4 fld_wide fld_high coef_n)
abbrev Q_L_set (dC : Nat → ClassId) (dI : Nat → Nat → Nat) (cI cJ cZ : ClassId) (tP tN tO : Nat) (A : Nat → Prop) (a_fld : Nat) (a_coef : Nat) (a_mags : Nat) (a_marks : Nat) (a_pb : Nat) (a_plan : Nat) (a_row : Nat) (a_ctx : Nat) (a_cw : Nat) (a_rw : Nat) (a_cr : Nat) (a_rr : Nat) (a_scan : Nat) (fld_wide : Int32) (fld_high : Int32) (fld_band : Int32) (fld_causal : Int32) (coef_n : Nat) (coef_f : Nat → Int32) (pb_style : Int32) (pb_isWritten : Int32) (pb_isRead : Int32) (g : (Int32 × (Nat → Int32) × Int32 × Int32)) : Array Value → State → Outcome → State → Prop := va_Qi (fun (r : Int32) (_ : Unit) => r = g.1) (fun u t => va_P (dC, dI) vwCl (wd_fld_coef_pb cI a_fld a_coef a_mags a_marks a_pb a_plan a_row a_ctx a_cw a_rw a_cr a_rr a_scan fld_wide fld_high fld_band fld_causal coef_n g.2.1 pb_style g.2.2.1 g.2.2.2) t.heap ∧ va_K (dC, dI) vwCl [(cI, .int), (cJ, .long), (cZ, .boolean)] t ∧ va_D A (wd_fld_coef_pb cI a_fld a_coef a_mags a_marks a_pb a_plan a_row a_ctx a_cw a_rw a_cr a_rr a_scan fld_wide fld_high fld_band fld_causal coef_n g.2.1 pb_style g.2.2.1 g.2.2.2)) A
set_option maxHeartbeats 4000000 in
set_option maxRecDepth 100000 in
theorem ca_L_set (l : Launch) (hl0 : l.stackTraces = false) (dC : Nat → ClassId) (dI : Nat → Nat → Nat) (cI cJ cZ : ClassId) (tP tN tO : Nat) (a_fld : Nat) (a_coef : Nat) (a_mags : Nat) (a_marks : Nat) (a_pb : Nat) (a_plan : Nat) (a_row : Nat) (a_ctx : Nat) (a_cw : Nat) (a_rw : Nat) (a_cr : Nat) (a_rr : Nat) (a_scan : Nat) (sz : Nat) (fld_wide : Int32) (fld_high : Int32) (fld_band : Int32) (fld_causal : Int32) (coef_n : Nat) (coef_f : Nat → Int32) (pb_style : Int32) (pb_isWritten : Int32) (pb_isRead : Int32) (p2 : Int32) (p3 : Int32) (p4 : Int32) (hpre : PA_L_set p2 p3 p4 fld_wide fld_high coef_n) : Met l yL_set wsL_set (rm_L_set (DA_L_set)) (va_Pc [.ref a_pb, .int p2, .int p3, .int p4] (fun U => U.heap.size = sz ∧ va_P (dC, dI) vwCl (wd_fld_coef_pb cI a_fld a_coef a_mags a_marks a_pb a_plan a_row a_ctx a_cw a_rw a_cr a_rr a_scan fld_wide fld_high fld_band fld_causal coef_n coef_f pb_style pb_isWritten pb_isRead) U.heap ∧ va_K (dC, dI) vwCl [(cI, .int), (cJ, .long), (cZ, .boolean)] U ∧ va_D (fun _ => True) (wd_fld_coef_pb cI a_fld a_coef a_mags a_marks a_pb a_plan a_row a_ctx a_cw a_rw a_cr a_rr a_scan fld_wide fld_high fld_band fld_causal coef_n coef_f pb_style pb_isWritten pb_isRead) ∧ Zl tP tN tO (va_A (wd_fld_coef_pb cI a_fld a_coef a_mags a_marks a_pb a_plan a_row a_ctx a_cw a_rw a_cr a_rr a_scan fld_wide fld_high fld_band fld_causal coef_n coef_f pb_style pb_isWritten pb_isRead) sz) U U.heap)) (Q_L_set dC dI cI cJ cZ tP tN tO (va_A (wd_fld_coef_pb cI a_fld a_coef a_mags a_marks a_pb a_plan a_row a_ctx a_cw a_rw a_cr a_rr a_scan fld_wide fld_high fld_band fld_causal coef_n coef_f pb_style pb_isWritten pb_isRead) sz) a_fld a_coef a_mags a_marks a_pb a_plan a_row a_ctx a_cw a_rw a_cr a_rr a_scan fld_wide fld_high fld_band fld_causal coef_n coef_f pb_style pb_isWritten pb_isRead (FA_L_set p2 p3 p4 fld_wide fld_high coef_f)) (DA_L_set) (DA_L_set) (va_A (wd_fld_coef_pb cI a_fld a_coef a_mags a_marks a_pb a_plan a_row a_ctx a_cw a_rw a_cr a_rr a_scan fld_wide fld_high fld_band fld_causal coef_n coef_f pb_style pb_isWritten pb_isRead) sz) := by
  refine va_MetW (cc := cL_set) (maxL := 5) (ret := (some .int)) (hh := [(0, 7, 10, 13)]) (by decide) rfl ?_
  intro p e s m args below meth c s₁ B hml hv
  obtain ⟨rfl, hsz, hP, hK, hD0, hZ⟩ := hv
  have hx := B.exec
  have hb := B.bytes
  have hr := B.returns
  have hts := atoms_spec (ws := wsL_set) B.pre
  have hown : s.vm.findClass RL = some m.cls := findClass_of_methodNamed B.named
  have hlocks := B.notSynchronized
  subst hsz
  have hD := hD0.self (sz := s.heap.size)
  generalize hAe : va_A (wd_fld_coef_pb cI a_fld a_coef a_mags a_marks a_pb a_plan a_row a_ctx a_cw a_rw a_cr a_rr a_scan fld_wide fld_high fld_band fld_causal coef_n coef_f pb_style pb_isWritten pb_isRead) s.heap.size = A at hD hZ ⊢
  have hA : ∀ q : Nat, s.heap.size ≤ q → A q := fun q h => by rw [← hAe]; exact Or.inr h
  have hS : va_S A s.heap s.heap [] := va_S.rf
  obtain ⟨H, hH⟩ : ∃ z, z = s.heap := ⟨_, rfl⟩
  have hP : va_P (dC, dI) vwCl (wd_fld_coef_pb cI a_fld a_coef a_mags a_marks a_pb a_plan a_row a_ctx a_cw a_rw a_cr a_rr a_scan fld_wide fld_high fld_band fld_causal coef_n coef_f pb_style pb_isWritten pb_isRead) H := by rw [hH]; exact hP
  have hS : va_S A s.heap H [] := by rw [hH]; exact va_S.rf
  obtain ⟨g, hg⟩ : ∃ z, FA_L_set p2 p3 p4 fld_wide fld_high coef_f = z := ⟨_, rfl⟩
  rw [hg]
  obtain ⟨Dt, hDt⟩ : ∃ z, DA_L_set = z := ⟨_, rfl⟩
  rw [hDt]
  generalize hQe : MQ below (Q_L_set dC dI cI cJ cZ tP tN tO A a_fld a_coef a_mags a_marks a_pb a_plan a_row a_ctx a_cw a_rw a_cr a_rr a_scan fld_wide fld_high fld_band fld_causal coef_n coef_f pb_style pb_isWritten pb_isRead g) _ s Dt Dt A = Q
  rw [← hH]
  clear hH
  have hl := lv_entry ([.ref a_pb, .int p2, .int p3, .int p4]) (n := 5) (Nat.le_of_ble_eq_true rfl)
  rw [lg_entry_eq]
  generalize (lg_sl ([.ref a_pb, .int p2, .int p3, .int p4]) ++ List.replicate (5 - (lg_sl ([.ref a_pb, .int p2, .int p3, .int p4])).length) Slot.unset).toArray = ls at hl ⊢
  have hl : lv_has ls 5 [(0, .ref a_pb), (1, .int p2), (2, .int p3), (3, .int p4)] := hl
  unfold FA_L_set at hg
  unfold PA_L_set at hpre
  unfold DA_L_set at hDt
  obtain ⟨k, hk⟩ : ∃ z : Nat, z = 0 := ⟨_, rfl⟩
  obtain ⟨E, hE⟩ : ∃ z : Nat, z = 0 := ⟨_, rfl⟩
  have hC : k + (0) + E ≤ Dt := by rw [hk, hE, Nat.zero_add]; exact Nat.le_of_eq hDt
  refine W.widen (k := k) (n := k) (Nat.zero_le _) (Nat.zero_le _) ?_
  clear hk hE hDt
  refine lv_aload_n hx hb dL_set_0 rfl (lv_at hl 0 rfl) ?_
  refine lv_iload_n hx hb dL_set_1 rfl (lv_at hl 1 rfl) ?_
  refine lv_iload_n hx hb dL_set_2 rfl (lv_at hl 2 rfl) ?_
  refine lv_iload_n hx hb dL_set_3 rfl (lv_at hl 3 rfl) ?_
  have hPc := hP.sub (ws' := (wd_fld_coef_pb cI a_fld a_coef a_mags a_marks a_pb a_plan a_row a_ctx a_cw a_rw a_cr a_rr a_scan fld_wide fld_high fld_band fld_causal coef_n coef_f pb_style pb_isWritten pb_isRead)) [0, 1, 2] rfl
  have hDc := hD.sub (ws' := (wd_fld_coef_pb cI a_fld a_coef a_mags a_marks a_pb a_plan a_row a_ctx a_cw a_rw a_cr a_rr a_scan fld_wide fld_high fld_band fld_causal coef_n coef_f pb_style pb_isWritten pb_isRead)) [0, 1, 2] (by decide) rfl
  have hFc := va_free (wc := (wd_fld_coef_pb cI a_fld a_coef a_mags a_marks a_pb a_plan a_row a_ctx a_cw a_rw a_cr a_rr a_scan fld_wide fld_high fld_band fld_causal coef_n coef_f pb_style pb_isWritten pb_isRead)) hD hS hA [0, 1, 2] rfl
  refine va_callv (va_runV (As := [.int p2, .int p3, .int p4]) (rest := []) ⟨hx, hb, hml, hown, hts⟩ (c_X10_set l dC dI cI cJ cZ a_fld a_coef a_mags a_marks a_pb a_plan a_row a_ctx a_cw a_rw a_cr a_rr a_scan H.size fld_wide fld_high fld_band fld_causal coef_n coef_f pb_style pb_isWritten pb_isRead p2 p3 p4 hpre) (cwV 3 hts gL_set_X10_set rfl rfl rfl (by decide +kernel) ⟨Nat.le_of_ble_eq_true rfl, Nat.le_of_ble_eq_true rfl⟩) ⟨fun a U g mk q => by obtain ⟨q0, q1, qP, qK, qD⟩ := q; exact ⟨q0, q1, qP, va_K.moved (u := U) (U := U.calling g mk a) (Vm.Alike.refl U.vm) qK, qD⟩, va_recv hK hPc (ci := 9) (q0 := 2) rfl rfl, fun U hU hW => ⟨rfl, by rw [hU], by rw [hU]; exact hPc, va_K.moved hW.alike hK, hDc.weaken (fun _ _ _ _ => trivial)⟩⟩ rfl rfl hl.1 rfl (lv_room (Nat.le_of_ble_eq_true rfl)) dL_set_4 ⟨k0_le hC, k0_le hC⟩) hS (fun q _ h => hFc q h) hFc (fun u t H1 locs ht hvm hw hB hz1 hk1 hS => ?_)
  obtain ⟨hP1, hK1, hD1⟩ := hB
  rw [ht] at hP1
  obtain ⟨r_1, hr_1⟩ : ∃ z, F_X10_set p2 p3 p4 fld_wide fld_high coef_f = z := ⟨_, rfl⟩
  try rw [hr_1] at hw
  try rw [hr_1] at hP1
  try rw [hr_1] at hD1
  have hg : ((0 : Int32), r_1.1, r_1.2.1, r_1.2.2) = g := by first | (rw [hr_1] at hg; exact hg) | (subst hr_1; exact hg)
  obtain ⟨hP, hD⟩ := va_join (wr := []) (w1 := (wd_fld_coef_pb cI a_fld a_coef a_mags a_marks a_pb a_plan a_row a_ctx a_cw a_rw a_cr a_rr a_scan fld_wide fld_high fld_band fld_causal coef_n r_1.1 pb_style r_1.2.1 r_1.2.2)) hP hD [0, 1, 2] [] rfl rfl (by decide) (by decide) hk1 hFc hP1 hD1
  have hP : va_P (dC, dI) vwCl (wd_fld_coef_pb cI a_fld a_coef a_mags a_marks a_pb a_plan a_row a_ctx a_cw a_rw a_cr a_rr a_scan fld_wide fld_high fld_band fld_causal coef_n r_1.1 pb_style r_1.2.1 r_1.2.2) H1 := hP.sub [0, 1, 2] rfl
  have hD : va_D A (wd_fld_coef_pb cI a_fld a_coef a_mags a_marks a_pb a_plan a_row a_ctx a_cw a_rw a_cr a_rr a_scan fld_wide fld_high fld_band fld_causal coef_n r_1.1 pb_style r_1.2.1 r_1.2.2) := hD.sub [0, 1, 2] (by decide) rfl
  generalize H1 = H at hP hS ⊢
  refine lv_goto (tgt := 14) hx hb dL_set_7 (by decide) ?_
  refine lv_iconst (v := 0) hx hb dL_set_14 (by decide) ?_
  subst hg
  refine W.widen (k := Dt) (n := Dt) (k0_le hC) (k0_le hC) ?_
  rw [← hQe]
  exact W.iret (v := (0 : Int32)) hx hb hr (fun t ht hW => ⟨⟨(0 : Int32), (), rfl, rfl, by rw [ht]; exact hP, va_K.moved hW.alike hK, hD⟩, hS.F ht⟩) hS.2.2 dL_set_15
set_option maxHeartbeats 4000000 in
set_option maxRecDepth 100000 in
theorem cy_L_set_3 (l : Launch) (hl0 : l.stackTraces = false) (dC : Nat → ClassId) (dI : Nat → Nat → Nat) (cI cJ cZ : ClassId) (tP tN tO : Nat) (a_fld : Nat) (a_coef : Nat) (a_mags : Nat) (a_marks : Nat) (a_pb : Nat) (a_plan : Nat) (a_row : Nat) (a_ctx : Nat) (a_cw : Nat) (a_rw : Nat) (a_cr : Nat) (a_rr : Nat) (a_scan : Nat) (sz : Nat) (fld_wide : Int32) (fld_high : Int32) (fld_band : Int32) (fld_causal : Int32) (coef_n : Nat) (coef_f : Nat → Int32) (pb_style : Int32) (pb_isWritten : Int32) (pb_isRead : Int32) (p2 : Int32) (p3 : Int32) (p4 : Int32) (hT : TX_X10_set p2 p3 p4 fld_wide fld_high = 3) : Met l yL_set wsL_set (rm_L_set 6) (va_Pc [.ref a_pb, .int p2, .int p3, .int p4] (fun U => U.heap.size = sz ∧ va_P (dC, dI) vwCl (wd_fld_coef_pb cI a_fld a_coef a_mags a_marks a_pb a_plan a_row a_ctx a_cw a_rw a_cr a_rr a_scan fld_wide fld_high fld_band fld_causal coef_n coef_f pb_style pb_isWritten pb_isRead) U.heap ∧ va_K (dC, dI) vwCl [(cI, .int), (cJ, .long), (cZ, .boolean)] U ∧ va_D (fun _ => True) (wd_fld_coef_pb cI a_fld a_coef a_mags a_marks a_pb a_plan a_row a_ctx a_cw a_rw a_cr a_rr a_scan fld_wide fld_high fld_band fld_causal coef_n coef_f pb_style pb_isWritten pb_isRead) ∧ Zl tP tN tO (va_A (wd_fld_coef_pb cI a_fld a_coef a_mags a_marks a_pb a_plan a_row a_ctx a_cw a_rw a_cr a_rr a_scan fld_wide fld_high fld_band fld_causal coef_n coef_f pb_style pb_isWritten pb_isRead) sz) U U.heap)) (Q_L_set dC dI cI cJ cZ tP tN tO (va_A (wd_fld_coef_pb cI a_fld a_coef a_mags a_marks a_pb a_plan a_row a_ctx a_cw a_rw a_cr a_rr a_scan fld_wide fld_high fld_band fld_causal coef_n coef_f pb_style pb_isWritten pb_isRead) sz) a_fld a_coef a_mags a_marks a_pb a_plan a_row a_ctx a_cw a_rw a_cr a_rr a_scan fld_wide fld_high fld_band fld_causal coef_n coef_f pb_style pb_isWritten pb_isRead ((1 : Int32), coef_f, pb_isWritten, pb_isRead)) 6 6 (va_A (wd_fld_coef_pb cI a_fld a_coef a_mags a_marks a_pb a_plan a_row a_ctx a_cw a_rw a_cr a_rr a_scan fld_wide fld_high fld_band fld_causal coef_n coef_f pb_style pb_isWritten pb_isRead) sz) := by
  refine va_MetW (cc := cL_set) (maxL := 5) (ret := (some .int)) (hh := [(0, 7, 10, 13)]) (by decide) rfl ?_
  intro p e s m args below meth c s₁ B hml hv
  obtain ⟨rfl, hsz, hP, hK, hD0, hZ⟩ := hv
  have hx := B.exec
  have hb := B.bytes
  have hr := B.returns
  have hts := atoms_spec (ws := wsL_set) B.pre
  have hown : s.vm.findClass RL = some m.cls := findClass_of_methodNamed B.named
  have hlocks := B.notSynchronized
  subst hsz
  have hD := hD0.self (sz := s.heap.size)
  generalize hAe : va_A (wd_fld_coef_pb cI a_fld a_coef a_mags a_marks a_pb a_plan a_row a_ctx a_cw a_rw a_cr a_rr a_scan fld_wide fld_high fld_band fld_causal coef_n coef_f pb_style pb_isWritten pb_isRead) s.heap.size = A at hD hZ ⊢
  have hA : ∀ q : Nat, s.heap.size ≤ q → A q := fun q h => by rw [← hAe]; exact Or.inr h
  have hS : va_S A s.heap s.heap [] := va_S.rf
  obtain ⟨H, hH⟩ : ∃ z, z = s.heap := ⟨_, rfl⟩
  have hP : va_P (dC, dI) vwCl (wd_fld_coef_pb cI a_fld a_coef a_mags a_marks a_pb a_plan a_row a_ctx a_cw a_rw a_cr a_rr a_scan fld_wide fld_high fld_band fld_causal coef_n coef_f pb_style pb_isWritten pb_isRead) H := by rw [hH]; exact hP
  have hS : va_S A s.heap H [] := by rw [hH]; exact va_S.rf
  have htab : c.exceptionTable.toList = tableOf [(0, 7, 10, 13)] := vx_table (x := yL_set) B (hts _ List.mem_cons_self)
  generalize hQe : MQ below (Q_L_set dC dI cI cJ cZ tP tN tO A a_fld a_coef a_mags a_marks a_pb a_plan a_row a_ctx a_cw a_rw a_cr a_rr a_scan fld_wide fld_high fld_band fld_causal coef_n coef_f pb_style pb_isWritten pb_isRead ((1 : Int32), coef_f, pb_isWritten, pb_isRead)) _ s 6 6 A = Q
  rw [← hH]
  clear hH
  have hl := lv_entry ([.ref a_pb, .int p2, .int p3, .int p4]) (n := 5) (Nat.le_of_ble_eq_true rfl)
  rw [lg_entry_eq]
  generalize (lg_sl ([.ref a_pb, .int p2, .int p3, .int p4]) ++ List.replicate (5 - (lg_sl ([.ref a_pb, .int p2, .int p3, .int p4])).length) Slot.unset).toArray = ls at hl ⊢
  have hl : lv_has ls 5 [(0, .ref a_pb), (1, .int p2), (2, .int p3), (3, .int p4)] := hl
  refine lv_aload_n hx hb dL_set_0 rfl (lv_at hl 0 rfl) ?_
  refine lv_iload_n hx hb dL_set_1 rfl (lv_at hl 1 rfl) ?_
  refine lv_iload_n hx hb dL_set_2 rfl (lv_at hl 2 rfl) ?_
  refine lv_iload_n hx hb dL_set_3 rfl (lv_at hl 3 rfl) ?_
  have hPc := hP.sub (ws' := (wd_fld_coef_pb cI a_fld a_coef a_mags a_marks a_pb a_plan a_row a_ctx a_cw a_rw a_cr a_rr a_scan fld_wide fld_high fld_band fld_causal coef_n coef_f pb_style pb_isWritten pb_isRead)) [0, 1, 2] rfl
  have hDc := hD.sub (ws' := (wd_fld_coef_pb cI a_fld a_coef a_mags a_marks a_pb a_plan a_row a_ctx a_cw a_rw a_cr a_rr a_scan fld_wide fld_high fld_band fld_causal coef_n coef_f pb_style pb_isWritten pb_isRead)) [0, 1, 2] (by decide) rfl
  have hFc := va_free (wc := (wd_fld_coef_pb cI a_fld a_coef a_mags a_marks a_pb a_plan a_row a_ctx a_cw a_rw a_cr a_rr a_scan fld_wide fld_high fld_band fld_causal coef_n coef_f pb_style pb_isWritten pb_isRead)) hD hS hA [0, 1, 2] rfl
  refine vx_callv (vx_runV (As := [.int p2, .int p3, .int p4]) (rest := []) ⟨hx, hb, hml, hown, hts⟩ (cx_X10_set l hl0 dC dI cI cJ cZ a_fld a_coef a_mags a_marks a_pb a_plan a_row a_ctx a_cw a_rw a_cr a_rr a_scan H.size fld_wide fld_high fld_band fld_causal coef_n coef_f pb_style pb_isWritten pb_isRead p2 p3 p4 3 (by decide) hT) (cwV 3 hts gL_set_X10_set rfl rfl rfl (by decide +kernel) ⟨Nat.le_of_ble_eq_true rfl, Nat.le_of_ble_eq_true rfl⟩) ⟨fun a U g mk q => by obtain ⟨q0, q1, qP, qK, qD, qZ⟩ := q; exact ⟨q0, q1, qP, va_K.moved (u := U) (U := U.calling g mk a) (Vm.Alike.refl U.vm) qK, qD, Zt.same (u := U) (U := U.calling g mk a) rfl qZ⟩, va_recv hK hPc (ci := 9) (q0 := 2) rfl rfl, fun U hU hW => ⟨rfl, by rw [hU], by rw [hU]; exact hPc, va_K.moved hW.alike hK, hDc.weaken (fun _ _ _ _ => trivial), by rw [hU]; exact ((hZ.2.kept hS.2.1).narrow hFc).warm hW⟩⟩ rfl rfl hl.1 rfl (lv_room (Nat.le_of_ble_eq_true rfl)) dL_set_4 ⟨Nat.le_of_ble_eq_true rfl, Nat.le_of_ble_eq_true rfl⟩) hS (fun q _ h => hFc q h) hFc (fun q _ h => hFc q h) (fun E ce q9 u t H1 locs ht hvm hp hB hz1 hk1 hS hce hcv hcl => ?_) (fun u t H1 locs ht hvm hp hB hz1 hk1 hS => hp.elim)
  obtain ⟨hE, hP1, hK1, hD1⟩ := hB
  rw [ht] at hP1
  have hE : E = "java/lang/IllegalArgumentException" := hE
  subst hE
  obtain ⟨hP, hD⟩ := va_join (wr := []) (w1 := (wd_fld_coef_pb cI a_fld a_coef a_mags a_marks a_pb a_plan a_row a_ctx a_cw a_rw a_cr a_rr a_scan fld_wide fld_high fld_band fld_causal coef_n coef_f pb_style pb_isWritten pb_isRead)) hP hD [0, 1, 2] [] rfl rfl (by decide) (by decide) hk1 hFc hP1 hD1
  have hP : va_P (dC, dI) vwCl (wd_fld_coef_pb cI a_fld a_coef a_mags a_marks a_pb a_plan a_row a_ctx a_cw a_rw a_cr a_rr a_scan fld_wide fld_high fld_band fld_causal coef_n coef_f pb_style pb_isWritten pb_isRead) H1 := hP.sub [0, 1, 2] rfl
  have hD : va_D A (wd_fld_coef_pb cI a_fld a_coef a_mags a_marks a_pb a_plan a_row a_ctx a_cw a_rw a_cr a_rr a_scan fld_wide fld_high fld_band fld_causal coef_n coef_f pb_style pb_isWritten pb_isRead) := hD.sub [0, 1, 2] (by decide) rfl
  have hpass : ∀ z ∈ ([] : List ExceptionTableEntry), covers z 4 = false ∨ (z.catchType ≠ 0 ∧ ∃ nm : String, (Cond.classLink RL z.catchType nm).before [.ref a_pb, .int p2, .int p3, .int p4].toArray s = true ∧ va_Nc "java/lang/IllegalArgumentException" nm s) := fun z hz => nomatch hz
  refine vx_catch (own := RL) (name := "java/lang/IllegalArgumentException") (E := "java/lang/IllegalArgumentException") hown [] ⟨0, 7, 10, 13⟩ [] htab hpass (by decide) (by decide) (hts (.classLink RL 13 "java/lang/IllegalArgumentException") (by decide +kernel)) (va_tabs rfl rfl hZ.2.2.2.1.2.2.2.1) hce hcv hcl ?_
  refine lv_astore (lv' := [(4, .ref q9), (0, .ref a_pb), (1, .int p2), (2, .int p3), (3, .int p4)]) hx hb dL_set_10 hl (by decide) rfl (fun ls hl => ?_)
  refine lv_iconst (v := 1) hx hb dL_set_12 (by decide) ?_
  refine W.widen (k := 6) (n := 6) (by decide) (by decide) ?_
  rw [← hQe]
  exact W.iret (v := (1 : Int32)) hx hb hr (fun t ht hW => ⟨⟨(1 : Int32), (), rfl, rfl, by rw [ht]; exact hP, va_K.moved hW.alike hK, hD⟩, hS.F ht⟩) hS.2.2 dL_set_13
noncomputable def F_L_set (p2 : Int32) (p3 : Int32) (p4 : Int32) (fld_wide : Int32) (fld_high : Int32) (coef_f : Nat → Int32) (pb_isWritten : Int32) (pb_isRead : Int32) : (Int32 × (Nat → Int32) × Int32 × Int32) := if TX_X10_set p2 p3 p4 fld_wide fld_high = 0 then (FA_L_set p2 p3 p4 fld_wide fld_high coef_f) else (if TX_X10_set p2 p3 p4 fld_wide fld_high = 3 then (1 : Int32) else (0 : Int32), coef_f, pb_isWritten, pb_isRead)
noncomputable def D_L_set (p2 : Int32) (p3 : Int32) (p4 : Int32) (fld_wide : Int32) (fld_high : Int32) : Nat := if TX_X10_set p2 p3 p4 fld_wide fld_high = 0 then DA_L_set else 6
def P_L_set (p2 : Int32) (p3 : Int32) (p4 : Int32) (fld_wide : Int32) (fld_high : Int32) (coef_n : Nat) : Prop := (TX_X10_set p2 p3 p4 fld_wide fld_high = 0 → (PA_L_set p2 p3 p4 fld_wide fld_high coef_n))
theorem txr_L_set (p1 : Int32) (p2 : Int32) (p3 : Int32) (fld_wide : Int32) (fld_high : Int32) : TX_X10_set p1 p2 p3 fld_wide fld_high = 0 ∨ TX_X10_set p1 p2 p3 fld_wide fld_high = 3 := by
  unfold TX_X10_set 
  try dsimp only
  repeat' split
  all_goals first | (simp; done) | (simp_all; done) | omega
theorem c_L_set (l : Launch) (hl0 : l.stackTraces = false) (dC : Nat → ClassId) (dI : Nat → Nat → Nat) (cI cJ cZ : ClassId) (tP tN tO : Nat) (a_fld : Nat) (a_coef : Nat) (a_mags : Nat) (a_marks : Nat) (a_pb : Nat) (a_plan : Nat) (a_row : Nat) (a_ctx : Nat) (a_cw : Nat) (a_rw : Nat) (a_cr : Nat) (a_rr : Nat) (a_scan : Nat) (sz : Nat) (fld_wide : Int32) (fld_high : Int32) (fld_band : Int32) (fld_causal : Int32) (coef_n : Nat) (coef_f : Nat → Int32) (pb_style : Int32) (pb_isWritten : Int32) (pb_isRead : Int32) (p2 : Int32) (p3 : Int32) (p4 : Int32) (hpre : P_L_set p2 p3 p4 fld_wide fld_high coef_n) : Met l yL_set wsL_set (rm_L_set (D_L_set p2 p3 p4 fld_wide fld_high)) (va_Pc [.ref a_pb, .int p2, .int p3, .int p4] (fun U => U.heap.size = sz ∧ va_P (dC, dI) vwCl (wd_fld_coef_pb cI a_fld a_coef a_mags a_marks a_pb a_plan a_row a_ctx a_cw a_rw a_cr a_rr a_scan fld_wide fld_high fld_band fld_causal coef_n coef_f pb_style pb_isWritten pb_isRead) U.heap ∧ va_K (dC, dI) vwCl [(cI, .int), (cJ, .long), (cZ, .boolean)] U ∧ va_D (fun _ => True) (wd_fld_coef_pb cI a_fld a_coef a_mags a_marks a_pb a_plan a_row a_ctx a_cw a_rw a_cr a_rr a_scan fld_wide fld_high fld_band fld_causal coef_n coef_f pb_style pb_isWritten pb_isRead) ∧ Zl tP tN tO (va_A (wd_fld_coef_pb cI a_fld a_coef a_mags a_marks a_pb a_plan a_row a_ctx a_cw a_rw a_cr a_rr a_scan fld_wide fld_high fld_band fld_causal coef_n coef_f pb_style pb_isWritten pb_isRead) sz) U U.heap)) (Q_L_set dC dI cI cJ cZ tP tN tO (va_A (wd_fld_coef_pb cI a_fld a_coef a_mags a_marks a_pb a_plan a_row a_ctx a_cw a_rw a_cr a_rr a_scan fld_wide fld_high fld_band fld_causal coef_n coef_f pb_style pb_isWritten pb_isRead) sz) a_fld a_coef a_mags a_marks a_pb a_plan a_row a_ctx a_cw a_rw a_cr a_rr a_scan fld_wide fld_high fld_band fld_causal coef_n coef_f pb_style pb_isWritten pb_isRead (F_L_set p2 p3 p4 fld_wide fld_high coef_f pb_isWritten pb_isRead)) (D_L_set p2 p3 p4 fld_wide fld_high) (D_L_set p2 p3 p4 fld_wide fld_high) (va_A (wd_fld_coef_pb cI a_fld a_coef a_mags a_marks a_pb a_plan a_row a_ctx a_cw a_rw a_cr a_rr a_scan fld_wide fld_high fld_band fld_causal coef_n coef_f pb_style pb_isWritten pb_isRead) sz) := by
  by_cases h0 : TX_X10_set p2 p3 p4 fld_wide fld_high = 0
  · have eF : F_L_set p2 p3 p4 fld_wide fld_high coef_f pb_isWritten pb_isRead = FA_L_set p2 p3 p4 fld_wide fld_high coef_f := by unfold F_L_set; rw [if_pos h0]
    have eD : D_L_set p2 p3 p4 fld_wide fld_high = DA_L_set := by unfold D_L_set; rw [if_pos h0]
    rw [eF, eD]
    exact ca_L_set l hl0 dC dI cI cJ cZ tP tN tO a_fld a_coef a_mags a_marks a_pb a_plan a_row a_ctx a_cw a_rw a_cr a_rr a_scan sz fld_wide fld_high fld_band fld_causal coef_n coef_f pb_style pb_isWritten pb_isRead p2 p3 p4 (hpre h0)
  · have eD : D_L_set p2 p3 p4 fld_wide fld_high = 6 := by unfold D_L_set; rw [if_neg h0]
    rcases txr_L_set p2 p3 p4 fld_wide fld_high with h | h
    · exact absurd h h0
    · have eF : F_L_set p2 p3 p4 fld_wide fld_high coef_f pb_isWritten pb_isRead = ((1 : Int32), coef_f, pb_isWritten, pb_isRead) := by unfold F_L_set; rw [if_neg h0, if_pos h]
      rw [eF, eD]
      exact cy_L_set_3 l hl0 dC dI cI cJ cZ tP tN tO a_fld a_coef a_mags a_marks a_pb a_plan a_row a_ctx a_cw a_rw a_cr a_rr a_scan sz fld_wide fld_high fld_band fld_causal coef_n coef_f pb_style pb_isWritten pb_isRead p2 p3 p4 h
abbrev rm_L_fill (Dt : Nat) : Room := { frames := 7, cells := Dt, slots := Dt, locals := 117 }
noncomputable def FA_L_fill (p2 : Int32) (p3 : Int32) (p4 : Int32) (p5 : Int32) (fld_wide : Int32) (fld_high : Int32) (coef_f : Nat → Int32) : (Int32 × (Nat → Int32) × Int32 × Int32) := let r_1 := F_X10_fill p2 p3 p4 p5 fld_wide fld_high coef_f; ((0 : Int32), r_1.1, r_1.2.1, r_1.2.2)
noncomputable def DA_L_fill : Nat := 0
def PA_L_fill (p2 : Int32) (p3 : Int32) (p4 : Int32) (p5 : Int32) (fld_wide : Int32) (fld_high : Int32) (coef_n : Nat) (coef_f : Nat → Int32) : Prop := (P_X10_fill p2 p3 p4 p5 fld_wide fld_high coef_n coef_f)
abbrev Q_L_fill (dC : Nat → ClassId) (dI : Nat → Nat → Nat) (cI cJ cZ : ClassId) (tP tN tO : Nat) (A : Nat → Prop) (a_fld : Nat) (a_coef : Nat) (a_mags : Nat) (a_marks : Nat) (a_pb : Nat) (a_plan : Nat) (a_row : Nat) (a_ctx : Nat) (a_cw : Nat) (a_rw : Nat) (a_cr : Nat) (a_rr : Nat) (a_scan : Nat) (fld_wide : Int32) (fld_high : Int32) (fld_band : Int32) (fld_causal : Int32) (coef_n : Nat) (coef_f : Nat → Int32) (pb_style : Int32) (pb_isWritten : Int32) (pb_isRead : Int32) (g : (Int32 × (Nat → Int32) × Int32 × Int32)) : Array Value → State → Outcome → State → Prop := va_Qi (fun (r : Int32) (_ : Unit) => r = g.1) (fun u t => va_P (dC, dI) vwCl (wd_fld_coef_pb cI a_fld a_coef a_mags a_marks a_pb a_plan a_row a_ctx a_cw a_rw a_cr a_rr a_scan fld_wide fld_high fld_band fld_causal coef_n g.2.1 pb_style g.2.2.1 g.2.2.2) t.heap ∧ va_K (dC, dI) vwCl [(cI, .int), (cJ, .long), (cZ, .boolean)] t ∧ va_D A (wd_fld_coef_pb cI a_fld a_coef a_mags a_marks a_pb a_plan a_row a_ctx a_cw a_rw a_cr a_rr a_scan fld_wide fld_high fld_band fld_causal coef_n g.2.1 pb_style g.2.2.1 g.2.2.2)) A
set_option maxHeartbeats 4000000 in
set_option maxRecDepth 100000 in
theorem ca_L_fill (l : Launch) (hl0 : l.stackTraces = false) (dC : Nat → ClassId) (dI : Nat → Nat → Nat) (cI cJ cZ : ClassId) (tP tN tO : Nat) (a_fld : Nat) (a_coef : Nat) (a_mags : Nat) (a_marks : Nat) (a_pb : Nat) (a_plan : Nat) (a_row : Nat) (a_ctx : Nat) (a_cw : Nat) (a_rw : Nat) (a_cr : Nat) (a_rr : Nat) (a_scan : Nat) (sz : Nat) (fld_wide : Int32) (fld_high : Int32) (fld_band : Int32) (fld_causal : Int32) (coef_n : Nat) (coef_f : Nat → Int32) (pb_style : Int32) (pb_isWritten : Int32) (pb_isRead : Int32) (p2 : Int32) (p3 : Int32) (p4 : Int32) (p5 : Int32) (hpre : PA_L_fill p2 p3 p4 p5 fld_wide fld_high coef_n coef_f) : Met l yL_fill wsL_fill (rm_L_fill (DA_L_fill)) (va_Pc [.ref a_pb, .int p2, .int p3, .int p4, .int p5] (fun U => U.heap.size = sz ∧ va_P (dC, dI) vwCl (wd_fld_coef_pb cI a_fld a_coef a_mags a_marks a_pb a_plan a_row a_ctx a_cw a_rw a_cr a_rr a_scan fld_wide fld_high fld_band fld_causal coef_n coef_f pb_style pb_isWritten pb_isRead) U.heap ∧ va_K (dC, dI) vwCl [(cI, .int), (cJ, .long), (cZ, .boolean)] U ∧ va_D (fun _ => True) (wd_fld_coef_pb cI a_fld a_coef a_mags a_marks a_pb a_plan a_row a_ctx a_cw a_rw a_cr a_rr a_scan fld_wide fld_high fld_band fld_causal coef_n coef_f pb_style pb_isWritten pb_isRead) ∧ Zl tP tN tO (va_A (wd_fld_coef_pb cI a_fld a_coef a_mags a_marks a_pb a_plan a_row a_ctx a_cw a_rw a_cr a_rr a_scan fld_wide fld_high fld_band fld_causal coef_n coef_f pb_style pb_isWritten pb_isRead) sz) U U.heap)) (Q_L_fill dC dI cI cJ cZ tP tN tO (va_A (wd_fld_coef_pb cI a_fld a_coef a_mags a_marks a_pb a_plan a_row a_ctx a_cw a_rw a_cr a_rr a_scan fld_wide fld_high fld_band fld_causal coef_n coef_f pb_style pb_isWritten pb_isRead) sz) a_fld a_coef a_mags a_marks a_pb a_plan a_row a_ctx a_cw a_rw a_cr a_rr a_scan fld_wide fld_high fld_band fld_causal coef_n coef_f pb_style pb_isWritten pb_isRead (FA_L_fill p2 p3 p4 p5 fld_wide fld_high coef_f)) (DA_L_fill) (DA_L_fill) (va_A (wd_fld_coef_pb cI a_fld a_coef a_mags a_marks a_pb a_plan a_row a_ctx a_cw a_rw a_cr a_rr a_scan fld_wide fld_high fld_band fld_causal coef_n coef_f pb_style pb_isWritten pb_isRead) sz) := by
  refine va_MetW (cc := cL_fill) (maxL := 6) (ret := (some .int)) (hh := [(0, 9, 12, 13)]) (by decide) rfl ?_
  intro p e s m args below meth c s₁ B hml hv
  obtain ⟨rfl, hsz, hP, hK, hD0, hZ⟩ := hv
  have hx := B.exec
  have hb := B.bytes
  have hr := B.returns
  have hts := atoms_spec (ws := wsL_fill) B.pre
  have hown : s.vm.findClass RL = some m.cls := findClass_of_methodNamed B.named
  have hlocks := B.notSynchronized
  subst hsz
  have hD := hD0.self (sz := s.heap.size)
  generalize hAe : va_A (wd_fld_coef_pb cI a_fld a_coef a_mags a_marks a_pb a_plan a_row a_ctx a_cw a_rw a_cr a_rr a_scan fld_wide fld_high fld_band fld_causal coef_n coef_f pb_style pb_isWritten pb_isRead) s.heap.size = A at hD hZ ⊢
  have hA : ∀ q : Nat, s.heap.size ≤ q → A q := fun q h => by rw [← hAe]; exact Or.inr h
  have hS : va_S A s.heap s.heap [] := va_S.rf
  obtain ⟨H, hH⟩ : ∃ z, z = s.heap := ⟨_, rfl⟩
  have hP : va_P (dC, dI) vwCl (wd_fld_coef_pb cI a_fld a_coef a_mags a_marks a_pb a_plan a_row a_ctx a_cw a_rw a_cr a_rr a_scan fld_wide fld_high fld_band fld_causal coef_n coef_f pb_style pb_isWritten pb_isRead) H := by rw [hH]; exact hP
  have hS : va_S A s.heap H [] := by rw [hH]; exact va_S.rf
  obtain ⟨g, hg⟩ : ∃ z, FA_L_fill p2 p3 p4 p5 fld_wide fld_high coef_f = z := ⟨_, rfl⟩
  rw [hg]
  obtain ⟨Dt, hDt⟩ : ∃ z, DA_L_fill = z := ⟨_, rfl⟩
  rw [hDt]
  generalize hQe : MQ below (Q_L_fill dC dI cI cJ cZ tP tN tO A a_fld a_coef a_mags a_marks a_pb a_plan a_row a_ctx a_cw a_rw a_cr a_rr a_scan fld_wide fld_high fld_band fld_causal coef_n coef_f pb_style pb_isWritten pb_isRead g) _ s Dt Dt A = Q
  rw [← hH]
  clear hH
  have hl := lv_entry ([.ref a_pb, .int p2, .int p3, .int p4, .int p5]) (n := 6) (Nat.le_of_ble_eq_true rfl)
  rw [lg_entry_eq]
  generalize (lg_sl ([.ref a_pb, .int p2, .int p3, .int p4, .int p5]) ++ List.replicate (6 - (lg_sl ([.ref a_pb, .int p2, .int p3, .int p4, .int p5])).length) Slot.unset).toArray = ls at hl ⊢
  have hl : lv_has ls 6 [(0, .ref a_pb), (1, .int p2), (2, .int p3), (3, .int p4), (4, .int p5)] := hl
  unfold FA_L_fill at hg
  unfold PA_L_fill at hpre
  unfold DA_L_fill at hDt
  obtain ⟨k, hk⟩ : ∃ z : Nat, z = 0 := ⟨_, rfl⟩
  obtain ⟨E, hE⟩ : ∃ z : Nat, z = 0 := ⟨_, rfl⟩
  have hC : k + (0) + E ≤ Dt := by rw [hk, hE, Nat.zero_add]; exact Nat.le_of_eq hDt
  refine W.widen (k := k) (n := k) (Nat.zero_le _) (Nat.zero_le _) ?_
  clear hk hE hDt
  refine lv_aload_n hx hb dL_fill_0 rfl (lv_at hl 0 rfl) ?_
  refine lv_iload_n hx hb dL_fill_1 rfl (lv_at hl 1 rfl) ?_
  refine lv_iload_n hx hb dL_fill_2 rfl (lv_at hl 2 rfl) ?_
  refine lv_iload_n hx hb dL_fill_3 rfl (lv_at hl 3 rfl) ?_
  refine lv_iload hx hb dL_fill_4 (lv_at hl 4 rfl) ?_
  have hPc := hP.sub (ws' := (wd_fld_coef_pb cI a_fld a_coef a_mags a_marks a_pb a_plan a_row a_ctx a_cw a_rw a_cr a_rr a_scan fld_wide fld_high fld_band fld_causal coef_n coef_f pb_style pb_isWritten pb_isRead)) [0, 1, 2] rfl
  have hDc := hD.sub (ws' := (wd_fld_coef_pb cI a_fld a_coef a_mags a_marks a_pb a_plan a_row a_ctx a_cw a_rw a_cr a_rr a_scan fld_wide fld_high fld_band fld_causal coef_n coef_f pb_style pb_isWritten pb_isRead)) [0, 1, 2] (by decide) rfl
  have hFc := va_free (wc := (wd_fld_coef_pb cI a_fld a_coef a_mags a_marks a_pb a_plan a_row a_ctx a_cw a_rw a_cr a_rr a_scan fld_wide fld_high fld_band fld_causal coef_n coef_f pb_style pb_isWritten pb_isRead)) hD hS hA [0, 1, 2] rfl
  refine va_callv (va_runV (As := [.int p2, .int p3, .int p4, .int p5]) (rest := []) ⟨hx, hb, hml, hown, hts⟩ (c_X10_fill l dC dI cI cJ cZ a_fld a_coef a_mags a_marks a_pb a_plan a_row a_ctx a_cw a_rw a_cr a_rr a_scan H.size fld_wide fld_high fld_band fld_causal coef_n coef_f pb_style pb_isWritten pb_isRead p2 p3 p4 p5 hpre) (cwV 4 hts gL_fill_X10_fill rfl rfl rfl (by decide +kernel) ⟨Nat.le_of_ble_eq_true rfl, Nat.le_of_ble_eq_true rfl⟩) ⟨fun a U g mk q => by obtain ⟨q0, q1, qP, qK, qD⟩ := q; exact ⟨q0, q1, qP, va_K.moved (u := U) (U := U.calling g mk a) (Vm.Alike.refl U.vm) qK, qD⟩, va_recv hK hPc (ci := 9) (q0 := 2) rfl rfl, fun U hU hW => ⟨rfl, by rw [hU], by rw [hU]; exact hPc, va_K.moved hW.alike hK, hDc.weaken (fun _ _ _ _ => trivial)⟩⟩ rfl rfl hl.1 rfl (lv_room (Nat.le_of_ble_eq_true rfl)) dL_fill_6 ⟨k0_le hC, k0_le hC⟩) hS (fun q _ h => hFc q h) hFc (fun u t H1 locs ht hvm hw hB hz1 hk1 hS => ?_)
  obtain ⟨hP1, hK1, hD1⟩ := hB
  rw [ht] at hP1
  obtain ⟨r_1, hr_1⟩ : ∃ z, F_X10_fill p2 p3 p4 p5 fld_wide fld_high coef_f = z := ⟨_, rfl⟩
  try rw [hr_1] at hw
  try rw [hr_1] at hP1
  try rw [hr_1] at hD1
  have hg : ((0 : Int32), r_1.1, r_1.2.1, r_1.2.2) = g := by first | (rw [hr_1] at hg; exact hg) | (subst hr_1; exact hg)
  obtain ⟨hP, hD⟩ := va_join (wr := []) (w1 := (wd_fld_coef_pb cI a_fld a_coef a_mags a_marks a_pb a_plan a_row a_ctx a_cw a_rw a_cr a_rr a_scan fld_wide fld_high fld_band fld_causal coef_n r_1.1 pb_style r_1.2.1 r_1.2.2)) hP hD [0, 1, 2] [] rfl rfl (by decide) (by decide) hk1 hFc hP1 hD1
  have hP : va_P (dC, dI) vwCl (wd_fld_coef_pb cI a_fld a_coef a_mags a_marks a_pb a_plan a_row a_ctx a_cw a_rw a_cr a_rr a_scan fld_wide fld_high fld_band fld_causal coef_n r_1.1 pb_style r_1.2.1 r_1.2.2) H1 := hP.sub [0, 1, 2] rfl
  have hD : va_D A (wd_fld_coef_pb cI a_fld a_coef a_mags a_marks a_pb a_plan a_row a_ctx a_cw a_rw a_cr a_rr a_scan fld_wide fld_high fld_band fld_causal coef_n r_1.1 pb_style r_1.2.1 r_1.2.2) := hD.sub [0, 1, 2] (by decide) rfl
  generalize H1 = H at hP hS ⊢
  refine lv_goto (tgt := 16) hx hb dL_fill_9 (by decide) ?_
  refine lv_iconst (v := 0) hx hb dL_fill_16 (by decide) ?_
  subst hg
  refine W.widen (k := Dt) (n := Dt) (k0_le hC) (k0_le hC) ?_
  rw [← hQe]
  exact W.iret (v := (0 : Int32)) hx hb hr (fun t ht hW => ⟨⟨(0 : Int32), (), rfl, rfl, by rw [ht]; exact hP, va_K.moved hW.alike hK, hD⟩, hS.F ht⟩) hS.2.2 dL_fill_17

/-! ===== WALKS: the calls that throw ===== -/
def exN (k : Nat) : String := if k = 1 then "java/lang/IllegalStateException" else if k = 2 then "java/lang/IndexOutOfBoundsException" else "java/lang/IllegalArgumentException"
/-- what a throw asks of the tables and of the heap beside its method's words -/
def Zt (A : Nat → Prop) (U : State) (H : Heap) : Prop := vx_Zq Bundle.tN "UNASSIGNED_STACK" Bundle.steD A U H ∧ vx_Zq Bundle.tN "SUPPRESSED_SENTINEL" Bundle.listD A U H ∧ (va_Nw (.declares (Bundle.initS "java/lang/RuntimeException")) U ∧ va_Nw (.declares (Bundle.initS "java/lang/Exception")) U ∧ va_Nw (.declares (Bundle.initS Bundle.tN)) U ∧ va_Nw (.castable "java/lang/IllegalArgumentException" "java/lang/IllegalArgumentException") U ∧ va_Nw (.castable "java/lang/IllegalStateException" "java/lang/IllegalStateException") U ∧ va_Nw (.castable "java/lang/IndexOutOfBoundsException" "java/lang/IndexOutOfBoundsException") U) ∧ (va_Nc "java/lang/IllegalArgumentException" "java/lang/IllegalStateException" U ∧ va_Nc "java/lang/IndexOutOfBoundsException" "java/lang/IllegalStateException" U ∧ va_Nc "java/lang/IllegalArgumentException" "java/lang/IndexOutOfBoundsException" U ∧ va_Nc "java/lang/IllegalStateException" "java/lang/IllegalArgumentException" U) ∧ ((∃ a, vk_R RX10 80 "a block is 1 to 64 wide and high" a U) ∧ (∃ a, vk_R RX10 85 "a band is 0 to 3" a U) ∧ (∃ a, vk_R RX10 87 "a style is 0 to 63" a U) ∧ (∃ a, vk_R RX10 108 "there is no such coefficient" a U) ∧ (∃ a, vk_R RX10 111 "a magnitude is at most 2^31 - 1" a U) ∧ (∃ a, vk_R RX10 121 "a shift is 0 to 31" a U) ∧ (∃ a, vk_R RX10 222 "w is 0 to 3" a U) ∧ (∃ a, vk_R RX10 228 "w is 0 to 4" a U) ∧ (∃ a, vk_R RX10 236 "there are not so many passes" a U) ∧ (∃ a, vk_R RX10 291 "the block was not written" a U) ∧ (∃ a, vk_R RX10 296 "there is no such pass" a U) ∧ (∃ a, vk_R RX10 299 "there is no such byte" a U) ∧ (∃ a, vk_R RX10 301 "nothing is read" a U))
theorem Zt.t80 {A : Nat → Prop} {U : State} {H : Heap} (h : Zt A U H) : ∃ a, vk_R RX10 80 "a block is 1 to 64 wide and high" a U := h.2.2.2.2.1
theorem Zt.t85 {A : Nat → Prop} {U : State} {H : Heap} (h : Zt A U H) : ∃ a, vk_R RX10 85 "a band is 0 to 3" a U := h.2.2.2.2.2.1
theorem Zt.t87 {A : Nat → Prop} {U : State} {H : Heap} (h : Zt A U H) : ∃ a, vk_R RX10 87 "a style is 0 to 63" a U := h.2.2.2.2.2.2.1
theorem Zt.t108 {A : Nat → Prop} {U : State} {H : Heap} (h : Zt A U H) : ∃ a, vk_R RX10 108 "there is no such coefficient" a U := h.2.2.2.2.2.2.2.1
theorem Zt.t111 {A : Nat → Prop} {U : State} {H : Heap} (h : Zt A U H) : ∃ a, vk_R RX10 111 "a magnitude is at most 2^31 - 1" a U := h.2.2.2.2.2.2.2.2.1
theorem Zt.t121 {A : Nat → Prop} {U : State} {H : Heap} (h : Zt A U H) : ∃ a, vk_R RX10 121 "a shift is 0 to 31" a U := h.2.2.2.2.2.2.2.2.2.1
theorem Zt.t222 {A : Nat → Prop} {U : State} {H : Heap} (h : Zt A U H) : ∃ a, vk_R RX10 222 "w is 0 to 3" a U := h.2.2.2.2.2.2.2.2.2.2.1
theorem Zt.t228 {A : Nat → Prop} {U : State} {H : Heap} (h : Zt A U H) : ∃ a, vk_R RX10 228 "w is 0 to 4" a U := h.2.2.2.2.2.2.2.2.2.2.2.1
theorem Zt.t236 {A : Nat → Prop} {U : State} {H : Heap} (h : Zt A U H) : ∃ a, vk_R RX10 236 "there are not so many passes" a U := h.2.2.2.2.2.2.2.2.2.2.2.2.1
theorem Zt.t291 {A : Nat → Prop} {U : State} {H : Heap} (h : Zt A U H) : ∃ a, vk_R RX10 291 "the block was not written" a U := h.2.2.2.2.2.2.2.2.2.2.2.2.2.1
theorem Zt.t296 {A : Nat → Prop} {U : State} {H : Heap} (h : Zt A U H) : ∃ a, vk_R RX10 296 "there is no such pass" a U := h.2.2.2.2.2.2.2.2.2.2.2.2.2.2.1
theorem Zt.t299 {A : Nat → Prop} {U : State} {H : Heap} (h : Zt A U H) : ∃ a, vk_R RX10 299 "there is no such byte" a U := h.2.2.2.2.2.2.2.2.2.2.2.2.2.2.2.1
theorem Zt.t301 {A : Nat → Prop} {U : State} {H : Heap} (h : Zt A U H) : ∃ a, vk_R RX10 301 "nothing is read" a U := h.2.2.2.2.2.2.2.2.2.2.2.2.2.2.2.2
theorem Zt.kept {A : Nat → Prop} {U : State} {H H1 : Heap} (h : Zt A U H) (hq : ∀ a : Nat, a < H.size → ¬ A a → H1[a]? = H[a]?) : Zt A U H1 := ⟨h.1.kept hq, h.2.1.kept hq, h.2.2⟩
theorem Zt.narrow {A B : Nat → Prop} {U : State} {H : Heap} (h : Zt A U H) (hAB : ∀ q, B q → A q) : Zt B U H := ⟨h.1.narrow hAB, h.2.1.narrow hAB, h.2.2⟩
theorem nw_movedC {C T : String} {s U : State} (h : s.vm.Alike U.vm) (hZ : va_Nw (.castable C T) s) : va_Nw (.castable C T) U := va_tabs rfl (rfl : (s.setVm U.vm).vm = U.vm) (by rw [Cond.castable_setVm h]; exact hZ)
theorem ex_mp {p q : Nat → Prop} (h : ∃ a, p a) (f : ∀ a, p a → q a) : ∃ a, q a := h.elim (fun a ha => ⟨a, f a ha⟩)
theorem Zt.warm {A : Nat → Prop} {s U : State} {H : Heap} (hW : s.WarmedH U.vm) (h : Zt A s H) : Zt A U H := by
  obtain ⟨h1, h2, ⟨h3, h4, h5, k1, k2, k3⟩, ⟨h6, h7, h8, h9⟩, t80, t85, t87, t108, t111, t121, t222, t228, t236, t291, t296, t299, t301⟩ := h
  exact ⟨h1.moved hW.alike, h2.moved hW.alike, ⟨nw_moved hW.alike h3, nw_moved hW.alike h4, nw_moved hW.alike h5, nw_movedC hW.alike k1, nw_movedC hW.alike k2, nw_movedC hW.alike k3⟩, ⟨h6.moved hW.alike, h7.moved hW.alike, h8.moved hW.alike, h9.moved hW.alike⟩, ex_mp t80 (fun a h => h.warm hW), ex_mp t85 (fun a h => h.warm hW), ex_mp t87 (fun a h => h.warm hW), ex_mp t108 (fun a h => h.warm hW), ex_mp t111 (fun a h => h.warm hW), ex_mp t121 (fun a h => h.warm hW), ex_mp t222 (fun a h => h.warm hW), ex_mp t228 (fun a h => h.warm hW), ex_mp t236 (fun a h => h.warm hW), ex_mp t291 (fun a h => h.warm hW), ex_mp t296 (fun a h => h.warm hW), ex_mp t299 (fun a h => h.warm hW), ex_mp t301 (fun a h => h.warm hW)⟩
theorem Zt.same {A : Nat → Prop} {u U : State} {H : Heap} (hv : U.vm = u.vm) (h : Zt A u H) : Zt A U H := by
  obtain ⟨h1, h2, ⟨h3, h4, h5, k1, k2, k3⟩, ⟨h6, h7, h8, h9⟩, t80, t85, t87, t108, t111, t121, t222, t228, t236, t291, t296, t299, t301⟩ := h
  have hA : u.vm.Alike U.vm := by rw [hv]; exact Vm.Alike.refl u.vm
  exact ⟨h1.moved hA, h2.moved hA, ⟨nw_moved hA h3, nw_moved hA h4, nw_moved hA h5, nw_movedC hA k1, nw_movedC hA k2, nw_movedC hA k3⟩, ⟨h6.moved hA, h7.moved hA, h8.moved hA, h9.moved hA⟩, ex_mp t80 (fun a h => h.same hv), ex_mp t85 (fun a h => h.same hv), ex_mp t87 (fun a h => h.same hv), ex_mp t108 (fun a h => h.same hv), ex_mp t111 (fun a h => h.same hv), ex_mp t121 (fun a h => h.same hv), ex_mp t222 (fun a h => h.same hv), ex_mp t228 (fun a h => h.same hv), ex_mp t236 (fun a h => h.same hv), ex_mp t291 (fun a h => h.same hv), ex_mp t296 (fun a h => h.same hv), ex_mp t299 (fun a h => h.same hv), ex_mp t301 (fun a h => h.same hv)⟩
theorem Zt.decl {A : Nat → Prop} {s : State} {H : Heap} {args : Array Value} (h : Zt A s H) : ∀ w ∈ [Cond.declares (Bundle.initS "java/lang/RuntimeException"), Cond.declares (Bundle.initS "java/lang/Exception"), Cond.declares (Bundle.initS Bundle.tN), Cond.castable "java/lang/IllegalArgumentException" "java/lang/IllegalArgumentException", Cond.castable "java/lang/IllegalStateException" "java/lang/IllegalStateException", Cond.castable "java/lang/IndexOutOfBoundsException" "java/lang/IndexOutOfBoundsException"], w.before args s = true :=
  vx_c (va_tabs rfl rfl h.2.2.1.1) (vx_c (va_tabs rfl rfl h.2.2.1.2.1) (vx_c (va_tabs rfl rfl h.2.2.1.2.2.1) (vx_c (va_tabs rfl rfl h.2.2.1.2.2.2.1) (vx_c (va_tabs rfl rfl h.2.2.1.2.2.2.2.1) (vx_c (va_tabs rfl rfl h.2.2.1.2.2.2.2.2) vx_n)))))
theorem hg_IA : ∀ w ∈ Cond.classLink RX10 78 "java/lang/IllegalArgumentException" :: Cond.initialized "java/lang/IllegalArgumentException" :: vx_atS RX10 82 "java/lang/IllegalArgumentException" ["java/lang/RuntimeException", "java/lang/Exception"], vx_ot w = true := by decide +kernel
theorem hb_IA : ∀ w ∈ (vx_atS RX10 82 "java/lang/IllegalArgumentException" ["java/lang/RuntimeException", "java/lang/Exception"]).filter (fun w => !goodWord w), w ∈ [Cond.declares (Bundle.initS "java/lang/RuntimeException"), Cond.declares (Bundle.initS "java/lang/Exception"), Cond.declares (Bundle.initS Bundle.tN), Cond.castable "java/lang/IllegalArgumentException" "java/lang/IllegalArgumentException", Cond.castable "java/lang/IllegalStateException" "java/lang/IllegalStateException", Cond.castable "java/lang/IndexOutOfBoundsException" "java/lang/IndexOutOfBoundsException"] := by decide +kernel
theorem hg_IS : ∀ w ∈ Cond.classLink RX10 289 "java/lang/IllegalStateException" :: Cond.initialized "java/lang/IllegalStateException" :: vx_atS RX10 293 "java/lang/IllegalStateException" ["java/lang/RuntimeException", "java/lang/Exception"], vx_ot w = true := by decide +kernel
theorem hb_IS : ∀ w ∈ (vx_atS RX10 293 "java/lang/IllegalStateException" ["java/lang/RuntimeException", "java/lang/Exception"]).filter (fun w => !goodWord w), w ∈ [Cond.declares (Bundle.initS "java/lang/RuntimeException"), Cond.declares (Bundle.initS "java/lang/Exception"), Cond.declares (Bundle.initS Bundle.tN), Cond.castable "java/lang/IllegalArgumentException" "java/lang/IllegalArgumentException", Cond.castable "java/lang/IllegalStateException" "java/lang/IllegalStateException", Cond.castable "java/lang/IndexOutOfBoundsException" "java/lang/IndexOutOfBoundsException"] := by decide +kernel
theorem hg_IO : ∀ w ∈ Cond.classLink RX10 294 "java/lang/IndexOutOfBoundsException" :: Cond.initialized "java/lang/IndexOutOfBoundsException" :: vx_atS RX10 298 "java/lang/IndexOutOfBoundsException" ["java/lang/RuntimeException", "java/lang/Exception"], vx_ot w = true := by decide +kernel
theorem hb_IO : ∀ w ∈ (vx_atS RX10 298 "java/lang/IndexOutOfBoundsException" ["java/lang/RuntimeException", "java/lang/Exception"]).filter (fun w => !goodWord w), w ∈ [Cond.declares (Bundle.initS "java/lang/RuntimeException"), Cond.declares (Bundle.initS "java/lang/Exception"), Cond.declares (Bundle.initS Bundle.tN), Cond.castable "java/lang/IllegalArgumentException" "java/lang/IllegalArgumentException", Cond.castable "java/lang/IllegalStateException" "java/lang/IllegalStateException", Cond.castable "java/lang/IndexOutOfBoundsException" "java/lang/IndexOutOfBoundsException"] := by decide +kernel

abbrev rmx_X10_needWritten : Room := { frames := 6, cells := 1, slots := 6, locals := 90 }
def TX_X10_needWritten (pb_isWritten : Int32) : Nat := if pb_isWritten = (0 : Int32) then 1 else 0
theorem cx_X10_needWritten (l : Launch) (hl0 : l.stackTraces = false) (dC : Nat → ClassId) (dI : Nat → Nat → Nat) (cI cJ cZ : ClassId) (a_pb : Nat) (a_fld : Nat) (a_plan : Nat) (a_row : Nat) (a_ctx : Nat) (a_cw : Nat) (a_rw : Nat) (a_cr : Nat) (a_rr : Nat) (a_scan : Nat) (sz : Nat) (pb_style : Int32) (pb_isWritten : Int32) (pb_isRead : Int32) (k : Nat) (hk : k ≠ 0) (hT : TX_X10_needWritten pb_isWritten = k) : vx_Met l yX10_needWritten wsX10_needWritten rmx_X10_needWritten (va_Pc [.ref a_pb] (fun U => U.heap.size = sz ∧ va_P (dC, dI) vwCl (wd_pb a_pb a_fld a_plan a_row a_ctx a_cw a_rw a_cr a_rr a_scan pb_style pb_isWritten pb_isRead) U.heap ∧ va_K (dC, dI) vwCl [(cI, .int), (cJ, .long), (cZ, .boolean)] U ∧ va_D (fun _ => True) (wd_pb a_pb a_fld a_plan a_row a_ctx a_cw a_rw a_cr a_rr a_scan pb_style pb_isWritten pb_isRead) ∧ Zt (va_A (wd_pb a_pb a_fld a_plan a_row a_ctx a_cw a_rw a_cr a_rr a_scan pb_style pb_isWritten pb_isRead) sz) U U.heap)) (va_Qv (fun _ : Unit => False) (fun _ _ => True) (va_A (wd_pb a_pb a_fld a_plan a_row a_ctx a_cw a_rw a_cr a_rr a_scan pb_style pb_isWritten pb_isRead) sz)) (vx_X (fun _ : Unit => True) (fun E _ t => E = exN k ∧ va_P (dC, dI) vwCl (wd_pb a_pb a_fld a_plan a_row a_ctx a_cw a_rw a_cr a_rr a_scan pb_style pb_isWritten pb_isRead) t.heap ∧ va_K (dC, dI) vwCl [(cI, .int), (cJ, .long), (cZ, .boolean)] t ∧ va_D (va_A (wd_pb a_pb a_fld a_plan a_row a_ctx a_cw a_rw a_cr a_rr a_scan pb_style pb_isWritten pb_isRead) sz) (wd_pb a_pb a_fld a_plan a_row a_ctx a_cw a_rw a_cr a_rr a_scan pb_style pb_isWritten pb_isRead)) (va_A (wd_pb a_pb a_fld a_plan a_row a_ctx a_cw a_rw a_cr a_rr a_scan pb_style pb_isWritten pb_isRead) sz)) 1 6 (va_A (wd_pb a_pb a_fld a_plan a_row a_ctx a_cw a_rw a_cr a_rr a_scan pb_style pb_isWritten pb_isRead) sz) := by
  refine vx_ofW (cc := cX10_needWritten) (maxL := 1) (ret := none) (by decide) rfl ?_
  intro p e s m args below meth c s₁ B hml hout hv
  obtain ⟨rfl, hsz, hP, hK, hD0, hZ⟩ := hv
  have hx := B.exec
  have hb := B.bytes
  have hr := B.returns
  have hts := atoms_spec (ws := wsX10_needWritten) B.pre
  have hown : s.vm.findClass RX10 = some m.cls := findClass_of_methodNamed B.named
  have hlocks := B.notSynchronized
  subst hsz
  have hD := hD0.self (sz := s.heap.size)
  generalize hAe : va_A (wd_pb a_pb a_fld a_plan a_row a_ctx a_cw a_rw a_cr a_rr a_scan pb_style pb_isWritten pb_isRead) s.heap.size = A at hD hZ ⊢
  have hA : ∀ q : Nat, s.heap.size ≤ q → A q := fun q h => by rw [← hAe]; exact Or.inr h
  have hS : va_S A s.heap s.heap [] := va_S.rf
  obtain ⟨H, hH⟩ : ∃ z, z = s.heap := ⟨_, rfl⟩
  have hP : va_P (dC, dI) vwCl (wd_pb a_pb a_fld a_plan a_row a_ctx a_cw a_rw a_cr a_rr a_scan pb_style pb_isWritten pb_isRead) H := by rw [hH]; exact hP
  have hS : va_S A s.heap H [] := by rw [hH]; exact va_S.rf
  generalize hQe : vx_MQ below (va_Qv (fun _ : Unit => False) (fun _ _ => True) A) (vx_X (fun _ : Unit => True) (fun E _ t => E = exN k ∧ va_P (dC, dI) vwCl (wd_pb a_pb a_fld a_plan a_row a_ctx a_cw a_rw a_cr a_rr a_scan pb_style pb_isWritten pb_isRead) t.heap ∧ va_K (dC, dI) vwCl [(cI, .int), (cJ, .long), (cZ, .boolean)] t ∧ va_D A (wd_pb a_pb a_fld a_plan a_row a_ctx a_cw a_rw a_cr a_rr a_scan pb_style pb_isWritten pb_isRead)) A) _ s 1 6 A = Q
  rw [← hH]
  clear hH
  have hl := lv_entry ([.ref a_pb]) (n := 1) (Nat.le_of_ble_eq_true rfl)
  rw [lg_entry_eq]
  generalize (lg_sl ([.ref a_pb]) ++ List.replicate (1 - (lg_sl ([.ref a_pb])).length) Slot.unset).toArray = ls at hl ⊢
  have hl : lv_has ls 1 [(0, .ref a_pb)] := hl
  have hg := hT
  unfold TX_X10_needWritten at hg
  refine lv_aload_n hx hb dX10_needWritten_0 rfl (lv_at hl 0 rfl) ?_
  refine va_get (D := (dC, dI)) (ci := 9) (v := .int pb_isWritten) (C := RX10) (T := TX10) (N := 12) hx hb hts iw_X10_needWritten_X10 hown hK hP 0 rfl rfl 10 (by decide) (hts (.fieldLink RX10 209 "PlaneBlocks" "isWritten" "Z") (by decide +kernel)) (fun _ h9 => h9) rfl dX10_needWritten_1 ?_
  refine lv_if_ne (tgt := 18) hx hb dX10_needWritten_4 (by decide) (fun c_1 => ?_) (fun c_1 => ?_)
  · rw [if_neg c_1] at hg
    exact absurd hg.symm hk
  · rw [if_pos c_1] at hg
    subst hg
    rw [← hQe]
    obtain ⟨sa, hsa⟩ := hZ.t291
    exact vx_throwSW (own := RX10) (cls := "java/lang/IllegalStateException") (text := "the block was not written") (names := ["java/lang/RuntimeException", "java/lang/Exception"]) (ik := 289) (is := 291) (ic := 293) hx hb hl0 hown (by decide) (by decide) (hts (.classLink RX10 289 "java/lang/IllegalStateException") (by decide +kernel)) (hts (.initialized "java/lang/IllegalStateException") (by decide +kernel)) hsa (vx_hat (fun w hw => hts w (List.mem_cons_of_mem _ (List.mem_append_right _ hw))) hb_IS hZ.decl) hg_IS hZ.1 hZ.2.1 hS (hl.1.trans hml.symm) dX10_needWritten_7 dX10_needWritten_10 dX10_needWritten_11 dX10_needWritten_14 dX10_needWritten_17 (fun x h9 => (hout x h9).elim) (Nat.le_of_ble_eq_true rfl) (Nat.le_of_ble_eq_true rfl) (Nat.le_of_ble_eq_true rfl) (Nat.le_of_ble_eq_true rfl) hlocks (fun t hW hz hq => ⟨(), trivial, ⟨rfl, hP.kept (fun k9 q9 hk9 => hq q9.1 (vx_lt hP hk9)), va_K.moved hW hK, hD⟩, ⟨Nat.le_trans hS.1 hz, fun q9 h1 h2 => (hq q9 (Nat.lt_of_lt_of_le h1 hS.1)).trans (hS.2.1 q9 h1 h2)⟩⟩) hS.2.2 (Nat.le_of_ble_eq_true rfl) (Nat.le_of_ble_eq_true rfl)
theorem tp_X10_needWritten {w : Int32} (h : TX_X10_needWritten w = 0) : P_X10_needWritten w := fun z => by unfold TX_X10_needWritten at h; rw [if_pos z] at h; cases h
abbrev rmx_X10_needPass : Room := { frames := 7, cells := 1, slots := 6, locals := 110 }
def TX_X10_needPass (p1 : Int32) (plan_passes : Int32) (pb_isWritten : Int32) : Nat := if TX_X10_needWritten pb_isWritten = 0 then (if p1 < (0 : Int32) then 2 else (if p1 < plan_passes then 0 else 2)) else TX_X10_needWritten pb_isWritten
theorem cx_X10_needPass (l : Launch) (hl0 : l.stackTraces = false) (dC : Nat → ClassId) (dI : Nat → Nat → Nat) (cI cJ cZ : ClassId) (a_plan : Nat) (a_reaches : Nat) (a_gains : Nat) (a_pb : Nat) (a_fld : Nat) (a_row : Nat) (a_ctx : Nat) (a_cw : Nat) (a_rw : Nat) (a_cr : Nat) (a_rr : Nat) (a_scan : Nat) (sz : Nat) (plan_planes : Int32) (plan_passes : Int32) (plan_segments : Int32) (plan_style : Int32) (plan_firstOfSegment : Int32) (pb_style : Int32) (pb_isWritten : Int32) (pb_isRead : Int32) (p1 : Int32) (k : Nat) (hk : k ≠ 0) (hT : TX_X10_needPass p1 plan_passes pb_isWritten = k) : vx_Met l yX10_needPass wsX10_needPass rmx_X10_needPass (va_Pc [.ref a_pb, .int p1] (fun U => U.heap.size = sz ∧ va_P (dC, dI) vwCl (wd_plan_pb a_plan a_reaches a_gains a_pb a_fld a_row a_ctx a_cw a_rw a_cr a_rr a_scan plan_planes plan_passes plan_segments plan_style plan_firstOfSegment pb_style pb_isWritten pb_isRead) U.heap ∧ va_K (dC, dI) vwCl [(cI, .int), (cJ, .long), (cZ, .boolean)] U ∧ va_D (fun _ => True) (wd_plan_pb a_plan a_reaches a_gains a_pb a_fld a_row a_ctx a_cw a_rw a_cr a_rr a_scan plan_planes plan_passes plan_segments plan_style plan_firstOfSegment pb_style pb_isWritten pb_isRead) ∧ Zt (va_A (wd_plan_pb a_plan a_reaches a_gains a_pb a_fld a_row a_ctx a_cw a_rw a_cr a_rr a_scan plan_planes plan_passes plan_segments plan_style plan_firstOfSegment pb_style pb_isWritten pb_isRead) sz) U U.heap)) (va_Qv (fun _ : Unit => False) (fun _ _ => True) (va_A (wd_plan_pb a_plan a_reaches a_gains a_pb a_fld a_row a_ctx a_cw a_rw a_cr a_rr a_scan plan_planes plan_passes plan_segments plan_style plan_firstOfSegment pb_style pb_isWritten pb_isRead) sz)) (vx_X (fun _ : Unit => True) (fun E _ t => E = exN k ∧ va_P (dC, dI) vwCl (wd_plan_pb a_plan a_reaches a_gains a_pb a_fld a_row a_ctx a_cw a_rw a_cr a_rr a_scan plan_planes plan_passes plan_segments plan_style plan_firstOfSegment pb_style pb_isWritten pb_isRead) t.heap ∧ va_K (dC, dI) vwCl [(cI, .int), (cJ, .long), (cZ, .boolean)] t ∧ va_D (va_A (wd_plan_pb a_plan a_reaches a_gains a_pb a_fld a_row a_ctx a_cw a_rw a_cr a_rr a_scan plan_planes plan_passes plan_segments plan_style plan_firstOfSegment pb_style pb_isWritten pb_isRead) sz) (wd_plan_pb a_plan a_reaches a_gains a_pb a_fld a_row a_ctx a_cw a_rw a_cr a_rr a_scan plan_planes plan_passes plan_segments plan_style plan_firstOfSegment pb_style pb_isWritten pb_isRead)) (va_A (wd_plan_pb a_plan a_reaches a_gains a_pb a_fld a_row a_ctx a_cw a_rw a_cr a_rr a_scan plan_planes plan_passes plan_segments plan_style plan_firstOfSegment pb_style pb_isWritten pb_isRead) sz)) 1 6 (va_A (wd_plan_pb a_plan a_reaches a_gains a_pb a_fld a_row a_ctx a_cw a_rw a_cr a_rr a_scan plan_planes plan_passes plan_segments plan_style plan_firstOfSegment pb_style pb_isWritten pb_isRead) sz) := by
  refine vx_ofW (cc := cX10_needPass) (maxL := 2) (ret := none) (by decide) rfl ?_
  intro p e s m args below meth c s₁ B hml hout hv
  obtain ⟨rfl, hsz, hP, hK, hD0, hZ⟩ := hv
  have hx := B.exec
  have hb := B.bytes
  have hr := B.returns
  have hts := atoms_spec (ws := wsX10_needPass) B.pre
  have hown : s.vm.findClass RX10 = some m.cls := findClass_of_methodNamed B.named
  have hlocks := B.notSynchronized
  subst hsz
  have hD := hD0.self (sz := s.heap.size)
  generalize hAe : va_A (wd_plan_pb a_plan a_reaches a_gains a_pb a_fld a_row a_ctx a_cw a_rw a_cr a_rr a_scan plan_planes plan_passes plan_segments plan_style plan_firstOfSegment pb_style pb_isWritten pb_isRead) s.heap.size = A at hD hZ ⊢
  have hA : ∀ q : Nat, s.heap.size ≤ q → A q := fun q h => by rw [← hAe]; exact Or.inr h
  have hS : va_S A s.heap s.heap [] := va_S.rf
  obtain ⟨H, hH⟩ : ∃ z, z = s.heap := ⟨_, rfl⟩
  have hP : va_P (dC, dI) vwCl (wd_plan_pb a_plan a_reaches a_gains a_pb a_fld a_row a_ctx a_cw a_rw a_cr a_rr a_scan plan_planes plan_passes plan_segments plan_style plan_firstOfSegment pb_style pb_isWritten pb_isRead) H := by rw [hH]; exact hP
  have hS : va_S A s.heap H [] := by rw [hH]; exact va_S.rf
  generalize hQe : vx_MQ below (va_Qv (fun _ : Unit => False) (fun _ _ => True) A) (vx_X (fun _ : Unit => True) (fun E _ t => E = exN k ∧ va_P (dC, dI) vwCl (wd_plan_pb a_plan a_reaches a_gains a_pb a_fld a_row a_ctx a_cw a_rw a_cr a_rr a_scan plan_planes plan_passes plan_segments plan_style plan_firstOfSegment pb_style pb_isWritten pb_isRead) t.heap ∧ va_K (dC, dI) vwCl [(cI, .int), (cJ, .long), (cZ, .boolean)] t ∧ va_D A (wd_plan_pb a_plan a_reaches a_gains a_pb a_fld a_row a_ctx a_cw a_rw a_cr a_rr a_scan plan_planes plan_passes plan_segments plan_style plan_firstOfSegment pb_style pb_isWritten pb_isRead)) A) _ s 1 6 A = Q
  rw [← hH]
  clear hH
  have hl := lv_entry ([.ref a_pb, .int p1]) (n := 2) (Nat.le_of_ble_eq_true rfl)
  rw [lg_entry_eq]
  generalize (lg_sl ([.ref a_pb, .int p1]) ++ List.replicate (2 - (lg_sl ([.ref a_pb, .int p1])).length) Slot.unset).toArray = ls at hl ⊢
  have hl : lv_has ls 2 [(0, .ref a_pb), (1, .int p1)] := hl
  have hg := hT
  unfold TX_X10_needPass at hg
  refine lv_aload_n hx hb dX10_needPass_0 rfl (lv_at hl 0 rfl) ?_
  by_cases cq : TX_X10_needWritten pb_isWritten = 0
  · rw [if_pos cq] at hg
    have hpre := tp_X10_needWritten cq
    have hPc := hP.sub (ws' := (wd_pb a_pb a_fld a_plan a_row a_ctx a_cw a_rw a_cr a_rr a_scan pb_style pb_isWritten pb_isRead)) [1] rfl
    have hDc := hD.sub (ws' := (wd_pb a_pb a_fld a_plan a_row a_ctx a_cw a_rw a_cr a_rr a_scan pb_style pb_isWritten pb_isRead)) [1] (by decide) rfl
    have hFc := va_free (wc := (wd_pb a_pb a_fld a_plan a_row a_ctx a_cw a_rw a_cr a_rr a_scan pb_style pb_isWritten pb_isRead)) hD hS hA [1] rfl
    refine va_callv (va_runV (As := []) (rest := []) ⟨hx, hb, hml, hown, hts⟩ (c_X10_needWritten l dC dI cI cJ cZ a_pb a_fld a_plan a_row a_ctx a_cw a_rw a_cr a_rr a_scan H.size pb_style pb_isWritten pb_isRead hpre) (cwV 0 hts gX10_needPass_X10_needWritten rfl rfl rfl (by decide +kernel) ⟨Nat.le_of_ble_eq_true rfl, Nat.le_of_ble_eq_true rfl⟩) ⟨fun a U g mk q => by obtain ⟨q0, q1, qP, qK, qD⟩ := q; exact ⟨q0, q1, qP, va_K.moved (u := U) (U := U.calling g mk a) (Vm.Alike.refl U.vm) qK, qD⟩, va_recv hK hPc (ci := 9) (q0 := 0) rfl rfl, fun U hU hW => ⟨rfl, by rw [hU], by rw [hU]; exact hPc, va_K.moved hW.alike hK, hDc.weaken (fun _ _ _ _ => trivial)⟩⟩ rfl rfl hl.1 rfl (lv_room (Nat.le_of_ble_eq_true rfl)) dX10_needPass_1 ⟨Nat.le_of_ble_eq_true rfl, Nat.le_of_ble_eq_true rfl⟩) hS (fun q _ h => hFc q h) hFc (fun u t H1 locs ht hvm hw hB hz1 hk1 hS => ?_)
    obtain ⟨hP1, hK1, hD1⟩ := hB
    rw [ht] at hP1
    obtain ⟨hP, hD⟩ := va_join (wr := [(a_plan, .inr (5, [.ref a_reaches, .ref a_gains, .int plan_planes, .int plan_passes, .int plan_segments, .int plan_style, .int plan_firstOfSegment]))]) (w1 := (wd_pb a_pb a_fld a_plan a_row a_ctx a_cw a_rw a_cr a_rr a_scan pb_style pb_isWritten pb_isRead)) hP hD [1] [0] rfl rfl (by decide) (by decide) hk1 hFc hP1 hD1
    have hP : va_P (dC, dI) vwCl (wd_plan_pb a_plan a_reaches a_gains a_pb a_fld a_row a_ctx a_cw a_rw a_cr a_rr a_scan plan_planes plan_passes plan_segments plan_style plan_firstOfSegment pb_style pb_isWritten pb_isRead) H1 := hP.sub [0, 1] rfl
    have hD : va_D A (wd_plan_pb a_plan a_reaches a_gains a_pb a_fld a_row a_ctx a_cw a_rw a_cr a_rr a_scan plan_planes plan_passes plan_segments plan_style plan_firstOfSegment pb_style pb_isWritten pb_isRead) := hD.sub [0, 1] (by decide) rfl
    generalize H1 = H at hP hS ⊢
    refine lv_iload_n hx hb dX10_needPass_4 rfl (lv_at hl 1 rfl) ?_
    refine lv_if_lt (tgt := 19) hx hb dX10_needPass_5 (by decide) (fun c_2 => ?_) (fun c_2 => ?_)
    · rw [if_pos c_2] at hg
      subst hg
      rw [← hQe]
      obtain ⟨sa, hsa⟩ := hZ.t296
      exact vx_throwSW (own := RX10) (cls := "java/lang/IndexOutOfBoundsException") (text := "there is no such pass") (names := ["java/lang/RuntimeException", "java/lang/Exception"]) (ik := 294) (is := 296) (ic := 298) hx hb hl0 hown (by decide) (by decide) (hts (.classLink RX10 294 "java/lang/IndexOutOfBoundsException") (by decide +kernel)) (hts (.initialized "java/lang/IndexOutOfBoundsException") (by decide +kernel)) hsa (vx_hat (fun w hw => hts w (List.mem_cons_of_mem _ (List.mem_append_left _ (List.mem_append_right _ hw)))) hb_IO hZ.decl) hg_IO hZ.1 hZ.2.1 hS (hl.1.trans hml.symm) dX10_needPass_19 dX10_needPass_22 dX10_needPass_23 dX10_needPass_26 dX10_needPass_29 (fun x h9 => (hout x h9).elim) (Nat.le_of_ble_eq_true rfl) (Nat.le_of_ble_eq_true rfl) (Nat.le_of_ble_eq_true rfl) (Nat.le_of_ble_eq_true rfl) hlocks (fun t hW hz hq => ⟨(), trivial, ⟨rfl, hP.kept (fun k9 q9 hk9 => hq q9.1 (vx_lt hP hk9)), va_K.moved hW hK, hD⟩, ⟨Nat.le_trans hS.1 hz, fun q9 h1 h2 => (hq q9 (Nat.lt_of_lt_of_le h1 hS.1)).trans (hS.2.1 q9 h1 h2)⟩⟩) hS.2.2 (Nat.le_of_ble_eq_true rfl) (Nat.le_of_ble_eq_true rfl)
    · rw [if_neg c_2] at hg
      refine lv_iload_n hx hb dX10_needPass_8 rfl (lv_at hl 1 rfl) ?_
      refine lv_aload_n hx hb dX10_needPass_9 rfl (lv_at hl 0 rfl) ?_
      refine va_get (D := (dC, dI)) (ci := 9) (v := .ref a_plan) (C := RX10) (T := TX10) (N := 12) hx hb hts iw_X10_needPass_X10 hown hK hP 1 rfl rfl 1 (by decide) (hts (.fieldLink RX10 19 "PlaneBlocks" "plan" "LPlaneBlocks$Plan;") (by decide +kernel)) (fun _ h9 => h9) rfl dX10_needPass_10 ?_
      refine va_get (D := (dC, dI)) (ci := 5) (v := .int plan_passes) (C := RX6) (T := TX6) (N := 7) hx hb hts iw_X10_needPass_X6 hown hK hP 0 rfl rfl 3 (by decide) (hts (.fieldLink RX10 147 "PlaneBlocks$Plan" "passes" "I") (by decide +kernel)) (fun _ h9 => h9) rfl dX10_needPass_13 ?_
      refine lv_icmp_lt (tgt := 30) hx hb dX10_needPass_16 (by decide) (fun c_3 => ?_) (fun c_3 => ?_)
      · rw [if_pos c_3] at hg
        exact absurd hg.symm hk
      · rw [if_neg c_3] at hg
        subst hg
        rw [← hQe]
        obtain ⟨sa, hsa⟩ := hZ.t296
        exact vx_throwSW (own := RX10) (cls := "java/lang/IndexOutOfBoundsException") (text := "there is no such pass") (names := ["java/lang/RuntimeException", "java/lang/Exception"]) (ik := 294) (is := 296) (ic := 298) hx hb hl0 hown (by decide) (by decide) (hts (.classLink RX10 294 "java/lang/IndexOutOfBoundsException") (by decide +kernel)) (hts (.initialized "java/lang/IndexOutOfBoundsException") (by decide +kernel)) hsa (vx_hat (fun w hw => hts w (List.mem_cons_of_mem _ (List.mem_append_left _ (List.mem_append_right _ hw)))) hb_IO hZ.decl) hg_IO hZ.1 hZ.2.1 hS (hl.1.trans hml.symm) dX10_needPass_19 dX10_needPass_22 dX10_needPass_23 dX10_needPass_26 dX10_needPass_29 (fun x h9 => (hout x h9).elim) (Nat.le_of_ble_eq_true rfl) (Nat.le_of_ble_eq_true rfl) (Nat.le_of_ble_eq_true rfl) (Nat.le_of_ble_eq_true rfl) hlocks (fun t hW hz hq => ⟨(), trivial, ⟨rfl, hP.kept (fun k9 q9 hk9 => hq q9.1 (vx_lt hP hk9)), va_K.moved hW hK, hD⟩, ⟨Nat.le_trans hS.1 hz, fun q9 h1 h2 => (hq q9 (Nat.lt_of_lt_of_le h1 hS.1)).trans (hS.2.1 q9 h1 h2)⟩⟩) hS.2.2 (Nat.le_of_ble_eq_true rfl) (Nat.le_of_ble_eq_true rfl)
  · rw [if_neg cq] at hg
    have hPc := hP.sub (ws' := (wd_pb a_pb a_fld a_plan a_row a_ctx a_cw a_rw a_cr a_rr a_scan pb_style pb_isWritten pb_isRead)) [1] rfl
    have hDc := hD.sub (ws' := (wd_pb a_pb a_fld a_plan a_row a_ctx a_cw a_rw a_cr a_rr a_scan pb_style pb_isWritten pb_isRead)) [1] (by decide) rfl
    have hFc := va_free (wc := (wd_pb a_pb a_fld a_plan a_row a_ctx a_cw a_rw a_cr a_rr a_scan pb_style pb_isWritten pb_isRead)) hD hS hA [1] rfl
    refine vx_callv (vx_runV (As := []) (rest := []) ⟨hx, hb, hml, hown, hts⟩ (cx_X10_needWritten l hl0 dC dI cI cJ cZ a_pb a_fld a_plan a_row a_ctx a_cw a_rw a_cr a_rr a_scan H.size pb_style pb_isWritten pb_isRead k hk hg) (cwV 0 hts gX10_needPass_X10_needWritten rfl rfl rfl (by decide +kernel) ⟨Nat.le_of_ble_eq_true rfl, Nat.le_of_ble_eq_true rfl⟩) ⟨fun a U g mk q => by obtain ⟨q0, q1, qP, qK, qD, qZ⟩ := q; exact ⟨q0, q1, qP, va_K.moved (u := U) (U := U.calling g mk a) (Vm.Alike.refl U.vm) qK, qD, Zt.same (u := U) (U := U.calling g mk a) rfl qZ⟩, va_recv hK hPc (ci := 9) (q0 := 0) rfl rfl, fun U hU hW => ⟨rfl, by rw [hU], by rw [hU]; exact hPc, va_K.moved hW.alike hK, hDc.weaken (fun _ _ _ _ => trivial), by rw [hU]; exact ((hZ.kept hS.2.1).narrow hFc).warm hW⟩⟩ rfl rfl hl.1 rfl (lv_room (Nat.le_of_ble_eq_true rfl)) dX10_needPass_1 ⟨Nat.le_of_ble_eq_true rfl, Nat.le_of_ble_eq_true rfl⟩) hS (fun q _ h => hFc q h) hFc (fun q _ h => hFc q h) (fun E ce q9 u t H1 locs ht hvm hp hB hz1 hk1 hS hce hcv hcl => ?_) (fun u t H1 locs ht hvm hp hB hz1 hk1 hS => hp.elim)
    obtain ⟨hE, hP1, hK1, hD1⟩ := hB
    rw [ht] at hP1
    obtain ⟨hP, hD⟩ := va_join (wr := [(a_plan, .inr (5, [.ref a_reaches, .ref a_gains, .int plan_planes, .int plan_passes, .int plan_segments, .int plan_style, .int plan_firstOfSegment]))]) (w1 := (wd_pb a_pb a_fld a_plan a_row a_ctx a_cw a_rw a_cr a_rr a_scan pb_style pb_isWritten pb_isRead)) hP hD [1] [0] rfl rfl (by decide) (by decide) hk1 hFc hP1 hD1
    have hP : va_P (dC, dI) vwCl (wd_plan_pb a_plan a_reaches a_gains a_pb a_fld a_row a_ctx a_cw a_rw a_cr a_rr a_scan plan_planes plan_passes plan_segments plan_style plan_firstOfSegment pb_style pb_isWritten pb_isRead) H1 := hP.sub [0, 1] rfl
    have hD : va_D A (wd_plan_pb a_plan a_reaches a_gains a_pb a_fld a_row a_ctx a_cw a_rw a_cr a_rr a_scan plan_planes plan_passes plan_segments plan_style plan_firstOfSegment pb_style pb_isWritten pb_isRead) := hD.sub [0, 1] (by decide) rfl
    rw [← hQe]
    exact vx_out (E := E) (fun x h9 => (hout x h9).elim) hlocks hce hcv hcl (fun t ht hW => ⟨(), trivial, ⟨hE, by rw [ht]; exact hP, va_K.moved hW hK, hD⟩, hS.F ht⟩) hS.2.2 (Nat.le_of_ble_eq_true rfl) (Nat.le_of_ble_eq_true rfl)
theorem tp_X10_needPass {p n w : Int32} (h : TX_X10_needPass p n w = 0) : P_X10_needPass p n w := by
  unfold TX_X10_needPass at h
  by_cases c : TX_X10_needWritten w = 0
  · rw [if_pos c] at h
    refine ⟨tp_X10_needWritten c, fun z => ?_, fun z z2 => ?_⟩
    · rw [if_pos z] at h; cases h
    · rw [if_neg z, if_neg z2] at h; cases h
  · rw [if_neg c] at h; exact absurd h c
abbrev rmx_X10_needByte : Room := { frames := 7, cells := 1, slots := 6, locals := 110 }
def TX_X10_needByte (p1 : Int32) (row_count : Int32) (pb_isWritten : Int32) : Nat := if TX_X10_needWritten pb_isWritten = 0 then (if p1 < (0 : Int32) then 2 else (if p1 < row_count then 0 else 2)) else TX_X10_needWritten pb_isWritten
theorem cx_X10_needByte (l : Launch) (hl0 : l.stackTraces = false) (dC : Nat → ClassId) (dI : Nat → Nat → Nat) (cI cJ cZ : ClassId) (a_row : Nat) (a_bytes : Nat) (a_pb : Nat) (a_fld : Nat) (a_plan : Nat) (a_ctx : Nat) (a_cw : Nat) (a_rw : Nat) (a_cr : Nat) (a_rr : Nat) (a_scan : Nat) (sz : Nat) (row_count : Int32) (row_start : Int32) (pb_style : Int32) (pb_isWritten : Int32) (pb_isRead : Int32) (p1 : Int32) (k : Nat) (hk : k ≠ 0) (hT : TX_X10_needByte p1 row_count pb_isWritten = k) : vx_Met l yX10_needByte wsX10_needByte rmx_X10_needByte (va_Pc [.ref a_pb, .int p1] (fun U => U.heap.size = sz ∧ va_P (dC, dI) vwCl (wd_row_pb a_row a_bytes a_pb a_fld a_plan a_ctx a_cw a_rw a_cr a_rr a_scan row_count row_start pb_style pb_isWritten pb_isRead) U.heap ∧ va_K (dC, dI) vwCl [(cI, .int), (cJ, .long), (cZ, .boolean)] U ∧ va_D (fun _ => True) (wd_row_pb a_row a_bytes a_pb a_fld a_plan a_ctx a_cw a_rw a_cr a_rr a_scan row_count row_start pb_style pb_isWritten pb_isRead) ∧ Zt (va_A (wd_row_pb a_row a_bytes a_pb a_fld a_plan a_ctx a_cw a_rw a_cr a_rr a_scan row_count row_start pb_style pb_isWritten pb_isRead) sz) U U.heap)) (va_Qv (fun _ : Unit => False) (fun _ _ => True) (va_A (wd_row_pb a_row a_bytes a_pb a_fld a_plan a_ctx a_cw a_rw a_cr a_rr a_scan row_count row_start pb_style pb_isWritten pb_isRead) sz)) (vx_X (fun _ : Unit => True) (fun E _ t => E = exN k ∧ va_P (dC, dI) vwCl (wd_row_pb a_row a_bytes a_pb a_fld a_plan a_ctx a_cw a_rw a_cr a_rr a_scan row_count row_start pb_style pb_isWritten pb_isRead) t.heap ∧ va_K (dC, dI) vwCl [(cI, .int), (cJ, .long), (cZ, .boolean)] t ∧ va_D (va_A (wd_row_pb a_row a_bytes a_pb a_fld a_plan a_ctx a_cw a_rw a_cr a_rr a_scan row_count row_start pb_style pb_isWritten pb_isRead) sz) (wd_row_pb a_row a_bytes a_pb a_fld a_plan a_ctx a_cw a_rw a_cr a_rr a_scan row_count row_start pb_style pb_isWritten pb_isRead)) (va_A (wd_row_pb a_row a_bytes a_pb a_fld a_plan a_ctx a_cw a_rw a_cr a_rr a_scan row_count row_start pb_style pb_isWritten pb_isRead) sz)) 1 6 (va_A (wd_row_pb a_row a_bytes a_pb a_fld a_plan a_ctx a_cw a_rw a_cr a_rr a_scan row_count row_start pb_style pb_isWritten pb_isRead) sz) := by
  refine vx_ofW (cc := cX10_needByte) (maxL := 2) (ret := none) (by decide) rfl ?_
  intro p e s m args below meth c s₁ B hml hout hv
  obtain ⟨rfl, hsz, hP, hK, hD0, hZ⟩ := hv
  have hx := B.exec
  have hb := B.bytes
  have hr := B.returns
  have hts := atoms_spec (ws := wsX10_needByte) B.pre
  have hown : s.vm.findClass RX10 = some m.cls := findClass_of_methodNamed B.named
  have hlocks := B.notSynchronized
  subst hsz
  have hD := hD0.self (sz := s.heap.size)
  generalize hAe : va_A (wd_row_pb a_row a_bytes a_pb a_fld a_plan a_ctx a_cw a_rw a_cr a_rr a_scan row_count row_start pb_style pb_isWritten pb_isRead) s.heap.size = A at hD hZ ⊢
  have hA : ∀ q : Nat, s.heap.size ≤ q → A q := fun q h => by rw [← hAe]; exact Or.inr h
  have hS : va_S A s.heap s.heap [] := va_S.rf
  obtain ⟨H, hH⟩ : ∃ z, z = s.heap := ⟨_, rfl⟩
  have hP : va_P (dC, dI) vwCl (wd_row_pb a_row a_bytes a_pb a_fld a_plan a_ctx a_cw a_rw a_cr a_rr a_scan row_count row_start pb_style pb_isWritten pb_isRead) H := by rw [hH]; exact hP
  have hS : va_S A s.heap H [] := by rw [hH]; exact va_S.rf
  generalize hQe : vx_MQ below (va_Qv (fun _ : Unit => False) (fun _ _ => True) A) (vx_X (fun _ : Unit => True) (fun E _ t => E = exN k ∧ va_P (dC, dI) vwCl (wd_row_pb a_row a_bytes a_pb a_fld a_plan a_ctx a_cw a_rw a_cr a_rr a_scan row_count row_start pb_style pb_isWritten pb_isRead) t.heap ∧ va_K (dC, dI) vwCl [(cI, .int), (cJ, .long), (cZ, .boolean)] t ∧ va_D A (wd_row_pb a_row a_bytes a_pb a_fld a_plan a_ctx a_cw a_rw a_cr a_rr a_scan row_count row_start pb_style pb_isWritten pb_isRead)) A) _ s 1 6 A = Q
  rw [← hH]
  clear hH
  have hl := lv_entry ([.ref a_pb, .int p1]) (n := 2) (Nat.le_of_ble_eq_true rfl)
  rw [lg_entry_eq]
  generalize (lg_sl ([.ref a_pb, .int p1]) ++ List.replicate (2 - (lg_sl ([.ref a_pb, .int p1])).length) Slot.unset).toArray = ls at hl ⊢
  have hl : lv_has ls 2 [(0, .ref a_pb), (1, .int p1)] := hl
  have hg := hT
  unfold TX_X10_needByte at hg
  refine lv_aload_n hx hb dX10_needByte_0 rfl (lv_at hl 0 rfl) ?_
  by_cases cq : TX_X10_needWritten pb_isWritten = 0
  · rw [if_pos cq] at hg
    have hpre := tp_X10_needWritten cq
    have hPc := hP.sub (ws' := (wd_pb a_pb a_fld a_plan a_row a_ctx a_cw a_rw a_cr a_rr a_scan pb_style pb_isWritten pb_isRead)) [1] rfl
    have hDc := hD.sub (ws' := (wd_pb a_pb a_fld a_plan a_row a_ctx a_cw a_rw a_cr a_rr a_scan pb_style pb_isWritten pb_isRead)) [1] (by decide) rfl
    have hFc := va_free (wc := (wd_pb a_pb a_fld a_plan a_row a_ctx a_cw a_rw a_cr a_rr a_scan pb_style pb_isWritten pb_isRead)) hD hS hA [1] rfl
    refine va_callv (va_runV (As := []) (rest := []) ⟨hx, hb, hml, hown, hts⟩ (c_X10_needWritten l dC dI cI cJ cZ a_pb a_fld a_plan a_row a_ctx a_cw a_rw a_cr a_rr a_scan H.size pb_style pb_isWritten pb_isRead hpre) (cwV 0 hts gX10_needByte_X10_needWritten rfl rfl rfl (by decide +kernel) ⟨Nat.le_of_ble_eq_true rfl, Nat.le_of_ble_eq_true rfl⟩) ⟨fun a U g mk q => by obtain ⟨q0, q1, qP, qK, qD⟩ := q; exact ⟨q0, q1, qP, va_K.moved (u := U) (U := U.calling g mk a) (Vm.Alike.refl U.vm) qK, qD⟩, va_recv hK hPc (ci := 9) (q0 := 0) rfl rfl, fun U hU hW => ⟨rfl, by rw [hU], by rw [hU]; exact hPc, va_K.moved hW.alike hK, hDc.weaken (fun _ _ _ _ => trivial)⟩⟩ rfl rfl hl.1 rfl (lv_room (Nat.le_of_ble_eq_true rfl)) dX10_needByte_1 ⟨Nat.le_of_ble_eq_true rfl, Nat.le_of_ble_eq_true rfl⟩) hS (fun q _ h => hFc q h) hFc (fun u t H1 locs ht hvm hw hB hz1 hk1 hS => ?_)
    obtain ⟨hP1, hK1, hD1⟩ := hB
    rw [ht] at hP1
    obtain ⟨hP, hD⟩ := va_join (wr := [(a_row, .inr (0, [.ref a_bytes, .int row_count, .int row_start]))]) (w1 := (wd_pb a_pb a_fld a_plan a_row a_ctx a_cw a_rw a_cr a_rr a_scan pb_style pb_isWritten pb_isRead)) hP hD [1] [0] rfl rfl (by decide) (by decide) hk1 hFc hP1 hD1
    have hP : va_P (dC, dI) vwCl (wd_row_pb a_row a_bytes a_pb a_fld a_plan a_ctx a_cw a_rw a_cr a_rr a_scan row_count row_start pb_style pb_isWritten pb_isRead) H1 := hP.sub [0, 1] rfl
    have hD : va_D A (wd_row_pb a_row a_bytes a_pb a_fld a_plan a_ctx a_cw a_rw a_cr a_rr a_scan row_count row_start pb_style pb_isWritten pb_isRead) := hD.sub [0, 1] (by decide) rfl
    generalize H1 = H at hP hS ⊢
    refine lv_iload_n hx hb dX10_needByte_4 rfl (lv_at hl 1 rfl) ?_
    refine lv_if_lt (tgt := 19) hx hb dX10_needByte_5 (by decide) (fun c_2 => ?_) (fun c_2 => ?_)
    · rw [if_pos c_2] at hg
      subst hg
      rw [← hQe]
      obtain ⟨sa, hsa⟩ := hZ.t299
      exact vx_throwSW (own := RX10) (cls := "java/lang/IndexOutOfBoundsException") (text := "there is no such byte") (names := ["java/lang/RuntimeException", "java/lang/Exception"]) (ik := 294) (is := 299) (ic := 298) hx hb hl0 hown (by decide) (by decide) (hts (.classLink RX10 294 "java/lang/IndexOutOfBoundsException") (by decide +kernel)) (hts (.initialized "java/lang/IndexOutOfBoundsException") (by decide +kernel)) hsa (vx_hat (fun w hw => hts w (List.mem_cons_of_mem _ (List.mem_append_left _ (List.mem_append_right _ hw)))) hb_IO hZ.decl) hg_IO hZ.1 hZ.2.1 hS (hl.1.trans hml.symm) dX10_needByte_19 dX10_needByte_22 dX10_needByte_23 dX10_needByte_26 dX10_needByte_29 (fun x h9 => (hout x h9).elim) (Nat.le_of_ble_eq_true rfl) (Nat.le_of_ble_eq_true rfl) (Nat.le_of_ble_eq_true rfl) (Nat.le_of_ble_eq_true rfl) hlocks (fun t hW hz hq => ⟨(), trivial, ⟨rfl, hP.kept (fun k9 q9 hk9 => hq q9.1 (vx_lt hP hk9)), va_K.moved hW hK, hD⟩, ⟨Nat.le_trans hS.1 hz, fun q9 h1 h2 => (hq q9 (Nat.lt_of_lt_of_le h1 hS.1)).trans (hS.2.1 q9 h1 h2)⟩⟩) hS.2.2 (Nat.le_of_ble_eq_true rfl) (Nat.le_of_ble_eq_true rfl)
    · rw [if_neg c_2] at hg
      refine lv_iload_n hx hb dX10_needByte_8 rfl (lv_at hl 1 rfl) ?_
      refine lv_aload_n hx hb dX10_needByte_9 rfl (lv_at hl 0 rfl) ?_
      refine va_get (D := (dC, dI)) (ci := 9) (v := .ref a_row) (C := RX10) (T := TX10) (N := 12) hx hb hts iw_X10_needByte_X10 hown hK hP 1 rfl rfl 2 (by decide) (hts (.fieldLink RX10 26 "PlaneBlocks" "row" "LPlaneBlocks$ByteRow;") (by decide +kernel)) (fun _ h9 => h9) rfl dX10_needByte_10 ?_
      refine va_get (D := (dC, dI)) (ci := 0) (v := .int row_count) (C := RX1) (T := TX1) (N := 3) hx hb hts iw_X10_needByte_X1 hown hK hP 0 rfl rfl 1 (by decide) (hts (.fieldLink RX10 200 "PlaneBlocks$ByteRow" "count" "I") (by decide +kernel)) (fun _ h9 => h9) rfl dX10_needByte_13 ?_
      refine lv_icmp_lt (tgt := 30) hx hb dX10_needByte_16 (by decide) (fun c_3 => ?_) (fun c_3 => ?_)
      · rw [if_pos c_3] at hg
        exact absurd hg.symm hk
      · rw [if_neg c_3] at hg
        subst hg
        rw [← hQe]
        obtain ⟨sa, hsa⟩ := hZ.t299
        exact vx_throwSW (own := RX10) (cls := "java/lang/IndexOutOfBoundsException") (text := "there is no such byte") (names := ["java/lang/RuntimeException", "java/lang/Exception"]) (ik := 294) (is := 299) (ic := 298) hx hb hl0 hown (by decide) (by decide) (hts (.classLink RX10 294 "java/lang/IndexOutOfBoundsException") (by decide +kernel)) (hts (.initialized "java/lang/IndexOutOfBoundsException") (by decide +kernel)) hsa (vx_hat (fun w hw => hts w (List.mem_cons_of_mem _ (List.mem_append_left _ (List.mem_append_right _ hw)))) hb_IO hZ.decl) hg_IO hZ.1 hZ.2.1 hS (hl.1.trans hml.symm) dX10_needByte_19 dX10_needByte_22 dX10_needByte_23 dX10_needByte_26 dX10_needByte_29 (fun x h9 => (hout x h9).elim) (Nat.le_of_ble_eq_true rfl) (Nat.le_of_ble_eq_true rfl) (Nat.le_of_ble_eq_true rfl) (Nat.le_of_ble_eq_true rfl) hlocks (fun t hW hz hq => ⟨(), trivial, ⟨rfl, hP.kept (fun k9 q9 hk9 => hq q9.1 (vx_lt hP hk9)), va_K.moved hW hK, hD⟩, ⟨Nat.le_trans hS.1 hz, fun q9 h1 h2 => (hq q9 (Nat.lt_of_lt_of_le h1 hS.1)).trans (hS.2.1 q9 h1 h2)⟩⟩) hS.2.2 (Nat.le_of_ble_eq_true rfl) (Nat.le_of_ble_eq_true rfl)
  · rw [if_neg cq] at hg
    have hPc := hP.sub (ws' := (wd_pb a_pb a_fld a_plan a_row a_ctx a_cw a_rw a_cr a_rr a_scan pb_style pb_isWritten pb_isRead)) [1] rfl
    have hDc := hD.sub (ws' := (wd_pb a_pb a_fld a_plan a_row a_ctx a_cw a_rw a_cr a_rr a_scan pb_style pb_isWritten pb_isRead)) [1] (by decide) rfl
    have hFc := va_free (wc := (wd_pb a_pb a_fld a_plan a_row a_ctx a_cw a_rw a_cr a_rr a_scan pb_style pb_isWritten pb_isRead)) hD hS hA [1] rfl
    refine vx_callv (vx_runV (As := []) (rest := []) ⟨hx, hb, hml, hown, hts⟩ (cx_X10_needWritten l hl0 dC dI cI cJ cZ a_pb a_fld a_plan a_row a_ctx a_cw a_rw a_cr a_rr a_scan H.size pb_style pb_isWritten pb_isRead k hk hg) (cwV 0 hts gX10_needByte_X10_needWritten rfl rfl rfl (by decide +kernel) ⟨Nat.le_of_ble_eq_true rfl, Nat.le_of_ble_eq_true rfl⟩) ⟨fun a U g mk q => by obtain ⟨q0, q1, qP, qK, qD, qZ⟩ := q; exact ⟨q0, q1, qP, va_K.moved (u := U) (U := U.calling g mk a) (Vm.Alike.refl U.vm) qK, qD, Zt.same (u := U) (U := U.calling g mk a) rfl qZ⟩, va_recv hK hPc (ci := 9) (q0 := 0) rfl rfl, fun U hU hW => ⟨rfl, by rw [hU], by rw [hU]; exact hPc, va_K.moved hW.alike hK, hDc.weaken (fun _ _ _ _ => trivial), by rw [hU]; exact ((hZ.kept hS.2.1).narrow hFc).warm hW⟩⟩ rfl rfl hl.1 rfl (lv_room (Nat.le_of_ble_eq_true rfl)) dX10_needByte_1 ⟨Nat.le_of_ble_eq_true rfl, Nat.le_of_ble_eq_true rfl⟩) hS (fun q _ h => hFc q h) hFc (fun q _ h => hFc q h) (fun E ce q9 u t H1 locs ht hvm hp hB hz1 hk1 hS hce hcv hcl => ?_) (fun u t H1 locs ht hvm hp hB hz1 hk1 hS => hp.elim)
    obtain ⟨hE, hP1, hK1, hD1⟩ := hB
    rw [ht] at hP1
    obtain ⟨hP, hD⟩ := va_join (wr := [(a_row, .inr (0, [.ref a_bytes, .int row_count, .int row_start]))]) (w1 := (wd_pb a_pb a_fld a_plan a_row a_ctx a_cw a_rw a_cr a_rr a_scan pb_style pb_isWritten pb_isRead)) hP hD [1] [0] rfl rfl (by decide) (by decide) hk1 hFc hP1 hD1
    have hP : va_P (dC, dI) vwCl (wd_row_pb a_row a_bytes a_pb a_fld a_plan a_ctx a_cw a_rw a_cr a_rr a_scan row_count row_start pb_style pb_isWritten pb_isRead) H1 := hP.sub [0, 1] rfl
    have hD : va_D A (wd_row_pb a_row a_bytes a_pb a_fld a_plan a_ctx a_cw a_rw a_cr a_rr a_scan row_count row_start pb_style pb_isWritten pb_isRead) := hD.sub [0, 1] (by decide) rfl
    rw [← hQe]
    exact vx_out (E := E) (fun x h9 => (hout x h9).elim) hlocks hce hcv hcl (fun t ht hW => ⟨(), trivial, ⟨hE, by rw [ht]; exact hP, va_K.moved hW hK, hD⟩, hS.F ht⟩) hS.2.2 (Nat.le_of_ble_eq_true rfl) (Nat.le_of_ble_eq_true rfl)
theorem tp_X10_needByte {p n w : Int32} (h : TX_X10_needByte p n w = 0) : P_X10_needByte p n w := by
  unfold TX_X10_needByte at h
  by_cases c : TX_X10_needWritten w = 0
  · rw [if_pos c] at h
    refine ⟨tp_X10_needWritten c, fun z => ?_, fun z z2 => ?_⟩
    · rw [if_pos z] at h; cases h
    · rw [if_neg z, if_neg z2] at h; cases h
  · rw [if_neg c] at h; exact absurd h c
abbrev rmx_X10_needRead : Room := { frames := 6, cells := 1, slots := 6, locals := 90 }
def TX_X10_needRead (pb_isRead : Int32) : Nat := if pb_isRead = (0 : Int32) then 1 else 0
theorem cx_X10_needRead (l : Launch) (hl0 : l.stackTraces = false) (dC : Nat → ClassId) (dI : Nat → Nat → Nat) (cI cJ cZ : ClassId) (a_pb : Nat) (a_fld : Nat) (a_plan : Nat) (a_row : Nat) (a_ctx : Nat) (a_cw : Nat) (a_rw : Nat) (a_cr : Nat) (a_rr : Nat) (a_scan : Nat) (sz : Nat) (pb_style : Int32) (pb_isWritten : Int32) (pb_isRead : Int32) (k : Nat) (hk : k ≠ 0) (hT : TX_X10_needRead pb_isRead = k) : vx_Met l yX10_needRead wsX10_needRead rmx_X10_needRead (va_Pc [.ref a_pb] (fun U => U.heap.size = sz ∧ va_P (dC, dI) vwCl (wd_pb a_pb a_fld a_plan a_row a_ctx a_cw a_rw a_cr a_rr a_scan pb_style pb_isWritten pb_isRead) U.heap ∧ va_K (dC, dI) vwCl [(cI, .int), (cJ, .long), (cZ, .boolean)] U ∧ va_D (fun _ => True) (wd_pb a_pb a_fld a_plan a_row a_ctx a_cw a_rw a_cr a_rr a_scan pb_style pb_isWritten pb_isRead) ∧ Zt (va_A (wd_pb a_pb a_fld a_plan a_row a_ctx a_cw a_rw a_cr a_rr a_scan pb_style pb_isWritten pb_isRead) sz) U U.heap)) (va_Qv (fun _ : Unit => False) (fun _ _ => True) (va_A (wd_pb a_pb a_fld a_plan a_row a_ctx a_cw a_rw a_cr a_rr a_scan pb_style pb_isWritten pb_isRead) sz)) (vx_X (fun _ : Unit => True) (fun E _ t => E = exN k ∧ va_P (dC, dI) vwCl (wd_pb a_pb a_fld a_plan a_row a_ctx a_cw a_rw a_cr a_rr a_scan pb_style pb_isWritten pb_isRead) t.heap ∧ va_K (dC, dI) vwCl [(cI, .int), (cJ, .long), (cZ, .boolean)] t ∧ va_D (va_A (wd_pb a_pb a_fld a_plan a_row a_ctx a_cw a_rw a_cr a_rr a_scan pb_style pb_isWritten pb_isRead) sz) (wd_pb a_pb a_fld a_plan a_row a_ctx a_cw a_rw a_cr a_rr a_scan pb_style pb_isWritten pb_isRead)) (va_A (wd_pb a_pb a_fld a_plan a_row a_ctx a_cw a_rw a_cr a_rr a_scan pb_style pb_isWritten pb_isRead) sz)) 1 6 (va_A (wd_pb a_pb a_fld a_plan a_row a_ctx a_cw a_rw a_cr a_rr a_scan pb_style pb_isWritten pb_isRead) sz) := by
  refine vx_ofW (cc := cX10_needRead) (maxL := 1) (ret := none) (by decide) rfl ?_
  intro p e s m args below meth c s₁ B hml hout hv
  obtain ⟨rfl, hsz, hP, hK, hD0, hZ⟩ := hv
  have hx := B.exec
  have hb := B.bytes
  have hr := B.returns
  have hts := atoms_spec (ws := wsX10_needRead) B.pre
  have hown : s.vm.findClass RX10 = some m.cls := findClass_of_methodNamed B.named
  have hlocks := B.notSynchronized
  subst hsz
  have hD := hD0.self (sz := s.heap.size)
  generalize hAe : va_A (wd_pb a_pb a_fld a_plan a_row a_ctx a_cw a_rw a_cr a_rr a_scan pb_style pb_isWritten pb_isRead) s.heap.size = A at hD hZ ⊢
  have hA : ∀ q : Nat, s.heap.size ≤ q → A q := fun q h => by rw [← hAe]; exact Or.inr h
  have hS : va_S A s.heap s.heap [] := va_S.rf
  obtain ⟨H, hH⟩ : ∃ z, z = s.heap := ⟨_, rfl⟩
  have hP : va_P (dC, dI) vwCl (wd_pb a_pb a_fld a_plan a_row a_ctx a_cw a_rw a_cr a_rr a_scan pb_style pb_isWritten pb_isRead) H := by rw [hH]; exact hP
  have hS : va_S A s.heap H [] := by rw [hH]; exact va_S.rf
  generalize hQe : vx_MQ below (va_Qv (fun _ : Unit => False) (fun _ _ => True) A) (vx_X (fun _ : Unit => True) (fun E _ t => E = exN k ∧ va_P (dC, dI) vwCl (wd_pb a_pb a_fld a_plan a_row a_ctx a_cw a_rw a_cr a_rr a_scan pb_style pb_isWritten pb_isRead) t.heap ∧ va_K (dC, dI) vwCl [(cI, .int), (cJ, .long), (cZ, .boolean)] t ∧ va_D A (wd_pb a_pb a_fld a_plan a_row a_ctx a_cw a_rw a_cr a_rr a_scan pb_style pb_isWritten pb_isRead)) A) _ s 1 6 A = Q
  rw [← hH]
  clear hH
  have hl := lv_entry ([.ref a_pb]) (n := 1) (Nat.le_of_ble_eq_true rfl)
  rw [lg_entry_eq]
  generalize (lg_sl ([.ref a_pb]) ++ List.replicate (1 - (lg_sl ([.ref a_pb])).length) Slot.unset).toArray = ls at hl ⊢
  have hl : lv_has ls 1 [(0, .ref a_pb)] := hl
  have hg := hT
  unfold TX_X10_needRead at hg
  refine lv_aload_n hx hb dX10_needRead_0 rfl (lv_at hl 0 rfl) ?_
  refine va_get (D := (dC, dI)) (ci := 9) (v := .int pb_isRead) (C := RX10) (T := TX10) (N := 12) hx hb hts iw_X10_needRead_X10 hown hK hP 0 rfl rfl 11 (by decide) (hts (.fieldLink RX10 213 "PlaneBlocks" "isRead" "Z") (by decide +kernel)) (fun _ h9 => h9) rfl dX10_needRead_1 ?_
  refine lv_if_ne (tgt := 18) hx hb dX10_needRead_4 (by decide) (fun c_1 => ?_) (fun c_1 => ?_)
  · rw [if_neg c_1] at hg
    exact absurd hg.symm hk
  · rw [if_pos c_1] at hg
    subst hg
    rw [← hQe]
    obtain ⟨sa, hsa⟩ := hZ.t301
    exact vx_throwSW (own := RX10) (cls := "java/lang/IllegalStateException") (text := "nothing is read") (names := ["java/lang/RuntimeException", "java/lang/Exception"]) (ik := 289) (is := 301) (ic := 293) hx hb hl0 hown (by decide) (by decide) (hts (.classLink RX10 289 "java/lang/IllegalStateException") (by decide +kernel)) (hts (.initialized "java/lang/IllegalStateException") (by decide +kernel)) hsa (vx_hat (fun w hw => hts w (List.mem_cons_of_mem _ (List.mem_append_right _ hw))) hb_IS hZ.decl) hg_IS hZ.1 hZ.2.1 hS (hl.1.trans hml.symm) dX10_needRead_7 dX10_needRead_10 dX10_needRead_11 dX10_needRead_14 dX10_needRead_17 (fun x h9 => (hout x h9).elim) (Nat.le_of_ble_eq_true rfl) (Nat.le_of_ble_eq_true rfl) (Nat.le_of_ble_eq_true rfl) (Nat.le_of_ble_eq_true rfl) hlocks (fun t hW hz hq => ⟨(), trivial, ⟨rfl, hP.kept (fun k9 q9 hk9 => hq q9.1 (vx_lt hP hk9)), va_K.moved hW hK, hD⟩, ⟨Nat.le_trans hS.1 hz, fun q9 h1 h2 => (hq q9 (Nat.lt_of_lt_of_le h1 hS.1)).trans (hS.2.1 q9 h1 h2)⟩⟩) hS.2.2 (Nat.le_of_ble_eq_true rfl) (Nat.le_of_ble_eq_true rfl)
theorem tp_X10_needRead {w : Int32} (h : TX_X10_needRead w = 0) : P_X10_needRead w := fun z => by unfold TX_X10_needRead at h; rw [if_pos z] at h; cases h
abbrev rmx_X10_needReadAt : Room := { frames := 7, cells := 1, slots := 6, locals := 110 }
def TX_X10_needReadAt (p1 : Int32) (p2 : Int32) (fld_wide : Int32) (fld_high : Int32) (pb_isRead : Int32) : Nat := let r_1 := F_X5_holds p1 p2 fld_wide fld_high; if r_1 = (0 : Int32) then 3 else (if TX_X10_needRead pb_isRead = 0 then 0 else TX_X10_needRead pb_isRead)

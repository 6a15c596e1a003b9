abbrev wd_ctx_states (cI : ClassId) (a_ctx : Nat) (a_states : Nat) (a_likely : Nat) (states_n : Nat) (states_f : Nat → Int32) : va_W := [(a_ctx, .inr (3, [.ref a_states, .ref a_likely])), (a_states, .inl (cI, states_n, .inl states_f))]
abbrev rm_X4_part : Room := { frames := 0, cells := 0, slots := 0, locals := 0 }
abbrev Q_X4_part (dC : Nat → ClassId) (dI : Nat → Nat → Nat) (cI cJ cZ : ClassId) (a_ctx : Nat) (a_states : Nat) (a_likely : Nat) (A : Nat → Prop) (states_n : Nat) (states_f : Nat → Int32) (g : Int32) : Array Value → State → Outcome → State → Prop := va_Qi (fun (r : Int32) (_ : Unit) => r = g) (fun u t => va_P (dC, dI) vwCl (wd_ctx_states cI a_ctx a_states a_likely states_n states_f) t.heap ∧ va_K (dC, dI) vwCl [(cI, .int), (cJ, .long), (cZ, .boolean)] t ∧ va_D A (wd_ctx_states cI a_ctx a_states a_likely states_n states_f)) A
theorem iw_X4_part_X4 : ∀ w ∈ u_ws RX4 TX4 2, w ∈ wsX4_part := by decide +kernel
set_option maxHeartbeats 4000000 in
set_option maxRecDepth 100000 in
theorem c_X4_part (l : Launch) (dC : Nat → ClassId) (dI : Nat → Nat → Nat) (cI cJ cZ : ClassId) (tP tN tO : Nat) (a_ctx : Nat) (a_states : Nat) (a_likely : Nat) (sz : Nat) (states_n : Nat) (states_f : Nat → Int32) (p1 : Int32) (hpre : P_X4_part p1 states_n states_f) : Met l yX4_part wsX4_part rm_X4_part (va_Pc [.ref a_ctx, .int p1] (fun U => U.heap.size = sz ∧ va_P (dC, dI) vwCl (wd_ctx_states cI a_ctx a_states a_likely states_n states_f) U.heap ∧ va_K (dC, dI) vwCl [(cI, .int), (cJ, .long), (cZ, .boolean)] U ∧ va_D (fun _ => True) (wd_ctx_states cI a_ctx a_states a_likely states_n states_f) ∧ Zs tP tN tO (va_A (wd_ctx_states cI a_ctx a_states a_likely states_n states_f) sz) U U.heap)) (Q_X4_part dC dI cI cJ cZ a_ctx a_states a_likely (va_A (wd_ctx_states cI a_ctx a_states a_likely states_n states_f) sz) states_n states_f (F_X4_part p1 states_f)) 0 0 (va_A (wd_ctx_states cI a_ctx a_states a_likely states_n states_f) sz) := by
  refine Met.ofW (cc := cX4_part) (maxL := 2) (ret := (some .int)) (by decide) rfl ?_
  intro p e s m args below meth c s₁ B hml hv
  obtain ⟨rfl, hsz, hP, hK, hD0, hZ⟩ := hv
  have hx := B.exec
  have hb := B.bytes
  have hr := B.returns
  have hts := atoms_spec (ws := wsX4_part) B.pre
  have hown : s.vm.findClass RX4 = some m.cls := findClass_of_methodNamed B.named
  have hlocks := B.notSynchronized
  subst hsz
  have hD := hD0.self (sz := s.heap.size)
  generalize hAe : va_A (wd_ctx_states cI a_ctx a_states a_likely states_n states_f) s.heap.size = A at hD hZ ⊢
  have hA : ∀ q : Nat, s.heap.size ≤ q → A q := fun q h => by rw [← hAe]; exact Or.inr h
  have hS : va_S A s.heap s.heap [] := va_S.rf
  obtain ⟨H, hH⟩ : ∃ z, z = s.heap := ⟨_, rfl⟩
  have hP : va_P (dC, dI) vwCl (wd_ctx_states cI a_ctx a_states a_likely states_n states_f) H := by rw [hH]; exact hP
  have hS : va_S A s.heap H [] := by rw [hH]; exact va_S.rf
  obtain ⟨g, hg⟩ : ∃ z, F_X4_part p1 states_f = z := ⟨_, rfl⟩
  rw [hg]
  generalize hQe : MQ below (Q_X4_part dC dI cI cJ cZ a_ctx a_states a_likely A states_n states_f g) _ s 0 0 A = Q
  rw [← hH]
  clear hH
  have hl := lv_entry ([.ref a_ctx, .int p1]) (n := 2) (Nat.le_of_ble_eq_true rfl)
  rw [lg_entry_eq]
  generalize (lg_sl ([.ref a_ctx, .int p1]) ++ List.replicate (2 - (lg_sl ([.ref a_ctx, .int p1])).length) Slot.unset).toArray = ls at hl ⊢
  have hl : lv_has ls 2 [(0, .ref a_ctx), (1, .int p1)] := hl
  unfold F_X4_part at hg
  unfold P_X4_part at hpre
  refine va_gets hx hb hZ.1 hS hown (hts (.fieldLink RX4 24 "PlaneBlocks$Contexts" "PARTS" "[I") (by decide +kernel)) (fun _ h9 => h9) dX4_part_0 ?_
  refine lv_aload_n hx hb dX4_part_3 rfl (lv_at hl 0 rfl) ?_
  refine va_get (D := (dC, dI)) (ci := 3) (v := .ref a_states) (C := RX4) (T := TX4) (N := 2) hx hb hts iw_X4_part_X4 hown hK hP 0 rfl rfl 0 (by decide) (hts (.fieldLink RX4 9 "PlaneBlocks$Contexts" "states" "[I") (by decide +kernel)) (fun _ h9 => h9) rfl dX4_part_4 ?_
  refine lv_iload_n hx hb dX4_part_7 rfl (lv_at hl 1 rfl) ?_
  have h_1 := hpre.1
  have hpre := hpre.2
  refine va_iald hx hb hK hP 1 0 rfl rfl h_1 dX4_part_8 ?_
  have h_2 := hpre
  refine va_ti (v := .int (tabP (states_f p1.toNatClampNeg).toNatClampNeg)) hx hb hZ.2.1 hS h_2 rfl dX4_part_9 ?_
  subst hg
  rw [← hQe]
  exact W.iret (v := (tabP (states_f p1.toNatClampNeg).toNatClampNeg)) hx hb hr (fun t ht hW => ⟨⟨(tabP (states_f p1.toNatClampNeg).toNatClampNeg), (), rfl, rfl, by rw [ht]; exact hP, va_K.moved hW.alike hK, hD⟩, hS.F ht⟩) hS.2.2 dX4_part_10
abbrev wd_ctx_likely (cI : ClassId) (a_ctx : Nat) (a_states : Nat) (a_likely : Nat) (likely_n : Nat) (likely_f : Nat → Int32) : va_W := [(a_ctx, .inr (3, [.ref a_states, .ref a_likely])), (a_likely, .inl (cI, likely_n, .inl likely_f))]
abbrev rm_X4_likelyBit : Room := { frames := 0, cells := 0, slots := 0, locals := 0 }
abbrev Q_X4_likelyBit (dC : Nat → ClassId) (dI : Nat → Nat → Nat) (cI cJ cZ : ClassId) (a_ctx : Nat) (a_states : Nat) (a_likely : Nat) (A : Nat → Prop) (likely_n : Nat) (likely_f : Nat → Int32) (g : Int32) : Array Value → State → Outcome → State → Prop := va_Qi (fun (r : Int32) (_ : Unit) => r = g) (fun u t => va_P (dC, dI) vwCl (wd_ctx_likely cI a_ctx a_states a_likely likely_n likely_f) t.heap ∧ va_K (dC, dI) vwCl [(cI, .int), (cJ, .long), (cZ, .boolean)] t ∧ va_D A (wd_ctx_likely cI a_ctx a_states a_likely likely_n likely_f)) A
theorem iw_X4_likelyBit_X4 : ∀ w ∈ u_ws RX4 TX4 2, w ∈ wsX4_likelyBit := by decide +kernel
set_option maxHeartbeats 4000000 in
set_option maxRecDepth 100000 in
theorem c_X4_likelyBit (l : Launch) (dC : Nat → ClassId) (dI : Nat → Nat → Nat) (cI cJ cZ : ClassId) (a_ctx : Nat) (a_states : Nat) (a_likely : Nat) (sz : Nat) (likely_n : Nat) (likely_f : Nat → Int32) (p1 : Int32) (hpre : P_X4_likelyBit p1 likely_n) : Met l yX4_likelyBit wsX4_likelyBit rm_X4_likelyBit (va_Pc [.ref a_ctx, .int p1] (fun U => U.heap.size = sz ∧ va_P (dC, dI) vwCl (wd_ctx_likely cI a_ctx a_states a_likely likely_n likely_f) U.heap ∧ va_K (dC, dI) vwCl [(cI, .int), (cJ, .long), (cZ, .boolean)] U ∧ va_D (fun _ => True) (wd_ctx_likely cI a_ctx a_states a_likely likely_n likely_f))) (Q_X4_likelyBit dC dI cI cJ cZ a_ctx a_states a_likely (va_A (wd_ctx_likely cI a_ctx a_states a_likely likely_n likely_f) sz) likely_n likely_f (F_X4_likelyBit p1 likely_f)) 0 0 (va_A (wd_ctx_likely cI a_ctx a_states a_likely likely_n likely_f) sz) := by
  refine Met.ofW (cc := cX4_likelyBit) (maxL := 2) (ret := (some .int)) (by decide) rfl ?_
  intro p e s m args below meth c s₁ B hml hv
  obtain ⟨rfl, hsz, hP, hK, hD0⟩ := hv
  have hx := B.exec
  have hb := B.bytes
  have hr := B.returns
  have hts := atoms_spec (ws := wsX4_likelyBit) B.pre
  have hown : s.vm.findClass RX4 = some m.cls := findClass_of_methodNamed B.named
  have hlocks := B.notSynchronized
  subst hsz
  have hD := hD0.self (sz := s.heap.size)
  generalize hAe : va_A (wd_ctx_likely cI a_ctx a_states a_likely likely_n likely_f) s.heap.size = A at hD ⊢
  have hA : ∀ q : Nat, s.heap.size ≤ q → A q := fun q h => by rw [← hAe]; exact Or.inr h
  have hS : va_S A s.heap s.heap [] := va_S.rf
  obtain ⟨H, hH⟩ : ∃ z, z = s.heap := ⟨_, rfl⟩
  have hP : va_P (dC, dI) vwCl (wd_ctx_likely cI a_ctx a_states a_likely likely_n likely_f) H := by rw [hH]; exact hP
  have hS : va_S A s.heap H [] := by rw [hH]; exact va_S.rf
  obtain ⟨g, hg⟩ : ∃ z, F_X4_likelyBit p1 likely_f = z := ⟨_, rfl⟩
  rw [hg]
  generalize hQe : MQ below (Q_X4_likelyBit dC dI cI cJ cZ a_ctx a_states a_likely A likely_n likely_f g) _ s 0 0 A = Q
  rw [← hH]
  clear hH
  have hl := lv_entry ([.ref a_ctx, .int p1]) (n := 2) (Nat.le_of_ble_eq_true rfl)
  rw [lg_entry_eq]
  generalize (lg_sl ([.ref a_ctx, .int p1]) ++ List.replicate (2 - (lg_sl ([.ref a_ctx, .int p1])).length) Slot.unset).toArray = ls at hl ⊢
  have hl : lv_has ls 2 [(0, .ref a_ctx), (1, .int p1)] := hl
  unfold F_X4_likelyBit at hg
  unfold P_X4_likelyBit at hpre
  refine lv_aload_n hx hb dX4_likelyBit_0 rfl (lv_at hl 0 rfl) ?_
  refine va_get (D := (dC, dI)) (ci := 3) (v := .ref a_likely) (C := RX4) (T := TX4) (N := 2) hx hb hts iw_X4_likelyBit_X4 hown hK hP 0 rfl rfl 1 (by decide) (hts (.fieldLink RX4 15 "PlaneBlocks$Contexts" "likely" "[I") (by decide +kernel)) (fun _ h9 => h9) rfl dX4_likelyBit_1 ?_
  refine lv_iload_n hx hb dX4_likelyBit_4 rfl (lv_at hl 1 rfl) ?_
  have h_1 := hpre
  refine va_iald hx hb hK hP 1 0 rfl rfl h_1 dX4_likelyBit_5 ?_
  subst hg
  rw [← hQe]
  exact W.iret (v := (likely_f p1.toNatClampNeg)) hx hb hr (fun t ht hW => ⟨⟨(likely_f p1.toNatClampNeg), (), rfl, rfl, by rw [ht]; exact hP, va_K.moved hW.alike hK, hD⟩, hS.F ht⟩) hS.2.2 dX4_likelyBit_6
abbrev rm_X4_likelyCame : Room := { frames := 0, cells := 0, slots := 0, locals := 0 }
abbrev Q_X4_likelyCame (dC : Nat → ClassId) (dI : Nat → Nat → Nat) (cI cJ cZ : ClassId) (a_ctx : Nat) (a_states : Nat) (a_likely : Nat) (A : Nat → Prop) (states_n : Nat) (states_f : Nat → Int32) (g : (Nat → Int32)) : Array Value → State → Outcome → State → Prop := va_Qv (fun _ : Unit => True) (fun u t => va_P (dC, dI) vwCl (wd_ctx_states cI a_ctx a_states a_likely states_n g) t.heap ∧ va_K (dC, dI) vwCl [(cI, .int), (cJ, .long), (cZ, .boolean)] t ∧ va_D A (wd_ctx_states cI a_ctx a_states a_likely states_n g)) A
theorem iw_X4_likelyCame_X4 : ∀ w ∈ u_ws RX4 TX4 2, w ∈ wsX4_likelyCame := by decide +kernel
set_option maxHeartbeats 4000000 in
set_option maxRecDepth 100000 in
theorem c_X4_likelyCame (l : Launch) (dC : Nat → ClassId) (dI : Nat → Nat → Nat) (cI cJ cZ : ClassId) (tP tN tO : Nat) (a_ctx : Nat) (a_states : Nat) (a_likely : Nat) (sz : Nat) (states_n : Nat) (states_f : Nat → Int32) (p1 : Int32) (hpre : P_X4_likelyCame p1 states_n states_f) : Met l yX4_likelyCame wsX4_likelyCame rm_X4_likelyCame (va_Pc [.ref a_ctx, .int p1] (fun U => U.heap.size = sz ∧ va_P (dC, dI) vwCl (wd_ctx_states cI a_ctx a_states a_likely states_n states_f) U.heap ∧ va_K (dC, dI) vwCl [(cI, .int), (cJ, .long), (cZ, .boolean)] U ∧ va_D (fun _ => True) (wd_ctx_states cI a_ctx a_states a_likely states_n states_f) ∧ Zs tP tN tO (va_A (wd_ctx_states cI a_ctx a_states a_likely states_n states_f) sz) U U.heap)) (Q_X4_likelyCame dC dI cI cJ cZ a_ctx a_states a_likely (va_A (wd_ctx_states cI a_ctx a_states a_likely states_n states_f) sz) states_n states_f (F_X4_likelyCame p1 states_f)) 0 0 (va_A (wd_ctx_states cI a_ctx a_states a_likely states_n states_f) sz) := by
  refine Met.ofW (cc := cX4_likelyCame) (maxL := 2) (ret := none) (by decide) rfl ?_
  intro p e s m args below meth c s₁ B hml hv
  obtain ⟨rfl, hsz, hP, hK, hD0, hZ⟩ := hv
  have hx := B.exec
  have hb := B.bytes
  have hr := B.returns
  have hts := atoms_spec (ws := wsX4_likelyCame) B.pre
  have hown : s.vm.findClass RX4 = some m.cls := findClass_of_methodNamed B.named
  have hlocks := B.notSynchronized
  subst hsz
  have hD := hD0.self (sz := s.heap.size)
  generalize hAe : va_A (wd_ctx_states cI a_ctx a_states a_likely states_n states_f) s.heap.size = A at hD hZ ⊢
  have hA : ∀ q : Nat, s.heap.size ≤ q → A q := fun q h => by rw [← hAe]; exact Or.inr h
  have hS : va_S A s.heap s.heap [] := va_S.rf
  obtain ⟨H, hH⟩ : ∃ z, z = s.heap := ⟨_, rfl⟩
  have hP : va_P (dC, dI) vwCl (wd_ctx_states cI a_ctx a_states a_likely states_n states_f) H := by rw [hH]; exact hP
  have hS : va_S A s.heap H [] := by rw [hH]; exact va_S.rf
  obtain ⟨g, hg⟩ : ∃ z, F_X4_likelyCame p1 states_f = z := ⟨_, rfl⟩
  rw [hg]
  generalize hQe : MQ below (Q_X4_likelyCame dC dI cI cJ cZ a_ctx a_states a_likely A states_n states_f g) _ s 0 0 A = Q
  rw [← hH]
  clear hH
  have hl := lv_entry ([.ref a_ctx, .int p1]) (n := 2) (Nat.le_of_ble_eq_true rfl)
  rw [lg_entry_eq]
  generalize (lg_sl ([.ref a_ctx, .int p1]) ++ List.replicate (2 - (lg_sl ([.ref a_ctx, .int p1])).length) Slot.unset).toArray = ls at hl ⊢
  have hl : lv_has ls 2 [(0, .ref a_ctx), (1, .int p1)] := hl
  unfold F_X4_likelyCame at hg
  unfold P_X4_likelyCame at hpre
  refine lv_aload_n hx hb dX4_likelyCame_0 rfl (lv_at hl 0 rfl) ?_
  refine va_get (D := (dC, dI)) (ci := 3) (v := .ref a_states) (C := RX4) (T := TX4) (N := 2) hx hb hts iw_X4_likelyCame_X4 hown hK hP 0 rfl rfl 0 (by decide) (hts (.fieldLink RX4 9 "PlaneBlocks$Contexts" "states" "[I") (by decide +kernel)) (fun _ h9 => h9) rfl dX4_likelyCame_1 ?_
  refine lv_iload_n hx hb dX4_likelyCame_4 rfl (lv_at hl 1 rfl) ?_
  refine va_gets hx hb hZ.2.2.1 hS hown (hts (.fieldLink RX4 27 "PlaneBlocks$Contexts" "NEXT" "[I") (by decide +kernel)) (fun _ h9 => h9) dX4_likelyCame_5 ?_
  refine lv_aload_n hx hb dX4_likelyCame_8 rfl (lv_at hl 0 rfl) ?_
  refine va_get (D := (dC, dI)) (ci := 3) (v := .ref a_states) (C := RX4) (T := TX4) (N := 2) hx hb hts iw_X4_likelyCame_X4 hown hK hP 0 rfl rfl 0 (by decide) (hts (.fieldLink RX4 9 "PlaneBlocks$Contexts" "states" "[I") (by decide +kernel)) (fun _ h9 => h9) rfl dX4_likelyCame_9 ?_
  refine lv_iload_n hx hb dX4_likelyCame_12 rfl (lv_at hl 1 rfl) ?_
  have h_1 := hpre.1
  have hpre := hpre.2
  refine va_iald hx hb hK hP 1 0 rfl rfl h_1 dX4_likelyCame_13 ?_
  have h_2 := hpre
  refine va_ti (v := .int (tabN (states_f p1.toNatClampNeg).toNatClampNeg)) hx hb hZ.2.2.2.1 hS h_2 rfl dX4_likelyCame_14 ?_
  refine va_iast hx hb hK hP hD hS 1 0 rfl rfl h_1 dX4_likelyCame_15 (fun H locs hP hD hS => ?_)
  have hP : va_P (dC, dI) vwCl (wd_ctx_states cI a_ctx a_states a_likely states_n (upd states_f p1.toNatClampNeg (tabN (states_f p1.toNatClampNeg).toNatClampNeg))) H := hP
  have hD : va_D A (wd_ctx_states cI a_ctx a_states a_likely states_n (upd states_f p1.toNatClampNeg (tabN (states_f p1.toNatClampNeg).toNatClampNeg))) := hD
  subst hg
  rw [← hQe]
  exact W.vret hx hb hr (fun t ht hW => ⟨⟨(), rfl, trivial, by rw [ht]; exact hP, va_K.moved hW.alike hK, hD⟩, hS.F ht⟩) hS.2.2 dX4_likelyCame_16
abbrev wd_ctx_states_likely (cI : ClassId) (a_ctx : Nat) (a_states : Nat) (a_likely : Nat) (states_n : Nat) (states_f : Nat → Int32) (likely_n : Nat) (likely_f : Nat → Int32) : va_W := [(a_ctx, .inr (3, [.ref a_states, .ref a_likely])), (a_states, .inl (cI, states_n, .inl states_f)), (a_likely, .inl (cI, likely_n, .inl likely_f))]
abbrev rm_X4_otherCame : Room := { frames := 0, cells := 0, slots := 0, locals := 0 }
abbrev Q_X4_otherCame (dC : Nat → ClassId) (dI : Nat → Nat → Nat) (cI cJ cZ : ClassId) (a_ctx : Nat) (a_states : Nat) (a_likely : Nat) (A : Nat → Prop) (states_n : Nat) (states_f : Nat → Int32) (likely_n : Nat) (likely_f : Nat → Int32) (g : ((Nat → Int32) × (Nat → Int32))) : Array Value → State → Outcome → State → Prop := va_Qv (fun _ : Unit => True) (fun u t => va_P (dC, dI) vwCl (wd_ctx_states_likely cI a_ctx a_states a_likely states_n g.1 likely_n g.2) t.heap ∧ va_K (dC, dI) vwCl [(cI, .int), (cJ, .long), (cZ, .boolean)] t ∧ va_D A (wd_ctx_states_likely cI a_ctx a_states a_likely states_n g.1 likely_n g.2)) A
theorem iw_X4_otherCame_X4 : ∀ w ∈ u_ws RX4 TX4 2, w ∈ wsX4_otherCame := by decide +kernel
set_option maxHeartbeats 4000000 in
set_option maxRecDepth 100000 in
theorem c_X4_otherCame (l : Launch) (dC : Nat → ClassId) (dI : Nat → Nat → Nat) (cI cJ cZ : ClassId) (tP tN tO : Nat) (a_ctx : Nat) (a_states : Nat) (a_likely : Nat) (sz : Nat) (states_n : Nat) (states_f : Nat → Int32) (likely_n : Nat) (likely_f : Nat → Int32) (p1 : Int32) (hpre : P_X4_otherCame p1 states_n states_f likely_n likely_f) : Met l yX4_otherCame wsX4_otherCame rm_X4_otherCame (va_Pc [.ref a_ctx, .int p1] (fun U => U.heap.size = sz ∧ va_P (dC, dI) vwCl (wd_ctx_states_likely cI a_ctx a_states a_likely states_n states_f likely_n likely_f) U.heap ∧ va_K (dC, dI) vwCl [(cI, .int), (cJ, .long), (cZ, .boolean)] U ∧ va_D (fun _ => True) (wd_ctx_states_likely cI a_ctx a_states a_likely states_n states_f likely_n likely_f) ∧ Zs tP tN tO (va_A (wd_ctx_states_likely cI a_ctx a_states a_likely states_n states_f likely_n likely_f) sz) U U.heap)) (Q_X4_otherCame dC dI cI cJ cZ a_ctx a_states a_likely (va_A (wd_ctx_states_likely cI a_ctx a_states a_likely states_n states_f likely_n likely_f) sz) states_n states_f likely_n likely_f (F_X4_otherCame p1 states_f likely_f)) 0 0 (va_A (wd_ctx_states_likely cI a_ctx a_states a_likely states_n states_f likely_n likely_f) sz) := by
  refine Met.ofW (cc := cX4_otherCame) (maxL := 3) (ret := none) (by decide) rfl ?_
  intro p e s m args below meth c s₁ B hml hv
  obtain ⟨rfl, hsz, hP, hK, hD0, hZ⟩ := hv
  have hx := B.exec
  have hb := B.bytes
  have hr := B.returns
  have hts := atoms_spec (ws := wsX4_otherCame) B.pre
  have hown : s.vm.findClass RX4 = some m.cls := findClass_of_methodNamed B.named
  have hlocks := B.notSynchronized
  subst hsz
  have hD := hD0.self (sz := s.heap.size)
  generalize hAe : va_A (wd_ctx_states_likely cI a_ctx a_states a_likely states_n states_f likely_n likely_f) s.heap.size = A at hD hZ ⊢
  have hA : ∀ q : Nat, s.heap.size ≤ q → A q := fun q h => by rw [← hAe]; exact Or.inr h
  have hS : va_S A s.heap s.heap [] := va_S.rf
  obtain ⟨H, hH⟩ : ∃ z, z = s.heap := ⟨_, rfl⟩
  have hP : va_P (dC, dI) vwCl (wd_ctx_states_likely cI a_ctx a_states a_likely states_n states_f likely_n likely_f) H := by rw [hH]; exact hP
  have hS : va_S A s.heap H [] := by rw [hH]; exact va_S.rf
  obtain ⟨g, hg⟩ : ∃ z, F_X4_otherCame p1 states_f likely_f = z := ⟨_, rfl⟩
  rw [hg]
  generalize hQe : MQ below (Q_X4_otherCame dC dI cI cJ cZ a_ctx a_states a_likely A states_n states_f likely_n likely_f g) _ s 0 0 A = Q
  rw [← hH]
  clear hH
  have hl := lv_entry ([.ref a_ctx, .int p1]) (n := 3) (Nat.le_of_ble_eq_true rfl)
  rw [lg_entry_eq]
  generalize (lg_sl ([.ref a_ctx, .int p1]) ++ List.replicate (3 - (lg_sl ([.ref a_ctx, .int p1])).length) Slot.unset).toArray = ls at hl ⊢
  have hl : lv_has ls 3 [(0, .ref a_ctx), (1, .int p1)] := hl
  unfold F_X4_otherCame at hg
  unfold P_X4_otherCame at hpre
  refine lv_aload_n hx hb dX4_otherCame_0 rfl (lv_at hl 0 rfl) ?_
  refine va_get (D := (dC, dI)) (ci := 3) (v := .ref a_states) (C := RX4) (T := TX4) (N := 2) hx hb hts iw_X4_otherCame_X4 hown hK hP 0 rfl rfl 0 (by decide) (hts (.fieldLink RX4 9 "PlaneBlocks$Contexts" "states" "[I") (by decide +kernel)) (fun _ h9 => h9) rfl dX4_otherCame_1 ?_
  refine lv_iload_n hx hb dX4_otherCame_4 rfl (lv_at hl 1 rfl) ?_
  have h_1 := hpre.1
  have hpre := hpre.2
  refine va_iald hx hb hK hP 1 0 rfl rfl h_1 dX4_otherCame_5 ?_
  refine lv_istore_n (lv' := [(2, .int (states_f p1.toNatClampNeg)), (0, .ref a_ctx), (1, .int p1)]) hx hb dX4_otherCame_6 rfl hl (by decide) rfl (fun ls hl => ?_)
  refine lv_iload_n hx hb dX4_otherCame_7 rfl (lv_at hl 0 rfl) ?_
  obtain ⟨j_11, hj_11⟩ : ∃ z, J_X4_otherCame_j_11 p1 states_f likely_f = z := ⟨_, rfl⟩
  have hg : (upd states_f p1.toNatClampNeg (tabO (states_f p1.toNatClampNeg).toNatClampNeg), j_11) = g := by first | (rw [hj_11] at hg; exact hg) | (subst hj_11; exact hg)
  have hJ_j_11 : ∀ (H : Heap) (locs : List Loc) (ls : Array Slot), va_P (dC, dI) vwCl (wd_ctx_states_likely cI a_ctx a_states a_likely states_n states_f likely_n j_11) H → va_D A (wd_ctx_states_likely cI a_ctx a_states a_likely states_n states_f likely_n j_11) → va_S A s.heap H locs → lv_has ls 3 [(0, .ref a_ctx), (1, .int p1), (2, .int (states_f p1.toNatClampNeg))] → W p l e (headSpec wsX4_otherCame rm_X4_otherCame).room s m ([.ref a_ctx, .int p1] : List Value).toArray below meth c H locs 0 0 Q (F0 m 37 ls []) := by
    intro H locs ls hP hD hS hl
    have hpre := hpre.2 j_11 hj_11
    refine lv_aload_n hx hb dX4_otherCame_37 rfl (lv_at hl 0 rfl) ?_
    refine va_get (D := (dC, dI)) (ci := 3) (v := .ref a_states) (C := RX4) (T := TX4) (N := 2) hx hb hts iw_X4_otherCame_X4 hown hK hP 0 rfl rfl 0 (by decide) (hts (.fieldLink RX4 9 "PlaneBlocks$Contexts" "states" "[I") (by decide +kernel)) (fun _ h9 => h9) rfl dX4_otherCame_38 ?_
    refine lv_iload_n hx hb dX4_otherCame_41 rfl (lv_at hl 1 rfl) ?_
    refine va_gets hx hb hZ.2.2.2.2.1 hS hown (hts (.fieldLink RX4 30 "PlaneBlocks$Contexts" "OTHER" "[I") (by decide +kernel)) (fun _ h9 => h9) dX4_otherCame_42 ?_
    refine lv_iload_n hx hb dX4_otherCame_45 rfl (lv_at hl 2 rfl) ?_
    have h_12 := hpre
    refine va_ti (v := .int (tabO (states_f p1.toNatClampNeg).toNatClampNeg)) hx hb hZ.2.2.2.2.2 hS h_12 rfl dX4_otherCame_46 ?_
    refine va_iast hx hb hK hP hD hS 1 0 rfl rfl h_1 dX4_otherCame_47 (fun H locs hP hD hS => ?_)
    have hP : va_P (dC, dI) vwCl (wd_ctx_states_likely cI a_ctx a_states a_likely states_n (upd states_f p1.toNatClampNeg (tabO (states_f p1.toNatClampNeg).toNatClampNeg)) likely_n j_11) H := hP
    have hD : va_D A (wd_ctx_states_likely cI a_ctx a_states a_likely states_n (upd states_f p1.toNatClampNeg (tabO (states_f p1.toNatClampNeg).toNatClampNeg)) likely_n j_11) := hD
    subst hg
    rw [← hQe]
    exact W.vret hx hb hr (fun t ht hW => ⟨⟨(), rfl, trivial, by rw [ht]; exact hP, va_K.moved hW.alike hK, hD⟩, hS.F ht⟩) hS.2.2 dX4_otherCame_48
  have hpre := hpre.1
  unfold PJ_X4_otherCame_j_11 at hpre
  have hg : (if (states_f p1.toNatClampNeg) = (0 : Int32) then (upd likely_f p1.toNatClampNeg ((1 : Int32) - (likely_f p1.toNatClampNeg))) else (if (states_f p1.toNatClampNeg) = (6 : Int32) then (upd likely_f p1.toNatClampNeg ((1 : Int32) - (likely_f p1.toNatClampNeg))) else (if (states_f p1.toNatClampNeg) = (14 : Int32) then (upd likely_f p1.toNatClampNeg ((1 : Int32) - (likely_f p1.toNatClampNeg))) else likely_f))) = j_11 := by rw [← hj_11]; rfl
  clear hj_11
  refine lv_if_eq (tgt := 23) hx hb dX4_otherCame_8 (by decide) (fun c_2 => ?_) (fun c_2 => ?_)
  · rw [if_pos c_2] at hg
    have hpre := hpre.1 c_2
    refine lv_aload_n hx hb dX4_otherCame_23 rfl (lv_at hl 1 rfl) ?_
    refine va_get (D := (dC, dI)) (ci := 3) (v := .ref a_likely) (C := RX4) (T := TX4) (N := 2) hx hb hts iw_X4_otherCame_X4 hown hK hP 0 rfl rfl 1 (by decide) (hts (.fieldLink RX4 15 "PlaneBlocks$Contexts" "likely" "[I") (by decide +kernel)) (fun _ h9 => h9) rfl dX4_otherCame_24 ?_
    refine lv_iload_n hx hb dX4_otherCame_27 rfl (lv_at hl 2 rfl) ?_
    refine lv_iconst (v := 1) hx hb dX4_otherCame_28 (by decide) ?_
    refine lv_aload_n hx hb dX4_otherCame_29 rfl (lv_at hl 1 rfl) ?_
    refine va_get (D := (dC, dI)) (ci := 3) (v := .ref a_likely) (C := RX4) (T := TX4) (N := 2) hx hb hts iw_X4_otherCame_X4 hown hK hP 0 rfl rfl 1 (by decide) (hts (.fieldLink RX4 15 "PlaneBlocks$Contexts" "likely" "[I") (by decide +kernel)) (fun _ h9 => h9) rfl dX4_otherCame_30 ?_
    refine lv_iload_n hx hb dX4_otherCame_33 rfl (lv_at hl 2 rfl) ?_
    have h_3 := hpre
    refine va_iald hx hb hK hP 2 0 rfl rfl h_3 dX4_otherCame_34 ?_
    refine lv_isub hx hb dX4_otherCame_35 ?_
    refine va_iast hx hb hK hP hD hS 2 0 rfl rfl h_3 dX4_otherCame_36 (fun H locs hP hD hS => ?_)
    have hP : va_P (dC, dI) vwCl (wd_ctx_states_likely cI a_ctx a_states a_likely states_n states_f likely_n (upd likely_f p1.toNatClampNeg ((1 : Int32) - (likely_f p1.toNatClampNeg)))) H := hP
    have hD : va_D A (wd_ctx_states_likely cI a_ctx a_states a_likely states_n states_f likely_n (upd likely_f p1.toNatClampNeg ((1 : Int32) - (likely_f p1.toNatClampNeg)))) := hD
    exact hJ_j_11 _ _ _ (by rw [← hg]; exact hP) (by rw [← hg]; exact hD) hS (lv_sub hl [1, 2, 0] rfl)
  · rw [if_neg c_2] at hg
    have hpre := hpre.2 c_2
    refine lv_iload_n hx hb dX4_otherCame_11 rfl (lv_at hl 0 rfl) ?_
    refine lv_bipush (v := 6) hx hb dX4_otherCame_12 (by decide) ?_
    refine lv_icmp_eq (tgt := 23) hx hb dX4_otherCame_14 (by decide) (fun c_5 => ?_) (fun c_5 => ?_)
    · rw [if_pos c_5] at hg
      have hpre := hpre.1 c_5
      refine lv_aload_n hx hb dX4_otherCame_23 rfl (lv_at hl 1 rfl) ?_
      refine va_get (D := (dC, dI)) (ci := 3) (v := .ref a_likely) (C := RX4) (T := TX4) (N := 2) hx hb hts iw_X4_otherCame_X4 hown hK hP 0 rfl rfl 1 (by decide) (hts (.fieldLink RX4 15 "PlaneBlocks$Contexts" "likely" "[I") (by decide +kernel)) (fun _ h9 => h9) rfl dX4_otherCame_24 ?_
      refine lv_iload_n hx hb dX4_otherCame_27 rfl (lv_at hl 2 rfl) ?_
      refine lv_iconst (v := 1) hx hb dX4_otherCame_28 (by decide) ?_
      refine lv_aload_n hx hb dX4_otherCame_29 rfl (lv_at hl 1 rfl) ?_
      refine va_get (D := (dC, dI)) (ci := 3) (v := .ref a_likely) (C := RX4) (T := TX4) (N := 2) hx hb hts iw_X4_otherCame_X4 hown hK hP 0 rfl rfl 1 (by decide) (hts (.fieldLink RX4 15 "PlaneBlocks$Contexts" "likely" "[I") (by decide +kernel)) (fun _ h9 => h9) rfl dX4_otherCame_30 ?_
      refine lv_iload_n hx hb dX4_otherCame_33 rfl (lv_at hl 2 rfl) ?_
      have h_6 := hpre
      refine va_iald hx hb hK hP 2 0 rfl rfl h_6 dX4_otherCame_34 ?_
      refine lv_isub hx hb dX4_otherCame_35 ?_
      refine va_iast hx hb hK hP hD hS 2 0 rfl rfl h_6 dX4_otherCame_36 (fun H locs hP hD hS => ?_)
      have hP : va_P (dC, dI) vwCl (wd_ctx_states_likely cI a_ctx a_states a_likely states_n states_f likely_n (upd likely_f p1.toNatClampNeg ((1 : Int32) - (likely_f p1.toNatClampNeg)))) H := hP
      have hD : va_D A (wd_ctx_states_likely cI a_ctx a_states a_likely states_n states_f likely_n (upd likely_f p1.toNatClampNeg ((1 : Int32) - (likely_f p1.toNatClampNeg)))) := hD
      exact hJ_j_11 _ _ _ (by rw [← hg]; exact hP) (by rw [← hg]; exact hD) hS (lv_sub hl [1, 2, 0] rfl)
    · rw [if_neg c_5] at hg
      have hpre := hpre.2 c_5
      refine lv_iload_n hx hb dX4_otherCame_17 rfl (lv_at hl 0 rfl) ?_
      refine lv_bipush (v := 14) hx hb dX4_otherCame_18 (by decide) ?_
      refine lv_icmp_ne (tgt := 37) hx hb dX4_otherCame_20 (by decide) (fun c_8 => ?_) (fun c_8 => ?_)
      · rw [if_neg c_8] at hg
        exact hJ_j_11 _ _ _ (by rw [← hg]; exact hP) (by rw [← hg]; exact hD) hS (lv_sub hl [1, 2, 0] rfl)
      · rw [if_pos c_8] at hg
        have hpre := hpre c_8
        refine lv_aload_n hx hb dX4_otherCame_23 rfl (lv_at hl 1 rfl) ?_
        refine va_get (D := (dC, dI)) (ci := 3) (v := .ref a_likely) (C := RX4) (T := TX4) (N := 2) hx hb hts iw_X4_otherCame_X4 hown hK hP 0 rfl rfl 1 (by decide) (hts (.fieldLink RX4 15 "PlaneBlocks$Contexts" "likely" "[I") (by decide +kernel)) (fun _ h9 => h9) rfl dX4_otherCame_24 ?_
        refine lv_iload_n hx hb dX4_otherCame_27 rfl (lv_at hl 2 rfl) ?_
        refine lv_iconst (v := 1) hx hb dX4_otherCame_28 (by decide) ?_
        refine lv_aload_n hx hb dX4_otherCame_29 rfl (lv_at hl 1 rfl) ?_
        refine va_get (D := (dC, dI)) (ci := 3) (v := .ref a_likely) (C := RX4) (T := TX4) (N := 2) hx hb hts iw_X4_otherCame_X4 hown hK hP 0 rfl rfl 1 (by decide) (hts (.fieldLink RX4 15 "PlaneBlocks$Contexts" "likely" "[I") (by decide +kernel)) (fun _ h9 => h9) rfl dX4_otherCame_30 ?_
        refine lv_iload_n hx hb dX4_otherCame_33 rfl (lv_at hl 2 rfl) ?_
        have h_9 := hpre
        refine va_iald hx hb hK hP 2 0 rfl rfl h_9 dX4_otherCame_34 ?_
        refine lv_isub hx hb dX4_otherCame_35 ?_
        refine va_iast hx hb hK hP hD hS 2 0 rfl rfl h_9 dX4_otherCame_36 (fun H locs hP hD hS => ?_)
        have hP : va_P (dC, dI) vwCl (wd_ctx_states_likely cI a_ctx a_states a_likely states_n states_f likely_n (upd likely_f p1.toNatClampNeg ((1 : Int32) - (likely_f p1.toNatClampNeg)))) H := hP
        have hD : va_D A (wd_ctx_states_likely cI a_ctx a_states a_likely states_n states_f likely_n (upd likely_f p1.toNatClampNeg ((1 : Int32) - (likely_f p1.toNatClampNeg)))) := hD
        exact hJ_j_11 _ _ _ (by rw [← hg]; exact hP) (by rw [← hg]; exact hD) hS (lv_sub hl [1, 2, 0] rfl)
abbrev wd_states (cI : ClassId) (a_states : Nat) (states_n : Nat) (states_f : Nat → Int32) : va_W := [(a_states, .inl (cI, states_n, .inl states_f))]
abbrev wd_likely (cI : ClassId) (a_likely : Nat) (likely_n : Nat) (likely_f : Nat → Int32) : va_W := [(a_likely, .inl (cI, likely_n, .inl likely_f))]
abbrev rm_X4_restart : Room := { frames := 1, cells := 0, slots := 0, locals := 23 }
abbrev Q_X4_restart (dC : Nat → ClassId) (dI : Nat → Nat → Nat) (cI cJ cZ : ClassId) (a_ctx : Nat) (a_states : Nat) (a_likely : Nat) (A : Nat → Prop) (states_n : Nat) (states_f : Nat → Int32) (likely_n : Nat) (likely_f : Nat → Int32) (g : ((Nat → Int32) × (Nat → Int32))) : Array Value → State → Outcome → State → Prop := va_Qv (fun _ : Unit => True) (fun u t => va_P (dC, dI) vwCl (wd_ctx_states_likely cI a_ctx a_states a_likely states_n g.1 likely_n g.2) t.heap ∧ va_K (dC, dI) vwCl [(cI, .int), (cJ, .long), (cZ, .boolean)] t ∧ va_D A (wd_ctx_states_likely cI a_ctx a_states a_likely states_n g.1 likely_n g.2)) A
theorem iw_X4_restart_X4 : ∀ w ∈ u_ws RX4 TX4 2, w ∈ wsX4_restart := by decide +kernel
set_option maxHeartbeats 4000000 in
set_option maxRecDepth 100000 in
theorem c_X4_restart (l : Launch) (dC : Nat → ClassId) (dI : Nat → Nat → Nat) (cI cJ cZ : ClassId) (a_ctx : Nat) (a_states : Nat) (a_likely : Nat) (sz : Nat) (states_n : Nat) (states_f : Nat → Int32) (likely_n : Nat) (likely_f : Nat → Int32) (hpre : P_X4_restart states_n states_f likely_n likely_f) : Met l yX4_restart wsX4_restart rm_X4_restart (va_Pc [.ref a_ctx] (fun U => U.heap.size = sz ∧ va_P (dC, dI) vwCl (wd_ctx_states_likely cI a_ctx a_states a_likely states_n states_f likely_n likely_f) U.heap ∧ va_K (dC, dI) vwCl [(cI, .int), (cJ, .long), (cZ, .boolean)] U ∧ va_D (fun _ => True) (wd_ctx_states_likely cI a_ctx a_states a_likely states_n states_f likely_n likely_f))) (Q_X4_restart dC dI cI cJ cZ a_ctx a_states a_likely (va_A (wd_ctx_states_likely cI a_ctx a_states a_likely states_n states_f likely_n likely_f) sz) states_n states_f likely_n likely_f (F_X4_restart states_n states_f likely_n likely_f)) 0 0 (va_A (wd_ctx_states_likely cI a_ctx a_states a_likely states_n states_f likely_n likely_f) sz) := by
  refine Met.ofW (cc := cX4_restart) (maxL := 1) (ret := none) (by decide) rfl ?_
  intro p e s m args below meth c s₁ B hml hv
  obtain ⟨rfl, hsz, hP, hK, hD0⟩ := hv
  have hx := B.exec
  have hb := B.bytes
  have hr := B.returns
  have hts := atoms_spec (ws := wsX4_restart) B.pre
  have hown : s.vm.findClass RX4 = some m.cls := findClass_of_methodNamed B.named
  have hlocks := B.notSynchronized
  subst hsz
  have hD := hD0.self (sz := s.heap.size)
  generalize hAe : va_A (wd_ctx_states_likely cI a_ctx a_states a_likely states_n states_f likely_n likely_f) s.heap.size = A at hD ⊢
  have hA : ∀ q : Nat, s.heap.size ≤ q → A q := fun q h => by rw [← hAe]; exact Or.inr h
  have hS : va_S A s.heap s.heap [] := va_S.rf
  obtain ⟨H, hH⟩ : ∃ z, z = s.heap := ⟨_, rfl⟩
  have hP : va_P (dC, dI) vwCl (wd_ctx_states_likely cI a_ctx a_states a_likely states_n states_f likely_n likely_f) H := by rw [hH]; exact hP
  have hS : va_S A s.heap H [] := by rw [hH]; exact va_S.rf
  obtain ⟨g, hg⟩ : ∃ z, F_X4_restart states_n states_f likely_n likely_f = z := ⟨_, rfl⟩
  rw [hg]
  generalize hQe : MQ below (Q_X4_restart dC dI cI cJ cZ a_ctx a_states a_likely A states_n states_f likely_n likely_f g) _ s 0 0 A = Q
  rw [← hH]
  clear hH
  have hl := lv_entry ([.ref a_ctx]) (n := 1) (Nat.le_of_ble_eq_true rfl)
  rw [lg_entry_eq]
  generalize (lg_sl ([.ref a_ctx]) ++ List.replicate (1 - (lg_sl ([.ref a_ctx])).length) Slot.unset).toArray = ls at hl ⊢
  have hl : lv_has ls 1 [(0, .ref a_ctx)] := hl
  unfold F_X4_restart at hg
  unfold P_X4_restart at hpre
  refine lv_aload_n hx hb dX4_restart_0 rfl (lv_at hl 0 rfl) ?_
  refine va_get (D := (dC, dI)) (ci := 3) (v := .ref a_states) (C := RX4) (T := TX4) (N := 2) hx hb hts iw_X4_restart_X4 hown hK hP 0 rfl rfl 0 (by decide) (hts (.fieldLink RX4 9 "PlaneBlocks$Contexts" "states" "[I") (by decide +kernel)) (fun _ h9 => h9) rfl dX4_restart_1 ?_
  refine lv_iconst (v := 0) hx hb dX4_restart_4 (by decide) ?_
  have hPc := hP.sub (ws' := (wd_states cI a_states states_n states_f)) [1] rfl
  have hDc := hD.sub (ws' := (wd_states cI a_states states_n states_f)) [1] (by decide) rfl
  have hFc := va_free (wc := (wd_states cI a_states states_n states_f)) hD hS hA [1] rfl
  refine va_callv (va_runS (As := [.ref a_states, .int (0 : Int32)]) (rest := []) ⟨hx, hb, hml, hown, hts⟩ (c_J7_fill_53178 l dC dI cI cJ cZ a_states H.size states_n states_f (0 : Int32) hpre.1) (va_cwS 2 hts gX4_restart_J7_fill_53178 rfl rfl rfl (by decide +kernel) ⟨Nat.le_of_ble_eq_true rfl, Nat.le_of_ble_eq_true rfl⟩) ⟨fun a U g mk q => by obtain ⟨q0, q1, qP, qK, qD⟩ := q; exact ⟨q0, q1, qP, va_K.moved (u := U) (U := U.calling g mk a) (Vm.Alike.refl U.vm) qK, qD⟩, fun U hU hW => ⟨rfl, by rw [hU], by rw [hU]; exact hPc, va_K.moved hW.alike hK, hDc.weaken (fun _ _ _ _ => trivial)⟩⟩ rfl rfl hl.1 rfl (lv_room (Nat.le_of_ble_eq_true rfl)) dX4_restart_5 ⟨Nat.le_of_ble_eq_true rfl, Nat.le_of_ble_eq_true rfl⟩) hS (fun q _ h => hFc q h) hFc (fun u t H1 locs ht hvm hw hB hz1 hk1 hS => ?_)
  obtain ⟨hP1, hK1, hD1⟩ := hB
  rw [ht] at hP1
  obtain ⟨r_1, hr_1⟩ : ∃ z, F_J7_fill_53178 (0 : Int32) states_n states_f = z := ⟨_, rfl⟩
  try rw [hr_1] at hw
  try rw [hr_1] at hP1
  try rw [hr_1] at hD1
  have hg : (let r_2 := F_J7_fill_53178 (0 : Int32) likely_n likely_f; (upd (upd (upd r_1 (0 : Int32).toNatClampNeg (4 : Int32)) (17 : Int32).toNatClampNeg (3 : Int32)) (18 : Int32).toNatClampNeg (46 : Int32), r_2)) = g := by first | (rw [hr_1] at hg; exact hg) | (subst hr_1; exact hg)
  obtain ⟨hP, hD⟩ := va_join (wr := [(a_ctx, .inr (3, [.ref a_states, .ref a_likely])), (a_likely, .inl (cI, likely_n, .inl likely_f))]) (w1 := (wd_states cI a_states states_n r_1)) hP hD [1] [0, 2] rfl rfl (by decide) (by decide) hk1 hFc hP1 hD1
  have hP : va_P (dC, dI) vwCl (wd_ctx_states_likely cI a_ctx a_states a_likely states_n r_1 likely_n likely_f) H1 := hP.sub [0, 2, 1] rfl
  have hD : va_D A (wd_ctx_states_likely cI a_ctx a_states a_likely states_n r_1 likely_n likely_f) := hD.sub [0, 2, 1] (by decide) rfl
  generalize H1 = H at hP hS ⊢
  have hpre := hpre.2 r_1 hr_1
  refine lv_aload_n hx hb dX4_restart_8 rfl (lv_at hl 0 rfl) ?_
  refine va_get (D := (dC, dI)) (ci := 3) (v := .ref a_likely) (C := RX4) (T := TX4) (N := 2) hx hb hts iw_X4_restart_X4 hown hK hP 0 rfl rfl 1 (by decide) (hts (.fieldLink RX4 15 "PlaneBlocks$Contexts" "likely" "[I") (by decide +kernel)) (fun _ h9 => h9) rfl dX4_restart_9 ?_
  refine lv_iconst (v := 0) hx hb dX4_restart_12 (by decide) ?_
  have hPc := hP.sub (ws' := (wd_likely cI a_likely likely_n likely_f)) [2] rfl
  have hDc := hD.sub (ws' := (wd_likely cI a_likely likely_n likely_f)) [2] (by decide) rfl
  have hFc := va_free (wc := (wd_likely cI a_likely likely_n likely_f)) hD hS hA [2] rfl
  refine va_callv (va_runS (As := [.ref a_likely, .int (0 : Int32)]) (rest := []) ⟨hx, hb, hml, hown, hts⟩ (c_J7_fill_53178 l dC dI cI cJ cZ a_likely H.size likely_n likely_f (0 : Int32) hpre.1) (va_cwS 2 hts gX4_restart_J7_fill_53178 rfl rfl rfl (by decide +kernel) ⟨Nat.le_of_ble_eq_true rfl, Nat.le_of_ble_eq_true rfl⟩) ⟨fun a U g mk q => by obtain ⟨q0, q1, qP, qK, qD⟩ := q; exact ⟨q0, q1, qP, va_K.moved (u := U) (U := U.calling g mk a) (Vm.Alike.refl U.vm) qK, qD⟩, fun U hU hW => ⟨rfl, by rw [hU], by rw [hU]; exact hPc, va_K.moved hW.alike hK, hDc.weaken (fun _ _ _ _ => trivial)⟩⟩ rfl rfl hl.1 rfl (lv_room (Nat.le_of_ble_eq_true rfl)) dX4_restart_13 ⟨Nat.le_of_ble_eq_true rfl, Nat.le_of_ble_eq_true rfl⟩) hS (fun q _ h => hFc q h) hFc (fun u t H1 locs ht hvm hw hB hz1 hk1 hS => ?_)
  obtain ⟨hP1, hK1, hD1⟩ := hB
  rw [ht] at hP1
  obtain ⟨r_2, hr_2⟩ : ∃ z, F_J7_fill_53178 (0 : Int32) likely_n likely_f = z := ⟨_, rfl⟩
  try rw [hr_2] at hw
  try rw [hr_2] at hP1
  try rw [hr_2] at hD1
  have hg : (upd (upd (upd r_1 (0 : Int32).toNatClampNeg (4 : Int32)) (17 : Int32).toNatClampNeg (3 : Int32)) (18 : Int32).toNatClampNeg (46 : Int32), r_2) = g := by first | (rw [hr_2] at hg; exact hg) | (subst hr_2; exact hg)
  obtain ⟨hP, hD⟩ := va_join (wr := [(a_ctx, .inr (3, [.ref a_states, .ref a_likely])), (a_states, .inl (cI, states_n, .inl r_1))]) (w1 := (wd_likely cI a_likely likely_n r_2)) hP hD [2] [0, 1] rfl rfl (by decide) (by decide) hk1 hFc hP1 hD1
  have hP : va_P (dC, dI) vwCl (wd_ctx_states_likely cI a_ctx a_states a_likely states_n r_1 likely_n r_2) H1 := hP.sub [0, 1, 2] rfl
  have hD : va_D A (wd_ctx_states_likely cI a_ctx a_states a_likely states_n r_1 likely_n r_2) := hD.sub [0, 1, 2] (by decide) rfl
  generalize H1 = H at hP hS ⊢
  have hpre := hpre.2 r_2 hr_2
  refine lv_aload_n hx hb dX4_restart_16 rfl (lv_at hl 0 rfl) ?_
  refine va_get (D := (dC, dI)) (ci := 3) (v := .ref a_states) (C := RX4) (T := TX4) (N := 2) hx hb hts iw_X4_restart_X4 hown hK hP 0 rfl rfl 0 (by decide) (hts (.fieldLink RX4 9 "PlaneBlocks$Contexts" "states" "[I") (by decide +kernel)) (fun _ h9 => h9) rfl dX4_restart_17 ?_
  refine lv_iconst (v := 0) hx hb dX4_restart_20 (by decide) ?_
  refine lv_iconst (v := 4) hx hb dX4_restart_21 (by decide) ?_
  have h_3 := hpre.1
  have hpre := hpre.2
  refine va_iast hx hb hK hP hD hS 1 0 rfl rfl h_3 dX4_restart_22 (fun H locs hP hD hS => ?_)
  have hP : va_P (dC, dI) vwCl (wd_ctx_states_likely cI a_ctx a_states a_likely states_n (upd r_1 (0 : Int32).toNatClampNeg (4 : Int32)) likely_n r_2) H := hP
  have hD : va_D A (wd_ctx_states_likely cI a_ctx a_states a_likely states_n (upd r_1 (0 : Int32).toNatClampNeg (4 : Int32)) likely_n r_2) := hD
  refine lv_aload_n hx hb dX4_restart_23 rfl (lv_at hl 0 rfl) ?_
  refine va_get (D := (dC, dI)) (ci := 3) (v := .ref a_states) (C := RX4) (T := TX4) (N := 2) hx hb hts iw_X4_restart_X4 hown hK hP 0 rfl rfl 0 (by decide) (hts (.fieldLink RX4 9 "PlaneBlocks$Contexts" "states" "[I") (by decide +kernel)) (fun _ h9 => h9) rfl dX4_restart_24 ?_
  refine lv_bipush (v := 17) hx hb dX4_restart_27 (by decide) ?_
  refine lv_iconst (v := 3) hx hb dX4_restart_29 (by decide) ?_
  have h_4 := hpre.1
  have hpre := hpre.2
  refine va_iast hx hb hK hP hD hS 1 0 rfl rfl h_4 dX4_restart_30 (fun H locs hP hD hS => ?_)
  have hP : va_P (dC, dI) vwCl (wd_ctx_states_likely cI a_ctx a_states a_likely states_n (upd (upd r_1 (0 : Int32).toNatClampNeg (4 : Int32)) (17 : Int32).toNatClampNeg (3 : Int32)) likely_n r_2) H := hP
  have hD : va_D A (wd_ctx_states_likely cI a_ctx a_states a_likely states_n (upd (upd r_1 (0 : Int32).toNatClampNeg (4 : Int32)) (17 : Int32).toNatClampNeg (3 : Int32)) likely_n r_2) := hD
  refine lv_aload_n hx hb dX4_restart_31 rfl (lv_at hl 0 rfl) ?_
  refine va_get (D := (dC, dI)) (ci := 3) (v := .ref a_states) (C := RX4) (T := TX4) (N := 2) hx hb hts iw_X4_restart_X4 hown hK hP 0 rfl rfl 0 (by decide) (hts (.fieldLink RX4 9 "PlaneBlocks$Contexts" "states" "[I") (by decide +kernel)) (fun _ h9 => h9) rfl dX4_restart_32 ?_
  refine lv_bipush (v := 18) hx hb dX4_restart_35 (by decide) ?_
  refine lv_bipush (v := 46) hx hb dX4_restart_37 (by decide) ?_
  have h_5 := hpre
  refine va_iast hx hb hK hP hD hS 1 0 rfl rfl h_5 dX4_restart_39 (fun H locs hP hD hS => ?_)
  have hP : va_P (dC, dI) vwCl (wd_ctx_states_likely cI a_ctx a_states a_likely states_n (upd (upd (upd r_1 (0 : Int32).toNatClampNeg (4 : Int32)) (17 : Int32).toNatClampNeg (3 : Int32)) (18 : Int32).toNatClampNeg (46 : Int32)) likely_n r_2) H := hP
  have hD : va_D A (wd_ctx_states_likely cI a_ctx a_states a_likely states_n (upd (upd (upd r_1 (0 : Int32).toNatClampNeg (4 : Int32)) (17 : Int32).toNatClampNeg (3 : Int32)) (18 : Int32).toNatClampNeg (46 : Int32)) likely_n r_2) := hD
  subst hg
  rw [← hQe]
  exact W.vret hx hb hr (fun t ht hW => ⟨⟨(), rfl, trivial, by rw [ht]; exact hP, va_K.moved hW.alike hK, hD⟩, hS.F ht⟩) hS.2.2 dX4_restart_40

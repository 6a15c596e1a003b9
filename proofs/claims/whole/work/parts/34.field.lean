abbrev wd_fld (a_fld : Nat) (a_coef : Nat) (a_mags : Nat) (a_marks : Nat) (fld_wide : Int32) (fld_high : Int32) (fld_band : Int32) (fld_causal : Int32) : va_W := [(a_fld, .inr (4, [.int fld_wide, .int fld_high, .ref a_coef, .ref a_mags, .ref a_marks, .int fld_band, .int fld_causal]))]
abbrev rm_X5_holds : Room := { frames := 0, cells := 0, slots := 0, locals := 0 }
abbrev Q_X5_holds (dC : Nat → ClassId) (dI : Nat → Nat → Nat) (cI cJ cZ : ClassId) (a_fld : Nat) (a_coef : Nat) (a_mags : Nat) (a_marks : Nat) (A : Nat → Prop) (fld_wide : Int32) (fld_high : Int32) (fld_band : Int32) (fld_causal : Int32) (g : Int32) : Array Value → State → Outcome → State → Prop := va_Qi (fun (r : Int32) (_ : Unit) => r = g) (fun u t => va_P (dC, dI) vwCl (wd_fld a_fld a_coef a_mags a_marks fld_wide fld_high fld_band fld_causal) t.heap ∧ va_K (dC, dI) vwCl [(cI, .int), (cJ, .long), (cZ, .boolean)] t ∧ va_D A (wd_fld a_fld a_coef a_mags a_marks fld_wide fld_high fld_band fld_causal)) A
theorem iw_X5_holds_X5 : ∀ w ∈ u_ws RX5 TX5 7, w ∈ wsX5_holds := by decide +kernel
set_option maxHeartbeats 4000000 in
set_option maxRecDepth 100000 in
theorem c_X5_holds (l : Launch) (dC : Nat → ClassId) (dI : Nat → Nat → Nat) (cI cJ cZ : ClassId) (a_fld : Nat) (a_coef : Nat) (a_mags : Nat) (a_marks : Nat) (sz : Nat) (fld_wide : Int32) (fld_high : Int32) (fld_band : Int32) (fld_causal : Int32) (p1 : Int32) (p2 : Int32) : Met l yX5_holds wsX5_holds rm_X5_holds (va_Pc [.ref a_fld, .int p1, .int p2] (fun U => U.heap.size = sz ∧ va_P (dC, dI) vwCl (wd_fld a_fld a_coef a_mags a_marks fld_wide fld_high fld_band fld_causal) U.heap ∧ va_K (dC, dI) vwCl [(cI, .int), (cJ, .long), (cZ, .boolean)] U ∧ va_D (fun _ => True) (wd_fld a_fld a_coef a_mags a_marks fld_wide fld_high fld_band fld_causal))) (Q_X5_holds dC dI cI cJ cZ a_fld a_coef a_mags a_marks (va_A (wd_fld a_fld a_coef a_mags a_marks fld_wide fld_high fld_band fld_causal) sz) fld_wide fld_high fld_band fld_causal (F_X5_holds p1 p2 fld_wide fld_high)) 0 0 (va_A (wd_fld a_fld a_coef a_mags a_marks fld_wide fld_high fld_band fld_causal) sz) := by
  refine Met.ofW (cc := cX5_holds) (maxL := 3) (ret := (some .boolean)) (by decide) rfl ?_
  intro p e s m args below meth c s₁ B hml hv
  obtain ⟨rfl, hsz, hP, hK, hD0⟩ := hv
  have hx := B.exec
  have hb := B.bytes
  have hr := B.returns
  have hts := atoms_spec (ws := wsX5_holds) B.pre
  have hown : s.vm.findClass RX5 = some m.cls := findClass_of_methodNamed B.named
  have hlocks := B.notSynchronized
  subst hsz
  have hD := hD0.self (sz := s.heap.size)
  generalize hAe : va_A (wd_fld a_fld a_coef a_mags a_marks fld_wide fld_high fld_band fld_causal) s.heap.size = A at hD ⊢
  have hA : ∀ q : Nat, s.heap.size ≤ q → A q := fun q h => by rw [← hAe]; exact Or.inr h
  have hS : va_S A s.heap s.heap [] := va_S.rf
  obtain ⟨H, hH⟩ : ∃ z, z = s.heap := ⟨_, rfl⟩
  have hP : va_P (dC, dI) vwCl (wd_fld a_fld a_coef a_mags a_marks fld_wide fld_high fld_band fld_causal) H := by rw [hH]; exact hP
  have hS : va_S A s.heap H [] := by rw [hH]; exact va_S.rf
  obtain ⟨g, hg⟩ : ∃ z, F_X5_holds p1 p2 fld_wide fld_high = z := ⟨_, rfl⟩
  rw [hg]
  generalize hQe : MQ below (Q_X5_holds dC dI cI cJ cZ a_fld a_coef a_mags a_marks A fld_wide fld_high fld_band fld_causal g) _ s 0 0 A = Q
  rw [← hH]
  clear hH
  have hl := lv_entry ([.ref a_fld, .int p1, .int p2]) (n := 3) (Nat.le_of_ble_eq_true rfl)
  rw [lg_entry_eq]
  generalize (lg_sl ([.ref a_fld, .int p1, .int p2]) ++ List.replicate (3 - (lg_sl ([.ref a_fld, .int p1, .int p2])).length) Slot.unset).toArray = ls at hl ⊢
  have hl : lv_has ls 3 [(0, .ref a_fld), (1, .int p1), (2, .int p2)] := hl
  unfold F_X5_holds at hg
  refine lv_iload_n hx hb dX5_holds_0 rfl (lv_at hl 1 rfl) ?_
  refine lv_if_lt (tgt := 28) hx hb dX5_holds_1 (by decide) (fun c_1 => ?_) (fun c_1 => ?_)
  · rw [if_pos c_1] at hg
    refine lv_iconst (v := 0) hx hb dX5_holds_28 (by decide) ?_
    subst hg
    rw [← hQe]
    exact W.zret (v := (0 : Int32)) (ty := .boolean) hx hb hr rfl (fun t ht hW => ⟨⟨(0 : Int32), (), rfl, rfl, by rw [ht]; exact hP, va_K.moved hW.alike hK, hD⟩, hS.F ht⟩) hS.2.2 dX5_holds_29
  · rw [if_neg c_1] at hg
    refine lv_iload_n hx hb dX5_holds_4 rfl (lv_at hl 1 rfl) ?_
    refine lv_aload_n hx hb dX5_holds_5 rfl (lv_at hl 0 rfl) ?_
    refine va_get (D := (dC, dI)) (ci := 4) (v := .int fld_wide) (C := RX5) (T := TX5) (N := 7) hx hb hts iw_X5_holds_X5 hown hK hP 0 rfl rfl 0 (by decide) (hts (.fieldLink RX5 11 "PlaneBlocks$Field" "wide" "I") (by decide +kernel)) (fun _ h9 => h9) rfl dX5_holds_6 ?_
    refine lv_icmp_ge (tgt := 28) hx hb dX5_holds_9 (by decide) (fun c_2 => ?_) (fun c_2 => ?_)
    · rw [if_pos c_2] at hg
      refine lv_iconst (v := 0) hx hb dX5_holds_28 (by decide) ?_
      subst hg
      rw [← hQe]
      exact W.zret (v := (0 : Int32)) (ty := .boolean) hx hb hr rfl (fun t ht hW => ⟨⟨(0 : Int32), (), rfl, rfl, by rw [ht]; exact hP, va_K.moved hW.alike hK, hD⟩, hS.F ht⟩) hS.2.2 dX5_holds_29
    · rw [if_neg c_2] at hg
      refine lv_iload_n hx hb dX5_holds_12 rfl (lv_at hl 2 rfl) ?_
      refine lv_if_lt (tgt := 28) hx hb dX5_holds_13 (by decide) (fun c_3 => ?_) (fun c_3 => ?_)
      · rw [if_pos c_3] at hg
        refine lv_iconst (v := 0) hx hb dX5_holds_28 (by decide) ?_
        subst hg
        rw [← hQe]
        exact W.zret (v := (0 : Int32)) (ty := .boolean) hx hb hr rfl (fun t ht hW => ⟨⟨(0 : Int32), (), rfl, rfl, by rw [ht]; exact hP, va_K.moved hW.alike hK, hD⟩, hS.F ht⟩) hS.2.2 dX5_holds_29
      · rw [if_neg c_3] at hg
        refine lv_iload_n hx hb dX5_holds_16 rfl (lv_at hl 2 rfl) ?_
        refine lv_aload_n hx hb dX5_holds_17 rfl (lv_at hl 0 rfl) ?_
        refine va_get (D := (dC, dI)) (ci := 4) (v := .int fld_high) (C := RX5) (T := TX5) (N := 7) hx hb hts iw_X5_holds_X5 hown hK hP 0 rfl rfl 1 (by decide) (hts (.fieldLink RX5 15 "PlaneBlocks$Field" "high" "I") (by decide +kernel)) (fun _ h9 => h9) rfl dX5_holds_18 ?_
        refine lv_icmp_ge (tgt := 28) hx hb dX5_holds_21 (by decide) (fun c_4 => ?_) (fun c_4 => ?_)
        · rw [if_pos c_4] at hg
          refine lv_iconst (v := 0) hx hb dX5_holds_28 (by decide) ?_
          subst hg
          rw [← hQe]
          exact W.zret (v := (0 : Int32)) (ty := .boolean) hx hb hr rfl (fun t ht hW => ⟨⟨(0 : Int32), (), rfl, rfl, by rw [ht]; exact hP, va_K.moved hW.alike hK, hD⟩, hS.F ht⟩) hS.2.2 dX5_holds_29
        · rw [if_neg c_4] at hg
          refine lv_iconst (v := 1) hx hb dX5_holds_24 (by decide) ?_
          refine lv_goto (tgt := 29) hx hb dX5_holds_25 (by decide) ?_
          subst hg
          rw [← hQe]
          exact W.zret (v := (1 : Int32)) (ty := .boolean) hx hb hr rfl (fun t ht hW => ⟨⟨(1 : Int32), (), rfl, rfl, by rw [ht]; exact hP, va_K.moved hW.alike hK, hD⟩, hS.F ht⟩) hS.2.2 dX5_holds_29
abbrev rm_X5_place : Room := { frames := 0, cells := 0, slots := 0, locals := 0 }
abbrev Q_X5_place (dC : Nat → ClassId) (dI : Nat → Nat → Nat) (cI cJ cZ : ClassId) (a_fld : Nat) (a_coef : Nat) (a_mags : Nat) (a_marks : Nat) (A : Nat → Prop) (fld_wide : Int32) (fld_high : Int32) (fld_band : Int32) (fld_causal : Int32) (g : Int32) : Array Value → State → Outcome → State → Prop := va_Qi (fun (r : Int32) (_ : Unit) => r = g) (fun u t => va_P (dC, dI) vwCl (wd_fld a_fld a_coef a_mags a_marks fld_wide fld_high fld_band fld_causal) t.heap ∧ va_K (dC, dI) vwCl [(cI, .int), (cJ, .long), (cZ, .boolean)] t ∧ va_D A (wd_fld a_fld a_coef a_mags a_marks fld_wide fld_high fld_band fld_causal)) A
theorem iw_X5_place_X5 : ∀ w ∈ u_ws RX5 TX5 7, w ∈ wsX5_place := by decide +kernel
set_option maxHeartbeats 4000000 in
set_option maxRecDepth 100000 in
theorem c_X5_place (l : Launch) (dC : Nat → ClassId) (dI : Nat → Nat → Nat) (cI cJ cZ : ClassId) (a_fld : Nat) (a_coef : Nat) (a_mags : Nat) (a_marks : Nat) (sz : Nat) (fld_wide : Int32) (fld_high : Int32) (fld_band : Int32) (fld_causal : Int32) (p1 : Int32) (p2 : Int32) : Met l yX5_place wsX5_place rm_X5_place (va_Pc [.ref a_fld, .int p1, .int p2] (fun U => U.heap.size = sz ∧ va_P (dC, dI) vwCl (wd_fld a_fld a_coef a_mags a_marks fld_wide fld_high fld_band fld_causal) U.heap ∧ va_K (dC, dI) vwCl [(cI, .int), (cJ, .long), (cZ, .boolean)] U ∧ va_D (fun _ => True) (wd_fld a_fld a_coef a_mags a_marks fld_wide fld_high fld_band fld_causal))) (Q_X5_place dC dI cI cJ cZ a_fld a_coef a_mags a_marks (va_A (wd_fld a_fld a_coef a_mags a_marks fld_wide fld_high fld_band fld_causal) sz) fld_wide fld_high fld_band fld_causal (F_X5_place p1 p2 fld_wide)) 0 0 (va_A (wd_fld a_fld a_coef a_mags a_marks fld_wide fld_high fld_band fld_causal) sz) := by
  refine Met.ofW (cc := cX5_place) (maxL := 3) (ret := (some .int)) (by decide) rfl ?_
  intro p e s m args below meth c s₁ B hml hv
  obtain ⟨rfl, hsz, hP, hK, hD0⟩ := hv
  have hx := B.exec
  have hb := B.bytes
  have hr := B.returns
  have hts := atoms_spec (ws := wsX5_place) B.pre
  have hown : s.vm.findClass RX5 = some m.cls := findClass_of_methodNamed B.named
  have hlocks := B.notSynchronized
  subst hsz
  have hD := hD0.self (sz := s.heap.size)
  generalize hAe : va_A (wd_fld a_fld a_coef a_mags a_marks fld_wide fld_high fld_band fld_causal) s.heap.size = A at hD ⊢
  have hA : ∀ q : Nat, s.heap.size ≤ q → A q := fun q h => by rw [← hAe]; exact Or.inr h
  have hS : va_S A s.heap s.heap [] := va_S.rf
  obtain ⟨H, hH⟩ : ∃ z, z = s.heap := ⟨_, rfl⟩
  have hP : va_P (dC, dI) vwCl (wd_fld a_fld a_coef a_mags a_marks fld_wide fld_high fld_band fld_causal) H := by rw [hH]; exact hP
  have hS : va_S A s.heap H [] := by rw [hH]; exact va_S.rf
  obtain ⟨g, hg⟩ : ∃ z, F_X5_place p1 p2 fld_wide = z := ⟨_, rfl⟩
  rw [hg]
  generalize hQe : MQ below (Q_X5_place dC dI cI cJ cZ a_fld a_coef a_mags a_marks A fld_wide fld_high fld_band fld_causal g) _ s 0 0 A = Q
  rw [← hH]
  clear hH
  have hl := lv_entry ([.ref a_fld, .int p1, .int p2]) (n := 3) (Nat.le_of_ble_eq_true rfl)
  rw [lg_entry_eq]
  generalize (lg_sl ([.ref a_fld, .int p1, .int p2]) ++ List.replicate (3 - (lg_sl ([.ref a_fld, .int p1, .int p2])).length) Slot.unset).toArray = ls at hl ⊢
  have hl : lv_has ls 3 [(0, .ref a_fld), (1, .int p1), (2, .int p2)] := hl
  unfold F_X5_place at hg
  refine lv_iload_n hx hb dX5_place_0 rfl (lv_at hl 2 rfl) ?_
  refine lv_aload_n hx hb dX5_place_1 rfl (lv_at hl 0 rfl) ?_
  refine va_get (D := (dC, dI)) (ci := 4) (v := .int fld_wide) (C := RX5) (T := TX5) (N := 7) hx hb hts iw_X5_place_X5 hown hK hP 0 rfl rfl 0 (by decide) (hts (.fieldLink RX5 11 "PlaneBlocks$Field" "wide" "I") (by decide +kernel)) (fun _ h9 => h9) rfl dX5_place_2 ?_
  refine lv_imul hx hb dX5_place_5 ?_
  refine lv_iload_n hx hb dX5_place_6 rfl (lv_at hl 1 rfl) ?_
  refine lv_iadd hx hb dX5_place_7 ?_
  subst hg
  rw [← hQe]
  exact W.iret (v := ((p2 * fld_wide) + p1)) hx hb hr (fun t ht hW => ⟨⟨((p2 * fld_wide) + p1), (), rfl, rfl, by rw [ht]; exact hP, va_K.moved hW.alike hK, hD⟩, hS.F ht⟩) hS.2.2 dX5_place_8
abbrev wd_fld_coef (cI : ClassId) (a_fld : Nat) (a_coef : Nat) (a_mags : Nat) (a_marks : Nat) (fld_wide : Int32) (fld_high : Int32) (fld_band : Int32) (fld_causal : Int32) (coef_n : Nat) (coef_f : Nat → Int32) : va_W := [(a_fld, .inr (4, [.int fld_wide, .int fld_high, .ref a_coef, .ref a_mags, .ref a_marks, .int fld_band, .int fld_causal])), (a_coef, .inl (cI, coef_n, .inl coef_f))]
abbrev rm_X5_planes : Room := { frames := 1, cells := 0, slots := 0, locals := 21 }
abbrev Q_X5_planes (dC : Nat → ClassId) (dI : Nat → Nat → Nat) (cI cJ cZ : ClassId) (a_fld : Nat) (a_coef : Nat) (a_mags : Nat) (a_marks : Nat) (A : Nat → Prop) (fld_wide : Int32) (fld_high : Int32) (fld_band : Int32) (fld_causal : Int32) (coef_n : Nat) (coef_f : Nat → Int32) (g : Int32) : Array Value → State → Outcome → State → Prop := va_Qi (fun (r : Int32) (_ : Unit) => r = g) (fun u t => va_P (dC, dI) vwCl (wd_fld_coef cI a_fld a_coef a_mags a_marks fld_wide fld_high fld_band fld_causal coef_n coef_f) t.heap ∧ va_K (dC, dI) vwCl [(cI, .int), (cJ, .long), (cZ, .boolean)] t ∧ va_D A (wd_fld_coef cI a_fld a_coef a_mags a_marks fld_wide fld_high fld_band fld_causal coef_n coef_f)) A
theorem iw_X5_planes_X5 : ∀ w ∈ u_ws RX5 TX5 7, w ∈ wsX5_planes := by decide +kernel
set_option maxHeartbeats 4000000 in
set_option maxRecDepth 100000 in
theorem c_X5_planes (l : Launch) (dC : Nat → ClassId) (dI : Nat → Nat → Nat) (cI cJ cZ : ClassId) (a_fld : Nat) (a_coef : Nat) (a_mags : Nat) (a_marks : Nat) (sz : Nat) (fld_wide : Int32) (fld_high : Int32) (fld_band : Int32) (fld_causal : Int32) (coef_n : Nat) (coef_f : Nat → Int32) (hpre : P_X5_planes fld_wide fld_high coef_n coef_f) : Met l yX5_planes wsX5_planes rm_X5_planes (va_Pc [.ref a_fld] (fun U => U.heap.size = sz ∧ va_P (dC, dI) vwCl (wd_fld_coef cI a_fld a_coef a_mags a_marks fld_wide fld_high fld_band fld_causal coef_n coef_f) U.heap ∧ va_K (dC, dI) vwCl [(cI, .int), (cJ, .long), (cZ, .boolean)] U ∧ va_D (fun _ => True) (wd_fld_coef cI a_fld a_coef a_mags a_marks fld_wide fld_high fld_band fld_causal coef_n coef_f))) (Q_X5_planes dC dI cI cJ cZ a_fld a_coef a_mags a_marks (va_A (wd_fld_coef cI a_fld a_coef a_mags a_marks fld_wide fld_high fld_band fld_causal coef_n coef_f) sz) fld_wide fld_high fld_band fld_causal coef_n coef_f (F_X5_planes fld_wide fld_high coef_f)) 0 0 (va_A (wd_fld_coef cI a_fld a_coef a_mags a_marks fld_wide fld_high fld_band fld_causal coef_n coef_f) sz) := by
  refine Met.ofW (cc := cX5_planes) (maxL := 3) (ret := (some .int)) (by decide) rfl ?_
  intro p e s m args below meth c s₁ B hml hv
  obtain ⟨rfl, hsz, hP, hK, hD0⟩ := hv
  have hx := B.exec
  have hb := B.bytes
  have hr := B.returns
  have hts := atoms_spec (ws := wsX5_planes) B.pre
  have hown : s.vm.findClass RX5 = some m.cls := findClass_of_methodNamed B.named
  have hlocks := B.notSynchronized
  subst hsz
  have hD := hD0.self (sz := s.heap.size)
  generalize hAe : va_A (wd_fld_coef cI a_fld a_coef a_mags a_marks fld_wide fld_high fld_band fld_causal coef_n coef_f) s.heap.size = A at hD ⊢
  have hA : ∀ q : Nat, s.heap.size ≤ q → A q := fun q h => by rw [← hAe]; exact Or.inr h
  have hS : va_S A s.heap s.heap [] := va_S.rf
  obtain ⟨H, hH⟩ : ∃ z, z = s.heap := ⟨_, rfl⟩
  have hP : va_P (dC, dI) vwCl (wd_fld_coef cI a_fld a_coef a_mags a_marks fld_wide fld_high fld_band fld_causal coef_n coef_f) H := by rw [hH]; exact hP
  have hS : va_S A s.heap H [] := by rw [hH]; exact va_S.rf
  obtain ⟨g, hg⟩ : ∃ z, F_X5_planes fld_wide fld_high coef_f = z := ⟨_, rfl⟩
  rw [hg]
  generalize hQe : MQ below (Q_X5_planes dC dI cI cJ cZ a_fld a_coef a_mags a_marks A fld_wide fld_high fld_band fld_causal coef_n coef_f g) _ s 0 0 A = Q
  rw [← hH]
  clear hH
  have hl := lv_entry ([.ref a_fld]) (n := 3) (Nat.le_of_ble_eq_true rfl)
  rw [lg_entry_eq]
  generalize (lg_sl ([.ref a_fld]) ++ List.replicate (3 - (lg_sl ([.ref a_fld])).length) Slot.unset).toArray = ls at hl ⊢
  have hl : lv_has ls 3 [(0, .ref a_fld)] := hl
  unfold F_X5_planes at hg
  unfold P_X5_planes at hpre
  refine lv_iconst (v := 0) hx hb dX5_planes_0 (by decide) ?_
  refine lv_istore_n (lv' := [(1, .int (0 : Int32)), (0, .ref a_fld)]) hx hb dX5_planes_1 rfl hl (by decide) rfl (fun ls hl => ?_)
  refine lv_iconst (v := 0) hx hb dX5_planes_2 (by decide) ?_
  refine lv_istore_n (lv' := [(2, .int (0 : Int32)), (1, .int (0 : Int32)), (0, .ref a_fld)]) hx hb dX5_planes_3 rfl hl (by decide) rfl (fun ls hl => ?_)
  obtain ⟨j_1, hj_1⟩ : ∃ z, L_X5_planes_j_1 fld_wide fld_high coef_f fu (0 : Int32) (0 : Int32) = z := ⟨_, rfl⟩
  have hg : (let r_4 := F_J6_numberOfLeadingZeros_0f7a4 j_1.1; (32 : Int32) - r_4) = g := by first | (rw [hj_1] at hg; exact hg) | (subst hj_1; exact hg)
  have hJ_j_1 : ∀ (H : Heap) (locs : List Loc) (ls : Array Slot), va_P (dC, dI) vwCl (wd_fld_coef cI a_fld a_coef a_mags a_marks fld_wide fld_high fld_band fld_causal coef_n coef_f) H → va_D A (wd_fld_coef cI a_fld a_coef a_mags a_marks fld_wide fld_high fld_band fld_causal coef_n coef_f) → va_S A s.heap H locs → lv_has ls 3 [(0, .ref a_fld), (1, .int j_1.1), (2, .int j_1.2)] → W p l e (headSpec wsX5_planes rm_X5_planes).room s m ([.ref a_fld] : List Value).toArray below meth c H locs 0 0 Q (F0 m 35 ls []) := by
    intro H locs ls hP hD hS hl
    refine lv_bipush (v := 32) hx hb dX5_planes_35 (by decide) ?_
    refine lv_iload_n hx hb dX5_planes_37 rfl (lv_at hl 1 rfl) ?_
    have hPc := hP.sub (ws' := (wd_)) [] rfl
    have hDc := hD.sub (ws' := (wd_)) [] (by decide) rfl
    have hFc := va_free (wc := (wd_)) hD hS hA [] rfl
    refine va_calli (va_runS (As := [.int j_1.1]) (rest := [.int (32 : Int32)]) ⟨hx, hb, hml, hown, hts⟩ (c_J6_numberOfLeadingZeros_0f7a4 l dC dI cI cJ cZ  H.size j_1.1) (va_cwS 1 hts gX5_planes_J6_numberOfLeadingZeros_0f7a4 rfl rfl rfl (by decide +kernel) ⟨Nat.le_of_ble_eq_true rfl, Nat.le_of_ble_eq_true rfl⟩) ⟨fun a U g mk q => by obtain ⟨q0, q1, qP, qK, qD⟩ := q; exact ⟨q0, q1, qP, va_K.moved (u := U) (U := U.calling g mk a) (Vm.Alike.refl U.vm) qK, qD⟩, fun U hU hW => ⟨rfl, by rw [hU], by rw [hU]; exact hPc, va_K.moved hW.alike hK, hDc.weaken (fun _ _ _ _ => trivial)⟩⟩ rfl rfl hl.1 rfl (lv_room (Nat.le_of_ble_eq_true rfl)) dX5_planes_38 ⟨Nat.le_of_ble_eq_true rfl, Nat.le_of_ble_eq_true rfl⟩) hS (fun q _ h => hFc q h) hFc (fun r u t H1 locs ht hvm hw hB hz1 hk1 hS => ?_)
    obtain ⟨hP1, hK1, hD1⟩ := hB
    rw [ht] at hP1
    obtain ⟨r_4, hr_4⟩ : ∃ z, F_J6_numberOfLeadingZeros_0f7a4 j_1.1 = z := ⟨_, rfl⟩
    try rw [hr_4] at hw
    try rw [hr_4] at hP1
    try rw [hr_4] at hD1
    have hg : ((32 : Int32) - r_4) = g := by first | (rw [hr_4] at hg; exact hg) | (subst hr_4; exact hg)
    have hw := hw.symm
    subst hw
    obtain ⟨hP, hD⟩ := va_join (wr := [(a_fld, .inr (4, [.int fld_wide, .int fld_high, .ref a_coef, .ref a_mags, .ref a_marks, .int fld_band, .int fld_causal])), (a_coef, .inl (cI, coef_n, .inl coef_f))]) (w1 := (wd_)) hP hD [] [0, 1] rfl rfl (by decide) (by decide) hk1 hFc hP1 hD1
    have hP : va_P (dC, dI) vwCl (wd_fld_coef cI a_fld a_coef a_mags a_marks fld_wide fld_high fld_band fld_causal coef_n coef_f) H1 := hP.sub [0, 1] rfl
    have hD : va_D A (wd_fld_coef cI a_fld a_coef a_mags a_marks fld_wide fld_high fld_band fld_causal coef_n coef_f) := hD.sub [0, 1] (by decide) rfl
    generalize H1 = H at hP hS ⊢
    refine lv_isub hx hb dX5_planes_41 ?_
    subst hg
    rw [← hQe]
    exact W.iret (v := ((32 : Int32) - r_4)) hx hb hr (fun t ht hW => ⟨⟨((32 : Int32) - r_4), (), rfl, rfl, by rw [ht]; exact hP, va_K.moved hW.alike hK, hD⟩, hS.F ht⟩) hS.2.2 dX5_planes_42
  have hL_j_1 : ∀ (n : Nat) (v1_j_1 : Int32) (v2_j_1 : Int32) (H : Heap) (locs : List Loc) (ls : Array Slot), PL_X5_planes_j_1 fld_wide fld_high coef_n coef_f n v1_j_1 v2_j_1 → L_X5_planes_j_1 fld_wide fld_high coef_f n v1_j_1 v2_j_1 = j_1 → va_P (dC, dI) vwCl (wd_fld_coef cI a_fld a_coef a_mags a_marks fld_wide fld_high fld_band fld_causal coef_n coef_f) H → va_D A (wd_fld_coef cI a_fld a_coef a_mags a_marks fld_wide fld_high fld_band fld_causal coef_n coef_f) → va_S A s.heap H locs → lv_has ls 3 [(0, .ref a_fld), (1, .int v1_j_1), (2, .int v2_j_1)] → W p l e (headSpec wsX5_planes rm_X5_planes).room s m ([.ref a_fld] : List Value).toArray below meth c H locs 0 0 Q (F0 m 4 ls []) := by
    intro n
    induction n with
    | zero => intro v1_j_1 v2_j_1 H locs ls hpre; exact absurd hpre id
    | succ n ih =>
      intro v1_j_1 v2_j_1 H locs ls hpre hg hP hD hS hl
      rw [PL_X5_planes_j_1] at hpre
      rw [L_X5_planes_j_1] at hg
      refine lv_iload_n hx hb dX5_planes_4 rfl (lv_at hl 2 rfl) ?_
      refine lv_aload_n hx hb dX5_planes_5 rfl (lv_at hl 0 rfl) ?_
      refine va_get (D := (dC, dI)) (ci := 4) (v := .int fld_wide) (C := RX5) (T := TX5) (N := 7) hx hb hts iw_X5_planes_X5 hown hK hP 0 rfl rfl 0 (by decide) (hts (.fieldLink RX5 11 "PlaneBlocks$Field" "wide" "I") (by decide +kernel)) (fun _ h9 => h9) rfl dX5_planes_6 ?_
      refine lv_aload_n hx hb dX5_planes_9 rfl (lv_at hl 0 rfl) ?_
      refine va_get (D := (dC, dI)) (ci := 4) (v := .int fld_high) (C := RX5) (T := TX5) (N := 7) hx hb hts iw_X5_planes_X5 hown hK hP 0 rfl rfl 1 (by decide) (hts (.fieldLink RX5 15 "PlaneBlocks$Field" "high" "I") (by decide +kernel)) (fun _ h9 => h9) rfl dX5_planes_10 ?_
      refine lv_imul hx hb dX5_planes_13 ?_
      refine lv_icmp_ge (tgt := 35) hx hb dX5_planes_14 (by decide) (fun c_2 => ?_) (fun c_2 => ?_)
      · rw [if_pos c_2] at hg
        exact hJ_j_1 _ _ _ hP hD hS (by rw [← hg]; exact lv_sub hl [0, 1, 2] rfl)
      · rw [if_neg c_2] at hg
        have hpre := hpre c_2
        refine lv_iload_n hx hb dX5_planes_17 rfl (lv_at hl 1 rfl) ?_
        refine lv_aload_n hx hb dX5_planes_18 rfl (lv_at hl 0 rfl) ?_
        refine va_get (D := (dC, dI)) (ci := 4) (v := .ref a_coef) (C := RX5) (T := TX5) (N := 7) hx hb hts iw_X5_planes_X5 hown hK hP 0 rfl rfl 2 (by decide) (hts (.fieldLink RX5 18 "PlaneBlocks$Field" "coefficients" "[I") (by decide +kernel)) (fun _ h9 => h9) rfl dX5_planes_19 ?_
        refine lv_iload_n hx hb dX5_planes_22 rfl (lv_at hl 2 rfl) ?_
        have h_3 := hpre.1
        have hpre := hpre.2
        refine va_iald hx hb hK hP 1 0 rfl rfl h_3 dX5_planes_23 ?_
        refine va_mabs hx hb (hml.trans hl.1.symm) hown (hts (.methodLink RX5 50 Lib.Math.abs.name) (by decide +kernel)) (hts (.static Lib.Math.abs.name) (by decide +kernel)) (hts (.initialized "java/lang/Math") (by decide +kernel)) (hts (.code Lib.Math.abs.name Lib.Math.abs.code 1 (some .int)) (by decide +kernel)) (Nat.le_of_ble_eq_true rfl) (Nat.le_of_ble_eq_true rfl) (Nat.le_of_ble_eq_true rfl) (Nat.le_of_ble_eq_true rfl) dX5_planes_24 ?_
        refine lv_ior hx hb dX5_planes_27 ?_
        refine lv_istore_n (lv' := [(1, .int (v1_j_1 ||| (if (0 : Int32) ≤ (coef_f v2_j_1.toNatClampNeg) then (coef_f v2_j_1.toNatClampNeg) else (0 : Int32) - (coef_f v2_j_1.toNatClampNeg)))), (0, .ref a_fld), (2, .int v2_j_1)]) hx hb dX5_planes_28 rfl hl (by decide) rfl (fun ls hl => ?_)
        refine lv_iinc (v := (v2_j_1 + (1 : Int32))) (lv' := [(2, .int (v2_j_1 + (1 : Int32))), (1, .int (v1_j_1 ||| (if (0 : Int32) ≤ (coef_f v2_j_1.toNatClampNeg) then (coef_f v2_j_1.toNatClampNeg) else (0 : Int32) - (coef_f v2_j_1.toNatClampNeg)))), (0, .ref a_fld)]) hx hb dX5_planes_29 hl (k := 2) rfl rfl (by decide) rfl (fun ls hl => ?_)
        refine lv_goto (tgt := 4) hx hb dX5_planes_32 (by decide) ?_
        exact ih (v1_j_1 ||| (if (0 : Int32) ≤ (coef_f v2_j_1.toNatClampNeg) then (coef_f v2_j_1.toNatClampNeg) else (0 : Int32) - (coef_f v2_j_1.toNatClampNeg))) (v2_j_1 + (1 : Int32)) _ _ _ hpre hg hP hD hS (lv_sub hl [2, 1, 0] rfl)
  exact hL_j_1 fu (0 : Int32) (0 : Int32) _ _ _ hpre hj_1 hP hD hS (lv_sub hl [2, 1, 0] rfl)
abbrev wd_mags (cI : ClassId) (a_mags : Nat) (mags_n : Nat) (mags_f : Nat → Int32) : va_W := [(a_mags, .inl (cI, mags_n, .inl mags_f))]
abbrev wd_fld_mags_marks (cI : ClassId) (a_fld : Nat) (a_coef : Nat) (a_mags : Nat) (a_marks : Nat) (fld_wide : Int32) (fld_high : Int32) (fld_band : Int32) (fld_causal : Int32) (mags_n : Nat) (mags_f : Nat → Int32) (marks_n : Nat) (marks_f : Nat → Int32) : va_W := [(a_fld, .inr (4, [.int fld_wide, .int fld_high, .ref a_coef, .ref a_mags, .ref a_marks, .int fld_band, .int fld_causal])), (a_mags, .inl (cI, mags_n, .inl mags_f)), (a_marks, .inl (cI, marks_n, .inl marks_f))]
abbrev wd_marks (cI : ClassId) (a_marks : Nat) (marks_n : Nat) (marks_f : Nat → Int32) : va_W := [(a_marks, .inl (cI, marks_n, .inl marks_f))]
abbrev rm_X5_forget : Room := { frames := 1, cells := 0, slots := 0, locals := 23 }
abbrev Q_X5_forget (dC : Nat → ClassId) (dI : Nat → Nat → Nat) (cI cJ cZ : ClassId) (a_fld : Nat) (a_coef : Nat) (a_mags : Nat) (a_marks : Nat) (A : Nat → Prop) (fld_wide : Int32) (fld_high : Int32) (fld_band : Int32) (fld_causal : Int32) (mags_n : Nat) (mags_f : Nat → Int32) (marks_n : Nat) (marks_f : Nat → Int32) (g : ((Nat → Int32) × (Nat → Int32))) : Array Value → State → Outcome → State → Prop := va_Qv (fun _ : Unit => True) (fun u t => va_P (dC, dI) vwCl (wd_fld_mags_marks cI a_fld a_coef a_mags a_marks fld_wide fld_high fld_band fld_causal mags_n g.1 marks_n g.2) t.heap ∧ va_K (dC, dI) vwCl [(cI, .int), (cJ, .long), (cZ, .boolean)] t ∧ va_D A (wd_fld_mags_marks cI a_fld a_coef a_mags a_marks fld_wide fld_high fld_band fld_causal mags_n g.1 marks_n g.2)) A
theorem iw_X5_forget_X5 : ∀ w ∈ u_ws RX5 TX5 7, w ∈ wsX5_forget := by decide +kernel
set_option maxHeartbeats 4000000 in
set_option maxRecDepth 100000 in
theorem c_X5_forget (l : Launch) (dC : Nat → ClassId) (dI : Nat → Nat → Nat) (cI cJ cZ : ClassId) (a_fld : Nat) (a_coef : Nat) (a_mags : Nat) (a_marks : Nat) (sz : Nat) (fld_wide : Int32) (fld_high : Int32) (fld_band : Int32) (fld_causal : Int32) (mags_n : Nat) (mags_f : Nat → Int32) (marks_n : Nat) (marks_f : Nat → Int32) (hpre : P_X5_forget mags_n mags_f marks_n marks_f) : Met l yX5_forget wsX5_forget rm_X5_forget (va_Pc [.ref a_fld] (fun U => U.heap.size = sz ∧ va_P (dC, dI) vwCl (wd_fld_mags_marks cI a_fld a_coef a_mags a_marks fld_wide fld_high fld_band fld_causal mags_n mags_f marks_n marks_f) U.heap ∧ va_K (dC, dI) vwCl [(cI, .int), (cJ, .long), (cZ, .boolean)] U ∧ va_D (fun _ => True) (wd_fld_mags_marks cI a_fld a_coef a_mags a_marks fld_wide fld_high fld_band fld_causal mags_n mags_f marks_n marks_f))) (Q_X5_forget dC dI cI cJ cZ a_fld a_coef a_mags a_marks (va_A (wd_fld_mags_marks cI a_fld a_coef a_mags a_marks fld_wide fld_high fld_band fld_causal mags_n mags_f marks_n marks_f) sz) fld_wide fld_high fld_band fld_causal mags_n mags_f marks_n marks_f (F_X5_forget mags_n mags_f marks_n marks_f)) 0 0 (va_A (wd_fld_mags_marks cI a_fld a_coef a_mags a_marks fld_wide fld_high fld_band fld_causal mags_n mags_f marks_n marks_f) sz) := by
  refine Met.ofW (cc := cX5_forget) (maxL := 1) (ret := none) (by decide) rfl ?_
  intro p e s m args below meth c s₁ B hml hv
  obtain ⟨rfl, hsz, hP, hK, hD0⟩ := hv
  have hx := B.exec
  have hb := B.bytes
  have hr := B.returns
  have hts := atoms_spec (ws := wsX5_forget) B.pre
  have hown : s.vm.findClass RX5 = some m.cls := findClass_of_methodNamed B.named
  have hlocks := B.notSynchronized
  subst hsz
  have hD := hD0.self (sz := s.heap.size)
  generalize hAe : va_A (wd_fld_mags_marks cI a_fld a_coef a_mags a_marks fld_wide fld_high fld_band fld_causal mags_n mags_f marks_n marks_f) s.heap.size = A at hD ⊢
  have hA : ∀ q : Nat, s.heap.size ≤ q → A q := fun q h => by rw [← hAe]; exact Or.inr h
  have hS : va_S A s.heap s.heap [] := va_S.rf
  obtain ⟨H, hH⟩ : ∃ z, z = s.heap := ⟨_, rfl⟩
  have hP : va_P (dC, dI) vwCl (wd_fld_mags_marks cI a_fld a_coef a_mags a_marks fld_wide fld_high fld_band fld_causal mags_n mags_f marks_n marks_f) H := by rw [hH]; exact hP
  have hS : va_S A s.heap H [] := by rw [hH]; exact va_S.rf
  obtain ⟨g, hg⟩ : ∃ z, F_X5_forget mags_n mags_f marks_n marks_f = z := ⟨_, rfl⟩
  rw [hg]
  generalize hQe : MQ below (Q_X5_forget dC dI cI cJ cZ a_fld a_coef a_mags a_marks A fld_wide fld_high fld_band fld_causal mags_n mags_f marks_n marks_f g) _ s 0 0 A = Q
  rw [← hH]
  clear hH
  have hl := lv_entry ([.ref a_fld]) (n := 1) (Nat.le_of_ble_eq_true rfl)
  rw [lg_entry_eq]
  generalize (lg_sl ([.ref a_fld]) ++ List.replicate (1 - (lg_sl ([.ref a_fld])).length) Slot.unset).toArray = ls at hl ⊢
  have hl : lv_has ls 1 [(0, .ref a_fld)] := hl
  unfold F_X5_forget at hg
  unfold P_X5_forget at hpre
  refine lv_aload_n hx hb dX5_forget_0 rfl (lv_at hl 0 rfl) ?_
  refine va_get (D := (dC, dI)) (ci := 4) (v := .ref a_mags) (C := RX5) (T := TX5) (N := 7) hx hb hts iw_X5_forget_X5 hown hK hP 0 rfl rfl 3 (by decide) (hts (.fieldLink RX5 22 "PlaneBlocks$Field" "magnitudes" "[I") (by decide +kernel)) (fun _ h9 => h9) rfl dX5_forget_1 ?_
  refine lv_iconst (v := 0) hx hb dX5_forget_4 (by decide) ?_
  have hPc := hP.sub (ws' := (wd_mags cI a_mags mags_n mags_f)) [1] rfl
  have hDc := hD.sub (ws' := (wd_mags cI a_mags mags_n mags_f)) [1] (by decide) rfl
  have hFc := va_free (wc := (wd_mags cI a_mags mags_n mags_f)) hD hS hA [1] rfl
  refine va_callv (va_runS (As := [.ref a_mags, .int (0 : Int32)]) (rest := []) ⟨hx, hb, hml, hown, hts⟩ (c_J7_fill_53178 l dC dI cI cJ cZ a_mags H.size mags_n mags_f (0 : Int32) hpre.1) (va_cwS 2 hts gX5_forget_J7_fill_53178 rfl rfl rfl (by decide +kernel) ⟨Nat.le_of_ble_eq_true rfl, Nat.le_of_ble_eq_true rfl⟩) ⟨fun a U g mk q => by obtain ⟨q0, q1, qP, qK, qD⟩ := q; exact ⟨q0, q1, qP, va_K.moved (u := U) (U := U.calling g mk a) (Vm.Alike.refl U.vm) qK, qD⟩, fun U hU hW => ⟨rfl, by rw [hU], by rw [hU]; exact hPc, va_K.moved hW.alike hK, hDc.weaken (fun _ _ _ _ => trivial)⟩⟩ rfl rfl hl.1 rfl (lv_room (Nat.le_of_ble_eq_true rfl)) dX5_forget_5 ⟨Nat.le_of_ble_eq_true rfl, Nat.le_of_ble_eq_true rfl⟩) hS (fun q _ h => hFc q h) hFc (fun u t H1 locs ht hvm hw hB hz1 hk1 hS => ?_)
  obtain ⟨hP1, hK1, hD1⟩ := hB
  rw [ht] at hP1
  obtain ⟨r_1, hr_1⟩ : ∃ z, F_J7_fill_53178 (0 : Int32) mags_n mags_f = z := ⟨_, rfl⟩
  try rw [hr_1] at hw
  try rw [hr_1] at hP1
  try rw [hr_1] at hD1
  have hg : (let r_2 := F_J7_fill_53178 (0 : Int32) marks_n marks_f; (r_1, r_2)) = g := by first | (rw [hr_1] at hg; exact hg) | (subst hr_1; exact hg)
  obtain ⟨hP, hD⟩ := va_join (wr := [(a_fld, .inr (4, [.int fld_wide, .int fld_high, .ref a_coef, .ref a_mags, .ref a_marks, .int fld_band, .int fld_causal])), (a_marks, .inl (cI, marks_n, .inl marks_f))]) (w1 := (wd_mags cI a_mags mags_n r_1)) hP hD [1] [0, 2] rfl rfl (by decide) (by decide) hk1 hFc hP1 hD1
  have hP : va_P (dC, dI) vwCl (wd_fld_mags_marks cI a_fld a_coef a_mags a_marks fld_wide fld_high fld_band fld_causal mags_n r_1 marks_n marks_f) H1 := hP.sub [0, 2, 1] rfl
  have hD : va_D A (wd_fld_mags_marks cI a_fld a_coef a_mags a_marks fld_wide fld_high fld_band fld_causal mags_n r_1 marks_n marks_f) := hD.sub [0, 2, 1] (by decide) rfl
  generalize H1 = H at hP hS ⊢
  have hpre := hpre.2 r_1 hr_1
  refine lv_aload_n hx hb dX5_forget_8 rfl (lv_at hl 0 rfl) ?_
  refine va_get (D := (dC, dI)) (ci := 4) (v := .ref a_marks) (C := RX5) (T := TX5) (N := 7) hx hb hts iw_X5_forget_X5 hown hK hP 0 rfl rfl 4 (by decide) (hts (.fieldLink RX5 25 "PlaneBlocks$Field" "marks" "[I") (by decide +kernel)) (fun _ h9 => h9) rfl dX5_forget_9 ?_
  refine lv_iconst (v := 0) hx hb dX5_forget_12 (by decide) ?_
  have hPc := hP.sub (ws' := (wd_marks cI a_marks marks_n marks_f)) [2] rfl
  have hDc := hD.sub (ws' := (wd_marks cI a_marks marks_n marks_f)) [2] (by decide) rfl
  have hFc := va_free (wc := (wd_marks cI a_marks marks_n marks_f)) hD hS hA [2] rfl
  refine va_callv (va_runS (As := [.ref a_marks, .int (0 : Int32)]) (rest := []) ⟨hx, hb, hml, hown, hts⟩ (c_J7_fill_53178 l dC dI cI cJ cZ a_marks H.size marks_n marks_f (0 : Int32) hpre) (va_cwS 2 hts gX5_forget_J7_fill_53178 rfl rfl rfl (by decide +kernel) ⟨Nat.le_of_ble_eq_true rfl, Nat.le_of_ble_eq_true rfl⟩) ⟨fun a U g mk q => by obtain ⟨q0, q1, qP, qK, qD⟩ := q; exact ⟨q0, q1, qP, va_K.moved (u := U) (U := U.calling g mk a) (Vm.Alike.refl U.vm) qK, qD⟩, fun U hU hW => ⟨rfl, by rw [hU], by rw [hU]; exact hPc, va_K.moved hW.alike hK, hDc.weaken (fun _ _ _ _ => trivial)⟩⟩ rfl rfl hl.1 rfl (lv_room (Nat.le_of_ble_eq_true rfl)) dX5_forget_13 ⟨Nat.le_of_ble_eq_true rfl, Nat.le_of_ble_eq_true rfl⟩) hS (fun q _ h => hFc q h) hFc (fun u t H1 locs ht hvm hw hB hz1 hk1 hS => ?_)
  obtain ⟨hP1, hK1, hD1⟩ := hB
  rw [ht] at hP1
  obtain ⟨r_2, hr_2⟩ : ∃ z, F_J7_fill_53178 (0 : Int32) marks_n marks_f = z := ⟨_, rfl⟩
  try rw [hr_2] at hw
  try rw [hr_2] at hP1
  try rw [hr_2] at hD1
  have hg : (r_1, r_2) = g := by first | (rw [hr_2] at hg; exact hg) | (subst hr_2; exact hg)
  obtain ⟨hP, hD⟩ := va_join (wr := [(a_fld, .inr (4, [.int fld_wide, .int fld_high, .ref a_coef, .ref a_mags, .ref a_marks, .int fld_band, .int fld_causal])), (a_mags, .inl (cI, mags_n, .inl r_1))]) (w1 := (wd_marks cI a_marks marks_n r_2)) hP hD [2] [0, 1] rfl rfl (by decide) (by decide) hk1 hFc hP1 hD1
  have hP : va_P (dC, dI) vwCl (wd_fld_mags_marks cI a_fld a_coef a_mags a_marks fld_wide fld_high fld_band fld_causal mags_n r_1 marks_n r_2) H1 := hP.sub [0, 1, 2] rfl
  have hD : va_D A (wd_fld_mags_marks cI a_fld a_coef a_mags a_marks fld_wide fld_high fld_band fld_causal mags_n r_1 marks_n r_2) := hD.sub [0, 1, 2] (by decide) rfl
  generalize H1 = H at hP hS ⊢
  subst hg
  rw [← hQe]
  exact W.vret hx hb hr (fun t ht hW => ⟨⟨(), rfl, trivial, by rw [ht]; exact hP, va_K.moved hW.alike hK, hD⟩, hS.F ht⟩) hS.2.2 dX5_forget_16
abbrev wd_fld_marks (cI : ClassId) (a_fld : Nat) (a_coef : Nat) (a_mags : Nat) (a_marks : Nat) (fld_wide : Int32) (fld_high : Int32) (fld_band : Int32) (fld_causal : Int32) (marks_n : Nat) (marks_f : Nat → Int32) : va_W := [(a_fld, .inr (4, [.int fld_wide, .int fld_high, .ref a_coef, .ref a_mags, .ref a_marks, .int fld_band, .int fld_causal])), (a_marks, .inl (cI, marks_n, .inl marks_f))]
abbrev rm_X5_forgetSeen : Room := { frames := 0, cells := 0, slots := 0, locals := 0 }
abbrev Q_X5_forgetSeen (dC : Nat → ClassId) (dI : Nat → Nat → Nat) (cI cJ cZ : ClassId) (a_fld : Nat) (a_coef : Nat) (a_mags : Nat) (a_marks : Nat) (A : Nat → Prop) (fld_wide : Int32) (fld_high : Int32) (fld_band : Int32) (fld_causal : Int32) (marks_n : Nat) (marks_f : Nat → Int32) (g : (Nat → Int32)) : Array Value → State → Outcome → State → Prop := va_Qv (fun _ : Unit => True) (fun u t => va_P (dC, dI) vwCl (wd_fld_marks cI a_fld a_coef a_mags a_marks fld_wide fld_high fld_band fld_causal marks_n g) t.heap ∧ va_K (dC, dI) vwCl [(cI, .int), (cJ, .long), (cZ, .boolean)] t ∧ va_D A (wd_fld_marks cI a_fld a_coef a_mags a_marks fld_wide fld_high fld_band fld_causal marks_n g)) A
theorem iw_X5_forgetSeen_X5 : ∀ w ∈ u_ws RX5 TX5 7, w ∈ wsX5_forgetSeen := by decide +kernel
set_option maxHeartbeats 4000000 in
set_option maxRecDepth 100000 in
theorem c_X5_forgetSeen (l : Launch) (dC : Nat → ClassId) (dI : Nat → Nat → Nat) (cI cJ cZ : ClassId) (a_fld : Nat) (a_coef : Nat) (a_mags : Nat) (a_marks : Nat) (sz : Nat) (fld_wide : Int32) (fld_high : Int32) (fld_band : Int32) (fld_causal : Int32) (marks_n : Nat) (marks_f : Nat → Int32) (hpre : P_X5_forgetSeen fld_wide fld_high marks_n marks_f) : Met l yX5_forgetSeen wsX5_forgetSeen rm_X5_forgetSeen (va_Pc [.ref a_fld] (fun U => U.heap.size = sz ∧ va_P (dC, dI) vwCl (wd_fld_marks cI a_fld a_coef a_mags a_marks fld_wide fld_high fld_band fld_causal marks_n marks_f) U.heap ∧ va_K (dC, dI) vwCl [(cI, .int), (cJ, .long), (cZ, .boolean)] U ∧ va_D (fun _ => True) (wd_fld_marks cI a_fld a_coef a_mags a_marks fld_wide fld_high fld_band fld_causal marks_n marks_f))) (Q_X5_forgetSeen dC dI cI cJ cZ a_fld a_coef a_mags a_marks (va_A (wd_fld_marks cI a_fld a_coef a_mags a_marks fld_wide fld_high fld_band fld_causal marks_n marks_f) sz) fld_wide fld_high fld_band fld_causal marks_n marks_f (F_X5_forgetSeen fld_wide fld_high marks_f)) 0 0 (va_A (wd_fld_marks cI a_fld a_coef a_mags a_marks fld_wide fld_high fld_band fld_causal marks_n marks_f) sz) := by
  refine Met.ofW (cc := cX5_forgetSeen) (maxL := 2) (ret := none) (by decide) rfl ?_
  intro p e s m args below meth c s₁ B hml hv
  obtain ⟨rfl, hsz, hP, hK, hD0⟩ := hv
  have hx := B.exec
  have hb := B.bytes
  have hr := B.returns
  have hts := atoms_spec (ws := wsX5_forgetSeen) B.pre
  have hown : s.vm.findClass RX5 = some m.cls := findClass_of_methodNamed B.named
  have hlocks := B.notSynchronized
  subst hsz
  have hD := hD0.self (sz := s.heap.size)
  generalize hAe : va_A (wd_fld_marks cI a_fld a_coef a_mags a_marks fld_wide fld_high fld_band fld_causal marks_n marks_f) s.heap.size = A at hD ⊢
  have hA : ∀ q : Nat, s.heap.size ≤ q → A q := fun q h => by rw [← hAe]; exact Or.inr h
  have hS : va_S A s.heap s.heap [] := va_S.rf
  obtain ⟨H, hH⟩ : ∃ z, z = s.heap := ⟨_, rfl⟩
  have hP : va_P (dC, dI) vwCl (wd_fld_marks cI a_fld a_coef a_mags a_marks fld_wide fld_high fld_band fld_causal marks_n marks_f) H := by rw [hH]; exact hP
  have hS : va_S A s.heap H [] := by rw [hH]; exact va_S.rf
  obtain ⟨g, hg⟩ : ∃ z, F_X5_forgetSeen fld_wide fld_high marks_f = z := ⟨_, rfl⟩
  rw [hg]
  generalize hQe : MQ below (Q_X5_forgetSeen dC dI cI cJ cZ a_fld a_coef a_mags a_marks A fld_wide fld_high fld_band fld_causal marks_n marks_f g) _ s 0 0 A = Q
  rw [← hH]
  clear hH
  have hl := lv_entry ([.ref a_fld]) (n := 2) (Nat.le_of_ble_eq_true rfl)
  rw [lg_entry_eq]
  generalize (lg_sl ([.ref a_fld]) ++ List.replicate (2 - (lg_sl ([.ref a_fld])).length) Slot.unset).toArray = ls at hl ⊢
  have hl : lv_has ls 2 [(0, .ref a_fld)] := hl
  unfold F_X5_forgetSeen at hg
  unfold P_X5_forgetSeen at hpre
  refine lv_iconst (v := 0) hx hb dX5_forgetSeen_0 (by decide) ?_
  refine lv_istore_n (lv' := [(1, .int (0 : Int32)), (0, .ref a_fld)]) hx hb dX5_forgetSeen_1 rfl hl (by decide) rfl (fun ls hl => ?_)
  obtain ⟨j_1, hj_1⟩ : ∃ z, L_X5_forgetSeen_j_1 fld_wide fld_high fu (0 : Int32) marks_f = z := ⟨_, rfl⟩
  have hg : j_1.2 = g := by first | (rw [hj_1] at hg; exact hg) | (subst hj_1; exact hg)
  have hJ_j_1 : ∀ (H : Heap) (locs : List Loc) (ls : Array Slot), va_P (dC, dI) vwCl (wd_fld_marks cI a_fld a_coef a_mags a_marks fld_wide fld_high fld_band fld_causal marks_n j_1.2) H → va_D A (wd_fld_marks cI a_fld a_coef a_mags a_marks fld_wide fld_high fld_band fld_causal marks_n j_1.2) → va_S A s.heap H locs → lv_has ls 2 [(0, .ref a_fld), (1, .int j_1.1)] → W p l e (headSpec wsX5_forgetSeen rm_X5_forgetSeen).room s m ([.ref a_fld] : List Value).toArray below meth c H locs 0 0 Q (F0 m 33 ls []) := by
    intro H locs ls hP hD hS hl
    subst hg
    rw [← hQe]
    exact W.vret hx hb hr (fun t ht hW => ⟨⟨(), rfl, trivial, by rw [ht]; exact hP, va_K.moved hW.alike hK, hD⟩, hS.F ht⟩) hS.2.2 dX5_forgetSeen_33
  have hL_j_1 : ∀ (n : Nat) (v1_j_1 : Int32) (marks_f_j_1 : Nat → Int32) (H : Heap) (locs : List Loc) (ls : Array Slot), PL_X5_forgetSeen_j_1 fld_wide fld_high marks_n n v1_j_1 marks_f_j_1 → L_X5_forgetSeen_j_1 fld_wide fld_high n v1_j_1 marks_f_j_1 = j_1 → va_P (dC, dI) vwCl (wd_fld_marks cI a_fld a_coef a_mags a_marks fld_wide fld_high fld_band fld_causal marks_n marks_f_j_1) H → va_D A (wd_fld_marks cI a_fld a_coef a_mags a_marks fld_wide fld_high fld_band fld_causal marks_n marks_f_j_1) → va_S A s.heap H locs → lv_has ls 2 [(0, .ref a_fld), (1, .int v1_j_1)] → W p l e (headSpec wsX5_forgetSeen rm_X5_forgetSeen).room s m ([.ref a_fld] : List Value).toArray below meth c H locs 0 0 Q (F0 m 2 ls []) := by
    intro n
    induction n with
    | zero => intro v1_j_1 marks_f_j_1 H locs ls hpre; exact absurd hpre id
    | succ n ih =>
      intro v1_j_1 marks_f_j_1 H locs ls hpre hg hP hD hS hl
      rw [PL_X5_forgetSeen_j_1] at hpre
      rw [L_X5_forgetSeen_j_1] at hg
      refine lv_iload_n hx hb dX5_forgetSeen_2 rfl (lv_at hl 1 rfl) ?_
      refine lv_aload_n hx hb dX5_forgetSeen_3 rfl (lv_at hl 0 rfl) ?_
      refine va_get (D := (dC, dI)) (ci := 4) (v := .int fld_wide) (C := RX5) (T := TX5) (N := 7) hx hb hts iw_X5_forgetSeen_X5 hown hK hP 0 rfl rfl 0 (by decide) (hts (.fieldLink RX5 11 "PlaneBlocks$Field" "wide" "I") (by decide +kernel)) (fun _ h9 => h9) rfl dX5_forgetSeen_4 ?_
      refine lv_aload_n hx hb dX5_forgetSeen_7 rfl (lv_at hl 0 rfl) ?_
      refine va_get (D := (dC, dI)) (ci := 4) (v := .int fld_high) (C := RX5) (T := TX5) (N := 7) hx hb hts iw_X5_forgetSeen_X5 hown hK hP 0 rfl rfl 1 (by decide) (hts (.fieldLink RX5 15 "PlaneBlocks$Field" "high" "I") (by decide +kernel)) (fun _ h9 => h9) rfl dX5_forgetSeen_8 ?_
      refine lv_imul hx hb dX5_forgetSeen_11 ?_
      refine lv_icmp_ge (tgt := 33) hx hb dX5_forgetSeen_12 (by decide) (fun c_2 => ?_) (fun c_2 => ?_)
      · rw [if_pos c_2] at hg
        exact hJ_j_1 _ _ _ (by rw [← hg]; exact hP) (by rw [← hg]; exact hD) hS (by rw [← hg]; exact lv_sub hl [0, 1] rfl)
      · rw [if_neg c_2] at hg
        have hpre := hpre c_2
        refine lv_aload_n hx hb dX5_forgetSeen_15 rfl (lv_at hl 0 rfl) ?_
        refine va_get (D := (dC, dI)) (ci := 4) (v := .ref a_marks) (C := RX5) (T := TX5) (N := 7) hx hb hts iw_X5_forgetSeen_X5 hown hK hP 0 rfl rfl 4 (by decide) (hts (.fieldLink RX5 25 "PlaneBlocks$Field" "marks" "[I") (by decide +kernel)) (fun _ h9 => h9) rfl dX5_forgetSeen_16 ?_
        refine lv_iload_n hx hb dX5_forgetSeen_19 rfl (lv_at hl 1 rfl) ?_
        refine lv_dup2_11 hx hb dX5_forgetSeen_20 rfl rfl ?_
        have h_3 := hpre.1
        have hpre := hpre.2
        refine va_iald hx hb hK hP 1 0 rfl rfl h_3 dX5_forgetSeen_21 ?_
        refine lv_sipush (v := -8193) hx hb dX5_forgetSeen_22 (by decide) ?_
        refine lv_iand hx hb dX5_forgetSeen_25 ?_
        refine va_iast hx hb hK hP hD hS 1 0 rfl rfl h_3 dX5_forgetSeen_26 (fun H locs hP hD hS => ?_)
        have hP : va_P (dC, dI) vwCl (wd_fld_marks cI a_fld a_coef a_mags a_marks fld_wide fld_high fld_band fld_causal marks_n (upd marks_f_j_1 v1_j_1.toNatClampNeg ((marks_f_j_1 v1_j_1.toNatClampNeg) &&& (-8193 : Int32)))) H := hP
        have hD : va_D A (wd_fld_marks cI a_fld a_coef a_mags a_marks fld_wide fld_high fld_band fld_causal marks_n (upd marks_f_j_1 v1_j_1.toNatClampNeg ((marks_f_j_1 v1_j_1.toNatClampNeg) &&& (-8193 : Int32)))) := hD
        refine lv_iinc (v := (v1_j_1 + (1 : Int32))) (lv' := [(1, .int (v1_j_1 + (1 : Int32))), (0, .ref a_fld)]) hx hb dX5_forgetSeen_27 hl (k := 1) rfl rfl (by decide) rfl (fun ls hl => ?_)
        refine lv_goto (tgt := 2) hx hb dX5_forgetSeen_30 (by decide) ?_
        exact ih (v1_j_1 + (1 : Int32)) (upd marks_f_j_1 v1_j_1.toNatClampNeg ((marks_f_j_1 v1_j_1.toNatClampNeg) &&& (-8193 : Int32))) _ _ _ hpre hg hP hD hS (lv_sub hl [1, 0] rfl)
  exact hL_j_1 fu (0 : Int32) marks_f _ _ _ hpre hj_1 hP hD hS (lv_sub hl [1, 0] rfl)
abbrev rm_X5_bitOf : Room := { frames := 1, cells := 0, slots := 0, locals := 13 }
abbrev Q_X5_bitOf (dC : Nat → ClassId) (dI : Nat → Nat → Nat) (cI cJ cZ : ClassId) (a_fld : Nat) (a_coef : Nat) (a_mags : Nat) (a_marks : Nat) (A : Nat → Prop) (fld_wide : Int32) (fld_high : Int32) (fld_band : Int32) (fld_causal : Int32) (coef_n : Nat) (coef_f : Nat → Int32) (g : Int32) : Array Value → State → Outcome → State → Prop := va_Qi (fun (r : Int32) (_ : Unit) => r = g) (fun u t => va_P (dC, dI) vwCl (wd_fld_coef cI a_fld a_coef a_mags a_marks fld_wide fld_high fld_band fld_causal coef_n coef_f) t.heap ∧ va_K (dC, dI) vwCl [(cI, .int), (cJ, .long), (cZ, .boolean)] t ∧ va_D A (wd_fld_coef cI a_fld a_coef a_mags a_marks fld_wide fld_high fld_band fld_causal coef_n coef_f)) A
theorem iw_X5_bitOf_X5 : ∀ w ∈ u_ws RX5 TX5 7, w ∈ wsX5_bitOf := by decide +kernel
set_option maxHeartbeats 4000000 in
set_option maxRecDepth 100000 in
theorem c_X5_bitOf (l : Launch) (dC : Nat → ClassId) (dI : Nat → Nat → Nat) (cI cJ cZ : ClassId) (a_fld : Nat) (a_coef : Nat) (a_mags : Nat) (a_marks : Nat) (sz : Nat) (fld_wide : Int32) (fld_high : Int32) (fld_band : Int32) (fld_causal : Int32) (coef_n : Nat) (coef_f : Nat → Int32) (p1 : Int32) (p2 : Int32) (hpre : P_X5_bitOf p1 coef_n) : Met l yX5_bitOf wsX5_bitOf rm_X5_bitOf (va_Pc [.ref a_fld, .int p1, .int p2] (fun U => U.heap.size = sz ∧ va_P (dC, dI) vwCl (wd_fld_coef cI a_fld a_coef a_mags a_marks fld_wide fld_high fld_band fld_causal coef_n coef_f) U.heap ∧ va_K (dC, dI) vwCl [(cI, .int), (cJ, .long), (cZ, .boolean)] U ∧ va_D (fun _ => True) (wd_fld_coef cI a_fld a_coef a_mags a_marks fld_wide fld_high fld_band fld_causal coef_n coef_f))) (Q_X5_bitOf dC dI cI cJ cZ a_fld a_coef a_mags a_marks (va_A (wd_fld_coef cI a_fld a_coef a_mags a_marks fld_wide fld_high fld_band fld_causal coef_n coef_f) sz) fld_wide fld_high fld_band fld_causal coef_n coef_f (F_X5_bitOf p1 p2 coef_f)) 0 0 (va_A (wd_fld_coef cI a_fld a_coef a_mags a_marks fld_wide fld_high fld_band fld_causal coef_n coef_f) sz) := by
  refine Met.ofW (cc := cX5_bitOf) (maxL := 3) (ret := (some .int)) (by decide) rfl ?_
  intro p e s m args below meth c s₁ B hml hv
  obtain ⟨rfl, hsz, hP, hK, hD0⟩ := hv
  have hx := B.exec
  have hb := B.bytes
  have hr := B.returns
  have hts := atoms_spec (ws := wsX5_bitOf) B.pre
  have hown : s.vm.findClass RX5 = some m.cls := findClass_of_methodNamed B.named
  have hlocks := B.notSynchronized
  subst hsz
  have hD := hD0.self (sz := s.heap.size)
  generalize hAe : va_A (wd_fld_coef cI a_fld a_coef a_mags a_marks fld_wide fld_high fld_band fld_causal coef_n coef_f) s.heap.size = A at hD ⊢
  have hA : ∀ q : Nat, s.heap.size ≤ q → A q := fun q h => by rw [← hAe]; exact Or.inr h
  have hS : va_S A s.heap s.heap [] := va_S.rf
  obtain ⟨H, hH⟩ : ∃ z, z = s.heap := ⟨_, rfl⟩
  have hP : va_P (dC, dI) vwCl (wd_fld_coef cI a_fld a_coef a_mags a_marks fld_wide fld_high fld_band fld_causal coef_n coef_f) H := by rw [hH]; exact hP
  have hS : va_S A s.heap H [] := by rw [hH]; exact va_S.rf
  obtain ⟨g, hg⟩ : ∃ z, F_X5_bitOf p1 p2 coef_f = z := ⟨_, rfl⟩
  rw [hg]
  generalize hQe : MQ below (Q_X5_bitOf dC dI cI cJ cZ a_fld a_coef a_mags a_marks A fld_wide fld_high fld_band fld_causal coef_n coef_f g) _ s 0 0 A = Q
  rw [← hH]
  clear hH
  have hl := lv_entry ([.ref a_fld, .int p1, .int p2]) (n := 3) (Nat.le_of_ble_eq_true rfl)
  rw [lg_entry_eq]
  generalize (lg_sl ([.ref a_fld, .int p1, .int p2]) ++ List.replicate (3 - (lg_sl ([.ref a_fld, .int p1, .int p2])).length) Slot.unset).toArray = ls at hl ⊢
  have hl : lv_has ls 3 [(0, .ref a_fld), (1, .int p1), (2, .int p2)] := hl
  unfold F_X5_bitOf at hg
  unfold P_X5_bitOf at hpre
  refine lv_aload_n hx hb dX5_bitOf_0 rfl (lv_at hl 0 rfl) ?_
  refine va_get (D := (dC, dI)) (ci := 4) (v := .ref a_coef) (C := RX5) (T := TX5) (N := 7) hx hb hts iw_X5_bitOf_X5 hown hK hP 0 rfl rfl 2 (by decide) (hts (.fieldLink RX5 18 "PlaneBlocks$Field" "coefficients" "[I") (by decide +kernel)) (fun _ h9 => h9) rfl dX5_bitOf_1 ?_
  refine lv_iload_n hx hb dX5_bitOf_4 rfl (lv_at hl 1 rfl) ?_
  have h_1 := hpre
  refine va_iald hx hb hK hP 1 0 rfl rfl h_1 dX5_bitOf_5 ?_
  refine va_mabs hx hb (hml.trans hl.1.symm) hown (hts (.methodLink RX5 50 Lib.Math.abs.name) (by decide +kernel)) (hts (.static Lib.Math.abs.name) (by decide +kernel)) (hts (.initialized "java/lang/Math") (by decide +kernel)) (hts (.code Lib.Math.abs.name Lib.Math.abs.code 1 (some .int)) (by decide +kernel)) (Nat.le_of_ble_eq_true rfl) (Nat.le_of_ble_eq_true rfl) (Nat.le_of_ble_eq_true rfl) (Nat.le_of_ble_eq_true rfl) dX5_bitOf_6 ?_
  refine lv_iload_n hx hb dX5_bitOf_9 rfl (lv_at hl 2 rfl) ?_
  refine lv_ishr hx hb dX5_bitOf_10 ?_
  refine lv_iconst (v := 1) hx hb dX5_bitOf_11 (by decide) ?_
  refine lv_iand hx hb dX5_bitOf_12 ?_
  subst hg
  rw [← hQe]
  exact W.iret (v := (((if (0 : Int32) ≤ (coef_f p1.toNatClampNeg) then (coef_f p1.toNatClampNeg) else (0 : Int32) - (coef_f p1.toNatClampNeg)) >>> (p2 &&& 31)) &&& (1 : Int32))) hx hb hr (fun t ht hW => ⟨⟨(((if (0 : Int32) ≤ (coef_f p1.toNatClampNeg) then (coef_f p1.toNatClampNeg) else (0 : Int32) - (coef_f p1.toNatClampNeg)) >>> (p2 &&& 31)) &&& (1 : Int32)), (), rfl, rfl, by rw [ht]; exact hP, va_K.moved hW.alike hK, hD⟩, hS.F ht⟩) hS.2.2 dX5_bitOf_13
abbrev rm_X5_minusOf : Room := { frames := 0, cells := 0, slots := 0, locals := 0 }
abbrev Q_X5_minusOf (dC : Nat → ClassId) (dI : Nat → Nat → Nat) (cI cJ cZ : ClassId) (a_fld : Nat) (a_coef : Nat) (a_mags : Nat) (a_marks : Nat) (A : Nat → Prop) (fld_wide : Int32) (fld_high : Int32) (fld_band : Int32) (fld_causal : Int32) (coef_n : Nat) (coef_f : Nat → Int32) (g : Int32) : Array Value → State → Outcome → State → Prop := va_Qi (fun (r : Int32) (_ : Unit) => r = g) (fun u t => va_P (dC, dI) vwCl (wd_fld_coef cI a_fld a_coef a_mags a_marks fld_wide fld_high fld_band fld_causal coef_n coef_f) t.heap ∧ va_K (dC, dI) vwCl [(cI, .int), (cJ, .long), (cZ, .boolean)] t ∧ va_D A (wd_fld_coef cI a_fld a_coef a_mags a_marks fld_wide fld_high fld_band fld_causal coef_n coef_f)) A
theorem iw_X5_minusOf_X5 : ∀ w ∈ u_ws RX5 TX5 7, w ∈ wsX5_minusOf := by decide +kernel
set_option maxHeartbeats 4000000 in
set_option maxRecDepth 100000 in
theorem c_X5_minusOf (l : Launch) (dC : Nat → ClassId) (dI : Nat → Nat → Nat) (cI cJ cZ : ClassId) (a_fld : Nat) (a_coef : Nat) (a_mags : Nat) (a_marks : Nat) (sz : Nat) (fld_wide : Int32) (fld_high : Int32) (fld_band : Int32) (fld_causal : Int32) (coef_n : Nat) (coef_f : Nat → Int32) (p1 : Int32) (hpre : P_X5_minusOf p1 coef_n) : Met l yX5_minusOf wsX5_minusOf rm_X5_minusOf (va_Pc [.ref a_fld, .int p1] (fun U => U.heap.size = sz ∧ va_P (dC, dI) vwCl (wd_fld_coef cI a_fld a_coef a_mags a_marks fld_wide fld_high fld_band fld_causal coef_n coef_f) U.heap ∧ va_K (dC, dI) vwCl [(cI, .int), (cJ, .long), (cZ, .boolean)] U ∧ va_D (fun _ => True) (wd_fld_coef cI a_fld a_coef a_mags a_marks fld_wide fld_high fld_band fld_causal coef_n coef_f))) (Q_X5_minusOf dC dI cI cJ cZ a_fld a_coef a_mags a_marks (va_A (wd_fld_coef cI a_fld a_coef a_mags a_marks fld_wide fld_high fld_band fld_causal coef_n coef_f) sz) fld_wide fld_high fld_band fld_causal coef_n coef_f (F_X5_minusOf p1 coef_f)) 0 0 (va_A (wd_fld_coef cI a_fld a_coef a_mags a_marks fld_wide fld_high fld_band fld_causal coef_n coef_f) sz) := by
  refine Met.ofW (cc := cX5_minusOf) (maxL := 2) (ret := (some .int)) (by decide) rfl ?_
  intro p e s m args below meth c s₁ B hml hv
  obtain ⟨rfl, hsz, hP, hK, hD0⟩ := hv
  have hx := B.exec
  have hb := B.bytes
  have hr := B.returns
  have hts := atoms_spec (ws := wsX5_minusOf) B.pre
  have hown : s.vm.findClass RX5 = some m.cls := findClass_of_methodNamed B.named
  have hlocks := B.notSynchronized
  subst hsz
  have hD := hD0.self (sz := s.heap.size)
  generalize hAe : va_A (wd_fld_coef cI a_fld a_coef a_mags a_marks fld_wide fld_high fld_band fld_causal coef_n coef_f) s.heap.size = A at hD ⊢
  have hA : ∀ q : Nat, s.heap.size ≤ q → A q := fun q h => by rw [← hAe]; exact Or.inr h
  have hS : va_S A s.heap s.heap [] := va_S.rf
  obtain ⟨H, hH⟩ : ∃ z, z = s.heap := ⟨_, rfl⟩
  have hP : va_P (dC, dI) vwCl (wd_fld_coef cI a_fld a_coef a_mags a_marks fld_wide fld_high fld_band fld_causal coef_n coef_f) H := by rw [hH]; exact hP
  have hS : va_S A s.heap H [] := by rw [hH]; exact va_S.rf
  obtain ⟨g, hg⟩ : ∃ z, F_X5_minusOf p1 coef_f = z := ⟨_, rfl⟩
  rw [hg]
  generalize hQe : MQ below (Q_X5_minusOf dC dI cI cJ cZ a_fld a_coef a_mags a_marks A fld_wide fld_high fld_band fld_causal coef_n coef_f g) _ s 0 0 A = Q
  rw [← hH]
  clear hH
  have hl := lv_entry ([.ref a_fld, .int p1]) (n := 2) (Nat.le_of_ble_eq_true rfl)
  rw [lg_entry_eq]
  generalize (lg_sl ([.ref a_fld, .int p1]) ++ List.replicate (2 - (lg_sl ([.ref a_fld, .int p1])).length) Slot.unset).toArray = ls at hl ⊢
  have hl : lv_has ls 2 [(0, .ref a_fld), (1, .int p1)] := hl
  unfold F_X5_minusOf at hg
  unfold P_X5_minusOf at hpre
  refine lv_aload_n hx hb dX5_minusOf_0 rfl (lv_at hl 0 rfl) ?_
  refine va_get (D := (dC, dI)) (ci := 4) (v := .ref a_coef) (C := RX5) (T := TX5) (N := 7) hx hb hts iw_X5_minusOf_X5 hown hK hP 0 rfl rfl 2 (by decide) (hts (.fieldLink RX5 18 "PlaneBlocks$Field" "coefficients" "[I") (by decide +kernel)) (fun _ h9 => h9) rfl dX5_minusOf_1 ?_
  refine lv_iload_n hx hb dX5_minusOf_4 rfl (lv_at hl 1 rfl) ?_
  have h_1 := hpre
  refine va_iald hx hb hK hP 1 0 rfl rfl h_1 dX5_minusOf_5 ?_
  refine lv_if_ge (tgt := 13) hx hb dX5_minusOf_6 (by decide) (fun c_2 => ?_) (fun c_2 => ?_)
  · rw [if_pos c_2] at hg
    refine lv_iconst (v := 0) hx hb dX5_minusOf_13 (by decide) ?_
    subst hg
    rw [← hQe]
    exact W.iret (v := (0 : Int32)) hx hb hr (fun t ht hW => ⟨⟨(0 : Int32), (), rfl, rfl, by rw [ht]; exact hP, va_K.moved hW.alike hK, hD⟩, hS.F ht⟩) hS.2.2 dX5_minusOf_14
  · rw [if_neg c_2] at hg
    refine lv_iconst (v := 1) hx hb dX5_minusOf_9 (by decide) ?_
    refine lv_goto (tgt := 14) hx hb dX5_minusOf_10 (by decide) ?_
    subst hg
    rw [← hQe]
    exact W.iret (v := (1 : Int32)) hx hb hr (fun t ht hW => ⟨⟨(1 : Int32), (), rfl, rfl, by rw [ht]; exact hP, va_K.moved hW.alike hK, hD⟩, hS.F ht⟩) hS.2.2 dX5_minusOf_14
abbrev rm_X5_learn : Room := { frames := 0, cells := 0, slots := 0, locals := 0 }
abbrev Q_X5_learn (dC : Nat → ClassId) (dI : Nat → Nat → Nat) (cI cJ cZ : ClassId) (a_fld : Nat) (a_coef : Nat) (a_mags : Nat) (a_marks : Nat) (A : Nat → Prop) (fld_wide : Int32) (fld_high : Int32) (fld_band : Int32) (fld_causal : Int32) (mags_n : Nat) (mags_f : Nat → Int32) (marks_n : Nat) (marks_f : Nat → Int32) (g : ((Nat → Int32) × (Nat → Int32))) : Array Value → State → Outcome → State → Prop := va_Qv (fun _ : Unit => True) (fun u t => va_P (dC, dI) vwCl (wd_fld_mags_marks cI a_fld a_coef a_mags a_marks fld_wide fld_high fld_band fld_causal mags_n g.1 marks_n g.2) t.heap ∧ va_K (dC, dI) vwCl [(cI, .int), (cJ, .long), (cZ, .boolean)] t ∧ va_D A (wd_fld_mags_marks cI a_fld a_coef a_mags a_marks fld_wide fld_high fld_band fld_causal mags_n g.1 marks_n g.2)) A
theorem iw_X5_learn_X5 : ∀ w ∈ u_ws RX5 TX5 7, w ∈ wsX5_learn := by decide +kernel
set_option maxHeartbeats 4000000 in
set_option maxRecDepth 100000 in
theorem c_X5_learn (l : Launch) (dC : Nat → ClassId) (dI : Nat → Nat → Nat) (cI cJ cZ : ClassId) (a_fld : Nat) (a_coef : Nat) (a_mags : Nat) (a_marks : Nat) (sz : Nat) (fld_wide : Int32) (fld_high : Int32) (fld_band : Int32) (fld_causal : Int32) (mags_n : Nat) (mags_f : Nat → Int32) (marks_n : Nat) (marks_f : Nat → Int32) (p1 : Int32) (p2 : Int32) (p3 : Int32) (hpre : P_X5_learn p1 mags_n marks_n) : Met l yX5_learn wsX5_learn rm_X5_learn (va_Pc [.ref a_fld, .int p1, .int p2, .int p3] (fun U => U.heap.size = sz ∧ va_P (dC, dI) vwCl (wd_fld_mags_marks cI a_fld a_coef a_mags a_marks fld_wide fld_high fld_band fld_causal mags_n mags_f marks_n marks_f) U.heap ∧ va_K (dC, dI) vwCl [(cI, .int), (cJ, .long), (cZ, .boolean)] U ∧ va_D (fun _ => True) (wd_fld_mags_marks cI a_fld a_coef a_mags a_marks fld_wide fld_high fld_band fld_causal mags_n mags_f marks_n marks_f))) (Q_X5_learn dC dI cI cJ cZ a_fld a_coef a_mags a_marks (va_A (wd_fld_mags_marks cI a_fld a_coef a_mags a_marks fld_wide fld_high fld_band fld_causal mags_n mags_f marks_n marks_f) sz) fld_wide fld_high fld_band fld_causal mags_n mags_f marks_n marks_f (F_X5_learn p1 p2 p3 mags_f marks_f)) 0 0 (va_A (wd_fld_mags_marks cI a_fld a_coef a_mags a_marks fld_wide fld_high fld_band fld_causal mags_n mags_f marks_n marks_f) sz) := by
  refine Met.ofW (cc := cX5_learn) (maxL := 4) (ret := none) (by decide) rfl ?_
  intro p e s m args below meth c s₁ B hml hv
  obtain ⟨rfl, hsz, hP, hK, hD0⟩ := hv
  have hx := B.exec
  have hb := B.bytes
  have hr := B.returns
  have hts := atoms_spec (ws := wsX5_learn) B.pre
  have hown : s.vm.findClass RX5 = some m.cls := findClass_of_methodNamed B.named
  have hlocks := B.notSynchronized
  subst hsz
  have hD := hD0.self (sz := s.heap.size)
  generalize hAe : va_A (wd_fld_mags_marks cI a_fld a_coef a_mags a_marks fld_wide fld_high fld_band fld_causal mags_n mags_f marks_n marks_f) s.heap.size = A at hD ⊢
  have hA : ∀ q : Nat, s.heap.size ≤ q → A q := fun q h => by rw [← hAe]; exact Or.inr h
  have hS : va_S A s.heap s.heap [] := va_S.rf
  obtain ⟨H, hH⟩ : ∃ z, z = s.heap := ⟨_, rfl⟩
  have hP : va_P (dC, dI) vwCl (wd_fld_mags_marks cI a_fld a_coef a_mags a_marks fld_wide fld_high fld_band fld_causal mags_n mags_f marks_n marks_f) H := by rw [hH]; exact hP
  have hS : va_S A s.heap H [] := by rw [hH]; exact va_S.rf
  obtain ⟨g, hg⟩ : ∃ z, F_X5_learn p1 p2 p3 mags_f marks_f = z := ⟨_, rfl⟩
  rw [hg]
  generalize hQe : MQ below (Q_X5_learn dC dI cI cJ cZ a_fld a_coef a_mags a_marks A fld_wide fld_high fld_band fld_causal mags_n mags_f marks_n marks_f g) _ s 0 0 A = Q
  rw [← hH]
  clear hH
  have hl := lv_entry ([.ref a_fld, .int p1, .int p2, .int p3]) (n := 4) (Nat.le_of_ble_eq_true rfl)
  rw [lg_entry_eq]
  generalize (lg_sl ([.ref a_fld, .int p1, .int p2, .int p3]) ++ List.replicate (4 - (lg_sl ([.ref a_fld, .int p1, .int p2, .int p3])).length) Slot.unset).toArray = ls at hl ⊢
  have hl : lv_has ls 4 [(0, .ref a_fld), (1, .int p1), (2, .int p2), (3, .int p3)] := hl
  unfold F_X5_learn at hg
  unfold P_X5_learn at hpre
  refine lv_aload_n hx hb dX5_learn_0 rfl (lv_at hl 0 rfl) ?_
  refine va_get (D := (dC, dI)) (ci := 4) (v := .ref a_mags) (C := RX5) (T := TX5) (N := 7) hx hb hts iw_X5_learn_X5 hown hK hP 0 rfl rfl 3 (by decide) (hts (.fieldLink RX5 22 "PlaneBlocks$Field" "magnitudes" "[I") (by decide +kernel)) (fun _ h9 => h9) rfl dX5_learn_1 ?_
  refine lv_iload_n hx hb dX5_learn_4 rfl (lv_at hl 1 rfl) ?_
  refine lv_dup2_11 hx hb dX5_learn_5 rfl rfl ?_
  have h_1 := hpre.1
  have hpre := hpre.2
  refine va_iald hx hb hK hP 1 0 rfl rfl h_1 dX5_learn_6 ?_
  refine lv_iload_n hx hb dX5_learn_7 rfl (lv_at hl 3 rfl) ?_
  refine lv_iload_n hx hb dX5_learn_8 rfl (lv_at hl 2 rfl) ?_
  refine lv_ishl hx hb dX5_learn_9 ?_
  refine lv_ior hx hb dX5_learn_10 ?_
  refine va_iast hx hb hK hP hD hS 1 0 rfl rfl h_1 dX5_learn_11 (fun H locs hP hD hS => ?_)
  have hP : va_P (dC, dI) vwCl (wd_fld_mags_marks cI a_fld a_coef a_mags a_marks fld_wide fld_high fld_band fld_causal mags_n (upd mags_f p1.toNatClampNeg ((mags_f p1.toNatClampNeg) ||| (p3 <<< (p2 &&& 31)))) marks_n marks_f) H := hP
  have hD : va_D A (wd_fld_mags_marks cI a_fld a_coef a_mags a_marks fld_wide fld_high fld_band fld_causal mags_n (upd mags_f p1.toNatClampNeg ((mags_f p1.toNatClampNeg) ||| (p3 <<< (p2 &&& 31)))) marks_n marks_f) := hD
  refine lv_aload_n hx hb dX5_learn_12 rfl (lv_at hl 0 rfl) ?_
  refine va_get (D := (dC, dI)) (ci := 4) (v := .ref a_marks) (C := RX5) (T := TX5) (N := 7) hx hb hts iw_X5_learn_X5 hown hK hP 0 rfl rfl 4 (by decide) (hts (.fieldLink RX5 25 "PlaneBlocks$Field" "marks" "[I") (by decide +kernel)) (fun _ h9 => h9) rfl dX5_learn_13 ?_
  refine lv_iload_n hx hb dX5_learn_16 rfl (lv_at hl 1 rfl) ?_
  refine lv_aload_n hx hb dX5_learn_17 rfl (lv_at hl 0 rfl) ?_
  refine va_get (D := (dC, dI)) (ci := 4) (v := .ref a_marks) (C := RX5) (T := TX5) (N := 7) hx hb hts iw_X5_learn_X5 hown hK hP 0 rfl rfl 4 (by decide) (hts (.fieldLink RX5 25 "PlaneBlocks$Field" "marks" "[I") (by decide +kernel)) (fun _ h9 => h9) rfl dX5_learn_18 ?_
  refine lv_iload_n hx hb dX5_learn_21 rfl (lv_at hl 1 rfl) ?_
  have h_3 := hpre
  refine va_iald hx hb hK hP 2 0 rfl rfl h_3 dX5_learn_22 ?_
  refine lv_ldc (v := -2031617) hx hb hown (hts (.constant RX5 59 (-2031617)) (by decide +kernel)) dX5_learn_23 ?_
  refine lv_iand hx hb dX5_learn_25 ?_
  refine lv_iload_n hx hb dX5_learn_26 rfl (lv_at hl 2 rfl) ?_
  refine lv_bipush (v := 16) hx hb dX5_learn_27 (by decide) ?_
  refine lv_ishl hx hb dX5_learn_29 ?_
  refine lv_ior hx hb dX5_learn_30 ?_
  refine va_iast hx hb hK hP hD hS 2 0 rfl rfl h_3 dX5_learn_31 (fun H locs hP hD hS => ?_)
  have hP : va_P (dC, dI) vwCl (wd_fld_mags_marks cI a_fld a_coef a_mags a_marks fld_wide fld_high fld_band fld_causal mags_n (upd mags_f p1.toNatClampNeg ((mags_f p1.toNatClampNeg) ||| (p3 <<< (p2 &&& 31)))) marks_n (upd marks_f p1.toNatClampNeg (((marks_f p1.toNatClampNeg) &&& (-2031617 : Int32)) ||| (p2 <<< ((16 : Int32) &&& 31))))) H := hP
  have hD : va_D A (wd_fld_mags_marks cI a_fld a_coef a_mags a_marks fld_wide fld_high fld_band fld_causal mags_n (upd mags_f p1.toNatClampNeg ((mags_f p1.toNatClampNeg) ||| (p3 <<< (p2 &&& 31)))) marks_n (upd marks_f p1.toNatClampNeg (((marks_f p1.toNatClampNeg) &&& (-2031617 : Int32)) ||| (p2 <<< ((16 : Int32) &&& 31))))) := hD
  subst hg
  rw [← hQe]
  exact W.vret hx hb hr (fun t ht hW => ⟨⟨(), rfl, trivial, by rw [ht]; exact hP, va_K.moved hW.alike hK, hD⟩, hS.F ht⟩) hS.2.2 dX5_learn_32
abbrev rm_X5_valueOf : Room := { frames := 0, cells := 0, slots := 0, locals := 0 }
abbrev Q_X5_valueOf (dC : Nat → ClassId) (dI : Nat → Nat → Nat) (cI cJ cZ : ClassId) (a_fld : Nat) (a_coef : Nat) (a_mags : Nat) (a_marks : Nat) (A : Nat → Prop) (fld_wide : Int32) (fld_high : Int32) (fld_band : Int32) (fld_causal : Int32) (mags_n : Nat) (mags_f : Nat → Int32) (marks_n : Nat) (marks_f : Nat → Int32) (g : Int32) : Array Value → State → Outcome → State → Prop := va_Qi (fun (r : Int32) (_ : Unit) => r = g) (fun u t => va_P (dC, dI) vwCl (wd_fld_mags_marks cI a_fld a_coef a_mags a_marks fld_wide fld_high fld_band fld_causal mags_n mags_f marks_n marks_f) t.heap ∧ va_K (dC, dI) vwCl [(cI, .int), (cJ, .long), (cZ, .boolean)] t ∧ va_D A (wd_fld_mags_marks cI a_fld a_coef a_mags a_marks fld_wide fld_high fld_band fld_causal mags_n mags_f marks_n marks_f)) A
theorem iw_X5_valueOf_X5 : ∀ w ∈ u_ws RX5 TX5 7, w ∈ wsX5_valueOf := by decide +kernel
set_option maxHeartbeats 4000000 in
set_option maxRecDepth 100000 in
theorem c_X5_valueOf (l : Launch) (dC : Nat → ClassId) (dI : Nat → Nat → Nat) (cI cJ cZ : ClassId) (a_fld : Nat) (a_coef : Nat) (a_mags : Nat) (a_marks : Nat) (sz : Nat) (fld_wide : Int32) (fld_high : Int32) (fld_band : Int32) (fld_causal : Int32) (mags_n : Nat) (mags_f : Nat → Int32) (marks_n : Nat) (marks_f : Nat → Int32) (p1 : Int32) (hpre : P_X5_valueOf p1 mags_n marks_n marks_f) : Met l yX5_valueOf wsX5_valueOf rm_X5_valueOf (va_Pc [.ref a_fld, .int p1] (fun U => U.heap.size = sz ∧ va_P (dC, dI) vwCl (wd_fld_mags_marks cI a_fld a_coef a_mags a_marks fld_wide fld_high fld_band fld_causal mags_n mags_f marks_n marks_f) U.heap ∧ va_K (dC, dI) vwCl [(cI, .int), (cJ, .long), (cZ, .boolean)] U ∧ va_D (fun _ => True) (wd_fld_mags_marks cI a_fld a_coef a_mags a_marks fld_wide fld_high fld_band fld_causal mags_n mags_f marks_n marks_f))) (Q_X5_valueOf dC dI cI cJ cZ a_fld a_coef a_mags a_marks (va_A (wd_fld_mags_marks cI a_fld a_coef a_mags a_marks fld_wide fld_high fld_band fld_causal mags_n mags_f marks_n marks_f) sz) fld_wide fld_high fld_band fld_causal mags_n mags_f marks_n marks_f (F_X5_valueOf p1 mags_f marks_f)) 0 0 (va_A (wd_fld_mags_marks cI a_fld a_coef a_mags a_marks fld_wide fld_high fld_band fld_causal mags_n mags_f marks_n marks_f) sz) := by
  refine Met.ofW (cc := cX5_valueOf) (maxL := 4) (ret := (some .int)) (by decide) rfl ?_
  intro p e s m args below meth c s₁ B hml hv
  obtain ⟨rfl, hsz, hP, hK, hD0⟩ := hv
  have hx := B.exec
  have hb := B.bytes
  have hr := B.returns
  have hts := atoms_spec (ws := wsX5_valueOf) B.pre
  have hown : s.vm.findClass RX5 = some m.cls := findClass_of_methodNamed B.named
  have hlocks := B.notSynchronized
  subst hsz
  have hD := hD0.self (sz := s.heap.size)
  generalize hAe : va_A (wd_fld_mags_marks cI a_fld a_coef a_mags a_marks fld_wide fld_high fld_band fld_causal mags_n mags_f marks_n marks_f) s.heap.size = A at hD ⊢
  have hA : ∀ q : Nat, s.heap.size ≤ q → A q := fun q h => by rw [← hAe]; exact Or.inr h
  have hS : va_S A s.heap s.heap [] := va_S.rf
  obtain ⟨H, hH⟩ : ∃ z, z = s.heap := ⟨_, rfl⟩
  have hP : va_P (dC, dI) vwCl (wd_fld_mags_marks cI a_fld a_coef a_mags a_marks fld_wide fld_high fld_band fld_causal mags_n mags_f marks_n marks_f) H := by rw [hH]; exact hP
  have hS : va_S A s.heap H [] := by rw [hH]; exact va_S.rf
  obtain ⟨g, hg⟩ : ∃ z, F_X5_valueOf p1 mags_f marks_f = z := ⟨_, rfl⟩
  rw [hg]
  generalize hQe : MQ below (Q_X5_valueOf dC dI cI cJ cZ a_fld a_coef a_mags a_marks A fld_wide fld_high fld_band fld_causal mags_n mags_f marks_n marks_f g) _ s 0 0 A = Q
  rw [← hH]
  clear hH
  have hl := lv_entry ([.ref a_fld, .int p1]) (n := 4) (Nat.le_of_ble_eq_true rfl)
  rw [lg_entry_eq]
  generalize (lg_sl ([.ref a_fld, .int p1]) ++ List.replicate (4 - (lg_sl ([.ref a_fld, .int p1])).length) Slot.unset).toArray = ls at hl ⊢
  have hl : lv_has ls 4 [(0, .ref a_fld), (1, .int p1)] := hl
  unfold F_X5_valueOf at hg
  unfold P_X5_valueOf at hpre
  refine lv_aload_n hx hb dX5_valueOf_0 rfl (lv_at hl 0 rfl) ?_
  refine va_get (D := (dC, dI)) (ci := 4) (v := .ref a_marks) (C := RX5) (T := TX5) (N := 7) hx hb hts iw_X5_valueOf_X5 hown hK hP 0 rfl rfl 4 (by decide) (hts (.fieldLink RX5 25 "PlaneBlocks$Field" "marks" "[I") (by decide +kernel)) (fun _ h9 => h9) rfl dX5_valueOf_1 ?_
  refine lv_iload_n hx hb dX5_valueOf_4 rfl (lv_at hl 1 rfl) ?_
  have h_1 := hpre.1
  have hpre := hpre.2
  refine va_iald hx hb hK hP 2 0 rfl rfl h_1 dX5_valueOf_5 ?_
  refine lv_istore_n (lv' := [(2, .int (marks_f p1.toNatClampNeg)), (0, .ref a_fld), (1, .int p1)]) hx hb dX5_valueOf_6 rfl hl (by decide) rfl (fun ls hl => ?_)
  refine lv_iload_n hx hb dX5_valueOf_7 rfl (lv_at hl 0 rfl) ?_
  refine lv_sipush (v := 2048) hx hb dX5_valueOf_8 (by decide) ?_
  refine lv_iand hx hb dX5_valueOf_11 ?_
  refine lv_if_ne (tgt := 17) hx hb dX5_valueOf_12 (by decide) (fun c_2 => ?_) (fun c_2 => ?_)
  · rw [if_neg c_2] at hg
    have hpre := hpre c_2
    refine lv_aload_n hx hb dX5_valueOf_17 rfl (lv_at hl 1 rfl) ?_
    refine va_get (D := (dC, dI)) (ci := 4) (v := .ref a_mags) (C := RX5) (T := TX5) (N := 7) hx hb hts iw_X5_valueOf_X5 hown hK hP 0 rfl rfl 3 (by decide) (hts (.fieldLink RX5 22 "PlaneBlocks$Field" "magnitudes" "[I") (by decide +kernel)) (fun _ h9 => h9) rfl dX5_valueOf_18 ?_
    refine lv_iload_n hx hb dX5_valueOf_21 rfl (lv_at hl 2 rfl) ?_
    have h_3 := hpre
    refine va_iald hx hb hK hP 1 0 rfl rfl h_3 dX5_valueOf_22 ?_
    refine lv_iconst (v := 1) hx hb dX5_valueOf_23 (by decide) ?_
    refine lv_iload_n hx hb dX5_valueOf_24 rfl (lv_at hl 0 rfl) ?_
    refine lv_ldc (v := 2031616) hx hb hown (hts (.constant RX5 63 (2031616)) (by decide +kernel)) dX5_valueOf_25 ?_
    refine lv_iand hx hb dX5_valueOf_27 ?_
    refine lv_bipush (v := 16) hx hb dX5_valueOf_28 (by decide) ?_
    refine lv_ishr hx hb dX5_valueOf_30 ?_
    refine lv_ishl hx hb dX5_valueOf_31 ?_
    refine lv_iconst (v := 2) hx hb dX5_valueOf_32 (by decide) ?_
    refine lv_idiv hx hb dX5_valueOf_33 (by decide) ?_
    refine lv_iadd hx hb dX5_valueOf_34 ?_
    refine lv_istore_n (lv' := [(3, .int ((mags_f p1.toNatClampNeg) + (((1 : Int32) <<< ((((marks_f p1.toNatClampNeg) &&& (2031616 : Int32)) >>> ((16 : Int32) &&& 31)) &&& 31)) / (2 : Int32)))), (2, .int (marks_f p1.toNatClampNeg)), (0, .ref a_fld), (1, .int p1)]) hx hb dX5_valueOf_35 rfl hl (by decide) rfl (fun ls hl => ?_)
    refine lv_iload_n hx hb dX5_valueOf_36 rfl (lv_at hl 1 rfl) ?_
    refine lv_sipush (v := 4096) hx hb dX5_valueOf_37 (by decide) ?_
    refine lv_iand hx hb dX5_valueOf_40 ?_
    refine lv_if_eq (tgt := 49) hx hb dX5_valueOf_41 (by decide) (fun c_4 => ?_) (fun c_4 => ?_)
    · rw [if_pos c_4] at hg
      refine lv_iload_n hx hb dX5_valueOf_49 rfl (lv_at hl 0 rfl) ?_
      subst hg
      rw [← hQe]
      exact W.iret (v := ((mags_f p1.toNatClampNeg) + (((1 : Int32) <<< ((((marks_f p1.toNatClampNeg) &&& (2031616 : Int32)) >>> ((16 : Int32) &&& 31)) &&& 31)) / (2 : Int32)))) hx hb hr (fun t ht hW => ⟨⟨((mags_f p1.toNatClampNeg) + (((1 : Int32) <<< ((((marks_f p1.toNatClampNeg) &&& (2031616 : Int32)) >>> ((16 : Int32) &&& 31)) &&& 31)) / (2 : Int32))), (), rfl, rfl, by rw [ht]; exact hP, va_K.moved hW.alike hK, hD⟩, hS.F ht⟩) hS.2.2 dX5_valueOf_50
    · rw [if_neg c_4] at hg
      refine lv_iload_n hx hb dX5_valueOf_44 rfl (lv_at hl 0 rfl) ?_
      refine lv_ineg hx hb dX5_valueOf_45 ?_
      refine lv_goto (tgt := 50) hx hb dX5_valueOf_46 (by decide) ?_
      subst hg
      rw [← hQe]
      exact W.iret (v := (-((mags_f p1.toNatClampNeg) + (((1 : Int32) <<< ((((marks_f p1.toNatClampNeg) &&& (2031616 : Int32)) >>> ((16 : Int32) &&& 31)) &&& 31)) / (2 : Int32))))) hx hb hr (fun t ht hW => ⟨⟨(-((mags_f p1.toNatClampNeg) + (((1 : Int32) <<< ((((marks_f p1.toNatClampNeg) &&& (2031616 : Int32)) >>> ((16 : Int32) &&& 31)) &&& 31)) / (2 : Int32)))), (), rfl, rfl, by rw [ht]; exact hP, va_K.moved hW.alike hK, hD⟩, hS.F ht⟩) hS.2.2 dX5_valueOf_50
  · rw [if_pos c_2] at hg
    refine lv_iconst (v := 0) hx hb dX5_valueOf_15 (by decide) ?_
    subst hg
    rw [← hQe]
    exact W.iret (v := (0 : Int32)) hx hb hr (fun t ht hW => ⟨⟨(0 : Int32), (), rfl, rfl, by rw [ht]; exact hP, va_K.moved hW.alike hK, hD⟩, hS.F ht⟩) hS.2.2 dX5_valueOf_16
abbrev wd_fld_coef_mags_marks (cI : ClassId) (a_fld : Nat) (a_coef : Nat) (a_mags : Nat) (a_marks : Nat) (fld_wide : Int32) (fld_high : Int32) (fld_band : Int32) (fld_causal : Int32) (coef_n : Nat) (coef_f : Nat → Int32) (mags_n : Nat) (mags_f : Nat → Int32) (marks_n : Nat) (marks_f : Nat → Int32) : va_W := [(a_fld, .inr (4, [.int fld_wide, .int fld_high, .ref a_coef, .ref a_mags, .ref a_marks, .int fld_band, .int fld_causal])), (a_coef, .inl (cI, coef_n, .inl coef_f)), (a_mags, .inl (cI, mags_n, .inl mags_f)), (a_marks, .inl (cI, marks_n, .inl marks_f))]
abbrev rm_X5_lack : Room := { frames := 1, cells := 0, slots := 0, locals := 23 }
abbrev Q_X5_lack (dC : Nat → ClassId) (dI : Nat → Nat → Nat) (cI cJ cZ : ClassId) (a_fld : Nat) (a_coef : Nat) (a_mags : Nat) (a_marks : Nat) (A : Nat → Prop) (fld_wide : Int32) (fld_high : Int32) (fld_band : Int32) (fld_causal : Int32) (coef_n : Nat) (coef_f : Nat → Int32) (mags_n : Nat) (mags_f : Nat → Int32) (marks_n : Nat) (marks_f : Nat → Int32) (g : Int64) : Array Value → State → Outcome → State → Prop := va_Ql (fun (r : Int64) (_ : Unit) => r = g) (fun u t => va_P (dC, dI) vwCl (wd_fld_coef_mags_marks cI a_fld a_coef a_mags a_marks fld_wide fld_high fld_band fld_causal coef_n coef_f mags_n mags_f marks_n marks_f) t.heap ∧ va_K (dC, dI) vwCl [(cI, .int), (cJ, .long), (cZ, .boolean)] t ∧ va_D A (wd_fld_coef_mags_marks cI a_fld a_coef a_mags a_marks fld_wide fld_high fld_band fld_causal coef_n coef_f mags_n mags_f marks_n marks_f)) A
theorem iw_X5_lack_X5 : ∀ w ∈ u_ws RX5 TX5 7, w ∈ wsX5_lack := by decide +kernel
set_option maxHeartbeats 4000000 in
set_option maxRecDepth 100000 in
theorem c_X5_lack (l : Launch) (dC : Nat → ClassId) (dI : Nat → Nat → Nat) (cI cJ cZ : ClassId) (a_fld : Nat) (a_coef : Nat) (a_mags : Nat) (a_marks : Nat) (sz : Nat) (fld_wide : Int32) (fld_high : Int32) (fld_band : Int32) (fld_causal : Int32) (coef_n : Nat) (coef_f : Nat → Int32) (mags_n : Nat) (mags_f : Nat → Int32) (marks_n : Nat) (marks_f : Nat → Int32) (p1 : Int32) (hpre : P_X5_lack p1 coef_n mags_n marks_n marks_f) : Met l yX5_lack wsX5_lack rm_X5_lack (va_Pc [.ref a_fld, .int p1] (fun U => U.heap.size = sz ∧ va_P (dC, dI) vwCl (wd_fld_coef_mags_marks cI a_fld a_coef a_mags a_marks fld_wide fld_high fld_band fld_causal coef_n coef_f mags_n mags_f marks_n marks_f) U.heap ∧ va_K (dC, dI) vwCl [(cI, .int), (cJ, .long), (cZ, .boolean)] U ∧ va_D (fun _ => True) (wd_fld_coef_mags_marks cI a_fld a_coef a_mags a_marks fld_wide fld_high fld_band fld_causal coef_n coef_f mags_n mags_f marks_n marks_f))) (Q_X5_lack dC dI cI cJ cZ a_fld a_coef a_mags a_marks (va_A (wd_fld_coef_mags_marks cI a_fld a_coef a_mags a_marks fld_wide fld_high fld_band fld_causal coef_n coef_f mags_n mags_f marks_n marks_f) sz) fld_wide fld_high fld_band fld_causal coef_n coef_f mags_n mags_f marks_n marks_f (F_X5_lack p1 coef_f mags_f marks_f)) 0 0 (va_A (wd_fld_coef_mags_marks cI a_fld a_coef a_mags a_marks fld_wide fld_high fld_band fld_causal coef_n coef_f mags_n mags_f marks_n marks_f) sz) := by
  refine Met.ofW (cc := cX5_lack) (maxL := 4) (ret := (some .long)) (by decide) rfl ?_
  intro p e s m args below meth c s₁ B hml hv
  obtain ⟨rfl, hsz, hP, hK, hD0⟩ := hv
  have hx := B.exec
  have hb := B.bytes
  have hr := B.returns
  have hts := atoms_spec (ws := wsX5_lack) B.pre
  have hown : s.vm.findClass RX5 = some m.cls := findClass_of_methodNamed B.named
  have hlocks := B.notSynchronized
  subst hsz
  have hD := hD0.self (sz := s.heap.size)
  generalize hAe : va_A (wd_fld_coef_mags_marks cI a_fld a_coef a_mags a_marks fld_wide fld_high fld_band fld_causal coef_n coef_f mags_n mags_f marks_n marks_f) s.heap.size = A at hD ⊢
  have hA : ∀ q : Nat, s.heap.size ≤ q → A q := fun q h => by rw [← hAe]; exact Or.inr h
  have hS : va_S A s.heap s.heap [] := va_S.rf
  obtain ⟨H, hH⟩ : ∃ z, z = s.heap := ⟨_, rfl⟩
  have hP : va_P (dC, dI) vwCl (wd_fld_coef_mags_marks cI a_fld a_coef a_mags a_marks fld_wide fld_high fld_band fld_causal coef_n coef_f mags_n mags_f marks_n marks_f) H := by rw [hH]; exact hP
  have hS : va_S A s.heap H [] := by rw [hH]; exact va_S.rf
  obtain ⟨g, hg⟩ : ∃ z, F_X5_lack p1 coef_f mags_f marks_f = z := ⟨_, rfl⟩
  rw [hg]
  generalize hQe : MQ below (Q_X5_lack dC dI cI cJ cZ a_fld a_coef a_mags a_marks A fld_wide fld_high fld_band fld_causal coef_n coef_f mags_n mags_f marks_n marks_f g) _ s 0 0 A = Q
  rw [← hH]
  clear hH
  have hl := lv_entry ([.ref a_fld, .int p1]) (n := 4) (Nat.le_of_ble_eq_true rfl)
  rw [lg_entry_eq]
  generalize (lg_sl ([.ref a_fld, .int p1]) ++ List.replicate (4 - (lg_sl ([.ref a_fld, .int p1])).length) Slot.unset).toArray = ls at hl ⊢
  have hl : lv_has ls 4 [(0, .ref a_fld), (1, .int p1)] := hl
  unfold F_X5_lack at hg
  unfold P_X5_lack at hpre
  refine lv_aload_n hx hb dX5_lack_0 rfl (lv_at hl 0 rfl) ?_
  refine va_get (D := (dC, dI)) (ci := 4) (v := .ref a_coef) (C := RX5) (T := TX5) (N := 7) hx hb hts iw_X5_lack_X5 hown hK hP 0 rfl rfl 2 (by decide) (hts (.fieldLink RX5 18 "PlaneBlocks$Field" "coefficients" "[I") (by decide +kernel)) (fun _ h9 => h9) rfl dX5_lack_1 ?_
  refine lv_iload_n hx hb dX5_lack_4 rfl (lv_at hl 1 rfl) ?_
  have h_1 := hpre.1
  have hpre := hpre.2
  refine va_iald hx hb hK hP 1 0 rfl rfl h_1 dX5_lack_5 ?_
  refine va_mabs hx hb (hml.trans hl.1.symm) hown (hts (.methodLink RX5 50 Lib.Math.abs.name) (by decide +kernel)) (hts (.static Lib.Math.abs.name) (by decide +kernel)) (hts (.initialized "java/lang/Math") (by decide +kernel)) (hts (.code Lib.Math.abs.name Lib.Math.abs.code 1 (some .int)) (by decide +kernel)) (Nat.le_of_ble_eq_true rfl) (Nat.le_of_ble_eq_true rfl) (Nat.le_of_ble_eq_true rfl) (Nat.le_of_ble_eq_true rfl) dX5_lack_6 ?_
  refine lv_i2l hx hb dX5_lack_9 rfl ?_
  refine lv_aload_n hx hb dX5_lack_10 rfl (lv_at hl 0 rfl) ?_
  refine lv_iload_n hx hb dX5_lack_11 rfl (lv_at hl 1 rfl) ?_
  have hPc := hP.sub (ws' := (wd_fld_mags_marks cI a_fld a_coef a_mags a_marks fld_wide fld_high fld_band fld_causal mags_n mags_f marks_n marks_f)) [0, 2, 3] rfl
  have hDc := hD.sub (ws' := (wd_fld_mags_marks cI a_fld a_coef a_mags a_marks fld_wide fld_high fld_band fld_causal mags_n mags_f marks_n marks_f)) [0, 2, 3] (by decide) rfl
  have hFc := va_free (wc := (wd_fld_mags_marks cI a_fld a_coef a_mags a_marks fld_wide fld_high fld_band fld_causal mags_n mags_f marks_n marks_f)) hD hS hA [0, 2, 3] rfl
  refine va_calli (va_runV (As := [.int p1]) (rest := [.long ((if (0 : Int32) ≤ (coef_f p1.toNatClampNeg) then (coef_f p1.toNatClampNeg) else (0 : Int32) - (coef_f p1.toNatClampNeg)).toInt64)]) ⟨hx, hb, hml, hown, hts⟩ (c_X5_valueOf l dC dI cI cJ cZ a_fld a_coef a_mags a_marks H.size fld_wide fld_high fld_band fld_causal mags_n mags_f marks_n marks_f p1 hpre) (cwV 1 hts gX5_lack_X5_valueOf rfl rfl rfl (by decide +kernel) ⟨Nat.le_of_ble_eq_true rfl, Nat.le_of_ble_eq_true rfl⟩) ⟨fun a U g mk q => by obtain ⟨q0, q1, qP, qK, qD⟩ := q; exact ⟨q0, q1, qP, va_K.moved (u := U) (U := U.calling g mk a) (Vm.Alike.refl U.vm) qK, qD⟩, va_recv hK hPc (ci := 4) (q0 := 0) rfl rfl, fun U hU hW => ⟨rfl, by rw [hU], by rw [hU]; exact hPc, va_K.moved hW.alike hK, hDc.weaken (fun _ _ _ _ => trivial)⟩⟩ rfl rfl hl.1 rfl (lv_room (Nat.le_of_ble_eq_true rfl)) dX5_lack_12 ⟨Nat.le_of_ble_eq_true rfl, Nat.le_of_ble_eq_true rfl⟩) hS (fun q _ h => hFc q h) hFc (fun r u t H1 locs ht hvm hw hB hz1 hk1 hS => ?_)
  obtain ⟨hP1, hK1, hD1⟩ := hB
  rw [ht] at hP1
  obtain ⟨r_2, hr_2⟩ : ∃ z, F_X5_valueOf p1 mags_f marks_f = z := ⟨_, rfl⟩
  try rw [hr_2] at hw
  try rw [hr_2] at hP1
  try rw [hr_2] at hD1
  have hg : ((((if (0 : Int32) ≤ (coef_f p1.toNatClampNeg) then (coef_f p1.toNatClampNeg) else (0 : Int32) - (coef_f p1.toNatClampNeg)).toInt64) - ((if (0 : Int32) ≤ r_2 then r_2 else (0 : Int32) - r_2).toInt64)) * (((if (0 : Int32) ≤ (coef_f p1.toNatClampNeg) then (coef_f p1.toNatClampNeg) else (0 : Int32) - (coef_f p1.toNatClampNeg)).toInt64) - ((if (0 : Int32) ≤ r_2 then r_2 else (0 : Int32) - r_2).toInt64))) = g := by first | (rw [hr_2] at hg; exact hg) | (subst hr_2; exact hg)
  have hw := hw.symm
  subst hw
  obtain ⟨hP, hD⟩ := va_join (wr := [(a_coef, .inl (cI, coef_n, .inl coef_f))]) (w1 := (wd_fld_mags_marks cI a_fld a_coef a_mags a_marks fld_wide fld_high fld_band fld_causal mags_n mags_f marks_n marks_f)) hP hD [0, 2, 3] [1] rfl rfl (by decide) (by decide) hk1 hFc hP1 hD1
  have hP : va_P (dC, dI) vwCl (wd_fld_coef_mags_marks cI a_fld a_coef a_mags a_marks fld_wide fld_high fld_band fld_causal coef_n coef_f mags_n mags_f marks_n marks_f) H1 := hP.sub [1, 0, 2, 3] rfl
  have hD : va_D A (wd_fld_coef_mags_marks cI a_fld a_coef a_mags a_marks fld_wide fld_high fld_band fld_causal coef_n coef_f mags_n mags_f marks_n marks_f) := hD.sub [1, 0, 2, 3] (by decide) rfl
  generalize H1 = H at hP hS ⊢
  refine va_mabs hx hb (hml.trans hl.1.symm) hown (hts (.methodLink RX5 50 Lib.Math.abs.name) (by decide +kernel)) (hts (.static Lib.Math.abs.name) (by decide +kernel)) (hts (.initialized "java/lang/Math") (by decide +kernel)) (hts (.code Lib.Math.abs.name Lib.Math.abs.code 1 (some .int)) (by decide +kernel)) (Nat.le_of_ble_eq_true rfl) (Nat.le_of_ble_eq_true rfl) (Nat.le_of_ble_eq_true rfl) (Nat.le_of_ble_eq_true rfl) dX5_lack_15 ?_
  refine lv_i2l hx hb dX5_lack_18 rfl ?_
  refine lv_lsub hx hb dX5_lack_19 ?_
  refine lv_lstore_n (lv' := [(2, .long (((if (0 : Int32) ≤ (coef_f p1.toNatClampNeg) then (coef_f p1.toNatClampNeg) else (0 : Int32) - (coef_f p1.toNatClampNeg)).toInt64) - ((if (0 : Int32) ≤ r_2 then r_2 else (0 : Int32) - r_2).toInt64))), (0, .ref a_fld), (1, .int p1)]) hx hb dX5_lack_20 rfl hl (by decide) rfl (fun ls hl => ?_)
  refine lv_lload_n hx hb dX5_lack_21 rfl (lv_at hl 0 rfl) ?_
  refine lv_lload_n hx hb dX5_lack_22 rfl (lv_at hl 0 rfl) ?_
  refine lv_lmul hx hb dX5_lack_23 ?_
  subst hg
  rw [← hQe]
  exact W.lret (v := ((((if (0 : Int32) ≤ (coef_f p1.toNatClampNeg) then (coef_f p1.toNatClampNeg) else (0 : Int32) - (coef_f p1.toNatClampNeg)).toInt64) - ((if (0 : Int32) ≤ r_2 then r_2 else (0 : Int32) - r_2).toInt64)) * (((if (0 : Int32) ≤ (coef_f p1.toNatClampNeg) then (coef_f p1.toNatClampNeg) else (0 : Int32) - (coef_f p1.toNatClampNeg)).toInt64) - ((if (0 : Int32) ≤ r_2 then r_2 else (0 : Int32) - r_2).toInt64)))) hx hb hr (fun t ht hW => ⟨⟨((((if (0 : Int32) ≤ (coef_f p1.toNatClampNeg) then (coef_f p1.toNatClampNeg) else (0 : Int32) - (coef_f p1.toNatClampNeg)).toInt64) - ((if (0 : Int32) ≤ r_2 then r_2 else (0 : Int32) - r_2).toInt64)) * (((if (0 : Int32) ≤ (coef_f p1.toNatClampNeg) then (coef_f p1.toNatClampNeg) else (0 : Int32) - (coef_f p1.toNatClampNeg)).toInt64) - ((if (0 : Int32) ≤ r_2 then r_2 else (0 : Int32) - r_2).toInt64))), (), rfl, rfl, by rw [ht]; exact hP, va_K.moved hW.alike hK, hD⟩, hS.F ht⟩) hS.2.2 dX5_lack_24
abbrev rm_X5_tell : Room := { frames := 1, cells := 0, slots := 0, locals := 22 }
abbrev Q_X5_tell (dC : Nat → ClassId) (dI : Nat → Nat → Nat) (cI cJ cZ : ClassId) (a_fld : Nat) (a_coef : Nat) (a_mags : Nat) (a_marks : Nat) (A : Nat → Prop) (fld_wide : Int32) (fld_high : Int32) (fld_band : Int32) (fld_causal : Int32) (marks_n : Nat) (marks_f : Nat → Int32) (g : (Nat → Int32)) : Array Value → State → Outcome → State → Prop := va_Qv (fun _ : Unit => True) (fun u t => va_P (dC, dI) vwCl (wd_fld_marks cI a_fld a_coef a_mags a_marks fld_wide fld_high fld_band fld_causal marks_n g) t.heap ∧ va_K (dC, dI) vwCl [(cI, .int), (cJ, .long), (cZ, .boolean)] t ∧ va_D A (wd_fld_marks cI a_fld a_coef a_mags a_marks fld_wide fld_high fld_band fld_causal marks_n g)) A
theorem iw_X5_tell_X5 : ∀ w ∈ u_ws RX5 TX5 7, w ∈ wsX5_tell := by decide +kernel
set_option maxHeartbeats 4000000 in
set_option maxRecDepth 100000 in
theorem c_X5_tell (l : Launch) (dC : Nat → ClassId) (dI : Nat → Nat → Nat) (cI cJ cZ : ClassId) (a_fld : Nat) (a_coef : Nat) (a_mags : Nat) (a_marks : Nat) (sz : Nat) (fld_wide : Int32) (fld_high : Int32) (fld_band : Int32) (fld_causal : Int32) (marks_n : Nat) (marks_f : Nat → Int32) (p1 : Int32) (p2 : Int32) (p3 : Int32) (hpre : P_X5_tell p1 p2 fld_wide fld_high marks_n) : Met l yX5_tell wsX5_tell rm_X5_tell (va_Pc [.ref a_fld, .int p1, .int p2, .int p3] (fun U => U.heap.size = sz ∧ va_P (dC, dI) vwCl (wd_fld_marks cI a_fld a_coef a_mags a_marks fld_wide fld_high fld_band fld_causal marks_n marks_f) U.heap ∧ va_K (dC, dI) vwCl [(cI, .int), (cJ, .long), (cZ, .boolean)] U ∧ va_D (fun _ => True) (wd_fld_marks cI a_fld a_coef a_mags a_marks fld_wide fld_high fld_band fld_causal marks_n marks_f))) (Q_X5_tell dC dI cI cJ cZ a_fld a_coef a_mags a_marks (va_A (wd_fld_marks cI a_fld a_coef a_mags a_marks fld_wide fld_high fld_band fld_causal marks_n marks_f) sz) fld_wide fld_high fld_band fld_causal marks_n marks_f (F_X5_tell p1 p2 p3 fld_wide fld_high marks_f)) 0 0 (va_A (wd_fld_marks cI a_fld a_coef a_mags a_marks fld_wide fld_high fld_band fld_causal marks_n marks_f) sz) := by
  refine Met.ofW (cc := cX5_tell) (maxL := 4) (ret := none) (by decide) rfl ?_
  intro p e s m args below meth c s₁ B hml hv
  obtain ⟨rfl, hsz, hP, hK, hD0⟩ := hv
  have hx := B.exec
  have hb := B.bytes
  have hr := B.returns
  have hts := atoms_spec (ws := wsX5_tell) B.pre
  have hown : s.vm.findClass RX5 = some m.cls := findClass_of_methodNamed B.named
  have hlocks := B.notSynchronized
  subst hsz
  have hD := hD0.self (sz := s.heap.size)
  generalize hAe : va_A (wd_fld_marks cI a_fld a_coef a_mags a_marks fld_wide fld_high fld_band fld_causal marks_n marks_f) s.heap.size = A at hD ⊢
  have hA : ∀ q : Nat, s.heap.size ≤ q → A q := fun q h => by rw [← hAe]; exact Or.inr h
  have hS : va_S A s.heap s.heap [] := va_S.rf
  obtain ⟨H, hH⟩ : ∃ z, z = s.heap := ⟨_, rfl⟩
  have hP : va_P (dC, dI) vwCl (wd_fld_marks cI a_fld a_coef a_mags a_marks fld_wide fld_high fld_band fld_causal marks_n marks_f) H := by rw [hH]; exact hP
  have hS : va_S A s.heap H [] := by rw [hH]; exact va_S.rf
  obtain ⟨g, hg⟩ : ∃ z, F_X5_tell p1 p2 p3 fld_wide fld_high marks_f = z := ⟨_, rfl⟩
  rw [hg]
  generalize hQe : MQ below (Q_X5_tell dC dI cI cJ cZ a_fld a_coef a_mags a_marks A fld_wide fld_high fld_band fld_causal marks_n marks_f g) _ s 0 0 A = Q
  rw [← hH]
  clear hH
  have hl := lv_entry ([.ref a_fld, .int p1, .int p2, .int p3]) (n := 4) (Nat.le_of_ble_eq_true rfl)
  rw [lg_entry_eq]
  generalize (lg_sl ([.ref a_fld, .int p1, .int p2, .int p3]) ++ List.replicate (4 - (lg_sl ([.ref a_fld, .int p1, .int p2, .int p3])).length) Slot.unset).toArray = ls at hl ⊢
  have hl : lv_has ls 4 [(0, .ref a_fld), (1, .int p1), (2, .int p2), (3, .int p3)] := hl
  unfold F_X5_tell at hg
  unfold P_X5_tell at hpre
  refine lv_aload_n hx hb dX5_tell_0 rfl (lv_at hl 0 rfl) ?_
  refine lv_iload_n hx hb dX5_tell_1 rfl (lv_at hl 1 rfl) ?_
  refine lv_iload_n hx hb dX5_tell_2 rfl (lv_at hl 2 rfl) ?_
  have hPc := hP.sub (ws' := (wd_fld a_fld a_coef a_mags a_marks fld_wide fld_high fld_band fld_causal)) [0] rfl
  have hDc := hD.sub (ws' := (wd_fld a_fld a_coef a_mags a_marks fld_wide fld_high fld_band fld_causal)) [0] (by decide) rfl
  have hFc := va_free (wc := (wd_fld a_fld a_coef a_mags a_marks fld_wide fld_high fld_band fld_causal)) hD hS hA [0] rfl
  refine va_calli (va_runV (As := [.int p1, .int p2]) (rest := []) ⟨hx, hb, hml, hown, hts⟩ (c_X5_holds l dC dI cI cJ cZ a_fld a_coef a_mags a_marks H.size fld_wide fld_high fld_band fld_causal p1 p2) (cwV 2 hts gX5_tell_X5_holds rfl rfl rfl (by decide +kernel) ⟨Nat.le_of_ble_eq_true rfl, Nat.le_of_ble_eq_true rfl⟩) ⟨fun a U g mk q => by obtain ⟨q0, q1, qP, qK, qD⟩ := q; exact ⟨q0, q1, qP, va_K.moved (u := U) (U := U.calling g mk a) (Vm.Alike.refl U.vm) qK, qD⟩, va_recv hK hPc (ci := 4) (q0 := 0) rfl rfl, fun U hU hW => ⟨rfl, by rw [hU], by rw [hU]; exact hPc, va_K.moved hW.alike hK, hDc.weaken (fun _ _ _ _ => trivial)⟩⟩ rfl rfl hl.1 rfl (lv_room (Nat.le_of_ble_eq_true rfl)) dX5_tell_3 ⟨Nat.le_of_ble_eq_true rfl, Nat.le_of_ble_eq_true rfl⟩) hS (fun q _ h => hFc q h) hFc (fun r u t H1 locs ht hvm hw hB hz1 hk1 hS => ?_)
  obtain ⟨hP1, hK1, hD1⟩ := hB
  rw [ht] at hP1
  obtain ⟨r_1, hr_1⟩ : ∃ z, F_X5_holds p1 p2 fld_wide fld_high = z := ⟨_, rfl⟩
  try rw [hr_1] at hw
  try rw [hr_1] at hP1
  try rw [hr_1] at hD1
  have hg : (if r_1 = (0 : Int32) then marks_f else (let r_3 := F_X5_place p1 p2 fld_wide; upd marks_f r_3.toNatClampNeg ((marks_f r_3.toNatClampNeg) + p3))) = g := by first | (rw [hr_1] at hg; exact hg) | (subst hr_1; exact hg)
  have hw := hw.symm
  subst hw
  obtain ⟨hP, hD⟩ := va_join (wr := [(a_marks, .inl (cI, marks_n, .inl marks_f))]) (w1 := (wd_fld a_fld a_coef a_mags a_marks fld_wide fld_high fld_band fld_causal)) hP hD [0] [1] rfl rfl (by decide) (by decide) hk1 hFc hP1 hD1
  have hP : va_P (dC, dI) vwCl (wd_fld_marks cI a_fld a_coef a_mags a_marks fld_wide fld_high fld_band fld_causal marks_n marks_f) H1 := hP.sub [1, 0] rfl
  have hD : va_D A (wd_fld_marks cI a_fld a_coef a_mags a_marks fld_wide fld_high fld_band fld_causal marks_n marks_f) := hD.sub [1, 0] (by decide) rfl
  generalize H1 = H at hP hS ⊢
  have hpre := hpre r_1 hr_1
  refine lv_if_eq (tgt := 24) hx hb dX5_tell_6 (by decide) (fun c_2 => ?_) (fun c_2 => ?_)
  · rw [if_pos c_2] at hg
    subst hg
    rw [← hQe]
    exact W.vret hx hb hr (fun t ht hW => ⟨⟨(), rfl, trivial, by rw [ht]; exact hP, va_K.moved hW.alike hK, hD⟩, hS.F ht⟩) hS.2.2 dX5_tell_24
  · rw [if_neg c_2] at hg
    have hpre := hpre c_2
    refine lv_aload_n hx hb dX5_tell_9 rfl (lv_at hl 0 rfl) ?_
    refine va_get (D := (dC, dI)) (ci := 4) (v := .ref a_marks) (C := RX5) (T := TX5) (N := 7) hx hb hts iw_X5_tell_X5 hown hK hP 0 rfl rfl 4 (by decide) (hts (.fieldLink RX5 25 "PlaneBlocks$Field" "marks" "[I") (by decide +kernel)) (fun _ h9 => h9) rfl dX5_tell_10 ?_
    refine lv_aload_n hx hb dX5_tell_13 rfl (lv_at hl 0 rfl) ?_
    refine lv_iload_n hx hb dX5_tell_14 rfl (lv_at hl 1 rfl) ?_
    refine lv_iload_n hx hb dX5_tell_15 rfl (lv_at hl 2 rfl) ?_
    have hPc := hP.sub (ws' := (wd_fld a_fld a_coef a_mags a_marks fld_wide fld_high fld_band fld_causal)) [0] rfl
    have hDc := hD.sub (ws' := (wd_fld a_fld a_coef a_mags a_marks fld_wide fld_high fld_band fld_causal)) [0] (by decide) rfl
    have hFc := va_free (wc := (wd_fld a_fld a_coef a_mags a_marks fld_wide fld_high fld_band fld_causal)) hD hS hA [0] rfl
    refine va_calli (va_runV (As := [.int p1, .int p2]) (rest := [.ref a_marks]) ⟨hx, hb, hml, hown, hts⟩ (c_X5_place l dC dI cI cJ cZ a_fld a_coef a_mags a_marks H.size fld_wide fld_high fld_band fld_causal p1 p2) (cwV 2 hts gX5_tell_X5_place rfl rfl rfl (by decide +kernel) ⟨Nat.le_of_ble_eq_true rfl, Nat.le_of_ble_eq_true rfl⟩) ⟨fun a U g mk q => by obtain ⟨q0, q1, qP, qK, qD⟩ := q; exact ⟨q0, q1, qP, va_K.moved (u := U) (U := U.calling g mk a) (Vm.Alike.refl U.vm) qK, qD⟩, va_recv hK hPc (ci := 4) (q0 := 0) rfl rfl, fun U hU hW => ⟨rfl, by rw [hU], by rw [hU]; exact hPc, va_K.moved hW.alike hK, hDc.weaken (fun _ _ _ _ => trivial)⟩⟩ rfl rfl hl.1 rfl (lv_room (Nat.le_of_ble_eq_true rfl)) dX5_tell_16 ⟨Nat.le_of_ble_eq_true rfl, Nat.le_of_ble_eq_true rfl⟩) hS (fun q _ h => hFc q h) hFc (fun r u t H1 locs ht hvm hw hB hz1 hk1 hS => ?_)
    obtain ⟨hP1, hK1, hD1⟩ := hB
    rw [ht] at hP1
    obtain ⟨r_3, hr_3⟩ : ∃ z, F_X5_place p1 p2 fld_wide = z := ⟨_, rfl⟩
    try rw [hr_3] at hw
    try rw [hr_3] at hP1
    try rw [hr_3] at hD1
    have hg : (upd marks_f r_3.toNatClampNeg ((marks_f r_3.toNatClampNeg) + p3)) = g := by first | (rw [hr_3] at hg; exact hg) | (subst hr_3; exact hg)
    have hw := hw.symm
    subst hw
    obtain ⟨hP, hD⟩ := va_join (wr := [(a_marks, .inl (cI, marks_n, .inl marks_f))]) (w1 := (wd_fld a_fld a_coef a_mags a_marks fld_wide fld_high fld_band fld_causal)) hP hD [0] [1] rfl rfl (by decide) (by decide) hk1 hFc hP1 hD1
    have hP : va_P (dC, dI) vwCl (wd_fld_marks cI a_fld a_coef a_mags a_marks fld_wide fld_high fld_band fld_causal marks_n marks_f) H1 := hP.sub [1, 0] rfl
    have hD : va_D A (wd_fld_marks cI a_fld a_coef a_mags a_marks fld_wide fld_high fld_band fld_causal marks_n marks_f) := hD.sub [1, 0] (by decide) rfl
    generalize H1 = H at hP hS ⊢
    have hpre := hpre r_3 hr_3
    refine lv_dup2_11 hx hb dX5_tell_19 rfl rfl ?_
    have h_4 := hpre
    refine va_iald hx hb hK hP 1 0 rfl rfl h_4 dX5_tell_20 ?_
    refine lv_iload_n hx hb dX5_tell_21 rfl (lv_at hl 3 rfl) ?_
    refine lv_iadd hx hb dX5_tell_22 ?_
    refine va_iast hx hb hK hP hD hS 1 0 rfl rfl h_4 dX5_tell_23 (fun H locs hP hD hS => ?_)
    have hP : va_P (dC, dI) vwCl (wd_fld_marks cI a_fld a_coef a_mags a_marks fld_wide fld_high fld_band fld_causal marks_n (upd marks_f r_3.toNatClampNeg ((marks_f r_3.toNatClampNeg) + p3))) H := hP
    have hD : va_D A (wd_fld_marks cI a_fld a_coef a_mags a_marks fld_wide fld_high fld_band fld_causal marks_n (upd marks_f r_3.toNatClampNeg ((marks_f r_3.toNatClampNeg) + p3))) := hD
    subst hg
    rw [← hQe]
    exact W.vret hx hb hr (fun t ht hW => ⟨⟨(), rfl, trivial, by rw [ht]; exact hP, va_K.moved hW.alike hK, hD⟩, hS.F ht⟩) hS.2.2 dX5_tell_24
abbrev rm_X5_signify : Room := { frames := 2, cells := 0, slots := 0, locals := 45 }
abbrev Q_X5_signify (dC : Nat → ClassId) (dI : Nat → Nat → Nat) (cI cJ cZ : ClassId) (a_fld : Nat) (a_coef : Nat) (a_mags : Nat) (a_marks : Nat) (A : Nat → Prop) (fld_wide : Int32) (fld_high : Int32) (fld_band : Int32) (fld_causal : Int32) (marks_n : Nat) (marks_f : Nat → Int32) (g : (Nat → Int32)) : Array Value → State → Outcome → State → Prop := va_Qv (fun _ : Unit => True) (fun u t => va_P (dC, dI) vwCl (wd_fld_marks cI a_fld a_coef a_mags a_marks fld_wide fld_high fld_band fld_causal marks_n g) t.heap ∧ va_K (dC, dI) vwCl [(cI, .int), (cJ, .long), (cZ, .boolean)] t ∧ va_D A (wd_fld_marks cI a_fld a_coef a_mags a_marks fld_wide fld_high fld_band fld_causal marks_n g)) A
theorem iw_X5_signify_X5 : ∀ w ∈ u_ws RX5 TX5 7, w ∈ wsX5_signify := by decide +kernel
set_option maxHeartbeats 4000000 in
set_option maxRecDepth 100000 in
theorem c_X5_signify (l : Launch) (dC : Nat → ClassId) (dI : Nat → Nat → Nat) (cI cJ cZ : ClassId) (a_fld : Nat) (a_coef : Nat) (a_mags : Nat) (a_marks : Nat) (sz : Nat) (fld_wide : Int32) (fld_high : Int32) (fld_band : Int32) (fld_causal : Int32) (marks_n : Nat) (marks_f : Nat → Int32) (p1 : Int32) (p2 : Int32) (p3 : Int32) (hpre : P_X5_signify p1 p2 p3 fld_wide fld_high fld_causal marks_n marks_f) : Met l yX5_signify wsX5_signify rm_X5_signify (va_Pc [.ref a_fld, .int p1, .int p2, .int p3] (fun U => U.heap.size = sz ∧ va_P (dC, dI) vwCl (wd_fld_marks cI a_fld a_coef a_mags a_marks fld_wide fld_high fld_band fld_causal marks_n marks_f) U.heap ∧ va_K (dC, dI) vwCl [(cI, .int), (cJ, .long), (cZ, .boolean)] U ∧ va_D (fun _ => True) (wd_fld_marks cI a_fld a_coef a_mags a_marks fld_wide fld_high fld_band fld_causal marks_n marks_f))) (Q_X5_signify dC dI cI cJ cZ a_fld a_coef a_mags a_marks (va_A (wd_fld_marks cI a_fld a_coef a_mags a_marks fld_wide fld_high fld_band fld_causal marks_n marks_f) sz) fld_wide fld_high fld_band fld_causal marks_n marks_f (F_X5_signify p1 p2 p3 fld_wide fld_high fld_causal marks_f)) 0 0 (va_A (wd_fld_marks cI a_fld a_coef a_mags a_marks fld_wide fld_high fld_band fld_causal marks_n marks_f) sz) := by
  refine Met.ofW (cc := cX5_signify) (maxL := 7) (ret := none) (by decide) rfl ?_
  intro p e s m args below meth c s₁ B hml hv
  obtain ⟨rfl, hsz, hP, hK, hD0⟩ := hv
  have hx := B.exec
  have hb := B.bytes
  have hr := B.returns
  have hts := atoms_spec (ws := wsX5_signify) B.pre
  have hown : s.vm.findClass RX5 = some m.cls := findClass_of_methodNamed B.named
  have hlocks := B.notSynchronized
  subst hsz
  have hD := hD0.self (sz := s.heap.size)
  generalize hAe : va_A (wd_fld_marks cI a_fld a_coef a_mags a_marks fld_wide fld_high fld_band fld_causal marks_n marks_f) s.heap.size = A at hD ⊢
  have hA : ∀ q : Nat, s.heap.size ≤ q → A q := fun q h => by rw [← hAe]; exact Or.inr h
  have hS : va_S A s.heap s.heap [] := va_S.rf
  obtain ⟨H, hH⟩ : ∃ z, z = s.heap := ⟨_, rfl⟩
  have hP : va_P (dC, dI) vwCl (wd_fld_marks cI a_fld a_coef a_mags a_marks fld_wide fld_high fld_band fld_causal marks_n marks_f) H := by rw [hH]; exact hP
  have hS : va_S A s.heap H [] := by rw [hH]; exact va_S.rf
  obtain ⟨g, hg⟩ : ∃ z, F_X5_signify p1 p2 p3 fld_wide fld_high fld_causal marks_f = z := ⟨_, rfl⟩
  rw [hg]
  generalize hQe : MQ below (Q_X5_signify dC dI cI cJ cZ a_fld a_coef a_mags a_marks A fld_wide fld_high fld_band fld_causal marks_n marks_f g) _ s 0 0 A = Q
  rw [← hH]
  clear hH
  have hl := lv_entry ([.ref a_fld, .int p1, .int p2, .int p3]) (n := 7) (Nat.le_of_ble_eq_true rfl)
  rw [lg_entry_eq]
  generalize (lg_sl ([.ref a_fld, .int p1, .int p2, .int p3]) ++ List.replicate (7 - (lg_sl ([.ref a_fld, .int p1, .int p2, .int p3])).length) Slot.unset).toArray = ls at hl ⊢
  have hl : lv_has ls 7 [(0, .ref a_fld), (1, .int p1), (2, .int p2), (3, .int p3)] := hl
  unfold F_X5_signify at hg
  unfold P_X5_signify at hpre
  refine lv_aload_n hx hb dX5_signify_0 rfl (lv_at hl 0 rfl) ?_
  refine va_get (D := (dC, dI)) (ci := 4) (v := .ref a_marks) (C := RX5) (T := TX5) (N := 7) hx hb hts iw_X5_signify_X5 hown hK hP 0 rfl rfl 4 (by decide) (hts (.fieldLink RX5 25 "PlaneBlocks$Field" "marks" "[I") (by decide +kernel)) (fun _ h9 => h9) rfl dX5_signify_1 ?_
  refine lv_aload_n hx hb dX5_signify_4 rfl (lv_at hl 0 rfl) ?_
  refine lv_iload_n hx hb dX5_signify_5 rfl (lv_at hl 1 rfl) ?_
  refine lv_iload_n hx hb dX5_signify_6 rfl (lv_at hl 2 rfl) ?_
  have hPc := hP.sub (ws' := (wd_fld a_fld a_coef a_mags a_marks fld_wide fld_high fld_band fld_causal)) [0] rfl
  have hDc := hD.sub (ws' := (wd_fld a_fld a_coef a_mags a_marks fld_wide fld_high fld_band fld_causal)) [0] (by decide) rfl
  have hFc := va_free (wc := (wd_fld a_fld a_coef a_mags a_marks fld_wide fld_high fld_band fld_causal)) hD hS hA [0] rfl
  refine va_calli (va_runV (As := [.int p1, .int p2]) (rest := [.ref a_marks]) ⟨hx, hb, hml, hown, hts⟩ (c_X5_place l dC dI cI cJ cZ a_fld a_coef a_mags a_marks H.size fld_wide fld_high fld_band fld_causal p1 p2) (cwV 2 hts gX5_signify_X5_place rfl rfl rfl (by decide +kernel) ⟨Nat.le_of_ble_eq_true rfl, Nat.le_of_ble_eq_true rfl⟩) ⟨fun a U g mk q => by obtain ⟨q0, q1, qP, qK, qD⟩ := q; exact ⟨q0, q1, qP, va_K.moved (u := U) (U := U.calling g mk a) (Vm.Alike.refl U.vm) qK, qD⟩, va_recv hK hPc (ci := 4) (q0 := 0) rfl rfl, fun U hU hW => ⟨rfl, by rw [hU], by rw [hU]; exact hPc, va_K.moved hW.alike hK, hDc.weaken (fun _ _ _ _ => trivial)⟩⟩ rfl rfl hl.1 rfl (lv_room (Nat.le_of_ble_eq_true rfl)) dX5_signify_7 ⟨Nat.le_of_ble_eq_true rfl, Nat.le_of_ble_eq_true rfl⟩) hS (fun q _ h => hFc q h) hFc (fun r u t H1 locs ht hvm hw hB hz1 hk1 hS => ?_)
  obtain ⟨hP1, hK1, hD1⟩ := hB
  rw [ht] at hP1
  obtain ⟨r_1, hr_1⟩ : ∃ z, F_X5_place p1 p2 fld_wide = z := ⟨_, rfl⟩
  try rw [hr_1] at hw
  try rw [hr_1] at hP1
  try rw [hr_1] at hD1
  have hg : (let j_4 := J_X5_signify_j_4 p3; let r_6 := F_X5_tell (p1 - (1 : Int32)) p2 ((1 : Int32) + (p3 <<< ((7 : Int32) &&& 31))) fld_wide fld_high (upd marks_f r_1.toNatClampNeg ((marks_f r_1.toNatClampNeg) ||| j_4)); let r_7 := F_X5_tell (p1 + (1 : Int32)) p2 ((1 : Int32) + (p3 <<< ((7 : Int32) &&& 31))) fld_wide fld_high r_6; let r_8 := F_X5_tell (p1 - (1 : Int32)) (p2 + (1 : Int32)) (16 : Int32) fld_wide fld_high r_7; let r_9 := F_X5_tell p1 (p2 + (1 : Int32)) ((4 : Int32) + (p3 <<< ((9 : Int32) &&& 31))) fld_wide fld_high r_8; let r_10 := F_X5_tell (p1 + (1 : Int32)) (p2 + (1 : Int32)) (16 : Int32) fld_wide fld_high r_9; if fld_causal = (0 : Int32) then (let r_12 := F_X5_tell (p1 - (1 : Int32)) (p2 - (1 : Int32)) (16 : Int32) fld_wide fld_high r_10; let r_13 := F_X5_tell p1 (p2 - (1 : Int32)) ((4 : Int32) + (p3 <<< ((9 : Int32) &&& 31))) fld_wide fld_high r_12; let r_14 := F_X5_tell (p1 + (1 : Int32)) (p2 - (1 : Int32)) (16 : Int32) fld_wide fld_high r_13; r_14) else (if (p2 - p2 / (4 : Int32) * (4 : Int32)) = (0 : Int32) then r_10 else (let r_16 := F_X5_tell (p1 - (1 : Int32)) (p2 - (1 : Int32)) (16 : Int32) fld_wide fld_high r_10; let r_17 := F_X5_tell p1 (p2 - (1 : Int32)) ((4 : Int32) + (p3 <<< ((9 : Int32) &&& 31))) fld_wide fld_high r_16; let r_18 := F_X5_tell (p1 + (1 : Int32)) (p2 - (1 : Int32)) (16 : Int32) fld_wide fld_high r_17; r_18))) = g := by first | (rw [hr_1] at hg; exact hg) | (subst hr_1; exact hg)
  have hw := hw.symm
  subst hw
  obtain ⟨hP, hD⟩ := va_join (wr := [(a_marks, .inl (cI, marks_n, .inl marks_f))]) (w1 := (wd_fld a_fld a_coef a_mags a_marks fld_wide fld_high fld_band fld_causal)) hP hD [0] [1] rfl rfl (by decide) (by decide) hk1 hFc hP1 hD1
  have hP : va_P (dC, dI) vwCl (wd_fld_marks cI a_fld a_coef a_mags a_marks fld_wide fld_high fld_band fld_causal marks_n marks_f) H1 := hP.sub [1, 0] rfl
  have hD : va_D A (wd_fld_marks cI a_fld a_coef a_mags a_marks fld_wide fld_high fld_band fld_causal marks_n marks_f) := hD.sub [1, 0] (by decide) rfl
  generalize H1 = H at hP hS ⊢
  have hpre := hpre r_1 hr_1
  refine lv_dup2_11 hx hb dX5_signify_10 rfl rfl ?_
  have h_2 := hpre.1
  have hpre := hpre.2
  refine va_iald hx hb hK hP 1 0 rfl rfl h_2 dX5_signify_11 ?_
  refine lv_iload_n hx hb dX5_signify_12 rfl (lv_at hl 3 rfl) ?_
  refine lv_iconst (v := 1) hx hb dX5_signify_13 (by decide) ?_
  obtain ⟨j_4, hj_4⟩ : ∃ z, J_X5_signify_j_4 p3 = z := ⟨_, rfl⟩
  have hg : (let r_6 := F_X5_tell (p1 - (1 : Int32)) p2 ((1 : Int32) + (p3 <<< ((7 : Int32) &&& 31))) fld_wide fld_high (upd marks_f r_1.toNatClampNeg ((marks_f r_1.toNatClampNeg) ||| j_4)); let r_7 := F_X5_tell (p1 + (1 : Int32)) p2 ((1 : Int32) + (p3 <<< ((7 : Int32) &&& 31))) fld_wide fld_high r_6; let r_8 := F_X5_tell (p1 - (1 : Int32)) (p2 + (1 : Int32)) (16 : Int32) fld_wide fld_high r_7; let r_9 := F_X5_tell p1 (p2 + (1 : Int32)) ((4 : Int32) + (p3 <<< ((9 : Int32) &&& 31))) fld_wide fld_high r_8; let r_10 := F_X5_tell (p1 + (1 : Int32)) (p2 + (1 : Int32)) (16 : Int32) fld_wide fld_high r_9; if fld_causal = (0 : Int32) then (let r_12 := F_X5_tell (p1 - (1 : Int32)) (p2 - (1 : Int32)) (16 : Int32) fld_wide fld_high r_10; let r_13 := F_X5_tell p1 (p2 - (1 : Int32)) ((4 : Int32) + (p3 <<< ((9 : Int32) &&& 31))) fld_wide fld_high r_12; let r_14 := F_X5_tell (p1 + (1 : Int32)) (p2 - (1 : Int32)) (16 : Int32) fld_wide fld_high r_13; r_14) else (if (p2 - p2 / (4 : Int32) * (4 : Int32)) = (0 : Int32) then r_10 else (let r_16 := F_X5_tell (p1 - (1 : Int32)) (p2 - (1 : Int32)) (16 : Int32) fld_wide fld_high r_10; let r_17 := F_X5_tell p1 (p2 - (1 : Int32)) ((4 : Int32) + (p3 <<< ((9 : Int32) &&& 31))) fld_wide fld_high r_16; let r_18 := F_X5_tell (p1 + (1 : Int32)) (p2 - (1 : Int32)) (16 : Int32) fld_wide fld_high r_17; r_18))) = g := by first | (rw [hj_4] at hg; exact hg) | (subst hj_4; exact hg)
  have hJ_j_4 : ∀ (H : Heap) (locs : List Loc) (ls : Array Slot), va_P (dC, dI) vwCl (wd_fld_marks cI a_fld a_coef a_mags a_marks fld_wide fld_high fld_band fld_causal marks_n marks_f) H → va_D A (wd_fld_marks cI a_fld a_coef a_mags a_marks fld_wide fld_high fld_band fld_causal marks_n marks_f) → va_S A s.heap H locs → lv_has ls 7 [(0, .ref a_fld), (1, .int p1), (2, .int p2), (3, .int p3)] → W p l e (headSpec wsX5_signify rm_X5_signify).room s m ([.ref a_fld, .int p1, .int p2, .int p3] : List Value).toArray below meth c H locs 0 0 Q (F0 m 26 ls [.int j_4, .int (marks_f r_1.toNatClampNeg), .int r_1, .ref a_marks]) := by
    intro H locs ls hP hD hS hl
    have hpre := hpre j_4 hj_4
    refine lv_ior hx hb dX5_signify_26 ?_
    refine va_iast hx hb hK hP hD hS 1 0 rfl rfl h_2 dX5_signify_27 (fun H locs hP hD hS => ?_)
    have hP : va_P (dC, dI) vwCl (wd_fld_marks cI a_fld a_coef a_mags a_marks fld_wide fld_high fld_band fld_causal marks_n (upd marks_f r_1.toNatClampNeg ((marks_f r_1.toNatClampNeg) ||| j_4))) H := hP
    have hD : va_D A (wd_fld_marks cI a_fld a_coef a_mags a_marks fld_wide fld_high fld_band fld_causal marks_n (upd marks_f r_1.toNatClampNeg ((marks_f r_1.toNatClampNeg) ||| j_4))) := hD
    refine lv_iconst (v := 1) hx hb dX5_signify_28 (by decide) ?_
    refine lv_iload_n hx hb dX5_signify_29 rfl (lv_at hl 3 rfl) ?_
    refine lv_bipush (v := 7) hx hb dX5_signify_30 (by decide) ?_
    refine lv_ishl hx hb dX5_signify_32 ?_
    refine lv_iadd hx hb dX5_signify_33 ?_
    refine lv_istore (lv' := [(4, .int ((1 : Int32) + (p3 <<< ((7 : Int32) &&& 31)))), (0, .ref a_fld), (1, .int p1), (2, .int p2), (3, .int p3)]) hx hb dX5_signify_34 hl (by decide) rfl (fun ls hl => ?_)
    refine lv_iconst (v := 4) hx hb dX5_signify_36 (by decide) ?_
    refine lv_iload_n hx hb dX5_signify_37 rfl (lv_at hl 4 rfl) ?_
    refine lv_bipush (v := 9) hx hb dX5_signify_38 (by decide) ?_
    refine lv_ishl hx hb dX5_signify_40 ?_
    refine lv_iadd hx hb dX5_signify_41 ?_
    refine lv_istore (lv' := [(5, .int ((4 : Int32) + (p3 <<< ((9 : Int32) &&& 31)))), (4, .int ((1 : Int32) + (p3 <<< ((7 : Int32) &&& 31)))), (0, .ref a_fld), (1, .int p1), (2, .int p2), (3, .int p3)]) hx hb dX5_signify_42 hl (by decide) rfl (fun ls hl => ?_)
    refine lv_bipush (v := 16) hx hb dX5_signify_44 (by decide) ?_
    refine lv_istore (lv' := [(6, .int (16 : Int32)), (5, .int ((4 : Int32) + (p3 <<< ((9 : Int32) &&& 31)))), (4, .int ((1 : Int32) + (p3 <<< ((7 : Int32) &&& 31)))), (0, .ref a_fld), (1, .int p1), (2, .int p2), (3, .int p3)]) hx hb dX5_signify_46 hl (by decide) rfl (fun ls hl => ?_)
    refine lv_aload_n hx hb dX5_signify_48 rfl (lv_at hl 3 rfl) ?_
    refine lv_iload_n hx hb dX5_signify_49 rfl (lv_at hl 4 rfl) ?_
    refine lv_iconst (v := 1) hx hb dX5_signify_50 (by decide) ?_
    refine lv_isub hx hb dX5_signify_51 ?_
    refine lv_iload_n hx hb dX5_signify_52 rfl (lv_at hl 5 rfl) ?_
    refine lv_iload hx hb dX5_signify_53 (lv_at hl 2 rfl) ?_
    have hPc := hP.sub (ws' := (wd_fld_marks cI a_fld a_coef a_mags a_marks fld_wide fld_high fld_band fld_causal marks_n (upd marks_f r_1.toNatClampNeg ((marks_f r_1.toNatClampNeg) ||| j_4)))) [0, 1] rfl
    have hDc := hD.sub (ws' := (wd_fld_marks cI a_fld a_coef a_mags a_marks fld_wide fld_high fld_band fld_causal marks_n (upd marks_f r_1.toNatClampNeg ((marks_f r_1.toNatClampNeg) ||| j_4)))) [0, 1] (by decide) rfl
    have hFc := va_free (wc := (wd_fld_marks cI a_fld a_coef a_mags a_marks fld_wide fld_high fld_band fld_causal marks_n (upd marks_f r_1.toNatClampNeg ((marks_f r_1.toNatClampNeg) ||| j_4)))) hD hS hA [0, 1] rfl
    refine va_callv (va_runV (As := [.int (p1 - (1 : Int32)), .int p2, .int ((1 : Int32) + (p3 <<< ((7 : Int32) &&& 31)))]) (rest := []) ⟨hx, hb, hml, hown, hts⟩ (c_X5_tell l dC dI cI cJ cZ a_fld a_coef a_mags a_marks H.size fld_wide fld_high fld_band fld_causal marks_n (upd marks_f r_1.toNatClampNeg ((marks_f r_1.toNatClampNeg) ||| j_4)) (p1 - (1 : Int32)) p2 ((1 : Int32) + (p3 <<< ((7 : Int32) &&& 31))) hpre.1) (cwV 3 hts gX5_signify_X5_tell rfl rfl rfl (by decide +kernel) ⟨Nat.le_of_ble_eq_true rfl, Nat.le_of_ble_eq_true rfl⟩) ⟨fun a U g mk q => by obtain ⟨q0, q1, qP, qK, qD⟩ := q; exact ⟨q0, q1, qP, va_K.moved (u := U) (U := U.calling g mk a) (Vm.Alike.refl U.vm) qK, qD⟩, va_recv hK hPc (ci := 4) (q0 := 0) rfl rfl, fun U hU hW => ⟨rfl, by rw [hU], by rw [hU]; exact hPc, va_K.moved hW.alike hK, hDc.weaken (fun _ _ _ _ => trivial)⟩⟩ rfl rfl hl.1 rfl (lv_room (Nat.le_of_ble_eq_true rfl)) dX5_signify_55 ⟨Nat.le_of_ble_eq_true rfl, Nat.le_of_ble_eq_true rfl⟩) hS (fun q _ h => hFc q h) hFc (fun u t H1 locs ht hvm hw hB hz1 hk1 hS => ?_)
    obtain ⟨hP1, hK1, hD1⟩ := hB
    rw [ht] at hP1
    obtain ⟨r_6, hr_6⟩ : ∃ z, F_X5_tell (p1 - (1 : Int32)) p2 ((1 : Int32) + (p3 <<< ((7 : Int32) &&& 31))) fld_wide fld_high (upd marks_f r_1.toNatClampNeg ((marks_f r_1.toNatClampNeg) ||| j_4)) = z := ⟨_, rfl⟩
    try rw [hr_6] at hw
    try rw [hr_6] at hP1
    try rw [hr_6] at hD1
    have hg : (let r_7 := F_X5_tell (p1 + (1 : Int32)) p2 ((1 : Int32) + (p3 <<< ((7 : Int32) &&& 31))) fld_wide fld_high r_6; let r_8 := F_X5_tell (p1 - (1 : Int32)) (p2 + (1 : Int32)) (16 : Int32) fld_wide fld_high r_7; let r_9 := F_X5_tell p1 (p2 + (1 : Int32)) ((4 : Int32) + (p3 <<< ((9 : Int32) &&& 31))) fld_wide fld_high r_8; let r_10 := F_X5_tell (p1 + (1 : Int32)) (p2 + (1 : Int32)) (16 : Int32) fld_wide fld_high r_9; if fld_causal = (0 : Int32) then (let r_12 := F_X5_tell (p1 - (1 : Int32)) (p2 - (1 : Int32)) (16 : Int32) fld_wide fld_high r_10; let r_13 := F_X5_tell p1 (p2 - (1 : Int32)) ((4 : Int32) + (p3 <<< ((9 : Int32) &&& 31))) fld_wide fld_high r_12; let r_14 := F_X5_tell (p1 + (1 : Int32)) (p2 - (1 : Int32)) (16 : Int32) fld_wide fld_high r_13; r_14) else (if (p2 - p2 / (4 : Int32) * (4 : Int32)) = (0 : Int32) then r_10 else (let r_16 := F_X5_tell (p1 - (1 : Int32)) (p2 - (1 : Int32)) (16 : Int32) fld_wide fld_high r_10; let r_17 := F_X5_tell p1 (p2 - (1 : Int32)) ((4 : Int32) + (p3 <<< ((9 : Int32) &&& 31))) fld_wide fld_high r_16; let r_18 := F_X5_tell (p1 + (1 : Int32)) (p2 - (1 : Int32)) (16 : Int32) fld_wide fld_high r_17; r_18))) = g := by first | (rw [hr_6] at hg; exact hg) | (subst hr_6; exact hg)
    obtain ⟨hP, hD⟩ := va_join (wr := []) (w1 := (wd_fld_marks cI a_fld a_coef a_mags a_marks fld_wide fld_high fld_band fld_causal marks_n r_6)) hP hD [0, 1] [] rfl rfl (by decide) (by decide) hk1 hFc hP1 hD1
    have hP : va_P (dC, dI) vwCl (wd_fld_marks cI a_fld a_coef a_mags a_marks fld_wide fld_high fld_band fld_causal marks_n r_6) H1 := hP.sub [0, 1] rfl
    have hD : va_D A (wd_fld_marks cI a_fld a_coef a_mags a_marks fld_wide fld_high fld_band fld_causal marks_n r_6) := hD.sub [0, 1] (by decide) rfl
    generalize H1 = H at hP hS ⊢
    have hpre := hpre.2 r_6 hr_6
    refine lv_aload_n hx hb dX5_signify_58 rfl (lv_at hl 3 rfl) ?_
    refine lv_iload_n hx hb dX5_signify_59 rfl (lv_at hl 4 rfl) ?_
    refine lv_iconst (v := 1) hx hb dX5_signify_60 (by decide) ?_
    refine lv_iadd hx hb dX5_signify_61 ?_
    refine lv_iload_n hx hb dX5_signify_62 rfl (lv_at hl 5 rfl) ?_
    refine lv_iload hx hb dX5_signify_63 (lv_at hl 2 rfl) ?_
    have hPc := hP.sub (ws' := (wd_fld_marks cI a_fld a_coef a_mags a_marks fld_wide fld_high fld_band fld_causal marks_n r_6)) [0, 1] rfl
    have hDc := hD.sub (ws' := (wd_fld_marks cI a_fld a_coef a_mags a_marks fld_wide fld_high fld_band fld_causal marks_n r_6)) [0, 1] (by decide) rfl
    have hFc := va_free (wc := (wd_fld_marks cI a_fld a_coef a_mags a_marks fld_wide fld_high fld_band fld_causal marks_n r_6)) hD hS hA [0, 1] rfl
    refine va_callv (va_runV (As := [.int (p1 + (1 : Int32)), .int p2, .int ((1 : Int32) + (p3 <<< ((7 : Int32) &&& 31)))]) (rest := []) ⟨hx, hb, hml, hown, hts⟩ (c_X5_tell l dC dI cI cJ cZ a_fld a_coef a_mags a_marks H.size fld_wide fld_high fld_band fld_causal marks_n r_6 (p1 + (1 : Int32)) p2 ((1 : Int32) + (p3 <<< ((7 : Int32) &&& 31))) hpre.1) (cwV 3 hts gX5_signify_X5_tell rfl rfl rfl (by decide +kernel) ⟨Nat.le_of_ble_eq_true rfl, Nat.le_of_ble_eq_true rfl⟩) ⟨fun a U g mk q => by obtain ⟨q0, q1, qP, qK, qD⟩ := q; exact ⟨q0, q1, qP, va_K.moved (u := U) (U := U.calling g mk a) (Vm.Alike.refl U.vm) qK, qD⟩, va_recv hK hPc (ci := 4) (q0 := 0) rfl rfl, fun U hU hW => ⟨rfl, by rw [hU], by rw [hU]; exact hPc, va_K.moved hW.alike hK, hDc.weaken (fun _ _ _ _ => trivial)⟩⟩ rfl rfl hl.1 rfl (lv_room (Nat.le_of_ble_eq_true rfl)) dX5_signify_65 ⟨Nat.le_of_ble_eq_true rfl, Nat.le_of_ble_eq_true rfl⟩) hS (fun q _ h => hFc q h) hFc (fun u t H1 locs ht hvm hw hB hz1 hk1 hS => ?_)
    obtain ⟨hP1, hK1, hD1⟩ := hB
    rw [ht] at hP1
    obtain ⟨r_7, hr_7⟩ : ∃ z, F_X5_tell (p1 + (1 : Int32)) p2 ((1 : Int32) + (p3 <<< ((7 : Int32) &&& 31))) fld_wide fld_high r_6 = z := ⟨_, rfl⟩
    try rw [hr_7] at hw
    try rw [hr_7] at hP1
    try rw [hr_7] at hD1
    have hg : (let r_8 := F_X5_tell (p1 - (1 : Int32)) (p2 + (1 : Int32)) (16 : Int32) fld_wide fld_high r_7; let r_9 := F_X5_tell p1 (p2 + (1 : Int32)) ((4 : Int32) + (p3 <<< ((9 : Int32) &&& 31))) fld_wide fld_high r_8; let r_10 := F_X5_tell (p1 + (1 : Int32)) (p2 + (1 : Int32)) (16 : Int32) fld_wide fld_high r_9; if fld_causal = (0 : Int32) then (let r_12 := F_X5_tell (p1 - (1 : Int32)) (p2 - (1 : Int32)) (16 : Int32) fld_wide fld_high r_10; let r_13 := F_X5_tell p1 (p2 - (1 : Int32)) ((4 : Int32) + (p3 <<< ((9 : Int32) &&& 31))) fld_wide fld_high r_12; let r_14 := F_X5_tell (p1 + (1 : Int32)) (p2 - (1 : Int32)) (16 : Int32) fld_wide fld_high r_13; r_14) else (if (p2 - p2 / (4 : Int32) * (4 : Int32)) = (0 : Int32) then r_10 else (let r_16 := F_X5_tell (p1 - (1 : Int32)) (p2 - (1 : Int32)) (16 : Int32) fld_wide fld_high r_10; let r_17 := F_X5_tell p1 (p2 - (1 : Int32)) ((4 : Int32) + (p3 <<< ((9 : Int32) &&& 31))) fld_wide fld_high r_16; let r_18 := F_X5_tell (p1 + (1 : Int32)) (p2 - (1 : Int32)) (16 : Int32) fld_wide fld_high r_17; r_18))) = g := by first | (rw [hr_7] at hg; exact hg) | (subst hr_7; exact hg)
    obtain ⟨hP, hD⟩ := va_join (wr := []) (w1 := (wd_fld_marks cI a_fld a_coef a_mags a_marks fld_wide fld_high fld_band fld_causal marks_n r_7)) hP hD [0, 1] [] rfl rfl (by decide) (by decide) hk1 hFc hP1 hD1
    have hP : va_P (dC, dI) vwCl (wd_fld_marks cI a_fld a_coef a_mags a_marks fld_wide fld_high fld_band fld_causal marks_n r_7) H1 := hP.sub [0, 1] rfl
    have hD : va_D A (wd_fld_marks cI a_fld a_coef a_mags a_marks fld_wide fld_high fld_band fld_causal marks_n r_7) := hD.sub [0, 1] (by decide) rfl
    generalize H1 = H at hP hS ⊢
    have hpre := hpre.2 r_7 hr_7
    refine lv_aload_n hx hb dX5_signify_68 rfl (lv_at hl 3 rfl) ?_
    refine lv_iload_n hx hb dX5_signify_69 rfl (lv_at hl 4 rfl) ?_
    refine lv_iconst (v := 1) hx hb dX5_signify_70 (by decide) ?_
    refine lv_isub hx hb dX5_signify_71 ?_
    refine lv_iload_n hx hb dX5_signify_72 rfl (lv_at hl 5 rfl) ?_
    refine lv_iconst (v := 1) hx hb dX5_signify_73 (by decide) ?_
    refine lv_iadd hx hb dX5_signify_74 ?_
    refine lv_iload hx hb dX5_signify_75 (lv_at hl 0 rfl) ?_
    have hPc := hP.sub (ws' := (wd_fld_marks cI a_fld a_coef a_mags a_marks fld_wide fld_high fld_band fld_causal marks_n r_7)) [0, 1] rfl
    have hDc := hD.sub (ws' := (wd_fld_marks cI a_fld a_coef a_mags a_marks fld_wide fld_high fld_band fld_causal marks_n r_7)) [0, 1] (by decide) rfl
    have hFc := va_free (wc := (wd_fld_marks cI a_fld a_coef a_mags a_marks fld_wide fld_high fld_band fld_causal marks_n r_7)) hD hS hA [0, 1] rfl
    refine va_callv (va_runV (As := [.int (p1 - (1 : Int32)), .int (p2 + (1 : Int32)), .int (16 : Int32)]) (rest := []) ⟨hx, hb, hml, hown, hts⟩ (c_X5_tell l dC dI cI cJ cZ a_fld a_coef a_mags a_marks H.size fld_wide fld_high fld_band fld_causal marks_n r_7 (p1 - (1 : Int32)) (p2 + (1 : Int32)) (16 : Int32) hpre.1) (cwV 3 hts gX5_signify_X5_tell rfl rfl rfl (by decide +kernel) ⟨Nat.le_of_ble_eq_true rfl, Nat.le_of_ble_eq_true rfl⟩) ⟨fun a U g mk q => by obtain ⟨q0, q1, qP, qK, qD⟩ := q; exact ⟨q0, q1, qP, va_K.moved (u := U) (U := U.calling g mk a) (Vm.Alike.refl U.vm) qK, qD⟩, va_recv hK hPc (ci := 4) (q0 := 0) rfl rfl, fun U hU hW => ⟨rfl, by rw [hU], by rw [hU]; exact hPc, va_K.moved hW.alike hK, hDc.weaken (fun _ _ _ _ => trivial)⟩⟩ rfl rfl hl.1 rfl (lv_room (Nat.le_of_ble_eq_true rfl)) dX5_signify_77 ⟨Nat.le_of_ble_eq_true rfl, Nat.le_of_ble_eq_true rfl⟩) hS (fun q _ h => hFc q h) hFc (fun u t H1 locs ht hvm hw hB hz1 hk1 hS => ?_)
    obtain ⟨hP1, hK1, hD1⟩ := hB
    rw [ht] at hP1
    obtain ⟨r_8, hr_8⟩ : ∃ z, F_X5_tell (p1 - (1 : Int32)) (p2 + (1 : Int32)) (16 : Int32) fld_wide fld_high r_7 = z := ⟨_, rfl⟩
    try rw [hr_8] at hw
    try rw [hr_8] at hP1
    try rw [hr_8] at hD1
    have hg : (let r_9 := F_X5_tell p1 (p2 + (1 : Int32)) ((4 : Int32) + (p3 <<< ((9 : Int32) &&& 31))) fld_wide fld_high r_8; let r_10 := F_X5_tell (p1 + (1 : Int32)) (p2 + (1 : Int32)) (16 : Int32) fld_wide fld_high r_9; if fld_causal = (0 : Int32) then (let r_12 := F_X5_tell (p1 - (1 : Int32)) (p2 - (1 : Int32)) (16 : Int32) fld_wide fld_high r_10; let r_13 := F_X5_tell p1 (p2 - (1 : Int32)) ((4 : Int32) + (p3 <<< ((9 : Int32) &&& 31))) fld_wide fld_high r_12; let r_14 := F_X5_tell (p1 + (1 : Int32)) (p2 - (1 : Int32)) (16 : Int32) fld_wide fld_high r_13; r_14) else (if (p2 - p2 / (4 : Int32) * (4 : Int32)) = (0 : Int32) then r_10 else (let r_16 := F_X5_tell (p1 - (1 : Int32)) (p2 - (1 : Int32)) (16 : Int32) fld_wide fld_high r_10; let r_17 := F_X5_tell p1 (p2 - (1 : Int32)) ((4 : Int32) + (p3 <<< ((9 : Int32) &&& 31))) fld_wide fld_high r_16; let r_18 := F_X5_tell (p1 + (1 : Int32)) (p2 - (1 : Int32)) (16 : Int32) fld_wide fld_high r_17; r_18))) = g := by first | (rw [hr_8] at hg; exact hg) | (subst hr_8; exact hg)
    obtain ⟨hP, hD⟩ := va_join (wr := []) (w1 := (wd_fld_marks cI a_fld a_coef a_mags a_marks fld_wide fld_high fld_band fld_causal marks_n r_8)) hP hD [0, 1] [] rfl rfl (by decide) (by decide) hk1 hFc hP1 hD1
    have hP : va_P (dC, dI) vwCl (wd_fld_marks cI a_fld a_coef a_mags a_marks fld_wide fld_high fld_band fld_causal marks_n r_8) H1 := hP.sub [0, 1] rfl
    have hD : va_D A (wd_fld_marks cI a_fld a_coef a_mags a_marks fld_wide fld_high fld_band fld_causal marks_n r_8) := hD.sub [0, 1] (by decide) rfl
    generalize H1 = H at hP hS ⊢
    have hpre := hpre.2 r_8 hr_8
    refine lv_aload_n hx hb dX5_signify_80 rfl (lv_at hl 3 rfl) ?_
    refine lv_iload_n hx hb dX5_signify_81 rfl (lv_at hl 4 rfl) ?_
    refine lv_iload_n hx hb dX5_signify_82 rfl (lv_at hl 5 rfl) ?_
    refine lv_iconst (v := 1) hx hb dX5_signify_83 (by decide) ?_
    refine lv_iadd hx hb dX5_signify_84 ?_
    refine lv_iload hx hb dX5_signify_85 (lv_at hl 1 rfl) ?_
    have hPc := hP.sub (ws' := (wd_fld_marks cI a_fld a_coef a_mags a_marks fld_wide fld_high fld_band fld_causal marks_n r_8)) [0, 1] rfl
    have hDc := hD.sub (ws' := (wd_fld_marks cI a_fld a_coef a_mags a_marks fld_wide fld_high fld_band fld_causal marks_n r_8)) [0, 1] (by decide) rfl
    have hFc := va_free (wc := (wd_fld_marks cI a_fld a_coef a_mags a_marks fld_wide fld_high fld_band fld_causal marks_n r_8)) hD hS hA [0, 1] rfl
    refine va_callv (va_runV (As := [.int p1, .int (p2 + (1 : Int32)), .int ((4 : Int32) + (p3 <<< ((9 : Int32) &&& 31)))]) (rest := []) ⟨hx, hb, hml, hown, hts⟩ (c_X5_tell l dC dI cI cJ cZ a_fld a_coef a_mags a_marks H.size fld_wide fld_high fld_band fld_causal marks_n r_8 p1 (p2 + (1 : Int32)) ((4 : Int32) + (p3 <<< ((9 : Int32) &&& 31))) hpre.1) (cwV 3 hts gX5_signify_X5_tell rfl rfl rfl (by decide +kernel) ⟨Nat.le_of_ble_eq_true rfl, Nat.le_of_ble_eq_true rfl⟩) ⟨fun a U g mk q => by obtain ⟨q0, q1, qP, qK, qD⟩ := q; exact ⟨q0, q1, qP, va_K.moved (u := U) (U := U.calling g mk a) (Vm.Alike.refl U.vm) qK, qD⟩, va_recv hK hPc (ci := 4) (q0 := 0) rfl rfl, fun U hU hW => ⟨rfl, by rw [hU], by rw [hU]; exact hPc, va_K.moved hW.alike hK, hDc.weaken (fun _ _ _ _ => trivial)⟩⟩ rfl rfl hl.1 rfl (lv_room (Nat.le_of_ble_eq_true rfl)) dX5_signify_87 ⟨Nat.le_of_ble_eq_true rfl, Nat.le_of_ble_eq_true rfl⟩) hS (fun q _ h => hFc q h) hFc (fun u t H1 locs ht hvm hw hB hz1 hk1 hS => ?_)
    obtain ⟨hP1, hK1, hD1⟩ := hB
    rw [ht] at hP1
    obtain ⟨r_9, hr_9⟩ : ∃ z, F_X5_tell p1 (p2 + (1 : Int32)) ((4 : Int32) + (p3 <<< ((9 : Int32) &&& 31))) fld_wide fld_high r_8 = z := ⟨_, rfl⟩
    try rw [hr_9] at hw
    try rw [hr_9] at hP1
    try rw [hr_9] at hD1
    have hg : (let r_10 := F_X5_tell (p1 + (1 : Int32)) (p2 + (1 : Int32)) (16 : Int32) fld_wide fld_high r_9; if fld_causal = (0 : Int32) then (let r_12 := F_X5_tell (p1 - (1 : Int32)) (p2 - (1 : Int32)) (16 : Int32) fld_wide fld_high r_10; let r_13 := F_X5_tell p1 (p2 - (1 : Int32)) ((4 : Int32) + (p3 <<< ((9 : Int32) &&& 31))) fld_wide fld_high r_12; let r_14 := F_X5_tell (p1 + (1 : Int32)) (p2 - (1 : Int32)) (16 : Int32) fld_wide fld_high r_13; r_14) else (if (p2 - p2 / (4 : Int32) * (4 : Int32)) = (0 : Int32) then r_10 else (let r_16 := F_X5_tell (p1 - (1 : Int32)) (p2 - (1 : Int32)) (16 : Int32) fld_wide fld_high r_10; let r_17 := F_X5_tell p1 (p2 - (1 : Int32)) ((4 : Int32) + (p3 <<< ((9 : Int32) &&& 31))) fld_wide fld_high r_16; let r_18 := F_X5_tell (p1 + (1 : Int32)) (p2 - (1 : Int32)) (16 : Int32) fld_wide fld_high r_17; r_18))) = g := by first | (rw [hr_9] at hg; exact hg) | (subst hr_9; exact hg)
    obtain ⟨hP, hD⟩ := va_join (wr := []) (w1 := (wd_fld_marks cI a_fld a_coef a_mags a_marks fld_wide fld_high fld_band fld_causal marks_n r_9)) hP hD [0, 1] [] rfl rfl (by decide) (by decide) hk1 hFc hP1 hD1
    have hP : va_P (dC, dI) vwCl (wd_fld_marks cI a_fld a_coef a_mags a_marks fld_wide fld_high fld_band fld_causal marks_n r_9) H1 := hP.sub [0, 1] rfl
    have hD : va_D A (wd_fld_marks cI a_fld a_coef a_mags a_marks fld_wide fld_high fld_band fld_causal marks_n r_9) := hD.sub [0, 1] (by decide) rfl
    generalize H1 = H at hP hS ⊢
    have hpre := hpre.2 r_9 hr_9
    refine lv_aload_n hx hb dX5_signify_90 rfl (lv_at hl 3 rfl) ?_
    refine lv_iload_n hx hb dX5_signify_91 rfl (lv_at hl 4 rfl) ?_
    refine lv_iconst (v := 1) hx hb dX5_signify_92 (by decide) ?_
    refine lv_iadd hx hb dX5_signify_93 ?_
    refine lv_iload_n hx hb dX5_signify_94 rfl (lv_at hl 5 rfl) ?_
    refine lv_iconst (v := 1) hx hb dX5_signify_95 (by decide) ?_
    refine lv_iadd hx hb dX5_signify_96 ?_
    refine lv_iload hx hb dX5_signify_97 (lv_at hl 0 rfl) ?_
    have hPc := hP.sub (ws' := (wd_fld_marks cI a_fld a_coef a_mags a_marks fld_wide fld_high fld_band fld_causal marks_n r_9)) [0, 1] rfl
    have hDc := hD.sub (ws' := (wd_fld_marks cI a_fld a_coef a_mags a_marks fld_wide fld_high fld_band fld_causal marks_n r_9)) [0, 1] (by decide) rfl
    have hFc := va_free (wc := (wd_fld_marks cI a_fld a_coef a_mags a_marks fld_wide fld_high fld_band fld_causal marks_n r_9)) hD hS hA [0, 1] rfl
    refine va_callv (va_runV (As := [.int (p1 + (1 : Int32)), .int (p2 + (1 : Int32)), .int (16 : Int32)]) (rest := []) ⟨hx, hb, hml, hown, hts⟩ (c_X5_tell l dC dI cI cJ cZ a_fld a_coef a_mags a_marks H.size fld_wide fld_high fld_band fld_causal marks_n r_9 (p1 + (1 : Int32)) (p2 + (1 : Int32)) (16 : Int32) hpre.1) (cwV 3 hts gX5_signify_X5_tell rfl rfl rfl (by decide +kernel) ⟨Nat.le_of_ble_eq_true rfl, Nat.le_of_ble_eq_true rfl⟩) ⟨fun a U g mk q => by obtain ⟨q0, q1, qP, qK, qD⟩ := q; exact ⟨q0, q1, qP, va_K.moved (u := U) (U := U.calling g mk a) (Vm.Alike.refl U.vm) qK, qD⟩, va_recv hK hPc (ci := 4) (q0 := 0) rfl rfl, fun U hU hW => ⟨rfl, by rw [hU], by rw [hU]; exact hPc, va_K.moved hW.alike hK, hDc.weaken (fun _ _ _ _ => trivial)⟩⟩ rfl rfl hl.1 rfl (lv_room (Nat.le_of_ble_eq_true rfl)) dX5_signify_99 ⟨Nat.le_of_ble_eq_true rfl, Nat.le_of_ble_eq_true rfl⟩) hS (fun q _ h => hFc q h) hFc (fun u t H1 locs ht hvm hw hB hz1 hk1 hS => ?_)
    obtain ⟨hP1, hK1, hD1⟩ := hB
    rw [ht] at hP1
    obtain ⟨r_10, hr_10⟩ : ∃ z, F_X5_tell (p1 + (1 : Int32)) (p2 + (1 : Int32)) (16 : Int32) fld_wide fld_high r_9 = z := ⟨_, rfl⟩
    try rw [hr_10] at hw
    try rw [hr_10] at hP1
    try rw [hr_10] at hD1
    have hg : (if fld_causal = (0 : Int32) then (let r_12 := F_X5_tell (p1 - (1 : Int32)) (p2 - (1 : Int32)) (16 : Int32) fld_wide fld_high r_10; let r_13 := F_X5_tell p1 (p2 - (1 : Int32)) ((4 : Int32) + (p3 <<< ((9 : Int32) &&& 31))) fld_wide fld_high r_12; let r_14 := F_X5_tell (p1 + (1 : Int32)) (p2 - (1 : Int32)) (16 : Int32) fld_wide fld_high r_13; r_14) else (if (p2 - p2 / (4 : Int32) * (4 : Int32)) = (0 : Int32) then r_10 else (let r_16 := F_X5_tell (p1 - (1 : Int32)) (p2 - (1 : Int32)) (16 : Int32) fld_wide fld_high r_10; let r_17 := F_X5_tell p1 (p2 - (1 : Int32)) ((4 : Int32) + (p3 <<< ((9 : Int32) &&& 31))) fld_wide fld_high r_16; let r_18 := F_X5_tell (p1 + (1 : Int32)) (p2 - (1 : Int32)) (16 : Int32) fld_wide fld_high r_17; r_18))) = g := by first | (rw [hr_10] at hg; exact hg) | (subst hr_10; exact hg)
    obtain ⟨hP, hD⟩ := va_join (wr := []) (w1 := (wd_fld_marks cI a_fld a_coef a_mags a_marks fld_wide fld_high fld_band fld_causal marks_n r_10)) hP hD [0, 1] [] rfl rfl (by decide) (by decide) hk1 hFc hP1 hD1
    have hP : va_P (dC, dI) vwCl (wd_fld_marks cI a_fld a_coef a_mags a_marks fld_wide fld_high fld_band fld_causal marks_n r_10) H1 := hP.sub [0, 1] rfl
    have hD : va_D A (wd_fld_marks cI a_fld a_coef a_mags a_marks fld_wide fld_high fld_band fld_causal marks_n r_10) := hD.sub [0, 1] (by decide) rfl
    generalize H1 = H at hP hS ⊢
    have hpre := hpre.2 r_10 hr_10
    refine lv_aload_n hx hb dX5_signify_102 rfl (lv_at hl 3 rfl) ?_
    refine va_get (D := (dC, dI)) (ci := 4) (v := .int fld_causal) (C := RX5) (T := TX5) (N := 7) hx hb hts iw_X5_signify_X5 hown hK hP 0 rfl rfl 6 (by decide) (hts (.fieldLink RX5 31 "PlaneBlocks$Field" "causal" "Z") (by decide +kernel)) (fun _ h9 => h9) rfl dX5_signify_103 ?_
    refine lv_if_eq (tgt := 115) hx hb dX5_signify_106 (by decide) (fun c_11 => ?_) (fun c_11 => ?_)
    · rw [if_pos c_11] at hg
      have hpre := hpre.1 c_11
      refine lv_aload_n hx hb dX5_signify_115 rfl (lv_at hl 3 rfl) ?_
      refine lv_iload_n hx hb dX5_signify_116 rfl (lv_at hl 4 rfl) ?_
      refine lv_iconst (v := 1) hx hb dX5_signify_117 (by decide) ?_
      refine lv_isub hx hb dX5_signify_118 ?_
      refine lv_iload_n hx hb dX5_signify_119 rfl (lv_at hl 5 rfl) ?_
      refine lv_iconst (v := 1) hx hb dX5_signify_120 (by decide) ?_
      refine lv_isub hx hb dX5_signify_121 ?_
      refine lv_iload hx hb dX5_signify_122 (lv_at hl 0 rfl) ?_
      have hPc := hP.sub (ws' := (wd_fld_marks cI a_fld a_coef a_mags a_marks fld_wide fld_high fld_band fld_causal marks_n r_10)) [0, 1] rfl
      have hDc := hD.sub (ws' := (wd_fld_marks cI a_fld a_coef a_mags a_marks fld_wide fld_high fld_band fld_causal marks_n r_10)) [0, 1] (by decide) rfl
      have hFc := va_free (wc := (wd_fld_marks cI a_fld a_coef a_mags a_marks fld_wide fld_high fld_band fld_causal marks_n r_10)) hD hS hA [0, 1] rfl
      refine va_callv (va_runV (As := [.int (p1 - (1 : Int32)), .int (p2 - (1 : Int32)), .int (16 : Int32)]) (rest := []) ⟨hx, hb, hml, hown, hts⟩ (c_X5_tell l dC dI cI cJ cZ a_fld a_coef a_mags a_marks H.size fld_wide fld_high fld_band fld_causal marks_n r_10 (p1 - (1 : Int32)) (p2 - (1 : Int32)) (16 : Int32) hpre.1) (cwV 3 hts gX5_signify_X5_tell rfl rfl rfl (by decide +kernel) ⟨Nat.le_of_ble_eq_true rfl, Nat.le_of_ble_eq_true rfl⟩) ⟨fun a U g mk q => by obtain ⟨q0, q1, qP, qK, qD⟩ := q; exact ⟨q0, q1, qP, va_K.moved (u := U) (U := U.calling g mk a) (Vm.Alike.refl U.vm) qK, qD⟩, va_recv hK hPc (ci := 4) (q0 := 0) rfl rfl, fun U hU hW => ⟨rfl, by rw [hU], by rw [hU]; exact hPc, va_K.moved hW.alike hK, hDc.weaken (fun _ _ _ _ => trivial)⟩⟩ rfl rfl hl.1 rfl (lv_room (Nat.le_of_ble_eq_true rfl)) dX5_signify_124 ⟨Nat.le_of_ble_eq_true rfl, Nat.le_of_ble_eq_true rfl⟩) hS (fun q _ h => hFc q h) hFc (fun u t H1 locs ht hvm hw hB hz1 hk1 hS => ?_)
      obtain ⟨hP1, hK1, hD1⟩ := hB
      rw [ht] at hP1
      obtain ⟨r_12, hr_12⟩ : ∃ z, F_X5_tell (p1 - (1 : Int32)) (p2 - (1 : Int32)) (16 : Int32) fld_wide fld_high r_10 = z := ⟨_, rfl⟩
      try rw [hr_12] at hw
      try rw [hr_12] at hP1
      try rw [hr_12] at hD1
      have hg : (let r_13 := F_X5_tell p1 (p2 - (1 : Int32)) ((4 : Int32) + (p3 <<< ((9 : Int32) &&& 31))) fld_wide fld_high r_12; let r_14 := F_X5_tell (p1 + (1 : Int32)) (p2 - (1 : Int32)) (16 : Int32) fld_wide fld_high r_13; r_14) = g := by first | (rw [hr_12] at hg; exact hg) | (subst hr_12; exact hg)
      obtain ⟨hP, hD⟩ := va_join (wr := []) (w1 := (wd_fld_marks cI a_fld a_coef a_mags a_marks fld_wide fld_high fld_band fld_causal marks_n r_12)) hP hD [0, 1] [] rfl rfl (by decide) (by decide) hk1 hFc hP1 hD1
      have hP : va_P (dC, dI) vwCl (wd_fld_marks cI a_fld a_coef a_mags a_marks fld_wide fld_high fld_band fld_causal marks_n r_12) H1 := hP.sub [0, 1] rfl
      have hD : va_D A (wd_fld_marks cI a_fld a_coef a_mags a_marks fld_wide fld_high fld_band fld_causal marks_n r_12) := hD.sub [0, 1] (by decide) rfl
      generalize H1 = H at hP hS ⊢
      have hpre := hpre.2 r_12 hr_12
      refine lv_aload_n hx hb dX5_signify_127 rfl (lv_at hl 3 rfl) ?_
      refine lv_iload_n hx hb dX5_signify_128 rfl (lv_at hl 4 rfl) ?_
      refine lv_iload_n hx hb dX5_signify_129 rfl (lv_at hl 5 rfl) ?_
      refine lv_iconst (v := 1) hx hb dX5_signify_130 (by decide) ?_
      refine lv_isub hx hb dX5_signify_131 ?_
      refine lv_iload hx hb dX5_signify_132 (lv_at hl 1 rfl) ?_
      have hPc := hP.sub (ws' := (wd_fld_marks cI a_fld a_coef a_mags a_marks fld_wide fld_high fld_band fld_causal marks_n r_12)) [0, 1] rfl
      have hDc := hD.sub (ws' := (wd_fld_marks cI a_fld a_coef a_mags a_marks fld_wide fld_high fld_band fld_causal marks_n r_12)) [0, 1] (by decide) rfl
      have hFc := va_free (wc := (wd_fld_marks cI a_fld a_coef a_mags a_marks fld_wide fld_high fld_band fld_causal marks_n r_12)) hD hS hA [0, 1] rfl
      refine va_callv (va_runV (As := [.int p1, .int (p2 - (1 : Int32)), .int ((4 : Int32) + (p3 <<< ((9 : Int32) &&& 31)))]) (rest := []) ⟨hx, hb, hml, hown, hts⟩ (c_X5_tell l dC dI cI cJ cZ a_fld a_coef a_mags a_marks H.size fld_wide fld_high fld_band fld_causal marks_n r_12 p1 (p2 - (1 : Int32)) ((4 : Int32) + (p3 <<< ((9 : Int32) &&& 31))) hpre.1) (cwV 3 hts gX5_signify_X5_tell rfl rfl rfl (by decide +kernel) ⟨Nat.le_of_ble_eq_true rfl, Nat.le_of_ble_eq_true rfl⟩) ⟨fun a U g mk q => by obtain ⟨q0, q1, qP, qK, qD⟩ := q; exact ⟨q0, q1, qP, va_K.moved (u := U) (U := U.calling g mk a) (Vm.Alike.refl U.vm) qK, qD⟩, va_recv hK hPc (ci := 4) (q0 := 0) rfl rfl, fun U hU hW => ⟨rfl, by rw [hU], by rw [hU]; exact hPc, va_K.moved hW.alike hK, hDc.weaken (fun _ _ _ _ => trivial)⟩⟩ rfl rfl hl.1 rfl (lv_room (Nat.le_of_ble_eq_true rfl)) dX5_signify_134 ⟨Nat.le_of_ble_eq_true rfl, Nat.le_of_ble_eq_true rfl⟩) hS (fun q _ h => hFc q h) hFc (fun u t H1 locs ht hvm hw hB hz1 hk1 hS => ?_)
      obtain ⟨hP1, hK1, hD1⟩ := hB
      rw [ht] at hP1
      obtain ⟨r_13, hr_13⟩ : ∃ z, F_X5_tell p1 (p2 - (1 : Int32)) ((4 : Int32) + (p3 <<< ((9 : Int32) &&& 31))) fld_wide fld_high r_12 = z := ⟨_, rfl⟩
      try rw [hr_13] at hw
      try rw [hr_13] at hP1
      try rw [hr_13] at hD1
      have hg : (let r_14 := F_X5_tell (p1 + (1 : Int32)) (p2 - (1 : Int32)) (16 : Int32) fld_wide fld_high r_13; r_14) = g := by first | (rw [hr_13] at hg; exact hg) | (subst hr_13; exact hg)
      obtain ⟨hP, hD⟩ := va_join (wr := []) (w1 := (wd_fld_marks cI a_fld a_coef a_mags a_marks fld_wide fld_high fld_band fld_causal marks_n r_13)) hP hD [0, 1] [] rfl rfl (by decide) (by decide) hk1 hFc hP1 hD1
      have hP : va_P (dC, dI) vwCl (wd_fld_marks cI a_fld a_coef a_mags a_marks fld_wide fld_high fld_band fld_causal marks_n r_13) H1 := hP.sub [0, 1] rfl
      have hD : va_D A (wd_fld_marks cI a_fld a_coef a_mags a_marks fld_wide fld_high fld_band fld_causal marks_n r_13) := hD.sub [0, 1] (by decide) rfl
      generalize H1 = H at hP hS ⊢
      have hpre := hpre.2 r_13 hr_13
      refine lv_aload_n hx hb dX5_signify_137 rfl (lv_at hl 3 rfl) ?_
      refine lv_iload_n hx hb dX5_signify_138 rfl (lv_at hl 4 rfl) ?_
      refine lv_iconst (v := 1) hx hb dX5_signify_139 (by decide) ?_
      refine lv_iadd hx hb dX5_signify_140 ?_
      refine lv_iload_n hx hb dX5_signify_141 rfl (lv_at hl 5 rfl) ?_
      refine lv_iconst (v := 1) hx hb dX5_signify_142 (by decide) ?_
      refine lv_isub hx hb dX5_signify_143 ?_
      refine lv_iload hx hb dX5_signify_144 (lv_at hl 0 rfl) ?_
      have hPc := hP.sub (ws' := (wd_fld_marks cI a_fld a_coef a_mags a_marks fld_wide fld_high fld_band fld_causal marks_n r_13)) [0, 1] rfl
      have hDc := hD.sub (ws' := (wd_fld_marks cI a_fld a_coef a_mags a_marks fld_wide fld_high fld_band fld_causal marks_n r_13)) [0, 1] (by decide) rfl
      have hFc := va_free (wc := (wd_fld_marks cI a_fld a_coef a_mags a_marks fld_wide fld_high fld_band fld_causal marks_n r_13)) hD hS hA [0, 1] rfl
      refine va_callv (va_runV (As := [.int (p1 + (1 : Int32)), .int (p2 - (1 : Int32)), .int (16 : Int32)]) (rest := []) ⟨hx, hb, hml, hown, hts⟩ (c_X5_tell l dC dI cI cJ cZ a_fld a_coef a_mags a_marks H.size fld_wide fld_high fld_band fld_causal marks_n r_13 (p1 + (1 : Int32)) (p2 - (1 : Int32)) (16 : Int32) hpre) (cwV 3 hts gX5_signify_X5_tell rfl rfl rfl (by decide +kernel) ⟨Nat.le_of_ble_eq_true rfl, Nat.le_of_ble_eq_true rfl⟩) ⟨fun a U g mk q => by obtain ⟨q0, q1, qP, qK, qD⟩ := q; exact ⟨q0, q1, qP, va_K.moved (u := U) (U := U.calling g mk a) (Vm.Alike.refl U.vm) qK, qD⟩, va_recv hK hPc (ci := 4) (q0 := 0) rfl rfl, fun U hU hW => ⟨rfl, by rw [hU], by rw [hU]; exact hPc, va_K.moved hW.alike hK, hDc.weaken (fun _ _ _ _ => trivial)⟩⟩ rfl rfl hl.1 rfl (lv_room (Nat.le_of_ble_eq_true rfl)) dX5_signify_146 ⟨Nat.le_of_ble_eq_true rfl, Nat.le_of_ble_eq_true rfl⟩) hS (fun q _ h => hFc q h) hFc (fun u t H1 locs ht hvm hw hB hz1 hk1 hS => ?_)
      obtain ⟨hP1, hK1, hD1⟩ := hB
      rw [ht] at hP1
      obtain ⟨r_14, hr_14⟩ : ∃ z, F_X5_tell (p1 + (1 : Int32)) (p2 - (1 : Int32)) (16 : Int32) fld_wide fld_high r_13 = z := ⟨_, rfl⟩
      try rw [hr_14] at hw
      try rw [hr_14] at hP1
      try rw [hr_14] at hD1
      have hg : r_14 = g := by first | (rw [hr_14] at hg; exact hg) | (subst hr_14; exact hg)
      obtain ⟨hP, hD⟩ := va_join (wr := []) (w1 := (wd_fld_marks cI a_fld a_coef a_mags a_marks fld_wide fld_high fld_band fld_causal marks_n r_14)) hP hD [0, 1] [] rfl rfl (by decide) (by decide) hk1 hFc hP1 hD1
      have hP : va_P (dC, dI) vwCl (wd_fld_marks cI a_fld a_coef a_mags a_marks fld_wide fld_high fld_band fld_causal marks_n r_14) H1 := hP.sub [0, 1] rfl
      have hD : va_D A (wd_fld_marks cI a_fld a_coef a_mags a_marks fld_wide fld_high fld_band fld_causal marks_n r_14) := hD.sub [0, 1] (by decide) rfl
      generalize H1 = H at hP hS ⊢
      subst hg
      rw [← hQe]
      exact W.vret hx hb hr (fun t ht hW => ⟨⟨(), rfl, trivial, by rw [ht]; exact hP, va_K.moved hW.alike hK, hD⟩, hS.F ht⟩) hS.2.2 dX5_signify_149
    · rw [if_neg c_11] at hg
      have hpre := hpre.2 c_11
      refine lv_iload_n hx hb dX5_signify_109 rfl (lv_at hl 5 rfl) ?_
      refine lv_iconst (v := 4) hx hb dX5_signify_110 (by decide) ?_
      refine lv_irem hx hb dX5_signify_111 (by decide) ?_
      refine lv_if_eq (tgt := 149) hx hb dX5_signify_112 (by decide) (fun c_15 => ?_) (fun c_15 => ?_)
      · rw [if_pos c_15] at hg
        subst hg
        rw [← hQe]
        exact W.vret hx hb hr (fun t ht hW => ⟨⟨(), rfl, trivial, by rw [ht]; exact hP, va_K.moved hW.alike hK, hD⟩, hS.F ht⟩) hS.2.2 dX5_signify_149
      · rw [if_neg c_15] at hg
        have hpre := hpre c_15
        refine lv_aload_n hx hb dX5_signify_115 rfl (lv_at hl 3 rfl) ?_
        refine lv_iload_n hx hb dX5_signify_116 rfl (lv_at hl 4 rfl) ?_
        refine lv_iconst (v := 1) hx hb dX5_signify_117 (by decide) ?_
        refine lv_isub hx hb dX5_signify_118 ?_
        refine lv_iload_n hx hb dX5_signify_119 rfl (lv_at hl 5 rfl) ?_
        refine lv_iconst (v := 1) hx hb dX5_signify_120 (by decide) ?_
        refine lv_isub hx hb dX5_signify_121 ?_
        refine lv_iload hx hb dX5_signify_122 (lv_at hl 0 rfl) ?_
        have hPc := hP.sub (ws' := (wd_fld_marks cI a_fld a_coef a_mags a_marks fld_wide fld_high fld_band fld_causal marks_n r_10)) [0, 1] rfl
        have hDc := hD.sub (ws' := (wd_fld_marks cI a_fld a_coef a_mags a_marks fld_wide fld_high fld_band fld_causal marks_n r_10)) [0, 1] (by decide) rfl
        have hFc := va_free (wc := (wd_fld_marks cI a_fld a_coef a_mags a_marks fld_wide fld_high fld_band fld_causal marks_n r_10)) hD hS hA [0, 1] rfl
        refine va_callv (va_runV (As := [.int (p1 - (1 : Int32)), .int (p2 - (1 : Int32)), .int (16 : Int32)]) (rest := []) ⟨hx, hb, hml, hown, hts⟩ (c_X5_tell l dC dI cI cJ cZ a_fld a_coef a_mags a_marks H.size fld_wide fld_high fld_band fld_causal marks_n r_10 (p1 - (1 : Int32)) (p2 - (1 : Int32)) (16 : Int32) hpre.1) (cwV 3 hts gX5_signify_X5_tell rfl rfl rfl (by decide +kernel) ⟨Nat.le_of_ble_eq_true rfl, Nat.le_of_ble_eq_true rfl⟩) ⟨fun a U g mk q => by obtain ⟨q0, q1, qP, qK, qD⟩ := q; exact ⟨q0, q1, qP, va_K.moved (u := U) (U := U.calling g mk a) (Vm.Alike.refl U.vm) qK, qD⟩, va_recv hK hPc (ci := 4) (q0 := 0) rfl rfl, fun U hU hW => ⟨rfl, by rw [hU], by rw [hU]; exact hPc, va_K.moved hW.alike hK, hDc.weaken (fun _ _ _ _ => trivial)⟩⟩ rfl rfl hl.1 rfl (lv_room (Nat.le_of_ble_eq_true rfl)) dX5_signify_124 ⟨Nat.le_of_ble_eq_true rfl, Nat.le_of_ble_eq_true rfl⟩) hS (fun q _ h => hFc q h) hFc (fun u t H1 locs ht hvm hw hB hz1 hk1 hS => ?_)
        obtain ⟨hP1, hK1, hD1⟩ := hB
        rw [ht] at hP1
        obtain ⟨r_16, hr_16⟩ : ∃ z, F_X5_tell (p1 - (1 : Int32)) (p2 - (1 : Int32)) (16 : Int32) fld_wide fld_high r_10 = z := ⟨_, rfl⟩
        try rw [hr_16] at hw
        try rw [hr_16] at hP1
        try rw [hr_16] at hD1
        have hg : (let r_17 := F_X5_tell p1 (p2 - (1 : Int32)) ((4 : Int32) + (p3 <<< ((9 : Int32) &&& 31))) fld_wide fld_high r_16; let r_18 := F_X5_tell (p1 + (1 : Int32)) (p2 - (1 : Int32)) (16 : Int32) fld_wide fld_high r_17; r_18) = g := by first | (rw [hr_16] at hg; exact hg) | (subst hr_16; exact hg)
        obtain ⟨hP, hD⟩ := va_join (wr := []) (w1 := (wd_fld_marks cI a_fld a_coef a_mags a_marks fld_wide fld_high fld_band fld_causal marks_n r_16)) hP hD [0, 1] [] rfl rfl (by decide) (by decide) hk1 hFc hP1 hD1
        have hP : va_P (dC, dI) vwCl (wd_fld_marks cI a_fld a_coef a_mags a_marks fld_wide fld_high fld_band fld_causal marks_n r_16) H1 := hP.sub [0, 1] rfl
        have hD : va_D A (wd_fld_marks cI a_fld a_coef a_mags a_marks fld_wide fld_high fld_band fld_causal marks_n r_16) := hD.sub [0, 1] (by decide) rfl
        generalize H1 = H at hP hS ⊢
        have hpre := hpre.2 r_16 hr_16
        refine lv_aload_n hx hb dX5_signify_127 rfl (lv_at hl 3 rfl) ?_
        refine lv_iload_n hx hb dX5_signify_128 rfl (lv_at hl 4 rfl) ?_
        refine lv_iload_n hx hb dX5_signify_129 rfl (lv_at hl 5 rfl) ?_
        refine lv_iconst (v := 1) hx hb dX5_signify_130 (by decide) ?_
        refine lv_isub hx hb dX5_signify_131 ?_
        refine lv_iload hx hb dX5_signify_132 (lv_at hl 1 rfl) ?_
        have hPc := hP.sub (ws' := (wd_fld_marks cI a_fld a_coef a_mags a_marks fld_wide fld_high fld_band fld_causal marks_n r_16)) [0, 1] rfl
        have hDc := hD.sub (ws' := (wd_fld_marks cI a_fld a_coef a_mags a_marks fld_wide fld_high fld_band fld_causal marks_n r_16)) [0, 1] (by decide) rfl
        have hFc := va_free (wc := (wd_fld_marks cI a_fld a_coef a_mags a_marks fld_wide fld_high fld_band fld_causal marks_n r_16)) hD hS hA [0, 1] rfl
        refine va_callv (va_runV (As := [.int p1, .int (p2 - (1 : Int32)), .int ((4 : Int32) + (p3 <<< ((9 : Int32) &&& 31)))]) (rest := []) ⟨hx, hb, hml, hown, hts⟩ (c_X5_tell l dC dI cI cJ cZ a_fld a_coef a_mags a_marks H.size fld_wide fld_high fld_band fld_causal marks_n r_16 p1 (p2 - (1 : Int32)) ((4 : Int32) + (p3 <<< ((9 : Int32) &&& 31))) hpre.1) (cwV 3 hts gX5_signify_X5_tell rfl rfl rfl (by decide +kernel) ⟨Nat.le_of_ble_eq_true rfl, Nat.le_of_ble_eq_true rfl⟩) ⟨fun a U g mk q => by obtain ⟨q0, q1, qP, qK, qD⟩ := q; exact ⟨q0, q1, qP, va_K.moved (u := U) (U := U.calling g mk a) (Vm.Alike.refl U.vm) qK, qD⟩, va_recv hK hPc (ci := 4) (q0 := 0) rfl rfl, fun U hU hW => ⟨rfl, by rw [hU], by rw [hU]; exact hPc, va_K.moved hW.alike hK, hDc.weaken (fun _ _ _ _ => trivial)⟩⟩ rfl rfl hl.1 rfl (lv_room (Nat.le_of_ble_eq_true rfl)) dX5_signify_134 ⟨Nat.le_of_ble_eq_true rfl, Nat.le_of_ble_eq_true rfl⟩) hS (fun q _ h => hFc q h) hFc (fun u t H1 locs ht hvm hw hB hz1 hk1 hS => ?_)
        obtain ⟨hP1, hK1, hD1⟩ := hB
        rw [ht] at hP1
        obtain ⟨r_17, hr_17⟩ : ∃ z, F_X5_tell p1 (p2 - (1 : Int32)) ((4 : Int32) + (p3 <<< ((9 : Int32) &&& 31))) fld_wide fld_high r_16 = z := ⟨_, rfl⟩
        try rw [hr_17] at hw
        try rw [hr_17] at hP1
        try rw [hr_17] at hD1
        have hg : (let r_18 := F_X5_tell (p1 + (1 : Int32)) (p2 - (1 : Int32)) (16 : Int32) fld_wide fld_high r_17; r_18) = g := by first | (rw [hr_17] at hg; exact hg) | (subst hr_17; exact hg)
        obtain ⟨hP, hD⟩ := va_join (wr := []) (w1 := (wd_fld_marks cI a_fld a_coef a_mags a_marks fld_wide fld_high fld_band fld_causal marks_n r_17)) hP hD [0, 1] [] rfl rfl (by decide) (by decide) hk1 hFc hP1 hD1
        have hP : va_P (dC, dI) vwCl (wd_fld_marks cI a_fld a_coef a_mags a_marks fld_wide fld_high fld_band fld_causal marks_n r_17) H1 := hP.sub [0, 1] rfl
        have hD : va_D A (wd_fld_marks cI a_fld a_coef a_mags a_marks fld_wide fld_high fld_band fld_causal marks_n r_17) := hD.sub [0, 1] (by decide) rfl
        generalize H1 = H at hP hS ⊢
        have hpre := hpre.2 r_17 hr_17
        refine lv_aload_n hx hb dX5_signify_137 rfl (lv_at hl 3 rfl) ?_
        refine lv_iload_n hx hb dX5_signify_138 rfl (lv_at hl 4 rfl) ?_
        refine lv_iconst (v := 1) hx hb dX5_signify_139 (by decide) ?_
        refine lv_iadd hx hb dX5_signify_140 ?_
        refine lv_iload_n hx hb dX5_signify_141 rfl (lv_at hl 5 rfl) ?_
        refine lv_iconst (v := 1) hx hb dX5_signify_142 (by decide) ?_
        refine lv_isub hx hb dX5_signify_143 ?_
        refine lv_iload hx hb dX5_signify_144 (lv_at hl 0 rfl) ?_
        have hPc := hP.sub (ws' := (wd_fld_marks cI a_fld a_coef a_mags a_marks fld_wide fld_high fld_band fld_causal marks_n r_17)) [0, 1] rfl
        have hDc := hD.sub (ws' := (wd_fld_marks cI a_fld a_coef a_mags a_marks fld_wide fld_high fld_band fld_causal marks_n r_17)) [0, 1] (by decide) rfl
        have hFc := va_free (wc := (wd_fld_marks cI a_fld a_coef a_mags a_marks fld_wide fld_high fld_band fld_causal marks_n r_17)) hD hS hA [0, 1] rfl
        refine va_callv (va_runV (As := [.int (p1 + (1 : Int32)), .int (p2 - (1 : Int32)), .int (16 : Int32)]) (rest := []) ⟨hx, hb, hml, hown, hts⟩ (c_X5_tell l dC dI cI cJ cZ a_fld a_coef a_mags a_marks H.size fld_wide fld_high fld_band fld_causal marks_n r_17 (p1 + (1 : Int32)) (p2 - (1 : Int32)) (16 : Int32) hpre) (cwV 3 hts gX5_signify_X5_tell rfl rfl rfl (by decide +kernel) ⟨Nat.le_of_ble_eq_true rfl, Nat.le_of_ble_eq_true rfl⟩) ⟨fun a U g mk q => by obtain ⟨q0, q1, qP, qK, qD⟩ := q; exact ⟨q0, q1, qP, va_K.moved (u := U) (U := U.calling g mk a) (Vm.Alike.refl U.vm) qK, qD⟩, va_recv hK hPc (ci := 4) (q0 := 0) rfl rfl, fun U hU hW => ⟨rfl, by rw [hU], by rw [hU]; exact hPc, va_K.moved hW.alike hK, hDc.weaken (fun _ _ _ _ => trivial)⟩⟩ rfl rfl hl.1 rfl (lv_room (Nat.le_of_ble_eq_true rfl)) dX5_signify_146 ⟨Nat.le_of_ble_eq_true rfl, Nat.le_of_ble_eq_true rfl⟩) hS (fun q _ h => hFc q h) hFc (fun u t H1 locs ht hvm hw hB hz1 hk1 hS => ?_)
        obtain ⟨hP1, hK1, hD1⟩ := hB
        rw [ht] at hP1
        obtain ⟨r_18, hr_18⟩ : ∃ z, F_X5_tell (p1 + (1 : Int32)) (p2 - (1 : Int32)) (16 : Int32) fld_wide fld_high r_17 = z := ⟨_, rfl⟩
        try rw [hr_18] at hw
        try rw [hr_18] at hP1
        try rw [hr_18] at hD1
        have hg : r_18 = g := by first | (rw [hr_18] at hg; exact hg) | (subst hr_18; exact hg)
        obtain ⟨hP, hD⟩ := va_join (wr := []) (w1 := (wd_fld_marks cI a_fld a_coef a_mags a_marks fld_wide fld_high fld_band fld_causal marks_n r_18)) hP hD [0, 1] [] rfl rfl (by decide) (by decide) hk1 hFc hP1 hD1
        have hP : va_P (dC, dI) vwCl (wd_fld_marks cI a_fld a_coef a_mags a_marks fld_wide fld_high fld_band fld_causal marks_n r_18) H1 := hP.sub [0, 1] rfl
        have hD : va_D A (wd_fld_marks cI a_fld a_coef a_mags a_marks fld_wide fld_high fld_band fld_causal marks_n r_18) := hD.sub [0, 1] (by decide) rfl
        generalize H1 = H at hP hS ⊢
        subst hg
        rw [← hQe]
        exact W.vret hx hb hr (fun t ht hW => ⟨⟨(), rfl, trivial, by rw [ht]; exact hP, va_K.moved hW.alike hK, hD⟩, hS.F ht⟩) hS.2.2 dX5_signify_149
  have hg : (if p3 = (1 : Int32) then (6144 : Int32) else (2048 : Int32)) = j_4 := by rw [← hj_4]; rfl
  clear hj_4
  refine lv_icmp_ne (tgt := 23) hx hb dX5_signify_14 (by decide) (fun c_3 => ?_) (fun c_3 => ?_)
  · rw [if_neg c_3] at hg
    refine lv_sipush (v := 2048) hx hb dX5_signify_23 (by decide) ?_
    rw [← hg] at hJ_j_4
    exact hJ_j_4 _ _ _ hP hD hS (lv_sub hl [0, 1, 2, 3] rfl)
  · rw [if_pos c_3] at hg
    refine lv_sipush (v := 6144) hx hb dX5_signify_17 (by decide) ?_
    refine lv_goto (tgt := 26) hx hb dX5_signify_20 (by decide) ?_
    rw [← hg] at hJ_j_4
    exact hJ_j_4 _ _ _ hP hD hS (lv_sub hl [0, 1, 2, 3] rfl)
abbrev rm_X5_crossContext : Room := { frames := 1, cells := 0, slots := 0, locals := 14 }
abbrev Q_X5_crossContext (dC : Nat → ClassId) (dI : Nat → Nat → Nat) (cI cJ cZ : ClassId) (A : Nat → Prop) (g : Int32) : Array Value → State → Outcome → State → Prop := va_Qi (fun (r : Int32) (_ : Unit) => r = g) (fun u t => va_P (dC, dI) vwCl (wd_) t.heap ∧ va_K (dC, dI) vwCl [(cI, .int), (cJ, .long), (cZ, .boolean)] t ∧ va_D A (wd_)) A
set_option maxHeartbeats 4000000 in
set_option maxRecDepth 100000 in
theorem c_X5_crossContext (l : Launch) (dC : Nat → ClassId) (dI : Nat → Nat → Nat) (cI cJ cZ : ClassId) (sz : Nat) (p1 : Int32) (p2 : Int32) : Met l yX5_crossContext wsX5_crossContext rm_X5_crossContext (va_Pc [.int p1, .int p2] (fun U => U.heap.size = sz ∧ va_P (dC, dI) vwCl (wd_) U.heap ∧ va_K (dC, dI) vwCl [(cI, .int), (cJ, .long), (cZ, .boolean)] U ∧ va_D (fun _ => True) (wd_))) (Q_X5_crossContext dC dI cI cJ cZ (va_A (wd_) sz) (F_X5_crossContext p1 p2)) 0 0 (va_A (wd_) sz) := by
  refine Met.ofW (cc := cX5_crossContext) (maxL := 2) (ret := (some .int)) (by decide) rfl ?_
  intro p e s m args below meth c s₁ B hml hv
  obtain ⟨rfl, hsz, hP, hK, hD0⟩ := hv
  have hx := B.exec
  have hb := B.bytes
  have hr := B.returns
  have hts := atoms_spec (ws := wsX5_crossContext) B.pre
  have hown : s.vm.findClass RX5 = some m.cls := findClass_of_methodNamed B.named
  have hlocks := B.notSynchronized
  subst hsz
  have hD := hD0.self (sz := s.heap.size)
  generalize hAe : va_A (wd_) s.heap.size = A at hD ⊢
  have hA : ∀ q : Nat, s.heap.size ≤ q → A q := fun q h => by rw [← hAe]; exact Or.inr h
  have hS : va_S A s.heap s.heap [] := va_S.rf
  obtain ⟨H, hH⟩ : ∃ z, z = s.heap := ⟨_, rfl⟩
  have hP : va_P (dC, dI) vwCl (wd_) H := by rw [hH]; exact hP
  have hS : va_S A s.heap H [] := by rw [hH]; exact va_S.rf
  obtain ⟨g, hg⟩ : ∃ z, F_X5_crossContext p1 p2 = z := ⟨_, rfl⟩
  rw [hg]
  generalize hQe : MQ below (Q_X5_crossContext dC dI cI cJ cZ A g) _ s 0 0 A = Q
  rw [← hH]
  clear hH
  have hl := lv_entry ([.int p1, .int p2]) (n := 2) (Nat.le_of_ble_eq_true rfl)
  rw [lg_entry_eq]
  generalize (lg_sl ([.int p1, .int p2]) ++ List.replicate (2 - (lg_sl ([.int p1, .int p2])).length) Slot.unset).toArray = ls at hl ⊢
  have hl : lv_has ls 2 [(0, .int p1), (1, .int p2)] := hl
  unfold F_X5_crossContext at hg
  refine lv_iload_n hx hb dX5_crossContext_0 rfl (lv_at hl 1 rfl) ?_
  refine lv_iconst (v := 2) hx hb dX5_crossContext_1 (by decide) ?_
  refine lv_icmp_le (tgt := 8) hx hb dX5_crossContext_2 (by decide) (fun c_1 => ?_) (fun c_1 => ?_)
  · rw [if_pos c_1] at hg
    refine lv_iload_n hx hb dX5_crossContext_8 rfl (lv_at hl 1 rfl) ?_
    refine lv_iconst (v := 2) hx hb dX5_crossContext_9 (by decide) ?_
    refine lv_icmp_ne (tgt := 25) hx hb dX5_crossContext_10 (by decide) (fun c_2 => ?_) (fun c_2 => ?_)
    · rw [if_neg c_2] at hg
      refine lv_iload_n hx hb dX5_crossContext_25 rfl (lv_at hl 1 rfl) ?_
      refine lv_iconst (v := 1) hx hb dX5_crossContext_26 (by decide) ?_
      refine lv_icmp_ne (tgt := 40) hx hb dX5_crossContext_27 (by decide) (fun c_3 => ?_) (fun c_3 => ?_)
      · rw [if_neg c_3] at hg
        refine lv_iload_n hx hb dX5_crossContext_40 rfl (lv_at hl 0 rfl) ?_
        refine lv_iconst (v := 2) hx hb dX5_crossContext_41 (by decide) ?_
        refine va_mmin hx hb (hml.trans hl.1.symm) hown (hts (.methodLink RX5 41 Lib.Math.min.name) (by decide +kernel)) (hts (.static Lib.Math.min.name) (by decide +kernel)) (hts (.initialized "java/lang/Math") (by decide +kernel)) (hts (.code Lib.Math.min.name Lib.Math.min.code 2 (some .int)) (by decide +kernel)) (Nat.le_of_ble_eq_true rfl) (Nat.le_of_ble_eq_true rfl) (Nat.le_of_ble_eq_true rfl) (Nat.le_of_ble_eq_true rfl) dX5_crossContext_42 ?_
        subst hg
        rw [← hQe]
        exact W.iret (v := (if (2 : Int32) < p1 then (2 : Int32) else p1)) hx hb hr (fun t ht hW => ⟨⟨(if (2 : Int32) < p1 then (2 : Int32) else p1), (), rfl, rfl, by rw [ht]; exact hP, va_K.moved hW.alike hK, hD⟩, hS.F ht⟩) hS.2.2 dX5_crossContext_45
      · rw [if_pos c_3] at hg
        refine lv_iconst (v := 3) hx hb dX5_crossContext_30 (by decide) ?_
        refine lv_iload_n hx hb dX5_crossContext_31 rfl (lv_at hl 0 rfl) ?_
        refine lv_iconst (v := 2) hx hb dX5_crossContext_32 (by decide) ?_
        refine va_mmin hx hb (hml.trans hl.1.symm) hown (hts (.methodLink RX5 41 Lib.Math.min.name) (by decide +kernel)) (hts (.static Lib.Math.min.name) (by decide +kernel)) (hts (.initialized "java/lang/Math") (by decide +kernel)) (hts (.code Lib.Math.min.name Lib.Math.min.code 2 (some .int)) (by decide +kernel)) (Nat.le_of_ble_eq_true rfl) (Nat.le_of_ble_eq_true rfl) (Nat.le_of_ble_eq_true rfl) (Nat.le_of_ble_eq_true rfl) dX5_crossContext_33 ?_
        refine lv_iadd hx hb dX5_crossContext_36 ?_
        refine lv_goto (tgt := 45) hx hb dX5_crossContext_37 (by decide) ?_
        subst hg
        rw [← hQe]
        exact W.iret (v := ((3 : Int32) + (if (2 : Int32) < p1 then (2 : Int32) else p1))) hx hb hr (fun t ht hW => ⟨⟨((3 : Int32) + (if (2 : Int32) < p1 then (2 : Int32) else p1)), (), rfl, rfl, by rw [ht]; exact hP, va_K.moved hW.alike hK, hD⟩, hS.F ht⟩) hS.2.2 dX5_crossContext_45
    · rw [if_pos c_2] at hg
      refine lv_iload_n hx hb dX5_crossContext_13 rfl (lv_at hl 0 rfl) ?_
      refine lv_if_le (tgt := 22) hx hb dX5_crossContext_14 (by decide) (fun c_4 => ?_) (fun c_4 => ?_)
      · rw [if_pos c_4] at hg
        refine lv_bipush (v := 6) hx hb dX5_crossContext_22 (by decide) ?_
        subst hg
        rw [← hQe]
        exact W.iret (v := (6 : Int32)) hx hb hr (fun t ht hW => ⟨⟨(6 : Int32), (), rfl, rfl, by rw [ht]; exact hP, va_K.moved hW.alike hK, hD⟩, hS.F ht⟩) hS.2.2 dX5_crossContext_24
      · rw [if_neg c_4] at hg
        refine lv_bipush (v := 7) hx hb dX5_crossContext_17 (by decide) ?_
        refine lv_goto (tgt := 24) hx hb dX5_crossContext_19 (by decide) ?_
        subst hg
        rw [← hQe]
        exact W.iret (v := (7 : Int32)) hx hb hr (fun t ht hW => ⟨⟨(7 : Int32), (), rfl, rfl, by rw [ht]; exact hP, va_K.moved hW.alike hK, hD⟩, hS.F ht⟩) hS.2.2 dX5_crossContext_24
  · rw [if_neg c_1] at hg
    refine lv_bipush (v := 8) hx hb dX5_crossContext_5 (by decide) ?_
    subst hg
    rw [← hQe]
    exact W.iret (v := (8 : Int32)) hx hb hr (fun t ht hW => ⟨⟨(8 : Int32), (), rfl, rfl, by rw [ht]; exact hP, va_K.moved hW.alike hK, hD⟩, hS.F ht⟩) hS.2.2 dX5_crossContext_7
abbrev rm_X5_sideContext : Room := { frames := 1, cells := 0, slots := 0, locals := 13 }
abbrev Q_X5_sideContext (dC : Nat → ClassId) (dI : Nat → Nat → Nat) (cI cJ cZ : ClassId) (A : Nat → Prop) (g : Int32) : Array Value → State → Outcome → State → Prop := va_Qi (fun (r : Int32) (_ : Unit) => r = g) (fun u t => va_P (dC, dI) vwCl (wd_) t.heap ∧ va_K (dC, dI) vwCl [(cI, .int), (cJ, .long), (cZ, .boolean)] t ∧ va_D A (wd_)) A
set_option maxHeartbeats 4000000 in
set_option maxRecDepth 100000 in
theorem c_X5_sideContext (l : Launch) (dC : Nat → ClassId) (dI : Nat → Nat → Nat) (cI cJ cZ : ClassId) (sz : Nat) (p1 : Int32) (p2 : Int32) (p3 : Int32) : Met l yX5_sideContext wsX5_sideContext rm_X5_sideContext (va_Pc [.int p1, .int p2, .int p3] (fun U => U.heap.size = sz ∧ va_P (dC, dI) vwCl (wd_) U.heap ∧ va_K (dC, dI) vwCl [(cI, .int), (cJ, .long), (cZ, .boolean)] U ∧ va_D (fun _ => True) (wd_))) (Q_X5_sideContext dC dI cI cJ cZ (va_A (wd_) sz) (F_X5_sideContext p1 p2 p3)) 0 0 (va_A (wd_) sz) := by
  refine Met.ofW (cc := cX5_sideContext) (maxL := 3) (ret := (some .int)) (by decide) rfl ?_
  intro p e s m args below meth c s₁ B hml hv
  obtain ⟨rfl, hsz, hP, hK, hD0⟩ := hv
  have hx := B.exec
  have hb := B.bytes
  have hr := B.returns
  have hts := atoms_spec (ws := wsX5_sideContext) B.pre
  have hown : s.vm.findClass RX5 = some m.cls := findClass_of_methodNamed B.named
  have hlocks := B.notSynchronized
  subst hsz
  have hD := hD0.self (sz := s.heap.size)
  generalize hAe : va_A (wd_) s.heap.size = A at hD ⊢
  have hA : ∀ q : Nat, s.heap.size ≤ q → A q := fun q h => by rw [← hAe]; exact Or.inr h
  have hS : va_S A s.heap s.heap [] := va_S.rf
  obtain ⟨H, hH⟩ : ∃ z, z = s.heap := ⟨_, rfl⟩
  have hP : va_P (dC, dI) vwCl (wd_) H := by rw [hH]; exact hP
  have hS : va_S A s.heap H [] := by rw [hH]; exact va_S.rf
  obtain ⟨g, hg⟩ : ∃ z, F_X5_sideContext p1 p2 p3 = z := ⟨_, rfl⟩
  rw [hg]
  generalize hQe : MQ below (Q_X5_sideContext dC dI cI cJ cZ A g) _ s 0 0 A = Q
  rw [← hH]
  clear hH
  have hl := lv_entry ([.int p1, .int p2, .int p3]) (n := 3) (Nat.le_of_ble_eq_true rfl)
  rw [lg_entry_eq]
  generalize (lg_sl ([.int p1, .int p2, .int p3]) ++ List.replicate (3 - (lg_sl ([.int p1, .int p2, .int p3])).length) Slot.unset).toArray = ls at hl ⊢
  have hl : lv_has ls 3 [(0, .int p1), (1, .int p2), (2, .int p3)] := hl
  unfold F_X5_sideContext at hg
  refine lv_iload_n hx hb dX5_sideContext_0 rfl (lv_at hl 0 rfl) ?_
  refine lv_iconst (v := 2) hx hb dX5_sideContext_1 (by decide) ?_
  refine lv_icmp_ne (tgt := 8) hx hb dX5_sideContext_2 (by decide) (fun c_1 => ?_) (fun c_1 => ?_)
  · rw [if_neg c_1] at hg
    refine lv_iload_n hx hb dX5_sideContext_8 rfl (lv_at hl 0 rfl) ?_
    refine lv_iconst (v := 1) hx hb dX5_sideContext_9 (by decide) ?_
    refine lv_icmp_ne (tgt := 33) hx hb dX5_sideContext_10 (by decide) (fun c_2 => ?_) (fun c_2 => ?_)
    · rw [if_neg c_2] at hg
      refine lv_iload_n hx hb dX5_sideContext_33 rfl (lv_at hl 1 rfl) ?_
      refine lv_if_le (tgt := 43) hx hb dX5_sideContext_34 (by decide) (fun c_3 => ?_) (fun c_3 => ?_)
      · rw [if_pos c_3] at hg
        refine lv_iload_n hx hb dX5_sideContext_43 rfl (lv_at hl 2 rfl) ?_
        refine lv_iconst (v := 2) hx hb dX5_sideContext_44 (by decide) ?_
        refine va_mmin hx hb (hml.trans hl.1.symm) hown (hts (.methodLink RX5 41 Lib.Math.min.name) (by decide +kernel)) (hts (.static Lib.Math.min.name) (by decide +kernel)) (hts (.initialized "java/lang/Math") (by decide +kernel)) (hts (.code Lib.Math.min.name Lib.Math.min.code 2 (some .int)) (by decide +kernel)) (Nat.le_of_ble_eq_true rfl) (Nat.le_of_ble_eq_true rfl) (Nat.le_of_ble_eq_true rfl) (Nat.le_of_ble_eq_true rfl) dX5_sideContext_45 ?_
        subst hg
        rw [← hQe]
        exact W.iret (v := (if (2 : Int32) < p3 then (2 : Int32) else p3)) hx hb hr (fun t ht hW => ⟨⟨(if (2 : Int32) < p3 then (2 : Int32) else p3), (), rfl, rfl, by rw [ht]; exact hP, va_K.moved hW.alike hK, hD⟩, hS.F ht⟩) hS.2.2 dX5_sideContext_48
      · rw [if_neg c_3] at hg
        refine lv_iload_n hx hb dX5_sideContext_37 rfl (lv_at hl 1 rfl) ?_
        refine lv_iconst (v := 2) hx hb dX5_sideContext_38 (by decide) ?_
        refine lv_iadd hx hb dX5_sideContext_39 ?_
        refine lv_goto (tgt := 48) hx hb dX5_sideContext_40 (by decide) ?_
        subst hg
        rw [← hQe]
        exact W.iret (v := (p2 + (2 : Int32))) hx hb hr (fun t ht hW => ⟨⟨(p2 + (2 : Int32)), (), rfl, rfl, by rw [ht]; exact hP, va_K.moved hW.alike hK, hD⟩, hS.F ht⟩) hS.2.2 dX5_sideContext_48
    · rw [if_pos c_2] at hg
      refine lv_iload_n hx hb dX5_sideContext_13 rfl (lv_at hl 1 rfl) ?_
      refine lv_if_le (tgt := 22) hx hb dX5_sideContext_14 (by decide) (fun c_4 => ?_) (fun c_4 => ?_)
      · rw [if_pos c_4] at hg
        refine lv_iload_n hx hb dX5_sideContext_22 rfl (lv_at hl 2 rfl) ?_
        refine lv_if_le (tgt := 31) hx hb dX5_sideContext_23 (by decide) (fun c_5 => ?_) (fun c_5 => ?_)
        · rw [if_pos c_5] at hg
          refine lv_iconst (v := 5) hx hb dX5_sideContext_31 (by decide) ?_
          subst hg
          rw [← hQe]
          exact W.iret (v := (5 : Int32)) hx hb hr (fun t ht hW => ⟨⟨(5 : Int32), (), rfl, rfl, by rw [ht]; exact hP, va_K.moved hW.alike hK, hD⟩, hS.F ht⟩) hS.2.2 dX5_sideContext_32
        · rw [if_neg c_5] at hg
          refine lv_bipush (v := 6) hx hb dX5_sideContext_26 (by decide) ?_
          refine lv_goto (tgt := 32) hx hb dX5_sideContext_28 (by decide) ?_
          subst hg
          rw [← hQe]
          exact W.iret (v := (6 : Int32)) hx hb hr (fun t ht hW => ⟨⟨(6 : Int32), (), rfl, rfl, by rw [ht]; exact hP, va_K.moved hW.alike hK, hD⟩, hS.F ht⟩) hS.2.2 dX5_sideContext_32
      · rw [if_neg c_4] at hg
        refine lv_bipush (v := 7) hx hb dX5_sideContext_17 (by decide) ?_
        refine lv_goto (tgt := 32) hx hb dX5_sideContext_19 (by decide) ?_
        subst hg
        rw [← hQe]
        exact W.iret (v := (7 : Int32)) hx hb hr (fun t ht hW => ⟨⟨(7 : Int32), (), rfl, rfl, by rw [ht]; exact hP, va_K.moved hW.alike hK, hD⟩, hS.F ht⟩) hS.2.2 dX5_sideContext_32
  · rw [if_pos c_1] at hg
    refine lv_bipush (v := 8) hx hb dX5_sideContext_5 (by decide) ?_
    subst hg
    rw [← hQe]
    exact W.iret (v := (8 : Int32)) hx hb hr (fun t ht hW => ⟨⟨(8 : Int32), (), rfl, rfl, by rw [ht]; exact hP, va_K.moved hW.alike hK, hD⟩, hS.F ht⟩) hS.2.2 dX5_sideContext_7
abbrev rm_X5_zeroContext : Room := { frames := 2, cells := 0, slots := 0, locals := 35 }
abbrev Q_X5_zeroContext (dC : Nat → ClassId) (dI : Nat → Nat → Nat) (cI cJ cZ : ClassId) (a_fld : Nat) (a_coef : Nat) (a_mags : Nat) (a_marks : Nat) (A : Nat → Prop) (fld_wide : Int32) (fld_high : Int32) (fld_band : Int32) (fld_causal : Int32) (marks_n : Nat) (marks_f : Nat → Int32) (g : Int32) : Array Value → State → Outcome → State → Prop := va_Qi (fun (r : Int32) (_ : Unit) => r = g) (fun u t => va_P (dC, dI) vwCl (wd_fld_marks cI a_fld a_coef a_mags a_marks fld_wide fld_high fld_band fld_causal marks_n marks_f) t.heap ∧ va_K (dC, dI) vwCl [(cI, .int), (cJ, .long), (cZ, .boolean)] t ∧ va_D A (wd_fld_marks cI a_fld a_coef a_mags a_marks fld_wide fld_high fld_band fld_causal marks_n marks_f)) A
theorem iw_X5_zeroContext_X5 : ∀ w ∈ u_ws RX5 TX5 7, w ∈ wsX5_zeroContext := by decide +kernel
set_option maxHeartbeats 4000000 in
set_option maxRecDepth 100000 in
theorem c_X5_zeroContext (l : Launch) (dC : Nat → ClassId) (dI : Nat → Nat → Nat) (cI cJ cZ : ClassId) (a_fld : Nat) (a_coef : Nat) (a_mags : Nat) (a_marks : Nat) (sz : Nat) (fld_wide : Int32) (fld_high : Int32) (fld_band : Int32) (fld_causal : Int32) (marks_n : Nat) (marks_f : Nat → Int32) (p1 : Int32) (hpre : P_X5_zeroContext p1 marks_n) : Met l yX5_zeroContext wsX5_zeroContext rm_X5_zeroContext (va_Pc [.ref a_fld, .int p1] (fun U => U.heap.size = sz ∧ va_P (dC, dI) vwCl (wd_fld_marks cI a_fld a_coef a_mags a_marks fld_wide fld_high fld_band fld_causal marks_n marks_f) U.heap ∧ va_K (dC, dI) vwCl [(cI, .int), (cJ, .long), (cZ, .boolean)] U ∧ va_D (fun _ => True) (wd_fld_marks cI a_fld a_coef a_mags a_marks fld_wide fld_high fld_band fld_causal marks_n marks_f))) (Q_X5_zeroContext dC dI cI cJ cZ a_fld a_coef a_mags a_marks (va_A (wd_fld_marks cI a_fld a_coef a_mags a_marks fld_wide fld_high fld_band fld_causal marks_n marks_f) sz) fld_wide fld_high fld_band fld_causal marks_n marks_f (F_X5_zeroContext p1 fld_band marks_f)) 0 0 (va_A (wd_fld_marks cI a_fld a_coef a_mags a_marks fld_wide fld_high fld_band fld_causal marks_n marks_f) sz) := by
  refine Met.ofW (cc := cX5_zeroContext) (maxL := 5) (ret := (some .int)) (by decide) rfl ?_
  intro p e s m args below meth c s₁ B hml hv
  obtain ⟨rfl, hsz, hP, hK, hD0⟩ := hv
  have hx := B.exec
  have hb := B.bytes
  have hr := B.returns
  have hts := atoms_spec (ws := wsX5_zeroContext) B.pre
  have hown : s.vm.findClass RX5 = some m.cls := findClass_of_methodNamed B.named
  have hlocks := B.notSynchronized
  subst hsz
  have hD := hD0.self (sz := s.heap.size)
  generalize hAe : va_A (wd_fld_marks cI a_fld a_coef a_mags a_marks fld_wide fld_high fld_band fld_causal marks_n marks_f) s.heap.size = A at hD ⊢
  have hA : ∀ q : Nat, s.heap.size ≤ q → A q := fun q h => by rw [← hAe]; exact Or.inr h
  have hS : va_S A s.heap s.heap [] := va_S.rf
  obtain ⟨H, hH⟩ : ∃ z, z = s.heap := ⟨_, rfl⟩
  have hP : va_P (dC, dI) vwCl (wd_fld_marks cI a_fld a_coef a_mags a_marks fld_wide fld_high fld_band fld_causal marks_n marks_f) H := by rw [hH]; exact hP
  have hS : va_S A s.heap H [] := by rw [hH]; exact va_S.rf
  obtain ⟨g, hg⟩ : ∃ z, F_X5_zeroContext p1 fld_band marks_f = z := ⟨_, rfl⟩
  rw [hg]
  generalize hQe : MQ below (Q_X5_zeroContext dC dI cI cJ cZ a_fld a_coef a_mags a_marks A fld_wide fld_high fld_band fld_causal marks_n marks_f g) _ s 0 0 A = Q
  rw [← hH]
  clear hH
  have hl := lv_entry ([.ref a_fld, .int p1]) (n := 5) (Nat.le_of_ble_eq_true rfl)
  rw [lg_entry_eq]
  generalize (lg_sl ([.ref a_fld, .int p1]) ++ List.replicate (5 - (lg_sl ([.ref a_fld, .int p1])).length) Slot.unset).toArray = ls at hl ⊢
  have hl : lv_has ls 5 [(0, .ref a_fld), (1, .int p1)] := hl
  unfold F_X5_zeroContext at hg
  unfold P_X5_zeroContext at hpre
  refine lv_aload_n hx hb dX5_zeroContext_0 rfl (lv_at hl 0 rfl) ?_
  refine va_get (D := (dC, dI)) (ci := 4) (v := .ref a_marks) (C := RX5) (T := TX5) (N := 7) hx hb hts iw_X5_zeroContext_X5 hown hK hP 0 rfl rfl 4 (by decide) (hts (.fieldLink RX5 25 "PlaneBlocks$Field" "marks" "[I") (by decide +kernel)) (fun _ h9 => h9) rfl dX5_zeroContext_1 ?_
  refine lv_iload_n hx hb dX5_zeroContext_4 rfl (lv_at hl 1 rfl) ?_
  have h_1 := hpre
  refine va_iald hx hb hK hP 1 0 rfl rfl h_1 dX5_zeroContext_5 ?_
  refine lv_iconst (v := 0) hx hb dX5_zeroContext_6 (by decide) ?_
  refine lv_ishr hx hb dX5_zeroContext_7 ?_
  refine lv_iconst (v := 3) hx hb dX5_zeroContext_8 (by decide) ?_
  refine lv_iand hx hb dX5_zeroContext_9 ?_
  refine lv_istore_n (lv' := [(2, .int (((marks_f p1.toNatClampNeg) >>> ((0 : Int32) &&& 31)) &&& (3 : Int32))), (0, .ref a_fld), (1, .int p1)]) hx hb dX5_zeroContext_10 rfl hl (by decide) rfl (fun ls hl => ?_)
  refine lv_aload_n hx hb dX5_zeroContext_11 rfl (lv_at hl 1 rfl) ?_
  refine va_get (D := (dC, dI)) (ci := 4) (v := .ref a_marks) (C := RX5) (T := TX5) (N := 7) hx hb hts iw_X5_zeroContext_X5 hown hK hP 0 rfl rfl 4 (by decide) (hts (.fieldLink RX5 25 "PlaneBlocks$Field" "marks" "[I") (by decide +kernel)) (fun _ h9 => h9) rfl dX5_zeroContext_12 ?_
  refine lv_iload_n hx hb dX5_zeroContext_15 rfl (lv_at hl 2 rfl) ?_
  refine va_iald hx hb hK hP 1 0 rfl rfl h_1 dX5_zeroContext_16 ?_
  refine lv_iconst (v := 2) hx hb dX5_zeroContext_17 (by decide) ?_
  refine lv_ishr hx hb dX5_zeroContext_18 ?_
  refine lv_iconst (v := 3) hx hb dX5_zeroContext_19 (by decide) ?_
  refine lv_iand hx hb dX5_zeroContext_20 ?_
  refine lv_istore_n (lv' := [(3, .int (((marks_f p1.toNatClampNeg) >>> ((2 : Int32) &&& 31)) &&& (3 : Int32))), (2, .int (((marks_f p1.toNatClampNeg) >>> ((0 : Int32) &&& 31)) &&& (3 : Int32))), (0, .ref a_fld), (1, .int p1)]) hx hb dX5_zeroContext_21 rfl hl (by decide) rfl (fun ls hl => ?_)
  refine lv_aload_n hx hb dX5_zeroContext_22 rfl (lv_at hl 2 rfl) ?_
  refine va_get (D := (dC, dI)) (ci := 4) (v := .ref a_marks) (C := RX5) (T := TX5) (N := 7) hx hb hts iw_X5_zeroContext_X5 hown hK hP 0 rfl rfl 4 (by decide) (hts (.fieldLink RX5 25 "PlaneBlocks$Field" "marks" "[I") (by decide +kernel)) (fun _ h9 => h9) rfl dX5_zeroContext_23 ?_
  refine lv_iload_n hx hb dX5_zeroContext_26 rfl (lv_at hl 3 rfl) ?_
  refine va_iald hx hb hK hP 1 0 rfl rfl h_1 dX5_zeroContext_27 ?_
  refine lv_iconst (v := 4) hx hb dX5_zeroContext_28 (by decide) ?_
  refine lv_ishr hx hb dX5_zeroContext_29 ?_
  refine lv_bipush (v := 7) hx hb dX5_zeroContext_30 (by decide) ?_
  refine lv_iand hx hb dX5_zeroContext_32 ?_
  refine lv_istore (lv' := [(4, .int (((marks_f p1.toNatClampNeg) >>> ((4 : Int32) &&& 31)) &&& (7 : Int32))), (3, .int (((marks_f p1.toNatClampNeg) >>> ((2 : Int32) &&& 31)) &&& (3 : Int32))), (2, .int (((marks_f p1.toNatClampNeg) >>> ((0 : Int32) &&& 31)) &&& (3 : Int32))), (0, .ref a_fld), (1, .int p1)]) hx hb dX5_zeroContext_33 hl (by decide) rfl (fun ls hl => ?_)
  refine lv_aload_n hx hb dX5_zeroContext_35 rfl (lv_at hl 3 rfl) ?_
  refine va_get (D := (dC, dI)) (ci := 4) (v := .int fld_band) (C := RX5) (T := TX5) (N := 7) hx hb hts iw_X5_zeroContext_X5 hown hK hP 0 rfl rfl 5 (by decide) (hts (.fieldLink RX5 28 "PlaneBlocks$Field" "band" "I") (by decide +kernel)) (fun _ h9 => h9) rfl dX5_zeroContext_36 ?_
  refine lv_iconst (v := 3) hx hb dX5_zeroContext_39 (by decide) ?_
  refine lv_icmp_ne (tgt := 52) hx hb dX5_zeroContext_40 (by decide) (fun c_4 => ?_) (fun c_4 => ?_)
  · rw [if_neg c_4] at hg
    refine lv_aload_n hx hb dX5_zeroContext_52 rfl (lv_at hl 3 rfl) ?_
    refine va_get (D := (dC, dI)) (ci := 4) (v := .int fld_band) (C := RX5) (T := TX5) (N := 7) hx hb hts iw_X5_zeroContext_X5 hown hK hP 0 rfl rfl 5 (by decide) (hts (.fieldLink RX5 28 "PlaneBlocks$Field" "band" "I") (by decide +kernel)) (fun _ h9 => h9) rfl dX5_zeroContext_53 ?_
    refine lv_iconst (v := 1) hx hb dX5_zeroContext_56 (by decide) ?_
    refine lv_icmp_ne (tgt := 70) hx hb dX5_zeroContext_57 (by decide) (fun c_5 => ?_) (fun c_5 => ?_)
    · rw [if_neg c_5] at hg
      refine lv_iload_n hx hb dX5_zeroContext_70 rfl (lv_at hl 2 rfl) ?_
      refine lv_iload_n hx hb dX5_zeroContext_71 rfl (lv_at hl 1 rfl) ?_
      refine lv_iload hx hb dX5_zeroContext_72 (lv_at hl 0 rfl) ?_
      have hPc := hP.sub (ws' := (wd_)) [] rfl
      have hDc := hD.sub (ws' := (wd_)) [] (by decide) rfl
      have hFc := va_free (wc := (wd_)) hD hS hA [] rfl
      refine va_calli (va_runS (As := [.int (((marks_f p1.toNatClampNeg) >>> ((0 : Int32) &&& 31)) &&& (3 : Int32)), .int (((marks_f p1.toNatClampNeg) >>> ((2 : Int32) &&& 31)) &&& (3 : Int32)), .int (((marks_f p1.toNatClampNeg) >>> ((4 : Int32) &&& 31)) &&& (7 : Int32))]) (rest := []) ⟨hx, hb, hml, hown, hts⟩ (c_X5_sideContext l dC dI cI cJ cZ  H.size (((marks_f p1.toNatClampNeg) >>> ((0 : Int32) &&& 31)) &&& (3 : Int32)) (((marks_f p1.toNatClampNeg) >>> ((2 : Int32) &&& 31)) &&& (3 : Int32)) (((marks_f p1.toNatClampNeg) >>> ((4 : Int32) &&& 31)) &&& (7 : Int32))) (va_cwS 3 hts gX5_zeroContext_X5_sideContext rfl rfl rfl (by decide +kernel) ⟨Nat.le_of_ble_eq_true rfl, Nat.le_of_ble_eq_true rfl⟩) ⟨fun a U g mk q => by obtain ⟨q0, q1, qP, qK, qD⟩ := q; exact ⟨q0, q1, qP, va_K.moved (u := U) (U := U.calling g mk a) (Vm.Alike.refl U.vm) qK, qD⟩, fun U hU hW => ⟨rfl, by rw [hU], by rw [hU]; exact hPc, va_K.moved hW.alike hK, hDc.weaken (fun _ _ _ _ => trivial)⟩⟩ rfl rfl hl.1 rfl (lv_room (Nat.le_of_ble_eq_true rfl)) dX5_zeroContext_74 ⟨Nat.le_of_ble_eq_true rfl, Nat.le_of_ble_eq_true rfl⟩) hS (fun q _ h => hFc q h) hFc (fun r u t H1 locs ht hvm hw hB hz1 hk1 hS => ?_)
      obtain ⟨hP1, hK1, hD1⟩ := hB
      rw [ht] at hP1
      obtain ⟨r_6, hr_6⟩ : ∃ z, F_X5_sideContext (((marks_f p1.toNatClampNeg) >>> ((0 : Int32) &&& 31)) &&& (3 : Int32)) (((marks_f p1.toNatClampNeg) >>> ((2 : Int32) &&& 31)) &&& (3 : Int32)) (((marks_f p1.toNatClampNeg) >>> ((4 : Int32) &&& 31)) &&& (7 : Int32)) = z := ⟨_, rfl⟩
      try rw [hr_6] at hw
      try rw [hr_6] at hP1
      try rw [hr_6] at hD1
      have hg : r_6 = g := by first | (rw [hr_6] at hg; exact hg) | (subst hr_6; exact hg)
      have hw := hw.symm
      subst hw
      obtain ⟨hP, hD⟩ := va_join (wr := [(a_fld, .inr (4, [.int fld_wide, .int fld_high, .ref a_coef, .ref a_mags, .ref a_marks, .int fld_band, .int fld_causal])), (a_marks, .inl (cI, marks_n, .inl marks_f))]) (w1 := (wd_)) hP hD [] [0, 1] rfl rfl (by decide) (by decide) hk1 hFc hP1 hD1
      have hP : va_P (dC, dI) vwCl (wd_fld_marks cI a_fld a_coef a_mags a_marks fld_wide fld_high fld_band fld_causal marks_n marks_f) H1 := hP.sub [0, 1] rfl
      have hD : va_D A (wd_fld_marks cI a_fld a_coef a_mags a_marks fld_wide fld_high fld_band fld_causal marks_n marks_f) := hD.sub [0, 1] (by decide) rfl
      generalize H1 = H at hP hS ⊢
      subst hg
      rw [← hQe]
      exact W.iret (v := r_6) hx hb hr (fun t ht hW => ⟨⟨r_6, (), rfl, rfl, by rw [ht]; exact hP, va_K.moved hW.alike hK, hD⟩, hS.F ht⟩) hS.2.2 dX5_zeroContext_77
    · rw [if_pos c_5] at hg
      refine lv_iload_n hx hb dX5_zeroContext_60 rfl (lv_at hl 1 rfl) ?_
      refine lv_iload_n hx hb dX5_zeroContext_61 rfl (lv_at hl 2 rfl) ?_
      refine lv_iload hx hb dX5_zeroContext_62 (lv_at hl 0 rfl) ?_
      have hPc := hP.sub (ws' := (wd_)) [] rfl
      have hDc := hD.sub (ws' := (wd_)) [] (by decide) rfl
      have hFc := va_free (wc := (wd_)) hD hS hA [] rfl
      refine va_calli (va_runS (As := [.int (((marks_f p1.toNatClampNeg) >>> ((2 : Int32) &&& 31)) &&& (3 : Int32)), .int (((marks_f p1.toNatClampNeg) >>> ((0 : Int32) &&& 31)) &&& (3 : Int32)), .int (((marks_f p1.toNatClampNeg) >>> ((4 : Int32) &&& 31)) &&& (7 : Int32))]) (rest := []) ⟨hx, hb, hml, hown, hts⟩ (c_X5_sideContext l dC dI cI cJ cZ  H.size (((marks_f p1.toNatClampNeg) >>> ((2 : Int32) &&& 31)) &&& (3 : Int32)) (((marks_f p1.toNatClampNeg) >>> ((0 : Int32) &&& 31)) &&& (3 : Int32)) (((marks_f p1.toNatClampNeg) >>> ((4 : Int32) &&& 31)) &&& (7 : Int32))) (va_cwS 3 hts gX5_zeroContext_X5_sideContext rfl rfl rfl (by decide +kernel) ⟨Nat.le_of_ble_eq_true rfl, Nat.le_of_ble_eq_true rfl⟩) ⟨fun a U g mk q => by obtain ⟨q0, q1, qP, qK, qD⟩ := q; exact ⟨q0, q1, qP, va_K.moved (u := U) (U := U.calling g mk a) (Vm.Alike.refl U.vm) qK, qD⟩, fun U hU hW => ⟨rfl, by rw [hU], by rw [hU]; exact hPc, va_K.moved hW.alike hK, hDc.weaken (fun _ _ _ _ => trivial)⟩⟩ rfl rfl hl.1 rfl (lv_room (Nat.le_of_ble_eq_true rfl)) dX5_zeroContext_64 ⟨Nat.le_of_ble_eq_true rfl, Nat.le_of_ble_eq_true rfl⟩) hS (fun q _ h => hFc q h) hFc (fun r u t H1 locs ht hvm hw hB hz1 hk1 hS => ?_)
      obtain ⟨hP1, hK1, hD1⟩ := hB
      rw [ht] at hP1
      obtain ⟨r_7, hr_7⟩ : ∃ z, F_X5_sideContext (((marks_f p1.toNatClampNeg) >>> ((2 : Int32) &&& 31)) &&& (3 : Int32)) (((marks_f p1.toNatClampNeg) >>> ((0 : Int32) &&& 31)) &&& (3 : Int32)) (((marks_f p1.toNatClampNeg) >>> ((4 : Int32) &&& 31)) &&& (7 : Int32)) = z := ⟨_, rfl⟩
      try rw [hr_7] at hw
      try rw [hr_7] at hP1
      try rw [hr_7] at hD1
      have hg : r_7 = g := by first | (rw [hr_7] at hg; exact hg) | (subst hr_7; exact hg)
      have hw := hw.symm
      subst hw
      obtain ⟨hP, hD⟩ := va_join (wr := [(a_fld, .inr (4, [.int fld_wide, .int fld_high, .ref a_coef, .ref a_mags, .ref a_marks, .int fld_band, .int fld_causal])), (a_marks, .inl (cI, marks_n, .inl marks_f))]) (w1 := (wd_)) hP hD [] [0, 1] rfl rfl (by decide) (by decide) hk1 hFc hP1 hD1
      have hP : va_P (dC, dI) vwCl (wd_fld_marks cI a_fld a_coef a_mags a_marks fld_wide fld_high fld_band fld_causal marks_n marks_f) H1 := hP.sub [0, 1] rfl
      have hD : va_D A (wd_fld_marks cI a_fld a_coef a_mags a_marks fld_wide fld_high fld_band fld_causal marks_n marks_f) := hD.sub [0, 1] (by decide) rfl
      generalize H1 = H at hP hS ⊢
      refine lv_goto (tgt := 77) hx hb dX5_zeroContext_67 (by decide) ?_
      subst hg
      rw [← hQe]
      exact W.iret (v := r_7) hx hb hr (fun t ht hW => ⟨⟨r_7, (), rfl, rfl, by rw [ht]; exact hP, va_K.moved hW.alike hK, hD⟩, hS.F ht⟩) hS.2.2 dX5_zeroContext_77
  · rw [if_pos c_4] at hg
    refine lv_iload_n hx hb dX5_zeroContext_43 rfl (lv_at hl 2 rfl) ?_
    refine lv_iload_n hx hb dX5_zeroContext_44 rfl (lv_at hl 1 rfl) ?_
    refine lv_iadd hx hb dX5_zeroContext_45 ?_
    refine lv_iload hx hb dX5_zeroContext_46 (lv_at hl 0 rfl) ?_
    have hPc := hP.sub (ws' := (wd_)) [] rfl
    have hDc := hD.sub (ws' := (wd_)) [] (by decide) rfl
    have hFc := va_free (wc := (wd_)) hD hS hA [] rfl
    refine va_calli (va_runS (As := [.int ((((marks_f p1.toNatClampNeg) >>> ((0 : Int32) &&& 31)) &&& (3 : Int32)) + (((marks_f p1.toNatClampNeg) >>> ((2 : Int32) &&& 31)) &&& (3 : Int32))), .int (((marks_f p1.toNatClampNeg) >>> ((4 : Int32) &&& 31)) &&& (7 : Int32))]) (rest := []) ⟨hx, hb, hml, hown, hts⟩ (c_X5_crossContext l dC dI cI cJ cZ  H.size ((((marks_f p1.toNatClampNeg) >>> ((0 : Int32) &&& 31)) &&& (3 : Int32)) + (((marks_f p1.toNatClampNeg) >>> ((2 : Int32) &&& 31)) &&& (3 : Int32))) (((marks_f p1.toNatClampNeg) >>> ((4 : Int32) &&& 31)) &&& (7 : Int32))) (va_cwS 2 hts gX5_zeroContext_X5_crossContext rfl rfl rfl (by decide +kernel) ⟨Nat.le_of_ble_eq_true rfl, Nat.le_of_ble_eq_true rfl⟩) ⟨fun a U g mk q => by obtain ⟨q0, q1, qP, qK, qD⟩ := q; exact ⟨q0, q1, qP, va_K.moved (u := U) (U := U.calling g mk a) (Vm.Alike.refl U.vm) qK, qD⟩, fun U hU hW => ⟨rfl, by rw [hU], by rw [hU]; exact hPc, va_K.moved hW.alike hK, hDc.weaken (fun _ _ _ _ => trivial)⟩⟩ rfl rfl hl.1 rfl (lv_room (Nat.le_of_ble_eq_true rfl)) dX5_zeroContext_48 ⟨Nat.le_of_ble_eq_true rfl, Nat.le_of_ble_eq_true rfl⟩) hS (fun q _ h => hFc q h) hFc (fun r u t H1 locs ht hvm hw hB hz1 hk1 hS => ?_)
    obtain ⟨hP1, hK1, hD1⟩ := hB
    rw [ht] at hP1
    obtain ⟨r_8, hr_8⟩ : ∃ z, F_X5_crossContext ((((marks_f p1.toNatClampNeg) >>> ((0 : Int32) &&& 31)) &&& (3 : Int32)) + (((marks_f p1.toNatClampNeg) >>> ((2 : Int32) &&& 31)) &&& (3 : Int32))) (((marks_f p1.toNatClampNeg) >>> ((4 : Int32) &&& 31)) &&& (7 : Int32)) = z := ⟨_, rfl⟩
    try rw [hr_8] at hw
    try rw [hr_8] at hP1
    try rw [hr_8] at hD1
    have hg : r_8 = g := by first | (rw [hr_8] at hg; exact hg) | (subst hr_8; exact hg)
    have hw := hw.symm
    subst hw
    obtain ⟨hP, hD⟩ := va_join (wr := [(a_fld, .inr (4, [.int fld_wide, .int fld_high, .ref a_coef, .ref a_mags, .ref a_marks, .int fld_band, .int fld_causal])), (a_marks, .inl (cI, marks_n, .inl marks_f))]) (w1 := (wd_)) hP hD [] [0, 1] rfl rfl (by decide) (by decide) hk1 hFc hP1 hD1
    have hP : va_P (dC, dI) vwCl (wd_fld_marks cI a_fld a_coef a_mags a_marks fld_wide fld_high fld_band fld_causal marks_n marks_f) H1 := hP.sub [0, 1] rfl
    have hD : va_D A (wd_fld_marks cI a_fld a_coef a_mags a_marks fld_wide fld_high fld_band fld_causal marks_n marks_f) := hD.sub [0, 1] (by decide) rfl
    generalize H1 = H at hP hS ⊢
    subst hg
    rw [← hQe]
    exact W.iret (v := r_8) hx hb hr (fun t ht hW => ⟨⟨r_8, (), rfl, rfl, by rw [ht]; exact hP, va_K.moved hW.alike hK, hD⟩, hS.F ht⟩) hS.2.2 dX5_zeroContext_51
abbrev rm_X5_signPull : Room := { frames := 1, cells := 0, slots := 0, locals := 20 }
abbrev Q_X5_signPull (dC : Nat → ClassId) (dI : Nat → Nat → Nat) (cI cJ cZ : ClassId) (a_fld : Nat) (a_coef : Nat) (a_mags : Nat) (a_marks : Nat) (A : Nat → Prop) (fld_wide : Int32) (fld_high : Int32) (fld_band : Int32) (fld_causal : Int32) (marks_n : Nat) (marks_f : Nat → Int32) (g : Int32) : Array Value → State → Outcome → State → Prop := va_Qi (fun (r : Int32) (_ : Unit) => r = g) (fun u t => va_P (dC, dI) vwCl (wd_fld_marks cI a_fld a_coef a_mags a_marks fld_wide fld_high fld_band fld_causal marks_n marks_f) t.heap ∧ va_K (dC, dI) vwCl [(cI, .int), (cJ, .long), (cZ, .boolean)] t ∧ va_D A (wd_fld_marks cI a_fld a_coef a_mags a_marks fld_wide fld_high fld_band fld_causal marks_n marks_f)) A
theorem iw_X5_signPull_X5 : ∀ w ∈ u_ws RX5 TX5 7, w ∈ wsX5_signPull := by decide +kernel
set_option maxHeartbeats 4000000 in
set_option maxRecDepth 100000 in
theorem c_X5_signPull (l : Launch) (dC : Nat → ClassId) (dI : Nat → Nat → Nat) (cI cJ cZ : ClassId) (a_fld : Nat) (a_coef : Nat) (a_mags : Nat) (a_marks : Nat) (sz : Nat) (fld_wide : Int32) (fld_high : Int32) (fld_band : Int32) (fld_causal : Int32) (marks_n : Nat) (marks_f : Nat → Int32) (p1 : Int32) (hpre : P_X5_signPull p1 marks_n) : Met l yX5_signPull wsX5_signPull rm_X5_signPull (va_Pc [.ref a_fld, .int p1] (fun U => U.heap.size = sz ∧ va_P (dC, dI) vwCl (wd_fld_marks cI a_fld a_coef a_mags a_marks fld_wide fld_high fld_band fld_causal marks_n marks_f) U.heap ∧ va_K (dC, dI) vwCl [(cI, .int), (cJ, .long), (cZ, .boolean)] U ∧ va_D (fun _ => True) (wd_fld_marks cI a_fld a_coef a_mags a_marks fld_wide fld_high fld_band fld_causal marks_n marks_f))) (Q_X5_signPull dC dI cI cJ cZ a_fld a_coef a_mags a_marks (va_A (wd_fld_marks cI a_fld a_coef a_mags a_marks fld_wide fld_high fld_band fld_causal marks_n marks_f) sz) fld_wide fld_high fld_band fld_causal marks_n marks_f (F_X5_signPull p1 marks_f)) 0 0 (va_A (wd_fld_marks cI a_fld a_coef a_mags a_marks fld_wide fld_high fld_band fld_causal marks_n marks_f) sz) := by
  refine Met.ofW (cc := cX5_signPull) (maxL := 5) (ret := (some .int)) (by decide) rfl ?_
  intro p e s m args below meth c s₁ B hml hv
  obtain ⟨rfl, hsz, hP, hK, hD0⟩ := hv
  have hx := B.exec
  have hb := B.bytes
  have hr := B.returns
  have hts := atoms_spec (ws := wsX5_signPull) B.pre
  have hown : s.vm.findClass RX5 = some m.cls := findClass_of_methodNamed B.named
  have hlocks := B.notSynchronized
  subst hsz
  have hD := hD0.self (sz := s.heap.size)
  generalize hAe : va_A (wd_fld_marks cI a_fld a_coef a_mags a_marks fld_wide fld_high fld_band fld_causal marks_n marks_f) s.heap.size = A at hD ⊢
  have hA : ∀ q : Nat, s.heap.size ≤ q → A q := fun q h => by rw [← hAe]; exact Or.inr h
  have hS : va_S A s.heap s.heap [] := va_S.rf
  obtain ⟨H, hH⟩ : ∃ z, z = s.heap := ⟨_, rfl⟩
  have hP : va_P (dC, dI) vwCl (wd_fld_marks cI a_fld a_coef a_mags a_marks fld_wide fld_high fld_band fld_causal marks_n marks_f) H := by rw [hH]; exact hP
  have hS : va_S A s.heap H [] := by rw [hH]; exact va_S.rf
  obtain ⟨g, hg⟩ : ∃ z, F_X5_signPull p1 marks_f = z := ⟨_, rfl⟩
  rw [hg]
  generalize hQe : MQ below (Q_X5_signPull dC dI cI cJ cZ a_fld a_coef a_mags a_marks A fld_wide fld_high fld_band fld_causal marks_n marks_f g) _ s 0 0 A = Q
  rw [← hH]
  clear hH
  have hl := lv_entry ([.ref a_fld, .int p1]) (n := 5) (Nat.le_of_ble_eq_true rfl)
  rw [lg_entry_eq]
  generalize (lg_sl ([.ref a_fld, .int p1]) ++ List.replicate (5 - (lg_sl ([.ref a_fld, .int p1])).length) Slot.unset).toArray = ls at hl ⊢
  have hl : lv_has ls 5 [(0, .ref a_fld), (1, .int p1)] := hl
  unfold F_X5_signPull at hg
  unfold P_X5_signPull at hpre
  refine lv_aload_n hx hb dX5_signPull_0 rfl (lv_at hl 0 rfl) ?_
  refine va_get (D := (dC, dI)) (ci := 4) (v := .ref a_marks) (C := RX5) (T := TX5) (N := 7) hx hb hts iw_X5_signPull_X5 hown hK hP 0 rfl rfl 4 (by decide) (hts (.fieldLink RX5 25 "PlaneBlocks$Field" "marks" "[I") (by decide +kernel)) (fun _ h9 => h9) rfl dX5_signPull_1 ?_
  refine lv_iload_n hx hb dX5_signPull_4 rfl (lv_at hl 1 rfl) ?_
  have h_1 := hpre
  refine va_iald hx hb hK hP 1 0 rfl rfl h_1 dX5_signPull_5 ?_
  refine lv_istore_n (lv' := [(2, .int (marks_f p1.toNatClampNeg)), (0, .ref a_fld), (1, .int p1)]) hx hb dX5_signPull_6 rfl hl (by decide) rfl (fun ls hl => ?_)
  refine lv_iload_n hx hb dX5_signPull_7 rfl (lv_at hl 0 rfl) ?_
  refine lv_iconst (v := 0) hx hb dX5_signPull_8 (by decide) ?_
  refine lv_ishr hx hb dX5_signPull_9 ?_
  refine lv_iconst (v := 3) hx hb dX5_signPull_10 (by decide) ?_
  refine lv_iand hx hb dX5_signPull_11 ?_
  refine lv_iconst (v := 2) hx hb dX5_signPull_12 (by decide) ?_
  refine lv_iload_n hx hb dX5_signPull_13 rfl (lv_at hl 0 rfl) ?_
  refine lv_bipush (v := 7) hx hb dX5_signPull_14 (by decide) ?_
  refine lv_ishr hx hb dX5_signPull_16 ?_
  refine lv_iconst (v := 3) hx hb dX5_signPull_17 (by decide) ?_
  refine lv_iand hx hb dX5_signPull_18 ?_
  refine lv_imul hx hb dX5_signPull_19 ?_
  refine lv_isub hx hb dX5_signPull_20 ?_
  refine lv_istore_n (lv' := [(3, .int ((((marks_f p1.toNatClampNeg) >>> ((0 : Int32) &&& 31)) &&& (3 : Int32)) - ((2 : Int32) * (((marks_f p1.toNatClampNeg) >>> ((7 : Int32) &&& 31)) &&& (3 : Int32))))), (2, .int (marks_f p1.toNatClampNeg)), (0, .ref a_fld), (1, .int p1)]) hx hb dX5_signPull_21 rfl hl (by decide) rfl (fun ls hl => ?_)
  refine lv_iload_n hx hb dX5_signPull_22 rfl (lv_at hl 1 rfl) ?_
  refine lv_iconst (v := 2) hx hb dX5_signPull_23 (by decide) ?_
  refine lv_ishr hx hb dX5_signPull_24 ?_
  refine lv_iconst (v := 3) hx hb dX5_signPull_25 (by decide) ?_
  refine lv_iand hx hb dX5_signPull_26 ?_
  refine lv_iconst (v := 2) hx hb dX5_signPull_27 (by decide) ?_
  refine lv_iload_n hx hb dX5_signPull_28 rfl (lv_at hl 1 rfl) ?_
  refine lv_bipush (v := 9) hx hb dX5_signPull_29 (by decide) ?_
  refine lv_ishr hx hb dX5_signPull_31 ?_
  refine lv_iconst (v := 3) hx hb dX5_signPull_32 (by decide) ?_
  refine lv_iand hx hb dX5_signPull_33 ?_
  refine lv_imul hx hb dX5_signPull_34 ?_
  refine lv_isub hx hb dX5_signPull_35 ?_
  refine lv_istore (lv' := [(4, .int ((((marks_f p1.toNatClampNeg) >>> ((2 : Int32) &&& 31)) &&& (3 : Int32)) - ((2 : Int32) * (((marks_f p1.toNatClampNeg) >>> ((9 : Int32) &&& 31)) &&& (3 : Int32))))), (3, .int ((((marks_f p1.toNatClampNeg) >>> ((0 : Int32) &&& 31)) &&& (3 : Int32)) - ((2 : Int32) * (((marks_f p1.toNatClampNeg) >>> ((7 : Int32) &&& 31)) &&& (3 : Int32))))), (2, .int (marks_f p1.toNatClampNeg)), (0, .ref a_fld), (1, .int p1)]) hx hb dX5_signPull_36 hl (by decide) rfl (fun ls hl => ?_)
  refine lv_iconst (v := 3) hx hb dX5_signPull_38 (by decide) ?_
  refine lv_iload_n hx hb dX5_signPull_39 rfl (lv_at hl 1 rfl) ?_
  have hPc := hP.sub (ws' := (wd_)) [] rfl
  have hDc := hD.sub (ws' := (wd_)) [] (by decide) rfl
  have hFc := va_free (wc := (wd_)) hD hS hA [] rfl
  refine va_calli (va_runS (As := [.int ((((marks_f p1.toNatClampNeg) >>> ((0 : Int32) &&& 31)) &&& (3 : Int32)) - ((2 : Int32) * (((marks_f p1.toNatClampNeg) >>> ((7 : Int32) &&& 31)) &&& (3 : Int32))))]) (rest := [.int (3 : Int32)]) ⟨hx, hb, hml, hown, hts⟩ (c_J6_signum_0f7a4 l dC dI cI cJ cZ  H.size ((((marks_f p1.toNatClampNeg) >>> ((0 : Int32) &&& 31)) &&& (3 : Int32)) - ((2 : Int32) * (((marks_f p1.toNatClampNeg) >>> ((7 : Int32) &&& 31)) &&& (3 : Int32))))) (va_cwS 1 hts gX5_signPull_J6_signum_0f7a4 rfl rfl rfl (by decide +kernel) ⟨Nat.le_of_ble_eq_true rfl, Nat.le_of_ble_eq_true rfl⟩) ⟨fun a U g mk q => by obtain ⟨q0, q1, qP, qK, qD⟩ := q; exact ⟨q0, q1, qP, va_K.moved (u := U) (U := U.calling g mk a) (Vm.Alike.refl U.vm) qK, qD⟩, fun U hU hW => ⟨rfl, by rw [hU], by rw [hU]; exact hPc, va_K.moved hW.alike hK, hDc.weaken (fun _ _ _ _ => trivial)⟩⟩ rfl rfl hl.1 rfl (lv_room (Nat.le_of_ble_eq_true rfl)) dX5_signPull_40 ⟨Nat.le_of_ble_eq_true rfl, Nat.le_of_ble_eq_true rfl⟩) hS (fun q _ h => hFc q h) hFc (fun r u t H1 locs ht hvm hw hB hz1 hk1 hS => ?_)
  obtain ⟨hP1, hK1, hD1⟩ := hB
  rw [ht] at hP1
  obtain ⟨r_2, hr_2⟩ : ∃ z, F_J6_signum_0f7a4 ((((marks_f p1.toNatClampNeg) >>> ((0 : Int32) &&& 31)) &&& (3 : Int32)) - ((2 : Int32) * (((marks_f p1.toNatClampNeg) >>> ((7 : Int32) &&& 31)) &&& (3 : Int32)))) = z := ⟨_, rfl⟩
  try rw [hr_2] at hw
  try rw [hr_2] at hP1
  try rw [hr_2] at hD1
  have hg : (let r_3 := F_J6_signum_0f7a4 ((((marks_f p1.toNatClampNeg) >>> ((2 : Int32) &&& 31)) &&& (3 : Int32)) - ((2 : Int32) * (((marks_f p1.toNatClampNeg) >>> ((9 : Int32) &&& 31)) &&& (3 : Int32)))); ((3 : Int32) * r_2) + r_3) = g := by first | (rw [hr_2] at hg; exact hg) | (subst hr_2; exact hg)
  have hw := hw.symm
  subst hw
  obtain ⟨hP, hD⟩ := va_join (wr := [(a_fld, .inr (4, [.int fld_wide, .int fld_high, .ref a_coef, .ref a_mags, .ref a_marks, .int fld_band, .int fld_causal])), (a_marks, .inl (cI, marks_n, .inl marks_f))]) (w1 := (wd_)) hP hD [] [0, 1] rfl rfl (by decide) (by decide) hk1 hFc hP1 hD1
  have hP : va_P (dC, dI) vwCl (wd_fld_marks cI a_fld a_coef a_mags a_marks fld_wide fld_high fld_band fld_causal marks_n marks_f) H1 := hP.sub [0, 1] rfl
  have hD : va_D A (wd_fld_marks cI a_fld a_coef a_mags a_marks fld_wide fld_high fld_band fld_causal marks_n marks_f) := hD.sub [0, 1] (by decide) rfl
  generalize H1 = H at hP hS ⊢
  refine lv_imul hx hb dX5_signPull_43 ?_
  refine lv_iload hx hb dX5_signPull_44 (lv_at hl 0 rfl) ?_
  have hPc := hP.sub (ws' := (wd_)) [] rfl
  have hDc := hD.sub (ws' := (wd_)) [] (by decide) rfl
  have hFc := va_free (wc := (wd_)) hD hS hA [] rfl
  refine va_calli (va_runS (As := [.int ((((marks_f p1.toNatClampNeg) >>> ((2 : Int32) &&& 31)) &&& (3 : Int32)) - ((2 : Int32) * (((marks_f p1.toNatClampNeg) >>> ((9 : Int32) &&& 31)) &&& (3 : Int32))))]) (rest := [.int ((3 : Int32) * r_2)]) ⟨hx, hb, hml, hown, hts⟩ (c_J6_signum_0f7a4 l dC dI cI cJ cZ  H.size ((((marks_f p1.toNatClampNeg) >>> ((2 : Int32) &&& 31)) &&& (3 : Int32)) - ((2 : Int32) * (((marks_f p1.toNatClampNeg) >>> ((9 : Int32) &&& 31)) &&& (3 : Int32))))) (va_cwS 1 hts gX5_signPull_J6_signum_0f7a4 rfl rfl rfl (by decide +kernel) ⟨Nat.le_of_ble_eq_true rfl, Nat.le_of_ble_eq_true rfl⟩) ⟨fun a U g mk q => by obtain ⟨q0, q1, qP, qK, qD⟩ := q; exact ⟨q0, q1, qP, va_K.moved (u := U) (U := U.calling g mk a) (Vm.Alike.refl U.vm) qK, qD⟩, fun U hU hW => ⟨rfl, by rw [hU], by rw [hU]; exact hPc, va_K.moved hW.alike hK, hDc.weaken (fun _ _ _ _ => trivial)⟩⟩ rfl rfl hl.1 rfl (lv_room (Nat.le_of_ble_eq_true rfl)) dX5_signPull_46 ⟨Nat.le_of_ble_eq_true rfl, Nat.le_of_ble_eq_true rfl⟩) hS (fun q _ h => hFc q h) hFc (fun r u t H1 locs ht hvm hw hB hz1 hk1 hS => ?_)
  obtain ⟨hP1, hK1, hD1⟩ := hB
  rw [ht] at hP1
  obtain ⟨r_3, hr_3⟩ : ∃ z, F_J6_signum_0f7a4 ((((marks_f p1.toNatClampNeg) >>> ((2 : Int32) &&& 31)) &&& (3 : Int32)) - ((2 : Int32) * (((marks_f p1.toNatClampNeg) >>> ((9 : Int32) &&& 31)) &&& (3 : Int32)))) = z := ⟨_, rfl⟩
  try rw [hr_3] at hw
  try rw [hr_3] at hP1
  try rw [hr_3] at hD1
  have hg : (((3 : Int32) * r_2) + r_3) = g := by first | (rw [hr_3] at hg; exact hg) | (subst hr_3; exact hg)
  have hw := hw.symm
  subst hw
  obtain ⟨hP, hD⟩ := va_join (wr := [(a_fld, .inr (4, [.int fld_wide, .int fld_high, .ref a_coef, .ref a_mags, .ref a_marks, .int fld_band, .int fld_causal])), (a_marks, .inl (cI, marks_n, .inl marks_f))]) (w1 := (wd_)) hP hD [] [0, 1] rfl rfl (by decide) (by decide) hk1 hFc hP1 hD1
  have hP : va_P (dC, dI) vwCl (wd_fld_marks cI a_fld a_coef a_mags a_marks fld_wide fld_high fld_band fld_causal marks_n marks_f) H1 := hP.sub [0, 1] rfl
  have hD : va_D A (wd_fld_marks cI a_fld a_coef a_mags a_marks fld_wide fld_high fld_band fld_causal marks_n marks_f) := hD.sub [0, 1] (by decide) rfl
  generalize H1 = H at hP hS ⊢
  refine lv_iadd hx hb dX5_signPull_49 ?_
  subst hg
  rw [← hQe]
  exact W.iret (v := (((3 : Int32) * r_2) + r_3)) hx hb hr (fun t ht hW => ⟨⟨(((3 : Int32) * r_2) + r_3), (), rfl, rfl, by rw [ht]; exact hP, va_K.moved hW.alike hK, hD⟩, hS.F ht⟩) hS.2.2 dX5_signPull_50
abbrev rm_X5_againContext : Room := { frames := 0, cells := 0, slots := 0, locals := 0 }
abbrev Q_X5_againContext (dC : Nat → ClassId) (dI : Nat → Nat → Nat) (cI cJ cZ : ClassId) (a_fld : Nat) (a_coef : Nat) (a_mags : Nat) (a_marks : Nat) (A : Nat → Prop) (fld_wide : Int32) (fld_high : Int32) (fld_band : Int32) (fld_causal : Int32) (marks_n : Nat) (marks_f : Nat → Int32) (g : Int32) : Array Value → State → Outcome → State → Prop := va_Qi (fun (r : Int32) (_ : Unit) => r = g) (fun u t => va_P (dC, dI) vwCl (wd_fld_marks cI a_fld a_coef a_mags a_marks fld_wide fld_high fld_band fld_causal marks_n marks_f) t.heap ∧ va_K (dC, dI) vwCl [(cI, .int), (cJ, .long), (cZ, .boolean)] t ∧ va_D A (wd_fld_marks cI a_fld a_coef a_mags a_marks fld_wide fld_high fld_band fld_causal marks_n marks_f)) A
theorem iw_X5_againContext_X5 : ∀ w ∈ u_ws RX5 TX5 7, w ∈ wsX5_againContext := by decide +kernel
set_option maxHeartbeats 4000000 in
set_option maxRecDepth 100000 in
theorem c_X5_againContext (l : Launch) (dC : Nat → ClassId) (dI : Nat → Nat → Nat) (cI cJ cZ : ClassId) (a_fld : Nat) (a_coef : Nat) (a_mags : Nat) (a_marks : Nat) (sz : Nat) (fld_wide : Int32) (fld_high : Int32) (fld_band : Int32) (fld_causal : Int32) (marks_n : Nat) (marks_f : Nat → Int32) (p1 : Int32) (hpre : P_X5_againContext p1 marks_n) : Met l yX5_againContext wsX5_againContext rm_X5_againContext (va_Pc [.ref a_fld, .int p1] (fun U => U.heap.size = sz ∧ va_P (dC, dI) vwCl (wd_fld_marks cI a_fld a_coef a_mags a_marks fld_wide fld_high fld_band fld_causal marks_n marks_f) U.heap ∧ va_K (dC, dI) vwCl [(cI, .int), (cJ, .long), (cZ, .boolean)] U ∧ va_D (fun _ => True) (wd_fld_marks cI a_fld a_coef a_mags a_marks fld_wide fld_high fld_band fld_causal marks_n marks_f))) (Q_X5_againContext dC dI cI cJ cZ a_fld a_coef a_mags a_marks (va_A (wd_fld_marks cI a_fld a_coef a_mags a_marks fld_wide fld_high fld_band fld_causal marks_n marks_f) sz) fld_wide fld_high fld_band fld_causal marks_n marks_f (F_X5_againContext p1 marks_f)) 0 0 (va_A (wd_fld_marks cI a_fld a_coef a_mags a_marks fld_wide fld_high fld_band fld_causal marks_n marks_f) sz) := by
  refine Met.ofW (cc := cX5_againContext) (maxL := 2) (ret := (some .int)) (by decide) rfl ?_
  intro p e s m args below meth c s₁ B hml hv
  obtain ⟨rfl, hsz, hP, hK, hD0⟩ := hv
  have hx := B.exec
  have hb := B.bytes
  have hr := B.returns
  have hts := atoms_spec (ws := wsX5_againContext) B.pre
  have hown : s.vm.findClass RX5 = some m.cls := findClass_of_methodNamed B.named
  have hlocks := B.notSynchronized
  subst hsz
  have hD := hD0.self (sz := s.heap.size)
  generalize hAe : va_A (wd_fld_marks cI a_fld a_coef a_mags a_marks fld_wide fld_high fld_band fld_causal marks_n marks_f) s.heap.size = A at hD ⊢
  have hA : ∀ q : Nat, s.heap.size ≤ q → A q := fun q h => by rw [← hAe]; exact Or.inr h
  have hS : va_S A s.heap s.heap [] := va_S.rf
  obtain ⟨H, hH⟩ : ∃ z, z = s.heap := ⟨_, rfl⟩
  have hP : va_P (dC, dI) vwCl (wd_fld_marks cI a_fld a_coef a_mags a_marks fld_wide fld_high fld_band fld_causal marks_n marks_f) H := by rw [hH]; exact hP
  have hS : va_S A s.heap H [] := by rw [hH]; exact va_S.rf
  obtain ⟨g, hg⟩ : ∃ z, F_X5_againContext p1 marks_f = z := ⟨_, rfl⟩
  rw [hg]
  generalize hQe : MQ below (Q_X5_againContext dC dI cI cJ cZ a_fld a_coef a_mags a_marks A fld_wide fld_high fld_band fld_causal marks_n marks_f g) _ s 0 0 A = Q
  rw [← hH]
  clear hH
  have hl := lv_entry ([.ref a_fld, .int p1]) (n := 2) (Nat.le_of_ble_eq_true rfl)
  rw [lg_entry_eq]
  generalize (lg_sl ([.ref a_fld, .int p1]) ++ List.replicate (2 - (lg_sl ([.ref a_fld, .int p1])).length) Slot.unset).toArray = ls at hl ⊢
  have hl : lv_has ls 2 [(0, .ref a_fld), (1, .int p1)] := hl
  unfold F_X5_againContext at hg
  unfold P_X5_againContext at hpre
  refine lv_aload_n hx hb dX5_againContext_0 rfl (lv_at hl 0 rfl) ?_
  refine va_get (D := (dC, dI)) (ci := 4) (v := .ref a_marks) (C := RX5) (T := TX5) (N := 7) hx hb hts iw_X5_againContext_X5 hown hK hP 0 rfl rfl 4 (by decide) (hts (.fieldLink RX5 25 "PlaneBlocks$Field" "marks" "[I") (by decide +kernel)) (fun _ h9 => h9) rfl dX5_againContext_1 ?_
  refine lv_iload_n hx hb dX5_againContext_4 rfl (lv_at hl 1 rfl) ?_
  have h_1 := hpre
  refine va_iald hx hb hK hP 1 0 rfl rfl h_1 dX5_againContext_5 ?_
  refine lv_sipush (v := 16384) hx hb dX5_againContext_6 (by decide) ?_
  refine lv_iand hx hb dX5_againContext_9 ?_
  refine lv_if_eq (tgt := 16) hx hb dX5_againContext_10 (by decide) (fun c_2 => ?_) (fun c_2 => ?_)
  · rw [if_pos c_2] at hg
    refine lv_aload_n hx hb dX5_againContext_16 rfl (lv_at hl 0 rfl) ?_
    refine va_get (D := (dC, dI)) (ci := 4) (v := .ref a_marks) (C := RX5) (T := TX5) (N := 7) hx hb hts iw_X5_againContext_X5 hown hK hP 0 rfl rfl 4 (by decide) (hts (.fieldLink RX5 25 "PlaneBlocks$Field" "marks" "[I") (by decide +kernel)) (fun _ h9 => h9) rfl dX5_againContext_17 ?_
    refine lv_iload_n hx hb dX5_againContext_20 rfl (lv_at hl 1 rfl) ?_
    refine va_iald hx hb hK hP 1 0 rfl rfl h_1 dX5_againContext_21 ?_
    refine lv_bipush (v := 127) hx hb dX5_againContext_22 (by decide) ?_
    refine lv_iand hx hb dX5_againContext_24 ?_
    refine lv_if_eq (tgt := 33) hx hb dX5_againContext_25 (by decide) (fun c_4 => ?_) (fun c_4 => ?_)
    · rw [if_pos c_4] at hg
      refine lv_bipush (v := 14) hx hb dX5_againContext_33 (by decide) ?_
      subst hg
      rw [← hQe]
      exact W.iret (v := (14 : Int32)) hx hb hr (fun t ht hW => ⟨⟨(14 : Int32), (), rfl, rfl, by rw [ht]; exact hP, va_K.moved hW.alike hK, hD⟩, hS.F ht⟩) hS.2.2 dX5_againContext_35
    · rw [if_neg c_4] at hg
      refine lv_bipush (v := 15) hx hb dX5_againContext_28 (by decide) ?_
      refine lv_goto (tgt := 35) hx hb dX5_againContext_30 (by decide) ?_
      subst hg
      rw [← hQe]
      exact W.iret (v := (15 : Int32)) hx hb hr (fun t ht hW => ⟨⟨(15 : Int32), (), rfl, rfl, by rw [ht]; exact hP, va_K.moved hW.alike hK, hD⟩, hS.F ht⟩) hS.2.2 dX5_againContext_35
  · rw [if_neg c_2] at hg
    refine lv_bipush (v := 16) hx hb dX5_againContext_13 (by decide) ?_
    subst hg
    rw [← hQe]
    exact W.iret (v := (16 : Int32)) hx hb hr (fun t ht hW => ⟨⟨(16 : Int32), (), rfl, rfl, by rw [ht]; exact hP, va_K.moved hW.alike hK, hD⟩, hS.F ht⟩) hS.2.2 dX5_againContext_15

abbrev wd_plan (a_plan : Nat) (a_reaches : Nat) (a_gains : Nat) (plan_planes : Int32) (plan_passes : Int32) (plan_segments : Int32) (plan_style : Int32) (plan_firstOfSegment : Int32) : va_W := [(a_plan, .inr (5, [.ref a_reaches, .ref a_gains, .int plan_planes, .int plan_passes, .int plan_segments, .int plan_style, .int plan_firstOfSegment]))]
abbrev rm_X6_lay : Room := { frames := 0, cells := 0, slots := 0, locals := 0 }
abbrev Q_X6_lay (dC : Nat → ClassId) (dI : Nat → Nat → Nat) (cI cJ cZ : ClassId) (a_plan : Nat) (a_reaches : Nat) (a_gains : Nat) (A : Nat → Prop) (plan_planes : Int32) (plan_passes : Int32) (plan_segments : Int32) (plan_style : Int32) (plan_firstOfSegment : Int32) (g : (Int32 × Int32 × Int32 × Int32 × Int32)) : Array Value → State → Outcome → State → Prop := va_Qv (fun _ : Unit => True) (fun u t => va_P (dC, dI) vwCl (wd_plan a_plan a_reaches a_gains g.1 g.2.1 g.2.2.1 g.2.2.2.1 g.2.2.2.2) t.heap ∧ va_K (dC, dI) vwCl [(cI, .int), (cJ, .long), (cZ, .boolean)] t ∧ va_D A (wd_plan a_plan a_reaches a_gains g.1 g.2.1 g.2.2.1 g.2.2.2.1 g.2.2.2.2)) A
theorem iw_X6_lay_X6 : ∀ w ∈ u_ws RX6 TX6 7, w ∈ wsX6_lay := by decide +kernel
set_option maxHeartbeats 4000000 in
set_option maxRecDepth 100000 in
theorem c_X6_lay (l : Launch) (dC : Nat → ClassId) (dI : Nat → Nat → Nat) (cI cJ cZ : ClassId) (a_plan : Nat) (a_reaches : Nat) (a_gains : Nat) (sz : Nat) (plan_planes : Int32) (plan_passes : Int32) (plan_segments : Int32) (plan_style : Int32) (plan_firstOfSegment : Int32) (p1 : Int32) (p2 : Int32) : Met l yX6_lay wsX6_lay rm_X6_lay (va_Pc [.ref a_plan, .int p1, .int p2] (fun U => U.heap.size = sz ∧ va_P (dC, dI) vwCl (wd_plan a_plan a_reaches a_gains plan_planes plan_passes plan_segments plan_style plan_firstOfSegment) U.heap ∧ va_K (dC, dI) vwCl [(cI, .int), (cJ, .long), (cZ, .boolean)] U ∧ va_D (fun _ => True) (wd_plan a_plan a_reaches a_gains plan_planes plan_passes plan_segments plan_style plan_firstOfSegment))) (Q_X6_lay dC dI cI cJ cZ a_plan a_reaches a_gains (va_A (wd_plan a_plan a_reaches a_gains plan_planes plan_passes plan_segments plan_style plan_firstOfSegment) sz) plan_planes plan_passes plan_segments plan_style plan_firstOfSegment (F_X6_lay p1 p2)) 0 0 (va_A (wd_plan a_plan a_reaches a_gains plan_planes plan_passes plan_segments plan_style plan_firstOfSegment) sz) := by
  refine Met.ofW (cc := cX6_lay) (maxL := 3) (ret := none) (by decide) rfl ?_
  intro p e s m args below meth c s₁ B hml hv
  obtain ⟨rfl, hsz, hP, hK, hD0⟩ := hv
  have hx := B.exec
  have hb := B.bytes
  have hr := B.returns
  have hts := atoms_spec (ws := wsX6_lay) B.pre
  have hown : s.vm.findClass RX6 = some m.cls := findClass_of_methodNamed B.named
  have hlocks := B.notSynchronized
  subst hsz
  have hD := hD0.self (sz := s.heap.size)
  generalize hAe : va_A (wd_plan a_plan a_reaches a_gains plan_planes plan_passes plan_segments plan_style plan_firstOfSegment) s.heap.size = A at hD ⊢
  have hA : ∀ q : Nat, s.heap.size ≤ q → A q := fun q h => by rw [← hAe]; exact Or.inr h
  have hS : va_S A s.heap s.heap [] := va_S.rf
  obtain ⟨H, hH⟩ : ∃ z, z = s.heap := ⟨_, rfl⟩
  have hP : va_P (dC, dI) vwCl (wd_plan a_plan a_reaches a_gains plan_planes plan_passes plan_segments plan_style plan_firstOfSegment) H := by rw [hH]; exact hP
  have hS : va_S A s.heap H [] := by rw [hH]; exact va_S.rf
  obtain ⟨g, hg⟩ : ∃ z, F_X6_lay p1 p2 = z := ⟨_, rfl⟩
  rw [hg]
  generalize hQe : MQ below (Q_X6_lay dC dI cI cJ cZ a_plan a_reaches a_gains A plan_planes plan_passes plan_segments plan_style plan_firstOfSegment g) _ s 0 0 A = Q
  rw [← hH]
  clear hH
  have hl := lv_entry ([.ref a_plan, .int p1, .int p2]) (n := 3) (Nat.le_of_ble_eq_true rfl)
  rw [lg_entry_eq]
  generalize (lg_sl ([.ref a_plan, .int p1, .int p2]) ++ List.replicate (3 - (lg_sl ([.ref a_plan, .int p1, .int p2])).length) Slot.unset).toArray = ls at hl ⊢
  have hl : lv_has ls 3 [(0, .ref a_plan), (1, .int p1), (2, .int p2)] := hl
  unfold F_X6_lay at hg
  refine lv_aload_n hx hb dX6_lay_0 rfl (lv_at hl 0 rfl) ?_
  refine lv_iload_n hx hb dX6_lay_1 rfl (lv_at hl 1 rfl) ?_
  refine va_put (D := (dC, dI)) (ci := 5) (v := .int p1) (ty := .int) (C := RX6) (T := TX6) (N := 7) hx hb hts iw_X6_lay_X6 tyX6 tyX6_ok nmX6 hown hK hP hD hS 0 rfl rfl 5 (by decide) (hts (.fieldLink RX6 19 "PlaneBlocks$Plan" "style" "I") (by decide +kernel)) (fun _ h9 => h9) rfl (by decide +kernel) rfl rfl (Nat.le_of_ble_eq_true rfl) dX6_lay_2 (fun H locs hP hD hS => ?_)
  have hP : va_P (dC, dI) vwCl (wd_plan a_plan a_reaches a_gains plan_planes plan_passes plan_segments p1 plan_firstOfSegment) H := hP
  have hD : va_D A (wd_plan a_plan a_reaches a_gains plan_planes plan_passes plan_segments p1 plan_firstOfSegment) := hD
  refine lv_aload_n hx hb dX6_lay_5 rfl (lv_at hl 0 rfl) ?_
  refine lv_iload_n hx hb dX6_lay_6 rfl (lv_at hl 2 rfl) ?_
  refine va_put (D := (dC, dI)) (ci := 5) (v := .int p2) (ty := .int) (C := RX6) (T := TX6) (N := 7) hx hb hts iw_X6_lay_X6 tyX6 tyX6_ok nmX6 hown hK hP hD hS 0 rfl rfl 2 (by decide) (hts (.fieldLink RX6 23 "PlaneBlocks$Plan" "planes" "I") (by decide +kernel)) (fun _ h9 => h9) rfl (by decide +kernel) rfl rfl (Nat.le_of_ble_eq_true rfl) dX6_lay_7 (fun H locs hP hD hS => ?_)
  have hP : va_P (dC, dI) vwCl (wd_plan a_plan a_reaches a_gains p2 plan_passes plan_segments p1 plan_firstOfSegment) H := hP
  have hD : va_D A (wd_plan a_plan a_reaches a_gains p2 plan_passes plan_segments p1 plan_firstOfSegment) := hD
  refine lv_aload_n hx hb dX6_lay_10 rfl (lv_at hl 0 rfl) ?_
  refine lv_iload_n hx hb dX6_lay_11 rfl (lv_at hl 2 rfl) ?_
  obtain ⟨j_2, hj_2⟩ : ∃ z, J_X6_lay_j_2 p2 = z := ⟨_, rfl⟩
  have hg : (p2, j_2, (0 : Int32), p1, (0 : Int32)) = g := by first | (rw [hj_2] at hg; exact hg) | (subst hj_2; exact hg)
  have hJ_j_2 : ∀ (H : Heap) (locs : List Loc) (ls : Array Slot), va_P (dC, dI) vwCl (wd_plan a_plan a_reaches a_gains p2 plan_passes plan_segments p1 plan_firstOfSegment) H → va_D A (wd_plan a_plan a_reaches a_gains p2 plan_passes plan_segments p1 plan_firstOfSegment) → va_S A s.heap H locs → lv_has ls 3 [(0, .ref a_plan), (1, .int p1), (2, .int p2)] → W p l e (headSpec wsX6_lay rm_X6_lay).room s m ([.ref a_plan, .int p1, .int p2] : List Value).toArray below meth c H locs 0 0 Q (F0 m 24 ls [.int j_2, .ref a_plan]) := by
    intro H locs ls hP hD hS hl
    refine va_put (D := (dC, dI)) (ci := 5) (v := .int j_2) (ty := .int) (C := RX6) (T := TX6) (N := 7) hx hb hts iw_X6_lay_X6 tyX6 tyX6_ok nmX6 hown hK hP hD hS 0 rfl rfl 3 (by decide) (hts (.fieldLink RX6 26 "PlaneBlocks$Plan" "passes" "I") (by decide +kernel)) (fun _ h9 => h9) rfl (by decide +kernel) rfl rfl (Nat.le_of_ble_eq_true rfl) dX6_lay_24 (fun H locs hP hD hS => ?_)
    have hP : va_P (dC, dI) vwCl (wd_plan a_plan a_reaches a_gains p2 j_2 plan_segments p1 plan_firstOfSegment) H := hP
    have hD : va_D A (wd_plan a_plan a_reaches a_gains p2 j_2 plan_segments p1 plan_firstOfSegment) := hD
    refine lv_aload_n hx hb dX6_lay_27 rfl (lv_at hl 0 rfl) ?_
    refine lv_iconst (v := 0) hx hb dX6_lay_28 (by decide) ?_
    refine va_put (D := (dC, dI)) (ci := 5) (v := .int (0 : Int32)) (ty := .int) (C := RX6) (T := TX6) (N := 7) hx hb hts iw_X6_lay_X6 tyX6 tyX6_ok nmX6 hown hK hP hD hS 0 rfl rfl 4 (by decide) (hts (.fieldLink RX6 29 "PlaneBlocks$Plan" "segments" "I") (by decide +kernel)) (fun _ h9 => h9) rfl (by decide +kernel) rfl rfl (Nat.le_of_ble_eq_true rfl) dX6_lay_29 (fun H locs hP hD hS => ?_)
    have hP : va_P (dC, dI) vwCl (wd_plan a_plan a_reaches a_gains p2 j_2 (0 : Int32) p1 plan_firstOfSegment) H := hP
    have hD : va_D A (wd_plan a_plan a_reaches a_gains p2 j_2 (0 : Int32) p1 plan_firstOfSegment) := hD
    refine lv_aload_n hx hb dX6_lay_32 rfl (lv_at hl 0 rfl) ?_
    refine lv_iconst (v := 0) hx hb dX6_lay_33 (by decide) ?_
    refine va_put (D := (dC, dI)) (ci := 5) (v := .int (0 : Int32)) (ty := .int) (C := RX6) (T := TX6) (N := 7) hx hb hts iw_X6_lay_X6 tyX6 tyX6_ok nmX6 hown hK hP hD hS 0 rfl rfl 6 (by decide) (hts (.fieldLink RX6 32 "PlaneBlocks$Plan" "firstOfSegment" "I") (by decide +kernel)) (fun _ h9 => h9) rfl (by decide +kernel) rfl rfl (Nat.le_of_ble_eq_true rfl) dX6_lay_34 (fun H locs hP hD hS => ?_)
    have hP : va_P (dC, dI) vwCl (wd_plan a_plan a_reaches a_gains p2 j_2 (0 : Int32) p1 (0 : Int32)) H := hP
    have hD : va_D A (wd_plan a_plan a_reaches a_gains p2 j_2 (0 : Int32) p1 (0 : Int32)) := hD
    subst hg
    rw [← hQe]
    exact W.vret hx hb hr (fun t ht hW => ⟨⟨(), rfl, trivial, by rw [ht]; exact hP, va_K.moved hW.alike hK, hD⟩, hS.F ht⟩) hS.2.2 dX6_lay_37
  have hg : (if p2 = (0 : Int32) then (0 : Int32) else (((3 : Int32) * p2) - (2 : Int32))) = j_2 := by rw [← hj_2]; rfl
  clear hj_2
  refine lv_if_ne (tgt := 19) hx hb dX6_lay_12 (by decide) (fun c_1 => ?_) (fun c_1 => ?_)
  · rw [if_neg c_1] at hg
    refine lv_iconst (v := 3) hx hb dX6_lay_19 (by decide) ?_
    refine lv_iload_n hx hb dX6_lay_20 rfl (lv_at hl 2 rfl) ?_
    refine lv_imul hx hb dX6_lay_21 ?_
    refine lv_iconst (v := 2) hx hb dX6_lay_22 (by decide) ?_
    refine lv_isub hx hb dX6_lay_23 ?_
    rw [← hg] at hJ_j_2
    exact hJ_j_2 _ _ _ hP hD hS (lv_sub hl [0, 1, 2] rfl)
  · rw [if_pos c_1] at hg
    refine lv_iconst (v := 0) hx hb dX6_lay_15 (by decide) ?_
    refine lv_goto (tgt := 24) hx hb dX6_lay_16 (by decide) ?_
    rw [← hg] at hJ_j_2
    exact hJ_j_2 _ _ _ hP hD hS (lv_sub hl [0, 1, 2] rfl)
abbrev rm_X6_kindOf : Room := { frames := 0, cells := 0, slots := 0, locals := 0 }
abbrev Q_X6_kindOf (dC : Nat → ClassId) (dI : Nat → Nat → Nat) (cI cJ cZ : ClassId) (a_plan : Nat) (a_reaches : Nat) (a_gains : Nat) (A : Nat → Prop) (plan_planes : Int32) (plan_passes : Int32) (plan_segments : Int32) (plan_style : Int32) (plan_firstOfSegment : Int32) (g : Int32) : Array Value → State → Outcome → State → Prop := va_Qi (fun (r : Int32) (_ : Unit) => r = g) (fun u t => va_P (dC, dI) vwCl (wd_plan a_plan a_reaches a_gains plan_planes plan_passes plan_segments plan_style plan_firstOfSegment) t.heap ∧ va_K (dC, dI) vwCl [(cI, .int), (cJ, .long), (cZ, .boolean)] t ∧ va_D A (wd_plan a_plan a_reaches a_gains plan_planes plan_passes plan_segments plan_style plan_firstOfSegment)) A
set_option maxHeartbeats 4000000 in
set_option maxRecDepth 100000 in
theorem c_X6_kindOf (l : Launch) (dC : Nat → ClassId) (dI : Nat → Nat → Nat) (cI cJ cZ : ClassId) (a_plan : Nat) (a_reaches : Nat) (a_gains : Nat) (sz : Nat) (plan_planes : Int32) (plan_passes : Int32) (plan_segments : Int32) (plan_style : Int32) (plan_firstOfSegment : Int32) (p1 : Int32) : Met l yX6_kindOf wsX6_kindOf rm_X6_kindOf (va_Pc [.ref a_plan, .int p1] (fun U => U.heap.size = sz ∧ va_P (dC, dI) vwCl (wd_plan a_plan a_reaches a_gains plan_planes plan_passes plan_segments plan_style plan_firstOfSegment) U.heap ∧ va_K (dC, dI) vwCl [(cI, .int), (cJ, .long), (cZ, .boolean)] U ∧ va_D (fun _ => True) (wd_plan a_plan a_reaches a_gains plan_planes plan_passes plan_segments plan_style plan_firstOfSegment))) (Q_X6_kindOf dC dI cI cJ cZ a_plan a_reaches a_gains (va_A (wd_plan a_plan a_reaches a_gains plan_planes plan_passes plan_segments plan_style plan_firstOfSegment) sz) plan_planes plan_passes plan_segments plan_style plan_firstOfSegment (F_X6_kindOf p1)) 0 0 (va_A (wd_plan a_plan a_reaches a_gains plan_planes plan_passes plan_segments plan_style plan_firstOfSegment) sz) := by
  refine Met.ofW (cc := cX6_kindOf) (maxL := 2) (ret := (some .int)) (by decide) rfl ?_
  intro p e s m args below meth c s₁ B hml hv
  obtain ⟨rfl, hsz, hP, hK, hD0⟩ := hv
  have hx := B.exec
  have hb := B.bytes
  have hr := B.returns
  have hts := atoms_spec (ws := wsX6_kindOf) B.pre
  have hown : s.vm.findClass RX6 = some m.cls := findClass_of_methodNamed B.named
  have hlocks := B.notSynchronized
  subst hsz
  have hD := hD0.self (sz := s.heap.size)
  generalize hAe : va_A (wd_plan a_plan a_reaches a_gains plan_planes plan_passes plan_segments plan_style plan_firstOfSegment) s.heap.size = A at hD ⊢
  have hA : ∀ q : Nat, s.heap.size ≤ q → A q := fun q h => by rw [← hAe]; exact Or.inr h
  have hS : va_S A s.heap s.heap [] := va_S.rf
  obtain ⟨H, hH⟩ : ∃ z, z = s.heap := ⟨_, rfl⟩
  have hP : va_P (dC, dI) vwCl (wd_plan a_plan a_reaches a_gains plan_planes plan_passes plan_segments plan_style plan_firstOfSegment) H := by rw [hH]; exact hP
  have hS : va_S A s.heap H [] := by rw [hH]; exact va_S.rf
  obtain ⟨g, hg⟩ : ∃ z, F_X6_kindOf p1 = z := ⟨_, rfl⟩
  rw [hg]
  generalize hQe : MQ below (Q_X6_kindOf dC dI cI cJ cZ a_plan a_reaches a_gains A plan_planes plan_passes plan_segments plan_style plan_firstOfSegment g) _ s 0 0 A = Q
  rw [← hH]
  clear hH
  have hl := lv_entry ([.ref a_plan, .int p1]) (n := 2) (Nat.le_of_ble_eq_true rfl)
  rw [lg_entry_eq]
  generalize (lg_sl ([.ref a_plan, .int p1]) ++ List.replicate (2 - (lg_sl ([.ref a_plan, .int p1])).length) Slot.unset).toArray = ls at hl ⊢
  have hl : lv_has ls 2 [(0, .ref a_plan), (1, .int p1)] := hl
  unfold F_X6_kindOf at hg
  refine lv_iload_n hx hb dX6_kindOf_0 rfl (lv_at hl 1 rfl) ?_
  refine lv_iconst (v := 2) hx hb dX6_kindOf_1 (by decide) ?_
  refine lv_iadd hx hb dX6_kindOf_2 ?_
  refine lv_iconst (v := 3) hx hb dX6_kindOf_3 (by decide) ?_
  refine lv_irem hx hb dX6_kindOf_4 (by decide) ?_
  subst hg
  rw [← hQe]
  exact W.iret (v := ((p1 + (2 : Int32)) - (p1 + (2 : Int32)) / (3 : Int32) * (3 : Int32))) hx hb hr (fun t ht hW => ⟨⟨((p1 + (2 : Int32)) - (p1 + (2 : Int32)) / (3 : Int32) * (3 : Int32)), (), rfl, rfl, by rw [ht]; exact hP, va_K.moved hW.alike hK, hD⟩, hS.F ht⟩) hS.2.2 dX6_kindOf_5
abbrev rm_X6_planeOf : Room := { frames := 0, cells := 0, slots := 0, locals := 0 }
abbrev Q_X6_planeOf (dC : Nat → ClassId) (dI : Nat → Nat → Nat) (cI cJ cZ : ClassId) (a_plan : Nat) (a_reaches : Nat) (a_gains : Nat) (A : Nat → Prop) (plan_planes : Int32) (plan_passes : Int32) (plan_segments : Int32) (plan_style : Int32) (plan_firstOfSegment : Int32) (g : Int32) : Array Value → State → Outcome → State → Prop := va_Qi (fun (r : Int32) (_ : Unit) => r = g) (fun u t => va_P (dC, dI) vwCl (wd_plan a_plan a_reaches a_gains plan_planes plan_passes plan_segments plan_style plan_firstOfSegment) t.heap ∧ va_K (dC, dI) vwCl [(cI, .int), (cJ, .long), (cZ, .boolean)] t ∧ va_D A (wd_plan a_plan a_reaches a_gains plan_planes plan_passes plan_segments plan_style plan_firstOfSegment)) A
theorem iw_X6_planeOf_X6 : ∀ w ∈ u_ws RX6 TX6 7, w ∈ wsX6_planeOf := by decide +kernel
set_option maxHeartbeats 4000000 in
set_option maxRecDepth 100000 in
theorem c_X6_planeOf (l : Launch) (dC : Nat → ClassId) (dI : Nat → Nat → Nat) (cI cJ cZ : ClassId) (a_plan : Nat) (a_reaches : Nat) (a_gains : Nat) (sz : Nat) (plan_planes : Int32) (plan_passes : Int32) (plan_segments : Int32) (plan_style : Int32) (plan_firstOfSegment : Int32) (p1 : Int32) : Met l yX6_planeOf wsX6_planeOf rm_X6_planeOf (va_Pc [.ref a_plan, .int p1] (fun U => U.heap.size = sz ∧ va_P (dC, dI) vwCl (wd_plan a_plan a_reaches a_gains plan_planes plan_passes plan_segments plan_style plan_firstOfSegment) U.heap ∧ va_K (dC, dI) vwCl [(cI, .int), (cJ, .long), (cZ, .boolean)] U ∧ va_D (fun _ => True) (wd_plan a_plan a_reaches a_gains plan_planes plan_passes plan_segments plan_style plan_firstOfSegment))) (Q_X6_planeOf dC dI cI cJ cZ a_plan a_reaches a_gains (va_A (wd_plan a_plan a_reaches a_gains plan_planes plan_passes plan_segments plan_style plan_firstOfSegment) sz) plan_planes plan_passes plan_segments plan_style plan_firstOfSegment (F_X6_planeOf p1 plan_planes)) 0 0 (va_A (wd_plan a_plan a_reaches a_gains plan_planes plan_passes plan_segments plan_style plan_firstOfSegment) sz) := by
  refine Met.ofW (cc := cX6_planeOf) (maxL := 2) (ret := (some .int)) (by decide) rfl ?_
  intro p e s m args below meth c s₁ B hml hv
  obtain ⟨rfl, hsz, hP, hK, hD0⟩ := hv
  have hx := B.exec
  have hb := B.bytes
  have hr := B.returns
  have hts := atoms_spec (ws := wsX6_planeOf) B.pre
  have hown : s.vm.findClass RX6 = some m.cls := findClass_of_methodNamed B.named
  have hlocks := B.notSynchronized
  subst hsz
  have hD := hD0.self (sz := s.heap.size)
  generalize hAe : va_A (wd_plan a_plan a_reaches a_gains plan_planes plan_passes plan_segments plan_style plan_firstOfSegment) s.heap.size = A at hD ⊢
  have hA : ∀ q : Nat, s.heap.size ≤ q → A q := fun q h => by rw [← hAe]; exact Or.inr h
  have hS : va_S A s.heap s.heap [] := va_S.rf
  obtain ⟨H, hH⟩ : ∃ z, z = s.heap := ⟨_, rfl⟩
  have hP : va_P (dC, dI) vwCl (wd_plan a_plan a_reaches a_gains plan_planes plan_passes plan_segments plan_style plan_firstOfSegment) H := by rw [hH]; exact hP
  have hS : va_S A s.heap H [] := by rw [hH]; exact va_S.rf
  obtain ⟨g, hg⟩ : ∃ z, F_X6_planeOf p1 plan_planes = z := ⟨_, rfl⟩
  rw [hg]
  generalize hQe : MQ below (Q_X6_planeOf dC dI cI cJ cZ a_plan a_reaches a_gains A plan_planes plan_passes plan_segments plan_style plan_firstOfSegment g) _ s 0 0 A = Q
  rw [← hH]
  clear hH
  have hl := lv_entry ([.ref a_plan, .int p1]) (n := 2) (Nat.le_of_ble_eq_true rfl)
  rw [lg_entry_eq]
  generalize (lg_sl ([.ref a_plan, .int p1]) ++ List.replicate (2 - (lg_sl ([.ref a_plan, .int p1])).length) Slot.unset).toArray = ls at hl ⊢
  have hl : lv_has ls 2 [(0, .ref a_plan), (1, .int p1)] := hl
  unfold F_X6_planeOf at hg
  refine lv_aload_n hx hb dX6_planeOf_0 rfl (lv_at hl 0 rfl) ?_
  refine va_get (D := (dC, dI)) (ci := 5) (v := .int plan_planes) (C := RX6) (T := TX6) (N := 7) hx hb hts iw_X6_planeOf_X6 hown hK hP 0 rfl rfl 2 (by decide) (hts (.fieldLink RX6 23 "PlaneBlocks$Plan" "planes" "I") (by decide +kernel)) (fun _ h9 => h9) rfl dX6_planeOf_1 ?_
  refine lv_iconst (v := 1) hx hb dX6_planeOf_4 (by decide) ?_
  refine lv_isub hx hb dX6_planeOf_5 ?_
  refine lv_iload_n hx hb dX6_planeOf_6 rfl (lv_at hl 1 rfl) ?_
  refine lv_iconst (v := 2) hx hb dX6_planeOf_7 (by decide) ?_
  refine lv_iadd hx hb dX6_planeOf_8 ?_
  refine lv_iconst (v := 3) hx hb dX6_planeOf_9 (by decide) ?_
  refine lv_idiv hx hb dX6_planeOf_10 (by decide) ?_
  refine lv_isub hx hb dX6_planeOf_11 ?_
  subst hg
  rw [← hQe]
  exact W.iret (v := ((plan_planes - (1 : Int32)) - ((p1 + (2 : Int32)) / (3 : Int32)))) hx hb hr (fun t ht hW => ⟨⟨((plan_planes - (1 : Int32)) - ((p1 + (2 : Int32)) / (3 : Int32))), (), rfl, rfl, by rw [ht]; exact hP, va_K.moved hW.alike hK, hD⟩, hS.F ht⟩) hS.2.2 dX6_planeOf_12
abbrev rm_X6_isRaw : Room := { frames := 1, cells := 0, slots := 0, locals := 21 }
abbrev Q_X6_isRaw (dC : Nat → ClassId) (dI : Nat → Nat → Nat) (cI cJ cZ : ClassId) (a_plan : Nat) (a_reaches : Nat) (a_gains : Nat) (A : Nat → Prop) (plan_planes : Int32) (plan_passes : Int32) (plan_segments : Int32) (plan_style : Int32) (plan_firstOfSegment : Int32) (g : Int32) : Array Value → State → Outcome → State → Prop := va_Qi (fun (r : Int32) (_ : Unit) => r = g) (fun u t => va_P (dC, dI) vwCl (wd_plan a_plan a_reaches a_gains plan_planes plan_passes plan_segments plan_style plan_firstOfSegment) t.heap ∧ va_K (dC, dI) vwCl [(cI, .int), (cJ, .long), (cZ, .boolean)] t ∧ va_D A (wd_plan a_plan a_reaches a_gains plan_planes plan_passes plan_segments plan_style plan_firstOfSegment)) A
theorem iw_X6_isRaw_X6 : ∀ w ∈ u_ws RX6 TX6 7, w ∈ wsX6_isRaw := by decide +kernel
set_option maxHeartbeats 4000000 in
set_option maxRecDepth 100000 in
theorem c_X6_isRaw (l : Launch) (dC : Nat → ClassId) (dI : Nat → Nat → Nat) (cI cJ cZ : ClassId) (a_plan : Nat) (a_reaches : Nat) (a_gains : Nat) (sz : Nat) (plan_planes : Int32) (plan_passes : Int32) (plan_segments : Int32) (plan_style : Int32) (plan_firstOfSegment : Int32) (p1 : Int32) : Met l yX6_isRaw wsX6_isRaw rm_X6_isRaw (va_Pc [.ref a_plan, .int p1] (fun U => U.heap.size = sz ∧ va_P (dC, dI) vwCl (wd_plan a_plan a_reaches a_gains plan_planes plan_passes plan_segments plan_style plan_firstOfSegment) U.heap ∧ va_K (dC, dI) vwCl [(cI, .int), (cJ, .long), (cZ, .boolean)] U ∧ va_D (fun _ => True) (wd_plan a_plan a_reaches a_gains plan_planes plan_passes plan_segments plan_style plan_firstOfSegment))) (Q_X6_isRaw dC dI cI cJ cZ a_plan a_reaches a_gains (va_A (wd_plan a_plan a_reaches a_gains plan_planes plan_passes plan_segments plan_style plan_firstOfSegment) sz) plan_planes plan_passes plan_segments plan_style plan_firstOfSegment (F_X6_isRaw p1 plan_style)) 0 0 (va_A (wd_plan a_plan a_reaches a_gains plan_planes plan_passes plan_segments plan_style plan_firstOfSegment) sz) := by
  refine Met.ofW (cc := cX6_isRaw) (maxL := 2) (ret := (some .boolean)) (by decide) rfl ?_
  intro p e s m args below meth c s₁ B hml hv
  obtain ⟨rfl, hsz, hP, hK, hD0⟩ := hv
  have hx := B.exec
  have hb := B.bytes
  have hr := B.returns
  have hts := atoms_spec (ws := wsX6_isRaw) B.pre
  have hown : s.vm.findClass RX6 = some m.cls := findClass_of_methodNamed B.named
  have hlocks := B.notSynchronized
  subst hsz
  have hD := hD0.self (sz := s.heap.size)
  generalize hAe : va_A (wd_plan a_plan a_reaches a_gains plan_planes plan_passes plan_segments plan_style plan_firstOfSegment) s.heap.size = A at hD ⊢
  have hA : ∀ q : Nat, s.heap.size ≤ q → A q := fun q h => by rw [← hAe]; exact Or.inr h
  have hS : va_S A s.heap s.heap [] := va_S.rf
  obtain ⟨H, hH⟩ : ∃ z, z = s.heap := ⟨_, rfl⟩
  have hP : va_P (dC, dI) vwCl (wd_plan a_plan a_reaches a_gains plan_planes plan_passes plan_segments plan_style plan_firstOfSegment) H := by rw [hH]; exact hP
  have hS : va_S A s.heap H [] := by rw [hH]; exact va_S.rf
  obtain ⟨g, hg⟩ : ∃ z, F_X6_isRaw p1 plan_style = z := ⟨_, rfl⟩
  rw [hg]
  generalize hQe : MQ below (Q_X6_isRaw dC dI cI cJ cZ a_plan a_reaches a_gains A plan_planes plan_passes plan_segments plan_style plan_firstOfSegment g) _ s 0 0 A = Q
  rw [← hH]
  clear hH
  have hl := lv_entry ([.ref a_plan, .int p1]) (n := 2) (Nat.le_of_ble_eq_true rfl)
  rw [lg_entry_eq]
  generalize (lg_sl ([.ref a_plan, .int p1]) ++ List.replicate (2 - (lg_sl ([.ref a_plan, .int p1])).length) Slot.unset).toArray = ls at hl ⊢
  have hl : lv_has ls 2 [(0, .ref a_plan), (1, .int p1)] := hl
  unfold F_X6_isRaw at hg
  refine lv_aload_n hx hb dX6_isRaw_0 rfl (lv_at hl 0 rfl) ?_
  refine va_get (D := (dC, dI)) (ci := 5) (v := .int plan_style) (C := RX6) (T := TX6) (N := 7) hx hb hts iw_X6_isRaw_X6 hown hK hP 0 rfl rfl 5 (by decide) (hts (.fieldLink RX6 19 "PlaneBlocks$Plan" "style" "I") (by decide +kernel)) (fun _ h9 => h9) rfl dX6_isRaw_1 ?_
  refine lv_iconst (v := 1) hx hb dX6_isRaw_4 (by decide) ?_
  refine lv_iand hx hb dX6_isRaw_5 ?_
  refine lv_if_eq (tgt := 28) hx hb dX6_isRaw_6 (by decide) (fun c_1 => ?_) (fun c_1 => ?_)
  · rw [if_pos c_1] at hg
    refine lv_iconst (v := 0) hx hb dX6_isRaw_28 (by decide) ?_
    subst hg
    rw [← hQe]
    exact W.zret (v := (0 : Int32)) (ty := .boolean) hx hb hr rfl (fun t ht hW => ⟨⟨(0 : Int32), (), rfl, rfl, by rw [ht]; exact hP, va_K.moved hW.alike hK, hD⟩, hS.F ht⟩) hS.2.2 dX6_isRaw_29
  · rw [if_neg c_1] at hg
    refine lv_iload_n hx hb dX6_isRaw_9 rfl (lv_at hl 1 rfl) ?_
    refine lv_bipush (v := 10) hx hb dX6_isRaw_10 (by decide) ?_
    refine lv_icmp_lt (tgt := 28) hx hb dX6_isRaw_12 (by decide) (fun c_2 => ?_) (fun c_2 => ?_)
    · rw [if_pos c_2] at hg
      refine lv_iconst (v := 0) hx hb dX6_isRaw_28 (by decide) ?_
      subst hg
      rw [← hQe]
      exact W.zret (v := (0 : Int32)) (ty := .boolean) hx hb hr rfl (fun t ht hW => ⟨⟨(0 : Int32), (), rfl, rfl, by rw [ht]; exact hP, va_K.moved hW.alike hK, hD⟩, hS.F ht⟩) hS.2.2 dX6_isRaw_29
    · rw [if_neg c_2] at hg
      refine lv_aload_n hx hb dX6_isRaw_15 rfl (lv_at hl 0 rfl) ?_
      refine lv_iload_n hx hb dX6_isRaw_16 rfl (lv_at hl 1 rfl) ?_
      have hPc := hP.sub (ws' := (wd_plan a_plan a_reaches a_gains plan_planes plan_passes plan_segments plan_style plan_firstOfSegment)) [0] rfl
      have hDc := hD.sub (ws' := (wd_plan a_plan a_reaches a_gains plan_planes plan_passes plan_segments plan_style plan_firstOfSegment)) [0] (by decide) rfl
      have hFc := va_free (wc := (wd_plan a_plan a_reaches a_gains plan_planes plan_passes plan_segments plan_style plan_firstOfSegment)) hD hS hA [0] rfl
      refine va_calli (va_runV (As := [.int p1]) (rest := []) ⟨hx, hb, hml, hown, hts⟩ (c_X6_kindOf l dC dI cI cJ cZ a_plan a_reaches a_gains H.size plan_planes plan_passes plan_segments plan_style plan_firstOfSegment p1) (cwV 1 hts gX6_isRaw_X6_kindOf rfl rfl rfl (by decide +kernel) ⟨Nat.le_of_ble_eq_true rfl, Nat.le_of_ble_eq_true rfl⟩) ⟨fun a U g mk q => by obtain ⟨q0, q1, qP, qK, qD⟩ := q; exact ⟨q0, q1, qP, va_K.moved (u := U) (U := U.calling g mk a) (Vm.Alike.refl U.vm) qK, qD⟩, va_recv hK hPc (ci := 5) (q0 := 0) rfl rfl, fun U hU hW => ⟨rfl, by rw [hU], by rw [hU]; exact hPc, va_K.moved hW.alike hK, hDc.weaken (fun _ _ _ _ => trivial)⟩⟩ rfl rfl hl.1 rfl (lv_room (Nat.le_of_ble_eq_true rfl)) dX6_isRaw_17 ⟨Nat.le_of_ble_eq_true rfl, Nat.le_of_ble_eq_true rfl⟩) hS (fun q _ h => hFc q h) hFc (fun r u t H1 locs ht hvm hw hB hz1 hk1 hS => ?_)
      obtain ⟨hP1, hK1, hD1⟩ := hB
      rw [ht] at hP1
      obtain ⟨r_3, hr_3⟩ : ∃ z, F_X6_kindOf p1 = z := ⟨_, rfl⟩
      try rw [hr_3] at hw
      try rw [hr_3] at hP1
      try rw [hr_3] at hD1
      have hg : (if r_3 = (2 : Int32) then (0 : Int32) else (1 : Int32)) = g := by first | (rw [hr_3] at hg; exact hg) | (subst hr_3; exact hg)
      have hw := hw.symm
      subst hw
      obtain ⟨hP, hD⟩ := va_join (wr := []) (w1 := (wd_plan a_plan a_reaches a_gains plan_planes plan_passes plan_segments plan_style plan_firstOfSegment)) hP hD [0] [] rfl rfl (by decide) (by decide) hk1 hFc hP1 hD1
      have hP : va_P (dC, dI) vwCl (wd_plan a_plan a_reaches a_gains plan_planes plan_passes plan_segments plan_style plan_firstOfSegment) H1 := hP.sub [0] rfl
      have hD : va_D A (wd_plan a_plan a_reaches a_gains plan_planes plan_passes plan_segments plan_style plan_firstOfSegment) := hD.sub [0] (by decide) rfl
      generalize H1 = H at hP hS ⊢
      refine lv_iconst (v := 2) hx hb dX6_isRaw_20 (by decide) ?_
      refine lv_icmp_eq (tgt := 28) hx hb dX6_isRaw_21 (by decide) (fun c_4 => ?_) (fun c_4 => ?_)
      · rw [if_pos c_4] at hg
        refine lv_iconst (v := 0) hx hb dX6_isRaw_28 (by decide) ?_
        subst hg
        rw [← hQe]
        exact W.zret (v := (0 : Int32)) (ty := .boolean) hx hb hr rfl (fun t ht hW => ⟨⟨(0 : Int32), (), rfl, rfl, by rw [ht]; exact hP, va_K.moved hW.alike hK, hD⟩, hS.F ht⟩) hS.2.2 dX6_isRaw_29
      · rw [if_neg c_4] at hg
        refine lv_iconst (v := 1) hx hb dX6_isRaw_24 (by decide) ?_
        refine lv_goto (tgt := 29) hx hb dX6_isRaw_25 (by decide) ?_
        subst hg
        rw [← hQe]
        exact W.zret (v := (1 : Int32)) (ty := .boolean) hx hb hr rfl (fun t ht hW => ⟨⟨(1 : Int32), (), rfl, rfl, by rw [ht]; exact hP, va_K.moved hW.alike hK, hD⟩, hS.F ht⟩) hS.2.2 dX6_isRaw_29
abbrev rm_X6_endsSegment : Room := { frames := 1, cells := 0, slots := 0, locals := 21 }
abbrev Q_X6_endsSegment (dC : Nat → ClassId) (dI : Nat → Nat → Nat) (cI cJ cZ : ClassId) (a_plan : Nat) (a_reaches : Nat) (a_gains : Nat) (A : Nat → Prop) (plan_planes : Int32) (plan_passes : Int32) (plan_segments : Int32) (plan_style : Int32) (plan_firstOfSegment : Int32) (g : Int32) : Array Value → State → Outcome → State → Prop := va_Qi (fun (r : Int32) (_ : Unit) => r = g) (fun u t => va_P (dC, dI) vwCl (wd_plan a_plan a_reaches a_gains plan_planes plan_passes plan_segments plan_style plan_firstOfSegment) t.heap ∧ va_K (dC, dI) vwCl [(cI, .int), (cJ, .long), (cZ, .boolean)] t ∧ va_D A (wd_plan a_plan a_reaches a_gains plan_planes plan_passes plan_segments plan_style plan_firstOfSegment)) A
theorem iw_X6_endsSegment_X6 : ∀ w ∈ u_ws RX6 TX6 7, w ∈ wsX6_endsSegment := by decide +kernel
set_option maxHeartbeats 4000000 in
set_option maxRecDepth 100000 in
theorem c_X6_endsSegment (l : Launch) (dC : Nat → ClassId) (dI : Nat → Nat → Nat) (cI cJ cZ : ClassId) (a_plan : Nat) (a_reaches : Nat) (a_gains : Nat) (sz : Nat) (plan_planes : Int32) (plan_passes : Int32) (plan_segments : Int32) (plan_style : Int32) (plan_firstOfSegment : Int32) (p1 : Int32) : Met l yX6_endsSegment wsX6_endsSegment rm_X6_endsSegment (va_Pc [.ref a_plan, .int p1] (fun U => U.heap.size = sz ∧ va_P (dC, dI) vwCl (wd_plan a_plan a_reaches a_gains plan_planes plan_passes plan_segments plan_style plan_firstOfSegment) U.heap ∧ va_K (dC, dI) vwCl [(cI, .int), (cJ, .long), (cZ, .boolean)] U ∧ va_D (fun _ => True) (wd_plan a_plan a_reaches a_gains plan_planes plan_passes plan_segments plan_style plan_firstOfSegment))) (Q_X6_endsSegment dC dI cI cJ cZ a_plan a_reaches a_gains (va_A (wd_plan a_plan a_reaches a_gains plan_planes plan_passes plan_segments plan_style plan_firstOfSegment) sz) plan_planes plan_passes plan_segments plan_style plan_firstOfSegment (F_X6_endsSegment p1 plan_passes plan_style)) 0 0 (va_A (wd_plan a_plan a_reaches a_gains plan_planes plan_passes plan_segments plan_style plan_firstOfSegment) sz) := by
  refine Met.ofW (cc := cX6_endsSegment) (maxL := 2) (ret := (some .boolean)) (by decide) rfl ?_
  intro p e s m args below meth c s₁ B hml hv
  obtain ⟨rfl, hsz, hP, hK, hD0⟩ := hv
  have hx := B.exec
  have hb := B.bytes
  have hr := B.returns
  have hts := atoms_spec (ws := wsX6_endsSegment) B.pre
  have hown : s.vm.findClass RX6 = some m.cls := findClass_of_methodNamed B.named
  have hlocks := B.notSynchronized
  subst hsz
  have hD := hD0.self (sz := s.heap.size)
  generalize hAe : va_A (wd_plan a_plan a_reaches a_gains plan_planes plan_passes plan_segments plan_style plan_firstOfSegment) s.heap.size = A at hD ⊢
  have hA : ∀ q : Nat, s.heap.size ≤ q → A q := fun q h => by rw [← hAe]; exact Or.inr h
  have hS : va_S A s.heap s.heap [] := va_S.rf
  obtain ⟨H, hH⟩ : ∃ z, z = s.heap := ⟨_, rfl⟩
  have hP : va_P (dC, dI) vwCl (wd_plan a_plan a_reaches a_gains plan_planes plan_passes plan_segments plan_style plan_firstOfSegment) H := by rw [hH]; exact hP
  have hS : va_S A s.heap H [] := by rw [hH]; exact va_S.rf
  obtain ⟨g, hg⟩ : ∃ z, F_X6_endsSegment p1 plan_passes plan_style = z := ⟨_, rfl⟩
  rw [hg]
  generalize hQe : MQ below (Q_X6_endsSegment dC dI cI cJ cZ a_plan a_reaches a_gains A plan_planes plan_passes plan_segments plan_style plan_firstOfSegment g) _ s 0 0 A = Q
  rw [← hH]
  clear hH
  have hl := lv_entry ([.ref a_plan, .int p1]) (n := 2) (Nat.le_of_ble_eq_true rfl)
  rw [lg_entry_eq]
  generalize (lg_sl ([.ref a_plan, .int p1]) ++ List.replicate (2 - (lg_sl ([.ref a_plan, .int p1])).length) Slot.unset).toArray = ls at hl ⊢
  have hl : lv_has ls 2 [(0, .ref a_plan), (1, .int p1)] := hl
  unfold F_X6_endsSegment at hg
  refine lv_iload_n hx hb dX6_endsSegment_0 rfl (lv_at hl 1 rfl) ?_
  refine lv_aload_n hx hb dX6_endsSegment_1 rfl (lv_at hl 0 rfl) ?_
  refine va_get (D := (dC, dI)) (ci := 5) (v := .int plan_passes) (C := RX6) (T := TX6) (N := 7) hx hb hts iw_X6_endsSegment_X6 hown hK hP 0 rfl rfl 3 (by decide) (hts (.fieldLink RX6 26 "PlaneBlocks$Plan" "passes" "I") (by decide +kernel)) (fun _ h9 => h9) rfl dX6_endsSegment_2 ?_
  refine lv_iconst (v := 1) hx hb dX6_endsSegment_5 (by decide) ?_
  refine lv_isub hx hb dX6_endsSegment_6 ?_
  refine lv_icmp_eq (tgt := 19) hx hb dX6_endsSegment_7 (by decide) (fun c_1 => ?_) (fun c_1 => ?_)
  · rw [if_pos c_1] at hg
    refine lv_iconst (v := 1) hx hb dX6_endsSegment_19 (by decide) ?_
    subst hg
    rw [← hQe]
    exact W.zret (v := (1 : Int32)) (ty := .boolean) hx hb hr rfl (fun t ht hW => ⟨⟨(1 : Int32), (), rfl, rfl, by rw [ht]; exact hP, va_K.moved hW.alike hK, hD⟩, hS.F ht⟩) hS.2.2 dX6_endsSegment_20
  · rw [if_neg c_1] at hg
    refine lv_aload_n hx hb dX6_endsSegment_10 rfl (lv_at hl 0 rfl) ?_
    refine va_get (D := (dC, dI)) (ci := 5) (v := .int plan_style) (C := RX6) (T := TX6) (N := 7) hx hb hts iw_X6_endsSegment_X6 hown hK hP 0 rfl rfl 5 (by decide) (hts (.fieldLink RX6 19 "PlaneBlocks$Plan" "style" "I") (by decide +kernel)) (fun _ h9 => h9) rfl dX6_endsSegment_11 ?_
    refine lv_iconst (v := 4) hx hb dX6_endsSegment_14 (by decide) ?_
    refine lv_iand hx hb dX6_endsSegment_15 ?_
    refine lv_if_eq (tgt := 21) hx hb dX6_endsSegment_16 (by decide) (fun c_2 => ?_) (fun c_2 => ?_)
    · rw [if_pos c_2] at hg
      refine lv_aload_n hx hb dX6_endsSegment_21 rfl (lv_at hl 0 rfl) ?_
      refine va_get (D := (dC, dI)) (ci := 5) (v := .int plan_style) (C := RX6) (T := TX6) (N := 7) hx hb hts iw_X6_endsSegment_X6 hown hK hP 0 rfl rfl 5 (by decide) (hts (.fieldLink RX6 19 "PlaneBlocks$Plan" "style" "I") (by decide +kernel)) (fun _ h9 => h9) rfl dX6_endsSegment_22 ?_
      refine lv_iconst (v := 1) hx hb dX6_endsSegment_25 (by decide) ?_
      refine lv_iand hx hb dX6_endsSegment_26 ?_
      refine lv_if_ne (tgt := 32) hx hb dX6_endsSegment_27 (by decide) (fun c_3 => ?_) (fun c_3 => ?_)
      · rw [if_neg c_3] at hg
        refine lv_aload_n hx hb dX6_endsSegment_32 rfl (lv_at hl 0 rfl) ?_
        refine lv_iload_n hx hb dX6_endsSegment_33 rfl (lv_at hl 1 rfl) ?_
        have hPc := hP.sub (ws' := (wd_plan a_plan a_reaches a_gains plan_planes plan_passes plan_segments plan_style plan_firstOfSegment)) [0] rfl
        have hDc := hD.sub (ws' := (wd_plan a_plan a_reaches a_gains plan_planes plan_passes plan_segments plan_style plan_firstOfSegment)) [0] (by decide) rfl
        have hFc := va_free (wc := (wd_plan a_plan a_reaches a_gains plan_planes plan_passes plan_segments plan_style plan_firstOfSegment)) hD hS hA [0] rfl
        refine va_calli (va_runV (As := [.int p1]) (rest := []) ⟨hx, hb, hml, hown, hts⟩ (c_X6_kindOf l dC dI cI cJ cZ a_plan a_reaches a_gains H.size plan_planes plan_passes plan_segments plan_style plan_firstOfSegment p1) (cwV 1 hts gX6_endsSegment_X6_kindOf rfl rfl rfl (by decide +kernel) ⟨Nat.le_of_ble_eq_true rfl, Nat.le_of_ble_eq_true rfl⟩) ⟨fun a U g mk q => by obtain ⟨q0, q1, qP, qK, qD⟩ := q; exact ⟨q0, q1, qP, va_K.moved (u := U) (U := U.calling g mk a) (Vm.Alike.refl U.vm) qK, qD⟩, va_recv hK hPc (ci := 5) (q0 := 0) rfl rfl, fun U hU hW => ⟨rfl, by rw [hU], by rw [hU]; exact hPc, va_K.moved hW.alike hK, hDc.weaken (fun _ _ _ _ => trivial)⟩⟩ rfl rfl hl.1 rfl (lv_room (Nat.le_of_ble_eq_true rfl)) dX6_endsSegment_34 ⟨Nat.le_of_ble_eq_true rfl, Nat.le_of_ble_eq_true rfl⟩) hS (fun q _ h => hFc q h) hFc (fun r u t H1 locs ht hvm hw hB hz1 hk1 hS => ?_)
        obtain ⟨hP1, hK1, hD1⟩ := hB
        rw [ht] at hP1
        obtain ⟨r_4, hr_4⟩ : ∃ z, F_X6_kindOf p1 = z := ⟨_, rfl⟩
        try rw [hr_4] at hw
        try rw [hr_4] at hP1
        try rw [hr_4] at hD1
        have hg : (if r_4 = (2 : Int32) then (if (9 : Int32) ≤ p1 then (1 : Int32) else (let r_10 := F_X6_kindOf p1; if r_10 = (1 : Int32) then (if p1 < (10 : Int32) then (0 : Int32) else (1 : Int32)) else (0 : Int32))) else (let r_6 := F_X6_kindOf p1; if r_6 = (1 : Int32) then (if p1 < (10 : Int32) then (0 : Int32) else (1 : Int32)) else (0 : Int32))) = g := by first | (rw [hr_4] at hg; exact hg) | (subst hr_4; exact hg)
        have hw := hw.symm
        subst hw
        obtain ⟨hP, hD⟩ := va_join (wr := []) (w1 := (wd_plan a_plan a_reaches a_gains plan_planes plan_passes plan_segments plan_style plan_firstOfSegment)) hP hD [0] [] rfl rfl (by decide) (by decide) hk1 hFc hP1 hD1
        have hP : va_P (dC, dI) vwCl (wd_plan a_plan a_reaches a_gains plan_planes plan_passes plan_segments plan_style plan_firstOfSegment) H1 := hP.sub [0] rfl
        have hD : va_D A (wd_plan a_plan a_reaches a_gains plan_planes plan_passes plan_segments plan_style plan_firstOfSegment) := hD.sub [0] (by decide) rfl
        generalize H1 = H at hP hS ⊢
        refine lv_iconst (v := 2) hx hb dX6_endsSegment_37 (by decide) ?_
        refine lv_icmp_ne (tgt := 47) hx hb dX6_endsSegment_38 (by decide) (fun c_5 => ?_) (fun c_5 => ?_)
        · rw [if_neg c_5] at hg
          refine lv_aload_n hx hb dX6_endsSegment_47 rfl (lv_at hl 0 rfl) ?_
          refine lv_iload_n hx hb dX6_endsSegment_48 rfl (lv_at hl 1 rfl) ?_
          have hPc := hP.sub (ws' := (wd_plan a_plan a_reaches a_gains plan_planes plan_passes plan_segments plan_style plan_firstOfSegment)) [0] rfl
          have hDc := hD.sub (ws' := (wd_plan a_plan a_reaches a_gains plan_planes plan_passes plan_segments plan_style plan_firstOfSegment)) [0] (by decide) rfl
          have hFc := va_free (wc := (wd_plan a_plan a_reaches a_gains plan_planes plan_passes plan_segments plan_style plan_firstOfSegment)) hD hS hA [0] rfl
          refine va_calli (va_runV (As := [.int p1]) (rest := []) ⟨hx, hb, hml, hown, hts⟩ (c_X6_kindOf l dC dI cI cJ cZ a_plan a_reaches a_gains H.size plan_planes plan_passes plan_segments plan_style plan_firstOfSegment p1) (cwV 1 hts gX6_endsSegment_X6_kindOf rfl rfl rfl (by decide +kernel) ⟨Nat.le_of_ble_eq_true rfl, Nat.le_of_ble_eq_true rfl⟩) ⟨fun a U g mk q => by obtain ⟨q0, q1, qP, qK, qD⟩ := q; exact ⟨q0, q1, qP, va_K.moved (u := U) (U := U.calling g mk a) (Vm.Alike.refl U.vm) qK, qD⟩, va_recv hK hPc (ci := 5) (q0 := 0) rfl rfl, fun U hU hW => ⟨rfl, by rw [hU], by rw [hU]; exact hPc, va_K.moved hW.alike hK, hDc.weaken (fun _ _ _ _ => trivial)⟩⟩ rfl rfl hl.1 rfl (lv_room (Nat.le_of_ble_eq_true rfl)) dX6_endsSegment_49 ⟨Nat.le_of_ble_eq_true rfl, Nat.le_of_ble_eq_true rfl⟩) hS (fun q _ h => hFc q h) hFc (fun r u t H1 locs ht hvm hw hB hz1 hk1 hS => ?_)
          obtain ⟨hP1, hK1, hD1⟩ := hB
          rw [ht] at hP1
          obtain ⟨r_6, hr_6⟩ : ∃ z, F_X6_kindOf p1 = z := ⟨_, rfl⟩
          try rw [hr_6] at hw
          try rw [hr_6] at hP1
          try rw [hr_6] at hD1
          have hg : (if r_6 = (1 : Int32) then (if p1 < (10 : Int32) then (0 : Int32) else (1 : Int32)) else (0 : Int32)) = g := by first | (rw [hr_6] at hg; exact hg) | (subst hr_6; exact hg)
          have hw := hw.symm
          subst hw
          obtain ⟨hP, hD⟩ := va_join (wr := []) (w1 := (wd_plan a_plan a_reaches a_gains plan_planes plan_passes plan_segments plan_style plan_firstOfSegment)) hP hD [0] [] rfl rfl (by decide) (by decide) hk1 hFc hP1 hD1
          have hP : va_P (dC, dI) vwCl (wd_plan a_plan a_reaches a_gains plan_planes plan_passes plan_segments plan_style plan_firstOfSegment) H1 := hP.sub [0] rfl
          have hD : va_D A (wd_plan a_plan a_reaches a_gains plan_planes plan_passes plan_segments plan_style plan_firstOfSegment) := hD.sub [0] (by decide) rfl
          generalize H1 = H at hP hS ⊢
          refine lv_iconst (v := 1) hx hb dX6_endsSegment_52 (by decide) ?_
          refine lv_icmp_ne (tgt := 66) hx hb dX6_endsSegment_53 (by decide) (fun c_7 => ?_) (fun c_7 => ?_)
          · rw [if_neg c_7] at hg
            refine lv_iconst (v := 0) hx hb dX6_endsSegment_66 (by decide) ?_
            subst hg
            rw [← hQe]
            exact W.zret (v := (0 : Int32)) (ty := .boolean) hx hb hr rfl (fun t ht hW => ⟨⟨(0 : Int32), (), rfl, rfl, by rw [ht]; exact hP, va_K.moved hW.alike hK, hD⟩, hS.F ht⟩) hS.2.2 dX6_endsSegment_67
          · rw [if_pos c_7] at hg
            refine lv_iload_n hx hb dX6_endsSegment_56 rfl (lv_at hl 1 rfl) ?_
            refine lv_bipush (v := 10) hx hb dX6_endsSegment_57 (by decide) ?_
            refine lv_icmp_lt (tgt := 66) hx hb dX6_endsSegment_59 (by decide) (fun c_8 => ?_) (fun c_8 => ?_)
            · rw [if_pos c_8] at hg
              refine lv_iconst (v := 0) hx hb dX6_endsSegment_66 (by decide) ?_
              subst hg
              rw [← hQe]
              exact W.zret (v := (0 : Int32)) (ty := .boolean) hx hb hr rfl (fun t ht hW => ⟨⟨(0 : Int32), (), rfl, rfl, by rw [ht]; exact hP, va_K.moved hW.alike hK, hD⟩, hS.F ht⟩) hS.2.2 dX6_endsSegment_67
            · rw [if_neg c_8] at hg
              refine lv_iconst (v := 1) hx hb dX6_endsSegment_62 (by decide) ?_
              refine lv_goto (tgt := 67) hx hb dX6_endsSegment_63 (by decide) ?_
              subst hg
              rw [← hQe]
              exact W.zret (v := (1 : Int32)) (ty := .boolean) hx hb hr rfl (fun t ht hW => ⟨⟨(1 : Int32), (), rfl, rfl, by rw [ht]; exact hP, va_K.moved hW.alike hK, hD⟩, hS.F ht⟩) hS.2.2 dX6_endsSegment_67
        · rw [if_pos c_5] at hg
          refine lv_iload_n hx hb dX6_endsSegment_41 rfl (lv_at hl 1 rfl) ?_
          refine lv_bipush (v := 9) hx hb dX6_endsSegment_42 (by decide) ?_
          refine lv_icmp_ge (tgt := 62) hx hb dX6_endsSegment_44 (by decide) (fun c_9 => ?_) (fun c_9 => ?_)
          · rw [if_pos c_9] at hg
            refine lv_iconst (v := 1) hx hb dX6_endsSegment_62 (by decide) ?_
            refine lv_goto (tgt := 67) hx hb dX6_endsSegment_63 (by decide) ?_
            subst hg
            rw [← hQe]
            exact W.zret (v := (1 : Int32)) (ty := .boolean) hx hb hr rfl (fun t ht hW => ⟨⟨(1 : Int32), (), rfl, rfl, by rw [ht]; exact hP, va_K.moved hW.alike hK, hD⟩, hS.F ht⟩) hS.2.2 dX6_endsSegment_67
          · rw [if_neg c_9] at hg
            refine lv_aload_n hx hb dX6_endsSegment_47 rfl (lv_at hl 0 rfl) ?_
            refine lv_iload_n hx hb dX6_endsSegment_48 rfl (lv_at hl 1 rfl) ?_
            have hPc := hP.sub (ws' := (wd_plan a_plan a_reaches a_gains plan_planes plan_passes plan_segments plan_style plan_firstOfSegment)) [0] rfl
            have hDc := hD.sub (ws' := (wd_plan a_plan a_reaches a_gains plan_planes plan_passes plan_segments plan_style plan_firstOfSegment)) [0] (by decide) rfl
            have hFc := va_free (wc := (wd_plan a_plan a_reaches a_gains plan_planes plan_passes plan_segments plan_style plan_firstOfSegment)) hD hS hA [0] rfl
            refine va_calli (va_runV (As := [.int p1]) (rest := []) ⟨hx, hb, hml, hown, hts⟩ (c_X6_kindOf l dC dI cI cJ cZ a_plan a_reaches a_gains H.size plan_planes plan_passes plan_segments plan_style plan_firstOfSegment p1) (cwV 1 hts gX6_endsSegment_X6_kindOf rfl rfl rfl (by decide +kernel) ⟨Nat.le_of_ble_eq_true rfl, Nat.le_of_ble_eq_true rfl⟩) ⟨fun a U g mk q => by obtain ⟨q0, q1, qP, qK, qD⟩ := q; exact ⟨q0, q1, qP, va_K.moved (u := U) (U := U.calling g mk a) (Vm.Alike.refl U.vm) qK, qD⟩, va_recv hK hPc (ci := 5) (q0 := 0) rfl rfl, fun U hU hW => ⟨rfl, by rw [hU], by rw [hU]; exact hPc, va_K.moved hW.alike hK, hDc.weaken (fun _ _ _ _ => trivial)⟩⟩ rfl rfl hl.1 rfl (lv_room (Nat.le_of_ble_eq_true rfl)) dX6_endsSegment_49 ⟨Nat.le_of_ble_eq_true rfl, Nat.le_of_ble_eq_true rfl⟩) hS (fun q _ h => hFc q h) hFc (fun r u t H1 locs ht hvm hw hB hz1 hk1 hS => ?_)
            obtain ⟨hP1, hK1, hD1⟩ := hB
            rw [ht] at hP1
            obtain ⟨r_10, hr_10⟩ : ∃ z, F_X6_kindOf p1 = z := ⟨_, rfl⟩
            try rw [hr_10] at hw
            try rw [hr_10] at hP1
            try rw [hr_10] at hD1
            have hg : (if r_10 = (1 : Int32) then (if p1 < (10 : Int32) then (0 : Int32) else (1 : Int32)) else (0 : Int32)) = g := by first | (rw [hr_10] at hg; exact hg) | (subst hr_10; exact hg)
            have hw := hw.symm
            subst hw
            obtain ⟨hP, hD⟩ := va_join (wr := []) (w1 := (wd_plan a_plan a_reaches a_gains plan_planes plan_passes plan_segments plan_style plan_firstOfSegment)) hP hD [0] [] rfl rfl (by decide) (by decide) hk1 hFc hP1 hD1
            have hP : va_P (dC, dI) vwCl (wd_plan a_plan a_reaches a_gains plan_planes plan_passes plan_segments plan_style plan_firstOfSegment) H1 := hP.sub [0] rfl
            have hD : va_D A (wd_plan a_plan a_reaches a_gains plan_planes plan_passes plan_segments plan_style plan_firstOfSegment) := hD.sub [0] (by decide) rfl
            generalize H1 = H at hP hS ⊢
            refine lv_iconst (v := 1) hx hb dX6_endsSegment_52 (by decide) ?_
            refine lv_icmp_ne (tgt := 66) hx hb dX6_endsSegment_53 (by decide) (fun c_11 => ?_) (fun c_11 => ?_)
            · rw [if_neg c_11] at hg
              refine lv_iconst (v := 0) hx hb dX6_endsSegment_66 (by decide) ?_
              subst hg
              rw [← hQe]
              exact W.zret (v := (0 : Int32)) (ty := .boolean) hx hb hr rfl (fun t ht hW => ⟨⟨(0 : Int32), (), rfl, rfl, by rw [ht]; exact hP, va_K.moved hW.alike hK, hD⟩, hS.F ht⟩) hS.2.2 dX6_endsSegment_67
            · rw [if_pos c_11] at hg
              refine lv_iload_n hx hb dX6_endsSegment_56 rfl (lv_at hl 1 rfl) ?_
              refine lv_bipush (v := 10) hx hb dX6_endsSegment_57 (by decide) ?_
              refine lv_icmp_lt (tgt := 66) hx hb dX6_endsSegment_59 (by decide) (fun c_12 => ?_) (fun c_12 => ?_)
              · rw [if_pos c_12] at hg
                refine lv_iconst (v := 0) hx hb dX6_endsSegment_66 (by decide) ?_
                subst hg
                rw [← hQe]
                exact W.zret (v := (0 : Int32)) (ty := .boolean) hx hb hr rfl (fun t ht hW => ⟨⟨(0 : Int32), (), rfl, rfl, by rw [ht]; exact hP, va_K.moved hW.alike hK, hD⟩, hS.F ht⟩) hS.2.2 dX6_endsSegment_67
              · rw [if_neg c_12] at hg
                refine lv_iconst (v := 1) hx hb dX6_endsSegment_62 (by decide) ?_
                refine lv_goto (tgt := 67) hx hb dX6_endsSegment_63 (by decide) ?_
                subst hg
                rw [← hQe]
                exact W.zret (v := (1 : Int32)) (ty := .boolean) hx hb hr rfl (fun t ht hW => ⟨⟨(1 : Int32), (), rfl, rfl, by rw [ht]; exact hP, va_K.moved hW.alike hK, hD⟩, hS.F ht⟩) hS.2.2 dX6_endsSegment_67
      · rw [if_pos c_3] at hg
        refine lv_iconst (v := 0) hx hb dX6_endsSegment_30 (by decide) ?_
        subst hg
        rw [← hQe]
        exact W.zret (v := (0 : Int32)) (ty := .boolean) hx hb hr rfl (fun t ht hW => ⟨⟨(0 : Int32), (), rfl, rfl, by rw [ht]; exact hP, va_K.moved hW.alike hK, hD⟩, hS.F ht⟩) hS.2.2 dX6_endsSegment_31
    · rw [if_neg c_2] at hg
      refine lv_iconst (v := 1) hx hb dX6_endsSegment_19 (by decide) ?_
      subst hg
      rw [← hQe]
      exact W.zret (v := (1 : Int32)) (ty := .boolean) hx hb hr rfl (fun t ht hW => ⟨⟨(1 : Int32), (), rfl, rfl, by rw [ht]; exact hP, va_K.moved hW.alike hK, hD⟩, hS.F ht⟩) hS.2.2 dX6_endsSegment_20
abbrev rm_X6_startsSegment : Room := { frames := 2, cells := 0, slots := 0, locals := 42 }
abbrev Q_X6_startsSegment (dC : Nat → ClassId) (dI : Nat → Nat → Nat) (cI cJ cZ : ClassId) (a_plan : Nat) (a_reaches : Nat) (a_gains : Nat) (A : Nat → Prop) (plan_planes : Int32) (plan_passes : Int32) (plan_segments : Int32) (plan_style : Int32) (plan_firstOfSegment : Int32) (g : Int32) : Array Value → State → Outcome → State → Prop := va_Qi (fun (r : Int32) (_ : Unit) => r = g) (fun u t => va_P (dC, dI) vwCl (wd_plan a_plan a_reaches a_gains plan_planes plan_passes plan_segments plan_style plan_firstOfSegment) t.heap ∧ va_K (dC, dI) vwCl [(cI, .int), (cJ, .long), (cZ, .boolean)] t ∧ va_D A (wd_plan a_plan a_reaches a_gains plan_planes plan_passes plan_segments plan_style plan_firstOfSegment)) A
set_option maxHeartbeats 4000000 in
set_option maxRecDepth 100000 in
theorem c_X6_startsSegment (l : Launch) (dC : Nat → ClassId) (dI : Nat → Nat → Nat) (cI cJ cZ : ClassId) (a_plan : Nat) (a_reaches : Nat) (a_gains : Nat) (sz : Nat) (plan_planes : Int32) (plan_passes : Int32) (plan_segments : Int32) (plan_style : Int32) (plan_firstOfSegment : Int32) (p1 : Int32) : Met l yX6_startsSegment wsX6_startsSegment rm_X6_startsSegment (va_Pc [.ref a_plan, .int p1] (fun U => U.heap.size = sz ∧ va_P (dC, dI) vwCl (wd_plan a_plan a_reaches a_gains plan_planes plan_passes plan_segments plan_style plan_firstOfSegment) U.heap ∧ va_K (dC, dI) vwCl [(cI, .int), (cJ, .long), (cZ, .boolean)] U ∧ va_D (fun _ => True) (wd_plan a_plan a_reaches a_gains plan_planes plan_passes plan_segments plan_style plan_firstOfSegment))) (Q_X6_startsSegment dC dI cI cJ cZ a_plan a_reaches a_gains (va_A (wd_plan a_plan a_reaches a_gains plan_planes plan_passes plan_segments plan_style plan_firstOfSegment) sz) plan_planes plan_passes plan_segments plan_style plan_firstOfSegment (F_X6_startsSegment p1 plan_passes plan_style)) 0 0 (va_A (wd_plan a_plan a_reaches a_gains plan_planes plan_passes plan_segments plan_style plan_firstOfSegment) sz) := by
  refine Met.ofW (cc := cX6_startsSegment) (maxL := 2) (ret := (some .boolean)) (by decide) rfl ?_
  intro p e s m args below meth c s₁ B hml hv
  obtain ⟨rfl, hsz, hP, hK, hD0⟩ := hv
  have hx := B.exec
  have hb := B.bytes
  have hr := B.returns
  have hts := atoms_spec (ws := wsX6_startsSegment) B.pre
  have hown : s.vm.findClass RX6 = some m.cls := findClass_of_methodNamed B.named
  have hlocks := B.notSynchronized
  subst hsz
  have hD := hD0.self (sz := s.heap.size)
  generalize hAe : va_A (wd_plan a_plan a_reaches a_gains plan_planes plan_passes plan_segments plan_style plan_firstOfSegment) s.heap.size = A at hD ⊢
  have hA : ∀ q : Nat, s.heap.size ≤ q → A q := fun q h => by rw [← hAe]; exact Or.inr h
  have hS : va_S A s.heap s.heap [] := va_S.rf
  obtain ⟨H, hH⟩ : ∃ z, z = s.heap := ⟨_, rfl⟩
  have hP : va_P (dC, dI) vwCl (wd_plan a_plan a_reaches a_gains plan_planes plan_passes plan_segments plan_style plan_firstOfSegment) H := by rw [hH]; exact hP
  have hS : va_S A s.heap H [] := by rw [hH]; exact va_S.rf
  obtain ⟨g, hg⟩ : ∃ z, F_X6_startsSegment p1 plan_passes plan_style = z := ⟨_, rfl⟩
  rw [hg]
  generalize hQe : MQ below (Q_X6_startsSegment dC dI cI cJ cZ a_plan a_reaches a_gains A plan_planes plan_passes plan_segments plan_style plan_firstOfSegment g) _ s 0 0 A = Q
  rw [← hH]
  clear hH
  have hl := lv_entry ([.ref a_plan, .int p1]) (n := 2) (Nat.le_of_ble_eq_true rfl)
  rw [lg_entry_eq]
  generalize (lg_sl ([.ref a_plan, .int p1]) ++ List.replicate (2 - (lg_sl ([.ref a_plan, .int p1])).length) Slot.unset).toArray = ls at hl ⊢
  have hl : lv_has ls 2 [(0, .ref a_plan), (1, .int p1)] := hl
  unfold F_X6_startsSegment at hg
  refine lv_iload_n hx hb dX6_startsSegment_0 rfl (lv_at hl 1 rfl) ?_
  refine lv_if_eq (tgt := 14) hx hb dX6_startsSegment_1 (by decide) (fun c_1 => ?_) (fun c_1 => ?_)
  · rw [if_pos c_1] at hg
    refine lv_iconst (v := 1) hx hb dX6_startsSegment_14 (by decide) ?_
    refine lv_goto (tgt := 19) hx hb dX6_startsSegment_15 (by decide) ?_
    subst hg
    rw [← hQe]
    exact W.zret (v := (1 : Int32)) (ty := .boolean) hx hb hr rfl (fun t ht hW => ⟨⟨(1 : Int32), (), rfl, rfl, by rw [ht]; exact hP, va_K.moved hW.alike hK, hD⟩, hS.F ht⟩) hS.2.2 dX6_startsSegment_19
  · rw [if_neg c_1] at hg
    refine lv_aload_n hx hb dX6_startsSegment_4 rfl (lv_at hl 0 rfl) ?_
    refine lv_iload_n hx hb dX6_startsSegment_5 rfl (lv_at hl 1 rfl) ?_
    refine lv_iconst (v := 1) hx hb dX6_startsSegment_6 (by decide) ?_
    refine lv_isub hx hb dX6_startsSegment_7 ?_
    have hPc := hP.sub (ws' := (wd_plan a_plan a_reaches a_gains plan_planes plan_passes plan_segments plan_style plan_firstOfSegment)) [0] rfl
    have hDc := hD.sub (ws' := (wd_plan a_plan a_reaches a_gains plan_planes plan_passes plan_segments plan_style plan_firstOfSegment)) [0] (by decide) rfl
    have hFc := va_free (wc := (wd_plan a_plan a_reaches a_gains plan_planes plan_passes plan_segments plan_style plan_firstOfSegment)) hD hS hA [0] rfl
    refine va_calli (va_runV (As := [.int (p1 - (1 : Int32))]) (rest := []) ⟨hx, hb, hml, hown, hts⟩ (c_X6_endsSegment l dC dI cI cJ cZ a_plan a_reaches a_gains H.size plan_planes plan_passes plan_segments plan_style plan_firstOfSegment (p1 - (1 : Int32))) (cwV 1 hts gX6_startsSegment_X6_endsSegment rfl rfl rfl (by decide +kernel) ⟨Nat.le_of_ble_eq_true rfl, Nat.le_of_ble_eq_true rfl⟩) ⟨fun a U g mk q => by obtain ⟨q0, q1, qP, qK, qD⟩ := q; exact ⟨q0, q1, qP, va_K.moved (u := U) (U := U.calling g mk a) (Vm.Alike.refl U.vm) qK, qD⟩, va_recv hK hPc (ci := 5) (q0 := 0) rfl rfl, fun U hU hW => ⟨rfl, by rw [hU], by rw [hU]; exact hPc, va_K.moved hW.alike hK, hDc.weaken (fun _ _ _ _ => trivial)⟩⟩ rfl rfl hl.1 rfl (lv_room (Nat.le_of_ble_eq_true rfl)) dX6_startsSegment_8 ⟨Nat.le_of_ble_eq_true rfl, Nat.le_of_ble_eq_true rfl⟩) hS (fun q _ h => hFc q h) hFc (fun r u t H1 locs ht hvm hw hB hz1 hk1 hS => ?_)
    obtain ⟨hP1, hK1, hD1⟩ := hB
    rw [ht] at hP1
    obtain ⟨r_2, hr_2⟩ : ∃ z, F_X6_endsSegment (p1 - (1 : Int32)) plan_passes plan_style = z := ⟨_, rfl⟩
    try rw [hr_2] at hw
    try rw [hr_2] at hP1
    try rw [hr_2] at hD1
    have hg : (if r_2 = (0 : Int32) then (0 : Int32) else (1 : Int32)) = g := by first | (rw [hr_2] at hg; exact hg) | (subst hr_2; exact hg)
    have hw := hw.symm
    subst hw
    obtain ⟨hP, hD⟩ := va_join (wr := []) (w1 := (wd_plan a_plan a_reaches a_gains plan_planes plan_passes plan_segments plan_style plan_firstOfSegment)) hP hD [0] [] rfl rfl (by decide) (by decide) hk1 hFc hP1 hD1
    have hP : va_P (dC, dI) vwCl (wd_plan a_plan a_reaches a_gains plan_planes plan_passes plan_segments plan_style plan_firstOfSegment) H1 := hP.sub [0] rfl
    have hD : va_D A (wd_plan a_plan a_reaches a_gains plan_planes plan_passes plan_segments plan_style plan_firstOfSegment) := hD.sub [0] (by decide) rfl
    generalize H1 = H at hP hS ⊢
    refine lv_if_eq (tgt := 18) hx hb dX6_startsSegment_11 (by decide) (fun c_3 => ?_) (fun c_3 => ?_)
    · rw [if_pos c_3] at hg
      refine lv_iconst (v := 0) hx hb dX6_startsSegment_18 (by decide) ?_
      subst hg
      rw [← hQe]
      exact W.zret (v := (0 : Int32)) (ty := .boolean) hx hb hr rfl (fun t ht hW => ⟨⟨(0 : Int32), (), rfl, rfl, by rw [ht]; exact hP, va_K.moved hW.alike hK, hD⟩, hS.F ht⟩) hS.2.2 dX6_startsSegment_19
    · rw [if_neg c_3] at hg
      refine lv_iconst (v := 1) hx hb dX6_startsSegment_14 (by decide) ?_
      refine lv_goto (tgt := 19) hx hb dX6_startsSegment_15 (by decide) ?_
      subst hg
      rw [← hQe]
      exact W.zret (v := (1 : Int32)) (ty := .boolean) hx hb hr rfl (fun t ht hW => ⟨⟨(1 : Int32), (), rfl, rfl, by rw [ht]; exact hP, va_K.moved hW.alike hK, hD⟩, hS.F ht⟩) hS.2.2 dX6_startsSegment_19
abbrev wd_plan_reaches (cI : ClassId) (a_plan : Nat) (a_reaches : Nat) (a_gains : Nat) (plan_planes : Int32) (plan_passes : Int32) (plan_segments : Int32) (plan_style : Int32) (plan_firstOfSegment : Int32) (reaches_n : Nat) (reaches_f : Nat → Int32) : va_W := [(a_plan, .inr (5, [.ref a_reaches, .ref a_gains, .int plan_planes, .int plan_passes, .int plan_segments, .int plan_style, .int plan_firstOfSegment])), (a_reaches, .inl (cI, reaches_n, .inl reaches_f))]
abbrev rm_X6_closeSegment : Room := { frames := 1, cells := 0, slots := 0, locals := 15 }
abbrev Q_X6_closeSegment (dC : Nat → ClassId) (dI : Nat → Nat → Nat) (cI cJ cZ : ClassId) (a_plan : Nat) (a_reaches : Nat) (a_gains : Nat) (A : Nat → Prop) (plan_planes : Int32) (plan_passes : Int32) (plan_segments : Int32) (plan_style : Int32) (plan_firstOfSegment : Int32) (reaches_n : Nat) (reaches_f : Nat → Int32) (g : (Int32 × Int32 × (Nat → Int32))) : Array Value → State → Outcome → State → Prop := va_Qv (fun _ : Unit => True) (fun u t => va_P (dC, dI) vwCl (wd_plan_reaches cI a_plan a_reaches a_gains plan_planes plan_passes g.1 plan_style g.2.1 reaches_n g.2.2) t.heap ∧ va_K (dC, dI) vwCl [(cI, .int), (cJ, .long), (cZ, .boolean)] t ∧ va_D A (wd_plan_reaches cI a_plan a_reaches a_gains plan_planes plan_passes g.1 plan_style g.2.1 reaches_n g.2.2)) A
theorem iw_X6_closeSegment_X6 : ∀ w ∈ u_ws RX6 TX6 7, w ∈ wsX6_closeSegment := by decide +kernel
set_option maxHeartbeats 4000000 in
set_option maxRecDepth 100000 in
theorem c_X6_closeSegment (l : Launch) (dC : Nat → ClassId) (dI : Nat → Nat → Nat) (cI cJ cZ : ClassId) (a_plan : Nat) (a_reaches : Nat) (a_gains : Nat) (sz : Nat) (plan_planes : Int32) (plan_passes : Int32) (plan_segments : Int32) (plan_style : Int32) (plan_firstOfSegment : Int32) (reaches_n : Nat) (reaches_f : Nat → Int32) (p1 : Int32) (p2 : Int32) (hpre : P_X6_closeSegment p1 p2 plan_firstOfSegment reaches_n reaches_f) : Met l yX6_closeSegment wsX6_closeSegment rm_X6_closeSegment (va_Pc [.ref a_plan, .int p1, .int p2] (fun U => U.heap.size = sz ∧ va_P (dC, dI) vwCl (wd_plan_reaches cI a_plan a_reaches a_gains plan_planes plan_passes plan_segments plan_style plan_firstOfSegment reaches_n reaches_f) U.heap ∧ va_K (dC, dI) vwCl [(cI, .int), (cJ, .long), (cZ, .boolean)] U ∧ va_D (fun _ => True) (wd_plan_reaches cI a_plan a_reaches a_gains plan_planes plan_passes plan_segments plan_style plan_firstOfSegment reaches_n reaches_f))) (Q_X6_closeSegment dC dI cI cJ cZ a_plan a_reaches a_gains (va_A (wd_plan_reaches cI a_plan a_reaches a_gains plan_planes plan_passes plan_segments plan_style plan_firstOfSegment reaches_n reaches_f) sz) plan_planes plan_passes plan_segments plan_style plan_firstOfSegment reaches_n reaches_f (F_X6_closeSegment p1 p2 plan_segments plan_firstOfSegment reaches_f)) 0 0 (va_A (wd_plan_reaches cI a_plan a_reaches a_gains plan_planes plan_passes plan_segments plan_style plan_firstOfSegment reaches_n reaches_f) sz) := by
  refine Met.ofW (cc := cX6_closeSegment) (maxL := 4) (ret := none) (by decide) rfl ?_
  intro p e s m args below meth c s₁ B hml hv
  obtain ⟨rfl, hsz, hP, hK, hD0⟩ := hv
  have hx := B.exec
  have hb := B.bytes
  have hr := B.returns
  have hts := atoms_spec (ws := wsX6_closeSegment) B.pre
  have hown : s.vm.findClass RX6 = some m.cls := findClass_of_methodNamed B.named
  have hlocks := B.notSynchronized
  subst hsz
  have hD := hD0.self (sz := s.heap.size)
  generalize hAe : va_A (wd_plan_reaches cI a_plan a_reaches a_gains plan_planes plan_passes plan_segments plan_style plan_firstOfSegment reaches_n reaches_f) s.heap.size = A at hD ⊢
  have hA : ∀ q : Nat, s.heap.size ≤ q → A q := fun q h => by rw [← hAe]; exact Or.inr h
  have hS : va_S A s.heap s.heap [] := va_S.rf
  obtain ⟨H, hH⟩ : ∃ z, z = s.heap := ⟨_, rfl⟩
  have hP : va_P (dC, dI) vwCl (wd_plan_reaches cI a_plan a_reaches a_gains plan_planes plan_passes plan_segments plan_style plan_firstOfSegment reaches_n reaches_f) H := by rw [hH]; exact hP
  have hS : va_S A s.heap H [] := by rw [hH]; exact va_S.rf
  obtain ⟨g, hg⟩ : ∃ z, F_X6_closeSegment p1 p2 plan_segments plan_firstOfSegment reaches_f = z := ⟨_, rfl⟩
  rw [hg]
  generalize hQe : MQ below (Q_X6_closeSegment dC dI cI cJ cZ a_plan a_reaches a_gains A plan_planes plan_passes plan_segments plan_style plan_firstOfSegment reaches_n reaches_f g) _ s 0 0 A = Q
  rw [← hH]
  clear hH
  have hl := lv_entry ([.ref a_plan, .int p1, .int p2]) (n := 4) (Nat.le_of_ble_eq_true rfl)
  rw [lg_entry_eq]
  generalize (lg_sl ([.ref a_plan, .int p1, .int p2]) ++ List.replicate (4 - (lg_sl ([.ref a_plan, .int p1, .int p2])).length) Slot.unset).toArray = ls at hl ⊢
  have hl : lv_has ls 4 [(0, .ref a_plan), (1, .int p1), (2, .int p2)] := hl
  unfold F_X6_closeSegment at hg
  unfold P_X6_closeSegment at hpre
  refine lv_aload_n hx hb dX6_closeSegment_0 rfl (lv_at hl 0 rfl) ?_
  refine va_get (D := (dC, dI)) (ci := 5) (v := .int plan_firstOfSegment) (C := RX6) (T := TX6) (N := 7) hx hb hts iw_X6_closeSegment_X6 hown hK hP 0 rfl rfl 6 (by decide) (hts (.fieldLink RX6 32 "PlaneBlocks$Plan" "firstOfSegment" "I") (by decide +kernel)) (fun _ h9 => h9) rfl dX6_closeSegment_1 ?_
  refine lv_istore_n (lv' := [(3, .int plan_firstOfSegment), (0, .ref a_plan), (1, .int p1), (2, .int p2)]) hx hb dX6_closeSegment_4 rfl hl (by decide) rfl (fun ls hl => ?_)
  obtain ⟨j_1, hj_1⟩ : ∃ z, L_X6_closeSegment_j_1 p1 p2 fu plan_firstOfSegment reaches_f = z := ⟨_, rfl⟩
  have hg : (plan_segments + (1 : Int32), p1 + (1 : Int32), upd j_1.2 p1.toNatClampNeg p2) = g := by first | (rw [hj_1] at hg; exact hg) | (subst hj_1; exact hg)
  have hJ_j_1 : ∀ (H : Heap) (locs : List Loc) (ls : Array Slot), va_P (dC, dI) vwCl (wd_plan_reaches cI a_plan a_reaches a_gains plan_planes plan_passes plan_segments plan_style plan_firstOfSegment reaches_n j_1.2) H → va_D A (wd_plan_reaches cI a_plan a_reaches a_gains plan_planes plan_passes plan_segments plan_style plan_firstOfSegment reaches_n j_1.2) → va_S A s.heap H locs → lv_has ls 4 [(0, .ref a_plan), (1, .int p1), (2, .int p2), (3, .int j_1.1)] → W p l e (headSpec wsX6_closeSegment rm_X6_closeSegment).room s m ([.ref a_plan, .int p1, .int p2] : List Value).toArray below meth c H locs 0 0 Q (F0 m 32 ls []) := by
    intro H locs ls hP hD hS hl
    have hpre := hpre.2 j_1 hj_1
    refine lv_aload_n hx hb dX6_closeSegment_32 rfl (lv_at hl 0 rfl) ?_
    refine va_get (D := (dC, dI)) (ci := 5) (v := .ref a_reaches) (C := RX6) (T := TX6) (N := 7) hx hb hts iw_X6_closeSegment_X6 hown hK hP 0 rfl rfl 0 (by decide) (hts (.fieldLink RX6 9 "PlaneBlocks$Plan" "reaches" "[I") (by decide +kernel)) (fun _ h9 => h9) rfl dX6_closeSegment_33 ?_
    refine lv_iload_n hx hb dX6_closeSegment_36 rfl (lv_at hl 1 rfl) ?_
    refine lv_iload_n hx hb dX6_closeSegment_37 rfl (lv_at hl 2 rfl) ?_
    have h_5 := hpre
    refine va_iast hx hb hK hP hD hS 1 0 rfl rfl h_5 dX6_closeSegment_38 (fun H locs hP hD hS => ?_)
    have hP : va_P (dC, dI) vwCl (wd_plan_reaches cI a_plan a_reaches a_gains plan_planes plan_passes plan_segments plan_style plan_firstOfSegment reaches_n (upd j_1.2 p1.toNatClampNeg p2)) H := hP
    have hD : va_D A (wd_plan_reaches cI a_plan a_reaches a_gains plan_planes plan_passes plan_segments plan_style plan_firstOfSegment reaches_n (upd j_1.2 p1.toNatClampNeg p2)) := hD
    refine lv_aload_n hx hb dX6_closeSegment_39 rfl (lv_at hl 0 rfl) ?_
    refine lv_iload_n hx hb dX6_closeSegment_40 rfl (lv_at hl 1 rfl) ?_
    refine lv_iconst (v := 1) hx hb dX6_closeSegment_41 (by decide) ?_
    refine lv_iadd hx hb dX6_closeSegment_42 ?_
    refine va_put (D := (dC, dI)) (ci := 5) (v := .int (p1 + (1 : Int32))) (ty := .int) (C := RX6) (T := TX6) (N := 7) hx hb hts iw_X6_closeSegment_X6 tyX6 tyX6_ok nmX6 hown hK hP hD hS 0 rfl rfl 6 (by decide) (hts (.fieldLink RX6 32 "PlaneBlocks$Plan" "firstOfSegment" "I") (by decide +kernel)) (fun _ h9 => h9) rfl (by decide +kernel) rfl rfl (Nat.le_of_ble_eq_true rfl) dX6_closeSegment_43 (fun H locs hP hD hS => ?_)
    have hP : va_P (dC, dI) vwCl (wd_plan_reaches cI a_plan a_reaches a_gains plan_planes plan_passes plan_segments plan_style (p1 + (1 : Int32)) reaches_n (upd j_1.2 p1.toNatClampNeg p2)) H := hP
    have hD : va_D A (wd_plan_reaches cI a_plan a_reaches a_gains plan_planes plan_passes plan_segments plan_style (p1 + (1 : Int32)) reaches_n (upd j_1.2 p1.toNatClampNeg p2)) := hD
    refine lv_aload_n hx hb dX6_closeSegment_46 rfl (lv_at hl 0 rfl) ?_
    refine lv_dup hx hb dX6_closeSegment_47 rfl ?_
    refine va_get (D := (dC, dI)) (ci := 5) (v := .int plan_segments) (C := RX6) (T := TX6) (N := 7) hx hb hts iw_X6_closeSegment_X6 hown hK hP 0 rfl rfl 4 (by decide) (hts (.fieldLink RX6 29 "PlaneBlocks$Plan" "segments" "I") (by decide +kernel)) (fun _ h9 => h9) rfl dX6_closeSegment_48 ?_
    refine lv_iconst (v := 1) hx hb dX6_closeSegment_51 (by decide) ?_
    refine lv_iadd hx hb dX6_closeSegment_52 ?_
    refine va_put (D := (dC, dI)) (ci := 5) (v := .int (plan_segments + (1 : Int32))) (ty := .int) (C := RX6) (T := TX6) (N := 7) hx hb hts iw_X6_closeSegment_X6 tyX6 tyX6_ok nmX6 hown hK hP hD hS 0 rfl rfl 4 (by decide) (hts (.fieldLink RX6 29 "PlaneBlocks$Plan" "segments" "I") (by decide +kernel)) (fun _ h9 => h9) rfl (by decide +kernel) rfl rfl (Nat.le_of_ble_eq_true rfl) dX6_closeSegment_53 (fun H locs hP hD hS => ?_)
    have hP : va_P (dC, dI) vwCl (wd_plan_reaches cI a_plan a_reaches a_gains plan_planes plan_passes (plan_segments + (1 : Int32)) plan_style (p1 + (1 : Int32)) reaches_n (upd j_1.2 p1.toNatClampNeg p2)) H := hP
    have hD : va_D A (wd_plan_reaches cI a_plan a_reaches a_gains plan_planes plan_passes (plan_segments + (1 : Int32)) plan_style (p1 + (1 : Int32)) reaches_n (upd j_1.2 p1.toNatClampNeg p2)) := hD
    subst hg
    rw [← hQe]
    exact W.vret hx hb hr (fun t ht hW => ⟨⟨(), rfl, trivial, by rw [ht]; exact hP, va_K.moved hW.alike hK, hD⟩, hS.F ht⟩) hS.2.2 dX6_closeSegment_56
  have hpre := hpre.1
  have hL_j_1 : ∀ (n : Nat) (v3_j_1 : Int32) (reaches_f_j_1 : Nat → Int32) (H : Heap) (locs : List Loc) (ls : Array Slot), PL_X6_closeSegment_j_1 p1 p2 reaches_n n v3_j_1 reaches_f_j_1 → L_X6_closeSegment_j_1 p1 p2 n v3_j_1 reaches_f_j_1 = j_1 → va_P (dC, dI) vwCl (wd_plan_reaches cI a_plan a_reaches a_gains plan_planes plan_passes plan_segments plan_style plan_firstOfSegment reaches_n reaches_f_j_1) H → va_D A (wd_plan_reaches cI a_plan a_reaches a_gains plan_planes plan_passes plan_segments plan_style plan_firstOfSegment reaches_n reaches_f_j_1) → va_S A s.heap H locs → lv_has ls 4 [(0, .ref a_plan), (1, .int p1), (2, .int p2), (3, .int v3_j_1)] → W p l e (headSpec wsX6_closeSegment rm_X6_closeSegment).room s m ([.ref a_plan, .int p1, .int p2] : List Value).toArray below meth c H locs 0 0 Q (F0 m 5 ls []) := by
    intro n
    induction n with
    | zero => intro v3_j_1 reaches_f_j_1 H locs ls hpre; exact absurd hpre id
    | succ n ih =>
      intro v3_j_1 reaches_f_j_1 H locs ls hpre hg hP hD hS hl
      rw [PL_X6_closeSegment_j_1] at hpre
      rw [L_X6_closeSegment_j_1] at hg
      refine lv_iload_n hx hb dX6_closeSegment_5 rfl (lv_at hl 3 rfl) ?_
      refine lv_iload_n hx hb dX6_closeSegment_6 rfl (lv_at hl 1 rfl) ?_
      refine lv_icmp_ge (tgt := 32) hx hb dX6_closeSegment_7 (by decide) (fun c_2 => ?_) (fun c_2 => ?_)
      · rw [if_pos c_2] at hg
        exact hJ_j_1 _ _ _ (by rw [← hg]; exact hP) (by rw [← hg]; exact hD) hS (by rw [← hg]; exact lv_sub hl [0, 1, 2, 3] rfl)
      · rw [if_neg c_2] at hg
        have hpre := hpre c_2
        refine lv_aload_n hx hb dX6_closeSegment_10 rfl (lv_at hl 0 rfl) ?_
        refine va_get (D := (dC, dI)) (ci := 5) (v := .ref a_reaches) (C := RX6) (T := TX6) (N := 7) hx hb hts iw_X6_closeSegment_X6 hown hK hP 0 rfl rfl 0 (by decide) (hts (.fieldLink RX6 9 "PlaneBlocks$Plan" "reaches" "[I") (by decide +kernel)) (fun _ h9 => h9) rfl dX6_closeSegment_11 ?_
        refine lv_iload_n hx hb dX6_closeSegment_14 rfl (lv_at hl 3 rfl) ?_
        refine lv_aload_n hx hb dX6_closeSegment_15 rfl (lv_at hl 0 rfl) ?_
        refine va_get (D := (dC, dI)) (ci := 5) (v := .ref a_reaches) (C := RX6) (T := TX6) (N := 7) hx hb hts iw_X6_closeSegment_X6 hown hK hP 0 rfl rfl 0 (by decide) (hts (.fieldLink RX6 9 "PlaneBlocks$Plan" "reaches" "[I") (by decide +kernel)) (fun _ h9 => h9) rfl dX6_closeSegment_16 ?_
        refine lv_iload_n hx hb dX6_closeSegment_19 rfl (lv_at hl 3 rfl) ?_
        have h_3 := hpre.1
        have hpre := hpre.2
        refine va_iald hx hb hK hP 1 0 rfl rfl h_3 dX6_closeSegment_20 ?_
        refine lv_iload_n hx hb dX6_closeSegment_21 rfl (lv_at hl 2 rfl) ?_
        refine va_mmin hx hb (hml.trans hl.1.symm) hown (hts (.methodLink RX6 43 Lib.Math.min.name) (by decide +kernel)) (hts (.static Lib.Math.min.name) (by decide +kernel)) (hts (.initialized "java/lang/Math") (by decide +kernel)) (hts (.code Lib.Math.min.name Lib.Math.min.code 2 (some .int)) (by decide +kernel)) (Nat.le_of_ble_eq_true rfl) (Nat.le_of_ble_eq_true rfl) (Nat.le_of_ble_eq_true rfl) (Nat.le_of_ble_eq_true rfl) dX6_closeSegment_22 ?_
        refine va_iast hx hb hK hP hD hS 1 0 rfl rfl h_3 dX6_closeSegment_25 (fun H locs hP hD hS => ?_)
        have hP : va_P (dC, dI) vwCl (wd_plan_reaches cI a_plan a_reaches a_gains plan_planes plan_passes plan_segments plan_style plan_firstOfSegment reaches_n (upd reaches_f_j_1 v3_j_1.toNatClampNeg (if p2 < (reaches_f_j_1 v3_j_1.toNatClampNeg) then p2 else (reaches_f_j_1 v3_j_1.toNatClampNeg)))) H := hP
        have hD : va_D A (wd_plan_reaches cI a_plan a_reaches a_gains plan_planes plan_passes plan_segments plan_style plan_firstOfSegment reaches_n (upd reaches_f_j_1 v3_j_1.toNatClampNeg (if p2 < (reaches_f_j_1 v3_j_1.toNatClampNeg) then p2 else (reaches_f_j_1 v3_j_1.toNatClampNeg)))) := hD
        refine lv_iinc (v := (v3_j_1 + (1 : Int32))) (lv' := [(3, .int (v3_j_1 + (1 : Int32))), (0, .ref a_plan), (1, .int p1), (2, .int p2)]) hx hb dX6_closeSegment_26 hl (k := 3) rfl rfl (by decide) rfl (fun ls hl => ?_)
        refine lv_goto (tgt := 5) hx hb dX6_closeSegment_29 (by decide) ?_
        exact ih (v3_j_1 + (1 : Int32)) (upd reaches_f_j_1 v3_j_1.toNatClampNeg (if p2 < (reaches_f_j_1 v3_j_1.toNatClampNeg) then p2 else (reaches_f_j_1 v3_j_1.toNatClampNeg))) _ _ _ hpre hg hP hD hS (lv_sub hl [1, 2, 3, 0] rfl)
  exact hL_j_1 fu plan_firstOfSegment reaches_f _ _ _ hpre hj_1 hP hD hS (lv_sub hl [1, 2, 3, 0] rfl)
abbrev rm_X6_startOf : Room := { frames := 0, cells := 0, slots := 0, locals := 0 }
abbrev Q_X6_startOf (dC : Nat → ClassId) (dI : Nat → Nat → Nat) (cI cJ cZ : ClassId) (a_plan : Nat) (a_reaches : Nat) (a_gains : Nat) (A : Nat → Prop) (plan_planes : Int32) (plan_passes : Int32) (plan_segments : Int32) (plan_style : Int32) (plan_firstOfSegment : Int32) (reaches_n : Nat) (reaches_f : Nat → Int32) (g : Int32) : Array Value → State → Outcome → State → Prop := va_Qi (fun (r : Int32) (_ : Unit) => r = g) (fun u t => va_P (dC, dI) vwCl (wd_plan_reaches cI a_plan a_reaches a_gains plan_planes plan_passes plan_segments plan_style plan_firstOfSegment reaches_n reaches_f) t.heap ∧ va_K (dC, dI) vwCl [(cI, .int), (cJ, .long), (cZ, .boolean)] t ∧ va_D A (wd_plan_reaches cI a_plan a_reaches a_gains plan_planes plan_passes plan_segments plan_style plan_firstOfSegment reaches_n reaches_f)) A
theorem iw_X6_startOf_X6 : ∀ w ∈ u_ws RX6 TX6 7, w ∈ wsX6_startOf := by decide +kernel
set_option maxHeartbeats 4000000 in
set_option maxRecDepth 100000 in
theorem c_X6_startOf (l : Launch) (dC : Nat → ClassId) (dI : Nat → Nat → Nat) (cI cJ cZ : ClassId) (a_plan : Nat) (a_reaches : Nat) (a_gains : Nat) (sz : Nat) (plan_planes : Int32) (plan_passes : Int32) (plan_segments : Int32) (plan_style : Int32) (plan_firstOfSegment : Int32) (reaches_n : Nat) (reaches_f : Nat → Int32) (p1 : Int32) (hpre : P_X6_startOf p1 reaches_n) : Met l yX6_startOf wsX6_startOf rm_X6_startOf (va_Pc [.ref a_plan, .int p1] (fun U => U.heap.size = sz ∧ va_P (dC, dI) vwCl (wd_plan_reaches cI a_plan a_reaches a_gains plan_planes plan_passes plan_segments plan_style plan_firstOfSegment reaches_n reaches_f) U.heap ∧ va_K (dC, dI) vwCl [(cI, .int), (cJ, .long), (cZ, .boolean)] U ∧ va_D (fun _ => True) (wd_plan_reaches cI a_plan a_reaches a_gains plan_planes plan_passes plan_segments plan_style plan_firstOfSegment reaches_n reaches_f))) (Q_X6_startOf dC dI cI cJ cZ a_plan a_reaches a_gains (va_A (wd_plan_reaches cI a_plan a_reaches a_gains plan_planes plan_passes plan_segments plan_style plan_firstOfSegment reaches_n reaches_f) sz) plan_planes plan_passes plan_segments plan_style plan_firstOfSegment reaches_n reaches_f (F_X6_startOf p1 reaches_f)) 0 0 (va_A (wd_plan_reaches cI a_plan a_reaches a_gains plan_planes plan_passes plan_segments plan_style plan_firstOfSegment reaches_n reaches_f) sz) := by
  refine Met.ofW (cc := cX6_startOf) (maxL := 2) (ret := (some .int)) (by decide) rfl ?_
  intro p e s m args below meth c s₁ B hml hv
  obtain ⟨rfl, hsz, hP, hK, hD0⟩ := hv
  have hx := B.exec
  have hb := B.bytes
  have hr := B.returns
  have hts := atoms_spec (ws := wsX6_startOf) B.pre
  have hown : s.vm.findClass RX6 = some m.cls := findClass_of_methodNamed B.named
  have hlocks := B.notSynchronized
  subst hsz
  have hD := hD0.self (sz := s.heap.size)
  generalize hAe : va_A (wd_plan_reaches cI a_plan a_reaches a_gains plan_planes plan_passes plan_segments plan_style plan_firstOfSegment reaches_n reaches_f) s.heap.size = A at hD ⊢
  have hA : ∀ q : Nat, s.heap.size ≤ q → A q := fun q h => by rw [← hAe]; exact Or.inr h
  have hS : va_S A s.heap s.heap [] := va_S.rf
  obtain ⟨H, hH⟩ : ∃ z, z = s.heap := ⟨_, rfl⟩
  have hP : va_P (dC, dI) vwCl (wd_plan_reaches cI a_plan a_reaches a_gains plan_planes plan_passes plan_segments plan_style plan_firstOfSegment reaches_n reaches_f) H := by rw [hH]; exact hP
  have hS : va_S A s.heap H [] := by rw [hH]; exact va_S.rf
  obtain ⟨g, hg⟩ : ∃ z, F_X6_startOf p1 reaches_f = z := ⟨_, rfl⟩
  rw [hg]
  generalize hQe : MQ below (Q_X6_startOf dC dI cI cJ cZ a_plan a_reaches a_gains A plan_planes plan_passes plan_segments plan_style plan_firstOfSegment reaches_n reaches_f g) _ s 0 0 A = Q
  rw [← hH]
  clear hH
  have hl := lv_entry ([.ref a_plan, .int p1]) (n := 2) (Nat.le_of_ble_eq_true rfl)
  rw [lg_entry_eq]
  generalize (lg_sl ([.ref a_plan, .int p1]) ++ List.replicate (2 - (lg_sl ([.ref a_plan, .int p1])).length) Slot.unset).toArray = ls at hl ⊢
  have hl : lv_has ls 2 [(0, .ref a_plan), (1, .int p1)] := hl
  unfold F_X6_startOf at hg
  unfold P_X6_startOf at hpre
  refine lv_iload_n hx hb dX6_startOf_0 rfl (lv_at hl 1 rfl) ?_
  refine lv_if_ne (tgt := 8) hx hb dX6_startOf_1 (by decide) (fun c_1 => ?_) (fun c_1 => ?_)
  · rw [if_neg c_1] at hg
    have hpre := hpre c_1
    refine lv_aload_n hx hb dX6_startOf_8 rfl (lv_at hl 0 rfl) ?_
    refine va_get (D := (dC, dI)) (ci := 5) (v := .ref a_reaches) (C := RX6) (T := TX6) (N := 7) hx hb hts iw_X6_startOf_X6 hown hK hP 0 rfl rfl 0 (by decide) (hts (.fieldLink RX6 9 "PlaneBlocks$Plan" "reaches" "[I") (by decide +kernel)) (fun _ h9 => h9) rfl dX6_startOf_9 ?_
    refine lv_iload_n hx hb dX6_startOf_12 rfl (lv_at hl 1 rfl) ?_
    refine lv_iconst (v := 1) hx hb dX6_startOf_13 (by decide) ?_
    refine lv_isub hx hb dX6_startOf_14 ?_
    have h_2 := hpre
    refine va_iald hx hb hK hP 1 0 rfl rfl h_2 dX6_startOf_15 ?_
    subst hg
    rw [← hQe]
    exact W.iret (v := (reaches_f (p1 - (1 : Int32)).toNatClampNeg)) hx hb hr (fun t ht hW => ⟨⟨(reaches_f (p1 - (1 : Int32)).toNatClampNeg), (), rfl, rfl, by rw [ht]; exact hP, va_K.moved hW.alike hK, hD⟩, hS.F ht⟩) hS.2.2 dX6_startOf_16
  · rw [if_pos c_1] at hg
    refine lv_iconst (v := 0) hx hb dX6_startOf_4 (by decide) ?_
    refine lv_goto (tgt := 16) hx hb dX6_startOf_5 (by decide) ?_
    subst hg
    rw [← hQe]
    exact W.iret (v := (0 : Int32)) hx hb hr (fun t ht hW => ⟨⟨(0 : Int32), (), rfl, rfl, by rw [ht]; exact hP, va_K.moved hW.alike hK, hD⟩, hS.F ht⟩) hS.2.2 dX6_startOf_16
abbrev rm_X6_endOf : Room := { frames := 2, cells := 0, slots := 0, locals := 42 }
abbrev Q_X6_endOf (dC : Nat → ClassId) (dI : Nat → Nat → Nat) (cI cJ cZ : ClassId) (a_plan : Nat) (a_reaches : Nat) (a_gains : Nat) (A : Nat → Prop) (plan_planes : Int32) (plan_passes : Int32) (plan_segments : Int32) (plan_style : Int32) (plan_firstOfSegment : Int32) (reaches_n : Nat) (reaches_f : Nat → Int32) (g : Int32) : Array Value → State → Outcome → State → Prop := va_Qi (fun (r : Int32) (_ : Unit) => r = g) (fun u t => va_P (dC, dI) vwCl (wd_plan_reaches cI a_plan a_reaches a_gains plan_planes plan_passes plan_segments plan_style plan_firstOfSegment reaches_n reaches_f) t.heap ∧ va_K (dC, dI) vwCl [(cI, .int), (cJ, .long), (cZ, .boolean)] t ∧ va_D A (wd_plan_reaches cI a_plan a_reaches a_gains plan_planes plan_passes plan_segments plan_style plan_firstOfSegment reaches_n reaches_f)) A
theorem iw_X6_endOf_X6 : ∀ w ∈ u_ws RX6 TX6 7, w ∈ wsX6_endOf := by decide +kernel
set_option maxHeartbeats 4000000 in
set_option maxRecDepth 100000 in
theorem c_X6_endOf (l : Launch) (dC : Nat → ClassId) (dI : Nat → Nat → Nat) (cI cJ cZ : ClassId) (a_plan : Nat) (a_reaches : Nat) (a_gains : Nat) (sz : Nat) (plan_planes : Int32) (plan_passes : Int32) (plan_segments : Int32) (plan_style : Int32) (plan_firstOfSegment : Int32) (reaches_n : Nat) (reaches_f : Nat → Int32) (p1 : Int32) (p2 : Int32) (hpre : P_X6_endOf p1 p2 plan_passes plan_style reaches_n) : Met l yX6_endOf wsX6_endOf rm_X6_endOf (va_Pc [.ref a_plan, .int p1, .int p2] (fun U => U.heap.size = sz ∧ va_P (dC, dI) vwCl (wd_plan_reaches cI a_plan a_reaches a_gains plan_planes plan_passes plan_segments plan_style plan_firstOfSegment reaches_n reaches_f) U.heap ∧ va_K (dC, dI) vwCl [(cI, .int), (cJ, .long), (cZ, .boolean)] U ∧ va_D (fun _ => True) (wd_plan_reaches cI a_plan a_reaches a_gains plan_planes plan_passes plan_segments plan_style plan_firstOfSegment reaches_n reaches_f))) (Q_X6_endOf dC dI cI cJ cZ a_plan a_reaches a_gains (va_A (wd_plan_reaches cI a_plan a_reaches a_gains plan_planes plan_passes plan_segments plan_style plan_firstOfSegment reaches_n reaches_f) sz) plan_planes plan_passes plan_segments plan_style plan_firstOfSegment reaches_n reaches_f (F_X6_endOf p1 p2 plan_passes plan_style reaches_f)) 0 0 (va_A (wd_plan_reaches cI a_plan a_reaches a_gains plan_planes plan_passes plan_segments plan_style plan_firstOfSegment reaches_n reaches_f) sz) := by
  refine Met.ofW (cc := cX6_endOf) (maxL := 4) (ret := (some .int)) (by decide) rfl ?_
  intro p e s m args below meth c s₁ B hml hv
  obtain ⟨rfl, hsz, hP, hK, hD0⟩ := hv
  have hx := B.exec
  have hb := B.bytes
  have hr := B.returns
  have hts := atoms_spec (ws := wsX6_endOf) B.pre
  have hown : s.vm.findClass RX6 = some m.cls := findClass_of_methodNamed B.named
  have hlocks := B.notSynchronized
  subst hsz
  have hD := hD0.self (sz := s.heap.size)
  generalize hAe : va_A (wd_plan_reaches cI a_plan a_reaches a_gains plan_planes plan_passes plan_segments plan_style plan_firstOfSegment reaches_n reaches_f) s.heap.size = A at hD ⊢
  have hA : ∀ q : Nat, s.heap.size ≤ q → A q := fun q h => by rw [← hAe]; exact Or.inr h
  have hS : va_S A s.heap s.heap [] := va_S.rf
  obtain ⟨H, hH⟩ : ∃ z, z = s.heap := ⟨_, rfl⟩
  have hP : va_P (dC, dI) vwCl (wd_plan_reaches cI a_plan a_reaches a_gains plan_planes plan_passes plan_segments plan_style plan_firstOfSegment reaches_n reaches_f) H := by rw [hH]; exact hP
  have hS : va_S A s.heap H [] := by rw [hH]; exact va_S.rf
  obtain ⟨g, hg⟩ : ∃ z, F_X6_endOf p1 p2 plan_passes plan_style reaches_f = z := ⟨_, rfl⟩
  rw [hg]
  generalize hQe : MQ below (Q_X6_endOf dC dI cI cJ cZ a_plan a_reaches a_gains A plan_planes plan_passes plan_segments plan_style plan_firstOfSegment reaches_n reaches_f g) _ s 0 0 A = Q
  rw [← hH]
  clear hH
  have hl := lv_entry ([.ref a_plan, .int p1, .int p2]) (n := 4) (Nat.le_of_ble_eq_true rfl)
  rw [lg_entry_eq]
  generalize (lg_sl ([.ref a_plan, .int p1, .int p2]) ++ List.replicate (4 - (lg_sl ([.ref a_plan, .int p1, .int p2])).length) Slot.unset).toArray = ls at hl ⊢
  have hl : lv_has ls 4 [(0, .ref a_plan), (1, .int p1), (2, .int p2)] := hl
  unfold F_X6_endOf at hg
  unfold P_X6_endOf at hpre
  refine lv_iload_n hx hb dX6_endOf_0 rfl (lv_at hl 1 rfl) ?_
  refine lv_istore_n (lv' := [(3, .int p1), (0, .ref a_plan), (1, .int p1), (2, .int p2)]) hx hb dX6_endOf_1 rfl hl (by decide) rfl (fun ls hl => ?_)
  obtain ⟨j_1, hj_1⟩ : ∃ z, L_X6_endOf_j_1 p2 plan_passes plan_style fu p1 = z := ⟨_, rfl⟩
  have hg : (reaches_f j_1.toNatClampNeg) = g := by first | (rw [hj_1] at hg; exact hg) | (subst hj_1; exact hg)
  have hJ_j_1 : ∀ (H : Heap) (locs : List Loc) (ls : Array Slot), va_P (dC, dI) vwCl (wd_plan_reaches cI a_plan a_reaches a_gains plan_planes plan_passes plan_segments plan_style plan_firstOfSegment reaches_n reaches_f) H → va_D A (wd_plan_reaches cI a_plan a_reaches a_gains plan_planes plan_passes plan_segments plan_style plan_firstOfSegment reaches_n reaches_f) → va_S A s.heap H locs → lv_has ls 4 [(0, .ref a_plan), (1, .int p1), (2, .int p2), (3, .int j_1)] → W p l e (headSpec wsX6_endOf rm_X6_endOf).room s m ([.ref a_plan, .int p1, .int p2] : List Value).toArray below meth c H locs 0 0 Q (F0 m 23 ls []) := by
    intro H locs ls hP hD hS hl
    have hpre := hpre.2 j_1 hj_1
    refine lv_aload_n hx hb dX6_endOf_23 rfl (lv_at hl 0 rfl) ?_
    refine va_get (D := (dC, dI)) (ci := 5) (v := .ref a_reaches) (C := RX6) (T := TX6) (N := 7) hx hb hts iw_X6_endOf_X6 hown hK hP 0 rfl rfl 0 (by decide) (hts (.fieldLink RX6 9 "PlaneBlocks$Plan" "reaches" "[I") (by decide +kernel)) (fun _ h9 => h9) rfl dX6_endOf_24 ?_
    refine lv_iload_n hx hb dX6_endOf_27 rfl (lv_at hl 3 rfl) ?_
    have h_5 := hpre
    refine va_iald hx hb hK hP 1 0 rfl rfl h_5 dX6_endOf_28 ?_
    subst hg
    rw [← hQe]
    exact W.iret (v := (reaches_f j_1.toNatClampNeg)) hx hb hr (fun t ht hW => ⟨⟨(reaches_f j_1.toNatClampNeg), (), rfl, rfl, by rw [ht]; exact hP, va_K.moved hW.alike hK, hD⟩, hS.F ht⟩) hS.2.2 dX6_endOf_29
  have hpre := hpre.1
  have hL_j_1 : ∀ (n : Nat) (v3_j_1 : Int32) (H : Heap) (locs : List Loc) (ls : Array Slot), PL_X6_endOf_j_1 p2 plan_passes plan_style n v3_j_1 → L_X6_endOf_j_1 p2 plan_passes plan_style n v3_j_1 = j_1 → va_P (dC, dI) vwCl (wd_plan_reaches cI a_plan a_reaches a_gains plan_planes plan_passes plan_segments plan_style plan_firstOfSegment reaches_n reaches_f) H → va_D A (wd_plan_reaches cI a_plan a_reaches a_gains plan_planes plan_passes plan_segments plan_style plan_firstOfSegment reaches_n reaches_f) → va_S A s.heap H locs → lv_has ls 4 [(0, .ref a_plan), (1, .int p1), (2, .int p2), (3, .int v3_j_1)] → W p l e (headSpec wsX6_endOf rm_X6_endOf).room s m ([.ref a_plan, .int p1, .int p2] : List Value).toArray below meth c H locs 0 0 Q (F0 m 2 ls []) := by
    intro n
    induction n with
    | zero => intro v3_j_1 H locs ls hpre; exact absurd hpre id
    | succ n ih =>
      intro v3_j_1 H locs ls hpre hg hP hD hS hl
      rw [PL_X6_endOf_j_1] at hpre
      rw [L_X6_endOf_j_1] at hg
      refine lv_iload_n hx hb dX6_endOf_2 rfl (lv_at hl 3 rfl) ?_
      refine lv_iload_n hx hb dX6_endOf_3 rfl (lv_at hl 2 rfl) ?_
      refine lv_iconst (v := 1) hx hb dX6_endOf_4 (by decide) ?_
      refine lv_isub hx hb dX6_endOf_5 ?_
      refine lv_icmp_ge (tgt := 23) hx hb dX6_endOf_6 (by decide) (fun c_2 => ?_) (fun c_2 => ?_)
      · rw [if_pos c_2] at hg
        exact hJ_j_1 _ _ _ hP hD hS (by rw [← hg]; exact lv_sub hl [0, 1, 2, 3] rfl)
      · rw [if_neg c_2] at hg
        have hpre := hpre c_2
        refine lv_aload_n hx hb dX6_endOf_9 rfl (lv_at hl 0 rfl) ?_
        refine lv_iload_n hx hb dX6_endOf_10 rfl (lv_at hl 3 rfl) ?_
        have hPc := hP.sub (ws' := (wd_plan a_plan a_reaches a_gains plan_planes plan_passes plan_segments plan_style plan_firstOfSegment)) [0] rfl
        have hDc := hD.sub (ws' := (wd_plan a_plan a_reaches a_gains plan_planes plan_passes plan_segments plan_style plan_firstOfSegment)) [0] (by decide) rfl
        have hFc := va_free (wc := (wd_plan a_plan a_reaches a_gains plan_planes plan_passes plan_segments plan_style plan_firstOfSegment)) hD hS hA [0] rfl
        refine va_calli (va_runV (As := [.int v3_j_1]) (rest := []) ⟨hx, hb, hml, hown, hts⟩ (c_X6_endsSegment l dC dI cI cJ cZ a_plan a_reaches a_gains H.size plan_planes plan_passes plan_segments plan_style plan_firstOfSegment v3_j_1) (cwV 1 hts gX6_endOf_X6_endsSegment rfl rfl rfl (by decide +kernel) ⟨Nat.le_of_ble_eq_true rfl, Nat.le_of_ble_eq_true rfl⟩) ⟨fun a U g mk q => by obtain ⟨q0, q1, qP, qK, qD⟩ := q; exact ⟨q0, q1, qP, va_K.moved (u := U) (U := U.calling g mk a) (Vm.Alike.refl U.vm) qK, qD⟩, va_recv hK hPc (ci := 5) (q0 := 0) rfl rfl, fun U hU hW => ⟨rfl, by rw [hU], by rw [hU]; exact hPc, va_K.moved hW.alike hK, hDc.weaken (fun _ _ _ _ => trivial)⟩⟩ rfl rfl hl.1 rfl (lv_room (Nat.le_of_ble_eq_true rfl)) dX6_endOf_11 ⟨Nat.le_of_ble_eq_true rfl, Nat.le_of_ble_eq_true rfl⟩) hS (fun q _ h => hFc q h) hFc (fun r u t H1 locs ht hvm hw hB hz1 hk1 hS => ?_)
        obtain ⟨hP1, hK1, hD1⟩ := hB
        rw [ht] at hP1
        obtain ⟨r_3, hr_3⟩ : ∃ z, F_X6_endsSegment v3_j_1 plan_passes plan_style = z := ⟨_, rfl⟩
        try rw [hr_3] at hw
        try rw [hr_3] at hP1
        try rw [hr_3] at hD1
        have hg : (if r_3 = (0 : Int32) then (L_X6_endOf_j_1 p2 plan_passes plan_style n (v3_j_1 + (1 : Int32))) else v3_j_1) = j_1 := by first | (rw [hr_3] at hg; exact hg) | (subst hr_3; exact hg)
        have hw := hw.symm
        subst hw
        obtain ⟨hP, hD⟩ := va_join (wr := [(a_reaches, .inl (cI, reaches_n, .inl reaches_f))]) (w1 := (wd_plan a_plan a_reaches a_gains plan_planes plan_passes plan_segments plan_style plan_firstOfSegment)) hP hD [0] [1] rfl rfl (by decide) (by decide) hk1 hFc hP1 hD1
        have hP : va_P (dC, dI) vwCl (wd_plan_reaches cI a_plan a_reaches a_gains plan_planes plan_passes plan_segments plan_style plan_firstOfSegment reaches_n reaches_f) H1 := hP.sub [1, 0] rfl
        have hD : va_D A (wd_plan_reaches cI a_plan a_reaches a_gains plan_planes plan_passes plan_segments plan_style plan_firstOfSegment reaches_n reaches_f) := hD.sub [1, 0] (by decide) rfl
        generalize H1 = H at hP hS ⊢
        have hpre := hpre r_3 hr_3
        refine lv_if_ne (tgt := 23) hx hb dX6_endOf_14 (by decide) (fun c_4 => ?_) (fun c_4 => ?_)
        · rw [if_neg c_4] at hg
          exact hJ_j_1 _ _ _ hP hD hS (by rw [← hg]; exact lv_sub hl [0, 1, 2, 3] rfl)
        · rw [if_pos c_4] at hg
          have hpre := hpre c_4
          refine lv_iinc (v := (v3_j_1 + (1 : Int32))) (lv' := [(3, .int (v3_j_1 + (1 : Int32))), (0, .ref a_plan), (1, .int p1), (2, .int p2)]) hx hb dX6_endOf_17 hl (k := 3) rfl rfl (by decide) rfl (fun ls hl => ?_)
          refine lv_goto (tgt := 2) hx hb dX6_endOf_20 (by decide) ?_
          exact ih (v3_j_1 + (1 : Int32)) _ _ _ hpre hg hP hD hS (lv_sub hl [1, 2, 3, 0] rfl)
  exact hL_j_1 fu p1 _ _ _ hpre hj_1 hP hD hS (lv_sub hl [1, 2, 3, 0] rfl)

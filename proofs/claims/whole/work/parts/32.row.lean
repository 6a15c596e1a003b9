abbrev wd_row (a_row : Nat) (a_bytes : Nat) (row_count : Int32) (row_start : Int32) : va_W := [(a_row, .inr (0, [.ref a_bytes, .int row_count, .int row_start]))]
abbrev rm_X1_openSegment : Room := { frames := 0, cells := 0, slots := 0, locals := 0 }
abbrev Q_X1_openSegment (dC : Nat → ClassId) (dI : Nat → Nat → Nat) (cI cJ cZ : ClassId) (a_row : Nat) (a_bytes : Nat) (A : Nat → Prop) (row_count : Int32) (row_start : Int32) (g : Int32) : Array Value → State → Outcome → State → Prop := va_Qv (fun _ : Unit => True) (fun u t => va_P (dC, dI) vwCl (wd_row a_row a_bytes row_count g) t.heap ∧ va_K (dC, dI) vwCl [(cI, .int), (cJ, .long), (cZ, .boolean)] t ∧ va_D A (wd_row a_row a_bytes row_count g)) A
theorem iw_X1_openSegment_X1 : ∀ w ∈ u_ws RX1 TX1 3, w ∈ wsX1_openSegment := by decide +kernel
set_option maxHeartbeats 4000000 in
set_option maxRecDepth 100000 in
theorem c_X1_openSegment (l : Launch) (dC : Nat → ClassId) (dI : Nat → Nat → Nat) (cI cJ cZ : ClassId) (a_row : Nat) (a_bytes : Nat) (sz : Nat) (row_count : Int32) (row_start : Int32) : Met l yX1_openSegment wsX1_openSegment rm_X1_openSegment (va_Pc [.ref a_row] (fun U => U.heap.size = sz ∧ va_P (dC, dI) vwCl (wd_row a_row a_bytes row_count row_start) U.heap ∧ va_K (dC, dI) vwCl [(cI, .int), (cJ, .long), (cZ, .boolean)] U ∧ va_D (fun _ => True) (wd_row a_row a_bytes row_count row_start))) (Q_X1_openSegment dC dI cI cJ cZ a_row a_bytes (va_A (wd_row a_row a_bytes row_count row_start) sz) row_count row_start (F_X1_openSegment row_count)) 0 0 (va_A (wd_row a_row a_bytes row_count row_start) sz) := by
  refine Met.ofW (cc := cX1_openSegment) (maxL := 1) (ret := none) (by decide) rfl ?_
  intro p e s m args below meth c s₁ B hml hv
  obtain ⟨rfl, hsz, hP, hK, hD0⟩ := hv
  have hx := B.exec
  have hb := B.bytes
  have hr := B.returns
  have hts := atoms_spec (ws := wsX1_openSegment) B.pre
  have hown : s.vm.findClass RX1 = some m.cls := findClass_of_methodNamed B.named
  have hlocks := B.notSynchronized
  subst hsz
  have hD := hD0.self (sz := s.heap.size)
  generalize hAe : va_A (wd_row a_row a_bytes row_count row_start) s.heap.size = A at hD ⊢
  have hA : ∀ q : Nat, s.heap.size ≤ q → A q := fun q h => by rw [← hAe]; exact Or.inr h
  have hS : va_S A s.heap s.heap [] := va_S.rf
  obtain ⟨H, hH⟩ : ∃ z, z = s.heap := ⟨_, rfl⟩
  have hP : va_P (dC, dI) vwCl (wd_row a_row a_bytes row_count row_start) H := by rw [hH]; exact hP
  have hS : va_S A s.heap H [] := by rw [hH]; exact va_S.rf
  obtain ⟨g, hg⟩ : ∃ z, F_X1_openSegment row_count = z := ⟨_, rfl⟩
  rw [hg]
  generalize hQe : MQ below (Q_X1_openSegment dC dI cI cJ cZ a_row a_bytes A row_count row_start g) _ s 0 0 A = Q
  rw [← hH]
  clear hH
  have hl := lv_entry ([.ref a_row]) (n := 1) (Nat.le_of_ble_eq_true rfl)
  rw [lg_entry_eq]
  generalize (lg_sl ([.ref a_row]) ++ List.replicate (1 - (lg_sl ([.ref a_row])).length) Slot.unset).toArray = ls at hl ⊢
  have hl : lv_has ls 1 [(0, .ref a_row)] := hl
  unfold F_X1_openSegment at hg
  refine lv_aload_n hx hb dX1_openSegment_0 rfl (lv_at hl 0 rfl) ?_
  refine lv_aload_n hx hb dX1_openSegment_1 rfl (lv_at hl 0 rfl) ?_
  refine va_get (D := (dC, dI)) (ci := 0) (v := .int row_count) (C := RX1) (T := TX1) (N := 3) hx hb hts iw_X1_openSegment_X1 hown hK hP 0 rfl rfl 1 (by decide) (hts (.fieldLink RX1 15 "PlaneBlocks$ByteRow" "count" "I") (by decide +kernel)) (fun _ h9 => h9) rfl dX1_openSegment_2 ?_
  refine va_put (D := (dC, dI)) (ci := 0) (v := .int row_count) (ty := .int) (C := RX1) (T := TX1) (N := 3) hx hb hts iw_X1_openSegment_X1 tyX1 tyX1_ok nmX1 hown hK hP hD hS 0 rfl rfl 2 (by decide) (hts (.fieldLink RX1 19 "PlaneBlocks$ByteRow" "start" "I") (by decide +kernel)) (fun _ h9 => h9) rfl (by decide +kernel) rfl rfl (Nat.le_of_ble_eq_true rfl) dX1_openSegment_5 (fun H locs hP hD hS => ?_)
  have hP : va_P (dC, dI) vwCl (wd_row a_row a_bytes row_count row_count) H := hP
  have hD : va_D A (wd_row a_row a_bytes row_count row_count) := hD
  subst hg
  rw [← hQe]
  exact W.vret hx hb hr (fun t ht hW => ⟨⟨(), rfl, trivial, by rw [ht]; exact hP, va_K.moved hW.alike hK, hD⟩, hS.F ht⟩) hS.2.2 dX1_openSegment_8
abbrev wd_row_bytes (cI : ClassId) (a_row : Nat) (a_bytes : Nat) (row_count : Int32) (row_start : Int32) (bytes_n : Nat) (bytes_f : Nat → Int32) : va_W := [(a_row, .inr (0, [.ref a_bytes, .int row_count, .int row_start])), (a_bytes, .inl (cI, bytes_n, .inl bytes_f))]
abbrev rm_X1_last : Room := { frames := 0, cells := 0, slots := 0, locals := 0 }
abbrev Q_X1_last (dC : Nat → ClassId) (dI : Nat → Nat → Nat) (cI cJ cZ : ClassId) (a_row : Nat) (a_bytes : Nat) (A : Nat → Prop) (row_count : Int32) (row_start : Int32) (bytes_n : Nat) (bytes_f : Nat → Int32) (g : Int32) : Array Value → State → Outcome → State → Prop := va_Qi (fun (r : Int32) (_ : Unit) => r = g) (fun u t => va_P (dC, dI) vwCl (wd_row_bytes cI a_row a_bytes row_count row_start bytes_n bytes_f) t.heap ∧ va_K (dC, dI) vwCl [(cI, .int), (cJ, .long), (cZ, .boolean)] t ∧ va_D A (wd_row_bytes cI a_row a_bytes row_count row_start bytes_n bytes_f)) A
theorem iw_X1_last_X1 : ∀ w ∈ u_ws RX1 TX1 3, w ∈ wsX1_last := by decide +kernel
set_option maxHeartbeats 4000000 in
set_option maxRecDepth 100000 in
theorem c_X1_last (l : Launch) (dC : Nat → ClassId) (dI : Nat → Nat → Nat) (cI cJ cZ : ClassId) (a_row : Nat) (a_bytes : Nat) (sz : Nat) (row_count : Int32) (row_start : Int32) (bytes_n : Nat) (bytes_f : Nat → Int32) (hpre : P_X1_last row_count row_start bytes_n) : Met l yX1_last wsX1_last rm_X1_last (va_Pc [.ref a_row] (fun U => U.heap.size = sz ∧ va_P (dC, dI) vwCl (wd_row_bytes cI a_row a_bytes row_count row_start bytes_n bytes_f) U.heap ∧ va_K (dC, dI) vwCl [(cI, .int), (cJ, .long), (cZ, .boolean)] U ∧ va_D (fun _ => True) (wd_row_bytes cI a_row a_bytes row_count row_start bytes_n bytes_f))) (Q_X1_last dC dI cI cJ cZ a_row a_bytes (va_A (wd_row_bytes cI a_row a_bytes row_count row_start bytes_n bytes_f) sz) row_count row_start bytes_n bytes_f (F_X1_last row_count row_start bytes_f)) 0 0 (va_A (wd_row_bytes cI a_row a_bytes row_count row_start bytes_n bytes_f) sz) := by
  refine Met.ofW (cc := cX1_last) (maxL := 1) (ret := (some .int)) (by decide) rfl ?_
  intro p e s m args below meth c s₁ B hml hv
  obtain ⟨rfl, hsz, hP, hK, hD0⟩ := hv
  have hx := B.exec
  have hb := B.bytes
  have hr := B.returns
  have hts := atoms_spec (ws := wsX1_last) B.pre
  have hown : s.vm.findClass RX1 = some m.cls := findClass_of_methodNamed B.named
  have hlocks := B.notSynchronized
  subst hsz
  have hD := hD0.self (sz := s.heap.size)
  generalize hAe : va_A (wd_row_bytes cI a_row a_bytes row_count row_start bytes_n bytes_f) s.heap.size = A at hD ⊢
  have hA : ∀ q : Nat, s.heap.size ≤ q → A q := fun q h => by rw [← hAe]; exact Or.inr h
  have hS : va_S A s.heap s.heap [] := va_S.rf
  obtain ⟨H, hH⟩ : ∃ z, z = s.heap := ⟨_, rfl⟩
  have hP : va_P (dC, dI) vwCl (wd_row_bytes cI a_row a_bytes row_count row_start bytes_n bytes_f) H := by rw [hH]; exact hP
  have hS : va_S A s.heap H [] := by rw [hH]; exact va_S.rf
  obtain ⟨g, hg⟩ : ∃ z, F_X1_last row_count row_start bytes_f = z := ⟨_, rfl⟩
  rw [hg]
  generalize hQe : MQ below (Q_X1_last dC dI cI cJ cZ a_row a_bytes A row_count row_start bytes_n bytes_f g) _ s 0 0 A = Q
  rw [← hH]
  clear hH
  have hl := lv_entry ([.ref a_row]) (n := 1) (Nat.le_of_ble_eq_true rfl)
  rw [lg_entry_eq]
  generalize (lg_sl ([.ref a_row]) ++ List.replicate (1 - (lg_sl ([.ref a_row])).length) Slot.unset).toArray = ls at hl ⊢
  have hl : lv_has ls 1 [(0, .ref a_row)] := hl
  unfold F_X1_last at hg
  unfold P_X1_last at hpre
  refine lv_aload_n hx hb dX1_last_0 rfl (lv_at hl 0 rfl) ?_
  refine va_get (D := (dC, dI)) (ci := 0) (v := .int row_count) (C := RX1) (T := TX1) (N := 3) hx hb hts iw_X1_last_X1 hown hK hP 0 rfl rfl 1 (by decide) (hts (.fieldLink RX1 15 "PlaneBlocks$ByteRow" "count" "I") (by decide +kernel)) (fun _ h9 => h9) rfl dX1_last_1 ?_
  refine lv_aload_n hx hb dX1_last_4 rfl (lv_at hl 0 rfl) ?_
  refine va_get (D := (dC, dI)) (ci := 0) (v := .int row_start) (C := RX1) (T := TX1) (N := 3) hx hb hts iw_X1_last_X1 hown hK hP 0 rfl rfl 2 (by decide) (hts (.fieldLink RX1 19 "PlaneBlocks$ByteRow" "start" "I") (by decide +kernel)) (fun _ h9 => h9) rfl dX1_last_5 ?_
  refine lv_icmp_le (tgt := 25) hx hb dX1_last_8 (by decide) (fun c_1 => ?_) (fun c_1 => ?_)
  · rw [if_pos c_1] at hg
    refine lv_iconst (v := -1) hx hb dX1_last_25 (by decide) ?_
    subst hg
    rw [← hQe]
    exact W.iret (v := (-1 : Int32)) hx hb hr (fun t ht hW => ⟨⟨(-1 : Int32), (), rfl, rfl, by rw [ht]; exact hP, va_K.moved hW.alike hK, hD⟩, hS.F ht⟩) hS.2.2 dX1_last_26
  · rw [if_neg c_1] at hg
    have hpre := hpre c_1
    refine lv_aload_n hx hb dX1_last_11 rfl (lv_at hl 0 rfl) ?_
    refine va_get (D := (dC, dI)) (ci := 0) (v := .ref a_bytes) (C := RX1) (T := TX1) (N := 3) hx hb hts iw_X1_last_X1 hown hK hP 0 rfl rfl 0 (by decide) (hts (.fieldLink RX1 9 "PlaneBlocks$ByteRow" "bytes" "[I") (by decide +kernel)) (fun _ h9 => h9) rfl dX1_last_12 ?_
    refine lv_aload_n hx hb dX1_last_15 rfl (lv_at hl 0 rfl) ?_
    refine va_get (D := (dC, dI)) (ci := 0) (v := .int row_count) (C := RX1) (T := TX1) (N := 3) hx hb hts iw_X1_last_X1 hown hK hP 0 rfl rfl 1 (by decide) (hts (.fieldLink RX1 15 "PlaneBlocks$ByteRow" "count" "I") (by decide +kernel)) (fun _ h9 => h9) rfl dX1_last_16 ?_
    refine lv_iconst (v := 1) hx hb dX1_last_19 (by decide) ?_
    refine lv_isub hx hb dX1_last_20 ?_
    have h_2 := hpre
    refine va_iald hx hb hK hP 1 0 rfl rfl h_2 dX1_last_21 ?_
    refine lv_goto (tgt := 26) hx hb dX1_last_22 (by decide) ?_
    subst hg
    rw [← hQe]
    exact W.iret (v := (bytes_f (row_count - (1 : Int32)).toNatClampNeg)) hx hb hr (fun t ht hW => ⟨⟨(bytes_f (row_count - (1 : Int32)).toNatClampNeg), (), rfl, rfl, by rw [ht]; exact hP, va_K.moved hW.alike hK, hD⟩, hS.F ht⟩) hS.2.2 dX1_last_26
abbrev rm_X1_addToLast : Room := { frames := 0, cells := 0, slots := 0, locals := 0 }
abbrev Q_X1_addToLast (dC : Nat → ClassId) (dI : Nat → Nat → Nat) (cI cJ cZ : ClassId) (a_row : Nat) (a_bytes : Nat) (A : Nat → Prop) (row_count : Int32) (row_start : Int32) (bytes_n : Nat) (bytes_f : Nat → Int32) (g : (Nat → Int32)) : Array Value → State → Outcome → State → Prop := va_Qv (fun _ : Unit => True) (fun u t => va_P (dC, dI) vwCl (wd_row_bytes cI a_row a_bytes row_count row_start bytes_n g) t.heap ∧ va_K (dC, dI) vwCl [(cI, .int), (cJ, .long), (cZ, .boolean)] t ∧ va_D A (wd_row_bytes cI a_row a_bytes row_count row_start bytes_n g)) A
theorem iw_X1_addToLast_X1 : ∀ w ∈ u_ws RX1 TX1 3, w ∈ wsX1_addToLast := by decide +kernel
set_option maxHeartbeats 4000000 in
set_option maxRecDepth 100000 in
theorem c_X1_addToLast (l : Launch) (dC : Nat → ClassId) (dI : Nat → Nat → Nat) (cI cJ cZ : ClassId) (a_row : Nat) (a_bytes : Nat) (sz : Nat) (row_count : Int32) (row_start : Int32) (bytes_n : Nat) (bytes_f : Nat → Int32) (p1 : Int32) (hpre : P_X1_addToLast row_count row_start bytes_n) : Met l yX1_addToLast wsX1_addToLast rm_X1_addToLast (va_Pc [.ref a_row, .int p1] (fun U => U.heap.size = sz ∧ va_P (dC, dI) vwCl (wd_row_bytes cI a_row a_bytes row_count row_start bytes_n bytes_f) U.heap ∧ va_K (dC, dI) vwCl [(cI, .int), (cJ, .long), (cZ, .boolean)] U ∧ va_D (fun _ => True) (wd_row_bytes cI a_row a_bytes row_count row_start bytes_n bytes_f))) (Q_X1_addToLast dC dI cI cJ cZ a_row a_bytes (va_A (wd_row_bytes cI a_row a_bytes row_count row_start bytes_n bytes_f) sz) row_count row_start bytes_n bytes_f (F_X1_addToLast p1 row_count row_start bytes_f)) 0 0 (va_A (wd_row_bytes cI a_row a_bytes row_count row_start bytes_n bytes_f) sz) := by
  refine Met.ofW (cc := cX1_addToLast) (maxL := 2) (ret := none) (by decide) rfl ?_
  intro p e s m args below meth c s₁ B hml hv
  obtain ⟨rfl, hsz, hP, hK, hD0⟩ := hv
  have hx := B.exec
  have hb := B.bytes
  have hr := B.returns
  have hts := atoms_spec (ws := wsX1_addToLast) B.pre
  have hown : s.vm.findClass RX1 = some m.cls := findClass_of_methodNamed B.named
  have hlocks := B.notSynchronized
  subst hsz
  have hD := hD0.self (sz := s.heap.size)
  generalize hAe : va_A (wd_row_bytes cI a_row a_bytes row_count row_start bytes_n bytes_f) s.heap.size = A at hD ⊢
  have hA : ∀ q : Nat, s.heap.size ≤ q → A q := fun q h => by rw [← hAe]; exact Or.inr h
  have hS : va_S A s.heap s.heap [] := va_S.rf
  obtain ⟨H, hH⟩ : ∃ z, z = s.heap := ⟨_, rfl⟩
  have hP : va_P (dC, dI) vwCl (wd_row_bytes cI a_row a_bytes row_count row_start bytes_n bytes_f) H := by rw [hH]; exact hP
  have hS : va_S A s.heap H [] := by rw [hH]; exact va_S.rf
  obtain ⟨g, hg⟩ : ∃ z, F_X1_addToLast p1 row_count row_start bytes_f = z := ⟨_, rfl⟩
  rw [hg]
  generalize hQe : MQ below (Q_X1_addToLast dC dI cI cJ cZ a_row a_bytes A row_count row_start bytes_n bytes_f g) _ s 0 0 A = Q
  rw [← hH]
  clear hH
  have hl := lv_entry ([.ref a_row, .int p1]) (n := 2) (Nat.le_of_ble_eq_true rfl)
  rw [lg_entry_eq]
  generalize (lg_sl ([.ref a_row, .int p1]) ++ List.replicate (2 - (lg_sl ([.ref a_row, .int p1])).length) Slot.unset).toArray = ls at hl ⊢
  have hl : lv_has ls 2 [(0, .ref a_row), (1, .int p1)] := hl
  unfold F_X1_addToLast at hg
  unfold P_X1_addToLast at hpre
  refine lv_aload_n hx hb dX1_addToLast_0 rfl (lv_at hl 0 rfl) ?_
  refine va_get (D := (dC, dI)) (ci := 0) (v := .int row_count) (C := RX1) (T := TX1) (N := 3) hx hb hts iw_X1_addToLast_X1 hown hK hP 0 rfl rfl 1 (by decide) (hts (.fieldLink RX1 15 "PlaneBlocks$ByteRow" "count" "I") (by decide +kernel)) (fun _ h9 => h9) rfl dX1_addToLast_1 ?_
  refine lv_aload_n hx hb dX1_addToLast_4 rfl (lv_at hl 0 rfl) ?_
  refine va_get (D := (dC, dI)) (ci := 0) (v := .int row_start) (C := RX1) (T := TX1) (N := 3) hx hb hts iw_X1_addToLast_X1 hown hK hP 0 rfl rfl 2 (by decide) (hts (.fieldLink RX1 19 "PlaneBlocks$ByteRow" "start" "I") (by decide +kernel)) (fun _ h9 => h9) rfl dX1_addToLast_5 ?_
  refine lv_icmp_le (tgt := 26) hx hb dX1_addToLast_8 (by decide) (fun c_1 => ?_) (fun c_1 => ?_)
  · rw [if_pos c_1] at hg
    subst hg
    rw [← hQe]
    exact W.vret hx hb hr (fun t ht hW => ⟨⟨(), rfl, trivial, by rw [ht]; exact hP, va_K.moved hW.alike hK, hD⟩, hS.F ht⟩) hS.2.2 dX1_addToLast_26
  · rw [if_neg c_1] at hg
    have hpre := hpre c_1
    refine lv_aload_n hx hb dX1_addToLast_11 rfl (lv_at hl 0 rfl) ?_
    refine va_get (D := (dC, dI)) (ci := 0) (v := .ref a_bytes) (C := RX1) (T := TX1) (N := 3) hx hb hts iw_X1_addToLast_X1 hown hK hP 0 rfl rfl 0 (by decide) (hts (.fieldLink RX1 9 "PlaneBlocks$ByteRow" "bytes" "[I") (by decide +kernel)) (fun _ h9 => h9) rfl dX1_addToLast_12 ?_
    refine lv_aload_n hx hb dX1_addToLast_15 rfl (lv_at hl 0 rfl) ?_
    refine va_get (D := (dC, dI)) (ci := 0) (v := .int row_count) (C := RX1) (T := TX1) (N := 3) hx hb hts iw_X1_addToLast_X1 hown hK hP 0 rfl rfl 1 (by decide) (hts (.fieldLink RX1 15 "PlaneBlocks$ByteRow" "count" "I") (by decide +kernel)) (fun _ h9 => h9) rfl dX1_addToLast_16 ?_
    refine lv_iconst (v := 1) hx hb dX1_addToLast_19 (by decide) ?_
    refine lv_isub hx hb dX1_addToLast_20 ?_
    refine lv_dup2_11 hx hb dX1_addToLast_21 rfl rfl ?_
    have h_2 := hpre
    refine va_iald hx hb hK hP 1 0 rfl rfl h_2 dX1_addToLast_22 ?_
    refine lv_iload_n hx hb dX1_addToLast_23 rfl (lv_at hl 1 rfl) ?_
    refine lv_iadd hx hb dX1_addToLast_24 ?_
    refine va_iast hx hb hK hP hD hS 1 0 rfl rfl h_2 dX1_addToLast_25 (fun H locs hP hD hS => ?_)
    have hP : va_P (dC, dI) vwCl (wd_row_bytes cI a_row a_bytes row_count row_start bytes_n (upd bytes_f (row_count - (1 : Int32)).toNatClampNeg ((bytes_f (row_count - (1 : Int32)).toNatClampNeg) + p1))) H := hP
    have hD : va_D A (wd_row_bytes cI a_row a_bytes row_count row_start bytes_n (upd bytes_f (row_count - (1 : Int32)).toNatClampNeg ((bytes_f (row_count - (1 : Int32)).toNatClampNeg) + p1))) := hD
    subst hg
    rw [← hQe]
    exact W.vret hx hb hr (fun t ht hW => ⟨⟨(), rfl, trivial, by rw [ht]; exact hP, va_K.moved hW.alike hK, hD⟩, hS.F ht⟩) hS.2.2 dX1_addToLast_26
abbrev rm_X1_dropStuffed : Room := { frames := 1, cells := 0, slots := 0, locals := 20 }
abbrev Q_X1_dropStuffed (dC : Nat → ClassId) (dI : Nat → Nat → Nat) (cI cJ cZ : ClassId) (a_row : Nat) (a_bytes : Nat) (A : Nat → Prop) (row_count : Int32) (row_start : Int32) (bytes_n : Nat) (bytes_f : Nat → Int32) (g : Int32) : Array Value → State → Outcome → State → Prop := va_Qv (fun _ : Unit => True) (fun u t => va_P (dC, dI) vwCl (wd_row_bytes cI a_row a_bytes g row_start bytes_n bytes_f) t.heap ∧ va_K (dC, dI) vwCl [(cI, .int), (cJ, .long), (cZ, .boolean)] t ∧ va_D A (wd_row_bytes cI a_row a_bytes g row_start bytes_n bytes_f)) A
theorem iw_X1_dropStuffed_X1 : ∀ w ∈ u_ws RX1 TX1 3, w ∈ wsX1_dropStuffed := by decide +kernel
set_option maxHeartbeats 4000000 in
set_option maxRecDepth 100000 in
theorem c_X1_dropStuffed (l : Launch) (dC : Nat → ClassId) (dI : Nat → Nat → Nat) (cI cJ cZ : ClassId) (a_row : Nat) (a_bytes : Nat) (sz : Nat) (row_count : Int32) (row_start : Int32) (bytes_n : Nat) (bytes_f : Nat → Int32) (hpre : P_X1_dropStuffed row_count row_start bytes_n) : Met l yX1_dropStuffed wsX1_dropStuffed rm_X1_dropStuffed (va_Pc [.ref a_row] (fun U => U.heap.size = sz ∧ va_P (dC, dI) vwCl (wd_row_bytes cI a_row a_bytes row_count row_start bytes_n bytes_f) U.heap ∧ va_K (dC, dI) vwCl [(cI, .int), (cJ, .long), (cZ, .boolean)] U ∧ va_D (fun _ => True) (wd_row_bytes cI a_row a_bytes row_count row_start bytes_n bytes_f))) (Q_X1_dropStuffed dC dI cI cJ cZ a_row a_bytes (va_A (wd_row_bytes cI a_row a_bytes row_count row_start bytes_n bytes_f) sz) row_count row_start bytes_n bytes_f (F_X1_dropStuffed row_count row_start bytes_f)) 0 0 (va_A (wd_row_bytes cI a_row a_bytes row_count row_start bytes_n bytes_f) sz) := by
  refine Met.ofW (cc := cX1_dropStuffed) (maxL := 1) (ret := none) (by decide) rfl ?_
  intro p e s m args below meth c s₁ B hml hv
  obtain ⟨rfl, hsz, hP, hK, hD0⟩ := hv
  have hx := B.exec
  have hb := B.bytes
  have hr := B.returns
  have hts := atoms_spec (ws := wsX1_dropStuffed) B.pre
  have hown : s.vm.findClass RX1 = some m.cls := findClass_of_methodNamed B.named
  have hlocks := B.notSynchronized
  subst hsz
  have hD := hD0.self (sz := s.heap.size)
  generalize hAe : va_A (wd_row_bytes cI a_row a_bytes row_count row_start bytes_n bytes_f) s.heap.size = A at hD ⊢
  have hA : ∀ q : Nat, s.heap.size ≤ q → A q := fun q h => by rw [← hAe]; exact Or.inr h
  have hS : va_S A s.heap s.heap [] := va_S.rf
  obtain ⟨H, hH⟩ : ∃ z, z = s.heap := ⟨_, rfl⟩
  have hP : va_P (dC, dI) vwCl (wd_row_bytes cI a_row a_bytes row_count row_start bytes_n bytes_f) H := by rw [hH]; exact hP
  have hS : va_S A s.heap H [] := by rw [hH]; exact va_S.rf
  obtain ⟨g, hg⟩ : ∃ z, F_X1_dropStuffed row_count row_start bytes_f = z := ⟨_, rfl⟩
  rw [hg]
  generalize hQe : MQ below (Q_X1_dropStuffed dC dI cI cJ cZ a_row a_bytes A row_count row_start bytes_n bytes_f g) _ s 0 0 A = Q
  rw [← hH]
  clear hH
  have hl := lv_entry ([.ref a_row]) (n := 1) (Nat.le_of_ble_eq_true rfl)
  rw [lg_entry_eq]
  generalize (lg_sl ([.ref a_row]) ++ List.replicate (1 - (lg_sl ([.ref a_row])).length) Slot.unset).toArray = ls at hl ⊢
  have hl : lv_has ls 1 [(0, .ref a_row)] := hl
  unfold F_X1_dropStuffed at hg
  unfold P_X1_dropStuffed at hpre
  refine lv_aload_n hx hb dX1_dropStuffed_0 rfl (lv_at hl 0 rfl) ?_
  have hPc := hP.sub (ws' := (wd_row_bytes cI a_row a_bytes row_count row_start bytes_n bytes_f)) [0, 1] rfl
  have hDc := hD.sub (ws' := (wd_row_bytes cI a_row a_bytes row_count row_start bytes_n bytes_f)) [0, 1] (by decide) rfl
  have hFc := va_free (wc := (wd_row_bytes cI a_row a_bytes row_count row_start bytes_n bytes_f)) hD hS hA [0, 1] rfl
  refine va_calli (va_runV (As := []) (rest := []) ⟨hx, hb, hml, hown, hts⟩ (c_X1_last l dC dI cI cJ cZ a_row a_bytes H.size row_count row_start bytes_n bytes_f hpre) (cwV 0 hts gX1_dropStuffed_X1_last rfl rfl rfl (by decide +kernel) ⟨Nat.le_of_ble_eq_true rfl, Nat.le_of_ble_eq_true rfl⟩) ⟨fun a U g mk q => by obtain ⟨q0, q1, qP, qK, qD⟩ := q; exact ⟨q0, q1, qP, va_K.moved (u := U) (U := U.calling g mk a) (Vm.Alike.refl U.vm) qK, qD⟩, va_recv hK hPc (ci := 0) (q0 := 0) rfl rfl, fun U hU hW => ⟨rfl, by rw [hU], by rw [hU]; exact hPc, va_K.moved hW.alike hK, hDc.weaken (fun _ _ _ _ => trivial)⟩⟩ rfl rfl hl.1 rfl (lv_room (Nat.le_of_ble_eq_true rfl)) dX1_dropStuffed_1 ⟨Nat.le_of_ble_eq_true rfl, Nat.le_of_ble_eq_true rfl⟩) hS (fun q _ h => hFc q h) hFc (fun r u t H1 locs ht hvm hw hB hz1 hk1 hS => ?_)
  obtain ⟨hP1, hK1, hD1⟩ := hB
  rw [ht] at hP1
  obtain ⟨r_1, hr_1⟩ : ∃ z, F_X1_last row_count row_start bytes_f = z := ⟨_, rfl⟩
  try rw [hr_1] at hw
  try rw [hr_1] at hP1
  try rw [hr_1] at hD1
  have hg : (if r_1 = (255 : Int32) then (row_count - (1 : Int32)) else row_count) = g := by first | (rw [hr_1] at hg; exact hg) | (subst hr_1; exact hg)
  have hw := hw.symm
  subst hw
  obtain ⟨hP, hD⟩ := va_join (wr := []) (w1 := (wd_row_bytes cI a_row a_bytes row_count row_start bytes_n bytes_f)) hP hD [0, 1] [] rfl rfl (by decide) (by decide) hk1 hFc hP1 hD1
  have hP : va_P (dC, dI) vwCl (wd_row_bytes cI a_row a_bytes row_count row_start bytes_n bytes_f) H1 := hP.sub [0, 1] rfl
  have hD : va_D A (wd_row_bytes cI a_row a_bytes row_count row_start bytes_n bytes_f) := hD.sub [0, 1] (by decide) rfl
  generalize H1 = H at hP hS ⊢
  refine lv_sipush (v := 255) hx hb dX1_dropStuffed_4 (by decide) ?_
  refine lv_icmp_ne (tgt := 20) hx hb dX1_dropStuffed_7 (by decide) (fun c_2 => ?_) (fun c_2 => ?_)
  · rw [if_neg c_2] at hg
    subst hg
    rw [← hQe]
    exact W.vret hx hb hr (fun t ht hW => ⟨⟨(), rfl, trivial, by rw [ht]; exact hP, va_K.moved hW.alike hK, hD⟩, hS.F ht⟩) hS.2.2 dX1_dropStuffed_20
  · rw [if_pos c_2] at hg
    refine lv_aload_n hx hb dX1_dropStuffed_10 rfl (lv_at hl 0 rfl) ?_
    refine lv_dup hx hb dX1_dropStuffed_11 rfl ?_
    refine va_get (D := (dC, dI)) (ci := 0) (v := .int row_count) (C := RX1) (T := TX1) (N := 3) hx hb hts iw_X1_dropStuffed_X1 hown hK hP 0 rfl rfl 1 (by decide) (hts (.fieldLink RX1 15 "PlaneBlocks$ByteRow" "count" "I") (by decide +kernel)) (fun _ h9 => h9) rfl dX1_dropStuffed_12 ?_
    refine lv_iconst (v := 1) hx hb dX1_dropStuffed_15 (by decide) ?_
    refine lv_isub hx hb dX1_dropStuffed_16 ?_
    refine va_put (D := (dC, dI)) (ci := 0) (v := .int (row_count - (1 : Int32))) (ty := .int) (C := RX1) (T := TX1) (N := 3) hx hb hts iw_X1_dropStuffed_X1 tyX1 tyX1_ok nmX1 hown hK hP hD hS 0 rfl rfl 1 (by decide) (hts (.fieldLink RX1 15 "PlaneBlocks$ByteRow" "count" "I") (by decide +kernel)) (fun _ h9 => h9) rfl (by decide +kernel) rfl rfl (Nat.le_of_ble_eq_true rfl) dX1_dropStuffed_17 (fun H locs hP hD hS => ?_)
    have hP : va_P (dC, dI) vwCl (wd_row_bytes cI a_row a_bytes (row_count - (1 : Int32)) row_start bytes_n bytes_f) H := hP
    have hD : va_D A (wd_row_bytes cI a_row a_bytes (row_count - (1 : Int32)) row_start bytes_n bytes_f) := hD
    subst hg
    rw [← hQe]
    exact W.vret hx hb hr (fun t ht hW => ⟨⟨(), rfl, trivial, by rw [ht]; exact hP, va_K.moved hW.alike hK, hD⟩, hS.F ht⟩) hS.2.2 dX1_dropStuffed_20
abbrev rm_X1_byteOf : Room := { frames := 0, cells := 0, slots := 0, locals := 0 }
abbrev Q_X1_byteOf (dC : Nat → ClassId) (dI : Nat → Nat → Nat) (cI cJ cZ : ClassId) (a_row : Nat) (a_bytes : Nat) (A : Nat → Prop) (row_count : Int32) (row_start : Int32) (bytes_n : Nat) (bytes_f : Nat → Int32) (g : Int32) : Array Value → State → Outcome → State → Prop := va_Qi (fun (r : Int32) (_ : Unit) => r = g) (fun u t => va_P (dC, dI) vwCl (wd_row_bytes cI a_row a_bytes row_count row_start bytes_n bytes_f) t.heap ∧ va_K (dC, dI) vwCl [(cI, .int), (cJ, .long), (cZ, .boolean)] t ∧ va_D A (wd_row_bytes cI a_row a_bytes row_count row_start bytes_n bytes_f)) A
theorem iw_X1_byteOf_X1 : ∀ w ∈ u_ws RX1 TX1 3, w ∈ wsX1_byteOf := by decide +kernel
set_option maxHeartbeats 4000000 in
set_option maxRecDepth 100000 in
theorem c_X1_byteOf (l : Launch) (dC : Nat → ClassId) (dI : Nat → Nat → Nat) (cI cJ cZ : ClassId) (a_row : Nat) (a_bytes : Nat) (sz : Nat) (row_count : Int32) (row_start : Int32) (bytes_n : Nat) (bytes_f : Nat → Int32) (p1 : Int32) (p2 : Int32) (hpre : P_X1_byteOf p1 p2 row_count bytes_n) : Met l yX1_byteOf wsX1_byteOf rm_X1_byteOf (va_Pc [.ref a_row, .int p1, .int p2] (fun U => U.heap.size = sz ∧ va_P (dC, dI) vwCl (wd_row_bytes cI a_row a_bytes row_count row_start bytes_n bytes_f) U.heap ∧ va_K (dC, dI) vwCl [(cI, .int), (cJ, .long), (cZ, .boolean)] U ∧ va_D (fun _ => True) (wd_row_bytes cI a_row a_bytes row_count row_start bytes_n bytes_f))) (Q_X1_byteOf dC dI cI cJ cZ a_row a_bytes (va_A (wd_row_bytes cI a_row a_bytes row_count row_start bytes_n bytes_f) sz) row_count row_start bytes_n bytes_f (F_X1_byteOf p1 p2 row_count bytes_f)) 0 0 (va_A (wd_row_bytes cI a_row a_bytes row_count row_start bytes_n bytes_f) sz) := by
  refine Met.ofW (cc := cX1_byteOf) (maxL := 3) (ret := (some .int)) (by decide) rfl ?_
  intro p e s m args below meth c s₁ B hml hv
  obtain ⟨rfl, hsz, hP, hK, hD0⟩ := hv
  have hx := B.exec
  have hb := B.bytes
  have hr := B.returns
  have hts := atoms_spec (ws := wsX1_byteOf) B.pre
  have hown : s.vm.findClass RX1 = some m.cls := findClass_of_methodNamed B.named
  have hlocks := B.notSynchronized
  subst hsz
  have hD := hD0.self (sz := s.heap.size)
  generalize hAe : va_A (wd_row_bytes cI a_row a_bytes row_count row_start bytes_n bytes_f) s.heap.size = A at hD ⊢
  have hA : ∀ q : Nat, s.heap.size ≤ q → A q := fun q h => by rw [← hAe]; exact Or.inr h
  have hS : va_S A s.heap s.heap [] := va_S.rf
  obtain ⟨H, hH⟩ : ∃ z, z = s.heap := ⟨_, rfl⟩
  have hP : va_P (dC, dI) vwCl (wd_row_bytes cI a_row a_bytes row_count row_start bytes_n bytes_f) H := by rw [hH]; exact hP
  have hS : va_S A s.heap H [] := by rw [hH]; exact va_S.rf
  obtain ⟨g, hg⟩ : ∃ z, F_X1_byteOf p1 p2 row_count bytes_f = z := ⟨_, rfl⟩
  rw [hg]
  generalize hQe : MQ below (Q_X1_byteOf dC dI cI cJ cZ a_row a_bytes A row_count row_start bytes_n bytes_f g) _ s 0 0 A = Q
  rw [← hH]
  clear hH
  have hl := lv_entry ([.ref a_row, .int p1, .int p2]) (n := 3) (Nat.le_of_ble_eq_true rfl)
  rw [lg_entry_eq]
  generalize (lg_sl ([.ref a_row, .int p1, .int p2]) ++ List.replicate (3 - (lg_sl ([.ref a_row, .int p1, .int p2])).length) Slot.unset).toArray = ls at hl ⊢
  have hl : lv_has ls 3 [(0, .ref a_row), (1, .int p1), (2, .int p2)] := hl
  unfold F_X1_byteOf at hg
  unfold P_X1_byteOf at hpre
  refine lv_iload_n hx hb dX1_byteOf_0 rfl (lv_at hl 1 rfl) ?_
  refine lv_if_lt (tgt := 26) hx hb dX1_byteOf_1 (by decide) (fun c_1 => ?_) (fun c_1 => ?_)
  · rw [if_pos c_1] at hg
    refine lv_sipush (v := 255) hx hb dX1_byteOf_26 (by decide) ?_
    subst hg
    rw [← hQe]
    exact W.iret (v := (255 : Int32)) hx hb hr (fun t ht hW => ⟨⟨(255 : Int32), (), rfl, rfl, by rw [ht]; exact hP, va_K.moved hW.alike hK, hD⟩, hS.F ht⟩) hS.2.2 dX1_byteOf_29
  · rw [if_neg c_1] at hg
    have hpre := hpre c_1
    refine lv_iload_n hx hb dX1_byteOf_4 rfl (lv_at hl 1 rfl) ?_
    refine lv_iload_n hx hb dX1_byteOf_5 rfl (lv_at hl 2 rfl) ?_
    refine lv_icmp_ge (tgt := 26) hx hb dX1_byteOf_6 (by decide) (fun c_2 => ?_) (fun c_2 => ?_)
    · rw [if_pos c_2] at hg
      refine lv_sipush (v := 255) hx hb dX1_byteOf_26 (by decide) ?_
      subst hg
      rw [← hQe]
      exact W.iret (v := (255 : Int32)) hx hb hr (fun t ht hW => ⟨⟨(255 : Int32), (), rfl, rfl, by rw [ht]; exact hP, va_K.moved hW.alike hK, hD⟩, hS.F ht⟩) hS.2.2 dX1_byteOf_29
    · rw [if_neg c_2] at hg
      have hpre := hpre c_2
      refine lv_iload_n hx hb dX1_byteOf_9 rfl (lv_at hl 1 rfl) ?_
      refine lv_aload_n hx hb dX1_byteOf_10 rfl (lv_at hl 0 rfl) ?_
      refine va_get (D := (dC, dI)) (ci := 0) (v := .int row_count) (C := RX1) (T := TX1) (N := 3) hx hb hts iw_X1_byteOf_X1 hown hK hP 0 rfl rfl 1 (by decide) (hts (.fieldLink RX1 15 "PlaneBlocks$ByteRow" "count" "I") (by decide +kernel)) (fun _ h9 => h9) rfl dX1_byteOf_11 ?_
      refine lv_icmp_ge (tgt := 26) hx hb dX1_byteOf_14 (by decide) (fun c_3 => ?_) (fun c_3 => ?_)
      · rw [if_pos c_3] at hg
        refine lv_sipush (v := 255) hx hb dX1_byteOf_26 (by decide) ?_
        subst hg
        rw [← hQe]
        exact W.iret (v := (255 : Int32)) hx hb hr (fun t ht hW => ⟨⟨(255 : Int32), (), rfl, rfl, by rw [ht]; exact hP, va_K.moved hW.alike hK, hD⟩, hS.F ht⟩) hS.2.2 dX1_byteOf_29
      · rw [if_neg c_3] at hg
        have hpre := hpre c_3
        refine lv_aload_n hx hb dX1_byteOf_17 rfl (lv_at hl 0 rfl) ?_
        refine va_get (D := (dC, dI)) (ci := 0) (v := .ref a_bytes) (C := RX1) (T := TX1) (N := 3) hx hb hts iw_X1_byteOf_X1 hown hK hP 0 rfl rfl 0 (by decide) (hts (.fieldLink RX1 9 "PlaneBlocks$ByteRow" "bytes" "[I") (by decide +kernel)) (fun _ h9 => h9) rfl dX1_byteOf_18 ?_
        refine lv_iload_n hx hb dX1_byteOf_21 rfl (lv_at hl 1 rfl) ?_
        have h_4 := hpre
        refine va_iald hx hb hK hP 1 0 rfl rfl h_4 dX1_byteOf_22 ?_
        refine lv_goto (tgt := 29) hx hb dX1_byteOf_23 (by decide) ?_
        subst hg
        rw [← hQe]
        exact W.iret (v := (bytes_f p1.toNatClampNeg)) hx hb hr (fun t ht hW => ⟨⟨(bytes_f p1.toNatClampNeg), (), rfl, rfl, by rw [ht]; exact hP, va_K.moved hW.alike hK, hD⟩, hS.F ht⟩) hS.2.2 dX1_byteOf_29
abbrev wd_bytes (cI : ClassId) (a_bytes : Nat) (bytes_n : Nat) (bytes_f : Nat → Int32) : va_W := [(a_bytes, .inl (cI, bytes_n, .inl bytes_f))]
abbrev wd_bytes_nw1 (cI : ClassId) (a_bytes : Nat) (a_nw1 : Nat) (bytes_n : Nat) (bytes_f : Nat → Int32) (nw1_n : Nat) (nw1_f : Nat → Int32) : va_W := [(a_bytes, .inl (cI, bytes_n, .inl bytes_f)), (a_nw1, .inl (cI, nw1_n, .inl nw1_f))]
abbrev wd_row_bytes_nw1 (cI : ClassId) (a_row : Nat) (a_bytes : Nat) (a_nw1 : Nat) (row_count : Int32) (row_start : Int32) (bytes_n : Nat) (bytes_f : Nat → Int32) (nw1_n : Nat) (nw1_f : Nat → Int32) : va_W := [(a_row, .inr (0, [.ref a_bytes, .int row_count, .int row_start])), (a_bytes, .inl (cI, bytes_n, .inl bytes_f)), (a_nw1, .inl (cI, nw1_n, .inl nw1_f))]
abbrev rm_X1_append (Dt : Nat) : Room := { frames := 2, cells := Dt, slots := Dt, locals := 62 }
abbrev Q_X1_append (dC : Nat → ClassId) (dI : Nat → Nat → Nat) (cI cJ cZ : ClassId) (a_row : Nat) (a_bytes : Nat) (A : Nat → Prop) (row_count : Int32) (row_start : Int32) (bytes_n : Nat) (bytes_f : Nat → Int32) (g : (Int32 × Nat × (Nat → Int32))) : Array Value → State → Outcome → State → Prop := va_Qv (fun _ : Nat => True) (fun u t => va_P (dC, dI) vwCl (wd_row_bytes cI a_row u g.1 row_start g.2.1 g.2.2) t.heap ∧ va_K (dC, dI) vwCl [(cI, .int), (cJ, .long), (cZ, .boolean)] t ∧ va_D A (wd_row_bytes cI a_row u g.1 row_start g.2.1 g.2.2)) A
theorem iw_X1_append_X1 : ∀ w ∈ u_ws RX1 TX1 3, w ∈ wsX1_append := by decide +kernel
set_option maxHeartbeats 4000000 in
set_option maxRecDepth 100000 in
theorem c_X1_append (l : Launch) (dC : Nat → ClassId) (dI : Nat → Nat → Nat) (cI cJ cZ : ClassId) (a_row : Nat) (a_bytes : Nat) (sz : Nat) (row_count : Int32) (row_start : Int32) (bytes_n : Nat) (bytes_f : Nat → Int32) (p1 : Int32) (hpre : P_X1_append row_count bytes_n bytes_f) : Met l yX1_append wsX1_append (rm_X1_append (D_X1_append row_count bytes_n bytes_f)) (va_Pc [.ref a_row, .int p1] (fun U => U.heap.size = sz ∧ va_P (dC, dI) vwCl (wd_row_bytes cI a_row a_bytes row_count row_start bytes_n bytes_f) U.heap ∧ va_K (dC, dI) vwCl [(cI, .int), (cJ, .long), (cZ, .boolean)] U ∧ va_D (fun _ => True) (wd_row_bytes cI a_row a_bytes row_count row_start bytes_n bytes_f))) (Q_X1_append dC dI cI cJ cZ a_row a_bytes (va_A (wd_row_bytes cI a_row a_bytes row_count row_start bytes_n bytes_f) sz) row_count row_start bytes_n bytes_f (F_X1_append p1 row_count bytes_n bytes_f)) (D_X1_append row_count bytes_n bytes_f) (D_X1_append row_count bytes_n bytes_f) (va_A (wd_row_bytes cI a_row a_bytes row_count row_start bytes_n bytes_f) sz) := by
  refine Met.ofW (cc := cX1_append) (maxL := 2) (ret := none) (by decide) rfl ?_
  intro p e s m args below meth c s₁ B hml hv
  obtain ⟨rfl, hsz, hP, hK, hD0⟩ := hv
  have hx := B.exec
  have hb := B.bytes
  have hr := B.returns
  have hts := atoms_spec (ws := wsX1_append) B.pre
  have hown : s.vm.findClass RX1 = some m.cls := findClass_of_methodNamed B.named
  have hlocks := B.notSynchronized
  subst hsz
  have hD := hD0.self (sz := s.heap.size)
  generalize hAe : va_A (wd_row_bytes cI a_row a_bytes row_count row_start bytes_n bytes_f) s.heap.size = A at hD ⊢
  have hA : ∀ q : Nat, s.heap.size ≤ q → A q := fun q h => by rw [← hAe]; exact Or.inr h
  have hS : va_S A s.heap s.heap [] := va_S.rf
  obtain ⟨H, hH⟩ : ∃ z, z = s.heap := ⟨_, rfl⟩
  have hP : va_P (dC, dI) vwCl (wd_row_bytes cI a_row a_bytes row_count row_start bytes_n bytes_f) H := by rw [hH]; exact hP
  have hS : va_S A s.heap H [] := by rw [hH]; exact va_S.rf
  obtain ⟨g, hg⟩ : ∃ z, F_X1_append p1 row_count bytes_n bytes_f = z := ⟨_, rfl⟩
  rw [hg]
  obtain ⟨Dt, hDt⟩ : ∃ z, D_X1_append row_count bytes_n bytes_f = z := ⟨_, rfl⟩
  rw [hDt]
  generalize hQe : MQ below (Q_X1_append dC dI cI cJ cZ a_row a_bytes A row_count row_start bytes_n bytes_f g) _ s Dt Dt A = Q
  rw [← hH]
  clear hH
  have hl := lv_entry ([.ref a_row, .int p1]) (n := 2) (Nat.le_of_ble_eq_true rfl)
  rw [lg_entry_eq]
  generalize (lg_sl ([.ref a_row, .int p1]) ++ List.replicate (2 - (lg_sl ([.ref a_row, .int p1])).length) Slot.unset).toArray = ls at hl ⊢
  have hl : lv_has ls 2 [(0, .ref a_row), (1, .int p1)] := hl
  unfold F_X1_append at hg
  unfold P_X1_append at hpre
  unfold D_X1_append at hDt
  obtain ⟨k, hk⟩ : ∃ z : Nat, z = 0 := ⟨_, rfl⟩
  obtain ⟨E, hE⟩ : ∃ z : Nat, z = 0 := ⟨_, rfl⟩
  have hC : k + (DJ_X1_append_j_4 row_count bytes_n bytes_f + (let j_4 := J_X1_append_j_4 row_count bytes_n bytes_f; 0)) + E ≤ Dt := by rw [hk, hE, Nat.zero_add]; exact Nat.le_of_eq hDt
  refine W.widen (k := k) (n := k) (Nat.zero_le _) (Nat.zero_le _) ?_
  clear hk hE hDt
  refine lv_aload_n hx hb dX1_append_0 rfl (lv_at hl 0 rfl) ?_
  refine va_get (D := (dC, dI)) (ci := 0) (v := .int row_count) (C := RX1) (T := TX1) (N := 3) hx hb hts iw_X1_append_X1 hown hK hP 0 rfl rfl 1 (by decide) (hts (.fieldLink RX1 15 "PlaneBlocks$ByteRow" "count" "I") (by decide +kernel)) (fun _ h9 => h9) rfl dX1_append_1 ?_
  refine lv_aload_n hx hb dX1_append_4 rfl (lv_at hl 0 rfl) ?_
  refine va_get (D := (dC, dI)) (ci := 0) (v := .ref a_bytes) (C := RX1) (T := TX1) (N := 3) hx hb hts iw_X1_append_X1 hown hK hP 0 rfl rfl 0 (by decide) (hts (.fieldLink RX1 9 "PlaneBlocks$ByteRow" "bytes" "[I") (by decide +kernel)) (fun _ h9 => h9) rfl dX1_append_5 ?_
  refine va_alen hx hb hK hP 1 0 (v := (nI bytes_n)) rfl rfl rfl dX1_append_8 ?_
  obtain ⟨j_4, hj_4⟩ : ∃ z, J_X1_append_j_4 row_count bytes_n bytes_f = z := ⟨_, rfl⟩
  have hg : (row_count + (1 : Int32), j_4.1, upd j_4.2 row_count.toNatClampNeg p1) = g := by first | (rw [hj_4] at hg; exact hg) | (subst hj_4; exact hg)
  have hC : k + (DJ_X1_append_j_4 row_count bytes_n bytes_f + (0)) + E ≤ Dt := by subst hj_4; exact hC
  have hJ_j_4 : ∀ (u_bytes_j_4 : Nat) (k : Nat) (H : Heap) (locs : List Loc) (ls : Array Slot), va_P (dC, dI) vwCl (wd_row_bytes cI a_row u_bytes_j_4 row_count row_start j_4.1 j_4.2) H → va_D A (wd_row_bytes cI a_row u_bytes_j_4 row_count row_start j_4.1 j_4.2) → va_S A s.heap H locs → lv_has ls 2 [(0, .ref a_row), (1, .int p1)] → k + (0) + E ≤ Dt → W p l e (headSpec wsX1_append (rm_X1_append Dt)).room s m ([.ref a_row, .int p1] : List Value).toArray below meth c H locs k k Q (F0 m 29 ls []) := by
    intro u_bytes_j_4 k H locs ls hP hD hS hl hC
    have hpre := hpre.2 j_4 hj_4
    refine lv_aload_n hx hb dX1_append_29 rfl (lv_at hl 0 rfl) ?_
    refine va_get (D := (dC, dI)) (ci := 0) (v := .ref u_bytes_j_4) (C := RX1) (T := TX1) (N := 3) hx hb hts iw_X1_append_X1 hown hK hP 0 rfl rfl 0 (by decide) (hts (.fieldLink RX1 9 "PlaneBlocks$ByteRow" "bytes" "[I") (by decide +kernel)) (fun _ h9 => h9) rfl dX1_append_30 ?_
    refine lv_aload_n hx hb dX1_append_33 rfl (lv_at hl 0 rfl) ?_
    refine va_get (D := (dC, dI)) (ci := 0) (v := .int row_count) (C := RX1) (T := TX1) (N := 3) hx hb hts iw_X1_append_X1 hown hK hP 0 rfl rfl 1 (by decide) (hts (.fieldLink RX1 15 "PlaneBlocks$ByteRow" "count" "I") (by decide +kernel)) (fun _ h9 => h9) rfl dX1_append_34 ?_
    refine lv_iload_n hx hb dX1_append_37 rfl (lv_at hl 1 rfl) ?_
    have h_5 := hpre
    refine va_iast hx hb hK hP hD hS 1 0 rfl rfl h_5 dX1_append_38 (fun H locs hP hD hS => ?_)
    have hP : va_P (dC, dI) vwCl (wd_row_bytes cI a_row u_bytes_j_4 row_count row_start j_4.1 (upd j_4.2 row_count.toNatClampNeg p1)) H := hP
    have hD : va_D A (wd_row_bytes cI a_row u_bytes_j_4 row_count row_start j_4.1 (upd j_4.2 row_count.toNatClampNeg p1)) := hD
    refine lv_aload_n hx hb dX1_append_39 rfl (lv_at hl 0 rfl) ?_
    refine lv_dup hx hb dX1_append_40 rfl ?_
    refine va_get (D := (dC, dI)) (ci := 0) (v := .int row_count) (C := RX1) (T := TX1) (N := 3) hx hb hts iw_X1_append_X1 hown hK hP 0 rfl rfl 1 (by decide) (hts (.fieldLink RX1 15 "PlaneBlocks$ByteRow" "count" "I") (by decide +kernel)) (fun _ h9 => h9) rfl dX1_append_41 ?_
    refine lv_iconst (v := 1) hx hb dX1_append_44 (by decide) ?_
    refine lv_iadd hx hb dX1_append_45 ?_
    refine va_put (D := (dC, dI)) (ci := 0) (v := .int (row_count + (1 : Int32))) (ty := .int) (C := RX1) (T := TX1) (N := 3) hx hb hts iw_X1_append_X1 tyX1 tyX1_ok nmX1 hown hK hP hD hS 0 rfl rfl 1 (by decide) (hts (.fieldLink RX1 15 "PlaneBlocks$ByteRow" "count" "I") (by decide +kernel)) (fun _ h9 => h9) rfl (by decide +kernel) rfl rfl (Nat.le_of_ble_eq_true rfl) dX1_append_46 (fun H locs hP hD hS => ?_)
    have hP : va_P (dC, dI) vwCl (wd_row_bytes cI a_row u_bytes_j_4 (row_count + (1 : Int32)) row_start j_4.1 (upd j_4.2 row_count.toNatClampNeg p1)) H := hP
    have hD : va_D A (wd_row_bytes cI a_row u_bytes_j_4 (row_count + (1 : Int32)) row_start j_4.1 (upd j_4.2 row_count.toNatClampNeg p1)) := hD
    subst hg
    refine W.widen (k := Dt) (n := Dt) (k0_le hC) (k0_le hC) ?_
    rw [← hQe]
    exact W.vret hx hb hr (fun t ht hW => ⟨⟨u_bytes_j_4, rfl, trivial, by rw [ht]; exact hP, va_K.moved hW.alike hK, hD⟩, hS.F ht⟩) hS.2.2 dX1_append_49
  have hpre := hpre.1
  obtain ⟨E2, hE2⟩ : ∃ z : Nat, z = (0) + E := ⟨_, rfl⟩
  have hC : k + (DJ_X1_append_j_4 row_count bytes_n bytes_f) + E2 ≤ Dt := by rw [hE2]; exact add4 hC
  unfold PJ_X1_append_j_4 at hpre
  have hC : k + (if row_count = (nI bytes_n) then (D_J7_copyOf_59c91 ((2 : Int32) * row_count) bytes_n + (let r_2 := F_J7_copyOf_59c91 ((2 : Int32) * row_count) bytes_n bytes_f; 0)) else 0) + E2 ≤ Dt := hC
  have hg : (if row_count = (nI bytes_n) then (let r_2 := F_J7_copyOf_59c91 ((2 : Int32) * row_count) bytes_n bytes_f; (r_2.1, r_2.2)) else (bytes_n, bytes_f)) = j_4 := by rw [← hj_4]; rfl
  clear hj_4
  refine lv_icmp_ne (tgt := 29) hx hb dX1_append_9 (by decide) (fun c_1 => ?_) (fun c_1 => ?_)
  · rw [if_neg c_1] at hg
    rw [if_neg c_1] at hC
    exact hJ_j_4 a_bytes _ _ _ _ (by rw [← hg]; exact hP) (by rw [← hg]; exact hD) hS (lv_sub hl [0, 1] rfl) (by rw [Nat.add_assoc, ← hE2]; exact hC)
  · rw [if_pos c_1] at hg
    rw [if_pos c_1] at hC
    have hpre := hpre c_1
    refine lv_aload_n hx hb dX1_append_12 rfl (lv_at hl 0 rfl) ?_
    refine lv_aload_n hx hb dX1_append_13 rfl (lv_at hl 0 rfl) ?_
    refine va_get (D := (dC, dI)) (ci := 0) (v := .ref a_bytes) (C := RX1) (T := TX1) (N := 3) hx hb hts iw_X1_append_X1 hown hK hP 0 rfl rfl 0 (by decide) (hts (.fieldLink RX1 9 "PlaneBlocks$ByteRow" "bytes" "[I") (by decide +kernel)) (fun _ h9 => h9) rfl dX1_append_14 ?_
    refine lv_iconst (v := 2) hx hb dX1_append_17 (by decide) ?_
    refine lv_aload_n hx hb dX1_append_18 rfl (lv_at hl 0 rfl) ?_
    refine va_get (D := (dC, dI)) (ci := 0) (v := .int row_count) (C := RX1) (T := TX1) (N := 3) hx hb hts iw_X1_append_X1 hown hK hP 0 rfl rfl 1 (by decide) (hts (.fieldLink RX1 15 "PlaneBlocks$ByteRow" "count" "I") (by decide +kernel)) (fun _ h9 => h9) rfl dX1_append_19 ?_
    refine lv_imul hx hb dX1_append_22 ?_
    have hPc := hP.sub (ws' := (wd_bytes cI a_bytes bytes_n bytes_f)) [1] rfl
    have hDc := hD.sub (ws' := (wd_bytes cI a_bytes bytes_n bytes_f)) [1] (by decide) rfl
    have hFc := va_free (wc := (wd_bytes cI a_bytes bytes_n bytes_f)) hD hS hA [1] rfl
    refine va_callr (va_runS (As := [.ref a_bytes, .int ((2 : Int32) * row_count)]) (rest := [.ref a_row]) ⟨hx, hb, hml, hown, hts⟩ (c_J7_copyOf_59c91 l dC dI cI cJ cZ a_bytes H.size bytes_n bytes_f ((2 : Int32) * row_count) hpre) (va_cwS 2 hts gX1_append_J7_copyOf_59c91 rfl rfl rfl (by decide +kernel) ⟨Nat.le_of_ble_eq_true rfl, Nat.le_of_ble_eq_true rfl⟩) ⟨fun a U g mk q => by obtain ⟨q0, q1, qP, qK, qD⟩ := q; exact ⟨q0, q1, qP, va_K.moved (u := U) (U := U.calling g mk a) (Vm.Alike.refl U.vm) qK, qD⟩, fun U hU hW => ⟨rfl, by rw [hU], by rw [hU]; exact hPc, va_K.moved hW.alike hK, hDc.weaken (fun _ _ _ _ => trivial)⟩⟩ rfl rfl hl.1 rfl (lv_room (Nat.le_of_ble_eq_true rfl)) dX1_append_23 ⟨kd_le hC, kd_le hC⟩) hS (fun q _ h => hFc q h) hFc (fun u q_3 t H1 locs ht hvm hw hB hz1 hk1 hS => ?_)
    obtain ⟨hP1, hK1, hD1⟩ := hB
    rw [ht] at hP1
    obtain ⟨r_2, hr_2⟩ : ∃ z, F_J7_copyOf_59c91 ((2 : Int32) * row_count) bytes_n bytes_f = z := ⟨_, rfl⟩
    try rw [hr_2] at hw
    try rw [hr_2] at hP1
    try rw [hr_2] at hD1
    have hg : (r_2.1, r_2.2) = j_4 := by first | (rw [hr_2] at hg; exact hg) | (subst hr_2; exact hg)
    obtain ⟨hP, hD⟩ := va_join (wr := [(a_row, .inr (0, [.ref a_bytes, .int row_count, .int row_start]))]) (w1 := (wd_bytes_nw1 cI a_bytes q_3 bytes_n bytes_f r_2.1 r_2.2)) hP hD [1] [0] rfl rfl (by decide) (by decide) hk1 hFc hP1 hD1
    have hP : va_P (dC, dI) vwCl (wd_row_bytes_nw1 cI a_row a_bytes q_3 row_count row_start bytes_n bytes_f r_2.1 r_2.2) H1 := hP.sub [0, 1, 2] rfl
    have hD : va_D A (wd_row_bytes_nw1 cI a_row a_bytes q_3 row_count row_start bytes_n bytes_f r_2.1 r_2.2) := hD.sub [0, 1, 2] (by decide) rfl
    generalize H1 = H at hP hS ⊢
    have hC : k + (D_J7_copyOf_59c91 ((2 : Int32) * row_count) bytes_n + (0)) + E2 ≤ Dt := by subst hr_2; exact hC
    obtain ⟨k1, hk1⟩ : ∃ z, z = k + (D_J7_copyOf_59c91 ((2 : Int32) * row_count) bytes_n) := ⟨_, rfl⟩
    have hC : k1 + (0) + E2 ≤ Dt := by rw [hk1, Nat.add_assoc k]; exact hC
    refine W.widen (k := k1) (n := k1) (Nat.le_of_eq hk1.symm) (Nat.le_of_eq hk1.symm) ?_
    clear hk1
    generalize k1 = k at hC ⊢
    refine va_put (D := (dC, dI)) (ci := 0) (v := .ref q_3) (ty := .array .int) (C := RX1) (T := TX1) (N := 3) hx hb hts iw_X1_append_X1 tyX1 tyX1_ok nmX1 hown hK hP hD hS 0 rfl rfl 0 (by decide) (hts (.fieldLink RX1 9 "PlaneBlocks$ByteRow" "bytes" "[I") (by decide +kernel)) (fun _ h9 => h9) rfl (by decide +kernel) rfl rfl (Nat.le_of_ble_eq_true rfl) dX1_append_26 (fun H locs hP hD hS => ?_)
    have hP : va_P (dC, dI) vwCl (wd_row_bytes cI a_row q_3 row_count row_start r_2.1 r_2.2) H := hP.sub [0, 2] rfl
    have hD : va_D A (wd_row_bytes cI a_row q_3 row_count row_start r_2.1 r_2.2) := hD.sub [0, 2] (by decide) rfl
    exact hJ_j_4 q_3 _ _ _ _ (by rw [← hg]; exact hP) (by rw [← hg]; exact hD) hS (lv_sub hl [0, 1] rfl) (by rw [Nat.add_assoc, ← hE2]; exact hC)
abbrev rm_X1_clear (Dt : Nat) : Room := { frames := 1, cells := Dt, slots := Dt, locals := 14 }
abbrev Q_X1_clear (dC : Nat → ClassId) (dI : Nat → Nat → Nat) (cI cJ cZ : ClassId) (a_row : Nat) (a_bytes : Nat) (A : Nat → Prop) (row_count : Int32) (row_start : Int32) (bytes_n : Nat) (bytes_f : Nat → Int32) (g : (Int32 × Int32 × Nat × (Nat → Int32))) : Array Value → State → Outcome → State → Prop := va_Qv (fun _ : Nat => True) (fun u t => va_P (dC, dI) vwCl (wd_row_bytes cI a_row u g.1 g.2.1 g.2.2.1 g.2.2.2) t.heap ∧ va_K (dC, dI) vwCl [(cI, .int), (cJ, .long), (cZ, .boolean)] t ∧ va_D A (wd_row_bytes cI a_row u g.1 g.2.1 g.2.2.1 g.2.2.2)) A
theorem iw_X1_clear_X1 : ∀ w ∈ u_ws RX1 TX1 3, w ∈ wsX1_clear := by decide +kernel
set_option maxHeartbeats 4000000 in
set_option maxRecDepth 100000 in
theorem c_X1_clear (l : Launch) (dC : Nat → ClassId) (dI : Nat → Nat → Nat) (cI cJ cZ : ClassId) (a_row : Nat) (a_bytes : Nat) (sz : Nat) (row_count : Int32) (row_start : Int32) (bytes_n : Nat) (bytes_f : Nat → Int32) (p1 : Int32) (p2 : Int32) (p3 : Int32) (hpre : P_X1_clear p1 p2 p3 bytes_n) : Met l yX1_clear wsX1_clear (rm_X1_clear (D_X1_clear p1 p2 p3 bytes_n)) (va_Pc [.ref a_row, .int p1, .int p2, .int p3] (fun U => U.heap.size = sz ∧ va_P (dC, dI) vwCl (wd_row_bytes cI a_row a_bytes row_count row_start bytes_n bytes_f) U.heap ∧ va_K (dC, dI) vwCl [(cI, .int), (cJ, .long), (cZ, .boolean)] U ∧ va_D (fun _ => True) (wd_row_bytes cI a_row a_bytes row_count row_start bytes_n bytes_f))) (Q_X1_clear dC dI cI cJ cZ a_row a_bytes (va_A (wd_row_bytes cI a_row a_bytes row_count row_start bytes_n bytes_f) sz) row_count row_start bytes_n bytes_f (F_X1_clear p1 p2 p3 bytes_n bytes_f)) (D_X1_clear p1 p2 p3 bytes_n) (D_X1_clear p1 p2 p3 bytes_n) (va_A (wd_row_bytes cI a_row a_bytes row_count row_start bytes_n bytes_f) sz) := by
  refine Met.ofW (cc := cX1_clear) (maxL := 5) (ret := none) (by decide) rfl ?_
  intro p e s m args below meth c s₁ B hml hv
  obtain ⟨rfl, hsz, hP, hK, hD0⟩ := hv
  have hx := B.exec
  have hb := B.bytes
  have hr := B.returns
  have hts := atoms_spec (ws := wsX1_clear) B.pre
  have hown : s.vm.findClass RX1 = some m.cls := findClass_of_methodNamed B.named
  have hlocks := B.notSynchronized
  subst hsz
  have hD := hD0.self (sz := s.heap.size)
  generalize hAe : va_A (wd_row_bytes cI a_row a_bytes row_count row_start bytes_n bytes_f) s.heap.size = A at hD ⊢
  have hA : ∀ q : Nat, s.heap.size ≤ q → A q := fun q h => by rw [← hAe]; exact Or.inr h
  have hS : va_S A s.heap s.heap [] := va_S.rf
  obtain ⟨H, hH⟩ : ∃ z, z = s.heap := ⟨_, rfl⟩
  have hP : va_P (dC, dI) vwCl (wd_row_bytes cI a_row a_bytes row_count row_start bytes_n bytes_f) H := by rw [hH]; exact hP
  have hS : va_S A s.heap H [] := by rw [hH]; exact va_S.rf
  obtain ⟨g, hg⟩ : ∃ z, F_X1_clear p1 p2 p3 bytes_n bytes_f = z := ⟨_, rfl⟩
  rw [hg]
  obtain ⟨Dt, hDt⟩ : ∃ z, D_X1_clear p1 p2 p3 bytes_n = z := ⟨_, rfl⟩
  rw [hDt]
  generalize hQe : MQ below (Q_X1_clear dC dI cI cJ cZ a_row a_bytes A row_count row_start bytes_n bytes_f g) _ s Dt Dt A = Q
  rw [← hH]
  clear hH
  have hl := lv_entry ([.ref a_row, .int p1, .int p2, .int p3]) (n := 5) (Nat.le_of_ble_eq_true rfl)
  rw [lg_entry_eq]
  generalize (lg_sl ([.ref a_row, .int p1, .int p2, .int p3]) ++ List.replicate (5 - (lg_sl ([.ref a_row, .int p1, .int p2, .int p3])).length) Slot.unset).toArray = ls at hl ⊢
  have hl : lv_has ls 5 [(0, .ref a_row), (1, .int p1), (2, .int p2), (3, .int p3)] := hl
  unfold F_X1_clear at hg
  unfold P_X1_clear at hpre
  unfold D_X1_clear at hDt
  obtain ⟨k, hk⟩ : ∃ z : Nat, z = 0 := ⟨_, rfl⟩
  obtain ⟨E, hE⟩ : ∃ z : Nat, z = 0 := ⟨_, rfl⟩
  have hC : k + (if (((p1 * (p2 + (2 : Int32))) / (7 : Int32)) + ((4 : Int32) * p3)) ≤ (nI bytes_n) then 0 else (((if (((p1 * (p2 + (2 : Int32))) / (7 : Int32)) + ((4 : Int32) * p3)) < ((2 : Int32) * (nI bytes_n)) then ((2 : Int32) * (nI bytes_n)) else (((p1 * (p2 + (2 : Int32))) / (7 : Int32)) + ((4 : Int32) * p3))).toNatClampNeg + 1) + (0))) + E ≤ Dt := by rw [hk, hE, Nat.zero_add]; exact Nat.le_of_eq hDt
  refine W.widen (k := k) (n := k) (Nat.zero_le _) (Nat.zero_le _) ?_
  clear hk hE hDt
  refine lv_aload_n hx hb dX1_clear_0 rfl (lv_at hl 0 rfl) ?_
  refine lv_iconst (v := 0) hx hb dX1_clear_1 (by decide) ?_
  refine va_put (D := (dC, dI)) (ci := 0) (v := .int (0 : Int32)) (ty := .int) (C := RX1) (T := TX1) (N := 3) hx hb hts iw_X1_clear_X1 tyX1 tyX1_ok nmX1 hown hK hP hD hS 0 rfl rfl 1 (by decide) (hts (.fieldLink RX1 15 "PlaneBlocks$ByteRow" "count" "I") (by decide +kernel)) (fun _ h9 => h9) rfl (by decide +kernel) rfl rfl (Nat.le_of_ble_eq_true rfl) dX1_clear_2 (fun H locs hP hD hS => ?_)
  have hP : va_P (dC, dI) vwCl (wd_row_bytes cI a_row a_bytes (0 : Int32) row_start bytes_n bytes_f) H := hP
  have hD : va_D A (wd_row_bytes cI a_row a_bytes (0 : Int32) row_start bytes_n bytes_f) := hD
  refine lv_aload_n hx hb dX1_clear_5 rfl (lv_at hl 0 rfl) ?_
  refine lv_iconst (v := 0) hx hb dX1_clear_6 (by decide) ?_
  refine va_put (D := (dC, dI)) (ci := 0) (v := .int (0 : Int32)) (ty := .int) (C := RX1) (T := TX1) (N := 3) hx hb hts iw_X1_clear_X1 tyX1 tyX1_ok nmX1 hown hK hP hD hS 0 rfl rfl 2 (by decide) (hts (.fieldLink RX1 19 "PlaneBlocks$ByteRow" "start" "I") (by decide +kernel)) (fun _ h9 => h9) rfl (by decide +kernel) rfl rfl (Nat.le_of_ble_eq_true rfl) dX1_clear_7 (fun H locs hP hD hS => ?_)
  have hP : va_P (dC, dI) vwCl (wd_row_bytes cI a_row a_bytes (0 : Int32) (0 : Int32) bytes_n bytes_f) H := hP
  have hD : va_D A (wd_row_bytes cI a_row a_bytes (0 : Int32) (0 : Int32) bytes_n bytes_f) := hD
  refine lv_iload_n hx hb dX1_clear_10 rfl (lv_at hl 1 rfl) ?_
  refine lv_iload_n hx hb dX1_clear_11 rfl (lv_at hl 2 rfl) ?_
  refine lv_iconst (v := 2) hx hb dX1_clear_12 (by decide) ?_
  refine lv_iadd hx hb dX1_clear_13 ?_
  refine lv_imul hx hb dX1_clear_14 ?_
  refine lv_bipush (v := 7) hx hb dX1_clear_15 (by decide) ?_
  refine lv_idiv hx hb dX1_clear_17 (by decide) ?_
  refine lv_iconst (v := 4) hx hb dX1_clear_18 (by decide) ?_
  refine lv_iload_n hx hb dX1_clear_19 rfl (lv_at hl 3 rfl) ?_
  refine lv_imul hx hb dX1_clear_20 ?_
  refine lv_iadd hx hb dX1_clear_21 ?_
  refine lv_istore (lv' := [(4, .int (((p1 * (p2 + (2 : Int32))) / (7 : Int32)) + ((4 : Int32) * p3))), (0, .ref a_row), (1, .int p1), (2, .int p2), (3, .int p3)]) hx hb dX1_clear_22 hl (by decide) rfl (fun ls hl => ?_)
  refine lv_iload hx hb dX1_clear_24 (lv_at hl 0 rfl) ?_
  refine lv_aload_n hx hb dX1_clear_26 rfl (lv_at hl 1 rfl) ?_
  refine va_get (D := (dC, dI)) (ci := 0) (v := .ref a_bytes) (C := RX1) (T := TX1) (N := 3) hx hb hts iw_X1_clear_X1 hown hK hP 0 rfl rfl 0 (by decide) (hts (.fieldLink RX1 9 "PlaneBlocks$ByteRow" "bytes" "[I") (by decide +kernel)) (fun _ h9 => h9) rfl dX1_clear_27 ?_
  refine va_alen hx hb hK hP 1 0 (v := (nI bytes_n)) rfl rfl rfl dX1_clear_30 ?_
  refine lv_icmp_le (tgt := 52) hx hb dX1_clear_31 (by decide) (fun c_1 => ?_) (fun c_1 => ?_)
  · rw [if_pos c_1] at hg
    rw [if_pos c_1] at hC
    subst hg
    refine W.widen (k := Dt) (n := Dt) (k0_le hC) (k0_le hC) ?_
    rw [← hQe]
    exact W.vret hx hb hr (fun t ht hW => ⟨⟨a_bytes, rfl, trivial, by rw [ht]; exact hP, va_K.moved hW.alike hK, hD⟩, hS.F ht⟩) hS.2.2 dX1_clear_52
  · rw [if_neg c_1] at hg
    rw [if_neg c_1] at hC
    have hpre := hpre c_1
    refine lv_aload_n hx hb dX1_clear_34 rfl (lv_at hl 1 rfl) ?_
    refine lv_iload hx hb dX1_clear_35 (lv_at hl 0 rfl) ?_
    refine lv_iconst (v := 2) hx hb dX1_clear_37 (by decide) ?_
    refine lv_aload_n hx hb dX1_clear_38 rfl (lv_at hl 1 rfl) ?_
    refine va_get (D := (dC, dI)) (ci := 0) (v := .ref a_bytes) (C := RX1) (T := TX1) (N := 3) hx hb hts iw_X1_clear_X1 hown hK hP 0 rfl rfl 0 (by decide) (hts (.fieldLink RX1 9 "PlaneBlocks$ByteRow" "bytes" "[I") (by decide +kernel)) (fun _ h9 => h9) rfl dX1_clear_39 ?_
    refine va_alen hx hb hK hP 1 0 (v := (nI bytes_n)) rfl rfl rfl dX1_clear_42 ?_
    refine lv_imul hx hb dX1_clear_43 ?_
    refine va_mmax hx hb (hml.trans hl.1.symm) hown (hts (.methodLink RX1 22 Lib.Math.max.name) (by decide +kernel)) (hts (.static Lib.Math.max.name) (by decide +kernel)) (hts (.initialized "java/lang/Math") (by decide +kernel)) (hts (.code Lib.Math.max.name Lib.Math.max.code 2 (some .int)) (by decide +kernel)) (Nat.le_of_ble_eq_true rfl) (Nat.le_of_ble_eq_true rfl) (k0_le hC) (k0_le hC) dX1_clear_44 ?_
    have h_2 := hpre.1
    have hpre := hpre.2
    have h_3 := hpre
    refine va_newa (atype := .int) (ty := .int) (a0 := ((if (((p1 * (p2 + (2 : Int32))) / (7 : Int32)) + ((4 : Int32) * p3)) < ((2 : Int32) * (nI bytes_n)) then ((2 : Int32) * (nI bytes_n)) else (((p1 * (p2 + (2 : Int32))) / (7 : Int32)) + ((4 : Int32) * p3))).toNatClampNeg, .inl (fun _ => 0))) hx hb (hts (.arrayClass .int) (by decide +kernel)) rfl hK hP hD hS hA (fun _ => rfl) h_2 rfl h_3 (kn_le hC) (ks_le hC) dX1_clear_47 (fun q_4 cA H hK1 hP hD hS => ?_)
    have e9 := k3_int hK1
    rw [e9] at hP hD
    clear hK1 e9
    have hP : va_P (dC, dI) vwCl (wd_row_bytes_nw1 cI a_row a_bytes q_4 (0 : Int32) (0 : Int32) bytes_n bytes_f ((if (((p1 * (p2 + (2 : Int32))) / (7 : Int32)) + ((4 : Int32) * p3)) < ((2 : Int32) * (nI bytes_n)) then ((2 : Int32) * (nI bytes_n)) else (((p1 * (p2 + (2 : Int32))) / (7 : Int32)) + ((4 : Int32) * p3))).toNatClampNeg) (fun _ => (0 : Int32))) H := hP
    have hD : va_D A (wd_row_bytes_nw1 cI a_row a_bytes q_4 (0 : Int32) (0 : Int32) bytes_n bytes_f ((if (((p1 * (p2 + (2 : Int32))) / (7 : Int32)) + ((4 : Int32) * p3)) < ((2 : Int32) * (nI bytes_n)) then ((2 : Int32) * (nI bytes_n)) else (((p1 * (p2 + (2 : Int32))) / (7 : Int32)) + ((4 : Int32) * p3))).toNatClampNeg) (fun _ => (0 : Int32))) := hD
    refine W.widen (k := k + ((if (((p1 * (p2 + (2 : Int32))) / (7 : Int32)) + ((4 : Int32) * p3)) < ((2 : Int32) * (nI bytes_n)) then ((2 : Int32) * (nI bytes_n)) else (((p1 * (p2 + (2 : Int32))) / (7 : Int32)) + ((4 : Int32) * p3))).toNatClampNeg + 1)) (n := k + ((if (((p1 * (p2 + (2 : Int32))) / (7 : Int32)) + ((4 : Int32) * p3)) < ((2 : Int32) * (nI bytes_n)) then ((2 : Int32) * (nI bytes_n)) else (((p1 * (p2 + (2 : Int32))) / (7 : Int32)) + ((4 : Int32) * p3))).toNatClampNeg + 1)) (by omega) (by omega) ?_
    obtain ⟨k1, hk1⟩ : ∃ z, z = k + (((if (((p1 * (p2 + (2 : Int32))) / (7 : Int32)) + ((4 : Int32) * p3)) < ((2 : Int32) * (nI bytes_n)) then ((2 : Int32) * (nI bytes_n)) else (((p1 * (p2 + (2 : Int32))) / (7 : Int32)) + ((4 : Int32) * p3))).toNatClampNeg + 1)) := ⟨_, rfl⟩
    have hC : k1 + (0) + E ≤ Dt := by rw [hk1, Nat.add_assoc k]; exact hC
    refine W.widen (k := k1) (n := k1) (Nat.le_of_eq hk1.symm) (Nat.le_of_eq hk1.symm) ?_
    clear hk1
    generalize k1 = k at hC ⊢
    refine va_put (D := (dC, dI)) (ci := 0) (v := .ref q_4) (ty := .array .int) (C := RX1) (T := TX1) (N := 3) hx hb hts iw_X1_clear_X1 tyX1 tyX1_ok nmX1 hown hK hP hD hS 0 rfl rfl 0 (by decide) (hts (.fieldLink RX1 9 "PlaneBlocks$ByteRow" "bytes" "[I") (by decide +kernel)) (fun _ h9 => h9) rfl (by decide +kernel) rfl rfl (Nat.le_of_ble_eq_true rfl) dX1_clear_49 (fun H locs hP hD hS => ?_)
    have hP : va_P (dC, dI) vwCl (wd_row_bytes cI a_row q_4 (0 : Int32) (0 : Int32) ((if (((p1 * (p2 + (2 : Int32))) / (7 : Int32)) + ((4 : Int32) * p3)) < ((2 : Int32) * (nI bytes_n)) then ((2 : Int32) * (nI bytes_n)) else (((p1 * (p2 + (2 : Int32))) / (7 : Int32)) + ((4 : Int32) * p3))).toNatClampNeg) (fun _ => (0 : Int32))) H := hP.sub [0, 2] rfl
    have hD : va_D A (wd_row_bytes cI a_row q_4 (0 : Int32) (0 : Int32) ((if (((p1 * (p2 + (2 : Int32))) / (7 : Int32)) + ((4 : Int32) * p3)) < ((2 : Int32) * (nI bytes_n)) then ((2 : Int32) * (nI bytes_n)) else (((p1 * (p2 + (2 : Int32))) / (7 : Int32)) + ((4 : Int32) * p3))).toNatClampNeg) (fun _ => (0 : Int32))) := hD.sub [0, 2] (by decide) rfl
    subst hg
    refine W.widen (k := Dt) (n := Dt) (k0_le hC) (k0_le hC) ?_
    rw [← hQe]
    exact W.vret hx hb hr (fun t ht hW => ⟨⟨q_4, rfl, trivial, by rw [ht]; exact hP, va_K.moved hW.alike hK, hD⟩, hS.F ht⟩) hS.2.2 dX1_clear_52

abbrev wd_rw (a_rw : Nat) (a_row : Nat) (rw_free : Int32) : va_W := [(a_rw, .inr (7, [.ref a_row, .int rw_free]))]
abbrev rm_X8_open : Room := { frames := 0, cells := 0, slots := 0, locals := 0 }
abbrev Q_X8_open (dC : Nat → ClassId) (dI : Nat → Nat → Nat) (cI cJ cZ : ClassId) (a_rw : Nat) (a_row : Nat) (A : Nat → Prop) (rw_free : Int32) (g : Int32) : Array Value → State → Outcome → State → Prop := va_Qv (fun _ : Unit => True) (fun u t => va_P (dC, dI) vwCl (wd_rw a_rw a_row g) t.heap ∧ va_K (dC, dI) vwCl [(cI, .int), (cJ, .long), (cZ, .boolean)] t ∧ va_D A (wd_rw a_rw a_row g)) A
theorem iw_X8_open_X8 : ∀ w ∈ u_ws RX8 TX8 2, w ∈ wsX8_open := by decide +kernel
set_option maxHeartbeats 4000000 in
set_option maxRecDepth 100000 in
theorem c_X8_open (l : Launch) (dC : Nat → ClassId) (dI : Nat → Nat → Nat) (cI cJ cZ : ClassId) (a_rw : Nat) (a_row : Nat) (sz : Nat) (rw_free : Int32) : Met l yX8_open wsX8_open rm_X8_open (va_Pc [.ref a_rw] (fun U => U.heap.size = sz ∧ va_P (dC, dI) vwCl (wd_rw a_rw a_row rw_free) U.heap ∧ va_K (dC, dI) vwCl [(cI, .int), (cJ, .long), (cZ, .boolean)] U ∧ va_D (fun _ => True) (wd_rw a_rw a_row rw_free))) (Q_X8_open dC dI cI cJ cZ a_rw a_row (va_A (wd_rw a_rw a_row rw_free) sz) rw_free F_X8_open) 0 0 (va_A (wd_rw a_rw a_row rw_free) sz) := by
  refine Met.ofW (cc := cX8_open) (maxL := 1) (ret := none) (by decide) rfl ?_
  intro p e s m args below meth c s₁ B hml hv
  obtain ⟨rfl, hsz, hP, hK, hD0⟩ := hv
  have hx := B.exec
  have hb := B.bytes
  have hr := B.returns
  have hts := atoms_spec (ws := wsX8_open) B.pre
  have hown : s.vm.findClass RX8 = some m.cls := findClass_of_methodNamed B.named
  have hlocks := B.notSynchronized
  subst hsz
  have hD := hD0.self (sz := s.heap.size)
  generalize hAe : va_A (wd_rw a_rw a_row rw_free) s.heap.size = A at hD ⊢
  have hA : ∀ q : Nat, s.heap.size ≤ q → A q := fun q h => by rw [← hAe]; exact Or.inr h
  have hS : va_S A s.heap s.heap [] := va_S.rf
  obtain ⟨H, hH⟩ : ∃ z, z = s.heap := ⟨_, rfl⟩
  have hP : va_P (dC, dI) vwCl (wd_rw a_rw a_row rw_free) H := by rw [hH]; exact hP
  have hS : va_S A s.heap H [] := by rw [hH]; exact va_S.rf
  obtain ⟨g, hg⟩ : ∃ z, F_X8_open = z := ⟨_, rfl⟩
  rw [hg]
  generalize hQe : MQ below (Q_X8_open dC dI cI cJ cZ a_rw a_row A rw_free g) _ s 0 0 A = Q
  rw [← hH]
  clear hH
  have hl := lv_entry ([.ref a_rw]) (n := 1) (Nat.le_of_ble_eq_true rfl)
  rw [lg_entry_eq]
  generalize (lg_sl ([.ref a_rw]) ++ List.replicate (1 - (lg_sl ([.ref a_rw])).length) Slot.unset).toArray = ls at hl ⊢
  have hl : lv_has ls 1 [(0, .ref a_rw)] := hl
  unfold F_X8_open at hg
  refine lv_aload_n hx hb dX8_open_0 rfl (lv_at hl 0 rfl) ?_
  refine lv_iconst (v := 0) hx hb dX8_open_1 (by decide) ?_
  refine va_put (D := (dC, dI)) (ci := 7) (v := .int (0 : Int32)) (ty := .int) (C := RX8) (T := TX8) (N := 2) hx hb hts iw_X8_open_X8 tyX8 tyX8_ok nmX8 hown hK hP hD hS 0 rfl rfl 1 (by decide) (hts (.fieldLink RX8 15 "PlaneBlocks$RawWriter" "free" "I") (by decide +kernel)) (fun _ h9 => h9) rfl (by decide +kernel) rfl rfl (Nat.le_of_ble_eq_true rfl) dX8_open_2 (fun H locs hP hD hS => ?_)
  have hP : va_P (dC, dI) vwCl (wd_rw a_rw a_row (0 : Int32)) H := hP
  have hD : va_D A (wd_rw a_rw a_row (0 : Int32)) := hD
  subst hg
  rw [← hQe]
  exact W.vret hx hb hr (fun t ht hW => ⟨⟨(), rfl, trivial, by rw [ht]; exact hP, va_K.moved hW.alike hK, hD⟩, hS.F ht⟩) hS.2.2 dX8_open_5
abbrev wd_row_rw (a_row : Nat) (a_bytes : Nat) (a_rw : Nat) (row_count : Int32) (row_start : Int32) (rw_free : Int32) : va_W := [(a_row, .inr (0, [.ref a_bytes, .int row_count, .int row_start])), (a_rw, .inr (7, [.ref a_row, .int rw_free]))]
abbrev rm_X8_enough : Room := { frames := 0, cells := 0, slots := 0, locals := 0 }
abbrev Q_X8_enough (dC : Nat → ClassId) (dI : Nat → Nat → Nat) (cI cJ cZ : ClassId) (a_row : Nat) (a_bytes : Nat) (a_rw : Nat) (A : Nat → Prop) (row_count : Int32) (row_start : Int32) (rw_free : Int32) (g : Int32) : Array Value → State → Outcome → State → Prop := va_Qi (fun (r : Int32) (_ : Unit) => r = g) (fun u t => va_P (dC, dI) vwCl (wd_row_rw a_row a_bytes a_rw row_count row_start rw_free) t.heap ∧ va_K (dC, dI) vwCl [(cI, .int), (cJ, .long), (cZ, .boolean)] t ∧ va_D A (wd_row_rw a_row a_bytes a_rw row_count row_start rw_free)) A
theorem iw_X8_enough_X1 : ∀ w ∈ u_ws RX1 TX1 3, w ∈ wsX8_enough := by decide +kernel
theorem iw_X8_enough_X8 : ∀ w ∈ u_ws RX8 TX8 2, w ∈ wsX8_enough := by decide +kernel
set_option maxHeartbeats 4000000 in
set_option maxRecDepth 100000 in
theorem c_X8_enough (l : Launch) (dC : Nat → ClassId) (dI : Nat → Nat → Nat) (cI cJ cZ : ClassId) (a_row : Nat) (a_bytes : Nat) (a_rw : Nat) (sz : Nat) (row_count : Int32) (row_start : Int32) (rw_free : Int32) : Met l yX8_enough wsX8_enough rm_X8_enough (va_Pc [.ref a_rw] (fun U => U.heap.size = sz ∧ va_P (dC, dI) vwCl (wd_row_rw a_row a_bytes a_rw row_count row_start rw_free) U.heap ∧ va_K (dC, dI) vwCl [(cI, .int), (cJ, .long), (cZ, .boolean)] U ∧ va_D (fun _ => True) (wd_row_rw a_row a_bytes a_rw row_count row_start rw_free))) (Q_X8_enough dC dI cI cJ cZ a_row a_bytes a_rw (va_A (wd_row_rw a_row a_bytes a_rw row_count row_start rw_free) sz) row_count row_start rw_free (F_X8_enough row_count)) 0 0 (va_A (wd_row_rw a_row a_bytes a_rw row_count row_start rw_free) sz) := by
  refine Met.ofW (cc := cX8_enough) (maxL := 1) (ret := (some .int)) (by decide) rfl ?_
  intro p e s m args below meth c s₁ B hml hv
  obtain ⟨rfl, hsz, hP, hK, hD0⟩ := hv
  have hx := B.exec
  have hb := B.bytes
  have hr := B.returns
  have hts := atoms_spec (ws := wsX8_enough) B.pre
  have hown : s.vm.findClass RX8 = some m.cls := findClass_of_methodNamed B.named
  have hlocks := B.notSynchronized
  subst hsz
  have hD := hD0.self (sz := s.heap.size)
  generalize hAe : va_A (wd_row_rw a_row a_bytes a_rw row_count row_start rw_free) s.heap.size = A at hD ⊢
  have hA : ∀ q : Nat, s.heap.size ≤ q → A q := fun q h => by rw [← hAe]; exact Or.inr h
  have hS : va_S A s.heap s.heap [] := va_S.rf
  obtain ⟨H, hH⟩ : ∃ z, z = s.heap := ⟨_, rfl⟩
  have hP : va_P (dC, dI) vwCl (wd_row_rw a_row a_bytes a_rw row_count row_start rw_free) H := by rw [hH]; exact hP
  have hS : va_S A s.heap H [] := by rw [hH]; exact va_S.rf
  obtain ⟨g, hg⟩ : ∃ z, F_X8_enough row_count = z := ⟨_, rfl⟩
  rw [hg]
  generalize hQe : MQ below (Q_X8_enough dC dI cI cJ cZ a_row a_bytes a_rw A row_count row_start rw_free g) _ s 0 0 A = Q
  rw [← hH]
  clear hH
  have hl := lv_entry ([.ref a_rw]) (n := 1) (Nat.le_of_ble_eq_true rfl)
  rw [lg_entry_eq]
  generalize (lg_sl ([.ref a_rw]) ++ List.replicate (1 - (lg_sl ([.ref a_rw])).length) Slot.unset).toArray = ls at hl ⊢
  have hl : lv_has ls 1 [(0, .ref a_rw)] := hl
  unfold F_X8_enough at hg
  refine lv_aload_n hx hb dX8_enough_0 rfl (lv_at hl 0 rfl) ?_
  refine va_get (D := (dC, dI)) (ci := 7) (v := .ref a_row) (C := RX8) (T := TX8) (N := 2) hx hb hts iw_X8_enough_X8 hown hK hP 1 rfl rfl 0 (by decide) (hts (.fieldLink RX8 9 "PlaneBlocks$RawWriter" "row" "LPlaneBlocks$ByteRow;") (by decide +kernel)) (fun _ h9 => h9) rfl dX8_enough_1 ?_
  refine va_get (D := (dC, dI)) (ci := 0) (v := .int row_count) (C := RX1) (T := TX1) (N := 3) hx hb hts iw_X8_enough_X1 hown hK hP 0 rfl rfl 1 (by decide) (hts (.fieldLink RX8 19 "PlaneBlocks$ByteRow" "count" "I") (by decide +kernel)) (fun _ h9 => h9) rfl dX8_enough_4 ?_
  subst hg
  rw [← hQe]
  exact W.iret (v := row_count) hx hb hr (fun t ht hW => ⟨⟨row_count, (), rfl, rfl, by rw [ht]; exact hP, va_K.moved hW.alike hK, hD⟩, hS.F ht⟩) hS.2.2 dX8_enough_7
abbrev wd_row_bytes_rw (cI : ClassId) (a_row : Nat) (a_bytes : Nat) (a_rw : Nat) (row_count : Int32) (row_start : Int32) (bytes_n : Nat) (bytes_f : Nat → Int32) (rw_free : Int32) : va_W := [(a_row, .inr (0, [.ref a_bytes, .int row_count, .int row_start])), (a_bytes, .inl (cI, bytes_n, .inl bytes_f)), (a_rw, .inr (7, [.ref a_row, .int rw_free]))]
abbrev rm_X8_next (Dt : Nat) : Room := { frames := 3, cells := Dt, slots := Dt, locals := 83 }
abbrev Q_X8_next (dC : Nat → ClassId) (dI : Nat → Nat → Nat) (cI cJ cZ : ClassId) (a_row : Nat) (a_bytes : Nat) (a_rw : Nat) (A : Nat → Prop) (row_count : Int32) (row_start : Int32) (bytes_n : Nat) (bytes_f : Nat → Int32) (rw_free : Int32) (g : (Int32 × Int32 × Nat × (Nat → Int32) × Int32)) : Array Value → State → Outcome → State → Prop := va_Qi (fun (r : Int32) (_ : Nat) => r = g.1) (fun u t => va_P (dC, dI) vwCl (wd_row_bytes_rw cI a_row u a_rw g.2.1 row_start g.2.2.1 g.2.2.2.1 g.2.2.2.2) t.heap ∧ va_K (dC, dI) vwCl [(cI, .int), (cJ, .long), (cZ, .boolean)] t ∧ va_D A (wd_row_bytes_rw cI a_row u a_rw g.2.1 row_start g.2.2.1 g.2.2.2.1 g.2.2.2.2)) A
theorem iw_X8_next_X8 : ∀ w ∈ u_ws RX8 TX8 2, w ∈ wsX8_next := by decide +kernel
set_option maxHeartbeats 4000000 in
set_option maxRecDepth 100000 in
theorem c_X8_next (l : Launch) (dC : Nat → ClassId) (dI : Nat → Nat → Nat) (cI cJ cZ : ClassId) (a_row : Nat) (a_bytes : Nat) (a_rw : Nat) (sz : Nat) (row_count : Int32) (row_start : Int32) (bytes_n : Nat) (bytes_f : Nat → Int32) (rw_free : Int32) (p1 : Int32) (p2 : Int32) (hpre : P_X8_next row_count row_start bytes_n bytes_f rw_free) : Met l yX8_next wsX8_next (rm_X8_next (D_X8_next row_count row_start bytes_n bytes_f rw_free)) (va_Pc [.ref a_rw, .int p1, .int p2] (fun U => U.heap.size = sz ∧ va_P (dC, dI) vwCl (wd_row_bytes_rw cI a_row a_bytes a_rw row_count row_start bytes_n bytes_f rw_free) U.heap ∧ va_K (dC, dI) vwCl [(cI, .int), (cJ, .long), (cZ, .boolean)] U ∧ va_D (fun _ => True) (wd_row_bytes_rw cI a_row a_bytes a_rw row_count row_start bytes_n bytes_f rw_free))) (Q_X8_next dC dI cI cJ cZ a_row a_bytes a_rw (va_A (wd_row_bytes_rw cI a_row a_bytes a_rw row_count row_start bytes_n bytes_f rw_free) sz) row_count row_start bytes_n bytes_f rw_free (F_X8_next p1 row_count row_start bytes_n bytes_f rw_free)) (D_X8_next row_count row_start bytes_n bytes_f rw_free) (D_X8_next row_count row_start bytes_n bytes_f rw_free) (va_A (wd_row_bytes_rw cI a_row a_bytes a_rw row_count row_start bytes_n bytes_f rw_free) sz) := by
  refine Met.ofW (cc := cX8_next) (maxL := 3) (ret := (some .int)) (by decide) rfl ?_
  intro p e s m args below meth c s₁ B hml hv
  obtain ⟨rfl, hsz, hP, hK, hD0⟩ := hv
  have hx := B.exec
  have hb := B.bytes
  have hr := B.returns
  have hts := atoms_spec (ws := wsX8_next) B.pre
  have hown : s.vm.findClass RX8 = some m.cls := findClass_of_methodNamed B.named
  have hlocks := B.notSynchronized
  subst hsz
  have hD := hD0.self (sz := s.heap.size)
  generalize hAe : va_A (wd_row_bytes_rw cI a_row a_bytes a_rw row_count row_start bytes_n bytes_f rw_free) s.heap.size = A at hD ⊢
  have hA : ∀ q : Nat, s.heap.size ≤ q → A q := fun q h => by rw [← hAe]; exact Or.inr h
  have hS : va_S A s.heap s.heap [] := va_S.rf
  obtain ⟨H, hH⟩ : ∃ z, z = s.heap := ⟨_, rfl⟩
  have hP : va_P (dC, dI) vwCl (wd_row_bytes_rw cI a_row a_bytes a_rw row_count row_start bytes_n bytes_f rw_free) H := by rw [hH]; exact hP
  have hS : va_S A s.heap H [] := by rw [hH]; exact va_S.rf
  obtain ⟨g, hg⟩ : ∃ z, F_X8_next p1 row_count row_start bytes_n bytes_f rw_free = z := ⟨_, rfl⟩
  rw [hg]
  obtain ⟨Dt, hDt⟩ : ∃ z, D_X8_next row_count row_start bytes_n bytes_f rw_free = z := ⟨_, rfl⟩
  rw [hDt]
  generalize hQe : MQ below (Q_X8_next dC dI cI cJ cZ a_row a_bytes a_rw A row_count row_start bytes_n bytes_f rw_free g) _ s Dt Dt A = Q
  rw [← hH]
  clear hH
  have hl := lv_entry ([.ref a_rw, .int p1, .int p2]) (n := 3) (Nat.le_of_ble_eq_true rfl)
  rw [lg_entry_eq]
  generalize (lg_sl ([.ref a_rw, .int p1, .int p2]) ++ List.replicate (3 - (lg_sl ([.ref a_rw, .int p1, .int p2])).length) Slot.unset).toArray = ls at hl ⊢
  have hl : lv_has ls 3 [(0, .ref a_rw), (1, .int p1), (2, .int p2)] := hl
  unfold F_X8_next at hg
  unfold P_X8_next at hpre
  unfold D_X8_next at hDt
  obtain ⟨k, hk⟩ : ∃ z : Nat, z = 0 := ⟨_, rfl⟩
  obtain ⟨E, hE⟩ : ∃ z : Nat, z = 0 := ⟨_, rfl⟩
  have hC : k + (DJ_X8_next_j_7 row_count row_start bytes_n bytes_f rw_free + (let j_7 := J_X8_next_j_7 row_count row_start bytes_n bytes_f rw_free; 0)) + E ≤ Dt := by rw [hk, hE, Nat.zero_add]; exact Nat.le_of_eq hDt
  refine W.widen (k := k) (n := k) (Nat.zero_le _) (Nat.zero_le _) ?_
  clear hk hE hDt
  refine lv_aload_n hx hb dX8_next_0 rfl (lv_at hl 0 rfl) ?_
  refine va_get (D := (dC, dI)) (ci := 7) (v := .int rw_free) (C := RX8) (T := TX8) (N := 2) hx hb hts iw_X8_next_X8 hown hK hP 2 rfl rfl 1 (by decide) (hts (.fieldLink RX8 15 "PlaneBlocks$RawWriter" "free" "I") (by decide +kernel)) (fun _ h9 => h9) rfl dX8_next_1 ?_
  obtain ⟨j_7, hj_7⟩ : ∃ z, J_X8_next_j_7 row_count row_start bytes_n bytes_f rw_free = z := ⟨_, rfl⟩
  have hg : (let r_8 := F_X1_addToLast (p1 <<< ((j_7.2.2.2 - (1 : Int32)) &&& 31)) j_7.1 row_start j_7.2.2.1; (p1, j_7.1, j_7.2.1, r_8, j_7.2.2.2 - (1 : Int32))) = g := by first | (rw [hj_7] at hg; exact hg) | (subst hj_7; exact hg)
  have hC : k + (DJ_X8_next_j_7 row_count row_start bytes_n bytes_f rw_free + (0)) + E ≤ Dt := by subst hj_7; exact hC
  have hJ_j_7 : ∀ (u_bytes_j_7 : Nat) (k : Nat) (H : Heap) (locs : List Loc) (ls : Array Slot), va_P (dC, dI) vwCl (wd_row_bytes_rw cI a_row u_bytes_j_7 a_rw j_7.1 row_start j_7.2.1 j_7.2.2.1 j_7.2.2.2) H → va_D A (wd_row_bytes_rw cI a_row u_bytes_j_7 a_rw j_7.1 row_start j_7.2.1 j_7.2.2.1 j_7.2.2.2) → va_S A s.heap H locs → lv_has ls 3 [(0, .ref a_rw), (1, .int p1), (2, .int p2)] → k + (0) + E ≤ Dt → W p l e (headSpec wsX8_next (rm_X8_next Dt)).room s m ([.ref a_rw, .int p1, .int p2] : List Value).toArray below meth c H locs k k Q (F0 m 39 ls []) := by
    intro u_bytes_j_7 k H locs ls hP hD hS hl hC
    have hpre := hpre.2 j_7 hj_7
    refine lv_aload_n hx hb dX8_next_39 rfl (lv_at hl 0 rfl) ?_
    refine lv_dup hx hb dX8_next_40 rfl ?_
    refine va_get (D := (dC, dI)) (ci := 7) (v := .int j_7.2.2.2) (C := RX8) (T := TX8) (N := 2) hx hb hts iw_X8_next_X8 hown hK hP 2 rfl rfl 1 (by decide) (hts (.fieldLink RX8 15 "PlaneBlocks$RawWriter" "free" "I") (by decide +kernel)) (fun _ h9 => h9) rfl dX8_next_41 ?_
    refine lv_iconst (v := 1) hx hb dX8_next_44 (by decide) ?_
    refine lv_isub hx hb dX8_next_45 ?_
    refine va_put (D := (dC, dI)) (ci := 7) (v := .int (j_7.2.2.2 - (1 : Int32))) (ty := .int) (C := RX8) (T := TX8) (N := 2) hx hb hts iw_X8_next_X8 tyX8 tyX8_ok nmX8 hown hK hP hD hS 2 rfl rfl 1 (by decide) (hts (.fieldLink RX8 15 "PlaneBlocks$RawWriter" "free" "I") (by decide +kernel)) (fun _ h9 => h9) rfl (by decide +kernel) rfl rfl (Nat.le_of_ble_eq_true rfl) dX8_next_46 (fun H locs hP hD hS => ?_)
    have hP : va_P (dC, dI) vwCl (wd_row_bytes_rw cI a_row u_bytes_j_7 a_rw j_7.1 row_start j_7.2.1 j_7.2.2.1 (j_7.2.2.2 - (1 : Int32))) H := hP
    have hD : va_D A (wd_row_bytes_rw cI a_row u_bytes_j_7 a_rw j_7.1 row_start j_7.2.1 j_7.2.2.1 (j_7.2.2.2 - (1 : Int32))) := hD
    refine lv_aload_n hx hb dX8_next_49 rfl (lv_at hl 0 rfl) ?_
    refine va_get (D := (dC, dI)) (ci := 7) (v := .ref a_row) (C := RX8) (T := TX8) (N := 2) hx hb hts iw_X8_next_X8 hown hK hP 2 rfl rfl 0 (by decide) (hts (.fieldLink RX8 9 "PlaneBlocks$RawWriter" "row" "LPlaneBlocks$ByteRow;") (by decide +kernel)) (fun _ h9 => h9) rfl dX8_next_50 ?_
    refine lv_iload_n hx hb dX8_next_53 rfl (lv_at hl 1 rfl) ?_
    refine lv_aload_n hx hb dX8_next_54 rfl (lv_at hl 0 rfl) ?_
    refine va_get (D := (dC, dI)) (ci := 7) (v := .int (j_7.2.2.2 - (1 : Int32))) (C := RX8) (T := TX8) (N := 2) hx hb hts iw_X8_next_X8 hown hK hP 2 rfl rfl 1 (by decide) (hts (.fieldLink RX8 15 "PlaneBlocks$RawWriter" "free" "I") (by decide +kernel)) (fun _ h9 => h9) rfl dX8_next_55 ?_
    refine lv_ishl hx hb dX8_next_58 ?_
    have hPc := hP.sub (ws' := (wd_row_bytes cI a_row u_bytes_j_7 j_7.1 row_start j_7.2.1 j_7.2.2.1)) [0, 1] rfl
    have hDc := hD.sub (ws' := (wd_row_bytes cI a_row u_bytes_j_7 j_7.1 row_start j_7.2.1 j_7.2.2.1)) [0, 1] (by decide) rfl
    have hFc := va_free (wc := (wd_row_bytes cI a_row u_bytes_j_7 j_7.1 row_start j_7.2.1 j_7.2.2.1)) hD hS hA [0, 1] rfl
    refine va_callv (va_runV (As := [.int (p1 <<< ((j_7.2.2.2 - (1 : Int32)) &&& 31))]) (rest := []) ⟨hx, hb, hml, hown, hts⟩ (c_X1_addToLast l dC dI cI cJ cZ a_row u_bytes_j_7 H.size j_7.1 row_start j_7.2.1 j_7.2.2.1 (p1 <<< ((j_7.2.2.2 - (1 : Int32)) &&& 31)) hpre) (cwV 1 hts gX8_next_X1_addToLast rfl rfl rfl (by decide +kernel) ⟨Nat.le_of_ble_eq_true rfl, Nat.le_of_ble_eq_true rfl⟩) ⟨fun a U g mk q => by obtain ⟨q0, q1, qP, qK, qD⟩ := q; exact ⟨q0, q1, qP, va_K.moved (u := U) (U := U.calling g mk a) (Vm.Alike.refl U.vm) qK, qD⟩, va_recv hK hPc (ci := 0) (q0 := 0) rfl rfl, fun U hU hW => ⟨rfl, by rw [hU], by rw [hU]; exact hPc, va_K.moved hW.alike hK, hDc.weaken (fun _ _ _ _ => trivial)⟩⟩ rfl rfl hl.1 rfl (lv_room (Nat.le_of_ble_eq_true rfl)) dX8_next_59 ⟨k0_le hC, k0_le hC⟩) hS (fun q _ h => hFc q h) hFc (fun u t H1 locs ht hvm hw hB hz1 hk1 hS => ?_)
    obtain ⟨hP1, hK1, hD1⟩ := hB
    rw [ht] at hP1
    obtain ⟨r_8, hr_8⟩ : ∃ z, F_X1_addToLast (p1 <<< ((j_7.2.2.2 - (1 : Int32)) &&& 31)) j_7.1 row_start j_7.2.2.1 = z := ⟨_, rfl⟩
    try rw [hr_8] at hw
    try rw [hr_8] at hP1
    try rw [hr_8] at hD1
    have hg : (p1, j_7.1, j_7.2.1, r_8, j_7.2.2.2 - (1 : Int32)) = g := by first | (rw [hr_8] at hg; exact hg) | (subst hr_8; exact hg)
    obtain ⟨hP, hD⟩ := va_join (wr := [(a_rw, .inr (7, [.ref a_row, .int (j_7.2.2.2 - (1 : Int32))]))]) (w1 := (wd_row_bytes cI a_row u_bytes_j_7 j_7.1 row_start j_7.2.1 r_8)) hP hD [0, 1] [2] rfl rfl (by decide) (by decide) hk1 hFc hP1 hD1
    have hP : va_P (dC, dI) vwCl (wd_row_bytes_rw cI a_row u_bytes_j_7 a_rw j_7.1 row_start j_7.2.1 r_8 (j_7.2.2.2 - (1 : Int32))) H1 := hP.sub [1, 2, 0] rfl
    have hD : va_D A (wd_row_bytes_rw cI a_row u_bytes_j_7 a_rw j_7.1 row_start j_7.2.1 r_8 (j_7.2.2.2 - (1 : Int32))) := hD.sub [1, 2, 0] (by decide) rfl
    generalize H1 = H at hP hS ⊢
    refine lv_iload_n hx hb dX8_next_62 rfl (lv_at hl 1 rfl) ?_
    subst hg
    refine W.widen (k := Dt) (n := Dt) (k0_le hC) (k0_le hC) ?_
    rw [← hQe]
    exact W.iret (v := p1) hx hb hr (fun t ht hW => ⟨⟨p1, u_bytes_j_7, rfl, rfl, by rw [ht]; exact hP, va_K.moved hW.alike hK, hD⟩, hS.F ht⟩) hS.2.2 dX8_next_63
  have hpre := hpre.1
  obtain ⟨E2, hE2⟩ : ∃ z : Nat, z = (0) + E := ⟨_, rfl⟩
  have hC : k + (DJ_X8_next_j_7 row_count row_start bytes_n bytes_f rw_free) + E2 ≤ Dt := by rw [hE2]; exact add4 hC
  unfold PJ_X8_next_j_7 at hpre
  have hC : k + (if rw_free = (0 : Int32) then (let r_2 := F_X1_last row_count row_start bytes_f; let j_4 := J_X8_next_j_4 r_2; D_X1_append row_count bytes_n bytes_f + (let r_5 := F_X1_append (0 : Int32) row_count bytes_n bytes_f; 0)) else 0) + E2 ≤ Dt := hC
  have hg : (if rw_free = (0 : Int32) then (let r_2 := F_X1_last row_count row_start bytes_f; let j_4 := J_X8_next_j_4 r_2; let r_5 := F_X1_append (0 : Int32) row_count bytes_n bytes_f; (r_5.1, r_5.2.1, r_5.2.2, j_4)) else (row_count, bytes_n, bytes_f, rw_free)) = j_7 := by rw [← hj_7]; rfl
  clear hj_7
  refine lv_if_ne (tgt := 39) hx hb dX8_next_4 (by decide) (fun c_1 => ?_) (fun c_1 => ?_)
  · rw [if_neg c_1] at hg
    rw [if_neg c_1] at hC
    exact hJ_j_7 a_bytes _ _ _ _ (by rw [← hg]; exact hP) (by rw [← hg]; exact hD) hS (lv_sub hl [0, 1, 2] rfl) (by rw [Nat.add_assoc, ← hE2]; exact hC)
  · rw [if_pos c_1] at hg
    rw [if_pos c_1] at hC
    have hpre := hpre c_1
    refine lv_aload_n hx hb dX8_next_7 rfl (lv_at hl 0 rfl) ?_
    refine lv_aload_n hx hb dX8_next_8 rfl (lv_at hl 0 rfl) ?_
    refine va_get (D := (dC, dI)) (ci := 7) (v := .ref a_row) (C := RX8) (T := TX8) (N := 2) hx hb hts iw_X8_next_X8 hown hK hP 2 rfl rfl 0 (by decide) (hts (.fieldLink RX8 9 "PlaneBlocks$RawWriter" "row" "LPlaneBlocks$ByteRow;") (by decide +kernel)) (fun _ h9 => h9) rfl dX8_next_9 ?_
    have hPc := hP.sub (ws' := (wd_row_bytes cI a_row a_bytes row_count row_start bytes_n bytes_f)) [0, 1] rfl
    have hDc := hD.sub (ws' := (wd_row_bytes cI a_row a_bytes row_count row_start bytes_n bytes_f)) [0, 1] (by decide) rfl
    have hFc := va_free (wc := (wd_row_bytes cI a_row a_bytes row_count row_start bytes_n bytes_f)) hD hS hA [0, 1] rfl
    refine va_calli (va_runV (As := []) (rest := [.ref a_rw]) ⟨hx, hb, hml, hown, hts⟩ (c_X1_last l dC dI cI cJ cZ a_row a_bytes H.size row_count row_start bytes_n bytes_f hpre.1) (cwV 0 hts gX8_next_X1_last rfl rfl rfl (by decide +kernel) ⟨Nat.le_of_ble_eq_true rfl, Nat.le_of_ble_eq_true rfl⟩) ⟨fun a U g mk q => by obtain ⟨q0, q1, qP, qK, qD⟩ := q; exact ⟨q0, q1, qP, va_K.moved (u := U) (U := U.calling g mk a) (Vm.Alike.refl U.vm) qK, qD⟩, va_recv hK hPc (ci := 0) (q0 := 0) rfl rfl, fun U hU hW => ⟨rfl, by rw [hU], by rw [hU]; exact hPc, va_K.moved hW.alike hK, hDc.weaken (fun _ _ _ _ => trivial)⟩⟩ rfl rfl hl.1 rfl (lv_room (Nat.le_of_ble_eq_true rfl)) dX8_next_12 ⟨k0_le hC, k0_le hC⟩) hS (fun q _ h => hFc q h) hFc (fun r u t H1 locs ht hvm hw hB hz1 hk1 hS => ?_)
    obtain ⟨hP1, hK1, hD1⟩ := hB
    rw [ht] at hP1
    obtain ⟨r_2, hr_2⟩ : ∃ z, F_X1_last row_count row_start bytes_f = z := ⟨_, rfl⟩
    try rw [hr_2] at hw
    try rw [hr_2] at hP1
    try rw [hr_2] at hD1
    have hg : (let j_4 := J_X8_next_j_4 r_2; let r_5 := F_X1_append (0 : Int32) row_count bytes_n bytes_f; (r_5.1, r_5.2.1, r_5.2.2, j_4)) = j_7 := by first | (rw [hr_2] at hg; exact hg) | (subst hr_2; exact hg)
    have hw := hw.symm
    subst hw
    obtain ⟨hP, hD⟩ := va_join (wr := [(a_rw, .inr (7, [.ref a_row, .int rw_free]))]) (w1 := (wd_row_bytes cI a_row a_bytes row_count row_start bytes_n bytes_f)) hP hD [0, 1] [2] rfl rfl (by decide) (by decide) hk1 hFc hP1 hD1
    have hP : va_P (dC, dI) vwCl (wd_row_bytes_rw cI a_row a_bytes a_rw row_count row_start bytes_n bytes_f rw_free) H1 := hP.sub [1, 2, 0] rfl
    have hD : va_D A (wd_row_bytes_rw cI a_row a_bytes a_rw row_count row_start bytes_n bytes_f rw_free) := hD.sub [1, 2, 0] (by decide) rfl
    generalize H1 = H at hP hS ⊢
    have hC : k + (let j_4 := J_X8_next_j_4 r_2; D_X1_append row_count bytes_n bytes_f + (let r_5 := F_X1_append (0 : Int32) row_count bytes_n bytes_f; 0)) + E2 ≤ Dt := by subst hr_2; exact hC
    have hpre := hpre.2 r_2 hr_2
    refine lv_sipush (v := 255) hx hb dX8_next_15 (by decide) ?_
    obtain ⟨j_4, hj_4⟩ : ∃ z, J_X8_next_j_4 r_2 = z := ⟨_, rfl⟩
    have hg : (let r_5 := F_X1_append (0 : Int32) row_count bytes_n bytes_f; (r_5.1, r_5.2.1, r_5.2.2, j_4)) = j_7 := by first | (rw [hj_4] at hg; exact hg) | (subst hj_4; exact hg)
    have hC : k + (D_X1_append row_count bytes_n bytes_f + (let r_5 := F_X1_append (0 : Int32) row_count bytes_n bytes_f; 0)) + E2 ≤ Dt := by subst hj_4; exact hC
    have hJ_j_4 : ∀ (k : Nat) (H : Heap) (locs : List Loc) (ls : Array Slot), va_P (dC, dI) vwCl (wd_row_bytes_rw cI a_row a_bytes a_rw row_count row_start bytes_n bytes_f rw_free) H → va_D A (wd_row_bytes_rw cI a_row a_bytes a_rw row_count row_start bytes_n bytes_f rw_free) → va_S A s.heap H locs → lv_has ls 3 [(0, .ref a_rw), (1, .int p1), (2, .int p2)] → k + (D_X1_append row_count bytes_n bytes_f + (let r_5 := F_X1_append (0 : Int32) row_count bytes_n bytes_f; 0)) + E2 ≤ Dt → W p l e (headSpec wsX8_next (rm_X8_next Dt)).room s m ([.ref a_rw, .int p1, .int p2] : List Value).toArray below meth c H locs k k Q (F0 m 28 ls [.int j_4, .ref a_rw]) := by
      intro k H locs ls hP hD hS hl hC
      have hpre := hpre j_4 hj_4
      refine va_put (D := (dC, dI)) (ci := 7) (v := .int j_4) (ty := .int) (C := RX8) (T := TX8) (N := 2) hx hb hts iw_X8_next_X8 tyX8 tyX8_ok nmX8 hown hK hP hD hS 2 rfl rfl 1 (by decide) (hts (.fieldLink RX8 15 "PlaneBlocks$RawWriter" "free" "I") (by decide +kernel)) (fun _ h9 => h9) rfl (by decide +kernel) rfl rfl (Nat.le_of_ble_eq_true rfl) dX8_next_28 (fun H locs hP hD hS => ?_)
      have hP : va_P (dC, dI) vwCl (wd_row_bytes_rw cI a_row a_bytes a_rw row_count row_start bytes_n bytes_f j_4) H := hP
      have hD : va_D A (wd_row_bytes_rw cI a_row a_bytes a_rw row_count row_start bytes_n bytes_f j_4) := hD
      refine lv_aload_n hx hb dX8_next_31 rfl (lv_at hl 0 rfl) ?_
      refine va_get (D := (dC, dI)) (ci := 7) (v := .ref a_row) (C := RX8) (T := TX8) (N := 2) hx hb hts iw_X8_next_X8 hown hK hP 2 rfl rfl 0 (by decide) (hts (.fieldLink RX8 9 "PlaneBlocks$RawWriter" "row" "LPlaneBlocks$ByteRow;") (by decide +kernel)) (fun _ h9 => h9) rfl dX8_next_32 ?_
      refine lv_iconst (v := 0) hx hb dX8_next_35 (by decide) ?_
      have hPc := hP.sub (ws' := (wd_row_bytes cI a_row a_bytes row_count row_start bytes_n bytes_f)) [0, 1] rfl
      have hDc := hD.sub (ws' := (wd_row_bytes cI a_row a_bytes row_count row_start bytes_n bytes_f)) [0, 1] (by decide) rfl
      have hFc := va_free (wc := (wd_row_bytes cI a_row a_bytes row_count row_start bytes_n bytes_f)) hD hS hA [0, 1] rfl
      refine va_callv (va_runV (As := [.int (0 : Int32)]) (rest := []) ⟨hx, hb, hml, hown, hts⟩ (c_X1_append l dC dI cI cJ cZ a_row a_bytes H.size row_count row_start bytes_n bytes_f (0 : Int32) hpre) (cwV 1 hts gX8_next_X1_append rfl rfl rfl (by decide +kernel) ⟨Nat.le_of_ble_eq_true rfl, Nat.le_of_ble_eq_true rfl⟩) ⟨fun a U g mk q => by obtain ⟨q0, q1, qP, qK, qD⟩ := q; exact ⟨q0, q1, qP, va_K.moved (u := U) (U := U.calling g mk a) (Vm.Alike.refl U.vm) qK, qD⟩, va_recv hK hPc (ci := 0) (q0 := 0) rfl rfl, fun U hU hW => ⟨rfl, by rw [hU], by rw [hU]; exact hPc, va_K.moved hW.alike hK, hDc.weaken (fun _ _ _ _ => trivial)⟩⟩ rfl rfl hl.1 rfl (lv_room (Nat.le_of_ble_eq_true rfl)) dX8_next_36 ⟨kd_le hC, kd_le hC⟩) hS (fun q _ h => hFc q h) hFc (fun u t H1 locs ht hvm hw hB hz1 hk1 hS => ?_)
      obtain ⟨u_6, rfl⟩ : ∃ z, z = u := ⟨_, rfl⟩
      obtain ⟨hP1, hK1, hD1⟩ := hB
      rw [ht] at hP1
      obtain ⟨r_5, hr_5⟩ : ∃ z, F_X1_append (0 : Int32) row_count bytes_n bytes_f = z := ⟨_, rfl⟩
      try rw [hr_5] at hw
      try rw [hr_5] at hP1
      try rw [hr_5] at hD1
      have hg : (r_5.1, r_5.2.1, r_5.2.2, j_4) = j_7 := by first | (rw [hr_5] at hg; exact hg) | (subst hr_5; exact hg)
      obtain ⟨hP, hD⟩ := va_join (wr := [(a_rw, .inr (7, [.ref a_row, .int j_4]))]) (w1 := (wd_row_bytes cI a_row u_6 r_5.1 row_start r_5.2.1 r_5.2.2)) hP hD [0, 1] [2] rfl rfl (by decide) (by decide) hk1 hFc hP1 hD1
      have hP : va_P (dC, dI) vwCl (wd_row_bytes_rw cI a_row u_6 a_rw r_5.1 row_start r_5.2.1 r_5.2.2 j_4) H1 := hP.sub [1, 2, 0] rfl
      have hD : va_D A (wd_row_bytes_rw cI a_row u_6 a_rw r_5.1 row_start r_5.2.1 r_5.2.2 j_4) := hD.sub [1, 2, 0] (by decide) rfl
      generalize H1 = H at hP hS ⊢
      have hC : k + (D_X1_append row_count bytes_n bytes_f + (0)) + E2 ≤ Dt := by subst hr_5; exact hC
      obtain ⟨k1, hk1⟩ : ∃ z, z = k + (D_X1_append row_count bytes_n bytes_f) := ⟨_, rfl⟩
      have hC : k1 + (0) + E2 ≤ Dt := by rw [hk1, Nat.add_assoc k]; exact hC
      refine W.widen (k := k1) (n := k1) (Nat.le_of_eq hk1.symm) (Nat.le_of_eq hk1.symm) ?_
      clear hk1
      generalize k1 = k at hC ⊢
      exact hJ_j_7 u_6 _ _ _ _ (by rw [← hg]; exact hP) (by rw [← hg]; exact hD) hS (lv_sub hl [0, 1, 2] rfl) (by rw [Nat.add_assoc, ← hE2]; exact hC)
    obtain ⟨E2, hE2⟩ : ∃ z : Nat, z = (D_X1_append row_count bytes_n bytes_f + (let r_5 := F_X1_append (0 : Int32) row_count bytes_n bytes_f; 0)) + E2 := ⟨_, rfl⟩
    have hC : k + 0 + E2 ≤ Dt := by rw [hE2]; exact add40 hC
    have hg : (if r_2 = (255 : Int32) then (7 : Int32) else (8 : Int32)) = j_4 := by rw [← hj_4]; rfl
    clear hj_4
    refine lv_icmp_ne (tgt := 26) hx hb dX8_next_18 (by decide) (fun c_3 => ?_) (fun c_3 => ?_)
    · rw [if_neg c_3] at hg
      refine lv_bipush (v := 8) hx hb dX8_next_26 (by decide) ?_
      rw [← hg] at hJ_j_4
      try rw [← hg] at hE2
      exact hJ_j_4 _ _ _ _ hP hD hS (lv_sub hl [0, 1, 2] rfl) (by rw [Nat.add_assoc, ← hE2]; exact hC)
    · rw [if_pos c_3] at hg
      refine lv_bipush (v := 7) hx hb dX8_next_21 (by decide) ?_
      refine lv_goto (tgt := 28) hx hb dX8_next_23 (by decide) ?_
      rw [← hg] at hJ_j_4
      try rw [← hg] at hE2
      exact hJ_j_4 _ _ _ _ hP hD hS (lv_sub hl [0, 1, 2] rfl) (by rw [Nat.add_assoc, ← hE2]; exact hC)
abbrev rm_X8_end (Dt : Nat) : Room := { frames := 4, cells := Dt, slots := Dt, locals := 105 }
abbrev Q_X8_end (dC : Nat → ClassId) (dI : Nat → Nat → Nat) (cI cJ cZ : ClassId) (a_row : Nat) (a_bytes : Nat) (a_rw : Nat) (A : Nat → Prop) (row_count : Int32) (row_start : Int32) (bytes_n : Nat) (bytes_f : Nat → Int32) (rw_free : Int32) (g : (Int32 × Nat × (Nat → Int32) × Int32)) : Array Value → State → Outcome → State → Prop := va_Qv (fun _ : Nat => True) (fun u t => va_P (dC, dI) vwCl (wd_row_bytes_rw cI a_row u a_rw g.1 row_start g.2.1 g.2.2.1 g.2.2.2) t.heap ∧ va_K (dC, dI) vwCl [(cI, .int), (cJ, .long), (cZ, .boolean)] t ∧ va_D A (wd_row_bytes_rw cI a_row u a_rw g.1 row_start g.2.1 g.2.2.1 g.2.2.2)) A
theorem iw_X8_end_X8 : ∀ w ∈ u_ws RX8 TX8 2, w ∈ wsX8_end := by decide +kernel
set_option maxHeartbeats 4000000 in
set_option maxRecDepth 100000 in
theorem c_X8_end (l : Launch) (dC : Nat → ClassId) (dI : Nat → Nat → Nat) (cI cJ cZ : ClassId) (a_row : Nat) (a_bytes : Nat) (a_rw : Nat) (sz : Nat) (row_count : Int32) (row_start : Int32) (bytes_n : Nat) (bytes_f : Nat → Int32) (rw_free : Int32) (hpre : P_X8_end row_count row_start bytes_n bytes_f rw_free) : Met l yX8_end wsX8_end (rm_X8_end (D_X8_end row_count row_start bytes_n bytes_f rw_free)) (va_Pc [.ref a_rw] (fun U => U.heap.size = sz ∧ va_P (dC, dI) vwCl (wd_row_bytes_rw cI a_row a_bytes a_rw row_count row_start bytes_n bytes_f rw_free) U.heap ∧ va_K (dC, dI) vwCl [(cI, .int), (cJ, .long), (cZ, .boolean)] U ∧ va_D (fun _ => True) (wd_row_bytes_rw cI a_row a_bytes a_rw row_count row_start bytes_n bytes_f rw_free))) (Q_X8_end dC dI cI cJ cZ a_row a_bytes a_rw (va_A (wd_row_bytes_rw cI a_row a_bytes a_rw row_count row_start bytes_n bytes_f rw_free) sz) row_count row_start bytes_n bytes_f rw_free (F_X8_end row_count row_start bytes_n bytes_f rw_free)) (D_X8_end row_count row_start bytes_n bytes_f rw_free) (D_X8_end row_count row_start bytes_n bytes_f rw_free) (va_A (wd_row_bytes_rw cI a_row a_bytes a_rw row_count row_start bytes_n bytes_f rw_free) sz) := by
  refine Met.ofW (cc := cX8_end) (maxL := 2) (ret := none) (by decide) rfl ?_
  intro p e s m args below meth c s₁ B hml hv
  obtain ⟨rfl, hsz, hP, hK, hD0⟩ := hv
  have hx := B.exec
  have hb := B.bytes
  have hr := B.returns
  have hts := atoms_spec (ws := wsX8_end) B.pre
  have hown : s.vm.findClass RX8 = some m.cls := findClass_of_methodNamed B.named
  have hlocks := B.notSynchronized
  subst hsz
  have hD := hD0.self (sz := s.heap.size)
  generalize hAe : va_A (wd_row_bytes_rw cI a_row a_bytes a_rw row_count row_start bytes_n bytes_f rw_free) s.heap.size = A at hD ⊢
  have hA : ∀ q : Nat, s.heap.size ≤ q → A q := fun q h => by rw [← hAe]; exact Or.inr h
  have hS : va_S A s.heap s.heap [] := va_S.rf
  obtain ⟨H, hH⟩ : ∃ z, z = s.heap := ⟨_, rfl⟩
  have hP : va_P (dC, dI) vwCl (wd_row_bytes_rw cI a_row a_bytes a_rw row_count row_start bytes_n bytes_f rw_free) H := by rw [hH]; exact hP
  have hS : va_S A s.heap H [] := by rw [hH]; exact va_S.rf
  obtain ⟨g, hg⟩ : ∃ z, F_X8_end row_count row_start bytes_n bytes_f rw_free = z := ⟨_, rfl⟩
  rw [hg]
  obtain ⟨Dt, hDt⟩ : ∃ z, D_X8_end row_count row_start bytes_n bytes_f rw_free = z := ⟨_, rfl⟩
  rw [hDt]
  generalize hQe : MQ below (Q_X8_end dC dI cI cJ cZ a_row a_bytes a_rw A row_count row_start bytes_n bytes_f rw_free g) _ s Dt Dt A = Q
  rw [← hH]
  clear hH
  have hl := lv_entry ([.ref a_rw]) (n := 2) (Nat.le_of_ble_eq_true rfl)
  rw [lg_entry_eq]
  generalize (lg_sl ([.ref a_rw]) ++ List.replicate (2 - (lg_sl ([.ref a_rw])).length) Slot.unset).toArray = ls at hl ⊢
  have hl : lv_has ls 2 [(0, .ref a_rw)] := hl
  unfold F_X8_end at hg
  unfold P_X8_end at hpre
  unfold D_X8_end at hDt
  obtain ⟨k, hk⟩ : ∃ z : Nat, z = 0 := ⟨_, rfl⟩
  obtain ⟨E, hE⟩ : ∃ z : Nat, z = 0 := ⟨_, rfl⟩
  have hC : k + (DL_X8_end_j_1 row_start fu (0 : Int32) row_count bytes_n bytes_f rw_free + (let j_1 := L_X8_end_j_1 row_start fu (0 : Int32) row_count bytes_n bytes_f rw_free; 0)) + E ≤ Dt := by rw [hk, hE, Nat.zero_add]; exact Nat.le_of_eq hDt
  refine W.widen (k := k) (n := k) (Nat.zero_le _) (Nat.zero_le _) ?_
  clear hk hE hDt
  refine lv_iconst (v := 0) hx hb dX8_end_0 (by decide) ?_
  refine lv_istore_n (lv' := [(1, .int (0 : Int32)), (0, .ref a_rw)]) hx hb dX8_end_1 rfl hl (by decide) rfl (fun ls hl => ?_)
  obtain ⟨j_1, hj_1⟩ : ∃ z, L_X8_end_j_1 row_start fu (0 : Int32) row_count bytes_n bytes_f rw_free = z := ⟨_, rfl⟩
  have hg : (j_1.2.1, j_1.2.2.1, j_1.2.2.2.1, j_1.2.2.2.2) = g := by first | (rw [hj_1] at hg; exact hg) | (subst hj_1; exact hg)
  have hC : k + (DL_X8_end_j_1 row_start fu (0 : Int32) row_count bytes_n bytes_f rw_free + (0)) + E ≤ Dt := by subst hj_1; exact hC
  have hJ_j_1 : ∀ (u_bytes_j_1 : Nat) (k : Nat) (H : Heap) (locs : List Loc) (ls : Array Slot), va_P (dC, dI) vwCl (wd_row_bytes_rw cI a_row u_bytes_j_1 a_rw j_1.2.1 row_start j_1.2.2.1 j_1.2.2.2.1 j_1.2.2.2.2) H → va_D A (wd_row_bytes_rw cI a_row u_bytes_j_1 a_rw j_1.2.1 row_start j_1.2.2.1 j_1.2.2.2.1 j_1.2.2.2.2) → va_S A s.heap H locs → lv_has ls 2 [(0, .ref a_rw), (1, .int j_1.1)] → k + (0) + E ≤ Dt → W p l e (headSpec wsX8_end (rm_X8_end Dt)).room s m ([.ref a_rw] : List Value).toArray below meth c H locs k k Q (F0 m 30 ls []) := by
    intro u_bytes_j_1 k H locs ls hP hD hS hl hC
    subst hg
    refine W.widen (k := Dt) (n := Dt) (k0_le hC) (k0_le hC) ?_
    rw [← hQe]
    exact W.vret hx hb hr (fun t ht hW => ⟨⟨u_bytes_j_1, rfl, trivial, by rw [ht]; exact hP, va_K.moved hW.alike hK, hD⟩, hS.F ht⟩) hS.2.2 dX8_end_30
  obtain ⟨E2, hE2⟩ : ∃ z : Nat, z = (0) + E := ⟨_, rfl⟩
  have hC : k + (DL_X8_end_j_1 row_start fu (0 : Int32) row_count bytes_n bytes_f rw_free) + E2 ≤ Dt := by rw [hE2]; exact add4 hC
  have hL_j_1 : ∀ (n : Nat) (v1_j_1 : Int32) (row_count_j_1 : Int32) (bytes_n_j_1 : Nat) (bytes_f_j_1 : Nat → Int32) (rw_free_j_1 : Int32) (w_bytes_j_1 : Nat) (k : Nat) (H : Heap) (locs : List Loc) (ls : Array Slot), PL_X8_end_j_1 row_start n v1_j_1 row_count_j_1 bytes_n_j_1 bytes_f_j_1 rw_free_j_1 → L_X8_end_j_1 row_start n v1_j_1 row_count_j_1 bytes_n_j_1 bytes_f_j_1 rw_free_j_1 = j_1 → va_P (dC, dI) vwCl (wd_row_bytes_rw cI a_row w_bytes_j_1 a_rw row_count_j_1 row_start bytes_n_j_1 bytes_f_j_1 rw_free_j_1) H → va_D A (wd_row_bytes_rw cI a_row w_bytes_j_1 a_rw row_count_j_1 row_start bytes_n_j_1 bytes_f_j_1 rw_free_j_1) → va_S A s.heap H locs → lv_has ls 2 [(0, .ref a_rw), (1, .int v1_j_1)] → k + (DL_X8_end_j_1 row_start n v1_j_1 row_count_j_1 bytes_n_j_1 bytes_f_j_1 rw_free_j_1) + E2 ≤ Dt → W p l e (headSpec wsX8_end (rm_X8_end Dt)).room s m ([.ref a_rw] : List Value).toArray below meth c H locs k k Q (F0 m 2 ls []) := by
    intro n
    induction n with
    | zero => intro v1_j_1 row_count_j_1 bytes_n_j_1 bytes_f_j_1 rw_free_j_1 w_bytes_j_1 k H locs ls hpre; exact absurd hpre id
    | succ n ih =>
      intro v1_j_1 row_count_j_1 bytes_n_j_1 bytes_f_j_1 rw_free_j_1 w_bytes_j_1 k H locs ls hpre hg hP hD hS hl hC
      rw [PL_X8_end_j_1] at hpre
      rw [L_X8_end_j_1] at hg
      rw [DL_X8_end_j_1] at hC
      refine lv_iload_n hx hb dX8_end_2 rfl (lv_at hl 1 rfl) ?_
      refine lv_bipush (v := 8) hx hb dX8_end_3 (by decide) ?_
      refine lv_icmp_ge (tgt := 30) hx hb dX8_end_5 (by decide) (fun c_2 => ?_) (fun c_2 => ?_)
      · rw [if_pos c_2] at hg
        rw [if_pos c_2] at hC
        exact hJ_j_1 w_bytes_j_1 _ _ _ _ (by rw [← hg]; exact hP) (by rw [← hg]; exact hD) hS (by rw [← hg]; exact lv_sub hl [0, 1] rfl) (by rw [Nat.add_assoc, ← hE2]; exact hC)
      · rw [if_neg c_2] at hg
        rw [if_neg c_2] at hC
        have hpre := hpre c_2
        refine lv_aload_n hx hb dX8_end_8 rfl (lv_at hl 0 rfl) ?_
        refine va_get (D := (dC, dI)) (ci := 7) (v := .int rw_free_j_1) (C := RX8) (T := TX8) (N := 2) hx hb hts iw_X8_end_X8 hown hK hP 2 rfl rfl 1 (by decide) (hts (.fieldLink RX8 15 "PlaneBlocks$RawWriter" "free" "I") (by decide +kernel)) (fun _ h9 => h9) rfl dX8_end_9 ?_
        refine lv_if_le (tgt := 30) hx hb dX8_end_12 (by decide) (fun c_3 => ?_) (fun c_3 => ?_)
        · rw [if_pos c_3] at hg
          rw [if_pos c_3] at hC
          exact hJ_j_1 w_bytes_j_1 _ _ _ _ (by rw [← hg]; exact hP) (by rw [← hg]; exact hD) hS (by rw [← hg]; exact lv_sub hl [0, 1] rfl) (by rw [Nat.add_assoc, ← hE2]; exact hC)
        · rw [if_neg c_3] at hg
          rw [if_neg c_3] at hC
          have hpre := hpre c_3
          refine lv_aload_n hx hb dX8_end_15 rfl (lv_at hl 0 rfl) ?_
          refine lv_iload_n hx hb dX8_end_16 rfl (lv_at hl 1 rfl) ?_
          refine lv_iconst (v := 1) hx hb dX8_end_17 (by decide) ?_
          refine lv_iand hx hb dX8_end_18 ?_
          refine lv_iconst (v := 0) hx hb dX8_end_19 (by decide) ?_
          have hPc := hP.sub (ws' := (wd_row_bytes_rw cI a_row w_bytes_j_1 a_rw row_count_j_1 row_start bytes_n_j_1 bytes_f_j_1 rw_free_j_1)) [0, 1, 2] rfl
          have hDc := hD.sub (ws' := (wd_row_bytes_rw cI a_row w_bytes_j_1 a_rw row_count_j_1 row_start bytes_n_j_1 bytes_f_j_1 rw_free_j_1)) [0, 1, 2] (by decide) rfl
          have hFc := va_free (wc := (wd_row_bytes_rw cI a_row w_bytes_j_1 a_rw row_count_j_1 row_start bytes_n_j_1 bytes_f_j_1 rw_free_j_1)) hD hS hA [0, 1, 2] rfl
          refine va_calli (va_runV (As := [.int (v1_j_1 &&& (1 : Int32)), .int (0 : Int32)]) (rest := []) ⟨hx, hb, hml, hown, hts⟩ (c_X8_next l dC dI cI cJ cZ a_row w_bytes_j_1 a_rw H.size row_count_j_1 row_start bytes_n_j_1 bytes_f_j_1 rw_free_j_1 (v1_j_1 &&& (1 : Int32)) (0 : Int32) hpre.1) (cwV 2 hts gX8_end_X8_next rfl rfl rfl (by decide +kernel) ⟨Nat.le_of_ble_eq_true rfl, Nat.le_of_ble_eq_true rfl⟩) ⟨fun a U g mk q => by obtain ⟨q0, q1, qP, qK, qD⟩ := q; exact ⟨q0, q1, qP, va_K.moved (u := U) (U := U.calling g mk a) (Vm.Alike.refl U.vm) qK, qD⟩, va_recv hK hPc (ci := 7) (q0 := 2) rfl rfl, fun U hU hW => ⟨rfl, by rw [hU], by rw [hU]; exact hPc, va_K.moved hW.alike hK, hDc.weaken (fun _ _ _ _ => trivial)⟩⟩ rfl rfl hl.1 rfl (lv_room (Nat.le_of_ble_eq_true rfl)) dX8_end_20 ⟨kd_le hC, kd_le hC⟩) hS (fun q _ h => hFc q h) hFc (fun r u t H1 locs ht hvm hw hB hz1 hk1 hS => ?_)
          obtain ⟨u_5, rfl⟩ : ∃ z, z = u := ⟨_, rfl⟩
          obtain ⟨hP1, hK1, hD1⟩ := hB
          rw [ht] at hP1
          obtain ⟨r_4, hr_4⟩ : ∃ z, F_X8_next (v1_j_1 &&& (1 : Int32)) row_count_j_1 row_start bytes_n_j_1 bytes_f_j_1 rw_free_j_1 = z := ⟨_, rfl⟩
          try rw [hr_4] at hw
          try rw [hr_4] at hP1
          try rw [hr_4] at hD1
          have hg : (L_X8_end_j_1 row_start n (v1_j_1 + (1 : Int32)) r_4.2.1 r_4.2.2.1 r_4.2.2.2.1 r_4.2.2.2.2) = j_1 := by first | (rw [hr_4] at hg; exact hg) | (subst hr_4; exact hg)
          subst hw
          obtain ⟨hP, hD⟩ := va_join (wr := []) (w1 := (wd_row_bytes_rw cI a_row u_5 a_rw r_4.2.1 row_start r_4.2.2.1 r_4.2.2.2.1 r_4.2.2.2.2)) hP hD [0, 1, 2] [] rfl rfl (by decide) (by decide) hk1 hFc hP1 hD1
          have hP : va_P (dC, dI) vwCl (wd_row_bytes_rw cI a_row u_5 a_rw r_4.2.1 row_start r_4.2.2.1 r_4.2.2.2.1 r_4.2.2.2.2) H1 := hP.sub [0, 1, 2] rfl
          have hD : va_D A (wd_row_bytes_rw cI a_row u_5 a_rw r_4.2.1 row_start r_4.2.2.1 r_4.2.2.2.1 r_4.2.2.2.2) := hD.sub [0, 1, 2] (by decide) rfl
          generalize H1 = H at hP hS ⊢
          have hC : k + (D_X8_next row_count_j_1 row_start bytes_n_j_1 bytes_f_j_1 rw_free_j_1 + (DL_X8_end_j_1 row_start n (v1_j_1 + (1 : Int32)) r_4.2.1 r_4.2.2.1 r_4.2.2.2.1 r_4.2.2.2.2)) + E2 ≤ Dt := by subst hr_4; exact hC
          obtain ⟨k1, hk1⟩ : ∃ z, z = k + (D_X8_next row_count_j_1 row_start bytes_n_j_1 bytes_f_j_1 rw_free_j_1) := ⟨_, rfl⟩
          have hC : k1 + (DL_X8_end_j_1 row_start n (v1_j_1 + (1 : Int32)) r_4.2.1 r_4.2.2.1 r_4.2.2.2.1 r_4.2.2.2.2) + E2 ≤ Dt := by rw [hk1, Nat.add_assoc k]; exact hC
          refine W.widen (k := k1) (n := k1) (Nat.le_of_eq hk1.symm) (Nat.le_of_eq hk1.symm) ?_
          clear hk1
          generalize k1 = k at hC ⊢
          have hpre := hpre.2 r_4 hr_4
          refine lv_pop hx hb dX8_end_23 rfl ?_
          refine lv_iinc (v := (v1_j_1 + (1 : Int32))) (lv' := [(1, .int (v1_j_1 + (1 : Int32))), (0, .ref a_rw)]) hx hb dX8_end_24 hl (k := 1) rfl rfl (by decide) rfl (fun ls hl => ?_)
          refine lv_goto (tgt := 2) hx hb dX8_end_27 (by decide) ?_
          exact ih (v1_j_1 + (1 : Int32)) r_4.2.1 r_4.2.2.1 r_4.2.2.2.1 r_4.2.2.2.2 u_5 k _ _ _ hpre hg hP hD hS (lv_sub hl [1, 0] rfl) hC
  exact hL_j_1 fu (0 : Int32) row_count bytes_n bytes_f rw_free a_bytes k _ _ _ hpre hj_1 hP hD hS (lv_sub hl [1, 0] rfl) hC
abbrev wd_cw (a_cw : Nat) (a_row : Nat) (a_ctx : Nat) (cw_low : Int32) (cw_size : Int32) (cw_room : Int32) : va_W := [(a_cw, .inr (2, [.ref a_row, .ref a_ctx, .int cw_low, .int cw_size, .int cw_room]))]
abbrev rm_X3_open : Room := { frames := 0, cells := 0, slots := 0, locals := 0 }
abbrev Q_X3_open (dC : Nat → ClassId) (dI : Nat → Nat → Nat) (cI cJ cZ : ClassId) (a_cw : Nat) (a_row : Nat) (a_ctx : Nat) (A : Nat → Prop) (cw_low : Int32) (cw_size : Int32) (cw_room : Int32) (g : (Int32 × Int32 × Int32)) : Array Value → State → Outcome → State → Prop := va_Qv (fun _ : Unit => True) (fun u t => va_P (dC, dI) vwCl (wd_cw a_cw a_row a_ctx g.1 g.2.1 g.2.2) t.heap ∧ va_K (dC, dI) vwCl [(cI, .int), (cJ, .long), (cZ, .boolean)] t ∧ va_D A (wd_cw a_cw a_row a_ctx g.1 g.2.1 g.2.2)) A
theorem iw_X3_open_X3 : ∀ w ∈ u_ws RX3 TX3 5, w ∈ wsX3_open := by decide +kernel
set_option maxHeartbeats 4000000 in
set_option maxRecDepth 100000 in
theorem c_X3_open (l : Launch) (dC : Nat → ClassId) (dI : Nat → Nat → Nat) (cI cJ cZ : ClassId) (a_cw : Nat) (a_row : Nat) (a_ctx : Nat) (sz : Nat) (cw_low : Int32) (cw_size : Int32) (cw_room : Int32) : Met l yX3_open wsX3_open rm_X3_open (va_Pc [.ref a_cw] (fun U => U.heap.size = sz ∧ va_P (dC, dI) vwCl (wd_cw a_cw a_row a_ctx cw_low cw_size cw_room) U.heap ∧ va_K (dC, dI) vwCl [(cI, .int), (cJ, .long), (cZ, .boolean)] U ∧ va_D (fun _ => True) (wd_cw a_cw a_row a_ctx cw_low cw_size cw_room))) (Q_X3_open dC dI cI cJ cZ a_cw a_row a_ctx (va_A (wd_cw a_cw a_row a_ctx cw_low cw_size cw_room) sz) cw_low cw_size cw_room F_X3_open) 0 0 (va_A (wd_cw a_cw a_row a_ctx cw_low cw_size cw_room) sz) := by
  refine Met.ofW (cc := cX3_open) (maxL := 1) (ret := none) (by decide) rfl ?_
  intro p e s m args below meth c s₁ B hml hv
  obtain ⟨rfl, hsz, hP, hK, hD0⟩ := hv
  have hx := B.exec
  have hb := B.bytes
  have hr := B.returns
  have hts := atoms_spec (ws := wsX3_open) B.pre
  have hown : s.vm.findClass RX3 = some m.cls := findClass_of_methodNamed B.named
  have hlocks := B.notSynchronized
  subst hsz
  have hD := hD0.self (sz := s.heap.size)
  generalize hAe : va_A (wd_cw a_cw a_row a_ctx cw_low cw_size cw_room) s.heap.size = A at hD ⊢
  have hA : ∀ q : Nat, s.heap.size ≤ q → A q := fun q h => by rw [← hAe]; exact Or.inr h
  have hS : va_S A s.heap s.heap [] := va_S.rf
  obtain ⟨H, hH⟩ : ∃ z, z = s.heap := ⟨_, rfl⟩
  have hP : va_P (dC, dI) vwCl (wd_cw a_cw a_row a_ctx cw_low cw_size cw_room) H := by rw [hH]; exact hP
  have hS : va_S A s.heap H [] := by rw [hH]; exact va_S.rf
  obtain ⟨g, hg⟩ : ∃ z, F_X3_open = z := ⟨_, rfl⟩
  rw [hg]
  generalize hQe : MQ below (Q_X3_open dC dI cI cJ cZ a_cw a_row a_ctx A cw_low cw_size cw_room g) _ s 0 0 A = Q
  rw [← hH]
  clear hH
  have hl := lv_entry ([.ref a_cw]) (n := 1) (Nat.le_of_ble_eq_true rfl)
  rw [lg_entry_eq]
  generalize (lg_sl ([.ref a_cw]) ++ List.replicate (1 - (lg_sl ([.ref a_cw])).length) Slot.unset).toArray = ls at hl ⊢
  have hl : lv_has ls 1 [(0, .ref a_cw)] := hl
  unfold F_X3_open at hg
  refine lv_aload_n hx hb dX3_open_0 rfl (lv_at hl 0 rfl) ?_
  refine lv_iconst (v := 0) hx hb dX3_open_1 (by decide) ?_
  refine va_put (D := (dC, dI)) (ci := 2) (v := .int (0 : Int32)) (ty := .int) (C := RX3) (T := TX3) (N := 5) hx hb hts iw_X3_open_X3 tyX3 tyX3_ok nmX3 hown hK hP hD hS 0 rfl rfl 2 (by decide) (hts (.fieldLink RX3 19 "PlaneBlocks$CodedWriter" "low" "I") (by decide +kernel)) (fun _ h9 => h9) rfl (by decide +kernel) rfl rfl (Nat.le_of_ble_eq_true rfl) dX3_open_2 (fun H locs hP hD hS => ?_)
  have hP : va_P (dC, dI) vwCl (wd_cw a_cw a_row a_ctx (0 : Int32) cw_size cw_room) H := hP
  have hD : va_D A (wd_cw a_cw a_row a_ctx (0 : Int32) cw_size cw_room) := hD
  refine lv_aload_n hx hb dX3_open_5 rfl (lv_at hl 0 rfl) ?_
  refine lv_ldc (v := 32768) hx hb hown (hts (.constant RX3 23 (32768)) (by decide +kernel)) dX3_open_6 ?_
  refine va_put (D := (dC, dI)) (ci := 2) (v := .int (32768 : Int32)) (ty := .int) (C := RX3) (T := TX3) (N := 5) hx hb hts iw_X3_open_X3 tyX3 tyX3_ok nmX3 hown hK hP hD hS 0 rfl rfl 3 (by decide) (hts (.fieldLink RX3 24 "PlaneBlocks$CodedWriter" "size" "I") (by decide +kernel)) (fun _ h9 => h9) rfl (by decide +kernel) rfl rfl (Nat.le_of_ble_eq_true rfl) dX3_open_8 (fun H locs hP hD hS => ?_)
  have hP : va_P (dC, dI) vwCl (wd_cw a_cw a_row a_ctx (0 : Int32) (32768 : Int32) cw_room) H := hP
  have hD : va_D A (wd_cw a_cw a_row a_ctx (0 : Int32) (32768 : Int32) cw_room) := hD
  refine lv_aload_n hx hb dX3_open_11 rfl (lv_at hl 0 rfl) ?_
  refine lv_bipush (v := 12) hx hb dX3_open_12 (by decide) ?_
  refine va_put (D := (dC, dI)) (ci := 2) (v := .int (12 : Int32)) (ty := .int) (C := RX3) (T := TX3) (N := 5) hx hb hts iw_X3_open_X3 tyX3 tyX3_ok nmX3 hown hK hP hD hS 0 rfl rfl 4 (by decide) (hts (.fieldLink RX3 27 "PlaneBlocks$CodedWriter" "room" "I") (by decide +kernel)) (fun _ h9 => h9) rfl (by decide +kernel) rfl rfl (Nat.le_of_ble_eq_true rfl) dX3_open_14 (fun H locs hP hD hS => ?_)
  have hP : va_P (dC, dI) vwCl (wd_cw a_cw a_row a_ctx (0 : Int32) (32768 : Int32) (12 : Int32)) H := hP
  have hD : va_D A (wd_cw a_cw a_row a_ctx (0 : Int32) (32768 : Int32) (12 : Int32)) := hD
  subst hg
  rw [← hQe]
  exact W.vret hx hb hr (fun t ht hW => ⟨⟨(), rfl, trivial, by rw [ht]; exact hP, va_K.moved hW.alike hK, hD⟩, hS.F ht⟩) hS.2.2 dX3_open_17
abbrev wd_row_cw (a_row : Nat) (a_bytes : Nat) (a_cw : Nat) (a_ctx : Nat) (row_count : Int32) (row_start : Int32) (cw_low : Int32) (cw_size : Int32) (cw_room : Int32) : va_W := [(a_row, .inr (0, [.ref a_bytes, .int row_count, .int row_start])), (a_cw, .inr (2, [.ref a_row, .ref a_ctx, .int cw_low, .int cw_size, .int cw_room]))]
abbrev rm_X3_enough : Room := { frames := 0, cells := 0, slots := 0, locals := 0 }
abbrev Q_X3_enough (dC : Nat → ClassId) (dI : Nat → Nat → Nat) (cI cJ cZ : ClassId) (a_row : Nat) (a_bytes : Nat) (a_cw : Nat) (a_ctx : Nat) (A : Nat → Prop) (row_count : Int32) (row_start : Int32) (cw_low : Int32) (cw_size : Int32) (cw_room : Int32) (g : Int32) : Array Value → State → Outcome → State → Prop := va_Qi (fun (r : Int32) (_ : Unit) => r = g) (fun u t => va_P (dC, dI) vwCl (wd_row_cw a_row a_bytes a_cw a_ctx row_count row_start cw_low cw_size cw_room) t.heap ∧ va_K (dC, dI) vwCl [(cI, .int), (cJ, .long), (cZ, .boolean)] t ∧ va_D A (wd_row_cw a_row a_bytes a_cw a_ctx row_count row_start cw_low cw_size cw_room)) A
theorem iw_X3_enough_X1 : ∀ w ∈ u_ws RX1 TX1 3, w ∈ wsX3_enough := by decide +kernel
theorem iw_X3_enough_X3 : ∀ w ∈ u_ws RX3 TX3 5, w ∈ wsX3_enough := by decide +kernel
set_option maxHeartbeats 4000000 in
set_option maxRecDepth 100000 in
theorem c_X3_enough (l : Launch) (dC : Nat → ClassId) (dI : Nat → Nat → Nat) (cI cJ cZ : ClassId) (a_row : Nat) (a_bytes : Nat) (a_cw : Nat) (a_ctx : Nat) (sz : Nat) (row_count : Int32) (row_start : Int32) (cw_low : Int32) (cw_size : Int32) (cw_room : Int32) : Met l yX3_enough wsX3_enough rm_X3_enough (va_Pc [.ref a_cw] (fun U => U.heap.size = sz ∧ va_P (dC, dI) vwCl (wd_row_cw a_row a_bytes a_cw a_ctx row_count row_start cw_low cw_size cw_room) U.heap ∧ va_K (dC, dI) vwCl [(cI, .int), (cJ, .long), (cZ, .boolean)] U ∧ va_D (fun _ => True) (wd_row_cw a_row a_bytes a_cw a_ctx row_count row_start cw_low cw_size cw_room))) (Q_X3_enough dC dI cI cJ cZ a_row a_bytes a_cw a_ctx (va_A (wd_row_cw a_row a_bytes a_cw a_ctx row_count row_start cw_low cw_size cw_room) sz) row_count row_start cw_low cw_size cw_room (F_X3_enough row_count)) 0 0 (va_A (wd_row_cw a_row a_bytes a_cw a_ctx row_count row_start cw_low cw_size cw_room) sz) := by
  refine Met.ofW (cc := cX3_enough) (maxL := 1) (ret := (some .int)) (by decide) rfl ?_
  intro p e s m args below meth c s₁ B hml hv
  obtain ⟨rfl, hsz, hP, hK, hD0⟩ := hv
  have hx := B.exec
  have hb := B.bytes
  have hr := B.returns
  have hts := atoms_spec (ws := wsX3_enough) B.pre
  have hown : s.vm.findClass RX3 = some m.cls := findClass_of_methodNamed B.named
  have hlocks := B.notSynchronized
  subst hsz
  have hD := hD0.self (sz := s.heap.size)
  generalize hAe : va_A (wd_row_cw a_row a_bytes a_cw a_ctx row_count row_start cw_low cw_size cw_room) s.heap.size = A at hD ⊢
  have hA : ∀ q : Nat, s.heap.size ≤ q → A q := fun q h => by rw [← hAe]; exact Or.inr h
  have hS : va_S A s.heap s.heap [] := va_S.rf
  obtain ⟨H, hH⟩ : ∃ z, z = s.heap := ⟨_, rfl⟩
  have hP : va_P (dC, dI) vwCl (wd_row_cw a_row a_bytes a_cw a_ctx row_count row_start cw_low cw_size cw_room) H := by rw [hH]; exact hP
  have hS : va_S A s.heap H [] := by rw [hH]; exact va_S.rf
  obtain ⟨g, hg⟩ : ∃ z, F_X3_enough row_count = z := ⟨_, rfl⟩
  rw [hg]
  generalize hQe : MQ below (Q_X3_enough dC dI cI cJ cZ a_row a_bytes a_cw a_ctx A row_count row_start cw_low cw_size cw_room g) _ s 0 0 A = Q
  rw [← hH]
  clear hH
  have hl := lv_entry ([.ref a_cw]) (n := 1) (Nat.le_of_ble_eq_true rfl)
  rw [lg_entry_eq]
  generalize (lg_sl ([.ref a_cw]) ++ List.replicate (1 - (lg_sl ([.ref a_cw])).length) Slot.unset).toArray = ls at hl ⊢
  have hl : lv_has ls 1 [(0, .ref a_cw)] := hl
  unfold F_X3_enough at hg
  refine lv_aload_n hx hb dX3_enough_0 rfl (lv_at hl 0 rfl) ?_
  refine va_get (D := (dC, dI)) (ci := 2) (v := .ref a_row) (C := RX3) (T := TX3) (N := 5) hx hb hts iw_X3_enough_X3 hown hK hP 1 rfl rfl 0 (by decide) (hts (.fieldLink RX3 9 "PlaneBlocks$CodedWriter" "row" "LPlaneBlocks$ByteRow;") (by decide +kernel)) (fun _ h9 => h9) rfl dX3_enough_1 ?_
  refine va_get (D := (dC, dI)) (ci := 0) (v := .int row_count) (C := RX1) (T := TX1) (N := 3) hx hb hts iw_X3_enough_X1 hown hK hP 0 rfl rfl 1 (by decide) (hts (.fieldLink RX3 30 "PlaneBlocks$ByteRow" "count" "I") (by decide +kernel)) (fun _ h9 => h9) rfl dX3_enough_4 ?_
  refine lv_iconst (v := 5) hx hb dX3_enough_7 (by decide) ?_
  refine lv_iadd hx hb dX3_enough_8 ?_
  subst hg
  rw [← hQe]
  exact W.iret (v := (row_count + (5 : Int32))) hx hb hr (fun t ht hW => ⟨⟨(row_count + (5 : Int32)), (), rfl, rfl, by rw [ht]; exact hP, va_K.moved hW.alike hK, hD⟩, hS.F ht⟩) hS.2.2 dX3_enough_9
abbrev rm_X3_takeShare : Room := { frames := 0, cells := 0, slots := 0, locals := 0 }
abbrev Q_X3_takeShare (dC : Nat → ClassId) (dI : Nat → Nat → Nat) (cI cJ cZ : ClassId) (a_cw : Nat) (a_row : Nat) (a_ctx : Nat) (A : Nat → Prop) (cw_low : Int32) (cw_size : Int32) (cw_room : Int32) (g : (Int32 × Int32)) : Array Value → State → Outcome → State → Prop := va_Qv (fun _ : Unit => True) (fun u t => va_P (dC, dI) vwCl (wd_cw a_cw a_row a_ctx g.1 g.2 cw_room) t.heap ∧ va_K (dC, dI) vwCl [(cI, .int), (cJ, .long), (cZ, .boolean)] t ∧ va_D A (wd_cw a_cw a_row a_ctx g.1 g.2 cw_room)) A
theorem iw_X3_takeShare_X3 : ∀ w ∈ u_ws RX3 TX3 5, w ∈ wsX3_takeShare := by decide +kernel
set_option maxHeartbeats 4000000 in
set_option maxRecDepth 100000 in
theorem c_X3_takeShare (l : Launch) (dC : Nat → ClassId) (dI : Nat → Nat → Nat) (cI cJ cZ : ClassId) (a_cw : Nat) (a_row : Nat) (a_ctx : Nat) (sz : Nat) (cw_low : Int32) (cw_size : Int32) (cw_room : Int32) (p1 : Int32) (p2 : Int32) : Met l yX3_takeShare wsX3_takeShare rm_X3_takeShare (va_Pc [.ref a_cw, .int p1, .int p2] (fun U => U.heap.size = sz ∧ va_P (dC, dI) vwCl (wd_cw a_cw a_row a_ctx cw_low cw_size cw_room) U.heap ∧ va_K (dC, dI) vwCl [(cI, .int), (cJ, .long), (cZ, .boolean)] U ∧ va_D (fun _ => True) (wd_cw a_cw a_row a_ctx cw_low cw_size cw_room))) (Q_X3_takeShare dC dI cI cJ cZ a_cw a_row a_ctx (va_A (wd_cw a_cw a_row a_ctx cw_low cw_size cw_room) sz) cw_low cw_size cw_room (F_X3_takeShare p1 p2 cw_low cw_size)) 0 0 (va_A (wd_cw a_cw a_row a_ctx cw_low cw_size cw_room) sz) := by
  refine Met.ofW (cc := cX3_takeShare) (maxL := 3) (ret := none) (by decide) rfl ?_
  intro p e s m args below meth c s₁ B hml hv
  obtain ⟨rfl, hsz, hP, hK, hD0⟩ := hv
  have hx := B.exec
  have hb := B.bytes
  have hr := B.returns
  have hts := atoms_spec (ws := wsX3_takeShare) B.pre
  have hown : s.vm.findClass RX3 = some m.cls := findClass_of_methodNamed B.named
  have hlocks := B.notSynchronized
  subst hsz
  have hD := hD0.self (sz := s.heap.size)
  generalize hAe : va_A (wd_cw a_cw a_row a_ctx cw_low cw_size cw_room) s.heap.size = A at hD ⊢
  have hA : ∀ q : Nat, s.heap.size ≤ q → A q := fun q h => by rw [← hAe]; exact Or.inr h
  have hS : va_S A s.heap s.heap [] := va_S.rf
  obtain ⟨H, hH⟩ : ∃ z, z = s.heap := ⟨_, rfl⟩
  have hP : va_P (dC, dI) vwCl (wd_cw a_cw a_row a_ctx cw_low cw_size cw_room) H := by rw [hH]; exact hP
  have hS : va_S A s.heap H [] := by rw [hH]; exact va_S.rf
  obtain ⟨g, hg⟩ : ∃ z, F_X3_takeShare p1 p2 cw_low cw_size = z := ⟨_, rfl⟩
  rw [hg]
  generalize hQe : MQ below (Q_X3_takeShare dC dI cI cJ cZ a_cw a_row a_ctx A cw_low cw_size cw_room g) _ s 0 0 A = Q
  rw [← hH]
  clear hH
  have hl := lv_entry ([.ref a_cw, .int p1, .int p2]) (n := 3) (Nat.le_of_ble_eq_true rfl)
  rw [lg_entry_eq]
  generalize (lg_sl ([.ref a_cw, .int p1, .int p2]) ++ List.replicate (3 - (lg_sl ([.ref a_cw, .int p1, .int p2])).length) Slot.unset).toArray = ls at hl ⊢
  have hl : lv_has ls 3 [(0, .ref a_cw), (1, .int p1), (2, .int p2)] := hl
  unfold F_X3_takeShare at hg
  refine lv_iload_n hx hb dX3_takeShare_0 rfl (lv_at hl 1 rfl) ?_
  refine lv_if_eq (tgt := 12) hx hb dX3_takeShare_1 (by decide) (fun c_1 => ?_) (fun c_1 => ?_)
  · rw [if_pos c_1] at hg
    refine lv_aload_n hx hb dX3_takeShare_12 rfl (lv_at hl 0 rfl) ?_
    refine lv_dup hx hb dX3_takeShare_13 rfl ?_
    refine va_get (D := (dC, dI)) (ci := 2) (v := .int cw_low) (C := RX3) (T := TX3) (N := 5) hx hb hts iw_X3_takeShare_X3 hown hK hP 0 rfl rfl 2 (by decide) (hts (.fieldLink RX3 19 "PlaneBlocks$CodedWriter" "low" "I") (by decide +kernel)) (fun _ h9 => h9) rfl dX3_takeShare_14 ?_
    refine lv_iload_n hx hb dX3_takeShare_17 rfl (lv_at hl 2 rfl) ?_
    refine lv_iadd hx hb dX3_takeShare_18 ?_
    refine va_put (D := (dC, dI)) (ci := 2) (v := .int (cw_low + p2)) (ty := .int) (C := RX3) (T := TX3) (N := 5) hx hb hts iw_X3_takeShare_X3 tyX3 tyX3_ok nmX3 hown hK hP hD hS 0 rfl rfl 2 (by decide) (hts (.fieldLink RX3 19 "PlaneBlocks$CodedWriter" "low" "I") (by decide +kernel)) (fun _ h9 => h9) rfl (by decide +kernel) rfl rfl (Nat.le_of_ble_eq_true rfl) dX3_takeShare_19 (fun H locs hP hD hS => ?_)
    have hP : va_P (dC, dI) vwCl (wd_cw a_cw a_row a_ctx (cw_low + p2) cw_size cw_room) H := hP
    have hD : va_D A (wd_cw a_cw a_row a_ctx (cw_low + p2) cw_size cw_room) := hD
    subst hg
    rw [← hQe]
    exact W.vret hx hb hr (fun t ht hW => ⟨⟨(), rfl, trivial, by rw [ht]; exact hP, va_K.moved hW.alike hK, hD⟩, hS.F ht⟩) hS.2.2 dX3_takeShare_22
  · rw [if_neg c_1] at hg
    refine lv_aload_n hx hb dX3_takeShare_4 rfl (lv_at hl 0 rfl) ?_
    refine lv_iload_n hx hb dX3_takeShare_5 rfl (lv_at hl 2 rfl) ?_
    refine va_put (D := (dC, dI)) (ci := 2) (v := .int p2) (ty := .int) (C := RX3) (T := TX3) (N := 5) hx hb hts iw_X3_takeShare_X3 tyX3 tyX3_ok nmX3 hown hK hP hD hS 0 rfl rfl 3 (by decide) (hts (.fieldLink RX3 24 "PlaneBlocks$CodedWriter" "size" "I") (by decide +kernel)) (fun _ h9 => h9) rfl (by decide +kernel) rfl rfl (Nat.le_of_ble_eq_true rfl) dX3_takeShare_6 (fun H locs hP hD hS => ?_)
    have hP : va_P (dC, dI) vwCl (wd_cw a_cw a_row a_ctx cw_low p2 cw_room) H := hP
    have hD : va_D A (wd_cw a_cw a_row a_ctx cw_low p2 cw_room) := hD
    refine lv_goto (tgt := 22) hx hb dX3_takeShare_9 (by decide) ?_
    subst hg
    rw [← hQe]
    exact W.vret hx hb hr (fun t ht hW => ⟨⟨(), rfl, trivial, by rw [ht]; exact hP, va_K.moved hW.alike hK, hD⟩, hS.F ht⟩) hS.2.2 dX3_takeShare_22
abbrev wd_row_bytes_cw (cI : ClassId) (a_row : Nat) (a_bytes : Nat) (a_cw : Nat) (a_ctx : Nat) (row_count : Int32) (row_start : Int32) (bytes_n : Nat) (bytes_f : Nat → Int32) (cw_low : Int32) (cw_size : Int32) (cw_room : Int32) : va_W := [(a_row, .inr (0, [.ref a_bytes, .int row_count, .int row_start])), (a_bytes, .inl (cI, bytes_n, .inl bytes_f)), (a_cw, .inr (2, [.ref a_row, .ref a_ctx, .int cw_low, .int cw_size, .int cw_room]))]
abbrev rm_X3_byteOut (Dt : Nat) : Room := { frames := 3, cells := Dt, slots := Dt, locals := 83 }
abbrev Q_X3_byteOut (dC : Nat → ClassId) (dI : Nat → Nat → Nat) (cI cJ cZ : ClassId) (a_row : Nat) (a_bytes : Nat) (a_cw : Nat) (a_ctx : Nat) (A : Nat → Prop) (row_count : Int32) (row_start : Int32) (bytes_n : Nat) (bytes_f : Nat → Int32) (cw_low : Int32) (cw_size : Int32) (cw_room : Int32) (g : (Int32 × Nat × (Nat → Int32) × Int32 × Int32)) : Array Value → State → Outcome → State → Prop := va_Qv (fun _ : Nat => True) (fun u t => va_P (dC, dI) vwCl (wd_row_bytes_cw cI a_row u a_cw a_ctx g.1 row_start g.2.1 g.2.2.1 g.2.2.2.1 cw_size g.2.2.2.2) t.heap ∧ va_K (dC, dI) vwCl [(cI, .int), (cJ, .long), (cZ, .boolean)] t ∧ va_D A (wd_row_bytes_cw cI a_row u a_cw a_ctx g.1 row_start g.2.1 g.2.2.1 g.2.2.2.1 cw_size g.2.2.2.2)) A
theorem iw_X3_byteOut_X3 : ∀ w ∈ u_ws RX3 TX3 5, w ∈ wsX3_byteOut := by decide +kernel
set_option maxHeartbeats 4000000 in
set_option maxRecDepth 100000 in
theorem c_X3_byteOut (l : Launch) (dC : Nat → ClassId) (dI : Nat → Nat → Nat) (cI cJ cZ : ClassId) (a_row : Nat) (a_bytes : Nat) (a_cw : Nat) (a_ctx : Nat) (sz : Nat) (row_count : Int32) (row_start : Int32) (bytes_n : Nat) (bytes_f : Nat → Int32) (cw_low : Int32) (cw_size : Int32) (cw_room : Int32) (hpre : P_X3_byteOut row_count row_start bytes_n bytes_f cw_low) : Met l yX3_byteOut wsX3_byteOut (rm_X3_byteOut (D_X3_byteOut row_count row_start bytes_n bytes_f cw_low)) (va_Pc [.ref a_cw] (fun U => U.heap.size = sz ∧ va_P (dC, dI) vwCl (wd_row_bytes_cw cI a_row a_bytes a_cw a_ctx row_count row_start bytes_n bytes_f cw_low cw_size cw_room) U.heap ∧ va_K (dC, dI) vwCl [(cI, .int), (cJ, .long), (cZ, .boolean)] U ∧ va_D (fun _ => True) (wd_row_bytes_cw cI a_row a_bytes a_cw a_ctx row_count row_start bytes_n bytes_f cw_low cw_size cw_room))) (Q_X3_byteOut dC dI cI cJ cZ a_row a_bytes a_cw a_ctx (va_A (wd_row_bytes_cw cI a_row a_bytes a_cw a_ctx row_count row_start bytes_n bytes_f cw_low cw_size cw_room) sz) row_count row_start bytes_n bytes_f cw_low cw_size cw_room (F_X3_byteOut row_count row_start bytes_n bytes_f cw_low)) (D_X3_byteOut row_count row_start bytes_n bytes_f cw_low) (D_X3_byteOut row_count row_start bytes_n bytes_f cw_low) (va_A (wd_row_bytes_cw cI a_row a_bytes a_cw a_ctx row_count row_start bytes_n bytes_f cw_low cw_size cw_room) sz) := by
  refine Met.ofW (cc := cX3_byteOut) (maxL := 3) (ret := none) (by decide) rfl ?_
  intro p e s m args below meth c s₁ B hml hv
  obtain ⟨rfl, hsz, hP, hK, hD0⟩ := hv
  have hx := B.exec
  have hb := B.bytes
  have hr := B.returns
  have hts := atoms_spec (ws := wsX3_byteOut) B.pre
  have hown : s.vm.findClass RX3 = some m.cls := findClass_of_methodNamed B.named
  have hlocks := B.notSynchronized
  subst hsz
  have hD := hD0.self (sz := s.heap.size)
  generalize hAe : va_A (wd_row_bytes_cw cI a_row a_bytes a_cw a_ctx row_count row_start bytes_n bytes_f cw_low cw_size cw_room) s.heap.size = A at hD ⊢
  have hA : ∀ q : Nat, s.heap.size ≤ q → A q := fun q h => by rw [← hAe]; exact Or.inr h
  have hS : va_S A s.heap s.heap [] := va_S.rf
  obtain ⟨H, hH⟩ : ∃ z, z = s.heap := ⟨_, rfl⟩
  have hP : va_P (dC, dI) vwCl (wd_row_bytes_cw cI a_row a_bytes a_cw a_ctx row_count row_start bytes_n bytes_f cw_low cw_size cw_room) H := by rw [hH]; exact hP
  have hS : va_S A s.heap H [] := by rw [hH]; exact va_S.rf
  obtain ⟨g, hg⟩ : ∃ z, F_X3_byteOut row_count row_start bytes_n bytes_f cw_low = z := ⟨_, rfl⟩
  rw [hg]
  obtain ⟨Dt, hDt⟩ : ∃ z, D_X3_byteOut row_count row_start bytes_n bytes_f cw_low = z := ⟨_, rfl⟩
  rw [hDt]
  generalize hQe : MQ below (Q_X3_byteOut dC dI cI cJ cZ a_row a_bytes a_cw a_ctx A row_count row_start bytes_n bytes_f cw_low cw_size cw_room g) _ s Dt Dt A = Q
  rw [← hH]
  clear hH
  have hl := lv_entry ([.ref a_cw]) (n := 3) (Nat.le_of_ble_eq_true rfl)
  rw [lg_entry_eq]
  generalize (lg_sl ([.ref a_cw]) ++ List.replicate (3 - (lg_sl ([.ref a_cw])).length) Slot.unset).toArray = ls at hl ⊢
  have hl : lv_has ls 3 [(0, .ref a_cw)] := hl
  unfold F_X3_byteOut at hg
  unfold P_X3_byteOut at hpre
  unfold D_X3_byteOut at hDt
  obtain ⟨k, hk⟩ : ∃ z : Nat, z = 0 := ⟨_, rfl⟩
  obtain ⟨E, hE⟩ : ∃ z : Nat, z = 0 := ⟨_, rfl⟩
  have hC : k + (let r_1 := F_X1_last row_count row_start bytes_f; let j_6 := J_X3_byteOut_j_6 row_count row_start bytes_f cw_low r_1; let r_7 := F_X1_last row_count row_start j_6.1; let j_9 := J_X3_byteOut_j_9 r_7; D_X1_append row_count bytes_n j_6.1 + (let r_10 := F_X1_append ((j_6.2 >>> (j_9 &&& 31)) &&& (255 : Int32)) row_count bytes_n j_6.1; 0)) + E ≤ Dt := by rw [hk, hE, Nat.zero_add]; exact Nat.le_of_eq hDt
  refine W.widen (k := k) (n := k) (Nat.zero_le _) (Nat.zero_le _) ?_
  clear hk hE hDt
  refine lv_aload_n hx hb dX3_byteOut_0 rfl (lv_at hl 0 rfl) ?_
  refine va_get (D := (dC, dI)) (ci := 2) (v := .ref a_row) (C := RX3) (T := TX3) (N := 5) hx hb hts iw_X3_byteOut_X3 hown hK hP 2 rfl rfl 0 (by decide) (hts (.fieldLink RX3 9 "PlaneBlocks$CodedWriter" "row" "LPlaneBlocks$ByteRow;") (by decide +kernel)) (fun _ h9 => h9) rfl dX3_byteOut_1 ?_
  have hPc := hP.sub (ws' := (wd_row_bytes cI a_row a_bytes row_count row_start bytes_n bytes_f)) [0, 1] rfl
  have hDc := hD.sub (ws' := (wd_row_bytes cI a_row a_bytes row_count row_start bytes_n bytes_f)) [0, 1] (by decide) rfl
  have hFc := va_free (wc := (wd_row_bytes cI a_row a_bytes row_count row_start bytes_n bytes_f)) hD hS hA [0, 1] rfl
  refine va_calli (va_runV (As := []) (rest := []) ⟨hx, hb, hml, hown, hts⟩ (c_X1_last l dC dI cI cJ cZ a_row a_bytes H.size row_count row_start bytes_n bytes_f hpre.1) (cwV 0 hts gX3_byteOut_X1_last rfl rfl rfl (by decide +kernel) ⟨Nat.le_of_ble_eq_true rfl, Nat.le_of_ble_eq_true rfl⟩) ⟨fun a U g mk q => by obtain ⟨q0, q1, qP, qK, qD⟩ := q; exact ⟨q0, q1, qP, va_K.moved (u := U) (U := U.calling g mk a) (Vm.Alike.refl U.vm) qK, qD⟩, va_recv hK hPc (ci := 0) (q0 := 0) rfl rfl, fun U hU hW => ⟨rfl, by rw [hU], by rw [hU]; exact hPc, va_K.moved hW.alike hK, hDc.weaken (fun _ _ _ _ => trivial)⟩⟩ rfl rfl hl.1 rfl (lv_room (Nat.le_of_ble_eq_true rfl)) dX3_byteOut_4 ⟨k0_le hC, k0_le hC⟩) hS (fun q _ h => hFc q h) hFc (fun r u t H1 locs ht hvm hw hB hz1 hk1 hS => ?_)
  obtain ⟨hP1, hK1, hD1⟩ := hB
  rw [ht] at hP1
  obtain ⟨r_1, hr_1⟩ : ∃ z, F_X1_last row_count row_start bytes_f = z := ⟨_, rfl⟩
  try rw [hr_1] at hw
  try rw [hr_1] at hP1
  try rw [hr_1] at hD1
  have hg : (let j_6 := J_X3_byteOut_j_6 row_count row_start bytes_f cw_low r_1; let r_7 := F_X1_last row_count row_start j_6.1; let j_9 := J_X3_byteOut_j_9 r_7; let r_10 := F_X1_append ((j_6.2 >>> (j_9 &&& 31)) &&& (255 : Int32)) row_count bytes_n j_6.1; (r_10.1, r_10.2.1, r_10.2.2, j_6.2 &&& (((1 : Int32) <<< (j_9 &&& 31)) - (1 : Int32)), (27 : Int32) - j_9)) = g := by first | (rw [hr_1] at hg; exact hg) | (subst hr_1; exact hg)
  have hw := hw.symm
  subst hw
  obtain ⟨hP, hD⟩ := va_join (wr := [(a_cw, .inr (2, [.ref a_row, .ref a_ctx, .int cw_low, .int cw_size, .int cw_room]))]) (w1 := (wd_row_bytes cI a_row a_bytes row_count row_start bytes_n bytes_f)) hP hD [0, 1] [2] rfl rfl (by decide) (by decide) hk1 hFc hP1 hD1
  have hP : va_P (dC, dI) vwCl (wd_row_bytes_cw cI a_row a_bytes a_cw a_ctx row_count row_start bytes_n bytes_f cw_low cw_size cw_room) H1 := hP.sub [1, 2, 0] rfl
  have hD : va_D A (wd_row_bytes_cw cI a_row a_bytes a_cw a_ctx row_count row_start bytes_n bytes_f cw_low cw_size cw_room) := hD.sub [1, 2, 0] (by decide) rfl
  generalize H1 = H at hP hS ⊢
  have hC : k + (let j_6 := J_X3_byteOut_j_6 row_count row_start bytes_f cw_low r_1; let r_7 := F_X1_last row_count row_start j_6.1; let j_9 := J_X3_byteOut_j_9 r_7; D_X1_append row_count bytes_n j_6.1 + (let r_10 := F_X1_append ((j_6.2 >>> (j_9 &&& 31)) &&& (255 : Int32)) row_count bytes_n j_6.1; 0)) + E ≤ Dt := by subst hr_1; exact hC
  have hpre := hpre.2 r_1 hr_1
  refine lv_istore_n (lv' := [(1, .int r_1), (0, .ref a_cw)]) hx hb dX3_byteOut_7 rfl hl (by decide) rfl (fun ls hl => ?_)
  refine lv_iload_n hx hb dX3_byteOut_8 rfl (lv_at hl 0 rfl) ?_
  refine lv_iconst (v := -1) hx hb dX3_byteOut_9 (by decide) ?_
  obtain ⟨j_6, hj_6⟩ : ∃ z, J_X3_byteOut_j_6 row_count row_start bytes_f cw_low r_1 = z := ⟨_, rfl⟩
  have hg : (let r_7 := F_X1_last row_count row_start j_6.1; let j_9 := J_X3_byteOut_j_9 r_7; let r_10 := F_X1_append ((j_6.2 >>> (j_9 &&& 31)) &&& (255 : Int32)) row_count bytes_n j_6.1; (r_10.1, r_10.2.1, r_10.2.2, j_6.2 &&& (((1 : Int32) <<< (j_9 &&& 31)) - (1 : Int32)), (27 : Int32) - j_9)) = g := by first | (rw [hj_6] at hg; exact hg) | (subst hj_6; exact hg)
  have hC : k + (let r_7 := F_X1_last row_count row_start j_6.1; let j_9 := J_X3_byteOut_j_9 r_7; D_X1_append row_count bytes_n j_6.1 + (let r_10 := F_X1_append ((j_6.2 >>> (j_9 &&& 31)) &&& (255 : Int32)) row_count bytes_n j_6.1; 0)) + E ≤ Dt := by subst hj_6; exact hC
  have hJ_j_6 : ∀ (k : Nat) (H : Heap) (locs : List Loc) (ls : Array Slot), va_P (dC, dI) vwCl (wd_row_bytes_cw cI a_row a_bytes a_cw a_ctx row_count row_start bytes_n j_6.1 j_6.2 cw_size cw_room) H → va_D A (wd_row_bytes_cw cI a_row a_bytes a_cw a_ctx row_count row_start bytes_n j_6.1 j_6.2 cw_size cw_room) → va_S A s.heap H locs → lv_has ls 3 [(0, .ref a_cw), (1, .int r_1)] → k + (let r_7 := F_X1_last row_count row_start j_6.1; let j_9 := J_X3_byteOut_j_9 r_7; D_X1_append row_count bytes_n j_6.1 + (let r_10 := F_X1_append ((j_6.2 >>> (j_9 &&& 31)) &&& (255 : Int32)) row_count bytes_n j_6.1; 0)) + E ≤ Dt → W p l e (headSpec wsX3_byteOut (rm_X3_byteOut Dt)).room s m ([.ref a_cw] : List Value).toArray below meth c H locs k k Q (F0 m 48 ls []) := by
    intro k H locs ls hP hD hS hl hC
    have hpre := hpre.2 j_6 hj_6
    refine lv_aload_n hx hb dX3_byteOut_48 rfl (lv_at hl 0 rfl) ?_
    refine va_get (D := (dC, dI)) (ci := 2) (v := .ref a_row) (C := RX3) (T := TX3) (N := 5) hx hb hts iw_X3_byteOut_X3 hown hK hP 2 rfl rfl 0 (by decide) (hts (.fieldLink RX3 9 "PlaneBlocks$CodedWriter" "row" "LPlaneBlocks$ByteRow;") (by decide +kernel)) (fun _ h9 => h9) rfl dX3_byteOut_49 ?_
    have hPc := hP.sub (ws' := (wd_row_bytes cI a_row a_bytes row_count row_start bytes_n j_6.1)) [0, 1] rfl
    have hDc := hD.sub (ws' := (wd_row_bytes cI a_row a_bytes row_count row_start bytes_n j_6.1)) [0, 1] (by decide) rfl
    have hFc := va_free (wc := (wd_row_bytes cI a_row a_bytes row_count row_start bytes_n j_6.1)) hD hS hA [0, 1] rfl
    refine va_calli (va_runV (As := []) (rest := []) ⟨hx, hb, hml, hown, hts⟩ (c_X1_last l dC dI cI cJ cZ a_row a_bytes H.size row_count row_start bytes_n j_6.1 hpre.1) (cwV 0 hts gX3_byteOut_X1_last rfl rfl rfl (by decide +kernel) ⟨Nat.le_of_ble_eq_true rfl, Nat.le_of_ble_eq_true rfl⟩) ⟨fun a U g mk q => by obtain ⟨q0, q1, qP, qK, qD⟩ := q; exact ⟨q0, q1, qP, va_K.moved (u := U) (U := U.calling g mk a) (Vm.Alike.refl U.vm) qK, qD⟩, va_recv hK hPc (ci := 0) (q0 := 0) rfl rfl, fun U hU hW => ⟨rfl, by rw [hU], by rw [hU]; exact hPc, va_K.moved hW.alike hK, hDc.weaken (fun _ _ _ _ => trivial)⟩⟩ rfl rfl hl.1 rfl (lv_room (Nat.le_of_ble_eq_true rfl)) dX3_byteOut_52 ⟨k0_le hC, k0_le hC⟩) hS (fun q _ h => hFc q h) hFc (fun r u t H1 locs ht hvm hw hB hz1 hk1 hS => ?_)
    obtain ⟨hP1, hK1, hD1⟩ := hB
    rw [ht] at hP1
    obtain ⟨r_7, hr_7⟩ : ∃ z, F_X1_last row_count row_start j_6.1 = z := ⟨_, rfl⟩
    try rw [hr_7] at hw
    try rw [hr_7] at hP1
    try rw [hr_7] at hD1
    have hg : (let j_9 := J_X3_byteOut_j_9 r_7; let r_10 := F_X1_append ((j_6.2 >>> (j_9 &&& 31)) &&& (255 : Int32)) row_count bytes_n j_6.1; (r_10.1, r_10.2.1, r_10.2.2, j_6.2 &&& (((1 : Int32) <<< (j_9 &&& 31)) - (1 : Int32)), (27 : Int32) - j_9)) = g := by first | (rw [hr_7] at hg; exact hg) | (subst hr_7; exact hg)
    have hw := hw.symm
    subst hw
    obtain ⟨hP, hD⟩ := va_join (wr := [(a_cw, .inr (2, [.ref a_row, .ref a_ctx, .int j_6.2, .int cw_size, .int cw_room]))]) (w1 := (wd_row_bytes cI a_row a_bytes row_count row_start bytes_n j_6.1)) hP hD [0, 1] [2] rfl rfl (by decide) (by decide) hk1 hFc hP1 hD1
    have hP : va_P (dC, dI) vwCl (wd_row_bytes_cw cI a_row a_bytes a_cw a_ctx row_count row_start bytes_n j_6.1 j_6.2 cw_size cw_room) H1 := hP.sub [1, 2, 0] rfl
    have hD : va_D A (wd_row_bytes_cw cI a_row a_bytes a_cw a_ctx row_count row_start bytes_n j_6.1 j_6.2 cw_size cw_room) := hD.sub [1, 2, 0] (by decide) rfl
    generalize H1 = H at hP hS ⊢
    have hC : k + (let j_9 := J_X3_byteOut_j_9 r_7; D_X1_append row_count bytes_n j_6.1 + (let r_10 := F_X1_append ((j_6.2 >>> (j_9 &&& 31)) &&& (255 : Int32)) row_count bytes_n j_6.1; 0)) + E ≤ Dt := by subst hr_7; exact hC
    have hpre := hpre.2 r_7 hr_7
    refine lv_sipush (v := 255) hx hb dX3_byteOut_55 (by decide) ?_
    obtain ⟨j_9, hj_9⟩ : ∃ z, J_X3_byteOut_j_9 r_7 = z := ⟨_, rfl⟩
    have hg : (let r_10 := F_X1_append ((j_6.2 >>> (j_9 &&& 31)) &&& (255 : Int32)) row_count bytes_n j_6.1; (r_10.1, r_10.2.1, r_10.2.2, j_6.2 &&& (((1 : Int32) <<< (j_9 &&& 31)) - (1 : Int32)), (27 : Int32) - j_9)) = g := by first | (rw [hj_9] at hg; exact hg) | (subst hj_9; exact hg)
    have hC : k + (D_X1_append row_count bytes_n j_6.1 + (let r_10 := F_X1_append ((j_6.2 >>> (j_9 &&& 31)) &&& (255 : Int32)) row_count bytes_n j_6.1; 0)) + E ≤ Dt := by subst hj_9; exact hC
    have hJ_j_9 : ∀ (k : Nat) (H : Heap) (locs : List Loc) (ls : Array Slot), va_P (dC, dI) vwCl (wd_row_bytes_cw cI a_row a_bytes a_cw a_ctx row_count row_start bytes_n j_6.1 j_6.2 cw_size cw_room) H → va_D A (wd_row_bytes_cw cI a_row a_bytes a_cw a_ctx row_count row_start bytes_n j_6.1 j_6.2 cw_size cw_room) → va_S A s.heap H locs → lv_has ls 3 [(0, .ref a_cw), (1, .int r_1)] → k + (D_X1_append row_count bytes_n j_6.1 + (let r_10 := F_X1_append ((j_6.2 >>> (j_9 &&& 31)) &&& (255 : Int32)) row_count bytes_n j_6.1; 0)) + E ≤ Dt → W p l e (headSpec wsX3_byteOut (rm_X3_byteOut Dt)).room s m ([.ref a_cw] : List Value).toArray below meth c H locs k k Q (F0 m 68 ls [.int j_9]) := by
      intro k H locs ls hP hD hS hl hC
      have hpre := hpre j_9 hj_9
      refine lv_istore_n (lv' := [(2, .int j_9), (0, .ref a_cw), (1, .int r_1)]) hx hb dX3_byteOut_68 rfl hl (by decide) rfl (fun ls hl => ?_)
      refine lv_aload_n hx hb dX3_byteOut_69 rfl (lv_at hl 1 rfl) ?_
      refine va_get (D := (dC, dI)) (ci := 2) (v := .ref a_row) (C := RX3) (T := TX3) (N := 5) hx hb hts iw_X3_byteOut_X3 hown hK hP 2 rfl rfl 0 (by decide) (hts (.fieldLink RX3 9 "PlaneBlocks$CodedWriter" "row" "LPlaneBlocks$ByteRow;") (by decide +kernel)) (fun _ h9 => h9) rfl dX3_byteOut_70 ?_
      refine lv_aload_n hx hb dX3_byteOut_73 rfl (lv_at hl 1 rfl) ?_
      refine va_get (D := (dC, dI)) (ci := 2) (v := .int j_6.2) (C := RX3) (T := TX3) (N := 5) hx hb hts iw_X3_byteOut_X3 hown hK hP 2 rfl rfl 2 (by decide) (hts (.fieldLink RX3 19 "PlaneBlocks$CodedWriter" "low" "I") (by decide +kernel)) (fun _ h9 => h9) rfl dX3_byteOut_74 ?_
      refine lv_iload_n hx hb dX3_byteOut_77 rfl (lv_at hl 0 rfl) ?_
      refine lv_ishr hx hb dX3_byteOut_78 ?_
      refine lv_sipush (v := 255) hx hb dX3_byteOut_79 (by decide) ?_
      refine lv_iand hx hb dX3_byteOut_82 ?_
      have hPc := hP.sub (ws' := (wd_row_bytes cI a_row a_bytes row_count row_start bytes_n j_6.1)) [0, 1] rfl
      have hDc := hD.sub (ws' := (wd_row_bytes cI a_row a_bytes row_count row_start bytes_n j_6.1)) [0, 1] (by decide) rfl
      have hFc := va_free (wc := (wd_row_bytes cI a_row a_bytes row_count row_start bytes_n j_6.1)) hD hS hA [0, 1] rfl
      refine va_callv (va_runV (As := [.int ((j_6.2 >>> (j_9 &&& 31)) &&& (255 : Int32))]) (rest := []) ⟨hx, hb, hml, hown, hts⟩ (c_X1_append l dC dI cI cJ cZ a_row a_bytes H.size row_count row_start bytes_n j_6.1 ((j_6.2 >>> (j_9 &&& 31)) &&& (255 : Int32)) hpre) (cwV 1 hts gX3_byteOut_X1_append rfl rfl rfl (by decide +kernel) ⟨Nat.le_of_ble_eq_true rfl, Nat.le_of_ble_eq_true rfl⟩) ⟨fun a U g mk q => by obtain ⟨q0, q1, qP, qK, qD⟩ := q; exact ⟨q0, q1, qP, va_K.moved (u := U) (U := U.calling g mk a) (Vm.Alike.refl U.vm) qK, qD⟩, va_recv hK hPc (ci := 0) (q0 := 0) rfl rfl, fun U hU hW => ⟨rfl, by rw [hU], by rw [hU]; exact hPc, va_K.moved hW.alike hK, hDc.weaken (fun _ _ _ _ => trivial)⟩⟩ rfl rfl hl.1 rfl (lv_room (Nat.le_of_ble_eq_true rfl)) dX3_byteOut_83 ⟨kd_le hC, kd_le hC⟩) hS (fun q _ h => hFc q h) hFc (fun u t H1 locs ht hvm hw hB hz1 hk1 hS => ?_)
      obtain ⟨u_11, rfl⟩ : ∃ z, z = u := ⟨_, rfl⟩
      obtain ⟨hP1, hK1, hD1⟩ := hB
      rw [ht] at hP1
      obtain ⟨r_10, hr_10⟩ : ∃ z, F_X1_append ((j_6.2 >>> (j_9 &&& 31)) &&& (255 : Int32)) row_count bytes_n j_6.1 = z := ⟨_, rfl⟩
      try rw [hr_10] at hw
      try rw [hr_10] at hP1
      try rw [hr_10] at hD1
      have hg : (r_10.1, r_10.2.1, r_10.2.2, j_6.2 &&& (((1 : Int32) <<< (j_9 &&& 31)) - (1 : Int32)), (27 : Int32) - j_9) = g := by first | (rw [hr_10] at hg; exact hg) | (subst hr_10; exact hg)
      obtain ⟨hP, hD⟩ := va_join (wr := [(a_cw, .inr (2, [.ref a_row, .ref a_ctx, .int j_6.2, .int cw_size, .int cw_room]))]) (w1 := (wd_row_bytes cI a_row u_11 r_10.1 row_start r_10.2.1 r_10.2.2)) hP hD [0, 1] [2] rfl rfl (by decide) (by decide) hk1 hFc hP1 hD1
      have hP : va_P (dC, dI) vwCl (wd_row_bytes_cw cI a_row u_11 a_cw a_ctx r_10.1 row_start r_10.2.1 r_10.2.2 j_6.2 cw_size cw_room) H1 := hP.sub [1, 2, 0] rfl
      have hD : va_D A (wd_row_bytes_cw cI a_row u_11 a_cw a_ctx r_10.1 row_start r_10.2.1 r_10.2.2 j_6.2 cw_size cw_room) := hD.sub [1, 2, 0] (by decide) rfl
      generalize H1 = H at hP hS ⊢
      have hC : k + (D_X1_append row_count bytes_n j_6.1 + (0)) + E ≤ Dt := by subst hr_10; exact hC
      obtain ⟨k1, hk1⟩ : ∃ z, z = k + (D_X1_append row_count bytes_n j_6.1) := ⟨_, rfl⟩
      have hC : k1 + (0) + E ≤ Dt := by rw [hk1, Nat.add_assoc k]; exact hC
      refine W.widen (k := k1) (n := k1) (Nat.le_of_eq hk1.symm) (Nat.le_of_eq hk1.symm) ?_
      clear hk1
      generalize k1 = k at hC ⊢
      refine lv_aload_n hx hb dX3_byteOut_86 rfl (lv_at hl 1 rfl) ?_
      refine lv_dup hx hb dX3_byteOut_87 rfl ?_
      refine va_get (D := (dC, dI)) (ci := 2) (v := .int j_6.2) (C := RX3) (T := TX3) (N := 5) hx hb hts iw_X3_byteOut_X3 hown hK hP 2 rfl rfl 2 (by decide) (hts (.fieldLink RX3 19 "PlaneBlocks$CodedWriter" "low" "I") (by decide +kernel)) (fun _ h9 => h9) rfl dX3_byteOut_88 ?_
      refine lv_iconst (v := 1) hx hb dX3_byteOut_91 (by decide) ?_
      refine lv_iload_n hx hb dX3_byteOut_92 rfl (lv_at hl 0 rfl) ?_
      refine lv_ishl hx hb dX3_byteOut_93 ?_
      refine lv_iconst (v := 1) hx hb dX3_byteOut_94 (by decide) ?_
      refine lv_isub hx hb dX3_byteOut_95 ?_
      refine lv_iand hx hb dX3_byteOut_96 ?_
      refine va_put (D := (dC, dI)) (ci := 2) (v := .int (j_6.2 &&& (((1 : Int32) <<< (j_9 &&& 31)) - (1 : Int32)))) (ty := .int) (C := RX3) (T := TX3) (N := 5) hx hb hts iw_X3_byteOut_X3 tyX3 tyX3_ok nmX3 hown hK hP hD hS 2 rfl rfl 2 (by decide) (hts (.fieldLink RX3 19 "PlaneBlocks$CodedWriter" "low" "I") (by decide +kernel)) (fun _ h9 => h9) rfl (by decide +kernel) rfl rfl (Nat.le_of_ble_eq_true rfl) dX3_byteOut_97 (fun H locs hP hD hS => ?_)
      have hP : va_P (dC, dI) vwCl (wd_row_bytes_cw cI a_row u_11 a_cw a_ctx r_10.1 row_start r_10.2.1 r_10.2.2 (j_6.2 &&& (((1 : Int32) <<< (j_9 &&& 31)) - (1 : Int32))) cw_size cw_room) H := hP
      have hD : va_D A (wd_row_bytes_cw cI a_row u_11 a_cw a_ctx r_10.1 row_start r_10.2.1 r_10.2.2 (j_6.2 &&& (((1 : Int32) <<< (j_9 &&& 31)) - (1 : Int32))) cw_size cw_room) := hD
      refine lv_aload_n hx hb dX3_byteOut_100 rfl (lv_at hl 1 rfl) ?_
      refine lv_bipush (v := 27) hx hb dX3_byteOut_101 (by decide) ?_
      refine lv_iload_n hx hb dX3_byteOut_103 rfl (lv_at hl 0 rfl) ?_
      refine lv_isub hx hb dX3_byteOut_104 ?_
      refine va_put (D := (dC, dI)) (ci := 2) (v := .int ((27 : Int32) - j_9)) (ty := .int) (C := RX3) (T := TX3) (N := 5) hx hb hts iw_X3_byteOut_X3 tyX3 tyX3_ok nmX3 hown hK hP hD hS 2 rfl rfl 4 (by decide) (hts (.fieldLink RX3 27 "PlaneBlocks$CodedWriter" "room" "I") (by decide +kernel)) (fun _ h9 => h9) rfl (by decide +kernel) rfl rfl (Nat.le_of_ble_eq_true rfl) dX3_byteOut_105 (fun H locs hP hD hS => ?_)
      have hP : va_P (dC, dI) vwCl (wd_row_bytes_cw cI a_row u_11 a_cw a_ctx r_10.1 row_start r_10.2.1 r_10.2.2 (j_6.2 &&& (((1 : Int32) <<< (j_9 &&& 31)) - (1 : Int32))) cw_size ((27 : Int32) - j_9)) H := hP
      have hD : va_D A (wd_row_bytes_cw cI a_row u_11 a_cw a_ctx r_10.1 row_start r_10.2.1 r_10.2.2 (j_6.2 &&& (((1 : Int32) <<< (j_9 &&& 31)) - (1 : Int32))) cw_size ((27 : Int32) - j_9)) := hD
      subst hg
      refine W.widen (k := Dt) (n := Dt) (k0_le hC) (k0_le hC) ?_
      rw [← hQe]
      exact W.vret hx hb hr (fun t ht hW => ⟨⟨u_11, rfl, trivial, by rw [ht]; exact hP, va_K.moved hW.alike hK, hD⟩, hS.F ht⟩) hS.2.2 dX3_byteOut_108
    obtain ⟨E2, hE2⟩ : ∃ z : Nat, z = (D_X1_append row_count bytes_n j_6.1 + (let r_10 := F_X1_append ((j_6.2 >>> (j_9 &&& 31)) &&& (255 : Int32)) row_count bytes_n j_6.1; 0)) + E := ⟨_, rfl⟩
    have hC : k + 0 + E2 ≤ Dt := by rw [hE2]; exact add40 hC
    have hg : (if r_7 = (255 : Int32) then (20 : Int32) else (19 : Int32)) = j_9 := by rw [← hj_9]; rfl
    clear hj_9
    refine lv_icmp_ne (tgt := 66) hx hb dX3_byteOut_58 (by decide) (fun c_8 => ?_) (fun c_8 => ?_)
    · rw [if_neg c_8] at hg
      refine lv_bipush (v := 19) hx hb dX3_byteOut_66 (by decide) ?_
      rw [← hg] at hJ_j_9
      try rw [← hg] at hE2
      exact hJ_j_9 _ _ _ _ hP hD hS (lv_sub hl [0, 1] rfl) (by rw [Nat.add_assoc, ← hE2]; exact hC)
    · rw [if_pos c_8] at hg
      refine lv_bipush (v := 20) hx hb dX3_byteOut_61 (by decide) ?_
      refine lv_goto (tgt := 68) hx hb dX3_byteOut_63 (by decide) ?_
      rw [← hg] at hJ_j_9
      try rw [← hg] at hE2
      exact hJ_j_9 _ _ _ _ hP hD hS (lv_sub hl [0, 1] rfl) (by rw [Nat.add_assoc, ← hE2]; exact hC)
  have hpre := hpre.1
  obtain ⟨E2, hE2⟩ : ∃ z : Nat, z = (let r_7 := F_X1_last row_count row_start j_6.1; let j_9 := J_X3_byteOut_j_9 r_7; D_X1_append row_count bytes_n j_6.1 + (let r_10 := F_X1_append ((j_6.2 >>> (j_9 &&& 31)) &&& (255 : Int32)) row_count bytes_n j_6.1; 0)) + E := ⟨_, rfl⟩
  have hC : k + 0 + E2 ≤ Dt := by rw [hE2]; exact add40 hC
  unfold PJ_X3_byteOut_j_6 at hpre
  have hg : (if r_1 = (-1 : Int32) then (bytes_f, cw_low) else (if r_1 = (255 : Int32) then (bytes_f, cw_low) else (if cw_low < (134217728 : Int32) then (bytes_f, cw_low) else (let r_5 := F_X1_addToLast (1 : Int32) row_count row_start bytes_f; (r_5, cw_low - (134217728 : Int32)))))) = j_6 := by rw [← hj_6]; rfl
  clear hj_6
  refine lv_icmp_eq (tgt := 48) hx hb dX3_byteOut_10 (by decide) (fun c_2 => ?_) (fun c_2 => ?_)
  · rw [if_pos c_2] at hg
    exact hJ_j_6 _ _ _ _ (by rw [← hg]; exact hP) (by rw [← hg]; exact hD) hS (lv_sub hl [1, 0] rfl) (by rw [Nat.add_assoc, ← hE2]; exact hC)
  · rw [if_neg c_2] at hg
    have hpre := hpre c_2
    refine lv_iload_n hx hb dX3_byteOut_13 rfl (lv_at hl 0 rfl) ?_
    refine lv_sipush (v := 255) hx hb dX3_byteOut_14 (by decide) ?_
    refine lv_icmp_eq (tgt := 48) hx hb dX3_byteOut_17 (by decide) (fun c_3 => ?_) (fun c_3 => ?_)
    · rw [if_pos c_3] at hg
      exact hJ_j_6 _ _ _ _ (by rw [← hg]; exact hP) (by rw [← hg]; exact hD) hS (lv_sub hl [1, 0] rfl) (by rw [Nat.add_assoc, ← hE2]; exact hC)
    · rw [if_neg c_3] at hg
      have hpre := hpre c_3
      refine lv_aload_n hx hb dX3_byteOut_20 rfl (lv_at hl 1 rfl) ?_
      refine va_get (D := (dC, dI)) (ci := 2) (v := .int cw_low) (C := RX3) (T := TX3) (N := 5) hx hb hts iw_X3_byteOut_X3 hown hK hP 2 rfl rfl 2 (by decide) (hts (.fieldLink RX3 19 "PlaneBlocks$CodedWriter" "low" "I") (by decide +kernel)) (fun _ h9 => h9) rfl dX3_byteOut_21 ?_
      refine lv_ldc (v := 134217728) hx hb hown (hts (.constant RX3 62 (134217728)) (by decide +kernel)) dX3_byteOut_24 ?_
      refine lv_icmp_lt (tgt := 48) hx hb dX3_byteOut_26 (by decide) (fun c_4 => ?_) (fun c_4 => ?_)
      · rw [if_pos c_4] at hg
        exact hJ_j_6 _ _ _ _ (by rw [← hg]; exact hP) (by rw [← hg]; exact hD) hS (lv_sub hl [1, 0] rfl) (by rw [Nat.add_assoc, ← hE2]; exact hC)
      · rw [if_neg c_4] at hg
        have hpre := hpre c_4
        refine lv_aload_n hx hb dX3_byteOut_29 rfl (lv_at hl 1 rfl) ?_
        refine lv_dup hx hb dX3_byteOut_30 rfl ?_
        refine va_get (D := (dC, dI)) (ci := 2) (v := .int cw_low) (C := RX3) (T := TX3) (N := 5) hx hb hts iw_X3_byteOut_X3 hown hK hP 2 rfl rfl 2 (by decide) (hts (.fieldLink RX3 19 "PlaneBlocks$CodedWriter" "low" "I") (by decide +kernel)) (fun _ h9 => h9) rfl dX3_byteOut_31 ?_
        refine lv_ldc (v := 134217728) hx hb hown (hts (.constant RX3 62 (134217728)) (by decide +kernel)) dX3_byteOut_34 ?_
        refine lv_isub hx hb dX3_byteOut_36 ?_
        refine va_put (D := (dC, dI)) (ci := 2) (v := .int (cw_low - (134217728 : Int32))) (ty := .int) (C := RX3) (T := TX3) (N := 5) hx hb hts iw_X3_byteOut_X3 tyX3 tyX3_ok nmX3 hown hK hP hD hS 2 rfl rfl 2 (by decide) (hts (.fieldLink RX3 19 "PlaneBlocks$CodedWriter" "low" "I") (by decide +kernel)) (fun _ h9 => h9) rfl (by decide +kernel) rfl rfl (Nat.le_of_ble_eq_true rfl) dX3_byteOut_37 (fun H locs hP hD hS => ?_)
        have hP : va_P (dC, dI) vwCl (wd_row_bytes_cw cI a_row a_bytes a_cw a_ctx row_count row_start bytes_n bytes_f (cw_low - (134217728 : Int32)) cw_size cw_room) H := hP
        have hD : va_D A (wd_row_bytes_cw cI a_row a_bytes a_cw a_ctx row_count row_start bytes_n bytes_f (cw_low - (134217728 : Int32)) cw_size cw_room) := hD
        refine lv_aload_n hx hb dX3_byteOut_40 rfl (lv_at hl 1 rfl) ?_
        refine va_get (D := (dC, dI)) (ci := 2) (v := .ref a_row) (C := RX3) (T := TX3) (N := 5) hx hb hts iw_X3_byteOut_X3 hown hK hP 2 rfl rfl 0 (by decide) (hts (.fieldLink RX3 9 "PlaneBlocks$CodedWriter" "row" "LPlaneBlocks$ByteRow;") (by decide +kernel)) (fun _ h9 => h9) rfl dX3_byteOut_41 ?_
        refine lv_iconst (v := 1) hx hb dX3_byteOut_44 (by decide) ?_
        have hPc := hP.sub (ws' := (wd_row_bytes cI a_row a_bytes row_count row_start bytes_n bytes_f)) [0, 1] rfl
        have hDc := hD.sub (ws' := (wd_row_bytes cI a_row a_bytes row_count row_start bytes_n bytes_f)) [0, 1] (by decide) rfl
        have hFc := va_free (wc := (wd_row_bytes cI a_row a_bytes row_count row_start bytes_n bytes_f)) hD hS hA [0, 1] rfl
        refine va_callv (va_runV (As := [.int (1 : Int32)]) (rest := []) ⟨hx, hb, hml, hown, hts⟩ (c_X1_addToLast l dC dI cI cJ cZ a_row a_bytes H.size row_count row_start bytes_n bytes_f (1 : Int32) hpre) (cwV 1 hts gX3_byteOut_X1_addToLast rfl rfl rfl (by decide +kernel) ⟨Nat.le_of_ble_eq_true rfl, Nat.le_of_ble_eq_true rfl⟩) ⟨fun a U g mk q => by obtain ⟨q0, q1, qP, qK, qD⟩ := q; exact ⟨q0, q1, qP, va_K.moved (u := U) (U := U.calling g mk a) (Vm.Alike.refl U.vm) qK, qD⟩, va_recv hK hPc (ci := 0) (q0 := 0) rfl rfl, fun U hU hW => ⟨rfl, by rw [hU], by rw [hU]; exact hPc, va_K.moved hW.alike hK, hDc.weaken (fun _ _ _ _ => trivial)⟩⟩ rfl rfl hl.1 rfl (lv_room (Nat.le_of_ble_eq_true rfl)) dX3_byteOut_45 ⟨k0_le hC, k0_le hC⟩) hS (fun q _ h => hFc q h) hFc (fun u t H1 locs ht hvm hw hB hz1 hk1 hS => ?_)
        obtain ⟨hP1, hK1, hD1⟩ := hB
        rw [ht] at hP1
        obtain ⟨r_5, hr_5⟩ : ∃ z, F_X1_addToLast (1 : Int32) row_count row_start bytes_f = z := ⟨_, rfl⟩
        try rw [hr_5] at hw
        try rw [hr_5] at hP1
        try rw [hr_5] at hD1
        have hg : (r_5, cw_low - (134217728 : Int32)) = j_6 := by first | (rw [hr_5] at hg; exact hg) | (subst hr_5; exact hg)
        obtain ⟨hP, hD⟩ := va_join (wr := [(a_cw, .inr (2, [.ref a_row, .ref a_ctx, .int (cw_low - (134217728 : Int32)), .int cw_size, .int cw_room]))]) (w1 := (wd_row_bytes cI a_row a_bytes row_count row_start bytes_n r_5)) hP hD [0, 1] [2] rfl rfl (by decide) (by decide) hk1 hFc hP1 hD1
        have hP : va_P (dC, dI) vwCl (wd_row_bytes_cw cI a_row a_bytes a_cw a_ctx row_count row_start bytes_n r_5 (cw_low - (134217728 : Int32)) cw_size cw_room) H1 := hP.sub [1, 2, 0] rfl
        have hD : va_D A (wd_row_bytes_cw cI a_row a_bytes a_cw a_ctx row_count row_start bytes_n r_5 (cw_low - (134217728 : Int32)) cw_size cw_room) := hD.sub [1, 2, 0] (by decide) rfl
        generalize H1 = H at hP hS ⊢
        exact hJ_j_6 _ _ _ _ (by rw [← hg]; exact hP) (by rw [← hg]; exact hD) hS (lv_sub hl [1, 0] rfl) (by rw [Nat.add_assoc, ← hE2]; exact hC)
abbrev wd_row_bytes_ctx_states_likely_cw (cI : ClassId) (a_row : Nat) (a_bytes : Nat) (a_ctx : Nat) (a_states : Nat) (a_likely : Nat) (a_cw : Nat) (row_count : Int32) (row_start : Int32) (bytes_n : Nat) (bytes_f : Nat → Int32) (states_n : Nat) (states_f : Nat → Int32) (likely_n : Nat) (likely_f : Nat → Int32) (cw_low : Int32) (cw_size : Int32) (cw_room : Int32) : va_W := [(a_row, .inr (0, [.ref a_bytes, .int row_count, .int row_start])), (a_bytes, .inl (cI, bytes_n, .inl bytes_f)), (a_ctx, .inr (3, [.ref a_states, .ref a_likely])), (a_states, .inl (cI, states_n, .inl states_f)), (a_likely, .inl (cI, likely_n, .inl likely_f)), (a_cw, .inr (2, [.ref a_row, .ref a_ctx, .int cw_low, .int cw_size, .int cw_room]))]
abbrev rm_X3_next (Dt : Nat) : Room := { frames := 4, cells := Dt, slots := Dt, locals := 105 }
abbrev Q_X3_next (dC : Nat → ClassId) (dI : Nat → Nat → Nat) (cI cJ cZ : ClassId) (a_row : Nat) (a_bytes : Nat) (a_ctx : Nat) (a_states : Nat) (a_likely : Nat) (a_cw : Nat) (A : Nat → Prop) (row_count : Int32) (row_start : Int32) (bytes_n : Nat) (bytes_f : Nat → Int32) (states_n : Nat) (states_f : Nat → Int32) (likely_n : Nat) (likely_f : Nat → Int32) (cw_low : Int32) (cw_size : Int32) (cw_room : Int32) (g : (Int32 × Int32 × Nat × (Nat → Int32) × (Nat → Int32) × (Nat → Int32) × Int32 × Int32 × Int32)) : Array Value → State → Outcome → State → Prop := va_Qi (fun (r : Int32) (_ : Nat) => r = g.1) (fun u t => va_P (dC, dI) vwCl (wd_row_bytes_ctx_states_likely_cw cI a_row u a_ctx a_states a_likely a_cw g.2.1 row_start g.2.2.1 g.2.2.2.1 states_n g.2.2.2.2.1 likely_n g.2.2.2.2.2.1 g.2.2.2.2.2.2.1 g.2.2.2.2.2.2.2.1 g.2.2.2.2.2.2.2.2) t.heap ∧ va_K (dC, dI) vwCl [(cI, .int), (cJ, .long), (cZ, .boolean)] t ∧ va_D A (wd_row_bytes_ctx_states_likely_cw cI a_row u a_ctx a_states a_likely a_cw g.2.1 row_start g.2.2.1 g.2.2.2.1 states_n g.2.2.2.2.1 likely_n g.2.2.2.2.2.1 g.2.2.2.2.2.2.1 g.2.2.2.2.2.2.2.1 g.2.2.2.2.2.2.2.2)) A
theorem iw_X3_next_X3 : ∀ w ∈ u_ws RX3 TX3 5, w ∈ wsX3_next := by decide +kernel
set_option maxHeartbeats 4000000 in
set_option maxRecDepth 100000 in
theorem c_X3_next (l : Launch) (dC : Nat → ClassId) (dI : Nat → Nat → Nat) (cI cJ cZ : ClassId) (tP tN tO : Nat) (a_row : Nat) (a_bytes : Nat) (a_ctx : Nat) (a_states : Nat) (a_likely : Nat) (a_cw : Nat) (sz : Nat) (row_count : Int32) (row_start : Int32) (bytes_n : Nat) (bytes_f : Nat → Int32) (states_n : Nat) (states_f : Nat → Int32) (likely_n : Nat) (likely_f : Nat → Int32) (cw_low : Int32) (cw_size : Int32) (cw_room : Int32) (p1 : Int32) (p2 : Int32) (hpre : P_X3_next p1 p2 row_count row_start bytes_n bytes_f states_n states_f likely_n likely_f cw_low cw_size cw_room) : Met l yX3_next wsX3_next (rm_X3_next (D_X3_next p1 p2 row_count row_start bytes_n bytes_f states_f likely_f cw_low cw_size cw_room)) (va_Pc [.ref a_cw, .int p1, .int p2] (fun U => U.heap.size = sz ∧ va_P (dC, dI) vwCl (wd_row_bytes_ctx_states_likely_cw cI a_row a_bytes a_ctx a_states a_likely a_cw row_count row_start bytes_n bytes_f states_n states_f likely_n likely_f cw_low cw_size cw_room) U.heap ∧ va_K (dC, dI) vwCl [(cI, .int), (cJ, .long), (cZ, .boolean)] U ∧ va_D (fun _ => True) (wd_row_bytes_ctx_states_likely_cw cI a_row a_bytes a_ctx a_states a_likely a_cw row_count row_start bytes_n bytes_f states_n states_f likely_n likely_f cw_low cw_size cw_room) ∧ Zs tP tN tO (va_A (wd_row_bytes_ctx_states_likely_cw cI a_row a_bytes a_ctx a_states a_likely a_cw row_count row_start bytes_n bytes_f states_n states_f likely_n likely_f cw_low cw_size cw_room) sz) U U.heap)) (Q_X3_next dC dI cI cJ cZ a_row a_bytes a_ctx a_states a_likely a_cw (va_A (wd_row_bytes_ctx_states_likely_cw cI a_row a_bytes a_ctx a_states a_likely a_cw row_count row_start bytes_n bytes_f states_n states_f likely_n likely_f cw_low cw_size cw_room) sz) row_count row_start bytes_n bytes_f states_n states_f likely_n likely_f cw_low cw_size cw_room (F_X3_next p1 p2 row_count row_start bytes_n bytes_f states_f likely_f cw_low cw_size cw_room)) (D_X3_next p1 p2 row_count row_start bytes_n bytes_f states_f likely_f cw_low cw_size cw_room) (D_X3_next p1 p2 row_count row_start bytes_n bytes_f states_f likely_f cw_low cw_size cw_room) (va_A (wd_row_bytes_ctx_states_likely_cw cI a_row a_bytes a_ctx a_states a_likely a_cw row_count row_start bytes_n bytes_f states_n states_f likely_n likely_f cw_low cw_size cw_room) sz) := by
  refine Met.ofW (cc := cX3_next) (maxL := 5) (ret := (some .int)) (by decide) rfl ?_
  intro p e s m args below meth c s₁ B hml hv
  obtain ⟨rfl, hsz, hP, hK, hD0, hZ⟩ := hv
  have hx := B.exec
  have hb := B.bytes
  have hr := B.returns
  have hts := atoms_spec (ws := wsX3_next) B.pre
  have hown : s.vm.findClass RX3 = some m.cls := findClass_of_methodNamed B.named
  have hlocks := B.notSynchronized
  subst hsz
  have hD := hD0.self (sz := s.heap.size)
  generalize hAe : va_A (wd_row_bytes_ctx_states_likely_cw cI a_row a_bytes a_ctx a_states a_likely a_cw row_count row_start bytes_n bytes_f states_n states_f likely_n likely_f cw_low cw_size cw_room) s.heap.size = A at hD hZ ⊢
  have hA : ∀ q : Nat, s.heap.size ≤ q → A q := fun q h => by rw [← hAe]; exact Or.inr h
  have hS : va_S A s.heap s.heap [] := va_S.rf
  obtain ⟨H, hH⟩ : ∃ z, z = s.heap := ⟨_, rfl⟩
  have hP : va_P (dC, dI) vwCl (wd_row_bytes_ctx_states_likely_cw cI a_row a_bytes a_ctx a_states a_likely a_cw row_count row_start bytes_n bytes_f states_n states_f likely_n likely_f cw_low cw_size cw_room) H := by rw [hH]; exact hP
  have hS : va_S A s.heap H [] := by rw [hH]; exact va_S.rf
  obtain ⟨g, hg⟩ : ∃ z, F_X3_next p1 p2 row_count row_start bytes_n bytes_f states_f likely_f cw_low cw_size cw_room = z := ⟨_, rfl⟩
  rw [hg]
  obtain ⟨Dt, hDt⟩ : ∃ z, D_X3_next p1 p2 row_count row_start bytes_n bytes_f states_f likely_f cw_low cw_size cw_room = z := ⟨_, rfl⟩
  rw [hDt]
  generalize hQe : MQ below (Q_X3_next dC dI cI cJ cZ a_row a_bytes a_ctx a_states a_likely a_cw A row_count row_start bytes_n bytes_f states_n states_f likely_n likely_f cw_low cw_size cw_room g) _ s Dt Dt A = Q
  rw [← hH]
  clear hH
  have hl := lv_entry ([.ref a_cw, .int p1, .int p2]) (n := 5) (Nat.le_of_ble_eq_true rfl)
  rw [lg_entry_eq]
  generalize (lg_sl ([.ref a_cw, .int p1, .int p2]) ++ List.replicate (5 - (lg_sl ([.ref a_cw, .int p1, .int p2])).length) Slot.unset).toArray = ls at hl ⊢
  have hl : lv_has ls 5 [(0, .ref a_cw), (1, .int p1), (2, .int p2)] := hl
  unfold F_X3_next at hg
  unfold P_X3_next at hpre
  unfold D_X3_next at hDt
  obtain ⟨k, hk⟩ : ∃ z : Nat, z = 0 := ⟨_, rfl⟩
  obtain ⟨E, hE⟩ : ∃ z : Nat, z = 0 := ⟨_, rfl⟩
  have hC : k + (let r_1 := F_X4_part p2 states_f; let r_2 := F_X4_likelyBit p2 likely_f; if p1 = r_2 then (if (cw_size - r_1) < (32768 : Int32) then (let j_17 := J_X3_next_j_17 cw_size r_1; let r_18 := F_X3_takeShare j_17 r_1 cw_low (cw_size - r_1); let r_19 := F_X4_likelyCame p2 states_f; DL_X3_next_j_20 row_start fu (0 : Int32) row_count bytes_n bytes_f r_18.1 r_18.2 cw_room + (let j_20 := L_X3_next_j_20 row_start fu (0 : Int32) row_count bytes_n bytes_f r_18.1 r_18.2 cw_room; 0)) else 0) else (let j_5 := J_X3_next_j_5 cw_size r_1; let r_6 := F_X3_takeShare j_5 r_1 cw_low (cw_size - r_1); let r_7 := F_X4_otherCame p2 states_f likely_f; DL_X3_next_j_8 row_start fu (0 : Int32) row_count bytes_n bytes_f r_6.1 r_6.2 cw_room + (let j_8 := L_X3_next_j_8 row_start fu (0 : Int32) row_count bytes_n bytes_f r_6.1 r_6.2 cw_room; 0))) + E ≤ Dt := by rw [hk, hE, Nat.zero_add]; exact Nat.le_of_eq hDt
  refine W.widen (k := k) (n := k) (Nat.zero_le _) (Nat.zero_le _) ?_
  clear hk hE hDt
  refine lv_aload_n hx hb dX3_next_0 rfl (lv_at hl 0 rfl) ?_
  refine va_get (D := (dC, dI)) (ci := 2) (v := .ref a_ctx) (C := RX3) (T := TX3) (N := 5) hx hb hts iw_X3_next_X3 hown hK hP 5 rfl rfl 1 (by decide) (hts (.fieldLink RX3 15 "PlaneBlocks$CodedWriter" "contexts" "LPlaneBlocks$Contexts;") (by decide +kernel)) (fun _ h9 => h9) rfl dX3_next_1 ?_
  refine lv_iload_n hx hb dX3_next_4 rfl (lv_at hl 2 rfl) ?_
  have hPc := hP.sub (ws' := (wd_ctx_states cI a_ctx a_states a_likely states_n states_f)) [2, 3] rfl
  have hDc := hD.sub (ws' := (wd_ctx_states cI a_ctx a_states a_likely states_n states_f)) [2, 3] (by decide) rfl
  have hFc := va_free (wc := (wd_ctx_states cI a_ctx a_states a_likely states_n states_f)) hD hS hA [2, 3] rfl
  refine va_calli (va_runV (As := [.int p2]) (rest := []) ⟨hx, hb, hml, hown, hts⟩ (c_X4_part l dC dI cI cJ cZ tP tN tO a_ctx a_states a_likely H.size states_n states_f p2 hpre.1) (cwV 1 hts gX3_next_X4_part rfl rfl rfl (by decide +kernel) ⟨Nat.le_of_ble_eq_true rfl, Nat.le_of_ble_eq_true rfl⟩) ⟨fun a U g mk q => by obtain ⟨q0, q1, qP, qK, qD, qZ⟩ := q; exact ⟨q0, q1, qP, va_K.moved (u := U) (U := U.calling g mk a) (Vm.Alike.refl U.vm) qK, qD, Zs.moved (u := U) (U := U.calling g mk a) (Vm.Alike.refl U.vm) qZ⟩, va_recv hK hPc (ci := 3) (q0 := 0) rfl rfl, fun U hU hW => ⟨rfl, by rw [hU], by rw [hU]; exact hPc, va_K.moved hW.alike hK, hDc.weaken (fun _ _ _ _ => trivial), by rw [hU]; exact (((hZ.kept hS.2.1).narrow hFc).moved hW.alike)⟩⟩ rfl rfl hl.1 rfl (lv_room (Nat.le_of_ble_eq_true rfl)) dX3_next_5 ⟨k0_le hC, k0_le hC⟩) hS (fun q _ h => hFc q h) hFc (fun r u t H1 locs ht hvm hw hB hz1 hk1 hS => ?_)
  obtain ⟨hP1, hK1, hD1⟩ := hB
  rw [ht] at hP1
  obtain ⟨r_1, hr_1⟩ : ∃ z, F_X4_part p2 states_f = z := ⟨_, rfl⟩
  try rw [hr_1] at hw
  try rw [hr_1] at hP1
  try rw [hr_1] at hD1
  have hg : (let r_2 := F_X4_likelyBit p2 likely_f; if p1 = r_2 then (if (cw_size - r_1) < (32768 : Int32) then (let j_17 := J_X3_next_j_17 cw_size r_1; let r_18 := F_X3_takeShare j_17 r_1 cw_low (cw_size - r_1); let r_19 := F_X4_likelyCame p2 states_f; let j_20 := L_X3_next_j_20 row_start fu (0 : Int32) row_count bytes_n bytes_f r_18.1 r_18.2 cw_room; (p1, j_20.2.1, j_20.2.2.1, j_20.2.2.2.1, r_19, likely_f, j_20.2.2.2.2.1, j_20.2.2.2.2.2.1, j_20.2.2.2.2.2.2)) else (p1, row_count, bytes_n, bytes_f, states_f, likely_f, cw_low + r_1, cw_size - r_1, cw_room)) else (let j_5 := J_X3_next_j_5 cw_size r_1; let r_6 := F_X3_takeShare j_5 r_1 cw_low (cw_size - r_1); let r_7 := F_X4_otherCame p2 states_f likely_f; let j_8 := L_X3_next_j_8 row_start fu (0 : Int32) row_count bytes_n bytes_f r_6.1 r_6.2 cw_room; (p1, j_8.2.1, j_8.2.2.1, j_8.2.2.2.1, r_7.1, r_7.2, j_8.2.2.2.2.1, j_8.2.2.2.2.2.1, j_8.2.2.2.2.2.2))) = g := by first | (rw [hr_1] at hg; exact hg) | (subst hr_1; exact hg)
  have hw := hw.symm
  subst hw
  obtain ⟨hP, hD⟩ := va_join (wr := [(a_row, .inr (0, [.ref a_bytes, .int row_count, .int row_start])), (a_bytes, .inl (cI, bytes_n, .inl bytes_f)), (a_likely, .inl (cI, likely_n, .inl likely_f)), (a_cw, .inr (2, [.ref a_row, .ref a_ctx, .int cw_low, .int cw_size, .int cw_room]))]) (w1 := (wd_ctx_states cI a_ctx a_states a_likely states_n states_f)) hP hD [2, 3] [0, 1, 4, 5] rfl rfl (by decide) (by decide) hk1 hFc hP1 hD1
  have hP : va_P (dC, dI) vwCl (wd_row_bytes_ctx_states_likely_cw cI a_row a_bytes a_ctx a_states a_likely a_cw row_count row_start bytes_n bytes_f states_n states_f likely_n likely_f cw_low cw_size cw_room) H1 := hP.sub [0, 1, 4, 5, 2, 3] rfl
  have hD : va_D A (wd_row_bytes_ctx_states_likely_cw cI a_row a_bytes a_ctx a_states a_likely a_cw row_count row_start bytes_n bytes_f states_n states_f likely_n likely_f cw_low cw_size cw_room) := hD.sub [0, 1, 4, 5, 2, 3] (by decide) rfl
  generalize H1 = H at hP hS ⊢
  have hC : k + (let r_2 := F_X4_likelyBit p2 likely_f; if p1 = r_2 then (if (cw_size - r_1) < (32768 : Int32) then (let j_17 := J_X3_next_j_17 cw_size r_1; let r_18 := F_X3_takeShare j_17 r_1 cw_low (cw_size - r_1); let r_19 := F_X4_likelyCame p2 states_f; DL_X3_next_j_20 row_start fu (0 : Int32) row_count bytes_n bytes_f r_18.1 r_18.2 cw_room + (let j_20 := L_X3_next_j_20 row_start fu (0 : Int32) row_count bytes_n bytes_f r_18.1 r_18.2 cw_room; 0)) else 0) else (let j_5 := J_X3_next_j_5 cw_size r_1; let r_6 := F_X3_takeShare j_5 r_1 cw_low (cw_size - r_1); let r_7 := F_X4_otherCame p2 states_f likely_f; DL_X3_next_j_8 row_start fu (0 : Int32) row_count bytes_n bytes_f r_6.1 r_6.2 cw_room + (let j_8 := L_X3_next_j_8 row_start fu (0 : Int32) row_count bytes_n bytes_f r_6.1 r_6.2 cw_room; 0))) + E ≤ Dt := by subst hr_1; exact hC
  have hpre := hpre.2 r_1 hr_1
  refine lv_istore_n (lv' := [(3, .int r_1), (0, .ref a_cw), (1, .int p1), (2, .int p2)]) hx hb dX3_next_8 rfl hl (by decide) rfl (fun ls hl => ?_)
  refine lv_aload_n hx hb dX3_next_9 rfl (lv_at hl 1 rfl) ?_
  refine lv_dup hx hb dX3_next_10 rfl ?_
  refine va_get (D := (dC, dI)) (ci := 2) (v := .int cw_size) (C := RX3) (T := TX3) (N := 5) hx hb hts iw_X3_next_X3 hown hK hP 5 rfl rfl 3 (by decide) (hts (.fieldLink RX3 24 "PlaneBlocks$CodedWriter" "size" "I") (by decide +kernel)) (fun _ h9 => h9) rfl dX3_next_11 ?_
  refine lv_iload_n hx hb dX3_next_14 rfl (lv_at hl 0 rfl) ?_
  refine lv_isub hx hb dX3_next_15 ?_
  refine va_put (D := (dC, dI)) (ci := 2) (v := .int (cw_size - r_1)) (ty := .int) (C := RX3) (T := TX3) (N := 5) hx hb hts iw_X3_next_X3 tyX3 tyX3_ok nmX3 hown hK hP hD hS 5 rfl rfl 3 (by decide) (hts (.fieldLink RX3 24 "PlaneBlocks$CodedWriter" "size" "I") (by decide +kernel)) (fun _ h9 => h9) rfl (by decide +kernel) rfl rfl (Nat.le_of_ble_eq_true rfl) dX3_next_16 (fun H locs hP hD hS => ?_)
  have hP : va_P (dC, dI) vwCl (wd_row_bytes_ctx_states_likely_cw cI a_row a_bytes a_ctx a_states a_likely a_cw row_count row_start bytes_n bytes_f states_n states_f likely_n likely_f cw_low (cw_size - r_1) cw_room) H := hP
  have hD : va_D A (wd_row_bytes_ctx_states_likely_cw cI a_row a_bytes a_ctx a_states a_likely a_cw row_count row_start bytes_n bytes_f states_n states_f likely_n likely_f cw_low (cw_size - r_1) cw_room) := hD
  refine lv_iload_n hx hb dX3_next_19 rfl (lv_at hl 2 rfl) ?_
  refine lv_aload_n hx hb dX3_next_20 rfl (lv_at hl 1 rfl) ?_
  refine va_get (D := (dC, dI)) (ci := 2) (v := .ref a_ctx) (C := RX3) (T := TX3) (N := 5) hx hb hts iw_X3_next_X3 hown hK hP 5 rfl rfl 1 (by decide) (hts (.fieldLink RX3 15 "PlaneBlocks$CodedWriter" "contexts" "LPlaneBlocks$Contexts;") (by decide +kernel)) (fun _ h9 => h9) rfl dX3_next_21 ?_
  refine lv_iload_n hx hb dX3_next_24 rfl (lv_at hl 3 rfl) ?_
  have hPc := hP.sub (ws' := (wd_ctx_likely cI a_ctx a_states a_likely likely_n likely_f)) [2, 4] rfl
  have hDc := hD.sub (ws' := (wd_ctx_likely cI a_ctx a_states a_likely likely_n likely_f)) [2, 4] (by decide) rfl
  have hFc := va_free (wc := (wd_ctx_likely cI a_ctx a_states a_likely likely_n likely_f)) hD hS hA [2, 4] rfl
  refine va_calli (va_runV (As := [.int p2]) (rest := [.int p1]) ⟨hx, hb, hml, hown, hts⟩ (c_X4_likelyBit l dC dI cI cJ cZ a_ctx a_states a_likely H.size likely_n likely_f p2 hpre.1) (cwV 1 hts gX3_next_X4_likelyBit rfl rfl rfl (by decide +kernel) ⟨Nat.le_of_ble_eq_true rfl, Nat.le_of_ble_eq_true rfl⟩) ⟨fun a U g mk q => by obtain ⟨q0, q1, qP, qK, qD⟩ := q; exact ⟨q0, q1, qP, va_K.moved (u := U) (U := U.calling g mk a) (Vm.Alike.refl U.vm) qK, qD⟩, va_recv hK hPc (ci := 3) (q0 := 0) rfl rfl, fun U hU hW => ⟨rfl, by rw [hU], by rw [hU]; exact hPc, va_K.moved hW.alike hK, hDc.weaken (fun _ _ _ _ => trivial)⟩⟩ rfl rfl hl.1 rfl (lv_room (Nat.le_of_ble_eq_true rfl)) dX3_next_25 ⟨k0_le hC, k0_le hC⟩) hS (fun q _ h => hFc q h) hFc (fun r u t H1 locs ht hvm hw hB hz1 hk1 hS => ?_)
  obtain ⟨hP1, hK1, hD1⟩ := hB
  rw [ht] at hP1
  obtain ⟨r_2, hr_2⟩ : ∃ z, F_X4_likelyBit p2 likely_f = z := ⟨_, rfl⟩
  try rw [hr_2] at hw
  try rw [hr_2] at hP1
  try rw [hr_2] at hD1
  have hg : (if p1 = r_2 then (if (cw_size - r_1) < (32768 : Int32) then (let j_17 := J_X3_next_j_17 cw_size r_1; let r_18 := F_X3_takeShare j_17 r_1 cw_low (cw_size - r_1); let r_19 := F_X4_likelyCame p2 states_f; let j_20 := L_X3_next_j_20 row_start fu (0 : Int32) row_count bytes_n bytes_f r_18.1 r_18.2 cw_room; (p1, j_20.2.1, j_20.2.2.1, j_20.2.2.2.1, r_19, likely_f, j_20.2.2.2.2.1, j_20.2.2.2.2.2.1, j_20.2.2.2.2.2.2)) else (p1, row_count, bytes_n, bytes_f, states_f, likely_f, cw_low + r_1, cw_size - r_1, cw_room)) else (let j_5 := J_X3_next_j_5 cw_size r_1; let r_6 := F_X3_takeShare j_5 r_1 cw_low (cw_size - r_1); let r_7 := F_X4_otherCame p2 states_f likely_f; let j_8 := L_X3_next_j_8 row_start fu (0 : Int32) row_count bytes_n bytes_f r_6.1 r_6.2 cw_room; (p1, j_8.2.1, j_8.2.2.1, j_8.2.2.2.1, r_7.1, r_7.2, j_8.2.2.2.2.1, j_8.2.2.2.2.2.1, j_8.2.2.2.2.2.2))) = g := by first | (rw [hr_2] at hg; exact hg) | (subst hr_2; exact hg)
  have hw := hw.symm
  subst hw
  obtain ⟨hP, hD⟩ := va_join (wr := [(a_row, .inr (0, [.ref a_bytes, .int row_count, .int row_start])), (a_bytes, .inl (cI, bytes_n, .inl bytes_f)), (a_states, .inl (cI, states_n, .inl states_f)), (a_cw, .inr (2, [.ref a_row, .ref a_ctx, .int cw_low, .int (cw_size - r_1), .int cw_room]))]) (w1 := (wd_ctx_likely cI a_ctx a_states a_likely likely_n likely_f)) hP hD [2, 4] [0, 1, 3, 5] rfl rfl (by decide) (by decide) hk1 hFc hP1 hD1
  have hP : va_P (dC, dI) vwCl (wd_row_bytes_ctx_states_likely_cw cI a_row a_bytes a_ctx a_states a_likely a_cw row_count row_start bytes_n bytes_f states_n states_f likely_n likely_f cw_low (cw_size - r_1) cw_room) H1 := hP.sub [0, 1, 4, 2, 5, 3] rfl
  have hD : va_D A (wd_row_bytes_ctx_states_likely_cw cI a_row a_bytes a_ctx a_states a_likely a_cw row_count row_start bytes_n bytes_f states_n states_f likely_n likely_f cw_low (cw_size - r_1) cw_room) := hD.sub [0, 1, 4, 2, 5, 3] (by decide) rfl
  generalize H1 = H at hP hS ⊢
  have hC : k + (if p1 = r_2 then (if (cw_size - r_1) < (32768 : Int32) then (let j_17 := J_X3_next_j_17 cw_size r_1; let r_18 := F_X3_takeShare j_17 r_1 cw_low (cw_size - r_1); let r_19 := F_X4_likelyCame p2 states_f; DL_X3_next_j_20 row_start fu (0 : Int32) row_count bytes_n bytes_f r_18.1 r_18.2 cw_room + (let j_20 := L_X3_next_j_20 row_start fu (0 : Int32) row_count bytes_n bytes_f r_18.1 r_18.2 cw_room; 0)) else 0) else (let j_5 := J_X3_next_j_5 cw_size r_1; let r_6 := F_X3_takeShare j_5 r_1 cw_low (cw_size - r_1); let r_7 := F_X4_otherCame p2 states_f likely_f; DL_X3_next_j_8 row_start fu (0 : Int32) row_count bytes_n bytes_f r_6.1 r_6.2 cw_room + (let j_8 := L_X3_next_j_8 row_start fu (0 : Int32) row_count bytes_n bytes_f r_6.1 r_6.2 cw_room; 0))) + E ≤ Dt := by subst hr_2; exact hC
  have hpre := hpre.2 r_2 hr_2
  refine lv_icmp_ne (tgt := 81) hx hb dX3_next_28 (by decide) (fun c_3 => ?_) (fun c_3 => ?_)
  · rw [if_neg c_3] at hg
    rw [if_neg c_3] at hC
    have hpre := hpre.2 c_3
    refine lv_aload_n hx hb dX3_next_81 rfl (lv_at hl 1 rfl) ?_
    refine lv_aload_n hx hb dX3_next_82 rfl (lv_at hl 1 rfl) ?_
    refine va_get (D := (dC, dI)) (ci := 2) (v := .int (cw_size - r_1)) (C := RX3) (T := TX3) (N := 5) hx hb hts iw_X3_next_X3 hown hK hP 5 rfl rfl 3 (by decide) (hts (.fieldLink RX3 24 "PlaneBlocks$CodedWriter" "size" "I") (by decide +kernel)) (fun _ h9 => h9) rfl dX3_next_83 ?_
    refine lv_iload_n hx hb dX3_next_86 rfl (lv_at hl 0 rfl) ?_
    obtain ⟨j_5, hj_5⟩ : ∃ z, J_X3_next_j_5 cw_size r_1 = z := ⟨_, rfl⟩
    have hg : (let r_6 := F_X3_takeShare j_5 r_1 cw_low (cw_size - r_1); let r_7 := F_X4_otherCame p2 states_f likely_f; let j_8 := L_X3_next_j_8 row_start fu (0 : Int32) row_count bytes_n bytes_f r_6.1 r_6.2 cw_room; (p1, j_8.2.1, j_8.2.2.1, j_8.2.2.2.1, r_7.1, r_7.2, j_8.2.2.2.2.1, j_8.2.2.2.2.2.1, j_8.2.2.2.2.2.2)) = g := by first | (rw [hj_5] at hg; exact hg) | (subst hj_5; exact hg)
    have hC : k + (let r_6 := F_X3_takeShare j_5 r_1 cw_low (cw_size - r_1); let r_7 := F_X4_otherCame p2 states_f likely_f; DL_X3_next_j_8 row_start fu (0 : Int32) row_count bytes_n bytes_f r_6.1 r_6.2 cw_room + (let j_8 := L_X3_next_j_8 row_start fu (0 : Int32) row_count bytes_n bytes_f r_6.1 r_6.2 cw_room; 0)) + E ≤ Dt := by subst hj_5; exact hC
    have hJ_j_5 : ∀ (k : Nat) (H : Heap) (locs : List Loc) (ls : Array Slot), va_P (dC, dI) vwCl (wd_row_bytes_ctx_states_likely_cw cI a_row a_bytes a_ctx a_states a_likely a_cw row_count row_start bytes_n bytes_f states_n states_f likely_n likely_f cw_low (cw_size - r_1) cw_room) H → va_D A (wd_row_bytes_ctx_states_likely_cw cI a_row a_bytes a_ctx a_states a_likely a_cw row_count row_start bytes_n bytes_f states_n states_f likely_n likely_f cw_low (cw_size - r_1) cw_room) → va_S A s.heap H locs → lv_has ls 5 [(0, .ref a_cw), (1, .int p1), (2, .int p2), (3, .int r_1)] → k + (let r_6 := F_X3_takeShare j_5 r_1 cw_low (cw_size - r_1); let r_7 := F_X4_otherCame p2 states_f likely_f; DL_X3_next_j_8 row_start fu (0 : Int32) row_count bytes_n bytes_f r_6.1 r_6.2 cw_room + (let j_8 := L_X3_next_j_8 row_start fu (0 : Int32) row_count bytes_n bytes_f r_6.1 r_6.2 cw_room; 0)) + E ≤ Dt → W p l e (headSpec wsX3_next (rm_X3_next Dt)).room s m ([.ref a_cw, .int p1, .int p2] : List Value).toArray below meth c H locs k k Q (F0 m 95 ls [.int j_5, .ref a_cw]) := by
      intro k H locs ls hP hD hS hl hC
      have hpre := hpre j_5 hj_5
      refine lv_iload_n hx hb dX3_next_95 rfl (lv_at hl 3 rfl) ?_
      have hPc := hP.sub (ws' := (wd_cw a_cw a_row a_ctx cw_low (cw_size - r_1) cw_room)) [5] rfl
      have hDc := hD.sub (ws' := (wd_cw a_cw a_row a_ctx cw_low (cw_size - r_1) cw_room)) [5] (by decide) rfl
      have hFc := va_free (wc := (wd_cw a_cw a_row a_ctx cw_low (cw_size - r_1) cw_room)) hD hS hA [5] rfl
      refine va_callv (va_runV (As := [.int j_5, .int r_1]) (rest := []) ⟨hx, hb, hml, hown, hts⟩ (c_X3_takeShare l dC dI cI cJ cZ a_cw a_row a_ctx H.size cw_low (cw_size - r_1) cw_room j_5 r_1) (cwV 2 hts gX3_next_X3_takeShare rfl rfl rfl (by decide +kernel) ⟨Nat.le_of_ble_eq_true rfl, Nat.le_of_ble_eq_true rfl⟩) ⟨fun a U g mk q => by obtain ⟨q0, q1, qP, qK, qD⟩ := q; exact ⟨q0, q1, qP, va_K.moved (u := U) (U := U.calling g mk a) (Vm.Alike.refl U.vm) qK, qD⟩, va_recv hK hPc (ci := 2) (q0 := 0) rfl rfl, fun U hU hW => ⟨rfl, by rw [hU], by rw [hU]; exact hPc, va_K.moved hW.alike hK, hDc.weaken (fun _ _ _ _ => trivial)⟩⟩ rfl rfl hl.1 rfl (lv_room (Nat.le_of_ble_eq_true rfl)) dX3_next_96 ⟨k0_le hC, k0_le hC⟩) hS (fun q _ h => hFc q h) hFc (fun u t H1 locs ht hvm hw hB hz1 hk1 hS => ?_)
      obtain ⟨hP1, hK1, hD1⟩ := hB
      rw [ht] at hP1
      obtain ⟨r_6, hr_6⟩ : ∃ z, F_X3_takeShare j_5 r_1 cw_low (cw_size - r_1) = z := ⟨_, rfl⟩
      try rw [hr_6] at hw
      try rw [hr_6] at hP1
      try rw [hr_6] at hD1
      have hg : (let r_7 := F_X4_otherCame p2 states_f likely_f; let j_8 := L_X3_next_j_8 row_start fu (0 : Int32) row_count bytes_n bytes_f r_6.1 r_6.2 cw_room; (p1, j_8.2.1, j_8.2.2.1, j_8.2.2.2.1, r_7.1, r_7.2, j_8.2.2.2.2.1, j_8.2.2.2.2.2.1, j_8.2.2.2.2.2.2)) = g := by first | (rw [hr_6] at hg; exact hg) | (subst hr_6; exact hg)
      obtain ⟨hP, hD⟩ := va_join (wr := [(a_row, .inr (0, [.ref a_bytes, .int row_count, .int row_start])), (a_bytes, .inl (cI, bytes_n, .inl bytes_f)), (a_ctx, .inr (3, [.ref a_states, .ref a_likely])), (a_states, .inl (cI, states_n, .inl states_f)), (a_likely, .inl (cI, likely_n, .inl likely_f))]) (w1 := (wd_cw a_cw a_row a_ctx r_6.1 r_6.2 cw_room)) hP hD [5] [0, 1, 2, 3, 4] rfl rfl (by decide) (by decide) hk1 hFc hP1 hD1
      have hP : va_P (dC, dI) vwCl (wd_row_bytes_ctx_states_likely_cw cI a_row a_bytes a_ctx a_states a_likely a_cw row_count row_start bytes_n bytes_f states_n states_f likely_n likely_f r_6.1 r_6.2 cw_room) H1 := hP.sub [0, 1, 2, 3, 4, 5] rfl
      have hD : va_D A (wd_row_bytes_ctx_states_likely_cw cI a_row a_bytes a_ctx a_states a_likely a_cw row_count row_start bytes_n bytes_f states_n states_f likely_n likely_f r_6.1 r_6.2 cw_room) := hD.sub [0, 1, 2, 3, 4, 5] (by decide) rfl
      generalize H1 = H at hP hS ⊢
      have hC : k + (let r_7 := F_X4_otherCame p2 states_f likely_f; DL_X3_next_j_8 row_start fu (0 : Int32) row_count bytes_n bytes_f r_6.1 r_6.2 cw_room + (let j_8 := L_X3_next_j_8 row_start fu (0 : Int32) row_count bytes_n bytes_f r_6.1 r_6.2 cw_room; 0)) + E ≤ Dt := by subst hr_6; exact hC
      have hpre := hpre r_6 hr_6
      refine lv_aload_n hx hb dX3_next_99 rfl (lv_at hl 0 rfl) ?_
      refine va_get (D := (dC, dI)) (ci := 2) (v := .ref a_ctx) (C := RX3) (T := TX3) (N := 5) hx hb hts iw_X3_next_X3 hown hK hP 5 rfl rfl 1 (by decide) (hts (.fieldLink RX3 15 "PlaneBlocks$CodedWriter" "contexts" "LPlaneBlocks$Contexts;") (by decide +kernel)) (fun _ h9 => h9) rfl dX3_next_100 ?_
      refine lv_iload_n hx hb dX3_next_103 rfl (lv_at hl 2 rfl) ?_
      have hPc := hP.sub (ws' := (wd_ctx_states_likely cI a_ctx a_states a_likely states_n states_f likely_n likely_f)) [2, 3, 4] rfl
      have hDc := hD.sub (ws' := (wd_ctx_states_likely cI a_ctx a_states a_likely states_n states_f likely_n likely_f)) [2, 3, 4] (by decide) rfl
      have hFc := va_free (wc := (wd_ctx_states_likely cI a_ctx a_states a_likely states_n states_f likely_n likely_f)) hD hS hA [2, 3, 4] rfl
      refine va_callv (va_runV (As := [.int p2]) (rest := []) ⟨hx, hb, hml, hown, hts⟩ (c_X4_otherCame l dC dI cI cJ cZ tP tN tO a_ctx a_states a_likely H.size states_n states_f likely_n likely_f p2 hpre.1) (cwV 1 hts gX3_next_X4_otherCame rfl rfl rfl (by decide +kernel) ⟨Nat.le_of_ble_eq_true rfl, Nat.le_of_ble_eq_true rfl⟩) ⟨fun a U g mk q => by obtain ⟨q0, q1, qP, qK, qD, qZ⟩ := q; exact ⟨q0, q1, qP, va_K.moved (u := U) (U := U.calling g mk a) (Vm.Alike.refl U.vm) qK, qD, Zs.moved (u := U) (U := U.calling g mk a) (Vm.Alike.refl U.vm) qZ⟩, va_recv hK hPc (ci := 3) (q0 := 0) rfl rfl, fun U hU hW => ⟨rfl, by rw [hU], by rw [hU]; exact hPc, va_K.moved hW.alike hK, hDc.weaken (fun _ _ _ _ => trivial), by rw [hU]; exact (((hZ.kept hS.2.1).narrow hFc).moved hW.alike)⟩⟩ rfl rfl hl.1 rfl (lv_room (Nat.le_of_ble_eq_true rfl)) dX3_next_104 ⟨k0_le hC, k0_le hC⟩) hS (fun q _ h => hFc q h) hFc (fun u t H1 locs ht hvm hw hB hz1 hk1 hS => ?_)
      obtain ⟨hP1, hK1, hD1⟩ := hB
      rw [ht] at hP1
      obtain ⟨r_7, hr_7⟩ : ∃ z, F_X4_otherCame p2 states_f likely_f = z := ⟨_, rfl⟩
      try rw [hr_7] at hw
      try rw [hr_7] at hP1
      try rw [hr_7] at hD1
      have hg : (let j_8 := L_X3_next_j_8 row_start fu (0 : Int32) row_count bytes_n bytes_f r_6.1 r_6.2 cw_room; (p1, j_8.2.1, j_8.2.2.1, j_8.2.2.2.1, r_7.1, r_7.2, j_8.2.2.2.2.1, j_8.2.2.2.2.2.1, j_8.2.2.2.2.2.2)) = g := by first | (rw [hr_7] at hg; exact hg) | (subst hr_7; exact hg)
      obtain ⟨hP, hD⟩ := va_join (wr := [(a_row, .inr (0, [.ref a_bytes, .int row_count, .int row_start])), (a_bytes, .inl (cI, bytes_n, .inl bytes_f)), (a_cw, .inr (2, [.ref a_row, .ref a_ctx, .int r_6.1, .int r_6.2, .int cw_room]))]) (w1 := (wd_ctx_states_likely cI a_ctx a_states a_likely states_n r_7.1 likely_n r_7.2)) hP hD [2, 3, 4] [0, 1, 5] rfl rfl (by decide) (by decide) hk1 hFc hP1 hD1
      have hP : va_P (dC, dI) vwCl (wd_row_bytes_ctx_states_likely_cw cI a_row a_bytes a_ctx a_states a_likely a_cw row_count row_start bytes_n bytes_f states_n r_7.1 likely_n r_7.2 r_6.1 r_6.2 cw_room) H1 := hP.sub [0, 1, 3, 4, 5, 2] rfl
      have hD : va_D A (wd_row_bytes_ctx_states_likely_cw cI a_row a_bytes a_ctx a_states a_likely a_cw row_count row_start bytes_n bytes_f states_n r_7.1 likely_n r_7.2 r_6.1 r_6.2 cw_room) := hD.sub [0, 1, 3, 4, 5, 2] (by decide) rfl
      generalize H1 = H at hP hS ⊢
      have hC : k + (DL_X3_next_j_8 row_start fu (0 : Int32) row_count bytes_n bytes_f r_6.1 r_6.2 cw_room + (let j_8 := L_X3_next_j_8 row_start fu (0 : Int32) row_count bytes_n bytes_f r_6.1 r_6.2 cw_room; 0)) + E ≤ Dt := by subst hr_7; exact hC
      have hpre := hpre.2 r_7 hr_7
      refine lv_iconst (v := 0) hx hb dX3_next_107 (by decide) ?_
      refine lv_istore (lv' := [(4, .int (0 : Int32)), (0, .ref a_cw), (1, .int p1), (2, .int p2), (3, .int r_1)]) hx hb dX3_next_108 hl (by decide) rfl (fun ls hl => ?_)
      obtain ⟨j_8, hj_8⟩ : ∃ z, L_X3_next_j_8 row_start fu (0 : Int32) row_count bytes_n bytes_f r_6.1 r_6.2 cw_room = z := ⟨_, rfl⟩
      have hg : (p1, j_8.2.1, j_8.2.2.1, j_8.2.2.2.1, r_7.1, r_7.2, j_8.2.2.2.2.1, j_8.2.2.2.2.2.1, j_8.2.2.2.2.2.2) = g := by first | (rw [hj_8] at hg; exact hg) | (subst hj_8; exact hg)
      have hC : k + (DL_X3_next_j_8 row_start fu (0 : Int32) row_count bytes_n bytes_f r_6.1 r_6.2 cw_room + (0)) + E ≤ Dt := by subst hj_8; exact hC
      have hJ_j_8 : ∀ (u_bytes_j_8 : Nat) (k : Nat) (H : Heap) (locs : List Loc) (ls : Array Slot), va_P (dC, dI) vwCl (wd_row_bytes_ctx_states_likely_cw cI a_row u_bytes_j_8 a_ctx a_states a_likely a_cw j_8.2.1 row_start j_8.2.2.1 j_8.2.2.2.1 states_n r_7.1 likely_n r_7.2 j_8.2.2.2.2.1 j_8.2.2.2.2.2.1 j_8.2.2.2.2.2.2) H → va_D A (wd_row_bytes_ctx_states_likely_cw cI a_row u_bytes_j_8 a_ctx a_states a_likely a_cw j_8.2.1 row_start j_8.2.2.1 j_8.2.2.2.1 states_n r_7.1 likely_n r_7.2 j_8.2.2.2.2.1 j_8.2.2.2.2.2.1 j_8.2.2.2.2.2.2) → va_S A s.heap H locs → lv_has ls 5 [(0, .ref a_cw), (1, .int p1), (2, .int p2), (3, .int r_1), (4, .int j_8.1)] → k + (0) + E ≤ Dt → W p l e (headSpec wsX3_next (rm_X3_next Dt)).room s m ([.ref a_cw, .int p1, .int p2] : List Value).toArray below meth c H locs k k Q (F0 m 173 ls []) := by
        intro u_bytes_j_8 k H locs ls hP hD hS hl hC
        refine lv_iload_n hx hb dX3_next_173 rfl (lv_at hl 1 rfl) ?_
        subst hg
        refine W.widen (k := Dt) (n := Dt) (k0_le hC) (k0_le hC) ?_
        rw [← hQe]
        exact W.iret (v := p1) hx hb hr (fun t ht hW => ⟨⟨p1, u_bytes_j_8, rfl, rfl, by rw [ht]; exact hP, va_K.moved hW.alike hK, hD⟩, hS.F ht⟩) hS.2.2 dX3_next_174
      obtain ⟨E2, hE2⟩ : ∃ z : Nat, z = (0) + E := ⟨_, rfl⟩
      have hC : k + (DL_X3_next_j_8 row_start fu (0 : Int32) row_count bytes_n bytes_f r_6.1 r_6.2 cw_room) + E2 ≤ Dt := by rw [hE2]; exact add4 hC
      have hL_j_8 : ∀ (n : Nat) (v4_j_8 : Int32) (row_count_j_8 : Int32) (bytes_n_j_8 : Nat) (bytes_f_j_8 : Nat → Int32) (cw_low_j_8 : Int32) (cw_size_j_8 : Int32) (cw_room_j_8 : Int32) (w_bytes_j_8 : Nat) (k : Nat) (H : Heap) (locs : List Loc) (ls : Array Slot), PL_X3_next_j_8 row_start n v4_j_8 row_count_j_8 bytes_n_j_8 bytes_f_j_8 cw_low_j_8 cw_size_j_8 cw_room_j_8 → L_X3_next_j_8 row_start n v4_j_8 row_count_j_8 bytes_n_j_8 bytes_f_j_8 cw_low_j_8 cw_size_j_8 cw_room_j_8 = j_8 → va_P (dC, dI) vwCl (wd_row_bytes_ctx_states_likely_cw cI a_row w_bytes_j_8 a_ctx a_states a_likely a_cw row_count_j_8 row_start bytes_n_j_8 bytes_f_j_8 states_n r_7.1 likely_n r_7.2 cw_low_j_8 cw_size_j_8 cw_room_j_8) H → va_D A (wd_row_bytes_ctx_states_likely_cw cI a_row w_bytes_j_8 a_ctx a_states a_likely a_cw row_count_j_8 row_start bytes_n_j_8 bytes_f_j_8 states_n r_7.1 likely_n r_7.2 cw_low_j_8 cw_size_j_8 cw_room_j_8) → va_S A s.heap H locs → lv_has ls 5 [(0, .ref a_cw), (1, .int p1), (2, .int p2), (3, .int r_1), (4, .int v4_j_8)] → k + (DL_X3_next_j_8 row_start n v4_j_8 row_count_j_8 bytes_n_j_8 bytes_f_j_8 cw_low_j_8 cw_size_j_8 cw_room_j_8) + E2 ≤ Dt → W p l e (headSpec wsX3_next (rm_X3_next Dt)).room s m ([.ref a_cw, .int p1, .int p2] : List Value).toArray below meth c H locs k k Q (F0 m 110 ls []) := by
        intro n
        induction n with
        | zero => intro v4_j_8 row_count_j_8 bytes_n_j_8 bytes_f_j_8 cw_low_j_8 cw_size_j_8 cw_room_j_8 w_bytes_j_8 k H locs ls hpre; exact absurd hpre id
        | succ n ih =>
          intro v4_j_8 row_count_j_8 bytes_n_j_8 bytes_f_j_8 cw_low_j_8 cw_size_j_8 cw_room_j_8 w_bytes_j_8 k H locs ls hpre hg hP hD hS hl hC
          rw [PL_X3_next_j_8] at hpre
          rw [L_X3_next_j_8] at hg
          rw [DL_X3_next_j_8] at hC
          refine lv_iload hx hb dX3_next_110 (lv_at hl 4 rfl) ?_
          refine lv_bipush (v := 15) hx hb dX3_next_112 (by decide) ?_
          refine lv_icmp_ge (tgt := 173) hx hb dX3_next_114 (by decide) (fun c_9 => ?_) (fun c_9 => ?_)
          · rw [if_pos c_9] at hg
            rw [if_pos c_9] at hC
            exact hJ_j_8 w_bytes_j_8 _ _ _ _ (by rw [← hg]; exact hP) (by rw [← hg]; exact hD) hS (by rw [← hg]; exact lv_sub hl [0, 1, 2, 3, 4] rfl) (by rw [Nat.add_assoc, ← hE2]; exact hC)
          · rw [if_neg c_9] at hg
            rw [if_neg c_9] at hC
            have hpre := hpre c_9
            refine lv_aload_n hx hb dX3_next_117 rfl (lv_at hl 0 rfl) ?_
            refine va_get (D := (dC, dI)) (ci := 2) (v := .int cw_size_j_8) (C := RX3) (T := TX3) (N := 5) hx hb hts iw_X3_next_X3 hown hK hP 5 rfl rfl 3 (by decide) (hts (.fieldLink RX3 24 "PlaneBlocks$CodedWriter" "size" "I") (by decide +kernel)) (fun _ h9 => h9) rfl dX3_next_118 ?_
            refine lv_ldc (v := 32768) hx hb hown (hts (.constant RX3 23 (32768)) (by decide +kernel)) dX3_next_121 ?_
            refine lv_icmp_ge (tgt := 173) hx hb dX3_next_123 (by decide) (fun c_10 => ?_) (fun c_10 => ?_)
            · rw [if_pos c_10] at hg
              rw [if_pos c_10] at hC
              exact hJ_j_8 w_bytes_j_8 _ _ _ _ (by rw [← hg]; exact hP) (by rw [← hg]; exact hD) hS (by rw [← hg]; exact lv_sub hl [0, 1, 2, 3, 4] rfl) (by rw [Nat.add_assoc, ← hE2]; exact hC)
            · rw [if_neg c_10] at hg
              rw [if_neg c_10] at hC
              have hpre := hpre c_10
              refine lv_aload_n hx hb dX3_next_126 rfl (lv_at hl 0 rfl) ?_
              refine lv_dup hx hb dX3_next_127 rfl ?_
              refine va_get (D := (dC, dI)) (ci := 2) (v := .int cw_size_j_8) (C := RX3) (T := TX3) (N := 5) hx hb hts iw_X3_next_X3 hown hK hP 5 rfl rfl 3 (by decide) (hts (.fieldLink RX3 24 "PlaneBlocks$CodedWriter" "size" "I") (by decide +kernel)) (fun _ h9 => h9) rfl dX3_next_128 ?_
              refine lv_iconst (v := 2) hx hb dX3_next_131 (by decide) ?_
              refine lv_imul hx hb dX3_next_132 ?_
              refine va_put (D := (dC, dI)) (ci := 2) (v := .int (cw_size_j_8 * (2 : Int32))) (ty := .int) (C := RX3) (T := TX3) (N := 5) hx hb hts iw_X3_next_X3 tyX3 tyX3_ok nmX3 hown hK hP hD hS 5 rfl rfl 3 (by decide) (hts (.fieldLink RX3 24 "PlaneBlocks$CodedWriter" "size" "I") (by decide +kernel)) (fun _ h9 => h9) rfl (by decide +kernel) rfl rfl (Nat.le_of_ble_eq_true rfl) dX3_next_133 (fun H locs hP hD hS => ?_)
              have hP : va_P (dC, dI) vwCl (wd_row_bytes_ctx_states_likely_cw cI a_row w_bytes_j_8 a_ctx a_states a_likely a_cw row_count_j_8 row_start bytes_n_j_8 bytes_f_j_8 states_n r_7.1 likely_n r_7.2 cw_low_j_8 (cw_size_j_8 * (2 : Int32)) cw_room_j_8) H := hP
              have hD : va_D A (wd_row_bytes_ctx_states_likely_cw cI a_row w_bytes_j_8 a_ctx a_states a_likely a_cw row_count_j_8 row_start bytes_n_j_8 bytes_f_j_8 states_n r_7.1 likely_n r_7.2 cw_low_j_8 (cw_size_j_8 * (2 : Int32)) cw_room_j_8) := hD
              refine lv_aload_n hx hb dX3_next_136 rfl (lv_at hl 0 rfl) ?_
              refine lv_dup hx hb dX3_next_137 rfl ?_
              refine va_get (D := (dC, dI)) (ci := 2) (v := .int cw_low_j_8) (C := RX3) (T := TX3) (N := 5) hx hb hts iw_X3_next_X3 hown hK hP 5 rfl rfl 2 (by decide) (hts (.fieldLink RX3 19 "PlaneBlocks$CodedWriter" "low" "I") (by decide +kernel)) (fun _ h9 => h9) rfl dX3_next_138 ?_
              refine lv_iconst (v := 2) hx hb dX3_next_141 (by decide) ?_
              refine lv_imul hx hb dX3_next_142 ?_
              refine va_put (D := (dC, dI)) (ci := 2) (v := .int (cw_low_j_8 * (2 : Int32))) (ty := .int) (C := RX3) (T := TX3) (N := 5) hx hb hts iw_X3_next_X3 tyX3 tyX3_ok nmX3 hown hK hP hD hS 5 rfl rfl 2 (by decide) (hts (.fieldLink RX3 19 "PlaneBlocks$CodedWriter" "low" "I") (by decide +kernel)) (fun _ h9 => h9) rfl (by decide +kernel) rfl rfl (Nat.le_of_ble_eq_true rfl) dX3_next_143 (fun H locs hP hD hS => ?_)
              have hP : va_P (dC, dI) vwCl (wd_row_bytes_ctx_states_likely_cw cI a_row w_bytes_j_8 a_ctx a_states a_likely a_cw row_count_j_8 row_start bytes_n_j_8 bytes_f_j_8 states_n r_7.1 likely_n r_7.2 (cw_low_j_8 * (2 : Int32)) (cw_size_j_8 * (2 : Int32)) cw_room_j_8) H := hP
              have hD : va_D A (wd_row_bytes_ctx_states_likely_cw cI a_row w_bytes_j_8 a_ctx a_states a_likely a_cw row_count_j_8 row_start bytes_n_j_8 bytes_f_j_8 states_n r_7.1 likely_n r_7.2 (cw_low_j_8 * (2 : Int32)) (cw_size_j_8 * (2 : Int32)) cw_room_j_8) := hD
              refine lv_aload_n hx hb dX3_next_146 rfl (lv_at hl 0 rfl) ?_
              refine lv_dup hx hb dX3_next_147 rfl ?_
              refine va_get (D := (dC, dI)) (ci := 2) (v := .int cw_room_j_8) (C := RX3) (T := TX3) (N := 5) hx hb hts iw_X3_next_X3 hown hK hP 5 rfl rfl 4 (by decide) (hts (.fieldLink RX3 27 "PlaneBlocks$CodedWriter" "room" "I") (by decide +kernel)) (fun _ h9 => h9) rfl dX3_next_148 ?_
              refine lv_iconst (v := 1) hx hb dX3_next_151 (by decide) ?_
              refine lv_isub hx hb dX3_next_152 ?_
              refine va_put (D := (dC, dI)) (ci := 2) (v := .int (cw_room_j_8 - (1 : Int32))) (ty := .int) (C := RX3) (T := TX3) (N := 5) hx hb hts iw_X3_next_X3 tyX3 tyX3_ok nmX3 hown hK hP hD hS 5 rfl rfl 4 (by decide) (hts (.fieldLink RX3 27 "PlaneBlocks$CodedWriter" "room" "I") (by decide +kernel)) (fun _ h9 => h9) rfl (by decide +kernel) rfl rfl (Nat.le_of_ble_eq_true rfl) dX3_next_153 (fun H locs hP hD hS => ?_)
              have hP : va_P (dC, dI) vwCl (wd_row_bytes_ctx_states_likely_cw cI a_row w_bytes_j_8 a_ctx a_states a_likely a_cw row_count_j_8 row_start bytes_n_j_8 bytes_f_j_8 states_n r_7.1 likely_n r_7.2 (cw_low_j_8 * (2 : Int32)) (cw_size_j_8 * (2 : Int32)) (cw_room_j_8 - (1 : Int32))) H := hP
              have hD : va_D A (wd_row_bytes_ctx_states_likely_cw cI a_row w_bytes_j_8 a_ctx a_states a_likely a_cw row_count_j_8 row_start bytes_n_j_8 bytes_f_j_8 states_n r_7.1 likely_n r_7.2 (cw_low_j_8 * (2 : Int32)) (cw_size_j_8 * (2 : Int32)) (cw_room_j_8 - (1 : Int32))) := hD
              refine lv_aload_n hx hb dX3_next_156 rfl (lv_at hl 0 rfl) ?_
              refine va_get (D := (dC, dI)) (ci := 2) (v := .int (cw_room_j_8 - (1 : Int32))) (C := RX3) (T := TX3) (N := 5) hx hb hts iw_X3_next_X3 hown hK hP 5 rfl rfl 4 (by decide) (hts (.fieldLink RX3 27 "PlaneBlocks$CodedWriter" "room" "I") (by decide +kernel)) (fun _ h9 => h9) rfl dX3_next_157 ?_
              obtain ⟨j_14, hj_14⟩ : ∃ z, J_X3_next_j_14 row_start row_count_j_8 bytes_n_j_8 bytes_f_j_8 cw_low_j_8 cw_room_j_8 = z := ⟨_, rfl⟩
              have hg : (L_X3_next_j_8 row_start n (v4_j_8 + (1 : Int32)) j_14.1 j_14.2.1 j_14.2.2.1 j_14.2.2.2.1 (cw_size_j_8 * (2 : Int32)) j_14.2.2.2.2) = j_8 := by first | (rw [hj_14] at hg; exact hg) | (subst hj_14; exact hg)
              have hC : k + (DJ_X3_next_j_14 row_start row_count_j_8 bytes_n_j_8 bytes_f_j_8 cw_low_j_8 cw_room_j_8 + (DL_X3_next_j_8 row_start n (v4_j_8 + (1 : Int32)) j_14.1 j_14.2.1 j_14.2.2.1 j_14.2.2.2.1 (cw_size_j_8 * (2 : Int32)) j_14.2.2.2.2)) + E2 ≤ Dt := by subst hj_14; exact hC
              have hJ_j_14 : ∀ (u_bytes_j_14 : Nat) (k : Nat) (H : Heap) (locs : List Loc) (ls : Array Slot), va_P (dC, dI) vwCl (wd_row_bytes_ctx_states_likely_cw cI a_row u_bytes_j_14 a_ctx a_states a_likely a_cw j_14.1 row_start j_14.2.1 j_14.2.2.1 states_n r_7.1 likely_n r_7.2 j_14.2.2.2.1 (cw_size_j_8 * (2 : Int32)) j_14.2.2.2.2) H → va_D A (wd_row_bytes_ctx_states_likely_cw cI a_row u_bytes_j_14 a_ctx a_states a_likely a_cw j_14.1 row_start j_14.2.1 j_14.2.2.1 states_n r_7.1 likely_n r_7.2 j_14.2.2.2.1 (cw_size_j_8 * (2 : Int32)) j_14.2.2.2.2) → va_S A s.heap H locs → lv_has ls 5 [(0, .ref a_cw), (1, .int p1), (2, .int p2), (3, .int r_1), (4, .int v4_j_8)] → k + (DL_X3_next_j_8 row_start n (v4_j_8 + (1 : Int32)) j_14.1 j_14.2.1 j_14.2.2.1 j_14.2.2.2.1 (cw_size_j_8 * (2 : Int32)) j_14.2.2.2.2) + E2 ≤ Dt → W p l e (headSpec wsX3_next (rm_X3_next Dt)).room s m ([.ref a_cw, .int p1, .int p2] : List Value).toArray below meth c H locs k k Q (F0 m 167 ls []) := by
                intro u_bytes_j_14 k H locs ls hP hD hS hl hC
                have hpre := hpre.2 j_14 hj_14
                refine lv_iinc (v := (v4_j_8 + (1 : Int32))) (lv' := [(4, .int (v4_j_8 + (1 : Int32))), (0, .ref a_cw), (1, .int p1), (2, .int p2), (3, .int r_1)]) hx hb dX3_next_167 hl (k := 4) rfl rfl (by decide) rfl (fun ls hl => ?_)
                refine lv_goto (tgt := 110) hx hb dX3_next_170 (by decide) ?_
                exact ih (v4_j_8 + (1 : Int32)) j_14.1 j_14.2.1 j_14.2.2.1 j_14.2.2.2.1 (cw_size_j_8 * (2 : Int32)) j_14.2.2.2.2 u_bytes_j_14 k _ _ _ hpre hg hP hD hS (lv_sub hl [1, 2, 3, 4, 0] rfl) hC
              have hpre := hpre.1
              obtain ⟨E2, hE2⟩ : ∃ z : Nat, z = (DL_X3_next_j_8 row_start n (v4_j_8 + (1 : Int32)) j_14.1 j_14.2.1 j_14.2.2.1 j_14.2.2.2.1 (cw_size_j_8 * (2 : Int32)) j_14.2.2.2.2) + E2 := ⟨_, rfl⟩
              have hC : k + (DJ_X3_next_j_14 row_start row_count_j_8 bytes_n_j_8 bytes_f_j_8 cw_low_j_8 cw_room_j_8) + E2 ≤ Dt := by rw [hE2]; exact add4 hC
              unfold PJ_X3_next_j_14 at hpre
              have hC : k + (if (cw_room_j_8 - (1 : Int32)) = (0 : Int32) then (D_X3_byteOut row_count_j_8 row_start bytes_n_j_8 bytes_f_j_8 (cw_low_j_8 * (2 : Int32)) + (let r_12 := F_X3_byteOut row_count_j_8 row_start bytes_n_j_8 bytes_f_j_8 (cw_low_j_8 * (2 : Int32)); 0)) else 0) + E2 ≤ Dt := hC
              have hg : (if (cw_room_j_8 - (1 : Int32)) = (0 : Int32) then (let r_12 := F_X3_byteOut row_count_j_8 row_start bytes_n_j_8 bytes_f_j_8 (cw_low_j_8 * (2 : Int32)); (r_12.1, r_12.2.1, r_12.2.2.1, r_12.2.2.2.1, r_12.2.2.2.2)) else (row_count_j_8, bytes_n_j_8, bytes_f_j_8, cw_low_j_8 * (2 : Int32), cw_room_j_8 - (1 : Int32))) = j_14 := by rw [← hj_14]; rfl
              clear hj_14
              refine lv_if_ne (tgt := 167) hx hb dX3_next_160 (by decide) (fun c_11 => ?_) (fun c_11 => ?_)
              · rw [if_neg c_11] at hg
                rw [if_neg c_11] at hC
                exact hJ_j_14 w_bytes_j_8 _ _ _ _ (by rw [← hg]; exact hP) (by rw [← hg]; exact hD) hS (lv_sub hl [0, 1, 2, 3, 4] rfl) (by rw [Nat.add_assoc, ← hE2]; exact hC)
              · rw [if_pos c_11] at hg
                rw [if_pos c_11] at hC
                have hpre := hpre c_11
                refine lv_aload_n hx hb dX3_next_163 rfl (lv_at hl 0 rfl) ?_
                have hPc := hP.sub (ws' := (wd_row_bytes_cw cI a_row w_bytes_j_8 a_cw a_ctx row_count_j_8 row_start bytes_n_j_8 bytes_f_j_8 (cw_low_j_8 * (2 : Int32)) (cw_size_j_8 * (2 : Int32)) (cw_room_j_8 - (1 : Int32)))) [0, 1, 5] rfl
                have hDc := hD.sub (ws' := (wd_row_bytes_cw cI a_row w_bytes_j_8 a_cw a_ctx row_count_j_8 row_start bytes_n_j_8 bytes_f_j_8 (cw_low_j_8 * (2 : Int32)) (cw_size_j_8 * (2 : Int32)) (cw_room_j_8 - (1 : Int32)))) [0, 1, 5] (by decide) rfl
                have hFc := va_free (wc := (wd_row_bytes_cw cI a_row w_bytes_j_8 a_cw a_ctx row_count_j_8 row_start bytes_n_j_8 bytes_f_j_8 (cw_low_j_8 * (2 : Int32)) (cw_size_j_8 * (2 : Int32)) (cw_room_j_8 - (1 : Int32)))) hD hS hA [0, 1, 5] rfl
                refine va_callv (va_runV (As := []) (rest := []) ⟨hx, hb, hml, hown, hts⟩ (c_X3_byteOut l dC dI cI cJ cZ a_row w_bytes_j_8 a_cw a_ctx H.size row_count_j_8 row_start bytes_n_j_8 bytes_f_j_8 (cw_low_j_8 * (2 : Int32)) (cw_size_j_8 * (2 : Int32)) (cw_room_j_8 - (1 : Int32)) hpre) (cwV 0 hts gX3_next_X3_byteOut rfl rfl rfl (by decide +kernel) ⟨Nat.le_of_ble_eq_true rfl, Nat.le_of_ble_eq_true rfl⟩) ⟨fun a U g mk q => by obtain ⟨q0, q1, qP, qK, qD⟩ := q; exact ⟨q0, q1, qP, va_K.moved (u := U) (U := U.calling g mk a) (Vm.Alike.refl U.vm) qK, qD⟩, va_recv hK hPc (ci := 2) (q0 := 2) rfl rfl, fun U hU hW => ⟨rfl, by rw [hU], by rw [hU]; exact hPc, va_K.moved hW.alike hK, hDc.weaken (fun _ _ _ _ => trivial)⟩⟩ rfl rfl hl.1 rfl (lv_room (Nat.le_of_ble_eq_true rfl)) dX3_next_164 ⟨kd_le hC, kd_le hC⟩) hS (fun q _ h => hFc q h) hFc (fun u t H1 locs ht hvm hw hB hz1 hk1 hS => ?_)
                obtain ⟨u_13, rfl⟩ : ∃ z, z = u := ⟨_, rfl⟩
                obtain ⟨hP1, hK1, hD1⟩ := hB
                rw [ht] at hP1
                obtain ⟨r_12, hr_12⟩ : ∃ z, F_X3_byteOut row_count_j_8 row_start bytes_n_j_8 bytes_f_j_8 (cw_low_j_8 * (2 : Int32)) = z := ⟨_, rfl⟩
                try rw [hr_12] at hw
                try rw [hr_12] at hP1
                try rw [hr_12] at hD1
                have hg : (r_12.1, r_12.2.1, r_12.2.2.1, r_12.2.2.2.1, r_12.2.2.2.2) = j_14 := by first | (rw [hr_12] at hg; exact hg) | (subst hr_12; exact hg)
                obtain ⟨hP, hD⟩ := va_join (wr := [(a_ctx, .inr (3, [.ref a_states, .ref a_likely])), (a_states, .inl (cI, states_n, .inl r_7.1)), (a_likely, .inl (cI, likely_n, .inl r_7.2))]) (w1 := (wd_row_bytes_cw cI a_row u_13 a_cw a_ctx r_12.1 row_start r_12.2.1 r_12.2.2.1 r_12.2.2.2.1 (cw_size_j_8 * (2 : Int32)) r_12.2.2.2.2)) hP hD [0, 1, 5] [2, 3, 4] rfl rfl (by decide) (by decide) hk1 hFc hP1 hD1
                have hP : va_P (dC, dI) vwCl (wd_row_bytes_ctx_states_likely_cw cI a_row u_13 a_ctx a_states a_likely a_cw r_12.1 row_start r_12.2.1 r_12.2.2.1 states_n r_7.1 likely_n r_7.2 r_12.2.2.2.1 (cw_size_j_8 * (2 : Int32)) r_12.2.2.2.2) H1 := hP.sub [3, 4, 0, 1, 2, 5] rfl
                have hD : va_D A (wd_row_bytes_ctx_states_likely_cw cI a_row u_13 a_ctx a_states a_likely a_cw r_12.1 row_start r_12.2.1 r_12.2.2.1 states_n r_7.1 likely_n r_7.2 r_12.2.2.2.1 (cw_size_j_8 * (2 : Int32)) r_12.2.2.2.2) := hD.sub [3, 4, 0, 1, 2, 5] (by decide) rfl
                generalize H1 = H at hP hS ⊢
                have hC : k + (D_X3_byteOut row_count_j_8 row_start bytes_n_j_8 bytes_f_j_8 (cw_low_j_8 * (2 : Int32)) + (0)) + E2 ≤ Dt := by subst hr_12; exact hC
                obtain ⟨k1, hk1⟩ : ∃ z, z = k + (D_X3_byteOut row_count_j_8 row_start bytes_n_j_8 bytes_f_j_8 (cw_low_j_8 * (2 : Int32))) := ⟨_, rfl⟩
                have hC : k1 + (0) + E2 ≤ Dt := by rw [hk1, Nat.add_assoc k]; exact hC
                refine W.widen (k := k1) (n := k1) (Nat.le_of_eq hk1.symm) (Nat.le_of_eq hk1.symm) ?_
                clear hk1
                generalize k1 = k at hC ⊢
                exact hJ_j_14 u_13 _ _ _ _ (by rw [← hg]; exact hP) (by rw [← hg]; exact hD) hS (lv_sub hl [0, 1, 2, 3, 4] rfl) (by rw [Nat.add_assoc, ← hE2]; exact hC)
      exact hL_j_8 fu (0 : Int32) row_count bytes_n bytes_f r_6.1 r_6.2 cw_room a_bytes k _ _ _ hpre hj_8 hP hD hS (lv_sub hl [1, 2, 3, 4, 0] rfl) hC
    obtain ⟨E2, hE2⟩ : ∃ z : Nat, z = (let r_6 := F_X3_takeShare j_5 r_1 cw_low (cw_size - r_1); let r_7 := F_X4_otherCame p2 states_f likely_f; DL_X3_next_j_8 row_start fu (0 : Int32) row_count bytes_n bytes_f r_6.1 r_6.2 cw_room + (let j_8 := L_X3_next_j_8 row_start fu (0 : Int32) row_count bytes_n bytes_f r_6.1 r_6.2 cw_room; 0)) + E := ⟨_, rfl⟩
    have hC : k + 0 + E2 ≤ Dt := by rw [hE2]; exact add40 hC
    have hg : (if (cw_size - r_1) < r_1 then (0 : Int32) else (1 : Int32)) = j_5 := by rw [← hj_5]; rfl
    clear hj_5
    refine lv_icmp_lt (tgt := 94) hx hb dX3_next_87 (by decide) (fun c_4 => ?_) (fun c_4 => ?_)
    · rw [if_pos c_4] at hg
      refine lv_iconst (v := 0) hx hb dX3_next_94 (by decide) ?_
      rw [← hg] at hJ_j_5
      try rw [← hg] at hE2
      exact hJ_j_5 _ _ _ _ hP hD hS (lv_sub hl [1, 2, 3, 0] rfl) (by rw [Nat.add_assoc, ← hE2]; exact hC)
    · rw [if_neg c_4] at hg
      refine lv_iconst (v := 1) hx hb dX3_next_90 (by decide) ?_
      refine lv_goto (tgt := 95) hx hb dX3_next_91 (by decide) ?_
      rw [← hg] at hJ_j_5
      try rw [← hg] at hE2
      exact hJ_j_5 _ _ _ _ hP hD hS (lv_sub hl [1, 2, 3, 0] rfl) (by rw [Nat.add_assoc, ← hE2]; exact hC)
  · rw [if_pos c_3] at hg
    rw [if_pos c_3] at hC
    have hpre := hpre.1 c_3
    refine lv_aload_n hx hb dX3_next_31 rfl (lv_at hl 1 rfl) ?_
    refine va_get (D := (dC, dI)) (ci := 2) (v := .int (cw_size - r_1)) (C := RX3) (T := TX3) (N := 5) hx hb hts iw_X3_next_X3 hown hK hP 5 rfl rfl 3 (by decide) (hts (.fieldLink RX3 24 "PlaneBlocks$CodedWriter" "size" "I") (by decide +kernel)) (fun _ h9 => h9) rfl dX3_next_32 ?_
    refine lv_ldc (v := 32768) hx hb hown (hts (.constant RX3 23 (32768)) (by decide +kernel)) dX3_next_35 ?_
    refine lv_icmp_lt (tgt := 52) hx hb dX3_next_37 (by decide) (fun c_15 => ?_) (fun c_15 => ?_)
    · rw [if_pos c_15] at hg
      rw [if_pos c_15] at hC
      have hpre := hpre c_15
      refine lv_aload_n hx hb dX3_next_52 rfl (lv_at hl 1 rfl) ?_
      refine lv_aload_n hx hb dX3_next_53 rfl (lv_at hl 1 rfl) ?_
      refine va_get (D := (dC, dI)) (ci := 2) (v := .int (cw_size - r_1)) (C := RX3) (T := TX3) (N := 5) hx hb hts iw_X3_next_X3 hown hK hP 5 rfl rfl 3 (by decide) (hts (.fieldLink RX3 24 "PlaneBlocks$CodedWriter" "size" "I") (by decide +kernel)) (fun _ h9 => h9) rfl dX3_next_54 ?_
      refine lv_iload_n hx hb dX3_next_57 rfl (lv_at hl 0 rfl) ?_
      obtain ⟨j_17, hj_17⟩ : ∃ z, J_X3_next_j_17 cw_size r_1 = z := ⟨_, rfl⟩
      have hg : (let r_18 := F_X3_takeShare j_17 r_1 cw_low (cw_size - r_1); let r_19 := F_X4_likelyCame p2 states_f; let j_20 := L_X3_next_j_20 row_start fu (0 : Int32) row_count bytes_n bytes_f r_18.1 r_18.2 cw_room; (p1, j_20.2.1, j_20.2.2.1, j_20.2.2.2.1, r_19, likely_f, j_20.2.2.2.2.1, j_20.2.2.2.2.2.1, j_20.2.2.2.2.2.2)) = g := by first | (rw [hj_17] at hg; exact hg) | (subst hj_17; exact hg)
      have hC : k + (let r_18 := F_X3_takeShare j_17 r_1 cw_low (cw_size - r_1); let r_19 := F_X4_likelyCame p2 states_f; DL_X3_next_j_20 row_start fu (0 : Int32) row_count bytes_n bytes_f r_18.1 r_18.2 cw_room + (let j_20 := L_X3_next_j_20 row_start fu (0 : Int32) row_count bytes_n bytes_f r_18.1 r_18.2 cw_room; 0)) + E ≤ Dt := by subst hj_17; exact hC
      have hJ_j_17 : ∀ (k : Nat) (H : Heap) (locs : List Loc) (ls : Array Slot), va_P (dC, dI) vwCl (wd_row_bytes_ctx_states_likely_cw cI a_row a_bytes a_ctx a_states a_likely a_cw row_count row_start bytes_n bytes_f states_n states_f likely_n likely_f cw_low (cw_size - r_1) cw_room) H → va_D A (wd_row_bytes_ctx_states_likely_cw cI a_row a_bytes a_ctx a_states a_likely a_cw row_count row_start bytes_n bytes_f states_n states_f likely_n likely_f cw_low (cw_size - r_1) cw_room) → va_S A s.heap H locs → lv_has ls 5 [(0, .ref a_cw), (1, .int p1), (2, .int p2), (3, .int r_1)] → k + (let r_18 := F_X3_takeShare j_17 r_1 cw_low (cw_size - r_1); let r_19 := F_X4_likelyCame p2 states_f; DL_X3_next_j_20 row_start fu (0 : Int32) row_count bytes_n bytes_f r_18.1 r_18.2 cw_room + (let j_20 := L_X3_next_j_20 row_start fu (0 : Int32) row_count bytes_n bytes_f r_18.1 r_18.2 cw_room; 0)) + E ≤ Dt → W p l e (headSpec wsX3_next (rm_X3_next Dt)).room s m ([.ref a_cw, .int p1, .int p2] : List Value).toArray below meth c H locs k k Q (F0 m 66 ls [.int j_17, .ref a_cw]) := by
        intro k H locs ls hP hD hS hl hC
        have hpre := hpre j_17 hj_17
        refine lv_iload_n hx hb dX3_next_66 rfl (lv_at hl 3 rfl) ?_
        have hPc := hP.sub (ws' := (wd_cw a_cw a_row a_ctx cw_low (cw_size - r_1) cw_room)) [5] rfl
        have hDc := hD.sub (ws' := (wd_cw a_cw a_row a_ctx cw_low (cw_size - r_1) cw_room)) [5] (by decide) rfl
        have hFc := va_free (wc := (wd_cw a_cw a_row a_ctx cw_low (cw_size - r_1) cw_room)) hD hS hA [5] rfl
        refine va_callv (va_runV (As := [.int j_17, .int r_1]) (rest := []) ⟨hx, hb, hml, hown, hts⟩ (c_X3_takeShare l dC dI cI cJ cZ a_cw a_row a_ctx H.size cw_low (cw_size - r_1) cw_room j_17 r_1) (cwV 2 hts gX3_next_X3_takeShare rfl rfl rfl (by decide +kernel) ⟨Nat.le_of_ble_eq_true rfl, Nat.le_of_ble_eq_true rfl⟩) ⟨fun a U g mk q => by obtain ⟨q0, q1, qP, qK, qD⟩ := q; exact ⟨q0, q1, qP, va_K.moved (u := U) (U := U.calling g mk a) (Vm.Alike.refl U.vm) qK, qD⟩, va_recv hK hPc (ci := 2) (q0 := 0) rfl rfl, fun U hU hW => ⟨rfl, by rw [hU], by rw [hU]; exact hPc, va_K.moved hW.alike hK, hDc.weaken (fun _ _ _ _ => trivial)⟩⟩ rfl rfl hl.1 rfl (lv_room (Nat.le_of_ble_eq_true rfl)) dX3_next_67 ⟨k0_le hC, k0_le hC⟩) hS (fun q _ h => hFc q h) hFc (fun u t H1 locs ht hvm hw hB hz1 hk1 hS => ?_)
        obtain ⟨hP1, hK1, hD1⟩ := hB
        rw [ht] at hP1
        obtain ⟨r_18, hr_18⟩ : ∃ z, F_X3_takeShare j_17 r_1 cw_low (cw_size - r_1) = z := ⟨_, rfl⟩
        try rw [hr_18] at hw
        try rw [hr_18] at hP1
        try rw [hr_18] at hD1
        have hg : (let r_19 := F_X4_likelyCame p2 states_f; let j_20 := L_X3_next_j_20 row_start fu (0 : Int32) row_count bytes_n bytes_f r_18.1 r_18.2 cw_room; (p1, j_20.2.1, j_20.2.2.1, j_20.2.2.2.1, r_19, likely_f, j_20.2.2.2.2.1, j_20.2.2.2.2.2.1, j_20.2.2.2.2.2.2)) = g := by first | (rw [hr_18] at hg; exact hg) | (subst hr_18; exact hg)
        obtain ⟨hP, hD⟩ := va_join (wr := [(a_row, .inr (0, [.ref a_bytes, .int row_count, .int row_start])), (a_bytes, .inl (cI, bytes_n, .inl bytes_f)), (a_ctx, .inr (3, [.ref a_states, .ref a_likely])), (a_states, .inl (cI, states_n, .inl states_f)), (a_likely, .inl (cI, likely_n, .inl likely_f))]) (w1 := (wd_cw a_cw a_row a_ctx r_18.1 r_18.2 cw_room)) hP hD [5] [0, 1, 2, 3, 4] rfl rfl (by decide) (by decide) hk1 hFc hP1 hD1
        have hP : va_P (dC, dI) vwCl (wd_row_bytes_ctx_states_likely_cw cI a_row a_bytes a_ctx a_states a_likely a_cw row_count row_start bytes_n bytes_f states_n states_f likely_n likely_f r_18.1 r_18.2 cw_room) H1 := hP.sub [0, 1, 2, 3, 4, 5] rfl
        have hD : va_D A (wd_row_bytes_ctx_states_likely_cw cI a_row a_bytes a_ctx a_states a_likely a_cw row_count row_start bytes_n bytes_f states_n states_f likely_n likely_f r_18.1 r_18.2 cw_room) := hD.sub [0, 1, 2, 3, 4, 5] (by decide) rfl
        generalize H1 = H at hP hS ⊢
        have hC : k + (let r_19 := F_X4_likelyCame p2 states_f; DL_X3_next_j_20 row_start fu (0 : Int32) row_count bytes_n bytes_f r_18.1 r_18.2 cw_room + (let j_20 := L_X3_next_j_20 row_start fu (0 : Int32) row_count bytes_n bytes_f r_18.1 r_18.2 cw_room; 0)) + E ≤ Dt := by subst hr_18; exact hC
        have hpre := hpre r_18 hr_18
        refine lv_aload_n hx hb dX3_next_70 rfl (lv_at hl 0 rfl) ?_
        refine va_get (D := (dC, dI)) (ci := 2) (v := .ref a_ctx) (C := RX3) (T := TX3) (N := 5) hx hb hts iw_X3_next_X3 hown hK hP 5 rfl rfl 1 (by decide) (hts (.fieldLink RX3 15 "PlaneBlocks$CodedWriter" "contexts" "LPlaneBlocks$Contexts;") (by decide +kernel)) (fun _ h9 => h9) rfl dX3_next_71 ?_
        refine lv_iload_n hx hb dX3_next_74 rfl (lv_at hl 2 rfl) ?_
        have hPc := hP.sub (ws' := (wd_ctx_states cI a_ctx a_states a_likely states_n states_f)) [2, 3] rfl
        have hDc := hD.sub (ws' := (wd_ctx_states cI a_ctx a_states a_likely states_n states_f)) [2, 3] (by decide) rfl
        have hFc := va_free (wc := (wd_ctx_states cI a_ctx a_states a_likely states_n states_f)) hD hS hA [2, 3] rfl
        refine va_callv (va_runV (As := [.int p2]) (rest := []) ⟨hx, hb, hml, hown, hts⟩ (c_X4_likelyCame l dC dI cI cJ cZ tP tN tO a_ctx a_states a_likely H.size states_n states_f p2 hpre.1) (cwV 1 hts gX3_next_X4_likelyCame rfl rfl rfl (by decide +kernel) ⟨Nat.le_of_ble_eq_true rfl, Nat.le_of_ble_eq_true rfl⟩) ⟨fun a U g mk q => by obtain ⟨q0, q1, qP, qK, qD, qZ⟩ := q; exact ⟨q0, q1, qP, va_K.moved (u := U) (U := U.calling g mk a) (Vm.Alike.refl U.vm) qK, qD, Zs.moved (u := U) (U := U.calling g mk a) (Vm.Alike.refl U.vm) qZ⟩, va_recv hK hPc (ci := 3) (q0 := 0) rfl rfl, fun U hU hW => ⟨rfl, by rw [hU], by rw [hU]; exact hPc, va_K.moved hW.alike hK, hDc.weaken (fun _ _ _ _ => trivial), by rw [hU]; exact (((hZ.kept hS.2.1).narrow hFc).moved hW.alike)⟩⟩ rfl rfl hl.1 rfl (lv_room (Nat.le_of_ble_eq_true rfl)) dX3_next_75 ⟨k0_le hC, k0_le hC⟩) hS (fun q _ h => hFc q h) hFc (fun u t H1 locs ht hvm hw hB hz1 hk1 hS => ?_)
        obtain ⟨hP1, hK1, hD1⟩ := hB
        rw [ht] at hP1
        obtain ⟨r_19, hr_19⟩ : ∃ z, F_X4_likelyCame p2 states_f = z := ⟨_, rfl⟩
        try rw [hr_19] at hw
        try rw [hr_19] at hP1
        try rw [hr_19] at hD1
        have hg : (let j_20 := L_X3_next_j_20 row_start fu (0 : Int32) row_count bytes_n bytes_f r_18.1 r_18.2 cw_room; (p1, j_20.2.1, j_20.2.2.1, j_20.2.2.2.1, r_19, likely_f, j_20.2.2.2.2.1, j_20.2.2.2.2.2.1, j_20.2.2.2.2.2.2)) = g := by first | (rw [hr_19] at hg; exact hg) | (subst hr_19; exact hg)
        obtain ⟨hP, hD⟩ := va_join (wr := [(a_row, .inr (0, [.ref a_bytes, .int row_count, .int row_start])), (a_bytes, .inl (cI, bytes_n, .inl bytes_f)), (a_likely, .inl (cI, likely_n, .inl likely_f)), (a_cw, .inr (2, [.ref a_row, .ref a_ctx, .int r_18.1, .int r_18.2, .int cw_room]))]) (w1 := (wd_ctx_states cI a_ctx a_states a_likely states_n r_19)) hP hD [2, 3] [0, 1, 4, 5] rfl rfl (by decide) (by decide) hk1 hFc hP1 hD1
        have hP : va_P (dC, dI) vwCl (wd_row_bytes_ctx_states_likely_cw cI a_row a_bytes a_ctx a_states a_likely a_cw row_count row_start bytes_n bytes_f states_n r_19 likely_n likely_f r_18.1 r_18.2 cw_room) H1 := hP.sub [0, 1, 4, 5, 2, 3] rfl
        have hD : va_D A (wd_row_bytes_ctx_states_likely_cw cI a_row a_bytes a_ctx a_states a_likely a_cw row_count row_start bytes_n bytes_f states_n r_19 likely_n likely_f r_18.1 r_18.2 cw_room) := hD.sub [0, 1, 4, 5, 2, 3] (by decide) rfl
        generalize H1 = H at hP hS ⊢
        have hC : k + (DL_X3_next_j_20 row_start fu (0 : Int32) row_count bytes_n bytes_f r_18.1 r_18.2 cw_room + (let j_20 := L_X3_next_j_20 row_start fu (0 : Int32) row_count bytes_n bytes_f r_18.1 r_18.2 cw_room; 0)) + E ≤ Dt := by subst hr_19; exact hC
        have hpre := hpre.2 r_19 hr_19
        refine lv_goto (tgt := 107) hx hb dX3_next_78 (by decide) ?_
        refine lv_iconst (v := 0) hx hb dX3_next_107 (by decide) ?_
        refine lv_istore (lv' := [(4, .int (0 : Int32)), (0, .ref a_cw), (1, .int p1), (2, .int p2), (3, .int r_1)]) hx hb dX3_next_108 hl (by decide) rfl (fun ls hl => ?_)
        obtain ⟨j_20, hj_20⟩ : ∃ z, L_X3_next_j_20 row_start fu (0 : Int32) row_count bytes_n bytes_f r_18.1 r_18.2 cw_room = z := ⟨_, rfl⟩
        have hg : (p1, j_20.2.1, j_20.2.2.1, j_20.2.2.2.1, r_19, likely_f, j_20.2.2.2.2.1, j_20.2.2.2.2.2.1, j_20.2.2.2.2.2.2) = g := by first | (rw [hj_20] at hg; exact hg) | (subst hj_20; exact hg)
        have hC : k + (DL_X3_next_j_20 row_start fu (0 : Int32) row_count bytes_n bytes_f r_18.1 r_18.2 cw_room + (0)) + E ≤ Dt := by subst hj_20; exact hC
        have hJ_j_20 : ∀ (u_bytes_j_20 : Nat) (k : Nat) (H : Heap) (locs : List Loc) (ls : Array Slot), va_P (dC, dI) vwCl (wd_row_bytes_ctx_states_likely_cw cI a_row u_bytes_j_20 a_ctx a_states a_likely a_cw j_20.2.1 row_start j_20.2.2.1 j_20.2.2.2.1 states_n r_19 likely_n likely_f j_20.2.2.2.2.1 j_20.2.2.2.2.2.1 j_20.2.2.2.2.2.2) H → va_D A (wd_row_bytes_ctx_states_likely_cw cI a_row u_bytes_j_20 a_ctx a_states a_likely a_cw j_20.2.1 row_start j_20.2.2.1 j_20.2.2.2.1 states_n r_19 likely_n likely_f j_20.2.2.2.2.1 j_20.2.2.2.2.2.1 j_20.2.2.2.2.2.2) → va_S A s.heap H locs → lv_has ls 5 [(0, .ref a_cw), (1, .int p1), (2, .int p2), (3, .int r_1), (4, .int j_20.1)] → k + (0) + E ≤ Dt → W p l e (headSpec wsX3_next (rm_X3_next Dt)).room s m ([.ref a_cw, .int p1, .int p2] : List Value).toArray below meth c H locs k k Q (F0 m 173 ls []) := by
          intro u_bytes_j_20 k H locs ls hP hD hS hl hC
          refine lv_iload_n hx hb dX3_next_173 rfl (lv_at hl 1 rfl) ?_
          subst hg
          refine W.widen (k := Dt) (n := Dt) (k0_le hC) (k0_le hC) ?_
          rw [← hQe]
          exact W.iret (v := p1) hx hb hr (fun t ht hW => ⟨⟨p1, u_bytes_j_20, rfl, rfl, by rw [ht]; exact hP, va_K.moved hW.alike hK, hD⟩, hS.F ht⟩) hS.2.2 dX3_next_174
        obtain ⟨E2, hE2⟩ : ∃ z : Nat, z = (0) + E := ⟨_, rfl⟩
        have hC : k + (DL_X3_next_j_20 row_start fu (0 : Int32) row_count bytes_n bytes_f r_18.1 r_18.2 cw_room) + E2 ≤ Dt := by rw [hE2]; exact add4 hC
        have hL_j_20 : ∀ (n : Nat) (v4_j_20 : Int32) (row_count_j_20 : Int32) (bytes_n_j_20 : Nat) (bytes_f_j_20 : Nat → Int32) (cw_low_j_20 : Int32) (cw_size_j_20 : Int32) (cw_room_j_20 : Int32) (w_bytes_j_20 : Nat) (k : Nat) (H : Heap) (locs : List Loc) (ls : Array Slot), PL_X3_next_j_20 row_start n v4_j_20 row_count_j_20 bytes_n_j_20 bytes_f_j_20 cw_low_j_20 cw_size_j_20 cw_room_j_20 → L_X3_next_j_20 row_start n v4_j_20 row_count_j_20 bytes_n_j_20 bytes_f_j_20 cw_low_j_20 cw_size_j_20 cw_room_j_20 = j_20 → va_P (dC, dI) vwCl (wd_row_bytes_ctx_states_likely_cw cI a_row w_bytes_j_20 a_ctx a_states a_likely a_cw row_count_j_20 row_start bytes_n_j_20 bytes_f_j_20 states_n r_19 likely_n likely_f cw_low_j_20 cw_size_j_20 cw_room_j_20) H → va_D A (wd_row_bytes_ctx_states_likely_cw cI a_row w_bytes_j_20 a_ctx a_states a_likely a_cw row_count_j_20 row_start bytes_n_j_20 bytes_f_j_20 states_n r_19 likely_n likely_f cw_low_j_20 cw_size_j_20 cw_room_j_20) → va_S A s.heap H locs → lv_has ls 5 [(0, .ref a_cw), (1, .int p1), (2, .int p2), (3, .int r_1), (4, .int v4_j_20)] → k + (DL_X3_next_j_20 row_start n v4_j_20 row_count_j_20 bytes_n_j_20 bytes_f_j_20 cw_low_j_20 cw_size_j_20 cw_room_j_20) + E2 ≤ Dt → W p l e (headSpec wsX3_next (rm_X3_next Dt)).room s m ([.ref a_cw, .int p1, .int p2] : List Value).toArray below meth c H locs k k Q (F0 m 110 ls []) := by
          intro n
          induction n with
          | zero => intro v4_j_20 row_count_j_20 bytes_n_j_20 bytes_f_j_20 cw_low_j_20 cw_size_j_20 cw_room_j_20 w_bytes_j_20 k H locs ls hpre; exact absurd hpre id
          | succ n ih =>
            intro v4_j_20 row_count_j_20 bytes_n_j_20 bytes_f_j_20 cw_low_j_20 cw_size_j_20 cw_room_j_20 w_bytes_j_20 k H locs ls hpre hg hP hD hS hl hC
            rw [PL_X3_next_j_20] at hpre
            rw [L_X3_next_j_20] at hg
            rw [DL_X3_next_j_20] at hC
            refine lv_iload hx hb dX3_next_110 (lv_at hl 4 rfl) ?_
            refine lv_bipush (v := 15) hx hb dX3_next_112 (by decide) ?_
            refine lv_icmp_ge (tgt := 173) hx hb dX3_next_114 (by decide) (fun c_21 => ?_) (fun c_21 => ?_)
            · rw [if_pos c_21] at hg
              rw [if_pos c_21] at hC
              exact hJ_j_20 w_bytes_j_20 _ _ _ _ (by rw [← hg]; exact hP) (by rw [← hg]; exact hD) hS (by rw [← hg]; exact lv_sub hl [0, 1, 2, 3, 4] rfl) (by rw [Nat.add_assoc, ← hE2]; exact hC)
            · rw [if_neg c_21] at hg
              rw [if_neg c_21] at hC
              have hpre := hpre c_21
              refine lv_aload_n hx hb dX3_next_117 rfl (lv_at hl 0 rfl) ?_
              refine va_get (D := (dC, dI)) (ci := 2) (v := .int cw_size_j_20) (C := RX3) (T := TX3) (N := 5) hx hb hts iw_X3_next_X3 hown hK hP 5 rfl rfl 3 (by decide) (hts (.fieldLink RX3 24 "PlaneBlocks$CodedWriter" "size" "I") (by decide +kernel)) (fun _ h9 => h9) rfl dX3_next_118 ?_
              refine lv_ldc (v := 32768) hx hb hown (hts (.constant RX3 23 (32768)) (by decide +kernel)) dX3_next_121 ?_
              refine lv_icmp_ge (tgt := 173) hx hb dX3_next_123 (by decide) (fun c_22 => ?_) (fun c_22 => ?_)
              · rw [if_pos c_22] at hg
                rw [if_pos c_22] at hC
                exact hJ_j_20 w_bytes_j_20 _ _ _ _ (by rw [← hg]; exact hP) (by rw [← hg]; exact hD) hS (by rw [← hg]; exact lv_sub hl [0, 1, 2, 3, 4] rfl) (by rw [Nat.add_assoc, ← hE2]; exact hC)
              · rw [if_neg c_22] at hg
                rw [if_neg c_22] at hC
                have hpre := hpre c_22
                refine lv_aload_n hx hb dX3_next_126 rfl (lv_at hl 0 rfl) ?_
                refine lv_dup hx hb dX3_next_127 rfl ?_
                refine va_get (D := (dC, dI)) (ci := 2) (v := .int cw_size_j_20) (C := RX3) (T := TX3) (N := 5) hx hb hts iw_X3_next_X3 hown hK hP 5 rfl rfl 3 (by decide) (hts (.fieldLink RX3 24 "PlaneBlocks$CodedWriter" "size" "I") (by decide +kernel)) (fun _ h9 => h9) rfl dX3_next_128 ?_
                refine lv_iconst (v := 2) hx hb dX3_next_131 (by decide) ?_
                refine lv_imul hx hb dX3_next_132 ?_
                refine va_put (D := (dC, dI)) (ci := 2) (v := .int (cw_size_j_20 * (2 : Int32))) (ty := .int) (C := RX3) (T := TX3) (N := 5) hx hb hts iw_X3_next_X3 tyX3 tyX3_ok nmX3 hown hK hP hD hS 5 rfl rfl 3 (by decide) (hts (.fieldLink RX3 24 "PlaneBlocks$CodedWriter" "size" "I") (by decide +kernel)) (fun _ h9 => h9) rfl (by decide +kernel) rfl rfl (Nat.le_of_ble_eq_true rfl) dX3_next_133 (fun H locs hP hD hS => ?_)
                have hP : va_P (dC, dI) vwCl (wd_row_bytes_ctx_states_likely_cw cI a_row w_bytes_j_20 a_ctx a_states a_likely a_cw row_count_j_20 row_start bytes_n_j_20 bytes_f_j_20 states_n r_19 likely_n likely_f cw_low_j_20 (cw_size_j_20 * (2 : Int32)) cw_room_j_20) H := hP
                have hD : va_D A (wd_row_bytes_ctx_states_likely_cw cI a_row w_bytes_j_20 a_ctx a_states a_likely a_cw row_count_j_20 row_start bytes_n_j_20 bytes_f_j_20 states_n r_19 likely_n likely_f cw_low_j_20 (cw_size_j_20 * (2 : Int32)) cw_room_j_20) := hD
                refine lv_aload_n hx hb dX3_next_136 rfl (lv_at hl 0 rfl) ?_
                refine lv_dup hx hb dX3_next_137 rfl ?_
                refine va_get (D := (dC, dI)) (ci := 2) (v := .int cw_low_j_20) (C := RX3) (T := TX3) (N := 5) hx hb hts iw_X3_next_X3 hown hK hP 5 rfl rfl 2 (by decide) (hts (.fieldLink RX3 19 "PlaneBlocks$CodedWriter" "low" "I") (by decide +kernel)) (fun _ h9 => h9) rfl dX3_next_138 ?_
                refine lv_iconst (v := 2) hx hb dX3_next_141 (by decide) ?_
                refine lv_imul hx hb dX3_next_142 ?_
                refine va_put (D := (dC, dI)) (ci := 2) (v := .int (cw_low_j_20 * (2 : Int32))) (ty := .int) (C := RX3) (T := TX3) (N := 5) hx hb hts iw_X3_next_X3 tyX3 tyX3_ok nmX3 hown hK hP hD hS 5 rfl rfl 2 (by decide) (hts (.fieldLink RX3 19 "PlaneBlocks$CodedWriter" "low" "I") (by decide +kernel)) (fun _ h9 => h9) rfl (by decide +kernel) rfl rfl (Nat.le_of_ble_eq_true rfl) dX3_next_143 (fun H locs hP hD hS => ?_)
                have hP : va_P (dC, dI) vwCl (wd_row_bytes_ctx_states_likely_cw cI a_row w_bytes_j_20 a_ctx a_states a_likely a_cw row_count_j_20 row_start bytes_n_j_20 bytes_f_j_20 states_n r_19 likely_n likely_f (cw_low_j_20 * (2 : Int32)) (cw_size_j_20 * (2 : Int32)) cw_room_j_20) H := hP
                have hD : va_D A (wd_row_bytes_ctx_states_likely_cw cI a_row w_bytes_j_20 a_ctx a_states a_likely a_cw row_count_j_20 row_start bytes_n_j_20 bytes_f_j_20 states_n r_19 likely_n likely_f (cw_low_j_20 * (2 : Int32)) (cw_size_j_20 * (2 : Int32)) cw_room_j_20) := hD
                refine lv_aload_n hx hb dX3_next_146 rfl (lv_at hl 0 rfl) ?_
                refine lv_dup hx hb dX3_next_147 rfl ?_
                refine va_get (D := (dC, dI)) (ci := 2) (v := .int cw_room_j_20) (C := RX3) (T := TX3) (N := 5) hx hb hts iw_X3_next_X3 hown hK hP 5 rfl rfl 4 (by decide) (hts (.fieldLink RX3 27 "PlaneBlocks$CodedWriter" "room" "I") (by decide +kernel)) (fun _ h9 => h9) rfl dX3_next_148 ?_
                refine lv_iconst (v := 1) hx hb dX3_next_151 (by decide) ?_
                refine lv_isub hx hb dX3_next_152 ?_
                refine va_put (D := (dC, dI)) (ci := 2) (v := .int (cw_room_j_20 - (1 : Int32))) (ty := .int) (C := RX3) (T := TX3) (N := 5) hx hb hts iw_X3_next_X3 tyX3 tyX3_ok nmX3 hown hK hP hD hS 5 rfl rfl 4 (by decide) (hts (.fieldLink RX3 27 "PlaneBlocks$CodedWriter" "room" "I") (by decide +kernel)) (fun _ h9 => h9) rfl (by decide +kernel) rfl rfl (Nat.le_of_ble_eq_true rfl) dX3_next_153 (fun H locs hP hD hS => ?_)
                have hP : va_P (dC, dI) vwCl (wd_row_bytes_ctx_states_likely_cw cI a_row w_bytes_j_20 a_ctx a_states a_likely a_cw row_count_j_20 row_start bytes_n_j_20 bytes_f_j_20 states_n r_19 likely_n likely_f (cw_low_j_20 * (2 : Int32)) (cw_size_j_20 * (2 : Int32)) (cw_room_j_20 - (1 : Int32))) H := hP
                have hD : va_D A (wd_row_bytes_ctx_states_likely_cw cI a_row w_bytes_j_20 a_ctx a_states a_likely a_cw row_count_j_20 row_start bytes_n_j_20 bytes_f_j_20 states_n r_19 likely_n likely_f (cw_low_j_20 * (2 : Int32)) (cw_size_j_20 * (2 : Int32)) (cw_room_j_20 - (1 : Int32))) := hD
                refine lv_aload_n hx hb dX3_next_156 rfl (lv_at hl 0 rfl) ?_
                refine va_get (D := (dC, dI)) (ci := 2) (v := .int (cw_room_j_20 - (1 : Int32))) (C := RX3) (T := TX3) (N := 5) hx hb hts iw_X3_next_X3 hown hK hP 5 rfl rfl 4 (by decide) (hts (.fieldLink RX3 27 "PlaneBlocks$CodedWriter" "room" "I") (by decide +kernel)) (fun _ h9 => h9) rfl dX3_next_157 ?_
                obtain ⟨j_26, hj_26⟩ : ∃ z, J_X3_next_j_26 row_start row_count_j_20 bytes_n_j_20 bytes_f_j_20 cw_low_j_20 cw_room_j_20 = z := ⟨_, rfl⟩
                have hg : (L_X3_next_j_20 row_start n (v4_j_20 + (1 : Int32)) j_26.1 j_26.2.1 j_26.2.2.1 j_26.2.2.2.1 (cw_size_j_20 * (2 : Int32)) j_26.2.2.2.2) = j_20 := by first | (rw [hj_26] at hg; exact hg) | (subst hj_26; exact hg)
                have hC : k + (DJ_X3_next_j_26 row_start row_count_j_20 bytes_n_j_20 bytes_f_j_20 cw_low_j_20 cw_room_j_20 + (DL_X3_next_j_20 row_start n (v4_j_20 + (1 : Int32)) j_26.1 j_26.2.1 j_26.2.2.1 j_26.2.2.2.1 (cw_size_j_20 * (2 : Int32)) j_26.2.2.2.2)) + E2 ≤ Dt := by subst hj_26; exact hC
                have hJ_j_26 : ∀ (u_bytes_j_26 : Nat) (k : Nat) (H : Heap) (locs : List Loc) (ls : Array Slot), va_P (dC, dI) vwCl (wd_row_bytes_ctx_states_likely_cw cI a_row u_bytes_j_26 a_ctx a_states a_likely a_cw j_26.1 row_start j_26.2.1 j_26.2.2.1 states_n r_19 likely_n likely_f j_26.2.2.2.1 (cw_size_j_20 * (2 : Int32)) j_26.2.2.2.2) H → va_D A (wd_row_bytes_ctx_states_likely_cw cI a_row u_bytes_j_26 a_ctx a_states a_likely a_cw j_26.1 row_start j_26.2.1 j_26.2.2.1 states_n r_19 likely_n likely_f j_26.2.2.2.1 (cw_size_j_20 * (2 : Int32)) j_26.2.2.2.2) → va_S A s.heap H locs → lv_has ls 5 [(0, .ref a_cw), (1, .int p1), (2, .int p2), (3, .int r_1), (4, .int v4_j_20)] → k + (DL_X3_next_j_20 row_start n (v4_j_20 + (1 : Int32)) j_26.1 j_26.2.1 j_26.2.2.1 j_26.2.2.2.1 (cw_size_j_20 * (2 : Int32)) j_26.2.2.2.2) + E2 ≤ Dt → W p l e (headSpec wsX3_next (rm_X3_next Dt)).room s m ([.ref a_cw, .int p1, .int p2] : List Value).toArray below meth c H locs k k Q (F0 m 167 ls []) := by
                  intro u_bytes_j_26 k H locs ls hP hD hS hl hC
                  have hpre := hpre.2 j_26 hj_26
                  refine lv_iinc (v := (v4_j_20 + (1 : Int32))) (lv' := [(4, .int (v4_j_20 + (1 : Int32))), (0, .ref a_cw), (1, .int p1), (2, .int p2), (3, .int r_1)]) hx hb dX3_next_167 hl (k := 4) rfl rfl (by decide) rfl (fun ls hl => ?_)
                  refine lv_goto (tgt := 110) hx hb dX3_next_170 (by decide) ?_
                  exact ih (v4_j_20 + (1 : Int32)) j_26.1 j_26.2.1 j_26.2.2.1 j_26.2.2.2.1 (cw_size_j_20 * (2 : Int32)) j_26.2.2.2.2 u_bytes_j_26 k _ _ _ hpre hg hP hD hS (lv_sub hl [1, 2, 3, 4, 0] rfl) hC
                have hpre := hpre.1
                obtain ⟨E2, hE2⟩ : ∃ z : Nat, z = (DL_X3_next_j_20 row_start n (v4_j_20 + (1 : Int32)) j_26.1 j_26.2.1 j_26.2.2.1 j_26.2.2.2.1 (cw_size_j_20 * (2 : Int32)) j_26.2.2.2.2) + E2 := ⟨_, rfl⟩
                have hC : k + (DJ_X3_next_j_26 row_start row_count_j_20 bytes_n_j_20 bytes_f_j_20 cw_low_j_20 cw_room_j_20) + E2 ≤ Dt := by rw [hE2]; exact add4 hC
                unfold PJ_X3_next_j_26 at hpre
                have hC : k + (if (cw_room_j_20 - (1 : Int32)) = (0 : Int32) then (D_X3_byteOut row_count_j_20 row_start bytes_n_j_20 bytes_f_j_20 (cw_low_j_20 * (2 : Int32)) + (let r_24 := F_X3_byteOut row_count_j_20 row_start bytes_n_j_20 bytes_f_j_20 (cw_low_j_20 * (2 : Int32)); 0)) else 0) + E2 ≤ Dt := hC
                have hg : (if (cw_room_j_20 - (1 : Int32)) = (0 : Int32) then (let r_24 := F_X3_byteOut row_count_j_20 row_start bytes_n_j_20 bytes_f_j_20 (cw_low_j_20 * (2 : Int32)); (r_24.1, r_24.2.1, r_24.2.2.1, r_24.2.2.2.1, r_24.2.2.2.2)) else (row_count_j_20, bytes_n_j_20, bytes_f_j_20, cw_low_j_20 * (2 : Int32), cw_room_j_20 - (1 : Int32))) = j_26 := by rw [← hj_26]; rfl
                clear hj_26
                refine lv_if_ne (tgt := 167) hx hb dX3_next_160 (by decide) (fun c_23 => ?_) (fun c_23 => ?_)
                · rw [if_neg c_23] at hg
                  rw [if_neg c_23] at hC
                  exact hJ_j_26 w_bytes_j_20 _ _ _ _ (by rw [← hg]; exact hP) (by rw [← hg]; exact hD) hS (lv_sub hl [0, 1, 2, 3, 4] rfl) (by rw [Nat.add_assoc, ← hE2]; exact hC)
                · rw [if_pos c_23] at hg
                  rw [if_pos c_23] at hC
                  have hpre := hpre c_23
                  refine lv_aload_n hx hb dX3_next_163 rfl (lv_at hl 0 rfl) ?_
                  have hPc := hP.sub (ws' := (wd_row_bytes_cw cI a_row w_bytes_j_20 a_cw a_ctx row_count_j_20 row_start bytes_n_j_20 bytes_f_j_20 (cw_low_j_20 * (2 : Int32)) (cw_size_j_20 * (2 : Int32)) (cw_room_j_20 - (1 : Int32)))) [0, 1, 5] rfl
                  have hDc := hD.sub (ws' := (wd_row_bytes_cw cI a_row w_bytes_j_20 a_cw a_ctx row_count_j_20 row_start bytes_n_j_20 bytes_f_j_20 (cw_low_j_20 * (2 : Int32)) (cw_size_j_20 * (2 : Int32)) (cw_room_j_20 - (1 : Int32)))) [0, 1, 5] (by decide) rfl
                  have hFc := va_free (wc := (wd_row_bytes_cw cI a_row w_bytes_j_20 a_cw a_ctx row_count_j_20 row_start bytes_n_j_20 bytes_f_j_20 (cw_low_j_20 * (2 : Int32)) (cw_size_j_20 * (2 : Int32)) (cw_room_j_20 - (1 : Int32)))) hD hS hA [0, 1, 5] rfl
                  refine va_callv (va_runV (As := []) (rest := []) ⟨hx, hb, hml, hown, hts⟩ (c_X3_byteOut l dC dI cI cJ cZ a_row w_bytes_j_20 a_cw a_ctx H.size row_count_j_20 row_start bytes_n_j_20 bytes_f_j_20 (cw_low_j_20 * (2 : Int32)) (cw_size_j_20 * (2 : Int32)) (cw_room_j_20 - (1 : Int32)) hpre) (cwV 0 hts gX3_next_X3_byteOut rfl rfl rfl (by decide +kernel) ⟨Nat.le_of_ble_eq_true rfl, Nat.le_of_ble_eq_true rfl⟩) ⟨fun a U g mk q => by obtain ⟨q0, q1, qP, qK, qD⟩ := q; exact ⟨q0, q1, qP, va_K.moved (u := U) (U := U.calling g mk a) (Vm.Alike.refl U.vm) qK, qD⟩, va_recv hK hPc (ci := 2) (q0 := 2) rfl rfl, fun U hU hW => ⟨rfl, by rw [hU], by rw [hU]; exact hPc, va_K.moved hW.alike hK, hDc.weaken (fun _ _ _ _ => trivial)⟩⟩ rfl rfl hl.1 rfl (lv_room (Nat.le_of_ble_eq_true rfl)) dX3_next_164 ⟨kd_le hC, kd_le hC⟩) hS (fun q _ h => hFc q h) hFc (fun u t H1 locs ht hvm hw hB hz1 hk1 hS => ?_)
                  obtain ⟨u_25, rfl⟩ : ∃ z, z = u := ⟨_, rfl⟩
                  obtain ⟨hP1, hK1, hD1⟩ := hB
                  rw [ht] at hP1
                  obtain ⟨r_24, hr_24⟩ : ∃ z, F_X3_byteOut row_count_j_20 row_start bytes_n_j_20 bytes_f_j_20 (cw_low_j_20 * (2 : Int32)) = z := ⟨_, rfl⟩
                  try rw [hr_24] at hw
                  try rw [hr_24] at hP1
                  try rw [hr_24] at hD1
                  have hg : (r_24.1, r_24.2.1, r_24.2.2.1, r_24.2.2.2.1, r_24.2.2.2.2) = j_26 := by first | (rw [hr_24] at hg; exact hg) | (subst hr_24; exact hg)
                  obtain ⟨hP, hD⟩ := va_join (wr := [(a_ctx, .inr (3, [.ref a_states, .ref a_likely])), (a_states, .inl (cI, states_n, .inl r_19)), (a_likely, .inl (cI, likely_n, .inl likely_f))]) (w1 := (wd_row_bytes_cw cI a_row u_25 a_cw a_ctx r_24.1 row_start r_24.2.1 r_24.2.2.1 r_24.2.2.2.1 (cw_size_j_20 * (2 : Int32)) r_24.2.2.2.2)) hP hD [0, 1, 5] [2, 3, 4] rfl rfl (by decide) (by decide) hk1 hFc hP1 hD1
                  have hP : va_P (dC, dI) vwCl (wd_row_bytes_ctx_states_likely_cw cI a_row u_25 a_ctx a_states a_likely a_cw r_24.1 row_start r_24.2.1 r_24.2.2.1 states_n r_19 likely_n likely_f r_24.2.2.2.1 (cw_size_j_20 * (2 : Int32)) r_24.2.2.2.2) H1 := hP.sub [3, 4, 0, 1, 2, 5] rfl
                  have hD : va_D A (wd_row_bytes_ctx_states_likely_cw cI a_row u_25 a_ctx a_states a_likely a_cw r_24.1 row_start r_24.2.1 r_24.2.2.1 states_n r_19 likely_n likely_f r_24.2.2.2.1 (cw_size_j_20 * (2 : Int32)) r_24.2.2.2.2) := hD.sub [3, 4, 0, 1, 2, 5] (by decide) rfl
                  generalize H1 = H at hP hS ⊢
                  have hC : k + (D_X3_byteOut row_count_j_20 row_start bytes_n_j_20 bytes_f_j_20 (cw_low_j_20 * (2 : Int32)) + (0)) + E2 ≤ Dt := by subst hr_24; exact hC
                  obtain ⟨k1, hk1⟩ : ∃ z, z = k + (D_X3_byteOut row_count_j_20 row_start bytes_n_j_20 bytes_f_j_20 (cw_low_j_20 * (2 : Int32))) := ⟨_, rfl⟩
                  have hC : k1 + (0) + E2 ≤ Dt := by rw [hk1, Nat.add_assoc k]; exact hC
                  refine W.widen (k := k1) (n := k1) (Nat.le_of_eq hk1.symm) (Nat.le_of_eq hk1.symm) ?_
                  clear hk1
                  generalize k1 = k at hC ⊢
                  exact hJ_j_26 u_25 _ _ _ _ (by rw [← hg]; exact hP) (by rw [← hg]; exact hD) hS (lv_sub hl [0, 1, 2, 3, 4] rfl) (by rw [Nat.add_assoc, ← hE2]; exact hC)
        exact hL_j_20 fu (0 : Int32) row_count bytes_n bytes_f r_18.1 r_18.2 cw_room a_bytes k _ _ _ hpre hj_20 hP hD hS (lv_sub hl [1, 2, 3, 4, 0] rfl) hC
      obtain ⟨E2, hE2⟩ : ∃ z : Nat, z = (let r_18 := F_X3_takeShare j_17 r_1 cw_low (cw_size - r_1); let r_19 := F_X4_likelyCame p2 states_f; DL_X3_next_j_20 row_start fu (0 : Int32) row_count bytes_n bytes_f r_18.1 r_18.2 cw_room + (let j_20 := L_X3_next_j_20 row_start fu (0 : Int32) row_count bytes_n bytes_f r_18.1 r_18.2 cw_room; 0)) + E := ⟨_, rfl⟩
      have hC : k + 0 + E2 ≤ Dt := by rw [hE2]; exact add40 hC
      have hg : (if r_1 ≤ (cw_size - r_1) then (0 : Int32) else (1 : Int32)) = j_17 := by rw [← hj_17]; rfl
      clear hj_17
      refine lv_icmp_ge (tgt := 65) hx hb dX3_next_58 (by decide) (fun c_16 => ?_) (fun c_16 => ?_)
      · rw [if_pos c_16] at hg
        refine lv_iconst (v := 0) hx hb dX3_next_65 (by decide) ?_
        rw [← hg] at hJ_j_17
        try rw [← hg] at hE2
        exact hJ_j_17 _ _ _ _ hP hD hS (lv_sub hl [1, 2, 3, 0] rfl) (by rw [Nat.add_assoc, ← hE2]; exact hC)
      · rw [if_neg c_16] at hg
        refine lv_iconst (v := 1) hx hb dX3_next_61 (by decide) ?_
        refine lv_goto (tgt := 66) hx hb dX3_next_62 (by decide) ?_
        rw [← hg] at hJ_j_17
        try rw [← hg] at hE2
        exact hJ_j_17 _ _ _ _ hP hD hS (lv_sub hl [1, 2, 3, 0] rfl) (by rw [Nat.add_assoc, ← hE2]; exact hC)
    · rw [if_neg c_15] at hg
      rw [if_neg c_15] at hC
      refine lv_aload_n hx hb dX3_next_40 rfl (lv_at hl 1 rfl) ?_
      refine lv_dup hx hb dX3_next_41 rfl ?_
      refine va_get (D := (dC, dI)) (ci := 2) (v := .int cw_low) (C := RX3) (T := TX3) (N := 5) hx hb hts iw_X3_next_X3 hown hK hP 5 rfl rfl 2 (by decide) (hts (.fieldLink RX3 19 "PlaneBlocks$CodedWriter" "low" "I") (by decide +kernel)) (fun _ h9 => h9) rfl dX3_next_42 ?_
      refine lv_iload_n hx hb dX3_next_45 rfl (lv_at hl 0 rfl) ?_
      refine lv_iadd hx hb dX3_next_46 ?_
      refine va_put (D := (dC, dI)) (ci := 2) (v := .int (cw_low + r_1)) (ty := .int) (C := RX3) (T := TX3) (N := 5) hx hb hts iw_X3_next_X3 tyX3 tyX3_ok nmX3 hown hK hP hD hS 5 rfl rfl 2 (by decide) (hts (.fieldLink RX3 19 "PlaneBlocks$CodedWriter" "low" "I") (by decide +kernel)) (fun _ h9 => h9) rfl (by decide +kernel) rfl rfl (Nat.le_of_ble_eq_true rfl) dX3_next_47 (fun H locs hP hD hS => ?_)
      have hP : va_P (dC, dI) vwCl (wd_row_bytes_ctx_states_likely_cw cI a_row a_bytes a_ctx a_states a_likely a_cw row_count row_start bytes_n bytes_f states_n states_f likely_n likely_f (cw_low + r_1) (cw_size - r_1) cw_room) H := hP
      have hD : va_D A (wd_row_bytes_ctx_states_likely_cw cI a_row a_bytes a_ctx a_states a_likely a_cw row_count row_start bytes_n bytes_f states_n states_f likely_n likely_f (cw_low + r_1) (cw_size - r_1) cw_room) := hD
      refine lv_iload_n hx hb dX3_next_50 rfl (lv_at hl 2 rfl) ?_
      subst hg
      refine W.widen (k := Dt) (n := Dt) (k0_le hC) (k0_le hC) ?_
      rw [← hQe]
      exact W.iret (v := p1) hx hb hr (fun t ht hW => ⟨⟨p1, a_bytes, rfl, rfl, by rw [ht]; exact hP, va_K.moved hW.alike hK, hD⟩, hS.F ht⟩) hS.2.2 dX3_next_51
abbrev rm_X3_end (Dt : Nat) : Room := { frames := 4, cells := Dt, slots := Dt, locals := 105 }
abbrev Q_X3_end (dC : Nat → ClassId) (dI : Nat → Nat → Nat) (cI cJ cZ : ClassId) (a_row : Nat) (a_bytes : Nat) (a_cw : Nat) (a_ctx : Nat) (A : Nat → Prop) (row_count : Int32) (row_start : Int32) (bytes_n : Nat) (bytes_f : Nat → Int32) (cw_low : Int32) (cw_size : Int32) (cw_room : Int32) (g : (Int32 × Nat × (Nat → Int32) × Int32 × Int32)) : Array Value → State → Outcome → State → Prop := va_Qv (fun _ : Nat => True) (fun u t => va_P (dC, dI) vwCl (wd_row_bytes_cw cI a_row u a_cw a_ctx g.1 row_start g.2.1 g.2.2.1 g.2.2.2.1 cw_size g.2.2.2.2) t.heap ∧ va_K (dC, dI) vwCl [(cI, .int), (cJ, .long), (cZ, .boolean)] t ∧ va_D A (wd_row_bytes_cw cI a_row u a_cw a_ctx g.1 row_start g.2.1 g.2.2.1 g.2.2.2.1 cw_size g.2.2.2.2)) A
theorem iw_X3_end_X3 : ∀ w ∈ u_ws RX3 TX3 5, w ∈ wsX3_end := by decide +kernel
set_option maxHeartbeats 4000000 in
set_option maxRecDepth 100000 in
theorem c_X3_end (l : Launch) (dC : Nat → ClassId) (dI : Nat → Nat → Nat) (cI cJ cZ : ClassId) (a_row : Nat) (a_bytes : Nat) (a_cw : Nat) (a_ctx : Nat) (sz : Nat) (row_count : Int32) (row_start : Int32) (bytes_n : Nat) (bytes_f : Nat → Int32) (cw_low : Int32) (cw_size : Int32) (cw_room : Int32) (hpre : P_X3_end row_count row_start bytes_n bytes_f cw_low cw_size cw_room) : Met l yX3_end wsX3_end (rm_X3_end (D_X3_end row_count row_start bytes_n bytes_f cw_low cw_size cw_room)) (va_Pc [.ref a_cw] (fun U => U.heap.size = sz ∧ va_P (dC, dI) vwCl (wd_row_bytes_cw cI a_row a_bytes a_cw a_ctx row_count row_start bytes_n bytes_f cw_low cw_size cw_room) U.heap ∧ va_K (dC, dI) vwCl [(cI, .int), (cJ, .long), (cZ, .boolean)] U ∧ va_D (fun _ => True) (wd_row_bytes_cw cI a_row a_bytes a_cw a_ctx row_count row_start bytes_n bytes_f cw_low cw_size cw_room))) (Q_X3_end dC dI cI cJ cZ a_row a_bytes a_cw a_ctx (va_A (wd_row_bytes_cw cI a_row a_bytes a_cw a_ctx row_count row_start bytes_n bytes_f cw_low cw_size cw_room) sz) row_count row_start bytes_n bytes_f cw_low cw_size cw_room (F_X3_end row_count row_start bytes_n bytes_f cw_low cw_size cw_room)) (D_X3_end row_count row_start bytes_n bytes_f cw_low cw_size cw_room) (D_X3_end row_count row_start bytes_n bytes_f cw_low cw_size cw_room) (va_A (wd_row_bytes_cw cI a_row a_bytes a_cw a_ctx row_count row_start bytes_n bytes_f cw_low cw_size cw_room) sz) := by
  refine Met.ofW (cc := cX3_end) (maxL := 3) (ret := none) (by decide) rfl ?_
  intro p e s m args below meth c s₁ B hml hv
  obtain ⟨rfl, hsz, hP, hK, hD0⟩ := hv
  have hx := B.exec
  have hb := B.bytes
  have hr := B.returns
  have hts := atoms_spec (ws := wsX3_end) B.pre
  have hown : s.vm.findClass RX3 = some m.cls := findClass_of_methodNamed B.named
  have hlocks := B.notSynchronized
  subst hsz
  have hD := hD0.self (sz := s.heap.size)
  generalize hAe : va_A (wd_row_bytes_cw cI a_row a_bytes a_cw a_ctx row_count row_start bytes_n bytes_f cw_low cw_size cw_room) s.heap.size = A at hD ⊢
  have hA : ∀ q : Nat, s.heap.size ≤ q → A q := fun q h => by rw [← hAe]; exact Or.inr h
  have hS : va_S A s.heap s.heap [] := va_S.rf
  obtain ⟨H, hH⟩ : ∃ z, z = s.heap := ⟨_, rfl⟩
  have hP : va_P (dC, dI) vwCl (wd_row_bytes_cw cI a_row a_bytes a_cw a_ctx row_count row_start bytes_n bytes_f cw_low cw_size cw_room) H := by rw [hH]; exact hP
  have hS : va_S A s.heap H [] := by rw [hH]; exact va_S.rf
  obtain ⟨g, hg⟩ : ∃ z, F_X3_end row_count row_start bytes_n bytes_f cw_low cw_size cw_room = z := ⟨_, rfl⟩
  rw [hg]
  obtain ⟨Dt, hDt⟩ : ∃ z, D_X3_end row_count row_start bytes_n bytes_f cw_low cw_size cw_room = z := ⟨_, rfl⟩
  rw [hDt]
  generalize hQe : MQ below (Q_X3_end dC dI cI cJ cZ a_row a_bytes a_cw a_ctx A row_count row_start bytes_n bytes_f cw_low cw_size cw_room g) _ s Dt Dt A = Q
  rw [← hH]
  clear hH
  have hl := lv_entry ([.ref a_cw]) (n := 3) (Nat.le_of_ble_eq_true rfl)
  rw [lg_entry_eq]
  generalize (lg_sl ([.ref a_cw]) ++ List.replicate (3 - (lg_sl ([.ref a_cw])).length) Slot.unset).toArray = ls at hl ⊢
  have hl : lv_has ls 3 [(0, .ref a_cw)] := hl
  unfold F_X3_end at hg
  unfold P_X3_end at hpre
  unfold D_X3_end at hDt
  obtain ⟨k, hk⟩ : ∃ z : Nat, z = 0 := ⟨_, rfl⟩
  obtain ⟨E, hE⟩ : ∃ z : Nat, z = 0 := ⟨_, rfl⟩
  have hC : k + (let j_2 := J_X3_end_j_2 cw_low cw_size; DL_X3_end_j_3 row_start fu (0 : Int32) row_count bytes_n bytes_f j_2 cw_room + (let j_3 := L_X3_end_j_3 row_start fu (0 : Int32) row_count bytes_n bytes_f j_2 cw_room; 0)) + E ≤ Dt := by rw [hk, hE, Nat.zero_add]; exact Nat.le_of_eq hDt
  refine W.widen (k := k) (n := k) (Nat.zero_le _) (Nat.zero_le _) ?_
  clear hk hE hDt
  refine lv_aload_n hx hb dX3_end_0 rfl (lv_at hl 0 rfl) ?_
  refine va_get (D := (dC, dI)) (ci := 2) (v := .int cw_low) (C := RX3) (T := TX3) (N := 5) hx hb hts iw_X3_end_X3 hown hK hP 2 rfl rfl 2 (by decide) (hts (.fieldLink RX3 19 "PlaneBlocks$CodedWriter" "low" "I") (by decide +kernel)) (fun _ h9 => h9) rfl dX3_end_1 ?_
  refine lv_ldc (v := 65535) hx hb hown (hts (.constant RX3 69 (65535)) (by decide +kernel)) dX3_end_4 ?_
  refine lv_ior hx hb dX3_end_6 ?_
  refine lv_istore_n (lv' := [(1, .int (cw_low ||| (65535 : Int32))), (0, .ref a_cw)]) hx hb dX3_end_7 rfl hl (by decide) rfl (fun ls hl => ?_)
  refine lv_aload_n hx hb dX3_end_8 rfl (lv_at hl 1 rfl) ?_
  refine lv_iload_n hx hb dX3_end_9 rfl (lv_at hl 0 rfl) ?_
  refine lv_aload_n hx hb dX3_end_10 rfl (lv_at hl 1 rfl) ?_
  refine va_get (D := (dC, dI)) (ci := 2) (v := .int cw_low) (C := RX3) (T := TX3) (N := 5) hx hb hts iw_X3_end_X3 hown hK hP 2 rfl rfl 2 (by decide) (hts (.fieldLink RX3 19 "PlaneBlocks$CodedWriter" "low" "I") (by decide +kernel)) (fun _ h9 => h9) rfl dX3_end_11 ?_
  refine lv_aload_n hx hb dX3_end_14 rfl (lv_at hl 1 rfl) ?_
  refine va_get (D := (dC, dI)) (ci := 2) (v := .int cw_size) (C := RX3) (T := TX3) (N := 5) hx hb hts iw_X3_end_X3 hown hK hP 2 rfl rfl 3 (by decide) (hts (.fieldLink RX3 24 "PlaneBlocks$CodedWriter" "size" "I") (by decide +kernel)) (fun _ h9 => h9) rfl dX3_end_15 ?_
  refine lv_iadd hx hb dX3_end_18 ?_
  obtain ⟨j_2, hj_2⟩ : ∃ z, J_X3_end_j_2 cw_low cw_size = z := ⟨_, rfl⟩
  have hg : (let j_3 := L_X3_end_j_3 row_start fu (0 : Int32) row_count bytes_n bytes_f j_2 cw_room; (j_3.2.1, j_3.2.2.1, j_3.2.2.2.1, j_3.2.2.2.2.1, j_3.2.2.2.2.2)) = g := by first | (rw [hj_2] at hg; exact hg) | (subst hj_2; exact hg)
  have hC : k + (DL_X3_end_j_3 row_start fu (0 : Int32) row_count bytes_n bytes_f j_2 cw_room + (let j_3 := L_X3_end_j_3 row_start fu (0 : Int32) row_count bytes_n bytes_f j_2 cw_room; 0)) + E ≤ Dt := by subst hj_2; exact hC
  have hJ_j_2 : ∀ (k : Nat) (H : Heap) (locs : List Loc) (ls : Array Slot), va_P (dC, dI) vwCl (wd_row_bytes_cw cI a_row a_bytes a_cw a_ctx row_count row_start bytes_n bytes_f cw_low cw_size cw_room) H → va_D A (wd_row_bytes_cw cI a_row a_bytes a_cw a_ctx row_count row_start bytes_n bytes_f cw_low cw_size cw_room) → va_S A s.heap H locs → lv_has ls 3 [(0, .ref a_cw), (1, .int (cw_low ||| (65535 : Int32)))] → k + (DL_X3_end_j_3 row_start fu (0 : Int32) row_count bytes_n bytes_f j_2 cw_room + (let j_3 := L_X3_end_j_3 row_start fu (0 : Int32) row_count bytes_n bytes_f j_2 cw_room; 0)) + E ≤ Dt → W p l e (headSpec wsX3_end (rm_X3_end Dt)).room s m ([.ref a_cw] : List Value).toArray below meth c H locs k k Q (F0 m 30 ls [.int j_2, .ref a_cw]) := by
    intro k H locs ls hP hD hS hl hC
    have hpre := hpre j_2 hj_2
    refine va_put (D := (dC, dI)) (ci := 2) (v := .int j_2) (ty := .int) (C := RX3) (T := TX3) (N := 5) hx hb hts iw_X3_end_X3 tyX3 tyX3_ok nmX3 hown hK hP hD hS 2 rfl rfl 2 (by decide) (hts (.fieldLink RX3 19 "PlaneBlocks$CodedWriter" "low" "I") (by decide +kernel)) (fun _ h9 => h9) rfl (by decide +kernel) rfl rfl (Nat.le_of_ble_eq_true rfl) dX3_end_30 (fun H locs hP hD hS => ?_)
    have hP : va_P (dC, dI) vwCl (wd_row_bytes_cw cI a_row a_bytes a_cw a_ctx row_count row_start bytes_n bytes_f j_2 cw_size cw_room) H := hP
    have hD : va_D A (wd_row_bytes_cw cI a_row a_bytes a_cw a_ctx row_count row_start bytes_n bytes_f j_2 cw_size cw_room) := hD
    refine lv_iconst (v := 0) hx hb dX3_end_33 (by decide) ?_
    refine lv_istore_n (lv' := [(2, .int (0 : Int32)), (0, .ref a_cw), (1, .int (cw_low ||| (65535 : Int32)))]) hx hb dX3_end_34 rfl hl (by decide) rfl (fun ls hl => ?_)
    obtain ⟨j_3, hj_3⟩ : ∃ z, L_X3_end_j_3 row_start fu (0 : Int32) row_count bytes_n bytes_f j_2 cw_room = z := ⟨_, rfl⟩
    have hg : (j_3.2.1, j_3.2.2.1, j_3.2.2.2.1, j_3.2.2.2.2.1, j_3.2.2.2.2.2) = g := by first | (rw [hj_3] at hg; exact hg) | (subst hj_3; exact hg)
    have hC : k + (DL_X3_end_j_3 row_start fu (0 : Int32) row_count bytes_n bytes_f j_2 cw_room + (0)) + E ≤ Dt := by subst hj_3; exact hC
    have hJ_j_3 : ∀ (u_bytes_j_3 : Nat) (k : Nat) (H : Heap) (locs : List Loc) (ls : Array Slot), va_P (dC, dI) vwCl (wd_row_bytes_cw cI a_row u_bytes_j_3 a_cw a_ctx j_3.2.1 row_start j_3.2.2.1 j_3.2.2.2.1 j_3.2.2.2.2.1 cw_size j_3.2.2.2.2.2) H → va_D A (wd_row_bytes_cw cI a_row u_bytes_j_3 a_cw a_ctx j_3.2.1 row_start j_3.2.2.1 j_3.2.2.2.1 j_3.2.2.2.2.1 cw_size j_3.2.2.2.2.2) → va_S A s.heap H locs → lv_has ls 3 [(0, .ref a_cw), (1, .int (cw_low ||| (65535 : Int32))), (2, .int j_3.1)] → k + (0) + E ≤ Dt → W p l e (headSpec wsX3_end (rm_X3_end Dt)).room s m ([.ref a_cw] : List Value).toArray below meth c H locs k k Q (F0 m 63 ls []) := by
      intro u_bytes_j_3 k H locs ls hP hD hS hl hC
      subst hg
      refine W.widen (k := Dt) (n := Dt) (k0_le hC) (k0_le hC) ?_
      rw [← hQe]
      exact W.vret hx hb hr (fun t ht hW => ⟨⟨u_bytes_j_3, rfl, trivial, by rw [ht]; exact hP, va_K.moved hW.alike hK, hD⟩, hS.F ht⟩) hS.2.2 dX3_end_63
    obtain ⟨E2, hE2⟩ : ∃ z : Nat, z = (0) + E := ⟨_, rfl⟩
    have hC : k + (DL_X3_end_j_3 row_start fu (0 : Int32) row_count bytes_n bytes_f j_2 cw_room) + E2 ≤ Dt := by rw [hE2]; exact add4 hC
    have hL_j_3 : ∀ (n : Nat) (v2_j_3 : Int32) (row_count_j_3 : Int32) (bytes_n_j_3 : Nat) (bytes_f_j_3 : Nat → Int32) (cw_low_j_3 : Int32) (cw_room_j_3 : Int32) (w_bytes_j_3 : Nat) (k : Nat) (H : Heap) (locs : List Loc) (ls : Array Slot), PL_X3_end_j_3 row_start n v2_j_3 row_count_j_3 bytes_n_j_3 bytes_f_j_3 cw_low_j_3 cw_room_j_3 → L_X3_end_j_3 row_start n v2_j_3 row_count_j_3 bytes_n_j_3 bytes_f_j_3 cw_low_j_3 cw_room_j_3 = j_3 → va_P (dC, dI) vwCl (wd_row_bytes_cw cI a_row w_bytes_j_3 a_cw a_ctx row_count_j_3 row_start bytes_n_j_3 bytes_f_j_3 cw_low_j_3 cw_size cw_room_j_3) H → va_D A (wd_row_bytes_cw cI a_row w_bytes_j_3 a_cw a_ctx row_count_j_3 row_start bytes_n_j_3 bytes_f_j_3 cw_low_j_3 cw_size cw_room_j_3) → va_S A s.heap H locs → lv_has ls 3 [(0, .ref a_cw), (1, .int (cw_low ||| (65535 : Int32))), (2, .int v2_j_3)] → k + (DL_X3_end_j_3 row_start n v2_j_3 row_count_j_3 bytes_n_j_3 bytes_f_j_3 cw_low_j_3 cw_room_j_3) + E2 ≤ Dt → W p l e (headSpec wsX3_end (rm_X3_end Dt)).room s m ([.ref a_cw] : List Value).toArray below meth c H locs k k Q (F0 m 35 ls []) := by
      intro n
      induction n with
      | zero => intro v2_j_3 row_count_j_3 bytes_n_j_3 bytes_f_j_3 cw_low_j_3 cw_room_j_3 w_bytes_j_3 k H locs ls hpre; exact absurd hpre id
      | succ n ih =>
        intro v2_j_3 row_count_j_3 bytes_n_j_3 bytes_f_j_3 cw_low_j_3 cw_room_j_3 w_bytes_j_3 k H locs ls hpre hg hP hD hS hl hC
        rw [PL_X3_end_j_3] at hpre
        rw [L_X3_end_j_3] at hg
        rw [DL_X3_end_j_3] at hC
        refine lv_iload_n hx hb dX3_end_35 rfl (lv_at hl 2 rfl) ?_
        refine lv_iconst (v := 2) hx hb dX3_end_36 (by decide) ?_
        refine lv_icmp_ge (tgt := 63) hx hb dX3_end_37 (by decide) (fun c_4 => ?_) (fun c_4 => ?_)
        · rw [if_pos c_4] at hg
          rw [if_pos c_4] at hC
          exact hJ_j_3 w_bytes_j_3 _ _ _ _ (by rw [← hg]; exact hP) (by rw [← hg]; exact hD) hS (by rw [← hg]; exact lv_sub hl [0, 1, 2] rfl) (by rw [Nat.add_assoc, ← hE2]; exact hC)
        · rw [if_neg c_4] at hg
          rw [if_neg c_4] at hC
          have hpre := hpre c_4
          refine lv_aload_n hx hb dX3_end_40 rfl (lv_at hl 0 rfl) ?_
          refine lv_dup hx hb dX3_end_41 rfl ?_
          refine va_get (D := (dC, dI)) (ci := 2) (v := .int cw_low_j_3) (C := RX3) (T := TX3) (N := 5) hx hb hts iw_X3_end_X3 hown hK hP 2 rfl rfl 2 (by decide) (hts (.fieldLink RX3 19 "PlaneBlocks$CodedWriter" "low" "I") (by decide +kernel)) (fun _ h9 => h9) rfl dX3_end_42 ?_
          refine lv_aload_n hx hb dX3_end_45 rfl (lv_at hl 0 rfl) ?_
          refine va_get (D := (dC, dI)) (ci := 2) (v := .int cw_room_j_3) (C := RX3) (T := TX3) (N := 5) hx hb hts iw_X3_end_X3 hown hK hP 2 rfl rfl 4 (by decide) (hts (.fieldLink RX3 27 "PlaneBlocks$CodedWriter" "room" "I") (by decide +kernel)) (fun _ h9 => h9) rfl dX3_end_46 ?_
          refine lv_ishl hx hb dX3_end_49 ?_
          refine va_put (D := (dC, dI)) (ci := 2) (v := .int (cw_low_j_3 <<< (cw_room_j_3 &&& 31))) (ty := .int) (C := RX3) (T := TX3) (N := 5) hx hb hts iw_X3_end_X3 tyX3 tyX3_ok nmX3 hown hK hP hD hS 2 rfl rfl 2 (by decide) (hts (.fieldLink RX3 19 "PlaneBlocks$CodedWriter" "low" "I") (by decide +kernel)) (fun _ h9 => h9) rfl (by decide +kernel) rfl rfl (Nat.le_of_ble_eq_true rfl) dX3_end_50 (fun H locs hP hD hS => ?_)
          have hP : va_P (dC, dI) vwCl (wd_row_bytes_cw cI a_row w_bytes_j_3 a_cw a_ctx row_count_j_3 row_start bytes_n_j_3 bytes_f_j_3 (cw_low_j_3 <<< (cw_room_j_3 &&& 31)) cw_size cw_room_j_3) H := hP
          have hD : va_D A (wd_row_bytes_cw cI a_row w_bytes_j_3 a_cw a_ctx row_count_j_3 row_start bytes_n_j_3 bytes_f_j_3 (cw_low_j_3 <<< (cw_room_j_3 &&& 31)) cw_size cw_room_j_3) := hD
          refine lv_aload_n hx hb dX3_end_53 rfl (lv_at hl 0 rfl) ?_
          have hPc := hP.sub (ws' := (wd_row_bytes_cw cI a_row w_bytes_j_3 a_cw a_ctx row_count_j_3 row_start bytes_n_j_3 bytes_f_j_3 (cw_low_j_3 <<< (cw_room_j_3 &&& 31)) cw_size cw_room_j_3)) [0, 1, 2] rfl
          have hDc := hD.sub (ws' := (wd_row_bytes_cw cI a_row w_bytes_j_3 a_cw a_ctx row_count_j_3 row_start bytes_n_j_3 bytes_f_j_3 (cw_low_j_3 <<< (cw_room_j_3 &&& 31)) cw_size cw_room_j_3)) [0, 1, 2] (by decide) rfl
          have hFc := va_free (wc := (wd_row_bytes_cw cI a_row w_bytes_j_3 a_cw a_ctx row_count_j_3 row_start bytes_n_j_3 bytes_f_j_3 (cw_low_j_3 <<< (cw_room_j_3 &&& 31)) cw_size cw_room_j_3)) hD hS hA [0, 1, 2] rfl
          refine va_callv (va_runV (As := []) (rest := []) ⟨hx, hb, hml, hown, hts⟩ (c_X3_byteOut l dC dI cI cJ cZ a_row w_bytes_j_3 a_cw a_ctx H.size row_count_j_3 row_start bytes_n_j_3 bytes_f_j_3 (cw_low_j_3 <<< (cw_room_j_3 &&& 31)) cw_size cw_room_j_3 hpre.1) (cwV 0 hts gX3_end_X3_byteOut rfl rfl rfl (by decide +kernel) ⟨Nat.le_of_ble_eq_true rfl, Nat.le_of_ble_eq_true rfl⟩) ⟨fun a U g mk q => by obtain ⟨q0, q1, qP, qK, qD⟩ := q; exact ⟨q0, q1, qP, va_K.moved (u := U) (U := U.calling g mk a) (Vm.Alike.refl U.vm) qK, qD⟩, va_recv hK hPc (ci := 2) (q0 := 2) rfl rfl, fun U hU hW => ⟨rfl, by rw [hU], by rw [hU]; exact hPc, va_K.moved hW.alike hK, hDc.weaken (fun _ _ _ _ => trivial)⟩⟩ rfl rfl hl.1 rfl (lv_room (Nat.le_of_ble_eq_true rfl)) dX3_end_54 ⟨kd_le hC, kd_le hC⟩) hS (fun q _ h => hFc q h) hFc (fun u t H1 locs ht hvm hw hB hz1 hk1 hS => ?_)
          obtain ⟨u_6, rfl⟩ : ∃ z, z = u := ⟨_, rfl⟩
          obtain ⟨hP1, hK1, hD1⟩ := hB
          rw [ht] at hP1
          obtain ⟨r_5, hr_5⟩ : ∃ z, F_X3_byteOut row_count_j_3 row_start bytes_n_j_3 bytes_f_j_3 (cw_low_j_3 <<< (cw_room_j_3 &&& 31)) = z := ⟨_, rfl⟩
          try rw [hr_5] at hw
          try rw [hr_5] at hP1
          try rw [hr_5] at hD1
          have hg : (L_X3_end_j_3 row_start n (v2_j_3 + (1 : Int32)) r_5.1 r_5.2.1 r_5.2.2.1 r_5.2.2.2.1 r_5.2.2.2.2) = j_3 := by first | (rw [hr_5] at hg; exact hg) | (subst hr_5; exact hg)
          obtain ⟨hP, hD⟩ := va_join (wr := []) (w1 := (wd_row_bytes_cw cI a_row u_6 a_cw a_ctx r_5.1 row_start r_5.2.1 r_5.2.2.1 r_5.2.2.2.1 cw_size r_5.2.2.2.2)) hP hD [0, 1, 2] [] rfl rfl (by decide) (by decide) hk1 hFc hP1 hD1
          have hP : va_P (dC, dI) vwCl (wd_row_bytes_cw cI a_row u_6 a_cw a_ctx r_5.1 row_start r_5.2.1 r_5.2.2.1 r_5.2.2.2.1 cw_size r_5.2.2.2.2) H1 := hP.sub [0, 1, 2] rfl
          have hD : va_D A (wd_row_bytes_cw cI a_row u_6 a_cw a_ctx r_5.1 row_start r_5.2.1 r_5.2.2.1 r_5.2.2.2.1 cw_size r_5.2.2.2.2) := hD.sub [0, 1, 2] (by decide) rfl
          generalize H1 = H at hP hS ⊢
          have hC : k + (D_X3_byteOut row_count_j_3 row_start bytes_n_j_3 bytes_f_j_3 (cw_low_j_3 <<< (cw_room_j_3 &&& 31)) + (DL_X3_end_j_3 row_start n (v2_j_3 + (1 : Int32)) r_5.1 r_5.2.1 r_5.2.2.1 r_5.2.2.2.1 r_5.2.2.2.2)) + E2 ≤ Dt := by subst hr_5; exact hC
          obtain ⟨k1, hk1⟩ : ∃ z, z = k + (D_X3_byteOut row_count_j_3 row_start bytes_n_j_3 bytes_f_j_3 (cw_low_j_3 <<< (cw_room_j_3 &&& 31))) := ⟨_, rfl⟩
          have hC : k1 + (DL_X3_end_j_3 row_start n (v2_j_3 + (1 : Int32)) r_5.1 r_5.2.1 r_5.2.2.1 r_5.2.2.2.1 r_5.2.2.2.2) + E2 ≤ Dt := by rw [hk1, Nat.add_assoc k]; exact hC
          refine W.widen (k := k1) (n := k1) (Nat.le_of_eq hk1.symm) (Nat.le_of_eq hk1.symm) ?_
          clear hk1
          generalize k1 = k at hC ⊢
          have hpre := hpre.2 r_5 hr_5
          refine lv_iinc (v := (v2_j_3 + (1 : Int32))) (lv' := [(2, .int (v2_j_3 + (1 : Int32))), (0, .ref a_cw), (1, .int (cw_low ||| (65535 : Int32)))]) hx hb dX3_end_57 hl (k := 2) rfl rfl (by decide) rfl (fun ls hl => ?_)
          refine lv_goto (tgt := 35) hx hb dX3_end_60 (by decide) ?_
          exact ih (v2_j_3 + (1 : Int32)) r_5.1 r_5.2.1 r_5.2.2.1 r_5.2.2.2.1 r_5.2.2.2.2 u_6 k _ _ _ hpre hg hP hD hS (lv_sub hl [1, 2, 0] rfl) hC
    exact hL_j_3 fu (0 : Int32) row_count bytes_n bytes_f j_2 cw_room a_bytes k _ _ _ hpre hj_3 hP hD hS (lv_sub hl [1, 2, 0] rfl) hC
  obtain ⟨E2, hE2⟩ : ∃ z : Nat, z = (DL_X3_end_j_3 row_start fu (0 : Int32) row_count bytes_n bytes_f j_2 cw_room + (let j_3 := L_X3_end_j_3 row_start fu (0 : Int32) row_count bytes_n bytes_f j_2 cw_room; 0)) + E := ⟨_, rfl⟩
  have hC : k + 0 + E2 ≤ Dt := by rw [hE2]; exact add40 hC
  have hg : (if (cw_low + cw_size) ≤ (cw_low ||| (65535 : Int32)) then ((cw_low ||| (65535 : Int32)) - (32768 : Int32)) else (cw_low ||| (65535 : Int32))) = j_2 := by rw [← hj_2]; rfl
  clear hj_2
  refine lv_icmp_ge (tgt := 26) hx hb dX3_end_19 (by decide) (fun c_1 => ?_) (fun c_1 => ?_)
  · rw [if_pos c_1] at hg
    refine lv_iload_n hx hb dX3_end_26 rfl (lv_at hl 0 rfl) ?_
    refine lv_ldc (v := 32768) hx hb hown (hts (.constant RX3 23 (32768)) (by decide +kernel)) dX3_end_27 ?_
    refine lv_isub hx hb dX3_end_29 ?_
    rw [← hg] at hJ_j_2
    try rw [← hg] at hE2
    exact hJ_j_2 _ _ _ _ hP hD hS (lv_sub hl [1, 0] rfl) (by rw [Nat.add_assoc, ← hE2]; exact hC)
  · rw [if_neg c_1] at hg
    refine lv_iload_n hx hb dX3_end_22 rfl (lv_at hl 0 rfl) ?_
    refine lv_goto (tgt := 30) hx hb dX3_end_23 (by decide) ?_
    rw [← hg] at hJ_j_2
    try rw [← hg] at hE2
    exact hJ_j_2 _ _ _ _ hP hD hS (lv_sub hl [1, 0] rfl) (by rw [Nat.add_assoc, ← hE2]; exact hC)
abbrev rm_X3_endPlainly (Dt : Nat) : Room := { frames := 4, cells := Dt, slots := Dt, locals := 105 }
abbrev Q_X3_endPlainly (dC : Nat → ClassId) (dI : Nat → Nat → Nat) (cI cJ cZ : ClassId) (a_row : Nat) (a_bytes : Nat) (a_cw : Nat) (a_ctx : Nat) (A : Nat → Prop) (row_count : Int32) (row_start : Int32) (bytes_n : Nat) (bytes_f : Nat → Int32) (cw_low : Int32) (cw_size : Int32) (cw_room : Int32) (g : (Int32 × Nat × (Nat → Int32) × Int32 × Int32)) : Array Value → State → Outcome → State → Prop := va_Qv (fun _ : Nat => True) (fun u t => va_P (dC, dI) vwCl (wd_row_bytes_cw cI a_row u a_cw a_ctx g.1 row_start g.2.1 g.2.2.1 g.2.2.2.1 cw_size g.2.2.2.2) t.heap ∧ va_K (dC, dI) vwCl [(cI, .int), (cJ, .long), (cZ, .boolean)] t ∧ va_D A (wd_row_bytes_cw cI a_row u a_cw a_ctx g.1 row_start g.2.1 g.2.2.1 g.2.2.2.1 cw_size g.2.2.2.2)) A
theorem iw_X3_endPlainly_X3 : ∀ w ∈ u_ws RX3 TX3 5, w ∈ wsX3_endPlainly := by decide +kernel
set_option maxHeartbeats 4000000 in
set_option maxRecDepth 100000 in
theorem c_X3_endPlainly (l : Launch) (dC : Nat → ClassId) (dI : Nat → Nat → Nat) (cI cJ cZ : ClassId) (a_row : Nat) (a_bytes : Nat) (a_cw : Nat) (a_ctx : Nat) (sz : Nat) (row_count : Int32) (row_start : Int32) (bytes_n : Nat) (bytes_f : Nat → Int32) (cw_low : Int32) (cw_size : Int32) (cw_room : Int32) (hpre : P_X3_endPlainly row_count row_start bytes_n bytes_f cw_low cw_room) : Met l yX3_endPlainly wsX3_endPlainly (rm_X3_endPlainly (D_X3_endPlainly row_count row_start bytes_n bytes_f cw_low cw_room)) (va_Pc [.ref a_cw] (fun U => U.heap.size = sz ∧ va_P (dC, dI) vwCl (wd_row_bytes_cw cI a_row a_bytes a_cw a_ctx row_count row_start bytes_n bytes_f cw_low cw_size cw_room) U.heap ∧ va_K (dC, dI) vwCl [(cI, .int), (cJ, .long), (cZ, .boolean)] U ∧ va_D (fun _ => True) (wd_row_bytes_cw cI a_row a_bytes a_cw a_ctx row_count row_start bytes_n bytes_f cw_low cw_size cw_room))) (Q_X3_endPlainly dC dI cI cJ cZ a_row a_bytes a_cw a_ctx (va_A (wd_row_bytes_cw cI a_row a_bytes a_cw a_ctx row_count row_start bytes_n bytes_f cw_low cw_size cw_room) sz) row_count row_start bytes_n bytes_f cw_low cw_size cw_room (F_X3_endPlainly row_count row_start bytes_n bytes_f cw_low cw_room)) (D_X3_endPlainly row_count row_start bytes_n bytes_f cw_low cw_room) (D_X3_endPlainly row_count row_start bytes_n bytes_f cw_low cw_room) (va_A (wd_row_bytes_cw cI a_row a_bytes a_cw a_ctx row_count row_start bytes_n bytes_f cw_low cw_size cw_room) sz) := by
  refine Met.ofW (cc := cX3_endPlainly) (maxL := 3) (ret := none) (by decide) rfl ?_
  intro p e s m args below meth c s₁ B hml hv
  obtain ⟨rfl, hsz, hP, hK, hD0⟩ := hv
  have hx := B.exec
  have hb := B.bytes
  have hr := B.returns
  have hts := atoms_spec (ws := wsX3_endPlainly) B.pre
  have hown : s.vm.findClass RX3 = some m.cls := findClass_of_methodNamed B.named
  have hlocks := B.notSynchronized
  subst hsz
  have hD := hD0.self (sz := s.heap.size)
  generalize hAe : va_A (wd_row_bytes_cw cI a_row a_bytes a_cw a_ctx row_count row_start bytes_n bytes_f cw_low cw_size cw_room) s.heap.size = A at hD ⊢
  have hA : ∀ q : Nat, s.heap.size ≤ q → A q := fun q h => by rw [← hAe]; exact Or.inr h
  have hS : va_S A s.heap s.heap [] := va_S.rf
  obtain ⟨H, hH⟩ : ∃ z, z = s.heap := ⟨_, rfl⟩
  have hP : va_P (dC, dI) vwCl (wd_row_bytes_cw cI a_row a_bytes a_cw a_ctx row_count row_start bytes_n bytes_f cw_low cw_size cw_room) H := by rw [hH]; exact hP
  have hS : va_S A s.heap H [] := by rw [hH]; exact va_S.rf
  obtain ⟨g, hg⟩ : ∃ z, F_X3_endPlainly row_count row_start bytes_n bytes_f cw_low cw_room = z := ⟨_, rfl⟩
  rw [hg]
  obtain ⟨Dt, hDt⟩ : ∃ z, D_X3_endPlainly row_count row_start bytes_n bytes_f cw_low cw_room = z := ⟨_, rfl⟩
  rw [hDt]
  generalize hQe : MQ below (Q_X3_endPlainly dC dI cI cJ cZ a_row a_bytes a_cw a_ctx A row_count row_start bytes_n bytes_f cw_low cw_size cw_room g) _ s Dt Dt A = Q
  rw [← hH]
  clear hH
  have hl := lv_entry ([.ref a_cw]) (n := 3) (Nat.le_of_ble_eq_true rfl)
  rw [lg_entry_eq]
  generalize (lg_sl ([.ref a_cw]) ++ List.replicate (3 - (lg_sl ([.ref a_cw])).length) Slot.unset).toArray = ls at hl ⊢
  have hl : lv_has ls 3 [(0, .ref a_cw)] := hl
  unfold F_X3_endPlainly at hg
  unfold P_X3_endPlainly at hpre
  unfold D_X3_endPlainly at hDt
  obtain ⟨k, hk⟩ : ∃ z : Nat, z = 0 := ⟨_, rfl⟩
  obtain ⟨E, hE⟩ : ∃ z : Nat, z = 0 := ⟨_, rfl⟩
  have hC : k + (DL_X3_endPlainly_j_1 row_start fu ((12 : Int32) - cw_room) (0 : Int32) row_count bytes_n bytes_f cw_low cw_room + (let j_1 := L_X3_endPlainly_j_1 row_start fu ((12 : Int32) - cw_room) (0 : Int32) row_count bytes_n bytes_f cw_low cw_room; 0)) + E ≤ Dt := by rw [hk, hE, Nat.zero_add]; exact Nat.le_of_eq hDt
  refine W.widen (k := k) (n := k) (Nat.zero_le _) (Nat.zero_le _) ?_
  clear hk hE hDt
  refine lv_bipush (v := 12) hx hb dX3_endPlainly_0 (by decide) ?_
  refine lv_aload_n hx hb dX3_endPlainly_2 rfl (lv_at hl 0 rfl) ?_
  refine va_get (D := (dC, dI)) (ci := 2) (v := .int cw_room) (C := RX3) (T := TX3) (N := 5) hx hb hts iw_X3_endPlainly_X3 hown hK hP 2 rfl rfl 4 (by decide) (hts (.fieldLink RX3 27 "PlaneBlocks$CodedWriter" "room" "I") (by decide +kernel)) (fun _ h9 => h9) rfl dX3_endPlainly_3 ?_
  refine lv_isub hx hb dX3_endPlainly_6 ?_
  refine lv_istore_n (lv' := [(1, .int ((12 : Int32) - cw_room)), (0, .ref a_cw)]) hx hb dX3_endPlainly_7 rfl hl (by decide) rfl (fun ls hl => ?_)
  refine lv_iconst (v := 0) hx hb dX3_endPlainly_8 (by decide) ?_
  refine lv_istore_n (lv' := [(2, .int (0 : Int32)), (1, .int ((12 : Int32) - cw_room)), (0, .ref a_cw)]) hx hb dX3_endPlainly_9 rfl hl (by decide) rfl (fun ls hl => ?_)
  obtain ⟨j_1, hj_1⟩ : ∃ z, L_X3_endPlainly_j_1 row_start fu ((12 : Int32) - cw_room) (0 : Int32) row_count bytes_n bytes_f cw_low cw_room = z := ⟨_, rfl⟩
  have hg : (j_1.2.2.1, j_1.2.2.2.1, j_1.2.2.2.2.1, j_1.2.2.2.2.2.1, j_1.2.2.2.2.2.2) = g := by first | (rw [hj_1] at hg; exact hg) | (subst hj_1; exact hg)
  have hC : k + (DL_X3_endPlainly_j_1 row_start fu ((12 : Int32) - cw_room) (0 : Int32) row_count bytes_n bytes_f cw_low cw_room + (0)) + E ≤ Dt := by subst hj_1; exact hC
  have hJ_j_1 : ∀ (u_bytes_j_1 : Nat) (k : Nat) (H : Heap) (locs : List Loc) (ls : Array Slot), va_P (dC, dI) vwCl (wd_row_bytes_cw cI a_row u_bytes_j_1 a_cw a_ctx j_1.2.2.1 row_start j_1.2.2.2.1 j_1.2.2.2.2.1 j_1.2.2.2.2.2.1 cw_size j_1.2.2.2.2.2.2) H → va_D A (wd_row_bytes_cw cI a_row u_bytes_j_1 a_cw a_ctx j_1.2.2.1 row_start j_1.2.2.2.1 j_1.2.2.2.2.1 j_1.2.2.2.2.2.1 cw_size j_1.2.2.2.2.2.2) → va_S A s.heap H locs → lv_has ls 3 [(0, .ref a_cw), (1, .int j_1.1), (2, .int j_1.2.1)] → k + (0) + E ≤ Dt → W p l e (headSpec wsX3_endPlainly (rm_X3_endPlainly Dt)).room s m ([.ref a_cw] : List Value).toArray below meth c H locs k k Q (F0 m 49 ls []) := by
    intro u_bytes_j_1 k H locs ls hP hD hS hl hC
    subst hg
    refine W.widen (k := Dt) (n := Dt) (k0_le hC) (k0_le hC) ?_
    rw [← hQe]
    exact W.vret hx hb hr (fun t ht hW => ⟨⟨u_bytes_j_1, rfl, trivial, by rw [ht]; exact hP, va_K.moved hW.alike hK, hD⟩, hS.F ht⟩) hS.2.2 dX3_endPlainly_49
  obtain ⟨E2, hE2⟩ : ∃ z : Nat, z = (0) + E := ⟨_, rfl⟩
  have hC : k + (DL_X3_endPlainly_j_1 row_start fu ((12 : Int32) - cw_room) (0 : Int32) row_count bytes_n bytes_f cw_low cw_room) + E2 ≤ Dt := by rw [hE2]; exact add4 hC
  have hL_j_1 : ∀ (n : Nat) (v1_j_1 : Int32) (v2_j_1 : Int32) (row_count_j_1 : Int32) (bytes_n_j_1 : Nat) (bytes_f_j_1 : Nat → Int32) (cw_low_j_1 : Int32) (cw_room_j_1 : Int32) (w_bytes_j_1 : Nat) (k : Nat) (H : Heap) (locs : List Loc) (ls : Array Slot), PL_X3_endPlainly_j_1 row_start n v1_j_1 v2_j_1 row_count_j_1 bytes_n_j_1 bytes_f_j_1 cw_low_j_1 cw_room_j_1 → L_X3_endPlainly_j_1 row_start n v1_j_1 v2_j_1 row_count_j_1 bytes_n_j_1 bytes_f_j_1 cw_low_j_1 cw_room_j_1 = j_1 → va_P (dC, dI) vwCl (wd_row_bytes_cw cI a_row w_bytes_j_1 a_cw a_ctx row_count_j_1 row_start bytes_n_j_1 bytes_f_j_1 cw_low_j_1 cw_size cw_room_j_1) H → va_D A (wd_row_bytes_cw cI a_row w_bytes_j_1 a_cw a_ctx row_count_j_1 row_start bytes_n_j_1 bytes_f_j_1 cw_low_j_1 cw_size cw_room_j_1) → va_S A s.heap H locs → lv_has ls 3 [(0, .ref a_cw), (1, .int v1_j_1), (2, .int v2_j_1)] → k + (DL_X3_endPlainly_j_1 row_start n v1_j_1 v2_j_1 row_count_j_1 bytes_n_j_1 bytes_f_j_1 cw_low_j_1 cw_room_j_1) + E2 ≤ Dt → W p l e (headSpec wsX3_endPlainly (rm_X3_endPlainly Dt)).room s m ([.ref a_cw] : List Value).toArray below meth c H locs k k Q (F0 m 10 ls []) := by
    intro n
    induction n with
    | zero => intro v1_j_1 v2_j_1 row_count_j_1 bytes_n_j_1 bytes_f_j_1 cw_low_j_1 cw_room_j_1 w_bytes_j_1 k H locs ls hpre; exact absurd hpre id
    | succ n ih =>
      intro v1_j_1 v2_j_1 row_count_j_1 bytes_n_j_1 bytes_f_j_1 cw_low_j_1 cw_room_j_1 w_bytes_j_1 k H locs ls hpre hg hP hD hS hl hC
      rw [PL_X3_endPlainly_j_1] at hpre
      rw [L_X3_endPlainly_j_1] at hg
      rw [DL_X3_endPlainly_j_1] at hC
      refine lv_iload_n hx hb dX3_endPlainly_10 rfl (lv_at hl 2 rfl) ?_
      refine lv_iconst (v := 2) hx hb dX3_endPlainly_11 (by decide) ?_
      refine lv_icmp_ge (tgt := 49) hx hb dX3_endPlainly_12 (by decide) (fun c_2 => ?_) (fun c_2 => ?_)
      · rw [if_pos c_2] at hg
        rw [if_pos c_2] at hC
        exact hJ_j_1 w_bytes_j_1 _ _ _ _ (by rw [← hg]; exact hP) (by rw [← hg]; exact hD) hS (by rw [← hg]; exact lv_sub hl [0, 1, 2] rfl) (by rw [Nat.add_assoc, ← hE2]; exact hC)
      · rw [if_neg c_2] at hg
        rw [if_neg c_2] at hC
        have hpre := hpre c_2
        refine lv_iload_n hx hb dX3_endPlainly_15 rfl (lv_at hl 1 rfl) ?_
        refine lv_if_le (tgt := 49) hx hb dX3_endPlainly_16 (by decide) (fun c_3 => ?_) (fun c_3 => ?_)
        · rw [if_pos c_3] at hg
          rw [if_pos c_3] at hC
          exact hJ_j_1 w_bytes_j_1 _ _ _ _ (by rw [← hg]; exact hP) (by rw [← hg]; exact hD) hS (by rw [← hg]; exact lv_sub hl [0, 1, 2] rfl) (by rw [Nat.add_assoc, ← hE2]; exact hC)
        · rw [if_neg c_3] at hg
          rw [if_neg c_3] at hC
          have hpre := hpre c_3
          refine lv_aload_n hx hb dX3_endPlainly_19 rfl (lv_at hl 0 rfl) ?_
          refine lv_dup hx hb dX3_endPlainly_20 rfl ?_
          refine va_get (D := (dC, dI)) (ci := 2) (v := .int cw_low_j_1) (C := RX3) (T := TX3) (N := 5) hx hb hts iw_X3_endPlainly_X3 hown hK hP 2 rfl rfl 2 (by decide) (hts (.fieldLink RX3 19 "PlaneBlocks$CodedWriter" "low" "I") (by decide +kernel)) (fun _ h9 => h9) rfl dX3_endPlainly_21 ?_
          refine lv_aload_n hx hb dX3_endPlainly_24 rfl (lv_at hl 0 rfl) ?_
          refine va_get (D := (dC, dI)) (ci := 2) (v := .int cw_room_j_1) (C := RX3) (T := TX3) (N := 5) hx hb hts iw_X3_endPlainly_X3 hown hK hP 2 rfl rfl 4 (by decide) (hts (.fieldLink RX3 27 "PlaneBlocks$CodedWriter" "room" "I") (by decide +kernel)) (fun _ h9 => h9) rfl dX3_endPlainly_25 ?_
          refine lv_ishl hx hb dX3_endPlainly_28 ?_
          refine va_put (D := (dC, dI)) (ci := 2) (v := .int (cw_low_j_1 <<< (cw_room_j_1 &&& 31))) (ty := .int) (C := RX3) (T := TX3) (N := 5) hx hb hts iw_X3_endPlainly_X3 tyX3 tyX3_ok nmX3 hown hK hP hD hS 2 rfl rfl 2 (by decide) (hts (.fieldLink RX3 19 "PlaneBlocks$CodedWriter" "low" "I") (by decide +kernel)) (fun _ h9 => h9) rfl (by decide +kernel) rfl rfl (Nat.le_of_ble_eq_true rfl) dX3_endPlainly_29 (fun H locs hP hD hS => ?_)
          have hP : va_P (dC, dI) vwCl (wd_row_bytes_cw cI a_row w_bytes_j_1 a_cw a_ctx row_count_j_1 row_start bytes_n_j_1 bytes_f_j_1 (cw_low_j_1 <<< (cw_room_j_1 &&& 31)) cw_size cw_room_j_1) H := hP
          have hD : va_D A (wd_row_bytes_cw cI a_row w_bytes_j_1 a_cw a_ctx row_count_j_1 row_start bytes_n_j_1 bytes_f_j_1 (cw_low_j_1 <<< (cw_room_j_1 &&& 31)) cw_size cw_room_j_1) := hD
          refine lv_aload_n hx hb dX3_endPlainly_32 rfl (lv_at hl 0 rfl) ?_
          have hPc := hP.sub (ws' := (wd_row_bytes_cw cI a_row w_bytes_j_1 a_cw a_ctx row_count_j_1 row_start bytes_n_j_1 bytes_f_j_1 (cw_low_j_1 <<< (cw_room_j_1 &&& 31)) cw_size cw_room_j_1)) [0, 1, 2] rfl
          have hDc := hD.sub (ws' := (wd_row_bytes_cw cI a_row w_bytes_j_1 a_cw a_ctx row_count_j_1 row_start bytes_n_j_1 bytes_f_j_1 (cw_low_j_1 <<< (cw_room_j_1 &&& 31)) cw_size cw_room_j_1)) [0, 1, 2] (by decide) rfl
          have hFc := va_free (wc := (wd_row_bytes_cw cI a_row w_bytes_j_1 a_cw a_ctx row_count_j_1 row_start bytes_n_j_1 bytes_f_j_1 (cw_low_j_1 <<< (cw_room_j_1 &&& 31)) cw_size cw_room_j_1)) hD hS hA [0, 1, 2] rfl
          refine va_callv (va_runV (As := []) (rest := []) ⟨hx, hb, hml, hown, hts⟩ (c_X3_byteOut l dC dI cI cJ cZ a_row w_bytes_j_1 a_cw a_ctx H.size row_count_j_1 row_start bytes_n_j_1 bytes_f_j_1 (cw_low_j_1 <<< (cw_room_j_1 &&& 31)) cw_size cw_room_j_1 hpre.1) (cwV 0 hts gX3_endPlainly_X3_byteOut rfl rfl rfl (by decide +kernel) ⟨Nat.le_of_ble_eq_true rfl, Nat.le_of_ble_eq_true rfl⟩) ⟨fun a U g mk q => by obtain ⟨q0, q1, qP, qK, qD⟩ := q; exact ⟨q0, q1, qP, va_K.moved (u := U) (U := U.calling g mk a) (Vm.Alike.refl U.vm) qK, qD⟩, va_recv hK hPc (ci := 2) (q0 := 2) rfl rfl, fun U hU hW => ⟨rfl, by rw [hU], by rw [hU]; exact hPc, va_K.moved hW.alike hK, hDc.weaken (fun _ _ _ _ => trivial)⟩⟩ rfl rfl hl.1 rfl (lv_room (Nat.le_of_ble_eq_true rfl)) dX3_endPlainly_33 ⟨kd_le hC, kd_le hC⟩) hS (fun q _ h => hFc q h) hFc (fun u t H1 locs ht hvm hw hB hz1 hk1 hS => ?_)
          obtain ⟨u_5, rfl⟩ : ∃ z, z = u := ⟨_, rfl⟩
          obtain ⟨hP1, hK1, hD1⟩ := hB
          rw [ht] at hP1
          obtain ⟨r_4, hr_4⟩ : ∃ z, F_X3_byteOut row_count_j_1 row_start bytes_n_j_1 bytes_f_j_1 (cw_low_j_1 <<< (cw_room_j_1 &&& 31)) = z := ⟨_, rfl⟩
          try rw [hr_4] at hw
          try rw [hr_4] at hP1
          try rw [hr_4] at hD1
          have hg : (L_X3_endPlainly_j_1 row_start n (v1_j_1 - r_4.2.2.2.2) (v2_j_1 + (1 : Int32)) r_4.1 r_4.2.1 r_4.2.2.1 r_4.2.2.2.1 r_4.2.2.2.2) = j_1 := by first | (rw [hr_4] at hg; exact hg) | (subst hr_4; exact hg)
          obtain ⟨hP, hD⟩ := va_join (wr := []) (w1 := (wd_row_bytes_cw cI a_row u_5 a_cw a_ctx r_4.1 row_start r_4.2.1 r_4.2.2.1 r_4.2.2.2.1 cw_size r_4.2.2.2.2)) hP hD [0, 1, 2] [] rfl rfl (by decide) (by decide) hk1 hFc hP1 hD1
          have hP : va_P (dC, dI) vwCl (wd_row_bytes_cw cI a_row u_5 a_cw a_ctx r_4.1 row_start r_4.2.1 r_4.2.2.1 r_4.2.2.2.1 cw_size r_4.2.2.2.2) H1 := hP.sub [0, 1, 2] rfl
          have hD : va_D A (wd_row_bytes_cw cI a_row u_5 a_cw a_ctx r_4.1 row_start r_4.2.1 r_4.2.2.1 r_4.2.2.2.1 cw_size r_4.2.2.2.2) := hD.sub [0, 1, 2] (by decide) rfl
          generalize H1 = H at hP hS ⊢
          have hC : k + (D_X3_byteOut row_count_j_1 row_start bytes_n_j_1 bytes_f_j_1 (cw_low_j_1 <<< (cw_room_j_1 &&& 31)) + (DL_X3_endPlainly_j_1 row_start n (v1_j_1 - r_4.2.2.2.2) (v2_j_1 + (1 : Int32)) r_4.1 r_4.2.1 r_4.2.2.1 r_4.2.2.2.1 r_4.2.2.2.2)) + E2 ≤ Dt := by subst hr_4; exact hC
          obtain ⟨k1, hk1⟩ : ∃ z, z = k + (D_X3_byteOut row_count_j_1 row_start bytes_n_j_1 bytes_f_j_1 (cw_low_j_1 <<< (cw_room_j_1 &&& 31))) := ⟨_, rfl⟩
          have hC : k1 + (DL_X3_endPlainly_j_1 row_start n (v1_j_1 - r_4.2.2.2.2) (v2_j_1 + (1 : Int32)) r_4.1 r_4.2.1 r_4.2.2.1 r_4.2.2.2.1 r_4.2.2.2.2) + E2 ≤ Dt := by rw [hk1, Nat.add_assoc k]; exact hC
          refine W.widen (k := k1) (n := k1) (Nat.le_of_eq hk1.symm) (Nat.le_of_eq hk1.symm) ?_
          clear hk1
          generalize k1 = k at hC ⊢
          have hpre := hpre.2 r_4 hr_4
          refine lv_iload_n hx hb dX3_endPlainly_36 rfl (lv_at hl 1 rfl) ?_
          refine lv_aload_n hx hb dX3_endPlainly_37 rfl (lv_at hl 0 rfl) ?_
          refine va_get (D := (dC, dI)) (ci := 2) (v := .int r_4.2.2.2.2) (C := RX3) (T := TX3) (N := 5) hx hb hts iw_X3_endPlainly_X3 hown hK hP 2 rfl rfl 4 (by decide) (hts (.fieldLink RX3 27 "PlaneBlocks$CodedWriter" "room" "I") (by decide +kernel)) (fun _ h9 => h9) rfl dX3_endPlainly_38 ?_
          refine lv_isub hx hb dX3_endPlainly_41 ?_
          refine lv_istore_n (lv' := [(1, .int (v1_j_1 - r_4.2.2.2.2)), (0, .ref a_cw), (2, .int v2_j_1)]) hx hb dX3_endPlainly_42 rfl hl (by decide) rfl (fun ls hl => ?_)
          refine lv_iinc (v := (v2_j_1 + (1 : Int32))) (lv' := [(2, .int (v2_j_1 + (1 : Int32))), (1, .int (v1_j_1 - r_4.2.2.2.2)), (0, .ref a_cw)]) hx hb dX3_endPlainly_43 hl (k := 2) rfl rfl (by decide) rfl (fun ls hl => ?_)
          refine lv_goto (tgt := 10) hx hb dX3_endPlainly_46 (by decide) ?_
          exact ih (v1_j_1 - r_4.2.2.2.2) (v2_j_1 + (1 : Int32)) r_4.1 r_4.2.1 r_4.2.2.1 r_4.2.2.2.1 r_4.2.2.2.2 u_5 k _ _ _ hpre hg hP hD hS (lv_sub hl [2, 1, 0] rfl) hC
  exact hL_j_1 fu ((12 : Int32) - cw_room) (0 : Int32) row_count bytes_n bytes_f cw_low cw_room a_bytes k _ _ _ hpre hj_1 hP hD hS (lv_sub hl [2, 1, 0] rfl) hC

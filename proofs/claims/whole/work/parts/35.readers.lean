abbrev wd_rr (a_rr : Nat) (a_row : Nat) (rr_place : Int32) (rr_end : Int32) (rr_current : Int32) (rr_left : Int32) : va_W := [(a_rr, .inr (6, [.ref a_row, .int rr_place, .int rr_end, .int rr_current, .int rr_left]))]
abbrev rm_X7_open : Room := { frames := 0, cells := 0, slots := 0, locals := 0 }
abbrev Q_X7_open (dC : Nat → ClassId) (dI : Nat → Nat → Nat) (cI cJ cZ : ClassId) (a_rr : Nat) (a_row : Nat) (A : Nat → Prop) (rr_place : Int32) (rr_end : Int32) (rr_current : Int32) (rr_left : Int32) (g : (Int32 × Int32 × Int32 × Int32)) : Array Value → State → Outcome → State → Prop := va_Qv (fun _ : Unit => True) (fun u t => va_P (dC, dI) vwCl (wd_rr a_rr a_row g.1 g.2.1 g.2.2.1 g.2.2.2) t.heap ∧ va_K (dC, dI) vwCl [(cI, .int), (cJ, .long), (cZ, .boolean)] t ∧ va_D A (wd_rr a_rr a_row g.1 g.2.1 g.2.2.1 g.2.2.2)) A
theorem iw_X7_open_X7 : ∀ w ∈ u_ws RX7 TX7 5, w ∈ wsX7_open := by decide +kernel
set_option maxHeartbeats 4000000 in
set_option maxRecDepth 100000 in
theorem c_X7_open (l : Launch) (dC : Nat → ClassId) (dI : Nat → Nat → Nat) (cI cJ cZ : ClassId) (a_rr : Nat) (a_row : Nat) (sz : Nat) (rr_place : Int32) (rr_end : Int32) (rr_current : Int32) (rr_left : Int32) (p1 : Int32) (p2 : Int32) : Met l yX7_open wsX7_open rm_X7_open (va_Pc [.ref a_rr, .int p1, .int p2] (fun U => U.heap.size = sz ∧ va_P (dC, dI) vwCl (wd_rr a_rr a_row rr_place rr_end rr_current rr_left) U.heap ∧ va_K (dC, dI) vwCl [(cI, .int), (cJ, .long), (cZ, .boolean)] U ∧ va_D (fun _ => True) (wd_rr a_rr a_row rr_place rr_end rr_current rr_left))) (Q_X7_open dC dI cI cJ cZ a_rr a_row (va_A (wd_rr a_rr a_row rr_place rr_end rr_current rr_left) sz) rr_place rr_end rr_current rr_left (F_X7_open p1 p2)) 0 0 (va_A (wd_rr a_rr a_row rr_place rr_end rr_current rr_left) sz) := by
  refine Met.ofW (cc := cX7_open) (maxL := 3) (ret := none) (by decide) rfl ?_
  intro p e s m args below meth c s₁ B hml hv
  obtain ⟨rfl, hsz, hP, hK, hD0⟩ := hv
  have hx := B.exec
  have hb := B.bytes
  have hr := B.returns
  have hts := atoms_spec (ws := wsX7_open) B.pre
  have hown : s.vm.findClass RX7 = some m.cls := findClass_of_methodNamed B.named
  have hlocks := B.notSynchronized
  subst hsz
  have hD := hD0.self (sz := s.heap.size)
  generalize hAe : va_A (wd_rr a_rr a_row rr_place rr_end rr_current rr_left) s.heap.size = A at hD ⊢
  have hA : ∀ q : Nat, s.heap.size ≤ q → A q := fun q h => by rw [← hAe]; exact Or.inr h
  have hS : va_S A s.heap s.heap [] := va_S.rf
  obtain ⟨H, hH⟩ : ∃ z, z = s.heap := ⟨_, rfl⟩
  have hP : va_P (dC, dI) vwCl (wd_rr a_rr a_row rr_place rr_end rr_current rr_left) H := by rw [hH]; exact hP
  have hS : va_S A s.heap H [] := by rw [hH]; exact va_S.rf
  obtain ⟨g, hg⟩ : ∃ z, F_X7_open p1 p2 = z := ⟨_, rfl⟩
  rw [hg]
  generalize hQe : MQ below (Q_X7_open dC dI cI cJ cZ a_rr a_row A rr_place rr_end rr_current rr_left g) _ s 0 0 A = Q
  rw [← hH]
  clear hH
  have hl := lv_entry ([.ref a_rr, .int p1, .int p2]) (n := 3) (Nat.le_of_ble_eq_true rfl)
  rw [lg_entry_eq]
  generalize (lg_sl ([.ref a_rr, .int p1, .int p2]) ++ List.replicate (3 - (lg_sl ([.ref a_rr, .int p1, .int p2])).length) Slot.unset).toArray = ls at hl ⊢
  have hl : lv_has ls 3 [(0, .ref a_rr), (1, .int p1), (2, .int p2)] := hl
  unfold F_X7_open at hg
  refine lv_aload_n hx hb dX7_open_0 rfl (lv_at hl 0 rfl) ?_
  refine lv_iload_n hx hb dX7_open_1 rfl (lv_at hl 1 rfl) ?_
  refine va_put (D := (dC, dI)) (ci := 6) (v := .int p1) (ty := .int) (C := RX7) (T := TX7) (N := 5) hx hb hts iw_X7_open_X7 tyX7 tyX7_ok nmX7 hown hK hP hD hS 0 rfl rfl 1 (by decide) (hts (.fieldLink RX7 15 "PlaneBlocks$RawReader" "place" "I") (by decide +kernel)) (fun _ h9 => h9) rfl (by decide +kernel) rfl rfl (Nat.le_of_ble_eq_true rfl) dX7_open_2 (fun H locs hP hD hS => ?_)
  have hP : va_P (dC, dI) vwCl (wd_rr a_rr a_row p1 rr_end rr_current rr_left) H := hP
  have hD : va_D A (wd_rr a_rr a_row p1 rr_end rr_current rr_left) := hD
  refine lv_aload_n hx hb dX7_open_5 rfl (lv_at hl 0 rfl) ?_
  refine lv_iload_n hx hb dX7_open_6 rfl (lv_at hl 2 rfl) ?_
  refine va_put (D := (dC, dI)) (ci := 6) (v := .int p2) (ty := .int) (C := RX7) (T := TX7) (N := 5) hx hb hts iw_X7_open_X7 tyX7 tyX7_ok nmX7 hown hK hP hD hS 0 rfl rfl 2 (by decide) (hts (.fieldLink RX7 19 "PlaneBlocks$RawReader" "end" "I") (by decide +kernel)) (fun _ h9 => h9) rfl (by decide +kernel) rfl rfl (Nat.le_of_ble_eq_true rfl) dX7_open_7 (fun H locs hP hD hS => ?_)
  have hP : va_P (dC, dI) vwCl (wd_rr a_rr a_row p1 p2 rr_current rr_left) H := hP
  have hD : va_D A (wd_rr a_rr a_row p1 p2 rr_current rr_left) := hD
  refine lv_aload_n hx hb dX7_open_10 rfl (lv_at hl 0 rfl) ?_
  refine lv_iconst (v := 0) hx hb dX7_open_11 (by decide) ?_
  refine va_put (D := (dC, dI)) (ci := 6) (v := .int (0 : Int32)) (ty := .int) (C := RX7) (T := TX7) (N := 5) hx hb hts iw_X7_open_X7 tyX7 tyX7_ok nmX7 hown hK hP hD hS 0 rfl rfl 3 (by decide) (hts (.fieldLink RX7 22 "PlaneBlocks$RawReader" "current" "I") (by decide +kernel)) (fun _ h9 => h9) rfl (by decide +kernel) rfl rfl (Nat.le_of_ble_eq_true rfl) dX7_open_12 (fun H locs hP hD hS => ?_)
  have hP : va_P (dC, dI) vwCl (wd_rr a_rr a_row p1 p2 (0 : Int32) rr_left) H := hP
  have hD : va_D A (wd_rr a_rr a_row p1 p2 (0 : Int32) rr_left) := hD
  refine lv_aload_n hx hb dX7_open_15 rfl (lv_at hl 0 rfl) ?_
  refine lv_iconst (v := 0) hx hb dX7_open_16 (by decide) ?_
  refine va_put (D := (dC, dI)) (ci := 6) (v := .int (0 : Int32)) (ty := .int) (C := RX7) (T := TX7) (N := 5) hx hb hts iw_X7_open_X7 tyX7 tyX7_ok nmX7 hown hK hP hD hS 0 rfl rfl 4 (by decide) (hts (.fieldLink RX7 25 "PlaneBlocks$RawReader" "left" "I") (by decide +kernel)) (fun _ h9 => h9) rfl (by decide +kernel) rfl rfl (Nat.le_of_ble_eq_true rfl) dX7_open_17 (fun H locs hP hD hS => ?_)
  have hP : va_P (dC, dI) vwCl (wd_rr a_rr a_row p1 p2 (0 : Int32) (0 : Int32)) H := hP
  have hD : va_D A (wd_rr a_rr a_row p1 p2 (0 : Int32) (0 : Int32)) := hD
  subst hg
  rw [← hQe]
  exact W.vret hx hb hr (fun t ht hW => ⟨⟨(), rfl, trivial, by rw [ht]; exact hP, va_K.moved hW.alike hK, hD⟩, hS.F ht⟩) hS.2.2 dX7_open_20
abbrev wd_row_bytes_rr (cI : ClassId) (a_row : Nat) (a_bytes : Nat) (a_rr : Nat) (row_count : Int32) (row_start : Int32) (bytes_n : Nat) (bytes_f : Nat → Int32) (rr_place : Int32) (rr_end : Int32) (rr_current : Int32) (rr_left : Int32) : va_W := [(a_row, .inr (0, [.ref a_bytes, .int row_count, .int row_start])), (a_bytes, .inl (cI, bytes_n, .inl bytes_f)), (a_rr, .inr (6, [.ref a_row, .int rr_place, .int rr_end, .int rr_current, .int rr_left]))]
abbrev rm_X7_next : Room := { frames := 1, cells := 0, slots := 0, locals := 22 }
abbrev Q_X7_next (dC : Nat → ClassId) (dI : Nat → Nat → Nat) (cI cJ cZ : ClassId) (a_row : Nat) (a_bytes : Nat) (a_rr : Nat) (A : Nat → Prop) (row_count : Int32) (row_start : Int32) (bytes_n : Nat) (bytes_f : Nat → Int32) (rr_place : Int32) (rr_end : Int32) (rr_current : Int32) (rr_left : Int32) (g : (Int32 × Int32 × Int32 × Int32)) : Array Value → State → Outcome → State → Prop := va_Qi (fun (r : Int32) (_ : Unit) => r = g.1) (fun u t => va_P (dC, dI) vwCl (wd_row_bytes_rr cI a_row a_bytes a_rr row_count row_start bytes_n bytes_f g.2.1 rr_end g.2.2.1 g.2.2.2) t.heap ∧ va_K (dC, dI) vwCl [(cI, .int), (cJ, .long), (cZ, .boolean)] t ∧ va_D A (wd_row_bytes_rr cI a_row a_bytes a_rr row_count row_start bytes_n bytes_f g.2.1 rr_end g.2.2.1 g.2.2.2)) A
theorem iw_X7_next_X7 : ∀ w ∈ u_ws RX7 TX7 5, w ∈ wsX7_next := by decide +kernel
set_option maxHeartbeats 4000000 in
set_option maxRecDepth 100000 in
theorem c_X7_next (l : Launch) (dC : Nat → ClassId) (dI : Nat → Nat → Nat) (cI cJ cZ : ClassId) (a_row : Nat) (a_bytes : Nat) (a_rr : Nat) (sz : Nat) (row_count : Int32) (row_start : Int32) (bytes_n : Nat) (bytes_f : Nat → Int32) (rr_place : Int32) (rr_end : Int32) (rr_current : Int32) (rr_left : Int32) (p1 : Int32) (p2 : Int32) (hpre : P_X7_next row_count bytes_n rr_place rr_end rr_current rr_left) : Met l yX7_next wsX7_next rm_X7_next (va_Pc [.ref a_rr, .int p1, .int p2] (fun U => U.heap.size = sz ∧ va_P (dC, dI) vwCl (wd_row_bytes_rr cI a_row a_bytes a_rr row_count row_start bytes_n bytes_f rr_place rr_end rr_current rr_left) U.heap ∧ va_K (dC, dI) vwCl [(cI, .int), (cJ, .long), (cZ, .boolean)] U ∧ va_D (fun _ => True) (wd_row_bytes_rr cI a_row a_bytes a_rr row_count row_start bytes_n bytes_f rr_place rr_end rr_current rr_left))) (Q_X7_next dC dI cI cJ cZ a_row a_bytes a_rr (va_A (wd_row_bytes_rr cI a_row a_bytes a_rr row_count row_start bytes_n bytes_f rr_place rr_end rr_current rr_left) sz) row_count row_start bytes_n bytes_f rr_place rr_end rr_current rr_left (F_X7_next row_count bytes_f rr_place rr_end rr_current rr_left)) 0 0 (va_A (wd_row_bytes_rr cI a_row a_bytes a_rr row_count row_start bytes_n bytes_f rr_place rr_end rr_current rr_left) sz) := by
  refine Met.ofW (cc := cX7_next) (maxL := 3) (ret := (some .int)) (by decide) rfl ?_
  intro p e s m args below meth c s₁ B hml hv
  obtain ⟨rfl, hsz, hP, hK, hD0⟩ := hv
  have hx := B.exec
  have hb := B.bytes
  have hr := B.returns
  have hts := atoms_spec (ws := wsX7_next) B.pre
  have hown : s.vm.findClass RX7 = some m.cls := findClass_of_methodNamed B.named
  have hlocks := B.notSynchronized
  subst hsz
  have hD := hD0.self (sz := s.heap.size)
  generalize hAe : va_A (wd_row_bytes_rr cI a_row a_bytes a_rr row_count row_start bytes_n bytes_f rr_place rr_end rr_current rr_left) s.heap.size = A at hD ⊢
  have hA : ∀ q : Nat, s.heap.size ≤ q → A q := fun q h => by rw [← hAe]; exact Or.inr h
  have hS : va_S A s.heap s.heap [] := va_S.rf
  obtain ⟨H, hH⟩ : ∃ z, z = s.heap := ⟨_, rfl⟩
  have hP : va_P (dC, dI) vwCl (wd_row_bytes_rr cI a_row a_bytes a_rr row_count row_start bytes_n bytes_f rr_place rr_end rr_current rr_left) H := by rw [hH]; exact hP
  have hS : va_S A s.heap H [] := by rw [hH]; exact va_S.rf
  obtain ⟨g, hg⟩ : ∃ z, F_X7_next row_count bytes_f rr_place rr_end rr_current rr_left = z := ⟨_, rfl⟩
  rw [hg]
  generalize hQe : MQ below (Q_X7_next dC dI cI cJ cZ a_row a_bytes a_rr A row_count row_start bytes_n bytes_f rr_place rr_end rr_current rr_left g) _ s 0 0 A = Q
  rw [← hH]
  clear hH
  have hl := lv_entry ([.ref a_rr, .int p1, .int p2]) (n := 3) (Nat.le_of_ble_eq_true rfl)
  rw [lg_entry_eq]
  generalize (lg_sl ([.ref a_rr, .int p1, .int p2]) ++ List.replicate (3 - (lg_sl ([.ref a_rr, .int p1, .int p2])).length) Slot.unset).toArray = ls at hl ⊢
  have hl : lv_has ls 3 [(0, .ref a_rr), (1, .int p1), (2, .int p2)] := hl
  unfold F_X7_next at hg
  unfold P_X7_next at hpre
  refine lv_aload_n hx hb dX7_next_0 rfl (lv_at hl 0 rfl) ?_
  refine va_get (D := (dC, dI)) (ci := 6) (v := .int rr_left) (C := RX7) (T := TX7) (N := 5) hx hb hts iw_X7_next_X7 hown hK hP 2 rfl rfl 4 (by decide) (hts (.fieldLink RX7 25 "PlaneBlocks$RawReader" "left" "I") (by decide +kernel)) (fun _ h9 => h9) rfl dX7_next_1 ?_
  obtain ⟨j_5, hj_5⟩ : ∃ z, J_X7_next_j_5 row_count bytes_f rr_place rr_end rr_current rr_left = z := ⟨_, rfl⟩
  have hg : ((j_5.2.1 >>> ((j_5.2.2 - (1 : Int32)) &&& 31)) &&& (1 : Int32), j_5.1, j_5.2.1, j_5.2.2 - (1 : Int32)) = g := by first | (rw [hj_5] at hg; exact hg) | (subst hj_5; exact hg)
  have hJ_j_5 : ∀ (H : Heap) (locs : List Loc) (ls : Array Slot), va_P (dC, dI) vwCl (wd_row_bytes_rr cI a_row a_bytes a_rr row_count row_start bytes_n bytes_f j_5.1 rr_end j_5.2.1 j_5.2.2) H → va_D A (wd_row_bytes_rr cI a_row a_bytes a_rr row_count row_start bytes_n bytes_f j_5.1 rr_end j_5.2.1 j_5.2.2) → va_S A s.heap H locs → lv_has ls 3 [(0, .ref a_rr), (1, .int p1), (2, .int p2)] → W p l e (headSpec wsX7_next rm_X7_next).room s m ([.ref a_rr, .int p1, .int p2] : List Value).toArray below meth c H locs 0 0 Q (F0 m 57 ls []) := by
    intro H locs ls hP hD hS hl
    refine lv_aload_n hx hb dX7_next_57 rfl (lv_at hl 0 rfl) ?_
    refine lv_dup hx hb dX7_next_58 rfl ?_
    refine va_get (D := (dC, dI)) (ci := 6) (v := .int j_5.2.2) (C := RX7) (T := TX7) (N := 5) hx hb hts iw_X7_next_X7 hown hK hP 2 rfl rfl 4 (by decide) (hts (.fieldLink RX7 25 "PlaneBlocks$RawReader" "left" "I") (by decide +kernel)) (fun _ h9 => h9) rfl dX7_next_59 ?_
    refine lv_iconst (v := 1) hx hb dX7_next_62 (by decide) ?_
    refine lv_isub hx hb dX7_next_63 ?_
    refine va_put (D := (dC, dI)) (ci := 6) (v := .int (j_5.2.2 - (1 : Int32))) (ty := .int) (C := RX7) (T := TX7) (N := 5) hx hb hts iw_X7_next_X7 tyX7 tyX7_ok nmX7 hown hK hP hD hS 2 rfl rfl 4 (by decide) (hts (.fieldLink RX7 25 "PlaneBlocks$RawReader" "left" "I") (by decide +kernel)) (fun _ h9 => h9) rfl (by decide +kernel) rfl rfl (Nat.le_of_ble_eq_true rfl) dX7_next_64 (fun H locs hP hD hS => ?_)
    have hP : va_P (dC, dI) vwCl (wd_row_bytes_rr cI a_row a_bytes a_rr row_count row_start bytes_n bytes_f j_5.1 rr_end j_5.2.1 (j_5.2.2 - (1 : Int32))) H := hP
    have hD : va_D A (wd_row_bytes_rr cI a_row a_bytes a_rr row_count row_start bytes_n bytes_f j_5.1 rr_end j_5.2.1 (j_5.2.2 - (1 : Int32))) := hD
    refine lv_aload_n hx hb dX7_next_67 rfl (lv_at hl 0 rfl) ?_
    refine va_get (D := (dC, dI)) (ci := 6) (v := .int j_5.2.1) (C := RX7) (T := TX7) (N := 5) hx hb hts iw_X7_next_X7 hown hK hP 2 rfl rfl 3 (by decide) (hts (.fieldLink RX7 22 "PlaneBlocks$RawReader" "current" "I") (by decide +kernel)) (fun _ h9 => h9) rfl dX7_next_68 ?_
    refine lv_aload_n hx hb dX7_next_71 rfl (lv_at hl 0 rfl) ?_
    refine va_get (D := (dC, dI)) (ci := 6) (v := .int (j_5.2.2 - (1 : Int32))) (C := RX7) (T := TX7) (N := 5) hx hb hts iw_X7_next_X7 hown hK hP 2 rfl rfl 4 (by decide) (hts (.fieldLink RX7 25 "PlaneBlocks$RawReader" "left" "I") (by decide +kernel)) (fun _ h9 => h9) rfl dX7_next_72 ?_
    refine lv_ishr hx hb dX7_next_75 ?_
    refine lv_iconst (v := 1) hx hb dX7_next_76 (by decide) ?_
    refine lv_iand hx hb dX7_next_77 ?_
    subst hg
    rw [← hQe]
    exact W.iret (v := ((j_5.2.1 >>> ((j_5.2.2 - (1 : Int32)) &&& 31)) &&& (1 : Int32))) hx hb hr (fun t ht hW => ⟨⟨((j_5.2.1 >>> ((j_5.2.2 - (1 : Int32)) &&& 31)) &&& (1 : Int32)), (), rfl, rfl, by rw [ht]; exact hP, va_K.moved hW.alike hK, hD⟩, hS.F ht⟩) hS.2.2 dX7_next_78
  unfold PJ_X7_next_j_5 at hpre
  have hg : (if rr_left = (0 : Int32) then (let j_3 := J_X7_next_j_3 rr_current; let r_4 := F_X1_byteOf rr_place rr_end row_count bytes_f; (rr_place + (1 : Int32), r_4, j_3)) else (rr_place, rr_current, rr_left)) = j_5 := by rw [← hj_5]; rfl
  clear hj_5
  refine lv_if_ne (tgt := 57) hx hb dX7_next_4 (by decide) (fun c_1 => ?_) (fun c_1 => ?_)
  · rw [if_neg c_1] at hg
    exact hJ_j_5 _ _ _ (by rw [← hg]; exact hP) (by rw [← hg]; exact hD) hS (lv_sub hl [0, 1, 2] rfl)
  · rw [if_pos c_1] at hg
    have hpre := hpre c_1
    refine lv_aload_n hx hb dX7_next_7 rfl (lv_at hl 0 rfl) ?_
    refine lv_aload_n hx hb dX7_next_8 rfl (lv_at hl 0 rfl) ?_
    refine va_get (D := (dC, dI)) (ci := 6) (v := .int rr_current) (C := RX7) (T := TX7) (N := 5) hx hb hts iw_X7_next_X7 hown hK hP 2 rfl rfl 3 (by decide) (hts (.fieldLink RX7 22 "PlaneBlocks$RawReader" "current" "I") (by decide +kernel)) (fun _ h9 => h9) rfl dX7_next_9 ?_
    refine lv_sipush (v := 255) hx hb dX7_next_12 (by decide) ?_
    obtain ⟨j_3, hj_3⟩ : ∃ z, J_X7_next_j_3 rr_current = z := ⟨_, rfl⟩
    have hg : (let r_4 := F_X1_byteOf rr_place rr_end row_count bytes_f; (rr_place + (1 : Int32), r_4, j_3)) = j_5 := by first | (rw [hj_3] at hg; exact hg) | (subst hj_3; exact hg)
    have hJ_j_3 : ∀ (H : Heap) (locs : List Loc) (ls : Array Slot), va_P (dC, dI) vwCl (wd_row_bytes_rr cI a_row a_bytes a_rr row_count row_start bytes_n bytes_f rr_place rr_end rr_current rr_left) H → va_D A (wd_row_bytes_rr cI a_row a_bytes a_rr row_count row_start bytes_n bytes_f rr_place rr_end rr_current rr_left) → va_S A s.heap H locs → lv_has ls 3 [(0, .ref a_rr), (1, .int p1), (2, .int p2)] → W p l e (headSpec wsX7_next rm_X7_next).room s m ([.ref a_rr, .int p1, .int p2] : List Value).toArray below meth c H locs 0 0 Q (F0 m 25 ls [.int j_3, .ref a_rr]) := by
      intro H locs ls hP hD hS hl
      have hpre := hpre j_3 hj_3
      refine va_put (D := (dC, dI)) (ci := 6) (v := .int j_3) (ty := .int) (C := RX7) (T := TX7) (N := 5) hx hb hts iw_X7_next_X7 tyX7 tyX7_ok nmX7 hown hK hP hD hS 2 rfl rfl 4 (by decide) (hts (.fieldLink RX7 25 "PlaneBlocks$RawReader" "left" "I") (by decide +kernel)) (fun _ h9 => h9) rfl (by decide +kernel) rfl rfl (Nat.le_of_ble_eq_true rfl) dX7_next_25 (fun H locs hP hD hS => ?_)
      have hP : va_P (dC, dI) vwCl (wd_row_bytes_rr cI a_row a_bytes a_rr row_count row_start bytes_n bytes_f rr_place rr_end rr_current j_3) H := hP
      have hD : va_D A (wd_row_bytes_rr cI a_row a_bytes a_rr row_count row_start bytes_n bytes_f rr_place rr_end rr_current j_3) := hD
      refine lv_aload_n hx hb dX7_next_28 rfl (lv_at hl 0 rfl) ?_
      refine lv_aload_n hx hb dX7_next_29 rfl (lv_at hl 0 rfl) ?_
      refine va_get (D := (dC, dI)) (ci := 6) (v := .ref a_row) (C := RX7) (T := TX7) (N := 5) hx hb hts iw_X7_next_X7 hown hK hP 2 rfl rfl 0 (by decide) (hts (.fieldLink RX7 9 "PlaneBlocks$RawReader" "row" "LPlaneBlocks$ByteRow;") (by decide +kernel)) (fun _ h9 => h9) rfl dX7_next_30 ?_
      refine lv_aload_n hx hb dX7_next_33 rfl (lv_at hl 0 rfl) ?_
      refine va_get (D := (dC, dI)) (ci := 6) (v := .int rr_place) (C := RX7) (T := TX7) (N := 5) hx hb hts iw_X7_next_X7 hown hK hP 2 rfl rfl 1 (by decide) (hts (.fieldLink RX7 15 "PlaneBlocks$RawReader" "place" "I") (by decide +kernel)) (fun _ h9 => h9) rfl dX7_next_34 ?_
      refine lv_aload_n hx hb dX7_next_37 rfl (lv_at hl 0 rfl) ?_
      refine va_get (D := (dC, dI)) (ci := 6) (v := .int rr_end) (C := RX7) (T := TX7) (N := 5) hx hb hts iw_X7_next_X7 hown hK hP 2 rfl rfl 2 (by decide) (hts (.fieldLink RX7 19 "PlaneBlocks$RawReader" "end" "I") (by decide +kernel)) (fun _ h9 => h9) rfl dX7_next_38 ?_
      have hPc := hP.sub (ws' := (wd_row_bytes cI a_row a_bytes row_count row_start bytes_n bytes_f)) [0, 1] rfl
      have hDc := hD.sub (ws' := (wd_row_bytes cI a_row a_bytes row_count row_start bytes_n bytes_f)) [0, 1] (by decide) rfl
      have hFc := va_free (wc := (wd_row_bytes cI a_row a_bytes row_count row_start bytes_n bytes_f)) hD hS hA [0, 1] rfl
      refine va_calli (va_runV (As := [.int rr_place, .int rr_end]) (rest := [.ref a_rr]) ⟨hx, hb, hml, hown, hts⟩ (c_X1_byteOf l dC dI cI cJ cZ a_row a_bytes H.size row_count row_start bytes_n bytes_f rr_place rr_end hpre) (cwV 2 hts gX7_next_X1_byteOf rfl rfl rfl (by decide +kernel) ⟨Nat.le_of_ble_eq_true rfl, Nat.le_of_ble_eq_true rfl⟩) ⟨fun a U g mk q => by obtain ⟨q0, q1, qP, qK, qD⟩ := q; exact ⟨q0, q1, qP, va_K.moved (u := U) (U := U.calling g mk a) (Vm.Alike.refl U.vm) qK, qD⟩, va_recv hK hPc (ci := 0) (q0 := 0) rfl rfl, fun U hU hW => ⟨rfl, by rw [hU], by rw [hU]; exact hPc, va_K.moved hW.alike hK, hDc.weaken (fun _ _ _ _ => trivial)⟩⟩ rfl rfl hl.1 rfl (lv_room (Nat.le_of_ble_eq_true rfl)) dX7_next_41 ⟨Nat.le_of_ble_eq_true rfl, Nat.le_of_ble_eq_true rfl⟩) hS (fun q _ h => hFc q h) hFc (fun r u t H1 locs ht hvm hw hB hz1 hk1 hS => ?_)
      obtain ⟨hP1, hK1, hD1⟩ := hB
      rw [ht] at hP1
      obtain ⟨r_4, hr_4⟩ : ∃ z, F_X1_byteOf rr_place rr_end row_count bytes_f = z := ⟨_, rfl⟩
      try rw [hr_4] at hw
      try rw [hr_4] at hP1
      try rw [hr_4] at hD1
      have hg : (rr_place + (1 : Int32), r_4, j_3) = j_5 := by first | (rw [hr_4] at hg; exact hg) | (subst hr_4; exact hg)
      have hw := hw.symm
      subst hw
      obtain ⟨hP, hD⟩ := va_join (wr := [(a_rr, .inr (6, [.ref a_row, .int rr_place, .int rr_end, .int rr_current, .int j_3]))]) (w1 := (wd_row_bytes cI a_row a_bytes row_count row_start bytes_n bytes_f)) hP hD [0, 1] [2] rfl rfl (by decide) (by decide) hk1 hFc hP1 hD1
      have hP : va_P (dC, dI) vwCl (wd_row_bytes_rr cI a_row a_bytes a_rr row_count row_start bytes_n bytes_f rr_place rr_end rr_current j_3) H1 := hP.sub [1, 2, 0] rfl
      have hD : va_D A (wd_row_bytes_rr cI a_row a_bytes a_rr row_count row_start bytes_n bytes_f rr_place rr_end rr_current j_3) := hD.sub [1, 2, 0] (by decide) rfl
      generalize H1 = H at hP hS ⊢
      refine va_put (D := (dC, dI)) (ci := 6) (v := .int r_4) (ty := .int) (C := RX7) (T := TX7) (N := 5) hx hb hts iw_X7_next_X7 tyX7 tyX7_ok nmX7 hown hK hP hD hS 2 rfl rfl 3 (by decide) (hts (.fieldLink RX7 22 "PlaneBlocks$RawReader" "current" "I") (by decide +kernel)) (fun _ h9 => h9) rfl (by decide +kernel) rfl rfl (Nat.le_of_ble_eq_true rfl) dX7_next_44 (fun H locs hP hD hS => ?_)
      have hP : va_P (dC, dI) vwCl (wd_row_bytes_rr cI a_row a_bytes a_rr row_count row_start bytes_n bytes_f rr_place rr_end r_4 j_3) H := hP
      have hD : va_D A (wd_row_bytes_rr cI a_row a_bytes a_rr row_count row_start bytes_n bytes_f rr_place rr_end r_4 j_3) := hD
      refine lv_aload_n hx hb dX7_next_47 rfl (lv_at hl 0 rfl) ?_
      refine lv_dup hx hb dX7_next_48 rfl ?_
      refine va_get (D := (dC, dI)) (ci := 6) (v := .int rr_place) (C := RX7) (T := TX7) (N := 5) hx hb hts iw_X7_next_X7 hown hK hP 2 rfl rfl 1 (by decide) (hts (.fieldLink RX7 15 "PlaneBlocks$RawReader" "place" "I") (by decide +kernel)) (fun _ h9 => h9) rfl dX7_next_49 ?_
      refine lv_iconst (v := 1) hx hb dX7_next_52 (by decide) ?_
      refine lv_iadd hx hb dX7_next_53 ?_
      refine va_put (D := (dC, dI)) (ci := 6) (v := .int (rr_place + (1 : Int32))) (ty := .int) (C := RX7) (T := TX7) (N := 5) hx hb hts iw_X7_next_X7 tyX7 tyX7_ok nmX7 hown hK hP hD hS 2 rfl rfl 1 (by decide) (hts (.fieldLink RX7 15 "PlaneBlocks$RawReader" "place" "I") (by decide +kernel)) (fun _ h9 => h9) rfl (by decide +kernel) rfl rfl (Nat.le_of_ble_eq_true rfl) dX7_next_54 (fun H locs hP hD hS => ?_)
      have hP : va_P (dC, dI) vwCl (wd_row_bytes_rr cI a_row a_bytes a_rr row_count row_start bytes_n bytes_f (rr_place + (1 : Int32)) rr_end r_4 j_3) H := hP
      have hD : va_D A (wd_row_bytes_rr cI a_row a_bytes a_rr row_count row_start bytes_n bytes_f (rr_place + (1 : Int32)) rr_end r_4 j_3) := hD
      exact hJ_j_5 _ _ _ (by rw [← hg]; exact hP) (by rw [← hg]; exact hD) hS (lv_sub hl [0, 1, 2] rfl)
    have hg : (if rr_current = (255 : Int32) then (7 : Int32) else (8 : Int32)) = j_3 := by rw [← hj_3]; rfl
    clear hj_3
    refine lv_icmp_ne (tgt := 23) hx hb dX7_next_15 (by decide) (fun c_2 => ?_) (fun c_2 => ?_)
    · rw [if_neg c_2] at hg
      refine lv_bipush (v := 8) hx hb dX7_next_23 (by decide) ?_
      rw [← hg] at hJ_j_3
      exact hJ_j_3 _ _ _ hP hD hS (lv_sub hl [0, 1, 2] rfl)
    · rw [if_pos c_2] at hg
      refine lv_bipush (v := 7) hx hb dX7_next_18 (by decide) ?_
      refine lv_goto (tgt := 25) hx hb dX7_next_20 (by decide) ?_
      rw [← hg] at hJ_j_3
      exact hJ_j_3 _ _ _ hP hD hS (lv_sub hl [0, 1, 2] rfl)
abbrev wd_row_bytes_cr (cI : ClassId) (a_row : Nat) (a_bytes : Nat) (a_cr : Nat) (a_ctx : Nat) (row_count : Int32) (row_start : Int32) (bytes_n : Nat) (bytes_f : Nat → Int32) (cr_place : Int32) (cr_end : Int32) (cr_window : Int32) (cr_size : Int32) (cr_room : Int32) : va_W := [(a_row, .inr (0, [.ref a_bytes, .int row_count, .int row_start])), (a_bytes, .inl (cI, bytes_n, .inl bytes_f)), (a_cr, .inr (1, [.ref a_row, .ref a_ctx, .int cr_place, .int cr_end, .int cr_window, .int cr_size, .int cr_room]))]
abbrev rm_X2_byteIn : Room := { frames := 1, cells := 0, slots := 0, locals := 22 }
abbrev Q_X2_byteIn (dC : Nat → ClassId) (dI : Nat → Nat → Nat) (cI cJ cZ : ClassId) (a_row : Nat) (a_bytes : Nat) (a_cr : Nat) (a_ctx : Nat) (A : Nat → Prop) (row_count : Int32) (row_start : Int32) (bytes_n : Nat) (bytes_f : Nat → Int32) (cr_place : Int32) (cr_end : Int32) (cr_window : Int32) (cr_size : Int32) (cr_room : Int32) (g : (Int32 × Int32 × Int32)) : Array Value → State → Outcome → State → Prop := va_Qv (fun _ : Unit => True) (fun u t => va_P (dC, dI) vwCl (wd_row_bytes_cr cI a_row a_bytes a_cr a_ctx row_count row_start bytes_n bytes_f g.1 cr_end g.2.1 cr_size g.2.2) t.heap ∧ va_K (dC, dI) vwCl [(cI, .int), (cJ, .long), (cZ, .boolean)] t ∧ va_D A (wd_row_bytes_cr cI a_row a_bytes a_cr a_ctx row_count row_start bytes_n bytes_f g.1 cr_end g.2.1 cr_size g.2.2)) A
theorem iw_X2_byteIn_X2 : ∀ w ∈ u_ws RX2 TX2 7, w ∈ wsX2_byteIn := by decide +kernel
set_option maxHeartbeats 4000000 in
set_option maxRecDepth 100000 in
theorem c_X2_byteIn (l : Launch) (dC : Nat → ClassId) (dI : Nat → Nat → Nat) (cI cJ cZ : ClassId) (a_row : Nat) (a_bytes : Nat) (a_cr : Nat) (a_ctx : Nat) (sz : Nat) (row_count : Int32) (row_start : Int32) (bytes_n : Nat) (bytes_f : Nat → Int32) (cr_place : Int32) (cr_end : Int32) (cr_window : Int32) (cr_size : Int32) (cr_room : Int32) (hpre : P_X2_byteIn row_count bytes_n bytes_f cr_place cr_end) : Met l yX2_byteIn wsX2_byteIn rm_X2_byteIn (va_Pc [.ref a_cr] (fun U => U.heap.size = sz ∧ va_P (dC, dI) vwCl (wd_row_bytes_cr cI a_row a_bytes a_cr a_ctx row_count row_start bytes_n bytes_f cr_place cr_end cr_window cr_size cr_room) U.heap ∧ va_K (dC, dI) vwCl [(cI, .int), (cJ, .long), (cZ, .boolean)] U ∧ va_D (fun _ => True) (wd_row_bytes_cr cI a_row a_bytes a_cr a_ctx row_count row_start bytes_n bytes_f cr_place cr_end cr_window cr_size cr_room))) (Q_X2_byteIn dC dI cI cJ cZ a_row a_bytes a_cr a_ctx (va_A (wd_row_bytes_cr cI a_row a_bytes a_cr a_ctx row_count row_start bytes_n bytes_f cr_place cr_end cr_window cr_size cr_room) sz) row_count row_start bytes_n bytes_f cr_place cr_end cr_window cr_size cr_room (F_X2_byteIn row_count bytes_f cr_place cr_end cr_window)) 0 0 (va_A (wd_row_bytes_cr cI a_row a_bytes a_cr a_ctx row_count row_start bytes_n bytes_f cr_place cr_end cr_window cr_size cr_room) sz) := by
  refine Met.ofW (cc := cX2_byteIn) (maxL := 3) (ret := none) (by decide) rfl ?_
  intro p e s m args below meth c s₁ B hml hv
  obtain ⟨rfl, hsz, hP, hK, hD0⟩ := hv
  have hx := B.exec
  have hb := B.bytes
  have hr := B.returns
  have hts := atoms_spec (ws := wsX2_byteIn) B.pre
  have hown : s.vm.findClass RX2 = some m.cls := findClass_of_methodNamed B.named
  have hlocks := B.notSynchronized
  subst hsz
  have hD := hD0.self (sz := s.heap.size)
  generalize hAe : va_A (wd_row_bytes_cr cI a_row a_bytes a_cr a_ctx row_count row_start bytes_n bytes_f cr_place cr_end cr_window cr_size cr_room) s.heap.size = A at hD ⊢
  have hA : ∀ q : Nat, s.heap.size ≤ q → A q := fun q h => by rw [← hAe]; exact Or.inr h
  have hS : va_S A s.heap s.heap [] := va_S.rf
  obtain ⟨H, hH⟩ : ∃ z, z = s.heap := ⟨_, rfl⟩
  have hP : va_P (dC, dI) vwCl (wd_row_bytes_cr cI a_row a_bytes a_cr a_ctx row_count row_start bytes_n bytes_f cr_place cr_end cr_window cr_size cr_room) H := by rw [hH]; exact hP
  have hS : va_S A s.heap H [] := by rw [hH]; exact va_S.rf
  obtain ⟨g, hg⟩ : ∃ z, F_X2_byteIn row_count bytes_f cr_place cr_end cr_window = z := ⟨_, rfl⟩
  rw [hg]
  generalize hQe : MQ below (Q_X2_byteIn dC dI cI cJ cZ a_row a_bytes a_cr a_ctx A row_count row_start bytes_n bytes_f cr_place cr_end cr_window cr_size cr_room g) _ s 0 0 A = Q
  rw [← hH]
  clear hH
  have hl := lv_entry ([.ref a_cr]) (n := 3) (Nat.le_of_ble_eq_true rfl)
  rw [lg_entry_eq]
  generalize (lg_sl ([.ref a_cr]) ++ List.replicate (3 - (lg_sl ([.ref a_cr])).length) Slot.unset).toArray = ls at hl ⊢
  have hl : lv_has ls 3 [(0, .ref a_cr)] := hl
  unfold F_X2_byteIn at hg
  unfold P_X2_byteIn at hpre
  refine lv_aload_n hx hb dX2_byteIn_0 rfl (lv_at hl 0 rfl) ?_
  refine va_get (D := (dC, dI)) (ci := 1) (v := .ref a_row) (C := RX2) (T := TX2) (N := 7) hx hb hts iw_X2_byteIn_X2 hown hK hP 2 rfl rfl 0 (by decide) (hts (.fieldLink RX2 9 "PlaneBlocks$CodedReader" "row" "LPlaneBlocks$ByteRow;") (by decide +kernel)) (fun _ h9 => h9) rfl dX2_byteIn_1 ?_
  refine lv_aload_n hx hb dX2_byteIn_4 rfl (lv_at hl 0 rfl) ?_
  refine va_get (D := (dC, dI)) (ci := 1) (v := .int cr_place) (C := RX2) (T := TX2) (N := 7) hx hb hts iw_X2_byteIn_X2 hown hK hP 2 rfl rfl 2 (by decide) (hts (.fieldLink RX2 19 "PlaneBlocks$CodedReader" "place" "I") (by decide +kernel)) (fun _ h9 => h9) rfl dX2_byteIn_5 ?_
  refine lv_aload_n hx hb dX2_byteIn_8 rfl (lv_at hl 0 rfl) ?_
  refine va_get (D := (dC, dI)) (ci := 1) (v := .int cr_end) (C := RX2) (T := TX2) (N := 7) hx hb hts iw_X2_byteIn_X2 hown hK hP 2 rfl rfl 3 (by decide) (hts (.fieldLink RX2 23 "PlaneBlocks$CodedReader" "end" "I") (by decide +kernel)) (fun _ h9 => h9) rfl dX2_byteIn_9 ?_
  have hPc := hP.sub (ws' := (wd_row_bytes cI a_row a_bytes row_count row_start bytes_n bytes_f)) [0, 1] rfl
  have hDc := hD.sub (ws' := (wd_row_bytes cI a_row a_bytes row_count row_start bytes_n bytes_f)) [0, 1] (by decide) rfl
  have hFc := va_free (wc := (wd_row_bytes cI a_row a_bytes row_count row_start bytes_n bytes_f)) hD hS hA [0, 1] rfl
  refine va_calli (va_runV (As := [.int cr_place, .int cr_end]) (rest := []) ⟨hx, hb, hml, hown, hts⟩ (c_X1_byteOf l dC dI cI cJ cZ a_row a_bytes H.size row_count row_start bytes_n bytes_f cr_place cr_end hpre.1) (cwV 2 hts gX2_byteIn_X1_byteOf rfl rfl rfl (by decide +kernel) ⟨Nat.le_of_ble_eq_true rfl, Nat.le_of_ble_eq_true rfl⟩) ⟨fun a U g mk q => by obtain ⟨q0, q1, qP, qK, qD⟩ := q; exact ⟨q0, q1, qP, va_K.moved (u := U) (U := U.calling g mk a) (Vm.Alike.refl U.vm) qK, qD⟩, va_recv hK hPc (ci := 0) (q0 := 0) rfl rfl, fun U hU hW => ⟨rfl, by rw [hU], by rw [hU]; exact hPc, va_K.moved hW.alike hK, hDc.weaken (fun _ _ _ _ => trivial)⟩⟩ rfl rfl hl.1 rfl (lv_room (Nat.le_of_ble_eq_true rfl)) dX2_byteIn_12 ⟨Nat.le_of_ble_eq_true rfl, Nat.le_of_ble_eq_true rfl⟩) hS (fun q _ h => hFc q h) hFc (fun r u t H1 locs ht hvm hw hB hz1 hk1 hS => ?_)
  obtain ⟨hP1, hK1, hD1⟩ := hB
  rw [ht] at hP1
  obtain ⟨r_1, hr_1⟩ : ∃ z, F_X1_byteOf cr_place cr_end row_count bytes_f = z := ⟨_, rfl⟩
  try rw [hr_1] at hw
  try rw [hr_1] at hP1
  try rw [hr_1] at hD1
  have hg : (let j_3 := J_X2_byteIn_j_3 r_1; let r_4 := F_X1_byteOf (cr_place + (1 : Int32)) cr_end row_count bytes_f; if j_3 = (0 : Int32) then (let j_7 := J_X2_byteIn_j_7 j_3 r_4; if j_3 = (0 : Int32) then (cr_place + (1 : Int32), cr_window + j_7, (8 : Int32)) else (cr_place + (1 : Int32), cr_window + j_7, (7 : Int32))) else (if r_4 ≤ (143 : Int32) then (let j_11 := J_X2_byteIn_j_11 j_3 r_4; if j_3 = (0 : Int32) then (cr_place + (1 : Int32), cr_window + j_11, (8 : Int32)) else (cr_place + (1 : Int32), cr_window + j_11, (7 : Int32))) else (cr_place, cr_window + (65280 : Int32), (8 : Int32)))) = g := by first | (rw [hr_1] at hg; exact hg) | (subst hr_1; exact hg)
  have hw := hw.symm
  subst hw
  obtain ⟨hP, hD⟩ := va_join (wr := [(a_cr, .inr (1, [.ref a_row, .ref a_ctx, .int cr_place, .int cr_end, .int cr_window, .int cr_size, .int cr_room]))]) (w1 := (wd_row_bytes cI a_row a_bytes row_count row_start bytes_n bytes_f)) hP hD [0, 1] [2] rfl rfl (by decide) (by decide) hk1 hFc hP1 hD1
  have hP : va_P (dC, dI) vwCl (wd_row_bytes_cr cI a_row a_bytes a_cr a_ctx row_count row_start bytes_n bytes_f cr_place cr_end cr_window cr_size cr_room) H1 := hP.sub [1, 2, 0] rfl
  have hD : va_D A (wd_row_bytes_cr cI a_row a_bytes a_cr a_ctx row_count row_start bytes_n bytes_f cr_place cr_end cr_window cr_size cr_room) := hD.sub [1, 2, 0] (by decide) rfl
  generalize H1 = H at hP hS ⊢
  have hpre := hpre.2 r_1 hr_1
  refine lv_sipush (v := 255) hx hb dX2_byteIn_15 (by decide) ?_
  obtain ⟨j_3, hj_3⟩ : ∃ z, J_X2_byteIn_j_3 r_1 = z := ⟨_, rfl⟩
  have hg : (let r_4 := F_X1_byteOf (cr_place + (1 : Int32)) cr_end row_count bytes_f; if j_3 = (0 : Int32) then (let j_7 := J_X2_byteIn_j_7 j_3 r_4; if j_3 = (0 : Int32) then (cr_place + (1 : Int32), cr_window + j_7, (8 : Int32)) else (cr_place + (1 : Int32), cr_window + j_7, (7 : Int32))) else (if r_4 ≤ (143 : Int32) then (let j_11 := J_X2_byteIn_j_11 j_3 r_4; if j_3 = (0 : Int32) then (cr_place + (1 : Int32), cr_window + j_11, (8 : Int32)) else (cr_place + (1 : Int32), cr_window + j_11, (7 : Int32))) else (cr_place, cr_window + (65280 : Int32), (8 : Int32)))) = g := by first | (rw [hj_3] at hg; exact hg) | (subst hj_3; exact hg)
  have hJ_j_3 : ∀ (H : Heap) (locs : List Loc) (ls : Array Slot), va_P (dC, dI) vwCl (wd_row_bytes_cr cI a_row a_bytes a_cr a_ctx row_count row_start bytes_n bytes_f cr_place cr_end cr_window cr_size cr_room) H → va_D A (wd_row_bytes_cr cI a_row a_bytes a_cr a_ctx row_count row_start bytes_n bytes_f cr_place cr_end cr_window cr_size cr_room) → va_S A s.heap H locs → lv_has ls 3 [(0, .ref a_cr)] → W p l e (headSpec wsX2_byteIn rm_X2_byteIn).room s m ([.ref a_cr] : List Value).toArray below meth c H locs 0 0 Q (F0 m 26 ls [.int j_3]) := by
    intro H locs ls hP hD hS hl
    have hpre := hpre j_3 hj_3
    refine lv_istore_n (lv' := [(1, .int j_3), (0, .ref a_cr)]) hx hb dX2_byteIn_26 rfl hl (by decide) rfl (fun ls hl => ?_)
    refine lv_aload_n hx hb dX2_byteIn_27 rfl (lv_at hl 1 rfl) ?_
    refine va_get (D := (dC, dI)) (ci := 1) (v := .ref a_row) (C := RX2) (T := TX2) (N := 7) hx hb hts iw_X2_byteIn_X2 hown hK hP 2 rfl rfl 0 (by decide) (hts (.fieldLink RX2 9 "PlaneBlocks$CodedReader" "row" "LPlaneBlocks$ByteRow;") (by decide +kernel)) (fun _ h9 => h9) rfl dX2_byteIn_28 ?_
    refine lv_aload_n hx hb dX2_byteIn_31 rfl (lv_at hl 1 rfl) ?_
    refine va_get (D := (dC, dI)) (ci := 1) (v := .int cr_place) (C := RX2) (T := TX2) (N := 7) hx hb hts iw_X2_byteIn_X2 hown hK hP 2 rfl rfl 2 (by decide) (hts (.fieldLink RX2 19 "PlaneBlocks$CodedReader" "place" "I") (by decide +kernel)) (fun _ h9 => h9) rfl dX2_byteIn_32 ?_
    refine lv_iconst (v := 1) hx hb dX2_byteIn_35 (by decide) ?_
    refine lv_iadd hx hb dX2_byteIn_36 ?_
    refine lv_aload_n hx hb dX2_byteIn_37 rfl (lv_at hl 1 rfl) ?_
    refine va_get (D := (dC, dI)) (ci := 1) (v := .int cr_end) (C := RX2) (T := TX2) (N := 7) hx hb hts iw_X2_byteIn_X2 hown hK hP 2 rfl rfl 3 (by decide) (hts (.fieldLink RX2 23 "PlaneBlocks$CodedReader" "end" "I") (by decide +kernel)) (fun _ h9 => h9) rfl dX2_byteIn_38 ?_
    have hPc := hP.sub (ws' := (wd_row_bytes cI a_row a_bytes row_count row_start bytes_n bytes_f)) [0, 1] rfl
    have hDc := hD.sub (ws' := (wd_row_bytes cI a_row a_bytes row_count row_start bytes_n bytes_f)) [0, 1] (by decide) rfl
    have hFc := va_free (wc := (wd_row_bytes cI a_row a_bytes row_count row_start bytes_n bytes_f)) hD hS hA [0, 1] rfl
    refine va_calli (va_runV (As := [.int (cr_place + (1 : Int32)), .int cr_end]) (rest := []) ⟨hx, hb, hml, hown, hts⟩ (c_X1_byteOf l dC dI cI cJ cZ a_row a_bytes H.size row_count row_start bytes_n bytes_f (cr_place + (1 : Int32)) cr_end hpre) (cwV 2 hts gX2_byteIn_X1_byteOf rfl rfl rfl (by decide +kernel) ⟨Nat.le_of_ble_eq_true rfl, Nat.le_of_ble_eq_true rfl⟩) ⟨fun a U g mk q => by obtain ⟨q0, q1, qP, qK, qD⟩ := q; exact ⟨q0, q1, qP, va_K.moved (u := U) (U := U.calling g mk a) (Vm.Alike.refl U.vm) qK, qD⟩, va_recv hK hPc (ci := 0) (q0 := 0) rfl rfl, fun U hU hW => ⟨rfl, by rw [hU], by rw [hU]; exact hPc, va_K.moved hW.alike hK, hDc.weaken (fun _ _ _ _ => trivial)⟩⟩ rfl rfl hl.1 rfl (lv_room (Nat.le_of_ble_eq_true rfl)) dX2_byteIn_41 ⟨Nat.le_of_ble_eq_true rfl, Nat.le_of_ble_eq_true rfl⟩) hS (fun q _ h => hFc q h) hFc (fun r u t H1 locs ht hvm hw hB hz1 hk1 hS => ?_)
    obtain ⟨hP1, hK1, hD1⟩ := hB
    rw [ht] at hP1
    obtain ⟨r_4, hr_4⟩ : ∃ z, F_X1_byteOf (cr_place + (1 : Int32)) cr_end row_count bytes_f = z := ⟨_, rfl⟩
    try rw [hr_4] at hw
    try rw [hr_4] at hP1
    try rw [hr_4] at hD1
    have hg : (if j_3 = (0 : Int32) then (let j_7 := J_X2_byteIn_j_7 j_3 r_4; if j_3 = (0 : Int32) then (cr_place + (1 : Int32), cr_window + j_7, (8 : Int32)) else (cr_place + (1 : Int32), cr_window + j_7, (7 : Int32))) else (if r_4 ≤ (143 : Int32) then (let j_11 := J_X2_byteIn_j_11 j_3 r_4; if j_3 = (0 : Int32) then (cr_place + (1 : Int32), cr_window + j_11, (8 : Int32)) else (cr_place + (1 : Int32), cr_window + j_11, (7 : Int32))) else (cr_place, cr_window + (65280 : Int32), (8 : Int32)))) = g := by first | (rw [hr_4] at hg; exact hg) | (subst hr_4; exact hg)
    have hw := hw.symm
    subst hw
    obtain ⟨hP, hD⟩ := va_join (wr := [(a_cr, .inr (1, [.ref a_row, .ref a_ctx, .int cr_place, .int cr_end, .int cr_window, .int cr_size, .int cr_room]))]) (w1 := (wd_row_bytes cI a_row a_bytes row_count row_start bytes_n bytes_f)) hP hD [0, 1] [2] rfl rfl (by decide) (by decide) hk1 hFc hP1 hD1
    have hP : va_P (dC, dI) vwCl (wd_row_bytes_cr cI a_row a_bytes a_cr a_ctx row_count row_start bytes_n bytes_f cr_place cr_end cr_window cr_size cr_room) H1 := hP.sub [1, 2, 0] rfl
    have hD : va_D A (wd_row_bytes_cr cI a_row a_bytes a_cr a_ctx row_count row_start bytes_n bytes_f cr_place cr_end cr_window cr_size cr_room) := hD.sub [1, 2, 0] (by decide) rfl
    generalize H1 = H at hP hS ⊢
    refine lv_istore_n (lv' := [(2, .int r_4), (1, .int j_3), (0, .ref a_cr)]) hx hb dX2_byteIn_44 rfl hl (by decide) rfl (fun ls hl => ?_)
    refine lv_iload_n hx hb dX2_byteIn_45 rfl (lv_at hl 1 rfl) ?_
    refine lv_if_eq (tgt := 74) hx hb dX2_byteIn_46 (by decide) (fun c_5 => ?_) (fun c_5 => ?_)
    · rw [if_pos c_5] at hg
      refine lv_aload_n hx hb dX2_byteIn_74 rfl (lv_at hl 2 rfl) ?_
      refine lv_dup hx hb dX2_byteIn_75 rfl ?_
      refine va_get (D := (dC, dI)) (ci := 1) (v := .int cr_place) (C := RX2) (T := TX2) (N := 7) hx hb hts iw_X2_byteIn_X2 hown hK hP 2 rfl rfl 2 (by decide) (hts (.fieldLink RX2 19 "PlaneBlocks$CodedReader" "place" "I") (by decide +kernel)) (fun _ h9 => h9) rfl dX2_byteIn_76 ?_
      refine lv_iconst (v := 1) hx hb dX2_byteIn_79 (by decide) ?_
      refine lv_iadd hx hb dX2_byteIn_80 ?_
      refine va_put (D := (dC, dI)) (ci := 1) (v := .int (cr_place + (1 : Int32))) (ty := .int) (C := RX2) (T := TX2) (N := 7) hx hb hts iw_X2_byteIn_X2 tyX2 tyX2_ok nmX2 hown hK hP hD hS 2 rfl rfl 2 (by decide) (hts (.fieldLink RX2 19 "PlaneBlocks$CodedReader" "place" "I") (by decide +kernel)) (fun _ h9 => h9) rfl (by decide +kernel) rfl rfl (Nat.le_of_ble_eq_true rfl) dX2_byteIn_81 (fun H locs hP hD hS => ?_)
      have hP : va_P (dC, dI) vwCl (wd_row_bytes_cr cI a_row a_bytes a_cr a_ctx row_count row_start bytes_n bytes_f (cr_place + (1 : Int32)) cr_end cr_window cr_size cr_room) H := hP
      have hD : va_D A (wd_row_bytes_cr cI a_row a_bytes a_cr a_ctx row_count row_start bytes_n bytes_f (cr_place + (1 : Int32)) cr_end cr_window cr_size cr_room) := hD
      refine lv_aload_n hx hb dX2_byteIn_84 rfl (lv_at hl 2 rfl) ?_
      refine lv_dup hx hb dX2_byteIn_85 rfl ?_
      refine va_get (D := (dC, dI)) (ci := 1) (v := .int cr_window) (C := RX2) (T := TX2) (N := 7) hx hb hts iw_X2_byteIn_X2 hown hK hP 2 rfl rfl 4 (by decide) (hts (.fieldLink RX2 32 "PlaneBlocks$CodedReader" "window" "I") (by decide +kernel)) (fun _ h9 => h9) rfl dX2_byteIn_86 ?_
      refine lv_iload_n hx hb dX2_byteIn_89 rfl (lv_at hl 1 rfl) ?_
      obtain ⟨j_7, hj_7⟩ : ∃ z, J_X2_byteIn_j_7 j_3 r_4 = z := ⟨_, rfl⟩
      have hg : (if j_3 = (0 : Int32) then (cr_place + (1 : Int32), cr_window + j_7, (8 : Int32)) else (cr_place + (1 : Int32), cr_window + j_7, (7 : Int32))) = g := by first | (rw [hj_7] at hg; exact hg) | (subst hj_7; exact hg)
      have hJ_j_7 : ∀ (H : Heap) (locs : List Loc) (ls : Array Slot), va_P (dC, dI) vwCl (wd_row_bytes_cr cI a_row a_bytes a_cr a_ctx row_count row_start bytes_n bytes_f (cr_place + (1 : Int32)) cr_end cr_window cr_size cr_room) H → va_D A (wd_row_bytes_cr cI a_row a_bytes a_cr a_ctx row_count row_start bytes_n bytes_f (cr_place + (1 : Int32)) cr_end cr_window cr_size cr_room) → va_S A s.heap H locs → lv_has ls 3 [(0, .ref a_cr), (1, .int j_3), (2, .int r_4)] → W p l e (headSpec wsX2_byteIn rm_X2_byteIn).room s m ([.ref a_cr] : List Value).toArray below meth c H locs 0 0 Q (F0 m 104 ls [.int j_7, .int cr_window, .ref a_cr]) := by
        intro H locs ls hP hD hS hl
        refine lv_iadd hx hb dX2_byteIn_104 ?_
        refine va_put (D := (dC, dI)) (ci := 1) (v := .int (cr_window + j_7)) (ty := .int) (C := RX2) (T := TX2) (N := 7) hx hb hts iw_X2_byteIn_X2 tyX2 tyX2_ok nmX2 hown hK hP hD hS 2 rfl rfl 4 (by decide) (hts (.fieldLink RX2 32 "PlaneBlocks$CodedReader" "window" "I") (by decide +kernel)) (fun _ h9 => h9) rfl (by decide +kernel) rfl rfl (Nat.le_of_ble_eq_true rfl) dX2_byteIn_105 (fun H locs hP hD hS => ?_)
        have hP : va_P (dC, dI) vwCl (wd_row_bytes_cr cI a_row a_bytes a_cr a_ctx row_count row_start bytes_n bytes_f (cr_place + (1 : Int32)) cr_end (cr_window + j_7) cr_size cr_room) H := hP
        have hD : va_D A (wd_row_bytes_cr cI a_row a_bytes a_cr a_ctx row_count row_start bytes_n bytes_f (cr_place + (1 : Int32)) cr_end (cr_window + j_7) cr_size cr_room) := hD
        refine lv_aload_n hx hb dX2_byteIn_108 rfl (lv_at hl 0 rfl) ?_
        refine lv_iload_n hx hb dX2_byteIn_109 rfl (lv_at hl 1 rfl) ?_
        refine lv_if_eq (tgt := 118) hx hb dX2_byteIn_110 (by decide) (fun c_8 => ?_) (fun c_8 => ?_)
        · rw [if_pos c_8] at hg
          refine lv_bipush (v := 8) hx hb dX2_byteIn_118 (by decide) ?_
          refine va_put (D := (dC, dI)) (ci := 1) (v := .int (8 : Int32)) (ty := .int) (C := RX2) (T := TX2) (N := 7) hx hb hts iw_X2_byteIn_X2 tyX2 tyX2_ok nmX2 hown hK hP hD hS 2 rfl rfl 6 (by decide) (hts (.fieldLink RX2 42 "PlaneBlocks$CodedReader" "room" "I") (by decide +kernel)) (fun _ h9 => h9) rfl (by decide +kernel) rfl rfl (Nat.le_of_ble_eq_true rfl) dX2_byteIn_120 (fun H locs hP hD hS => ?_)
          have hP : va_P (dC, dI) vwCl (wd_row_bytes_cr cI a_row a_bytes a_cr a_ctx row_count row_start bytes_n bytes_f (cr_place + (1 : Int32)) cr_end (cr_window + j_7) cr_size (8 : Int32)) H := hP
          have hD : va_D A (wd_row_bytes_cr cI a_row a_bytes a_cr a_ctx row_count row_start bytes_n bytes_f (cr_place + (1 : Int32)) cr_end (cr_window + j_7) cr_size (8 : Int32)) := hD
          subst hg
          rw [← hQe]
          exact W.vret hx hb hr (fun t ht hW => ⟨⟨(), rfl, trivial, by rw [ht]; exact hP, va_K.moved hW.alike hK, hD⟩, hS.F ht⟩) hS.2.2 dX2_byteIn_123
        · rw [if_neg c_8] at hg
          refine lv_bipush (v := 7) hx hb dX2_byteIn_113 (by decide) ?_
          refine lv_goto (tgt := 120) hx hb dX2_byteIn_115 (by decide) ?_
          refine va_put (D := (dC, dI)) (ci := 1) (v := .int (7 : Int32)) (ty := .int) (C := RX2) (T := TX2) (N := 7) hx hb hts iw_X2_byteIn_X2 tyX2 tyX2_ok nmX2 hown hK hP hD hS 2 rfl rfl 6 (by decide) (hts (.fieldLink RX2 42 "PlaneBlocks$CodedReader" "room" "I") (by decide +kernel)) (fun _ h9 => h9) rfl (by decide +kernel) rfl rfl (Nat.le_of_ble_eq_true rfl) dX2_byteIn_120 (fun H locs hP hD hS => ?_)
          have hP : va_P (dC, dI) vwCl (wd_row_bytes_cr cI a_row a_bytes a_cr a_ctx row_count row_start bytes_n bytes_f (cr_place + (1 : Int32)) cr_end (cr_window + j_7) cr_size (7 : Int32)) H := hP
          have hD : va_D A (wd_row_bytes_cr cI a_row a_bytes a_cr a_ctx row_count row_start bytes_n bytes_f (cr_place + (1 : Int32)) cr_end (cr_window + j_7) cr_size (7 : Int32)) := hD
          subst hg
          rw [← hQe]
          exact W.vret hx hb hr (fun t ht hW => ⟨⟨(), rfl, trivial, by rw [ht]; exact hP, va_K.moved hW.alike hK, hD⟩, hS.F ht⟩) hS.2.2 dX2_byteIn_123
      have hg : (if j_3 = (0 : Int32) then (r_4 <<< ((8 : Int32) &&& 31)) else (r_4 <<< ((9 : Int32) &&& 31))) = j_7 := by rw [← hj_7]; rfl
      clear hj_7
      refine lv_if_eq (tgt := 100) hx hb dX2_byteIn_90 (by decide) (fun c_6 => ?_) (fun c_6 => ?_)
      · rw [if_pos c_6] at hg
        refine lv_iload_n hx hb dX2_byteIn_100 rfl (lv_at hl 0 rfl) ?_
        refine lv_bipush (v := 8) hx hb dX2_byteIn_101 (by decide) ?_
        refine lv_ishl hx hb dX2_byteIn_103 ?_
        rw [← hg] at hJ_j_7
        exact hJ_j_7 _ _ _ hP hD hS (lv_sub hl [2, 1, 0] rfl)
      · rw [if_neg c_6] at hg
        refine lv_iload_n hx hb dX2_byteIn_93 rfl (lv_at hl 0 rfl) ?_
        refine lv_bipush (v := 9) hx hb dX2_byteIn_94 (by decide) ?_
        refine lv_ishl hx hb dX2_byteIn_96 ?_
        refine lv_goto (tgt := 104) hx hb dX2_byteIn_97 (by decide) ?_
        rw [← hg] at hJ_j_7
        exact hJ_j_7 _ _ _ hP hD hS (lv_sub hl [2, 1, 0] rfl)
    · rw [if_neg c_5] at hg
      refine lv_iload_n hx hb dX2_byteIn_49 rfl (lv_at hl 0 rfl) ?_
      refine lv_sipush (v := 143) hx hb dX2_byteIn_50 (by decide) ?_
      refine lv_icmp_le (tgt := 74) hx hb dX2_byteIn_53 (by decide) (fun c_9 => ?_) (fun c_9 => ?_)
      · rw [if_pos c_9] at hg
        refine lv_aload_n hx hb dX2_byteIn_74 rfl (lv_at hl 2 rfl) ?_
        refine lv_dup hx hb dX2_byteIn_75 rfl ?_
        refine va_get (D := (dC, dI)) (ci := 1) (v := .int cr_place) (C := RX2) (T := TX2) (N := 7) hx hb hts iw_X2_byteIn_X2 hown hK hP 2 rfl rfl 2 (by decide) (hts (.fieldLink RX2 19 "PlaneBlocks$CodedReader" "place" "I") (by decide +kernel)) (fun _ h9 => h9) rfl dX2_byteIn_76 ?_
        refine lv_iconst (v := 1) hx hb dX2_byteIn_79 (by decide) ?_
        refine lv_iadd hx hb dX2_byteIn_80 ?_
        refine va_put (D := (dC, dI)) (ci := 1) (v := .int (cr_place + (1 : Int32))) (ty := .int) (C := RX2) (T := TX2) (N := 7) hx hb hts iw_X2_byteIn_X2 tyX2 tyX2_ok nmX2 hown hK hP hD hS 2 rfl rfl 2 (by decide) (hts (.fieldLink RX2 19 "PlaneBlocks$CodedReader" "place" "I") (by decide +kernel)) (fun _ h9 => h9) rfl (by decide +kernel) rfl rfl (Nat.le_of_ble_eq_true rfl) dX2_byteIn_81 (fun H locs hP hD hS => ?_)
        have hP : va_P (dC, dI) vwCl (wd_row_bytes_cr cI a_row a_bytes a_cr a_ctx row_count row_start bytes_n bytes_f (cr_place + (1 : Int32)) cr_end cr_window cr_size cr_room) H := hP
        have hD : va_D A (wd_row_bytes_cr cI a_row a_bytes a_cr a_ctx row_count row_start bytes_n bytes_f (cr_place + (1 : Int32)) cr_end cr_window cr_size cr_room) := hD
        refine lv_aload_n hx hb dX2_byteIn_84 rfl (lv_at hl 2 rfl) ?_
        refine lv_dup hx hb dX2_byteIn_85 rfl ?_
        refine va_get (D := (dC, dI)) (ci := 1) (v := .int cr_window) (C := RX2) (T := TX2) (N := 7) hx hb hts iw_X2_byteIn_X2 hown hK hP 2 rfl rfl 4 (by decide) (hts (.fieldLink RX2 32 "PlaneBlocks$CodedReader" "window" "I") (by decide +kernel)) (fun _ h9 => h9) rfl dX2_byteIn_86 ?_
        refine lv_iload_n hx hb dX2_byteIn_89 rfl (lv_at hl 1 rfl) ?_
        obtain ⟨j_11, hj_11⟩ : ∃ z, J_X2_byteIn_j_11 j_3 r_4 = z := ⟨_, rfl⟩
        have hg : (if j_3 = (0 : Int32) then (cr_place + (1 : Int32), cr_window + j_11, (8 : Int32)) else (cr_place + (1 : Int32), cr_window + j_11, (7 : Int32))) = g := by first | (rw [hj_11] at hg; exact hg) | (subst hj_11; exact hg)
        have hJ_j_11 : ∀ (H : Heap) (locs : List Loc) (ls : Array Slot), va_P (dC, dI) vwCl (wd_row_bytes_cr cI a_row a_bytes a_cr a_ctx row_count row_start bytes_n bytes_f (cr_place + (1 : Int32)) cr_end cr_window cr_size cr_room) H → va_D A (wd_row_bytes_cr cI a_row a_bytes a_cr a_ctx row_count row_start bytes_n bytes_f (cr_place + (1 : Int32)) cr_end cr_window cr_size cr_room) → va_S A s.heap H locs → lv_has ls 3 [(0, .ref a_cr), (1, .int j_3), (2, .int r_4)] → W p l e (headSpec wsX2_byteIn rm_X2_byteIn).room s m ([.ref a_cr] : List Value).toArray below meth c H locs 0 0 Q (F0 m 104 ls [.int j_11, .int cr_window, .ref a_cr]) := by
          intro H locs ls hP hD hS hl
          refine lv_iadd hx hb dX2_byteIn_104 ?_
          refine va_put (D := (dC, dI)) (ci := 1) (v := .int (cr_window + j_11)) (ty := .int) (C := RX2) (T := TX2) (N := 7) hx hb hts iw_X2_byteIn_X2 tyX2 tyX2_ok nmX2 hown hK hP hD hS 2 rfl rfl 4 (by decide) (hts (.fieldLink RX2 32 "PlaneBlocks$CodedReader" "window" "I") (by decide +kernel)) (fun _ h9 => h9) rfl (by decide +kernel) rfl rfl (Nat.le_of_ble_eq_true rfl) dX2_byteIn_105 (fun H locs hP hD hS => ?_)
          have hP : va_P (dC, dI) vwCl (wd_row_bytes_cr cI a_row a_bytes a_cr a_ctx row_count row_start bytes_n bytes_f (cr_place + (1 : Int32)) cr_end (cr_window + j_11) cr_size cr_room) H := hP
          have hD : va_D A (wd_row_bytes_cr cI a_row a_bytes a_cr a_ctx row_count row_start bytes_n bytes_f (cr_place + (1 : Int32)) cr_end (cr_window + j_11) cr_size cr_room) := hD
          refine lv_aload_n hx hb dX2_byteIn_108 rfl (lv_at hl 0 rfl) ?_
          refine lv_iload_n hx hb dX2_byteIn_109 rfl (lv_at hl 1 rfl) ?_
          refine lv_if_eq (tgt := 118) hx hb dX2_byteIn_110 (by decide) (fun c_12 => ?_) (fun c_12 => ?_)
          · rw [if_pos c_12] at hg
            refine lv_bipush (v := 8) hx hb dX2_byteIn_118 (by decide) ?_
            refine va_put (D := (dC, dI)) (ci := 1) (v := .int (8 : Int32)) (ty := .int) (C := RX2) (T := TX2) (N := 7) hx hb hts iw_X2_byteIn_X2 tyX2 tyX2_ok nmX2 hown hK hP hD hS 2 rfl rfl 6 (by decide) (hts (.fieldLink RX2 42 "PlaneBlocks$CodedReader" "room" "I") (by decide +kernel)) (fun _ h9 => h9) rfl (by decide +kernel) rfl rfl (Nat.le_of_ble_eq_true rfl) dX2_byteIn_120 (fun H locs hP hD hS => ?_)
            have hP : va_P (dC, dI) vwCl (wd_row_bytes_cr cI a_row a_bytes a_cr a_ctx row_count row_start bytes_n bytes_f (cr_place + (1 : Int32)) cr_end (cr_window + j_11) cr_size (8 : Int32)) H := hP
            have hD : va_D A (wd_row_bytes_cr cI a_row a_bytes a_cr a_ctx row_count row_start bytes_n bytes_f (cr_place + (1 : Int32)) cr_end (cr_window + j_11) cr_size (8 : Int32)) := hD
            subst hg
            rw [← hQe]
            exact W.vret hx hb hr (fun t ht hW => ⟨⟨(), rfl, trivial, by rw [ht]; exact hP, va_K.moved hW.alike hK, hD⟩, hS.F ht⟩) hS.2.2 dX2_byteIn_123
          · rw [if_neg c_12] at hg
            refine lv_bipush (v := 7) hx hb dX2_byteIn_113 (by decide) ?_
            refine lv_goto (tgt := 120) hx hb dX2_byteIn_115 (by decide) ?_
            refine va_put (D := (dC, dI)) (ci := 1) (v := .int (7 : Int32)) (ty := .int) (C := RX2) (T := TX2) (N := 7) hx hb hts iw_X2_byteIn_X2 tyX2 tyX2_ok nmX2 hown hK hP hD hS 2 rfl rfl 6 (by decide) (hts (.fieldLink RX2 42 "PlaneBlocks$CodedReader" "room" "I") (by decide +kernel)) (fun _ h9 => h9) rfl (by decide +kernel) rfl rfl (Nat.le_of_ble_eq_true rfl) dX2_byteIn_120 (fun H locs hP hD hS => ?_)
            have hP : va_P (dC, dI) vwCl (wd_row_bytes_cr cI a_row a_bytes a_cr a_ctx row_count row_start bytes_n bytes_f (cr_place + (1 : Int32)) cr_end (cr_window + j_11) cr_size (7 : Int32)) H := hP
            have hD : va_D A (wd_row_bytes_cr cI a_row a_bytes a_cr a_ctx row_count row_start bytes_n bytes_f (cr_place + (1 : Int32)) cr_end (cr_window + j_11) cr_size (7 : Int32)) := hD
            subst hg
            rw [← hQe]
            exact W.vret hx hb hr (fun t ht hW => ⟨⟨(), rfl, trivial, by rw [ht]; exact hP, va_K.moved hW.alike hK, hD⟩, hS.F ht⟩) hS.2.2 dX2_byteIn_123
        have hg : (if j_3 = (0 : Int32) then (r_4 <<< ((8 : Int32) &&& 31)) else (r_4 <<< ((9 : Int32) &&& 31))) = j_11 := by rw [← hj_11]; rfl
        clear hj_11
        refine lv_if_eq (tgt := 100) hx hb dX2_byteIn_90 (by decide) (fun c_10 => ?_) (fun c_10 => ?_)
        · rw [if_pos c_10] at hg
          refine lv_iload_n hx hb dX2_byteIn_100 rfl (lv_at hl 0 rfl) ?_
          refine lv_bipush (v := 8) hx hb dX2_byteIn_101 (by decide) ?_
          refine lv_ishl hx hb dX2_byteIn_103 ?_
          rw [← hg] at hJ_j_11
          exact hJ_j_11 _ _ _ hP hD hS (lv_sub hl [2, 1, 0] rfl)
        · rw [if_neg c_10] at hg
          refine lv_iload_n hx hb dX2_byteIn_93 rfl (lv_at hl 0 rfl) ?_
          refine lv_bipush (v := 9) hx hb dX2_byteIn_94 (by decide) ?_
          refine lv_ishl hx hb dX2_byteIn_96 ?_
          refine lv_goto (tgt := 104) hx hb dX2_byteIn_97 (by decide) ?_
          rw [← hg] at hJ_j_11
          exact hJ_j_11 _ _ _ hP hD hS (lv_sub hl [2, 1, 0] rfl)
      · rw [if_neg c_9] at hg
        refine lv_aload_n hx hb dX2_byteIn_56 rfl (lv_at hl 2 rfl) ?_
        refine lv_dup hx hb dX2_byteIn_57 rfl ?_
        refine va_get (D := (dC, dI)) (ci := 1) (v := .int cr_window) (C := RX2) (T := TX2) (N := 7) hx hb hts iw_X2_byteIn_X2 hown hK hP 2 rfl rfl 4 (by decide) (hts (.fieldLink RX2 32 "PlaneBlocks$CodedReader" "window" "I") (by decide +kernel)) (fun _ h9 => h9) rfl dX2_byteIn_58 ?_
        refine lv_ldc (v := 65280) hx hb hown (hts (.constant RX2 45 (65280)) (by decide +kernel)) dX2_byteIn_61 ?_
        refine lv_iadd hx hb dX2_byteIn_63 ?_
        refine va_put (D := (dC, dI)) (ci := 1) (v := .int (cr_window + (65280 : Int32))) (ty := .int) (C := RX2) (T := TX2) (N := 7) hx hb hts iw_X2_byteIn_X2 tyX2 tyX2_ok nmX2 hown hK hP hD hS 2 rfl rfl 4 (by decide) (hts (.fieldLink RX2 32 "PlaneBlocks$CodedReader" "window" "I") (by decide +kernel)) (fun _ h9 => h9) rfl (by decide +kernel) rfl rfl (Nat.le_of_ble_eq_true rfl) dX2_byteIn_64 (fun H locs hP hD hS => ?_)
        have hP : va_P (dC, dI) vwCl (wd_row_bytes_cr cI a_row a_bytes a_cr a_ctx row_count row_start bytes_n bytes_f cr_place cr_end (cr_window + (65280 : Int32)) cr_size cr_room) H := hP
        have hD : va_D A (wd_row_bytes_cr cI a_row a_bytes a_cr a_ctx row_count row_start bytes_n bytes_f cr_place cr_end (cr_window + (65280 : Int32)) cr_size cr_room) := hD
        refine lv_aload_n hx hb dX2_byteIn_67 rfl (lv_at hl 2 rfl) ?_
        refine lv_bipush (v := 8) hx hb dX2_byteIn_68 (by decide) ?_
        refine va_put (D := (dC, dI)) (ci := 1) (v := .int (8 : Int32)) (ty := .int) (C := RX2) (T := TX2) (N := 7) hx hb hts iw_X2_byteIn_X2 tyX2 tyX2_ok nmX2 hown hK hP hD hS 2 rfl rfl 6 (by decide) (hts (.fieldLink RX2 42 "PlaneBlocks$CodedReader" "room" "I") (by decide +kernel)) (fun _ h9 => h9) rfl (by decide +kernel) rfl rfl (Nat.le_of_ble_eq_true rfl) dX2_byteIn_70 (fun H locs hP hD hS => ?_)
        have hP : va_P (dC, dI) vwCl (wd_row_bytes_cr cI a_row a_bytes a_cr a_ctx row_count row_start bytes_n bytes_f cr_place cr_end (cr_window + (65280 : Int32)) cr_size (8 : Int32)) H := hP
        have hD : va_D A (wd_row_bytes_cr cI a_row a_bytes a_cr a_ctx row_count row_start bytes_n bytes_f cr_place cr_end (cr_window + (65280 : Int32)) cr_size (8 : Int32)) := hD
        subst hg
        rw [← hQe]
        exact W.vret hx hb hr (fun t ht hW => ⟨⟨(), rfl, trivial, by rw [ht]; exact hP, va_K.moved hW.alike hK, hD⟩, hS.F ht⟩) hS.2.2 dX2_byteIn_73
  have hg : (if r_1 = (255 : Int32) then (1 : Int32) else (0 : Int32)) = j_3 := by rw [← hj_3]; rfl
  clear hj_3
  refine lv_icmp_ne (tgt := 25) hx hb dX2_byteIn_18 (by decide) (fun c_2 => ?_) (fun c_2 => ?_)
  · rw [if_neg c_2] at hg
    refine lv_iconst (v := 0) hx hb dX2_byteIn_25 (by decide) ?_
    rw [← hg] at hJ_j_3
    exact hJ_j_3 _ _ _ hP hD hS (lv_sub hl [0] rfl)
  · rw [if_pos c_2] at hg
    refine lv_iconst (v := 1) hx hb dX2_byteIn_21 (by decide) ?_
    refine lv_goto (tgt := 26) hx hb dX2_byteIn_22 (by decide) ?_
    rw [← hg] at hJ_j_3
    exact hJ_j_3 _ _ _ hP hD hS (lv_sub hl [0] rfl)
abbrev rm_X2_open : Room := { frames := 2, cells := 0, slots := 0, locals := 44 }
abbrev Q_X2_open (dC : Nat → ClassId) (dI : Nat → Nat → Nat) (cI cJ cZ : ClassId) (a_row : Nat) (a_bytes : Nat) (a_cr : Nat) (a_ctx : Nat) (A : Nat → Prop) (row_count : Int32) (row_start : Int32) (bytes_n : Nat) (bytes_f : Nat → Int32) (cr_place : Int32) (cr_end : Int32) (cr_window : Int32) (cr_size : Int32) (cr_room : Int32) (g : (Int32 × Int32 × Int32 × Int32 × Int32)) : Array Value → State → Outcome → State → Prop := va_Qv (fun _ : Unit => True) (fun u t => va_P (dC, dI) vwCl (wd_row_bytes_cr cI a_row a_bytes a_cr a_ctx row_count row_start bytes_n bytes_f g.1 g.2.1 g.2.2.1 g.2.2.2.1 g.2.2.2.2) t.heap ∧ va_K (dC, dI) vwCl [(cI, .int), (cJ, .long), (cZ, .boolean)] t ∧ va_D A (wd_row_bytes_cr cI a_row a_bytes a_cr a_ctx row_count row_start bytes_n bytes_f g.1 g.2.1 g.2.2.1 g.2.2.2.1 g.2.2.2.2)) A
theorem iw_X2_open_X2 : ∀ w ∈ u_ws RX2 TX2 7, w ∈ wsX2_open := by decide +kernel
set_option maxHeartbeats 4000000 in
set_option maxRecDepth 100000 in
theorem c_X2_open (l : Launch) (dC : Nat → ClassId) (dI : Nat → Nat → Nat) (cI cJ cZ : ClassId) (a_row : Nat) (a_bytes : Nat) (a_cr : Nat) (a_ctx : Nat) (sz : Nat) (row_count : Int32) (row_start : Int32) (bytes_n : Nat) (bytes_f : Nat → Int32) (cr_place : Int32) (cr_end : Int32) (cr_window : Int32) (cr_size : Int32) (cr_room : Int32) (p1 : Int32) (p2 : Int32) (hpre : P_X2_open p1 p2 row_count bytes_n bytes_f) : Met l yX2_open wsX2_open rm_X2_open (va_Pc [.ref a_cr, .int p1, .int p2] (fun U => U.heap.size = sz ∧ va_P (dC, dI) vwCl (wd_row_bytes_cr cI a_row a_bytes a_cr a_ctx row_count row_start bytes_n bytes_f cr_place cr_end cr_window cr_size cr_room) U.heap ∧ va_K (dC, dI) vwCl [(cI, .int), (cJ, .long), (cZ, .boolean)] U ∧ va_D (fun _ => True) (wd_row_bytes_cr cI a_row a_bytes a_cr a_ctx row_count row_start bytes_n bytes_f cr_place cr_end cr_window cr_size cr_room))) (Q_X2_open dC dI cI cJ cZ a_row a_bytes a_cr a_ctx (va_A (wd_row_bytes_cr cI a_row a_bytes a_cr a_ctx row_count row_start bytes_n bytes_f cr_place cr_end cr_window cr_size cr_room) sz) row_count row_start bytes_n bytes_f cr_place cr_end cr_window cr_size cr_room (F_X2_open p1 p2 row_count bytes_f)) 0 0 (va_A (wd_row_bytes_cr cI a_row a_bytes a_cr a_ctx row_count row_start bytes_n bytes_f cr_place cr_end cr_window cr_size cr_room) sz) := by
  refine Met.ofW (cc := cX2_open) (maxL := 3) (ret := none) (by decide) rfl ?_
  intro p e s m args below meth c s₁ B hml hv
  obtain ⟨rfl, hsz, hP, hK, hD0⟩ := hv
  have hx := B.exec
  have hb := B.bytes
  have hr := B.returns
  have hts := atoms_spec (ws := wsX2_open) B.pre
  have hown : s.vm.findClass RX2 = some m.cls := findClass_of_methodNamed B.named
  have hlocks := B.notSynchronized
  subst hsz
  have hD := hD0.self (sz := s.heap.size)
  generalize hAe : va_A (wd_row_bytes_cr cI a_row a_bytes a_cr a_ctx row_count row_start bytes_n bytes_f cr_place cr_end cr_window cr_size cr_room) s.heap.size = A at hD ⊢
  have hA : ∀ q : Nat, s.heap.size ≤ q → A q := fun q h => by rw [← hAe]; exact Or.inr h
  have hS : va_S A s.heap s.heap [] := va_S.rf
  obtain ⟨H, hH⟩ : ∃ z, z = s.heap := ⟨_, rfl⟩
  have hP : va_P (dC, dI) vwCl (wd_row_bytes_cr cI a_row a_bytes a_cr a_ctx row_count row_start bytes_n bytes_f cr_place cr_end cr_window cr_size cr_room) H := by rw [hH]; exact hP
  have hS : va_S A s.heap H [] := by rw [hH]; exact va_S.rf
  obtain ⟨g, hg⟩ : ∃ z, F_X2_open p1 p2 row_count bytes_f = z := ⟨_, rfl⟩
  rw [hg]
  generalize hQe : MQ below (Q_X2_open dC dI cI cJ cZ a_row a_bytes a_cr a_ctx A row_count row_start bytes_n bytes_f cr_place cr_end cr_window cr_size cr_room g) _ s 0 0 A = Q
  rw [← hH]
  clear hH
  have hl := lv_entry ([.ref a_cr, .int p1, .int p2]) (n := 3) (Nat.le_of_ble_eq_true rfl)
  rw [lg_entry_eq]
  generalize (lg_sl ([.ref a_cr, .int p1, .int p2]) ++ List.replicate (3 - (lg_sl ([.ref a_cr, .int p1, .int p2])).length) Slot.unset).toArray = ls at hl ⊢
  have hl : lv_has ls 3 [(0, .ref a_cr), (1, .int p1), (2, .int p2)] := hl
  unfold F_X2_open at hg
  unfold P_X2_open at hpre
  refine lv_aload_n hx hb dX2_open_0 rfl (lv_at hl 0 rfl) ?_
  refine lv_iload_n hx hb dX2_open_1 rfl (lv_at hl 1 rfl) ?_
  refine va_put (D := (dC, dI)) (ci := 1) (v := .int p1) (ty := .int) (C := RX2) (T := TX2) (N := 7) hx hb hts iw_X2_open_X2 tyX2 tyX2_ok nmX2 hown hK hP hD hS 2 rfl rfl 2 (by decide) (hts (.fieldLink RX2 19 "PlaneBlocks$CodedReader" "place" "I") (by decide +kernel)) (fun _ h9 => h9) rfl (by decide +kernel) rfl rfl (Nat.le_of_ble_eq_true rfl) dX2_open_2 (fun H locs hP hD hS => ?_)
  have hP : va_P (dC, dI) vwCl (wd_row_bytes_cr cI a_row a_bytes a_cr a_ctx row_count row_start bytes_n bytes_f p1 cr_end cr_window cr_size cr_room) H := hP
  have hD : va_D A (wd_row_bytes_cr cI a_row a_bytes a_cr a_ctx row_count row_start bytes_n bytes_f p1 cr_end cr_window cr_size cr_room) := hD
  refine lv_aload_n hx hb dX2_open_5 rfl (lv_at hl 0 rfl) ?_
  refine lv_iload_n hx hb dX2_open_6 rfl (lv_at hl 2 rfl) ?_
  refine va_put (D := (dC, dI)) (ci := 1) (v := .int p2) (ty := .int) (C := RX2) (T := TX2) (N := 7) hx hb hts iw_X2_open_X2 tyX2 tyX2_ok nmX2 hown hK hP hD hS 2 rfl rfl 3 (by decide) (hts (.fieldLink RX2 23 "PlaneBlocks$CodedReader" "end" "I") (by decide +kernel)) (fun _ h9 => h9) rfl (by decide +kernel) rfl rfl (Nat.le_of_ble_eq_true rfl) dX2_open_7 (fun H locs hP hD hS => ?_)
  have hP : va_P (dC, dI) vwCl (wd_row_bytes_cr cI a_row a_bytes a_cr a_ctx row_count row_start bytes_n bytes_f p1 p2 cr_window cr_size cr_room) H := hP
  have hD : va_D A (wd_row_bytes_cr cI a_row a_bytes a_cr a_ctx row_count row_start bytes_n bytes_f p1 p2 cr_window cr_size cr_room) := hD
  refine lv_aload_n hx hb dX2_open_10 rfl (lv_at hl 0 rfl) ?_
  refine lv_aload_n hx hb dX2_open_11 rfl (lv_at hl 0 rfl) ?_
  refine va_get (D := (dC, dI)) (ci := 1) (v := .ref a_row) (C := RX2) (T := TX2) (N := 7) hx hb hts iw_X2_open_X2 hown hK hP 2 rfl rfl 0 (by decide) (hts (.fieldLink RX2 9 "PlaneBlocks$CodedReader" "row" "LPlaneBlocks$ByteRow;") (by decide +kernel)) (fun _ h9 => h9) rfl dX2_open_12 ?_
  refine lv_aload_n hx hb dX2_open_15 rfl (lv_at hl 0 rfl) ?_
  refine va_get (D := (dC, dI)) (ci := 1) (v := .int p1) (C := RX2) (T := TX2) (N := 7) hx hb hts iw_X2_open_X2 hown hK hP 2 rfl rfl 2 (by decide) (hts (.fieldLink RX2 19 "PlaneBlocks$CodedReader" "place" "I") (by decide +kernel)) (fun _ h9 => h9) rfl dX2_open_16 ?_
  refine lv_aload_n hx hb dX2_open_19 rfl (lv_at hl 0 rfl) ?_
  refine va_get (D := (dC, dI)) (ci := 1) (v := .int p2) (C := RX2) (T := TX2) (N := 7) hx hb hts iw_X2_open_X2 hown hK hP 2 rfl rfl 3 (by decide) (hts (.fieldLink RX2 23 "PlaneBlocks$CodedReader" "end" "I") (by decide +kernel)) (fun _ h9 => h9) rfl dX2_open_20 ?_
  have hPc := hP.sub (ws' := (wd_row_bytes cI a_row a_bytes row_count row_start bytes_n bytes_f)) [0, 1] rfl
  have hDc := hD.sub (ws' := (wd_row_bytes cI a_row a_bytes row_count row_start bytes_n bytes_f)) [0, 1] (by decide) rfl
  have hFc := va_free (wc := (wd_row_bytes cI a_row a_bytes row_count row_start bytes_n bytes_f)) hD hS hA [0, 1] rfl
  refine va_calli (va_runV (As := [.int p1, .int p2]) (rest := [.ref a_cr]) ⟨hx, hb, hml, hown, hts⟩ (c_X1_byteOf l dC dI cI cJ cZ a_row a_bytes H.size row_count row_start bytes_n bytes_f p1 p2 hpre.1) (cwV 2 hts gX2_open_X1_byteOf rfl rfl rfl (by decide +kernel) ⟨Nat.le_of_ble_eq_true rfl, Nat.le_of_ble_eq_true rfl⟩) ⟨fun a U g mk q => by obtain ⟨q0, q1, qP, qK, qD⟩ := q; exact ⟨q0, q1, qP, va_K.moved (u := U) (U := U.calling g mk a) (Vm.Alike.refl U.vm) qK, qD⟩, va_recv hK hPc (ci := 0) (q0 := 0) rfl rfl, fun U hU hW => ⟨rfl, by rw [hU], by rw [hU]; exact hPc, va_K.moved hW.alike hK, hDc.weaken (fun _ _ _ _ => trivial)⟩⟩ rfl rfl hl.1 rfl (lv_room (Nat.le_of_ble_eq_true rfl)) dX2_open_23 ⟨Nat.le_of_ble_eq_true rfl, Nat.le_of_ble_eq_true rfl⟩) hS (fun q _ h => hFc q h) hFc (fun r u t H1 locs ht hvm hw hB hz1 hk1 hS => ?_)
  obtain ⟨hP1, hK1, hD1⟩ := hB
  rw [ht] at hP1
  obtain ⟨r_1, hr_1⟩ : ∃ z, F_X1_byteOf p1 p2 row_count bytes_f = z := ⟨_, rfl⟩
  try rw [hr_1] at hw
  try rw [hr_1] at hP1
  try rw [hr_1] at hD1
  have hg : (let r_2 := F_X2_byteIn row_count bytes_f p1 p2 (r_1 <<< ((16 : Int32) &&& 31)); (r_2.1, p2, r_2.2.1 <<< ((7 : Int32) &&& 31), (32768 : Int32), r_2.2.2 - (7 : Int32))) = g := by first | (rw [hr_1] at hg; exact hg) | (subst hr_1; exact hg)
  have hw := hw.symm
  subst hw
  obtain ⟨hP, hD⟩ := va_join (wr := [(a_cr, .inr (1, [.ref a_row, .ref a_ctx, .int p1, .int p2, .int cr_window, .int cr_size, .int cr_room]))]) (w1 := (wd_row_bytes cI a_row a_bytes row_count row_start bytes_n bytes_f)) hP hD [0, 1] [2] rfl rfl (by decide) (by decide) hk1 hFc hP1 hD1
  have hP : va_P (dC, dI) vwCl (wd_row_bytes_cr cI a_row a_bytes a_cr a_ctx row_count row_start bytes_n bytes_f p1 p2 cr_window cr_size cr_room) H1 := hP.sub [1, 2, 0] rfl
  have hD : va_D A (wd_row_bytes_cr cI a_row a_bytes a_cr a_ctx row_count row_start bytes_n bytes_f p1 p2 cr_window cr_size cr_room) := hD.sub [1, 2, 0] (by decide) rfl
  generalize H1 = H at hP hS ⊢
  have hpre := hpre.2 r_1 hr_1
  refine lv_bipush (v := 16) hx hb dX2_open_26 (by decide) ?_
  refine lv_ishl hx hb dX2_open_28 ?_
  refine va_put (D := (dC, dI)) (ci := 1) (v := .int (r_1 <<< ((16 : Int32) &&& 31))) (ty := .int) (C := RX2) (T := TX2) (N := 7) hx hb hts iw_X2_open_X2 tyX2 tyX2_ok nmX2 hown hK hP hD hS 2 rfl rfl 4 (by decide) (hts (.fieldLink RX2 32 "PlaneBlocks$CodedReader" "window" "I") (by decide +kernel)) (fun _ h9 => h9) rfl (by decide +kernel) rfl rfl (Nat.le_of_ble_eq_true rfl) dX2_open_29 (fun H locs hP hD hS => ?_)
  have hP : va_P (dC, dI) vwCl (wd_row_bytes_cr cI a_row a_bytes a_cr a_ctx row_count row_start bytes_n bytes_f p1 p2 (r_1 <<< ((16 : Int32) &&& 31)) cr_size cr_room) H := hP
  have hD : va_D A (wd_row_bytes_cr cI a_row a_bytes a_cr a_ctx row_count row_start bytes_n bytes_f p1 p2 (r_1 <<< ((16 : Int32) &&& 31)) cr_size cr_room) := hD
  refine lv_aload_n hx hb dX2_open_32 rfl (lv_at hl 0 rfl) ?_
  refine lv_ldc (v := 32768) hx hb hown (hts (.constant RX2 35 (32768)) (by decide +kernel)) dX2_open_33 ?_
  refine va_put (D := (dC, dI)) (ci := 1) (v := .int (32768 : Int32)) (ty := .int) (C := RX2) (T := TX2) (N := 7) hx hb hts iw_X2_open_X2 tyX2 tyX2_ok nmX2 hown hK hP hD hS 2 rfl rfl 5 (by decide) (hts (.fieldLink RX2 36 "PlaneBlocks$CodedReader" "size" "I") (by decide +kernel)) (fun _ h9 => h9) rfl (by decide +kernel) rfl rfl (Nat.le_of_ble_eq_true rfl) dX2_open_35 (fun H locs hP hD hS => ?_)
  have hP : va_P (dC, dI) vwCl (wd_row_bytes_cr cI a_row a_bytes a_cr a_ctx row_count row_start bytes_n bytes_f p1 p2 (r_1 <<< ((16 : Int32) &&& 31)) (32768 : Int32) cr_room) H := hP
  have hD : va_D A (wd_row_bytes_cr cI a_row a_bytes a_cr a_ctx row_count row_start bytes_n bytes_f p1 p2 (r_1 <<< ((16 : Int32) &&& 31)) (32768 : Int32) cr_room) := hD
  refine lv_aload_n hx hb dX2_open_38 rfl (lv_at hl 0 rfl) ?_
  have hPc := hP.sub (ws' := (wd_row_bytes_cr cI a_row a_bytes a_cr a_ctx row_count row_start bytes_n bytes_f p1 p2 (r_1 <<< ((16 : Int32) &&& 31)) (32768 : Int32) cr_room)) [0, 1, 2] rfl
  have hDc := hD.sub (ws' := (wd_row_bytes_cr cI a_row a_bytes a_cr a_ctx row_count row_start bytes_n bytes_f p1 p2 (r_1 <<< ((16 : Int32) &&& 31)) (32768 : Int32) cr_room)) [0, 1, 2] (by decide) rfl
  have hFc := va_free (wc := (wd_row_bytes_cr cI a_row a_bytes a_cr a_ctx row_count row_start bytes_n bytes_f p1 p2 (r_1 <<< ((16 : Int32) &&& 31)) (32768 : Int32) cr_room)) hD hS hA [0, 1, 2] rfl
  refine va_callv (va_runV (As := []) (rest := []) ⟨hx, hb, hml, hown, hts⟩ (c_X2_byteIn l dC dI cI cJ cZ a_row a_bytes a_cr a_ctx H.size row_count row_start bytes_n bytes_f p1 p2 (r_1 <<< ((16 : Int32) &&& 31)) (32768 : Int32) cr_room hpre) (cwV 0 hts gX2_open_X2_byteIn rfl rfl rfl (by decide +kernel) ⟨Nat.le_of_ble_eq_true rfl, Nat.le_of_ble_eq_true rfl⟩) ⟨fun a U g mk q => by obtain ⟨q0, q1, qP, qK, qD⟩ := q; exact ⟨q0, q1, qP, va_K.moved (u := U) (U := U.calling g mk a) (Vm.Alike.refl U.vm) qK, qD⟩, va_recv hK hPc (ci := 1) (q0 := 2) rfl rfl, fun U hU hW => ⟨rfl, by rw [hU], by rw [hU]; exact hPc, va_K.moved hW.alike hK, hDc.weaken (fun _ _ _ _ => trivial)⟩⟩ rfl rfl hl.1 rfl (lv_room (Nat.le_of_ble_eq_true rfl)) dX2_open_39 ⟨Nat.le_of_ble_eq_true rfl, Nat.le_of_ble_eq_true rfl⟩) hS (fun q _ h => hFc q h) hFc (fun u t H1 locs ht hvm hw hB hz1 hk1 hS => ?_)
  obtain ⟨hP1, hK1, hD1⟩ := hB
  rw [ht] at hP1
  obtain ⟨r_2, hr_2⟩ : ∃ z, F_X2_byteIn row_count bytes_f p1 p2 (r_1 <<< ((16 : Int32) &&& 31)) = z := ⟨_, rfl⟩
  try rw [hr_2] at hw
  try rw [hr_2] at hP1
  try rw [hr_2] at hD1
  have hg : (r_2.1, p2, r_2.2.1 <<< ((7 : Int32) &&& 31), (32768 : Int32), r_2.2.2 - (7 : Int32)) = g := by first | (rw [hr_2] at hg; exact hg) | (subst hr_2; exact hg)
  obtain ⟨hP, hD⟩ := va_join (wr := []) (w1 := (wd_row_bytes_cr cI a_row a_bytes a_cr a_ctx row_count row_start bytes_n bytes_f r_2.1 p2 r_2.2.1 (32768 : Int32) r_2.2.2)) hP hD [0, 1, 2] [] rfl rfl (by decide) (by decide) hk1 hFc hP1 hD1
  have hP : va_P (dC, dI) vwCl (wd_row_bytes_cr cI a_row a_bytes a_cr a_ctx row_count row_start bytes_n bytes_f r_2.1 p2 r_2.2.1 (32768 : Int32) r_2.2.2) H1 := hP.sub [0, 1, 2] rfl
  have hD : va_D A (wd_row_bytes_cr cI a_row a_bytes a_cr a_ctx row_count row_start bytes_n bytes_f r_2.1 p2 r_2.2.1 (32768 : Int32) r_2.2.2) := hD.sub [0, 1, 2] (by decide) rfl
  generalize H1 = H at hP hS ⊢
  refine lv_aload_n hx hb dX2_open_42 rfl (lv_at hl 0 rfl) ?_
  refine lv_dup hx hb dX2_open_43 rfl ?_
  refine va_get (D := (dC, dI)) (ci := 1) (v := .int r_2.2.1) (C := RX2) (T := TX2) (N := 7) hx hb hts iw_X2_open_X2 hown hK hP 2 rfl rfl 4 (by decide) (hts (.fieldLink RX2 32 "PlaneBlocks$CodedReader" "window" "I") (by decide +kernel)) (fun _ h9 => h9) rfl dX2_open_44 ?_
  refine lv_bipush (v := 7) hx hb dX2_open_47 (by decide) ?_
  refine lv_ishl hx hb dX2_open_49 ?_
  refine va_put (D := (dC, dI)) (ci := 1) (v := .int (r_2.2.1 <<< ((7 : Int32) &&& 31))) (ty := .int) (C := RX2) (T := TX2) (N := 7) hx hb hts iw_X2_open_X2 tyX2 tyX2_ok nmX2 hown hK hP hD hS 2 rfl rfl 4 (by decide) (hts (.fieldLink RX2 32 "PlaneBlocks$CodedReader" "window" "I") (by decide +kernel)) (fun _ h9 => h9) rfl (by decide +kernel) rfl rfl (Nat.le_of_ble_eq_true rfl) dX2_open_50 (fun H locs hP hD hS => ?_)
  have hP : va_P (dC, dI) vwCl (wd_row_bytes_cr cI a_row a_bytes a_cr a_ctx row_count row_start bytes_n bytes_f r_2.1 p2 (r_2.2.1 <<< ((7 : Int32) &&& 31)) (32768 : Int32) r_2.2.2) H := hP
  have hD : va_D A (wd_row_bytes_cr cI a_row a_bytes a_cr a_ctx row_count row_start bytes_n bytes_f r_2.1 p2 (r_2.2.1 <<< ((7 : Int32) &&& 31)) (32768 : Int32) r_2.2.2) := hD
  refine lv_aload_n hx hb dX2_open_53 rfl (lv_at hl 0 rfl) ?_
  refine lv_dup hx hb dX2_open_54 rfl ?_
  refine va_get (D := (dC, dI)) (ci := 1) (v := .int r_2.2.2) (C := RX2) (T := TX2) (N := 7) hx hb hts iw_X2_open_X2 hown hK hP 2 rfl rfl 6 (by decide) (hts (.fieldLink RX2 42 "PlaneBlocks$CodedReader" "room" "I") (by decide +kernel)) (fun _ h9 => h9) rfl dX2_open_55 ?_
  refine lv_bipush (v := 7) hx hb dX2_open_58 (by decide) ?_
  refine lv_isub hx hb dX2_open_60 ?_
  refine va_put (D := (dC, dI)) (ci := 1) (v := .int (r_2.2.2 - (7 : Int32))) (ty := .int) (C := RX2) (T := TX2) (N := 7) hx hb hts iw_X2_open_X2 tyX2 tyX2_ok nmX2 hown hK hP hD hS 2 rfl rfl 6 (by decide) (hts (.fieldLink RX2 42 "PlaneBlocks$CodedReader" "room" "I") (by decide +kernel)) (fun _ h9 => h9) rfl (by decide +kernel) rfl rfl (Nat.le_of_ble_eq_true rfl) dX2_open_61 (fun H locs hP hD hS => ?_)
  have hP : va_P (dC, dI) vwCl (wd_row_bytes_cr cI a_row a_bytes a_cr a_ctx row_count row_start bytes_n bytes_f r_2.1 p2 (r_2.2.1 <<< ((7 : Int32) &&& 31)) (32768 : Int32) (r_2.2.2 - (7 : Int32))) H := hP
  have hD : va_D A (wd_row_bytes_cr cI a_row a_bytes a_cr a_ctx row_count row_start bytes_n bytes_f r_2.1 p2 (r_2.2.1 <<< ((7 : Int32) &&& 31)) (32768 : Int32) (r_2.2.2 - (7 : Int32))) := hD
  subst hg
  rw [← hQe]
  exact W.vret hx hb hr (fun t ht hW => ⟨⟨(), rfl, trivial, by rw [ht]; exact hP, va_K.moved hW.alike hK, hD⟩, hS.F ht⟩) hS.2.2 dX2_open_64
abbrev wd_row_bytes_ctx_states_likely_cr (cI : ClassId) (a_row : Nat) (a_bytes : Nat) (a_ctx : Nat) (a_states : Nat) (a_likely : Nat) (a_cr : Nat) (row_count : Int32) (row_start : Int32) (bytes_n : Nat) (bytes_f : Nat → Int32) (states_n : Nat) (states_f : Nat → Int32) (likely_n : Nat) (likely_f : Nat → Int32) (cr_place : Int32) (cr_end : Int32) (cr_window : Int32) (cr_size : Int32) (cr_room : Int32) : va_W := [(a_row, .inr (0, [.ref a_bytes, .int row_count, .int row_start])), (a_bytes, .inl (cI, bytes_n, .inl bytes_f)), (a_ctx, .inr (3, [.ref a_states, .ref a_likely])), (a_states, .inl (cI, states_n, .inl states_f)), (a_likely, .inl (cI, likely_n, .inl likely_f)), (a_cr, .inr (1, [.ref a_row, .ref a_ctx, .int cr_place, .int cr_end, .int cr_window, .int cr_size, .int cr_room]))]
abbrev rm_X2_next : Room := { frames := 2, cells := 0, slots := 0, locals := 44 }
abbrev Q_X2_next (dC : Nat → ClassId) (dI : Nat → Nat → Nat) (cI cJ cZ : ClassId) (a_row : Nat) (a_bytes : Nat) (a_ctx : Nat) (a_states : Nat) (a_likely : Nat) (a_cr : Nat) (A : Nat → Prop) (row_count : Int32) (row_start : Int32) (bytes_n : Nat) (bytes_f : Nat → Int32) (states_n : Nat) (states_f : Nat → Int32) (likely_n : Nat) (likely_f : Nat → Int32) (cr_place : Int32) (cr_end : Int32) (cr_window : Int32) (cr_size : Int32) (cr_room : Int32) (g : (Int32 × (Nat → Int32) × (Nat → Int32) × Int32 × Int32 × Int32 × Int32)) : Array Value → State → Outcome → State → Prop := va_Qi (fun (r : Int32) (_ : Unit) => r = g.1) (fun u t => va_P (dC, dI) vwCl (wd_row_bytes_ctx_states_likely_cr cI a_row a_bytes a_ctx a_states a_likely a_cr row_count row_start bytes_n bytes_f states_n g.2.1 likely_n g.2.2.1 g.2.2.2.1 cr_end g.2.2.2.2.1 g.2.2.2.2.2.1 g.2.2.2.2.2.2) t.heap ∧ va_K (dC, dI) vwCl [(cI, .int), (cJ, .long), (cZ, .boolean)] t ∧ va_D A (wd_row_bytes_ctx_states_likely_cr cI a_row a_bytes a_ctx a_states a_likely a_cr row_count row_start bytes_n bytes_f states_n g.2.1 likely_n g.2.2.1 g.2.2.2.1 cr_end g.2.2.2.2.1 g.2.2.2.2.2.1 g.2.2.2.2.2.2)) A
theorem iw_X2_next_X2 : ∀ w ∈ u_ws RX2 TX2 7, w ∈ wsX2_next := by decide +kernel
set_option maxHeartbeats 4000000 in
set_option maxRecDepth 100000 in
theorem c_X2_next (l : Launch) (dC : Nat → ClassId) (dI : Nat → Nat → Nat) (cI cJ cZ : ClassId) (tP tN tO : Nat) (a_row : Nat) (a_bytes : Nat) (a_ctx : Nat) (a_states : Nat) (a_likely : Nat) (a_cr : Nat) (sz : Nat) (row_count : Int32) (row_start : Int32) (bytes_n : Nat) (bytes_f : Nat → Int32) (states_n : Nat) (states_f : Nat → Int32) (likely_n : Nat) (likely_f : Nat → Int32) (cr_place : Int32) (cr_end : Int32) (cr_window : Int32) (cr_size : Int32) (cr_room : Int32) (p1 : Int32) (p2 : Int32) (hpre : P_X2_next p2 row_count bytes_n bytes_f states_n states_f likely_n likely_f cr_place cr_end cr_window cr_size cr_room) : Met l yX2_next wsX2_next rm_X2_next (va_Pc [.ref a_cr, .int p1, .int p2] (fun U => U.heap.size = sz ∧ va_P (dC, dI) vwCl (wd_row_bytes_ctx_states_likely_cr cI a_row a_bytes a_ctx a_states a_likely a_cr row_count row_start bytes_n bytes_f states_n states_f likely_n likely_f cr_place cr_end cr_window cr_size cr_room) U.heap ∧ va_K (dC, dI) vwCl [(cI, .int), (cJ, .long), (cZ, .boolean)] U ∧ va_D (fun _ => True) (wd_row_bytes_ctx_states_likely_cr cI a_row a_bytes a_ctx a_states a_likely a_cr row_count row_start bytes_n bytes_f states_n states_f likely_n likely_f cr_place cr_end cr_window cr_size cr_room) ∧ Zs tP tN tO (va_A (wd_row_bytes_ctx_states_likely_cr cI a_row a_bytes a_ctx a_states a_likely a_cr row_count row_start bytes_n bytes_f states_n states_f likely_n likely_f cr_place cr_end cr_window cr_size cr_room) sz) U U.heap)) (Q_X2_next dC dI cI cJ cZ a_row a_bytes a_ctx a_states a_likely a_cr (va_A (wd_row_bytes_ctx_states_likely_cr cI a_row a_bytes a_ctx a_states a_likely a_cr row_count row_start bytes_n bytes_f states_n states_f likely_n likely_f cr_place cr_end cr_window cr_size cr_room) sz) row_count row_start bytes_n bytes_f states_n states_f likely_n likely_f cr_place cr_end cr_window cr_size cr_room (F_X2_next p2 row_count bytes_f states_f likely_f cr_place cr_end cr_window cr_size cr_room)) 0 0 (va_A (wd_row_bytes_ctx_states_likely_cr cI a_row a_bytes a_ctx a_states a_likely a_cr row_count row_start bytes_n bytes_f states_n states_f likely_n likely_f cr_place cr_end cr_window cr_size cr_room) sz) := by
  refine Met.ofW (cc := cX2_next) (maxL := 7) (ret := (some .int)) (by decide) rfl ?_
  intro p e s m args below meth c s₁ B hml hv
  obtain ⟨rfl, hsz, hP, hK, hD0, hZ⟩ := hv
  have hx := B.exec
  have hb := B.bytes
  have hr := B.returns
  have hts := atoms_spec (ws := wsX2_next) B.pre
  have hown : s.vm.findClass RX2 = some m.cls := findClass_of_methodNamed B.named
  have hlocks := B.notSynchronized
  subst hsz
  have hD := hD0.self (sz := s.heap.size)
  generalize hAe : va_A (wd_row_bytes_ctx_states_likely_cr cI a_row a_bytes a_ctx a_states a_likely a_cr row_count row_start bytes_n bytes_f states_n states_f likely_n likely_f cr_place cr_end cr_window cr_size cr_room) s.heap.size = A at hD hZ ⊢
  have hA : ∀ q : Nat, s.heap.size ≤ q → A q := fun q h => by rw [← hAe]; exact Or.inr h
  have hS : va_S A s.heap s.heap [] := va_S.rf
  obtain ⟨H, hH⟩ : ∃ z, z = s.heap := ⟨_, rfl⟩
  have hP : va_P (dC, dI) vwCl (wd_row_bytes_ctx_states_likely_cr cI a_row a_bytes a_ctx a_states a_likely a_cr row_count row_start bytes_n bytes_f states_n states_f likely_n likely_f cr_place cr_end cr_window cr_size cr_room) H := by rw [hH]; exact hP
  have hS : va_S A s.heap H [] := by rw [hH]; exact va_S.rf
  obtain ⟨g, hg⟩ : ∃ z, F_X2_next p2 row_count bytes_f states_f likely_f cr_place cr_end cr_window cr_size cr_room = z := ⟨_, rfl⟩
  rw [hg]
  generalize hQe : MQ below (Q_X2_next dC dI cI cJ cZ a_row a_bytes a_ctx a_states a_likely a_cr A row_count row_start bytes_n bytes_f states_n states_f likely_n likely_f cr_place cr_end cr_window cr_size cr_room g) _ s 0 0 A = Q
  rw [← hH]
  clear hH
  have hl := lv_entry ([.ref a_cr, .int p1, .int p2]) (n := 7) (Nat.le_of_ble_eq_true rfl)
  rw [lg_entry_eq]
  generalize (lg_sl ([.ref a_cr, .int p1, .int p2]) ++ List.replicate (7 - (lg_sl ([.ref a_cr, .int p1, .int p2])).length) Slot.unset).toArray = ls at hl ⊢
  have hl : lv_has ls 7 [(0, .ref a_cr), (1, .int p1), (2, .int p2)] := hl
  unfold F_X2_next at hg
  unfold P_X2_next at hpre
  refine lv_aload_n hx hb dX2_next_0 rfl (lv_at hl 0 rfl) ?_
  refine va_get (D := (dC, dI)) (ci := 1) (v := .ref a_ctx) (C := RX2) (T := TX2) (N := 7) hx hb hts iw_X2_next_X2 hown hK hP 5 rfl rfl 1 (by decide) (hts (.fieldLink RX2 15 "PlaneBlocks$CodedReader" "contexts" "LPlaneBlocks$Contexts;") (by decide +kernel)) (fun _ h9 => h9) rfl dX2_next_1 ?_
  refine lv_iload_n hx hb dX2_next_4 rfl (lv_at hl 2 rfl) ?_
  have hPc := hP.sub (ws' := (wd_ctx_states cI a_ctx a_states a_likely states_n states_f)) [2, 3] rfl
  have hDc := hD.sub (ws' := (wd_ctx_states cI a_ctx a_states a_likely states_n states_f)) [2, 3] (by decide) rfl
  have hFc := va_free (wc := (wd_ctx_states cI a_ctx a_states a_likely states_n states_f)) hD hS hA [2, 3] rfl
  refine va_calli (va_runV (As := [.int p2]) (rest := []) ⟨hx, hb, hml, hown, hts⟩ (c_X4_part l dC dI cI cJ cZ tP tN tO a_ctx a_states a_likely H.size states_n states_f p2 hpre.1) (cwV 1 hts gX2_next_X4_part rfl rfl rfl (by decide +kernel) ⟨Nat.le_of_ble_eq_true rfl, Nat.le_of_ble_eq_true rfl⟩) ⟨fun a U g mk q => by obtain ⟨q0, q1, qP, qK, qD, qZ⟩ := q; exact ⟨q0, q1, qP, va_K.moved (u := U) (U := U.calling g mk a) (Vm.Alike.refl U.vm) qK, qD, Zs.moved (u := U) (U := U.calling g mk a) (Vm.Alike.refl U.vm) qZ⟩, va_recv hK hPc (ci := 3) (q0 := 0) rfl rfl, fun U hU hW => ⟨rfl, by rw [hU], by rw [hU]; exact hPc, va_K.moved hW.alike hK, hDc.weaken (fun _ _ _ _ => trivial), by rw [hU]; exact (((hZ.kept hS.2.1).narrow hFc).moved hW.alike)⟩⟩ rfl rfl hl.1 rfl (lv_room (Nat.le_of_ble_eq_true rfl)) dX2_next_5 ⟨Nat.le_of_ble_eq_true rfl, Nat.le_of_ble_eq_true rfl⟩) hS (fun q _ h => hFc q h) hFc (fun r u t H1 locs ht hvm hw hB hz1 hk1 hS => ?_)
  obtain ⟨hP1, hK1, hD1⟩ := hB
  rw [ht] at hP1
  obtain ⟨r_1, hr_1⟩ : ∃ z, F_X4_part p2 states_f = z := ⟨_, rfl⟩
  try rw [hr_1] at hw
  try rw [hr_1] at hP1
  try rw [hr_1] at hD1
  have hg : (let r_2 := F_X4_likelyBit p2 likely_f; if r_1 ≤ ((cr_window.toUInt32 >>> ((16 : Int32).toUInt32 &&& Int32.toUInt32 31)).toInt32) then (if (cr_size - r_1) < (32768 : Int32) then (let j_6 := J_X2_next_j_6 cr_size r_1; let j_10 := J_X2_next_j_10 p2 states_f likely_f j_6; let j_11 := L_X2_next_j_11 row_count bytes_f cr_end fu (0 : Int32) cr_place (cr_window - (r_1 <<< ((16 : Int32) &&& 31))) (cr_size - r_1) cr_room; if j_6 = (0 : Int32) then ((1 : Int32) - r_2, j_10.1, j_10.2, j_11.2.1, j_11.2.2.1, j_11.2.2.2.1, j_11.2.2.2.2) else (r_2, j_10.1, j_10.2, j_11.2.1, j_11.2.2.1, j_11.2.2.2.1, j_11.2.2.2.2)) else (r_2, states_f, likely_f, cr_place, cr_window - (r_1 <<< ((16 : Int32) &&& 31)), cr_size - r_1, cr_room)) else (let j_19 := J_X2_next_j_19 cr_size r_1; let j_23 := J_X2_next_j_23 p2 states_f likely_f j_19; let j_24 := L_X2_next_j_24 row_count bytes_f cr_end fu (0 : Int32) cr_place cr_window r_1 cr_room; if j_19 = (0 : Int32) then ((1 : Int32) - r_2, j_23.1, j_23.2, j_24.2.1, j_24.2.2.1, j_24.2.2.2.1, j_24.2.2.2.2) else (r_2, j_23.1, j_23.2, j_24.2.1, j_24.2.2.1, j_24.2.2.2.1, j_24.2.2.2.2))) = g := by first | (rw [hr_1] at hg; exact hg) | (subst hr_1; exact hg)
  have hw := hw.symm
  subst hw
  obtain ⟨hP, hD⟩ := va_join (wr := [(a_row, .inr (0, [.ref a_bytes, .int row_count, .int row_start])), (a_bytes, .inl (cI, bytes_n, .inl bytes_f)), (a_likely, .inl (cI, likely_n, .inl likely_f)), (a_cr, .inr (1, [.ref a_row, .ref a_ctx, .int cr_place, .int cr_end, .int cr_window, .int cr_size, .int cr_room]))]) (w1 := (wd_ctx_states cI a_ctx a_states a_likely states_n states_f)) hP hD [2, 3] [0, 1, 4, 5] rfl rfl (by decide) (by decide) hk1 hFc hP1 hD1
  have hP : va_P (dC, dI) vwCl (wd_row_bytes_ctx_states_likely_cr cI a_row a_bytes a_ctx a_states a_likely a_cr row_count row_start bytes_n bytes_f states_n states_f likely_n likely_f cr_place cr_end cr_window cr_size cr_room) H1 := hP.sub [0, 1, 4, 5, 2, 3] rfl
  have hD : va_D A (wd_row_bytes_ctx_states_likely_cr cI a_row a_bytes a_ctx a_states a_likely a_cr row_count row_start bytes_n bytes_f states_n states_f likely_n likely_f cr_place cr_end cr_window cr_size cr_room) := hD.sub [0, 1, 4, 5, 2, 3] (by decide) rfl
  generalize H1 = H at hP hS ⊢
  have hpre := hpre.2 r_1 hr_1
  refine lv_istore_n (lv' := [(3, .int r_1), (0, .ref a_cr), (1, .int p1), (2, .int p2)]) hx hb dX2_next_8 rfl hl (by decide) rfl (fun ls hl => ?_)
  refine lv_aload_n hx hb dX2_next_9 rfl (lv_at hl 1 rfl) ?_
  refine va_get (D := (dC, dI)) (ci := 1) (v := .ref a_ctx) (C := RX2) (T := TX2) (N := 7) hx hb hts iw_X2_next_X2 hown hK hP 5 rfl rfl 1 (by decide) (hts (.fieldLink RX2 15 "PlaneBlocks$CodedReader" "contexts" "LPlaneBlocks$Contexts;") (by decide +kernel)) (fun _ h9 => h9) rfl dX2_next_10 ?_
  refine lv_iload_n hx hb dX2_next_13 rfl (lv_at hl 3 rfl) ?_
  have hPc := hP.sub (ws' := (wd_ctx_likely cI a_ctx a_states a_likely likely_n likely_f)) [2, 4] rfl
  have hDc := hD.sub (ws' := (wd_ctx_likely cI a_ctx a_states a_likely likely_n likely_f)) [2, 4] (by decide) rfl
  have hFc := va_free (wc := (wd_ctx_likely cI a_ctx a_states a_likely likely_n likely_f)) hD hS hA [2, 4] rfl
  refine va_calli (va_runV (As := [.int p2]) (rest := []) ⟨hx, hb, hml, hown, hts⟩ (c_X4_likelyBit l dC dI cI cJ cZ a_ctx a_states a_likely H.size likely_n likely_f p2 hpre.1) (cwV 1 hts gX2_next_X4_likelyBit rfl rfl rfl (by decide +kernel) ⟨Nat.le_of_ble_eq_true rfl, Nat.le_of_ble_eq_true rfl⟩) ⟨fun a U g mk q => by obtain ⟨q0, q1, qP, qK, qD⟩ := q; exact ⟨q0, q1, qP, va_K.moved (u := U) (U := U.calling g mk a) (Vm.Alike.refl U.vm) qK, qD⟩, va_recv hK hPc (ci := 3) (q0 := 0) rfl rfl, fun U hU hW => ⟨rfl, by rw [hU], by rw [hU]; exact hPc, va_K.moved hW.alike hK, hDc.weaken (fun _ _ _ _ => trivial)⟩⟩ rfl rfl hl.1 rfl (lv_room (Nat.le_of_ble_eq_true rfl)) dX2_next_14 ⟨Nat.le_of_ble_eq_true rfl, Nat.le_of_ble_eq_true rfl⟩) hS (fun q _ h => hFc q h) hFc (fun r u t H1 locs ht hvm hw hB hz1 hk1 hS => ?_)
  obtain ⟨hP1, hK1, hD1⟩ := hB
  rw [ht] at hP1
  obtain ⟨r_2, hr_2⟩ : ∃ z, F_X4_likelyBit p2 likely_f = z := ⟨_, rfl⟩
  try rw [hr_2] at hw
  try rw [hr_2] at hP1
  try rw [hr_2] at hD1
  have hg : (if r_1 ≤ ((cr_window.toUInt32 >>> ((16 : Int32).toUInt32 &&& Int32.toUInt32 31)).toInt32) then (if (cr_size - r_1) < (32768 : Int32) then (let j_6 := J_X2_next_j_6 cr_size r_1; let j_10 := J_X2_next_j_10 p2 states_f likely_f j_6; let j_11 := L_X2_next_j_11 row_count bytes_f cr_end fu (0 : Int32) cr_place (cr_window - (r_1 <<< ((16 : Int32) &&& 31))) (cr_size - r_1) cr_room; if j_6 = (0 : Int32) then ((1 : Int32) - r_2, j_10.1, j_10.2, j_11.2.1, j_11.2.2.1, j_11.2.2.2.1, j_11.2.2.2.2) else (r_2, j_10.1, j_10.2, j_11.2.1, j_11.2.2.1, j_11.2.2.2.1, j_11.2.2.2.2)) else (r_2, states_f, likely_f, cr_place, cr_window - (r_1 <<< ((16 : Int32) &&& 31)), cr_size - r_1, cr_room)) else (let j_19 := J_X2_next_j_19 cr_size r_1; let j_23 := J_X2_next_j_23 p2 states_f likely_f j_19; let j_24 := L_X2_next_j_24 row_count bytes_f cr_end fu (0 : Int32) cr_place cr_window r_1 cr_room; if j_19 = (0 : Int32) then ((1 : Int32) - r_2, j_23.1, j_23.2, j_24.2.1, j_24.2.2.1, j_24.2.2.2.1, j_24.2.2.2.2) else (r_2, j_23.1, j_23.2, j_24.2.1, j_24.2.2.1, j_24.2.2.2.1, j_24.2.2.2.2))) = g := by first | (rw [hr_2] at hg; exact hg) | (subst hr_2; exact hg)
  have hw := hw.symm
  subst hw
  obtain ⟨hP, hD⟩ := va_join (wr := [(a_row, .inr (0, [.ref a_bytes, .int row_count, .int row_start])), (a_bytes, .inl (cI, bytes_n, .inl bytes_f)), (a_states, .inl (cI, states_n, .inl states_f)), (a_cr, .inr (1, [.ref a_row, .ref a_ctx, .int cr_place, .int cr_end, .int cr_window, .int cr_size, .int cr_room]))]) (w1 := (wd_ctx_likely cI a_ctx a_states a_likely likely_n likely_f)) hP hD [2, 4] [0, 1, 3, 5] rfl rfl (by decide) (by decide) hk1 hFc hP1 hD1
  have hP : va_P (dC, dI) vwCl (wd_row_bytes_ctx_states_likely_cr cI a_row a_bytes a_ctx a_states a_likely a_cr row_count row_start bytes_n bytes_f states_n states_f likely_n likely_f cr_place cr_end cr_window cr_size cr_room) H1 := hP.sub [0, 1, 4, 2, 5, 3] rfl
  have hD : va_D A (wd_row_bytes_ctx_states_likely_cr cI a_row a_bytes a_ctx a_states a_likely a_cr row_count row_start bytes_n bytes_f states_n states_f likely_n likely_f cr_place cr_end cr_window cr_size cr_room) := hD.sub [0, 1, 4, 2, 5, 3] (by decide) rfl
  generalize H1 = H at hP hS ⊢
  have hpre := hpre.2 r_2 hr_2
  refine lv_istore (lv' := [(4, .int r_2), (3, .int r_1), (0, .ref a_cr), (1, .int p1), (2, .int p2)]) hx hb dX2_next_17 hl (by decide) rfl (fun ls hl => ?_)
  refine lv_aload_n hx hb dX2_next_19 rfl (lv_at hl 2 rfl) ?_
  refine lv_dup hx hb dX2_next_20 rfl ?_
  refine va_get (D := (dC, dI)) (ci := 1) (v := .int cr_size) (C := RX2) (T := TX2) (N := 7) hx hb hts iw_X2_next_X2 hown hK hP 5 rfl rfl 5 (by decide) (hts (.fieldLink RX2 36 "PlaneBlocks$CodedReader" "size" "I") (by decide +kernel)) (fun _ h9 => h9) rfl dX2_next_21 ?_
  refine lv_iload_n hx hb dX2_next_24 rfl (lv_at hl 1 rfl) ?_
  refine lv_isub hx hb dX2_next_25 ?_
  refine va_put (D := (dC, dI)) (ci := 1) (v := .int (cr_size - r_1)) (ty := .int) (C := RX2) (T := TX2) (N := 7) hx hb hts iw_X2_next_X2 tyX2 tyX2_ok nmX2 hown hK hP hD hS 5 rfl rfl 5 (by decide) (hts (.fieldLink RX2 36 "PlaneBlocks$CodedReader" "size" "I") (by decide +kernel)) (fun _ h9 => h9) rfl (by decide +kernel) rfl rfl (Nat.le_of_ble_eq_true rfl) dX2_next_26 (fun H locs hP hD hS => ?_)
  have hP : va_P (dC, dI) vwCl (wd_row_bytes_ctx_states_likely_cr cI a_row a_bytes a_ctx a_states a_likely a_cr row_count row_start bytes_n bytes_f states_n states_f likely_n likely_f cr_place cr_end cr_window (cr_size - r_1) cr_room) H := hP
  have hD : va_D A (wd_row_bytes_ctx_states_likely_cr cI a_row a_bytes a_ctx a_states a_likely a_cr row_count row_start bytes_n bytes_f states_n states_f likely_n likely_f cr_place cr_end cr_window (cr_size - r_1) cr_room) := hD
  refine lv_aload_n hx hb dX2_next_29 rfl (lv_at hl 2 rfl) ?_
  refine va_get (D := (dC, dI)) (ci := 1) (v := .int cr_window) (C := RX2) (T := TX2) (N := 7) hx hb hts iw_X2_next_X2 hown hK hP 5 rfl rfl 4 (by decide) (hts (.fieldLink RX2 32 "PlaneBlocks$CodedReader" "window" "I") (by decide +kernel)) (fun _ h9 => h9) rfl dX2_next_30 ?_
  refine lv_bipush (v := 16) hx hb dX2_next_33 (by decide) ?_
  refine lv_iushr hx hb dX2_next_35 rfl ?_
  refine lv_iload_n hx hb dX2_next_36 rfl (lv_at hl 1 rfl) ?_
  refine lv_icmp_ge (tgt := 63) hx hb dX2_next_37 (by decide) (fun c_3 => ?_) (fun c_3 => ?_)
  · rw [if_pos c_3] at hg
    have hpre := hpre.1 c_3
    refine lv_aload_n hx hb dX2_next_63 rfl (lv_at hl 2 rfl) ?_
    refine lv_dup hx hb dX2_next_64 rfl ?_
    refine va_get (D := (dC, dI)) (ci := 1) (v := .int cr_window) (C := RX2) (T := TX2) (N := 7) hx hb hts iw_X2_next_X2 hown hK hP 5 rfl rfl 4 (by decide) (hts (.fieldLink RX2 32 "PlaneBlocks$CodedReader" "window" "I") (by decide +kernel)) (fun _ h9 => h9) rfl dX2_next_65 ?_
    refine lv_iload_n hx hb dX2_next_68 rfl (lv_at hl 1 rfl) ?_
    refine lv_bipush (v := 16) hx hb dX2_next_69 (by decide) ?_
    refine lv_ishl hx hb dX2_next_71 ?_
    refine lv_isub hx hb dX2_next_72 ?_
    refine va_put (D := (dC, dI)) (ci := 1) (v := .int (cr_window - (r_1 <<< ((16 : Int32) &&& 31)))) (ty := .int) (C := RX2) (T := TX2) (N := 7) hx hb hts iw_X2_next_X2 tyX2 tyX2_ok nmX2 hown hK hP hD hS 5 rfl rfl 4 (by decide) (hts (.fieldLink RX2 32 "PlaneBlocks$CodedReader" "window" "I") (by decide +kernel)) (fun _ h9 => h9) rfl (by decide +kernel) rfl rfl (Nat.le_of_ble_eq_true rfl) dX2_next_73 (fun H locs hP hD hS => ?_)
    have hP : va_P (dC, dI) vwCl (wd_row_bytes_ctx_states_likely_cr cI a_row a_bytes a_ctx a_states a_likely a_cr row_count row_start bytes_n bytes_f states_n states_f likely_n likely_f cr_place cr_end (cr_window - (r_1 <<< ((16 : Int32) &&& 31))) (cr_size - r_1) cr_room) H := hP
    have hD : va_D A (wd_row_bytes_ctx_states_likely_cr cI a_row a_bytes a_ctx a_states a_likely a_cr row_count row_start bytes_n bytes_f states_n states_f likely_n likely_f cr_place cr_end (cr_window - (r_1 <<< ((16 : Int32) &&& 31))) (cr_size - r_1) cr_room) := hD
    refine lv_aload_n hx hb dX2_next_76 rfl (lv_at hl 2 rfl) ?_
    refine va_get (D := (dC, dI)) (ci := 1) (v := .int (cr_size - r_1)) (C := RX2) (T := TX2) (N := 7) hx hb hts iw_X2_next_X2 hown hK hP 5 rfl rfl 5 (by decide) (hts (.fieldLink RX2 36 "PlaneBlocks$CodedReader" "size" "I") (by decide +kernel)) (fun _ h9 => h9) rfl dX2_next_77 ?_
    refine lv_ldc (v := 32768) hx hb hown (hts (.constant RX2 35 (32768)) (by decide +kernel)) dX2_next_80 ?_
    refine lv_icmp_lt (tgt := 88) hx hb dX2_next_82 (by decide) (fun c_4 => ?_) (fun c_4 => ?_)
    · rw [if_pos c_4] at hg
      have hpre := hpre c_4
      refine lv_aload_n hx hb dX2_next_88 rfl (lv_at hl 2 rfl) ?_
      refine va_get (D := (dC, dI)) (ci := 1) (v := .int (cr_size - r_1)) (C := RX2) (T := TX2) (N := 7) hx hb hts iw_X2_next_X2 hown hK hP 5 rfl rfl 5 (by decide) (hts (.fieldLink RX2 36 "PlaneBlocks$CodedReader" "size" "I") (by decide +kernel)) (fun _ h9 => h9) rfl dX2_next_89 ?_
      refine lv_iload_n hx hb dX2_next_92 rfl (lv_at hl 1 rfl) ?_
      obtain ⟨j_6, hj_6⟩ : ∃ z, J_X2_next_j_6 cr_size r_1 = z := ⟨_, rfl⟩
      have hg : (let j_10 := J_X2_next_j_10 p2 states_f likely_f j_6; let j_11 := L_X2_next_j_11 row_count bytes_f cr_end fu (0 : Int32) cr_place (cr_window - (r_1 <<< ((16 : Int32) &&& 31))) (cr_size - r_1) cr_room; if j_6 = (0 : Int32) then ((1 : Int32) - r_2, j_10.1, j_10.2, j_11.2.1, j_11.2.2.1, j_11.2.2.2.1, j_11.2.2.2.2) else (r_2, j_10.1, j_10.2, j_11.2.1, j_11.2.2.1, j_11.2.2.2.1, j_11.2.2.2.2)) = g := by first | (rw [hj_6] at hg; exact hg) | (subst hj_6; exact hg)
      have hJ_j_6 : ∀ (H : Heap) (locs : List Loc) (ls : Array Slot), va_P (dC, dI) vwCl (wd_row_bytes_ctx_states_likely_cr cI a_row a_bytes a_ctx a_states a_likely a_cr row_count row_start bytes_n bytes_f states_n states_f likely_n likely_f cr_place cr_end (cr_window - (r_1 <<< ((16 : Int32) &&& 31))) (cr_size - r_1) cr_room) H → va_D A (wd_row_bytes_ctx_states_likely_cr cI a_row a_bytes a_ctx a_states a_likely a_cr row_count row_start bytes_n bytes_f states_n states_f likely_n likely_f cr_place cr_end (cr_window - (r_1 <<< ((16 : Int32) &&& 31))) (cr_size - r_1) cr_room) → va_S A s.heap H locs → lv_has ls 7 [(0, .ref a_cr), (1, .int p1), (2, .int p2), (3, .int r_1), (4, .int r_2)] → W p l e (headSpec wsX2_next rm_X2_next).room s m ([.ref a_cr, .int p1, .int p2] : List Value).toArray below meth c H locs 0 0 Q (F0 m 101 ls [.int j_6]) := by
        intro H locs ls hP hD hS hl
        have hpre := hpre j_6 hj_6
        refine lv_istore (lv' := [(5, .int j_6), (0, .ref a_cr), (1, .int p1), (2, .int p2), (3, .int r_1), (4, .int r_2)]) hx hb dX2_next_101 hl (by decide) rfl (fun ls hl => ?_)
        refine lv_iload hx hb dX2_next_103 (lv_at hl 0 rfl) ?_
        obtain ⟨j_10, hj_10⟩ : ∃ z, J_X2_next_j_10 p2 states_f likely_f j_6 = z := ⟨_, rfl⟩
        have hg : (let j_11 := L_X2_next_j_11 row_count bytes_f cr_end fu (0 : Int32) cr_place (cr_window - (r_1 <<< ((16 : Int32) &&& 31))) (cr_size - r_1) cr_room; if j_6 = (0 : Int32) then ((1 : Int32) - r_2, j_10.1, j_10.2, j_11.2.1, j_11.2.2.1, j_11.2.2.2.1, j_11.2.2.2.2) else (r_2, j_10.1, j_10.2, j_11.2.1, j_11.2.2.1, j_11.2.2.2.1, j_11.2.2.2.2)) = g := by first | (rw [hj_10] at hg; exact hg) | (subst hj_10; exact hg)
        have hJ_j_10 : ∀ (H : Heap) (locs : List Loc) (ls : Array Slot), va_P (dC, dI) vwCl (wd_row_bytes_ctx_states_likely_cr cI a_row a_bytes a_ctx a_states a_likely a_cr row_count row_start bytes_n bytes_f states_n j_10.1 likely_n j_10.2 cr_place cr_end (cr_window - (r_1 <<< ((16 : Int32) &&& 31))) (cr_size - r_1) cr_room) H → va_D A (wd_row_bytes_ctx_states_likely_cr cI a_row a_bytes a_ctx a_states a_likely a_cr row_count row_start bytes_n bytes_f states_n j_10.1 likely_n j_10.2 cr_place cr_end (cr_window - (r_1 <<< ((16 : Int32) &&& 31))) (cr_size - r_1) cr_room) → va_S A s.heap H locs → lv_has ls 7 [(0, .ref a_cr), (1, .int p1), (2, .int p2), (3, .int r_1), (4, .int r_2), (5, .int j_6)] → W p l e (headSpec wsX2_next rm_X2_next).room s m ([.ref a_cr, .int p1, .int p2] : List Value).toArray below meth c H locs 0 0 Q (F0 m 127 ls []) := by
          intro H locs ls hP hD hS hl
          have hpre := hpre.2 j_10 hj_10
          refine lv_iconst (v := 0) hx hb dX2_next_127 (by decide) ?_
          refine lv_istore (lv' := [(6, .int (0 : Int32)), (0, .ref a_cr), (1, .int p1), (2, .int p2), (3, .int r_1), (4, .int r_2), (5, .int j_6)]) hx hb dX2_next_128 hl (by decide) rfl (fun ls hl => ?_)
          obtain ⟨j_11, hj_11⟩ : ∃ z, L_X2_next_j_11 row_count bytes_f cr_end fu (0 : Int32) cr_place (cr_window - (r_1 <<< ((16 : Int32) &&& 31))) (cr_size - r_1) cr_room = z := ⟨_, rfl⟩
          have hg : (if j_6 = (0 : Int32) then ((1 : Int32) - r_2, j_10.1, j_10.2, j_11.2.1, j_11.2.2.1, j_11.2.2.2.1, j_11.2.2.2.2) else (r_2, j_10.1, j_10.2, j_11.2.1, j_11.2.2.1, j_11.2.2.2.1, j_11.2.2.2.2)) = g := by first | (rw [hj_11] at hg; exact hg) | (subst hj_11; exact hg)
          have hJ_j_11 : ∀ (H : Heap) (locs : List Loc) (ls : Array Slot), va_P (dC, dI) vwCl (wd_row_bytes_ctx_states_likely_cr cI a_row a_bytes a_ctx a_states a_likely a_cr row_count row_start bytes_n bytes_f states_n j_10.1 likely_n j_10.2 j_11.2.1 cr_end j_11.2.2.1 j_11.2.2.2.1 j_11.2.2.2.2) H → va_D A (wd_row_bytes_ctx_states_likely_cr cI a_row a_bytes a_ctx a_states a_likely a_cr row_count row_start bytes_n bytes_f states_n j_10.1 likely_n j_10.2 j_11.2.1 cr_end j_11.2.2.1 j_11.2.2.2.1 j_11.2.2.2.2) → va_S A s.heap H locs → lv_has ls 7 [(0, .ref a_cr), (1, .int p1), (2, .int p2), (3, .int r_1), (4, .int r_2), (5, .int j_6), (6, .int j_11.1)] → W p l e (headSpec wsX2_next rm_X2_next).room s m ([.ref a_cr, .int p1, .int p2] : List Value).toArray below meth c H locs 0 0 Q (F0 m 193 ls []) := by
            intro H locs ls hP hD hS hl
            refine lv_iload hx hb dX2_next_193 (lv_at hl 5 rfl) ?_
            refine lv_if_eq (tgt := 203) hx hb dX2_next_195 (by decide) (fun c_17 => ?_) (fun c_17 => ?_)
            · rw [if_pos c_17] at hg
              refine lv_iconst (v := 1) hx hb dX2_next_203 (by decide) ?_
              refine lv_iload hx hb dX2_next_204 (lv_at hl 4 rfl) ?_
              refine lv_isub hx hb dX2_next_206 ?_
              subst hg
              rw [← hQe]
              exact W.iret (v := ((1 : Int32) - r_2)) hx hb hr (fun t ht hW => ⟨⟨((1 : Int32) - r_2), (), rfl, rfl, by rw [ht]; exact hP, va_K.moved hW.alike hK, hD⟩, hS.F ht⟩) hS.2.2 dX2_next_207
            · rw [if_neg c_17] at hg
              refine lv_iload hx hb dX2_next_198 (lv_at hl 4 rfl) ?_
              refine lv_goto (tgt := 207) hx hb dX2_next_200 (by decide) ?_
              subst hg
              rw [← hQe]
              exact W.iret (v := r_2) hx hb hr (fun t ht hW => ⟨⟨r_2, (), rfl, rfl, by rw [ht]; exact hP, va_K.moved hW.alike hK, hD⟩, hS.F ht⟩) hS.2.2 dX2_next_207
          have hL_j_11 : ∀ (n : Nat) (v6_j_11 : Int32) (cr_place_j_11 : Int32) (cr_window_j_11 : Int32) (cr_size_j_11 : Int32) (cr_room_j_11 : Int32) (H : Heap) (locs : List Loc) (ls : Array Slot), PL_X2_next_j_11 row_count bytes_n bytes_f cr_end n v6_j_11 cr_place_j_11 cr_window_j_11 cr_size_j_11 cr_room_j_11 → L_X2_next_j_11 row_count bytes_f cr_end n v6_j_11 cr_place_j_11 cr_window_j_11 cr_size_j_11 cr_room_j_11 = j_11 → va_P (dC, dI) vwCl (wd_row_bytes_ctx_states_likely_cr cI a_row a_bytes a_ctx a_states a_likely a_cr row_count row_start bytes_n bytes_f states_n j_10.1 likely_n j_10.2 cr_place_j_11 cr_end cr_window_j_11 cr_size_j_11 cr_room_j_11) H → va_D A (wd_row_bytes_ctx_states_likely_cr cI a_row a_bytes a_ctx a_states a_likely a_cr row_count row_start bytes_n bytes_f states_n j_10.1 likely_n j_10.2 cr_place_j_11 cr_end cr_window_j_11 cr_size_j_11 cr_room_j_11) → va_S A s.heap H locs → lv_has ls 7 [(0, .ref a_cr), (1, .int p1), (2, .int p2), (3, .int r_1), (4, .int r_2), (5, .int j_6), (6, .int v6_j_11)] → W p l e (headSpec wsX2_next rm_X2_next).room s m ([.ref a_cr, .int p1, .int p2] : List Value).toArray below meth c H locs 0 0 Q (F0 m 130 ls []) := by
            intro n
            induction n with
            | zero => intro v6_j_11 cr_place_j_11 cr_window_j_11 cr_size_j_11 cr_room_j_11 H locs ls hpre; exact absurd hpre id
            | succ n ih =>
              intro v6_j_11 cr_place_j_11 cr_window_j_11 cr_size_j_11 cr_room_j_11 H locs ls hpre hg hP hD hS hl
              rw [PL_X2_next_j_11] at hpre
              rw [L_X2_next_j_11] at hg
              refine lv_iload hx hb dX2_next_130 (lv_at hl 6 rfl) ?_
              refine lv_bipush (v := 15) hx hb dX2_next_132 (by decide) ?_
              refine lv_icmp_ge (tgt := 193) hx hb dX2_next_134 (by decide) (fun c_12 => ?_) (fun c_12 => ?_)
              · rw [if_pos c_12] at hg
                exact hJ_j_11 _ _ _ (by rw [← hg]; exact hP) (by rw [← hg]; exact hD) hS (by rw [← hg]; exact lv_sub hl [0, 1, 2, 3, 4, 5, 6] rfl)
              · rw [if_neg c_12] at hg
                have hpre := hpre c_12
                refine lv_aload_n hx hb dX2_next_137 rfl (lv_at hl 0 rfl) ?_
                refine va_get (D := (dC, dI)) (ci := 1) (v := .int cr_size_j_11) (C := RX2) (T := TX2) (N := 7) hx hb hts iw_X2_next_X2 hown hK hP 5 rfl rfl 5 (by decide) (hts (.fieldLink RX2 36 "PlaneBlocks$CodedReader" "size" "I") (by decide +kernel)) (fun _ h9 => h9) rfl dX2_next_138 ?_
                refine lv_ldc (v := 32768) hx hb hown (hts (.constant RX2 35 (32768)) (by decide +kernel)) dX2_next_141 ?_
                refine lv_icmp_ge (tgt := 193) hx hb dX2_next_143 (by decide) (fun c_13 => ?_) (fun c_13 => ?_)
                · rw [if_pos c_13] at hg
                  exact hJ_j_11 _ _ _ (by rw [← hg]; exact hP) (by rw [← hg]; exact hD) hS (by rw [← hg]; exact lv_sub hl [0, 1, 2, 3, 4, 5, 6] rfl)
                · rw [if_neg c_13] at hg
                  have hpre := hpre c_13
                  refine lv_aload_n hx hb dX2_next_146 rfl (lv_at hl 0 rfl) ?_
                  refine va_get (D := (dC, dI)) (ci := 1) (v := .int cr_room_j_11) (C := RX2) (T := TX2) (N := 7) hx hb hts iw_X2_next_X2 hown hK hP 5 rfl rfl 6 (by decide) (hts (.fieldLink RX2 42 "PlaneBlocks$CodedReader" "room" "I") (by decide +kernel)) (fun _ h9 => h9) rfl dX2_next_147 ?_
                  obtain ⟨j_16, hj_16⟩ : ∃ z, J_X2_next_j_16 row_count bytes_f cr_end cr_place_j_11 cr_window_j_11 cr_room_j_11 = z := ⟨_, rfl⟩
                  have hg : (L_X2_next_j_11 row_count bytes_f cr_end n (v6_j_11 + (1 : Int32)) j_16.1 (j_16.2.1 * (2 : Int32)) (cr_size_j_11 * (2 : Int32)) (j_16.2.2 - (1 : Int32))) = j_11 := by first | (rw [hj_16] at hg; exact hg) | (subst hj_16; exact hg)
                  have hJ_j_16 : ∀ (H : Heap) (locs : List Loc) (ls : Array Slot), va_P (dC, dI) vwCl (wd_row_bytes_ctx_states_likely_cr cI a_row a_bytes a_ctx a_states a_likely a_cr row_count row_start bytes_n bytes_f states_n j_10.1 likely_n j_10.2 j_16.1 cr_end j_16.2.1 cr_size_j_11 j_16.2.2) H → va_D A (wd_row_bytes_ctx_states_likely_cr cI a_row a_bytes a_ctx a_states a_likely a_cr row_count row_start bytes_n bytes_f states_n j_10.1 likely_n j_10.2 j_16.1 cr_end j_16.2.1 cr_size_j_11 j_16.2.2) → va_S A s.heap H locs → lv_has ls 7 [(0, .ref a_cr), (1, .int p1), (2, .int p2), (3, .int r_1), (4, .int r_2), (5, .int j_6), (6, .int v6_j_11)] → W p l e (headSpec wsX2_next rm_X2_next).room s m ([.ref a_cr, .int p1, .int p2] : List Value).toArray below meth c H locs 0 0 Q (F0 m 157 ls []) := by
                    intro H locs ls hP hD hS hl
                    have hpre := hpre.2 j_16 hj_16
                    refine lv_aload_n hx hb dX2_next_157 rfl (lv_at hl 0 rfl) ?_
                    refine lv_dup hx hb dX2_next_158 rfl ?_
                    refine va_get (D := (dC, dI)) (ci := 1) (v := .int cr_size_j_11) (C := RX2) (T := TX2) (N := 7) hx hb hts iw_X2_next_X2 hown hK hP 5 rfl rfl 5 (by decide) (hts (.fieldLink RX2 36 "PlaneBlocks$CodedReader" "size" "I") (by decide +kernel)) (fun _ h9 => h9) rfl dX2_next_159 ?_
                    refine lv_iconst (v := 2) hx hb dX2_next_162 (by decide) ?_
                    refine lv_imul hx hb dX2_next_163 ?_
                    refine va_put (D := (dC, dI)) (ci := 1) (v := .int (cr_size_j_11 * (2 : Int32))) (ty := .int) (C := RX2) (T := TX2) (N := 7) hx hb hts iw_X2_next_X2 tyX2 tyX2_ok nmX2 hown hK hP hD hS 5 rfl rfl 5 (by decide) (hts (.fieldLink RX2 36 "PlaneBlocks$CodedReader" "size" "I") (by decide +kernel)) (fun _ h9 => h9) rfl (by decide +kernel) rfl rfl (Nat.le_of_ble_eq_true rfl) dX2_next_164 (fun H locs hP hD hS => ?_)
                    have hP : va_P (dC, dI) vwCl (wd_row_bytes_ctx_states_likely_cr cI a_row a_bytes a_ctx a_states a_likely a_cr row_count row_start bytes_n bytes_f states_n j_10.1 likely_n j_10.2 j_16.1 cr_end j_16.2.1 (cr_size_j_11 * (2 : Int32)) j_16.2.2) H := hP
                    have hD : va_D A (wd_row_bytes_ctx_states_likely_cr cI a_row a_bytes a_ctx a_states a_likely a_cr row_count row_start bytes_n bytes_f states_n j_10.1 likely_n j_10.2 j_16.1 cr_end j_16.2.1 (cr_size_j_11 * (2 : Int32)) j_16.2.2) := hD
                    refine lv_aload_n hx hb dX2_next_167 rfl (lv_at hl 0 rfl) ?_
                    refine lv_dup hx hb dX2_next_168 rfl ?_
                    refine va_get (D := (dC, dI)) (ci := 1) (v := .int j_16.2.1) (C := RX2) (T := TX2) (N := 7) hx hb hts iw_X2_next_X2 hown hK hP 5 rfl rfl 4 (by decide) (hts (.fieldLink RX2 32 "PlaneBlocks$CodedReader" "window" "I") (by decide +kernel)) (fun _ h9 => h9) rfl dX2_next_169 ?_
                    refine lv_iconst (v := 2) hx hb dX2_next_172 (by decide) ?_
                    refine lv_imul hx hb dX2_next_173 ?_
                    refine va_put (D := (dC, dI)) (ci := 1) (v := .int (j_16.2.1 * (2 : Int32))) (ty := .int) (C := RX2) (T := TX2) (N := 7) hx hb hts iw_X2_next_X2 tyX2 tyX2_ok nmX2 hown hK hP hD hS 5 rfl rfl 4 (by decide) (hts (.fieldLink RX2 32 "PlaneBlocks$CodedReader" "window" "I") (by decide +kernel)) (fun _ h9 => h9) rfl (by decide +kernel) rfl rfl (Nat.le_of_ble_eq_true rfl) dX2_next_174 (fun H locs hP hD hS => ?_)
                    have hP : va_P (dC, dI) vwCl (wd_row_bytes_ctx_states_likely_cr cI a_row a_bytes a_ctx a_states a_likely a_cr row_count row_start bytes_n bytes_f states_n j_10.1 likely_n j_10.2 j_16.1 cr_end (j_16.2.1 * (2 : Int32)) (cr_size_j_11 * (2 : Int32)) j_16.2.2) H := hP
                    have hD : va_D A (wd_row_bytes_ctx_states_likely_cr cI a_row a_bytes a_ctx a_states a_likely a_cr row_count row_start bytes_n bytes_f states_n j_10.1 likely_n j_10.2 j_16.1 cr_end (j_16.2.1 * (2 : Int32)) (cr_size_j_11 * (2 : Int32)) j_16.2.2) := hD
                    refine lv_aload_n hx hb dX2_next_177 rfl (lv_at hl 0 rfl) ?_
                    refine lv_dup hx hb dX2_next_178 rfl ?_
                    refine va_get (D := (dC, dI)) (ci := 1) (v := .int j_16.2.2) (C := RX2) (T := TX2) (N := 7) hx hb hts iw_X2_next_X2 hown hK hP 5 rfl rfl 6 (by decide) (hts (.fieldLink RX2 42 "PlaneBlocks$CodedReader" "room" "I") (by decide +kernel)) (fun _ h9 => h9) rfl dX2_next_179 ?_
                    refine lv_iconst (v := 1) hx hb dX2_next_182 (by decide) ?_
                    refine lv_isub hx hb dX2_next_183 ?_
                    refine va_put (D := (dC, dI)) (ci := 1) (v := .int (j_16.2.2 - (1 : Int32))) (ty := .int) (C := RX2) (T := TX2) (N := 7) hx hb hts iw_X2_next_X2 tyX2 tyX2_ok nmX2 hown hK hP hD hS 5 rfl rfl 6 (by decide) (hts (.fieldLink RX2 42 "PlaneBlocks$CodedReader" "room" "I") (by decide +kernel)) (fun _ h9 => h9) rfl (by decide +kernel) rfl rfl (Nat.le_of_ble_eq_true rfl) dX2_next_184 (fun H locs hP hD hS => ?_)
                    have hP : va_P (dC, dI) vwCl (wd_row_bytes_ctx_states_likely_cr cI a_row a_bytes a_ctx a_states a_likely a_cr row_count row_start bytes_n bytes_f states_n j_10.1 likely_n j_10.2 j_16.1 cr_end (j_16.2.1 * (2 : Int32)) (cr_size_j_11 * (2 : Int32)) (j_16.2.2 - (1 : Int32))) H := hP
                    have hD : va_D A (wd_row_bytes_ctx_states_likely_cr cI a_row a_bytes a_ctx a_states a_likely a_cr row_count row_start bytes_n bytes_f states_n j_10.1 likely_n j_10.2 j_16.1 cr_end (j_16.2.1 * (2 : Int32)) (cr_size_j_11 * (2 : Int32)) (j_16.2.2 - (1 : Int32))) := hD
                    refine lv_iinc (v := (v6_j_11 + (1 : Int32))) (lv' := [(6, .int (v6_j_11 + (1 : Int32))), (0, .ref a_cr), (1, .int p1), (2, .int p2), (3, .int r_1), (4, .int r_2), (5, .int j_6)]) hx hb dX2_next_187 hl (k := 6) rfl rfl (by decide) rfl (fun ls hl => ?_)
                    refine lv_goto (tgt := 130) hx hb dX2_next_190 (by decide) ?_
                    exact ih (v6_j_11 + (1 : Int32)) j_16.1 (j_16.2.1 * (2 : Int32)) (cr_size_j_11 * (2 : Int32)) (j_16.2.2 - (1 : Int32)) _ _ _ hpre hg hP hD hS (lv_sub hl [1, 2, 3, 4, 5, 6, 0] rfl)
                  have hpre := hpre.1
                  unfold PJ_X2_next_j_16 at hpre
                  have hg : (if cr_room_j_11 = (0 : Int32) then (let r_15 := F_X2_byteIn row_count bytes_f cr_place_j_11 cr_end cr_window_j_11; (r_15.1, r_15.2.1, r_15.2.2)) else (cr_place_j_11, cr_window_j_11, cr_room_j_11)) = j_16 := by rw [← hj_16]; rfl
                  clear hj_16
                  refine lv_if_ne (tgt := 157) hx hb dX2_next_150 (by decide) (fun c_14 => ?_) (fun c_14 => ?_)
                  · rw [if_neg c_14] at hg
                    exact hJ_j_16 _ _ _ (by rw [← hg]; exact hP) (by rw [← hg]; exact hD) hS (lv_sub hl [0, 1, 2, 3, 4, 5, 6] rfl)
                  · rw [if_pos c_14] at hg
                    have hpre := hpre c_14
                    refine lv_aload_n hx hb dX2_next_153 rfl (lv_at hl 0 rfl) ?_
                    have hPc := hP.sub (ws' := (wd_row_bytes_cr cI a_row a_bytes a_cr a_ctx row_count row_start bytes_n bytes_f cr_place_j_11 cr_end cr_window_j_11 cr_size_j_11 cr_room_j_11)) [0, 1, 5] rfl
                    have hDc := hD.sub (ws' := (wd_row_bytes_cr cI a_row a_bytes a_cr a_ctx row_count row_start bytes_n bytes_f cr_place_j_11 cr_end cr_window_j_11 cr_size_j_11 cr_room_j_11)) [0, 1, 5] (by decide) rfl
                    have hFc := va_free (wc := (wd_row_bytes_cr cI a_row a_bytes a_cr a_ctx row_count row_start bytes_n bytes_f cr_place_j_11 cr_end cr_window_j_11 cr_size_j_11 cr_room_j_11)) hD hS hA [0, 1, 5] rfl
                    refine va_callv (va_runV (As := []) (rest := []) ⟨hx, hb, hml, hown, hts⟩ (c_X2_byteIn l dC dI cI cJ cZ a_row a_bytes a_cr a_ctx H.size row_count row_start bytes_n bytes_f cr_place_j_11 cr_end cr_window_j_11 cr_size_j_11 cr_room_j_11 hpre) (cwV 0 hts gX2_next_X2_byteIn rfl rfl rfl (by decide +kernel) ⟨Nat.le_of_ble_eq_true rfl, Nat.le_of_ble_eq_true rfl⟩) ⟨fun a U g mk q => by obtain ⟨q0, q1, qP, qK, qD⟩ := q; exact ⟨q0, q1, qP, va_K.moved (u := U) (U := U.calling g mk a) (Vm.Alike.refl U.vm) qK, qD⟩, va_recv hK hPc (ci := 1) (q0 := 2) rfl rfl, fun U hU hW => ⟨rfl, by rw [hU], by rw [hU]; exact hPc, va_K.moved hW.alike hK, hDc.weaken (fun _ _ _ _ => trivial)⟩⟩ rfl rfl hl.1 rfl (lv_room (Nat.le_of_ble_eq_true rfl)) dX2_next_154 ⟨Nat.le_of_ble_eq_true rfl, Nat.le_of_ble_eq_true rfl⟩) hS (fun q _ h => hFc q h) hFc (fun u t H1 locs ht hvm hw hB hz1 hk1 hS => ?_)
                    obtain ⟨hP1, hK1, hD1⟩ := hB
                    rw [ht] at hP1
                    obtain ⟨r_15, hr_15⟩ : ∃ z, F_X2_byteIn row_count bytes_f cr_place_j_11 cr_end cr_window_j_11 = z := ⟨_, rfl⟩
                    try rw [hr_15] at hw
                    try rw [hr_15] at hP1
                    try rw [hr_15] at hD1
                    have hg : (r_15.1, r_15.2.1, r_15.2.2) = j_16 := by first | (rw [hr_15] at hg; exact hg) | (subst hr_15; exact hg)
                    obtain ⟨hP, hD⟩ := va_join (wr := [(a_ctx, .inr (3, [.ref a_states, .ref a_likely])), (a_states, .inl (cI, states_n, .inl j_10.1)), (a_likely, .inl (cI, likely_n, .inl j_10.2))]) (w1 := (wd_row_bytes_cr cI a_row a_bytes a_cr a_ctx row_count row_start bytes_n bytes_f r_15.1 cr_end r_15.2.1 cr_size_j_11 r_15.2.2)) hP hD [0, 1, 5] [2, 3, 4] rfl rfl (by decide) (by decide) hk1 hFc hP1 hD1
                    have hP : va_P (dC, dI) vwCl (wd_row_bytes_ctx_states_likely_cr cI a_row a_bytes a_ctx a_states a_likely a_cr row_count row_start bytes_n bytes_f states_n j_10.1 likely_n j_10.2 r_15.1 cr_end r_15.2.1 cr_size_j_11 r_15.2.2) H1 := hP.sub [3, 4, 0, 1, 2, 5] rfl
                    have hD : va_D A (wd_row_bytes_ctx_states_likely_cr cI a_row a_bytes a_ctx a_states a_likely a_cr row_count row_start bytes_n bytes_f states_n j_10.1 likely_n j_10.2 r_15.1 cr_end r_15.2.1 cr_size_j_11 r_15.2.2) := hD.sub [3, 4, 0, 1, 2, 5] (by decide) rfl
                    generalize H1 = H at hP hS ⊢
                    exact hJ_j_16 _ _ _ (by rw [← hg]; exact hP) (by rw [← hg]; exact hD) hS (lv_sub hl [0, 1, 2, 3, 4, 5, 6] rfl)
          exact hL_j_11 fu (0 : Int32) cr_place (cr_window - (r_1 <<< ((16 : Int32) &&& 31))) (cr_size - r_1) cr_room _ _ _ hpre hj_11 hP hD hS (lv_sub hl [1, 2, 3, 4, 5, 6, 0] rfl)
        have hpre := hpre.1
        unfold PJ_X2_next_j_10 at hpre
        have hg : (if j_6 = (0 : Int32) then (let r_8 := F_X4_otherCame p2 states_f likely_f; (r_8.1, r_8.2)) else (let r_9 := F_X4_likelyCame p2 states_f; (r_9, likely_f))) = j_10 := by rw [← hj_10]; rfl
        clear hj_10
        refine lv_if_eq (tgt := 119) hx hb dX2_next_105 (by decide) (fun c_7 => ?_) (fun c_7 => ?_)
        · rw [if_pos c_7] at hg
          have hpre := hpre.1 c_7
          refine lv_aload_n hx hb dX2_next_119 rfl (lv_at hl 1 rfl) ?_
          refine va_get (D := (dC, dI)) (ci := 1) (v := .ref a_ctx) (C := RX2) (T := TX2) (N := 7) hx hb hts iw_X2_next_X2 hown hK hP 5 rfl rfl 1 (by decide) (hts (.fieldLink RX2 15 "PlaneBlocks$CodedReader" "contexts" "LPlaneBlocks$Contexts;") (by decide +kernel)) (fun _ h9 => h9) rfl dX2_next_120 ?_
          refine lv_iload_n hx hb dX2_next_123 rfl (lv_at hl 3 rfl) ?_
          have hPc := hP.sub (ws' := (wd_ctx_states_likely cI a_ctx a_states a_likely states_n states_f likely_n likely_f)) [2, 3, 4] rfl
          have hDc := hD.sub (ws' := (wd_ctx_states_likely cI a_ctx a_states a_likely states_n states_f likely_n likely_f)) [2, 3, 4] (by decide) rfl
          have hFc := va_free (wc := (wd_ctx_states_likely cI a_ctx a_states a_likely states_n states_f likely_n likely_f)) hD hS hA [2, 3, 4] rfl
          refine va_callv (va_runV (As := [.int p2]) (rest := []) ⟨hx, hb, hml, hown, hts⟩ (c_X4_otherCame l dC dI cI cJ cZ tP tN tO a_ctx a_states a_likely H.size states_n states_f likely_n likely_f p2 hpre) (cwV 1 hts gX2_next_X4_otherCame rfl rfl rfl (by decide +kernel) ⟨Nat.le_of_ble_eq_true rfl, Nat.le_of_ble_eq_true rfl⟩) ⟨fun a U g mk q => by obtain ⟨q0, q1, qP, qK, qD, qZ⟩ := q; exact ⟨q0, q1, qP, va_K.moved (u := U) (U := U.calling g mk a) (Vm.Alike.refl U.vm) qK, qD, Zs.moved (u := U) (U := U.calling g mk a) (Vm.Alike.refl U.vm) qZ⟩, va_recv hK hPc (ci := 3) (q0 := 0) rfl rfl, fun U hU hW => ⟨rfl, by rw [hU], by rw [hU]; exact hPc, va_K.moved hW.alike hK, hDc.weaken (fun _ _ _ _ => trivial), by rw [hU]; exact (((hZ.kept hS.2.1).narrow hFc).moved hW.alike)⟩⟩ rfl rfl hl.1 rfl (lv_room (Nat.le_of_ble_eq_true rfl)) dX2_next_124 ⟨Nat.le_of_ble_eq_true rfl, Nat.le_of_ble_eq_true rfl⟩) hS (fun q _ h => hFc q h) hFc (fun u t H1 locs ht hvm hw hB hz1 hk1 hS => ?_)
          obtain ⟨hP1, hK1, hD1⟩ := hB
          rw [ht] at hP1
          obtain ⟨r_8, hr_8⟩ : ∃ z, F_X4_otherCame p2 states_f likely_f = z := ⟨_, rfl⟩
          try rw [hr_8] at hw
          try rw [hr_8] at hP1
          try rw [hr_8] at hD1
          have hg : (r_8.1, r_8.2) = j_10 := by first | (rw [hr_8] at hg; exact hg) | (subst hr_8; exact hg)
          obtain ⟨hP, hD⟩ := va_join (wr := [(a_row, .inr (0, [.ref a_bytes, .int row_count, .int row_start])), (a_bytes, .inl (cI, bytes_n, .inl bytes_f)), (a_cr, .inr (1, [.ref a_row, .ref a_ctx, .int cr_place, .int cr_end, .int (cr_window - (r_1 <<< ((16 : Int32) &&& 31))), .int (cr_size - r_1), .int cr_room]))]) (w1 := (wd_ctx_states_likely cI a_ctx a_states a_likely states_n r_8.1 likely_n r_8.2)) hP hD [2, 3, 4] [0, 1, 5] rfl rfl (by decide) (by decide) hk1 hFc hP1 hD1
          have hP : va_P (dC, dI) vwCl (wd_row_bytes_ctx_states_likely_cr cI a_row a_bytes a_ctx a_states a_likely a_cr row_count row_start bytes_n bytes_f states_n r_8.1 likely_n r_8.2 cr_place cr_end (cr_window - (r_1 <<< ((16 : Int32) &&& 31))) (cr_size - r_1) cr_room) H1 := hP.sub [0, 1, 3, 4, 5, 2] rfl
          have hD : va_D A (wd_row_bytes_ctx_states_likely_cr cI a_row a_bytes a_ctx a_states a_likely a_cr row_count row_start bytes_n bytes_f states_n r_8.1 likely_n r_8.2 cr_place cr_end (cr_window - (r_1 <<< ((16 : Int32) &&& 31))) (cr_size - r_1) cr_room) := hD.sub [0, 1, 3, 4, 5, 2] (by decide) rfl
          generalize H1 = H at hP hS ⊢
          exact hJ_j_10 _ _ _ (by rw [← hg]; exact hP) (by rw [← hg]; exact hD) hS (lv_sub hl [1, 2, 3, 4, 5, 0] rfl)
        · rw [if_neg c_7] at hg
          have hpre := hpre.2 c_7
          refine lv_aload_n hx hb dX2_next_108 rfl (lv_at hl 1 rfl) ?_
          refine va_get (D := (dC, dI)) (ci := 1) (v := .ref a_ctx) (C := RX2) (T := TX2) (N := 7) hx hb hts iw_X2_next_X2 hown hK hP 5 rfl rfl 1 (by decide) (hts (.fieldLink RX2 15 "PlaneBlocks$CodedReader" "contexts" "LPlaneBlocks$Contexts;") (by decide +kernel)) (fun _ h9 => h9) rfl dX2_next_109 ?_
          refine lv_iload_n hx hb dX2_next_112 rfl (lv_at hl 3 rfl) ?_
          have hPc := hP.sub (ws' := (wd_ctx_states cI a_ctx a_states a_likely states_n states_f)) [2, 3] rfl
          have hDc := hD.sub (ws' := (wd_ctx_states cI a_ctx a_states a_likely states_n states_f)) [2, 3] (by decide) rfl
          have hFc := va_free (wc := (wd_ctx_states cI a_ctx a_states a_likely states_n states_f)) hD hS hA [2, 3] rfl
          refine va_callv (va_runV (As := [.int p2]) (rest := []) ⟨hx, hb, hml, hown, hts⟩ (c_X4_likelyCame l dC dI cI cJ cZ tP tN tO a_ctx a_states a_likely H.size states_n states_f p2 hpre) (cwV 1 hts gX2_next_X4_likelyCame rfl rfl rfl (by decide +kernel) ⟨Nat.le_of_ble_eq_true rfl, Nat.le_of_ble_eq_true rfl⟩) ⟨fun a U g mk q => by obtain ⟨q0, q1, qP, qK, qD, qZ⟩ := q; exact ⟨q0, q1, qP, va_K.moved (u := U) (U := U.calling g mk a) (Vm.Alike.refl U.vm) qK, qD, Zs.moved (u := U) (U := U.calling g mk a) (Vm.Alike.refl U.vm) qZ⟩, va_recv hK hPc (ci := 3) (q0 := 0) rfl rfl, fun U hU hW => ⟨rfl, by rw [hU], by rw [hU]; exact hPc, va_K.moved hW.alike hK, hDc.weaken (fun _ _ _ _ => trivial), by rw [hU]; exact (((hZ.kept hS.2.1).narrow hFc).moved hW.alike)⟩⟩ rfl rfl hl.1 rfl (lv_room (Nat.le_of_ble_eq_true rfl)) dX2_next_113 ⟨Nat.le_of_ble_eq_true rfl, Nat.le_of_ble_eq_true rfl⟩) hS (fun q _ h => hFc q h) hFc (fun u t H1 locs ht hvm hw hB hz1 hk1 hS => ?_)
          obtain ⟨hP1, hK1, hD1⟩ := hB
          rw [ht] at hP1
          obtain ⟨r_9, hr_9⟩ : ∃ z, F_X4_likelyCame p2 states_f = z := ⟨_, rfl⟩
          try rw [hr_9] at hw
          try rw [hr_9] at hP1
          try rw [hr_9] at hD1
          have hg : (r_9, likely_f) = j_10 := by first | (rw [hr_9] at hg; exact hg) | (subst hr_9; exact hg)
          obtain ⟨hP, hD⟩ := va_join (wr := [(a_row, .inr (0, [.ref a_bytes, .int row_count, .int row_start])), (a_bytes, .inl (cI, bytes_n, .inl bytes_f)), (a_likely, .inl (cI, likely_n, .inl likely_f)), (a_cr, .inr (1, [.ref a_row, .ref a_ctx, .int cr_place, .int cr_end, .int (cr_window - (r_1 <<< ((16 : Int32) &&& 31))), .int (cr_size - r_1), .int cr_room]))]) (w1 := (wd_ctx_states cI a_ctx a_states a_likely states_n r_9)) hP hD [2, 3] [0, 1, 4, 5] rfl rfl (by decide) (by decide) hk1 hFc hP1 hD1
          have hP : va_P (dC, dI) vwCl (wd_row_bytes_ctx_states_likely_cr cI a_row a_bytes a_ctx a_states a_likely a_cr row_count row_start bytes_n bytes_f states_n r_9 likely_n likely_f cr_place cr_end (cr_window - (r_1 <<< ((16 : Int32) &&& 31))) (cr_size - r_1) cr_room) H1 := hP.sub [0, 1, 4, 5, 2, 3] rfl
          have hD : va_D A (wd_row_bytes_ctx_states_likely_cr cI a_row a_bytes a_ctx a_states a_likely a_cr row_count row_start bytes_n bytes_f states_n r_9 likely_n likely_f cr_place cr_end (cr_window - (r_1 <<< ((16 : Int32) &&& 31))) (cr_size - r_1) cr_room) := hD.sub [0, 1, 4, 5, 2, 3] (by decide) rfl
          generalize H1 = H at hP hS ⊢
          refine lv_goto (tgt := 127) hx hb dX2_next_116 (by decide) ?_
          exact hJ_j_10 _ _ _ (by rw [← hg]; exact hP) (by rw [← hg]; exact hD) hS (lv_sub hl [1, 2, 3, 4, 5, 0] rfl)
      have hg : (if (cr_size - r_1) < r_1 then (0 : Int32) else (1 : Int32)) = j_6 := by rw [← hj_6]; rfl
      clear hj_6
      refine lv_icmp_lt (tgt := 100) hx hb dX2_next_93 (by decide) (fun c_5 => ?_) (fun c_5 => ?_)
      · rw [if_pos c_5] at hg
        refine lv_iconst (v := 0) hx hb dX2_next_100 (by decide) ?_
        rw [← hg] at hJ_j_6
        exact hJ_j_6 _ _ _ hP hD hS (lv_sub hl [2, 3, 4, 1, 0] rfl)
      · rw [if_neg c_5] at hg
        refine lv_iconst (v := 1) hx hb dX2_next_96 (by decide) ?_
        refine lv_goto (tgt := 101) hx hb dX2_next_97 (by decide) ?_
        rw [← hg] at hJ_j_6
        exact hJ_j_6 _ _ _ hP hD hS (lv_sub hl [2, 3, 4, 1, 0] rfl)
    · rw [if_neg c_4] at hg
      refine lv_iload hx hb dX2_next_85 (lv_at hl 0 rfl) ?_
      subst hg
      rw [← hQe]
      exact W.iret (v := r_2) hx hb hr (fun t ht hW => ⟨⟨r_2, (), rfl, rfl, by rw [ht]; exact hP, va_K.moved hW.alike hK, hD⟩, hS.F ht⟩) hS.2.2 dX2_next_87
  · rw [if_neg c_3] at hg
    have hpre := hpre.2 c_3
    refine lv_aload_n hx hb dX2_next_40 rfl (lv_at hl 2 rfl) ?_
    refine va_get (D := (dC, dI)) (ci := 1) (v := .int (cr_size - r_1)) (C := RX2) (T := TX2) (N := 7) hx hb hts iw_X2_next_X2 hown hK hP 5 rfl rfl 5 (by decide) (hts (.fieldLink RX2 36 "PlaneBlocks$CodedReader" "size" "I") (by decide +kernel)) (fun _ h9 => h9) rfl dX2_next_41 ?_
    refine lv_iload_n hx hb dX2_next_44 rfl (lv_at hl 1 rfl) ?_
    obtain ⟨j_19, hj_19⟩ : ∃ z, J_X2_next_j_19 cr_size r_1 = z := ⟨_, rfl⟩
    have hg : (let j_23 := J_X2_next_j_23 p2 states_f likely_f j_19; let j_24 := L_X2_next_j_24 row_count bytes_f cr_end fu (0 : Int32) cr_place cr_window r_1 cr_room; if j_19 = (0 : Int32) then ((1 : Int32) - r_2, j_23.1, j_23.2, j_24.2.1, j_24.2.2.1, j_24.2.2.2.1, j_24.2.2.2.2) else (r_2, j_23.1, j_23.2, j_24.2.1, j_24.2.2.1, j_24.2.2.2.1, j_24.2.2.2.2)) = g := by first | (rw [hj_19] at hg; exact hg) | (subst hj_19; exact hg)
    have hJ_j_19 : ∀ (H : Heap) (locs : List Loc) (ls : Array Slot), va_P (dC, dI) vwCl (wd_row_bytes_ctx_states_likely_cr cI a_row a_bytes a_ctx a_states a_likely a_cr row_count row_start bytes_n bytes_f states_n states_f likely_n likely_f cr_place cr_end cr_window (cr_size - r_1) cr_room) H → va_D A (wd_row_bytes_ctx_states_likely_cr cI a_row a_bytes a_ctx a_states a_likely a_cr row_count row_start bytes_n bytes_f states_n states_f likely_n likely_f cr_place cr_end cr_window (cr_size - r_1) cr_room) → va_S A s.heap H locs → lv_has ls 7 [(0, .ref a_cr), (1, .int p1), (2, .int p2), (3, .int r_1), (4, .int r_2)] → W p l e (headSpec wsX2_next rm_X2_next).room s m ([.ref a_cr, .int p1, .int p2] : List Value).toArray below meth c H locs 0 0 Q (F0 m 53 ls [.int j_19]) := by
      intro H locs ls hP hD hS hl
      have hpre := hpre j_19 hj_19
      refine lv_istore (lv' := [(5, .int j_19), (0, .ref a_cr), (1, .int p1), (2, .int p2), (3, .int r_1), (4, .int r_2)]) hx hb dX2_next_53 hl (by decide) rfl (fun ls hl => ?_)
      refine lv_aload_n hx hb dX2_next_55 rfl (lv_at hl 1 rfl) ?_
      refine lv_iload_n hx hb dX2_next_56 rfl (lv_at hl 4 rfl) ?_
      refine va_put (D := (dC, dI)) (ci := 1) (v := .int r_1) (ty := .int) (C := RX2) (T := TX2) (N := 7) hx hb hts iw_X2_next_X2 tyX2 tyX2_ok nmX2 hown hK hP hD hS 5 rfl rfl 5 (by decide) (hts (.fieldLink RX2 36 "PlaneBlocks$CodedReader" "size" "I") (by decide +kernel)) (fun _ h9 => h9) rfl (by decide +kernel) rfl rfl (Nat.le_of_ble_eq_true rfl) dX2_next_57 (fun H locs hP hD hS => ?_)
      have hP : va_P (dC, dI) vwCl (wd_row_bytes_ctx_states_likely_cr cI a_row a_bytes a_ctx a_states a_likely a_cr row_count row_start bytes_n bytes_f states_n states_f likely_n likely_f cr_place cr_end cr_window r_1 cr_room) H := hP
      have hD : va_D A (wd_row_bytes_ctx_states_likely_cr cI a_row a_bytes a_ctx a_states a_likely a_cr row_count row_start bytes_n bytes_f states_n states_f likely_n likely_f cr_place cr_end cr_window r_1 cr_room) := hD
      refine lv_goto (tgt := 103) hx hb dX2_next_60 (by decide) ?_
      refine lv_iload hx hb dX2_next_103 (lv_at hl 0 rfl) ?_
      obtain ⟨j_23, hj_23⟩ : ∃ z, J_X2_next_j_23 p2 states_f likely_f j_19 = z := ⟨_, rfl⟩
      have hg : (let j_24 := L_X2_next_j_24 row_count bytes_f cr_end fu (0 : Int32) cr_place cr_window r_1 cr_room; if j_19 = (0 : Int32) then ((1 : Int32) - r_2, j_23.1, j_23.2, j_24.2.1, j_24.2.2.1, j_24.2.2.2.1, j_24.2.2.2.2) else (r_2, j_23.1, j_23.2, j_24.2.1, j_24.2.2.1, j_24.2.2.2.1, j_24.2.2.2.2)) = g := by first | (rw [hj_23] at hg; exact hg) | (subst hj_23; exact hg)
      have hJ_j_23 : ∀ (H : Heap) (locs : List Loc) (ls : Array Slot), va_P (dC, dI) vwCl (wd_row_bytes_ctx_states_likely_cr cI a_row a_bytes a_ctx a_states a_likely a_cr row_count row_start bytes_n bytes_f states_n j_23.1 likely_n j_23.2 cr_place cr_end cr_window r_1 cr_room) H → va_D A (wd_row_bytes_ctx_states_likely_cr cI a_row a_bytes a_ctx a_states a_likely a_cr row_count row_start bytes_n bytes_f states_n j_23.1 likely_n j_23.2 cr_place cr_end cr_window r_1 cr_room) → va_S A s.heap H locs → lv_has ls 7 [(0, .ref a_cr), (1, .int p1), (2, .int p2), (3, .int r_1), (4, .int r_2), (5, .int j_19)] → W p l e (headSpec wsX2_next rm_X2_next).room s m ([.ref a_cr, .int p1, .int p2] : List Value).toArray below meth c H locs 0 0 Q (F0 m 127 ls []) := by
        intro H locs ls hP hD hS hl
        have hpre := hpre.2 j_23 hj_23
        refine lv_iconst (v := 0) hx hb dX2_next_127 (by decide) ?_
        refine lv_istore (lv' := [(6, .int (0 : Int32)), (0, .ref a_cr), (1, .int p1), (2, .int p2), (3, .int r_1), (4, .int r_2), (5, .int j_19)]) hx hb dX2_next_128 hl (by decide) rfl (fun ls hl => ?_)
        obtain ⟨j_24, hj_24⟩ : ∃ z, L_X2_next_j_24 row_count bytes_f cr_end fu (0 : Int32) cr_place cr_window r_1 cr_room = z := ⟨_, rfl⟩
        have hg : (if j_19 = (0 : Int32) then ((1 : Int32) - r_2, j_23.1, j_23.2, j_24.2.1, j_24.2.2.1, j_24.2.2.2.1, j_24.2.2.2.2) else (r_2, j_23.1, j_23.2, j_24.2.1, j_24.2.2.1, j_24.2.2.2.1, j_24.2.2.2.2)) = g := by first | (rw [hj_24] at hg; exact hg) | (subst hj_24; exact hg)
        have hJ_j_24 : ∀ (H : Heap) (locs : List Loc) (ls : Array Slot), va_P (dC, dI) vwCl (wd_row_bytes_ctx_states_likely_cr cI a_row a_bytes a_ctx a_states a_likely a_cr row_count row_start bytes_n bytes_f states_n j_23.1 likely_n j_23.2 j_24.2.1 cr_end j_24.2.2.1 j_24.2.2.2.1 j_24.2.2.2.2) H → va_D A (wd_row_bytes_ctx_states_likely_cr cI a_row a_bytes a_ctx a_states a_likely a_cr row_count row_start bytes_n bytes_f states_n j_23.1 likely_n j_23.2 j_24.2.1 cr_end j_24.2.2.1 j_24.2.2.2.1 j_24.2.2.2.2) → va_S A s.heap H locs → lv_has ls 7 [(0, .ref a_cr), (1, .int p1), (2, .int p2), (3, .int r_1), (4, .int r_2), (5, .int j_19), (6, .int j_24.1)] → W p l e (headSpec wsX2_next rm_X2_next).room s m ([.ref a_cr, .int p1, .int p2] : List Value).toArray below meth c H locs 0 0 Q (F0 m 193 ls []) := by
          intro H locs ls hP hD hS hl
          refine lv_iload hx hb dX2_next_193 (lv_at hl 5 rfl) ?_
          refine lv_if_eq (tgt := 203) hx hb dX2_next_195 (by decide) (fun c_30 => ?_) (fun c_30 => ?_)
          · rw [if_pos c_30] at hg
            refine lv_iconst (v := 1) hx hb dX2_next_203 (by decide) ?_
            refine lv_iload hx hb dX2_next_204 (lv_at hl 4 rfl) ?_
            refine lv_isub hx hb dX2_next_206 ?_
            subst hg
            rw [← hQe]
            exact W.iret (v := ((1 : Int32) - r_2)) hx hb hr (fun t ht hW => ⟨⟨((1 : Int32) - r_2), (), rfl, rfl, by rw [ht]; exact hP, va_K.moved hW.alike hK, hD⟩, hS.F ht⟩) hS.2.2 dX2_next_207
          · rw [if_neg c_30] at hg
            refine lv_iload hx hb dX2_next_198 (lv_at hl 4 rfl) ?_
            refine lv_goto (tgt := 207) hx hb dX2_next_200 (by decide) ?_
            subst hg
            rw [← hQe]
            exact W.iret (v := r_2) hx hb hr (fun t ht hW => ⟨⟨r_2, (), rfl, rfl, by rw [ht]; exact hP, va_K.moved hW.alike hK, hD⟩, hS.F ht⟩) hS.2.2 dX2_next_207
        have hL_j_24 : ∀ (n : Nat) (v6_j_24 : Int32) (cr_place_j_24 : Int32) (cr_window_j_24 : Int32) (cr_size_j_24 : Int32) (cr_room_j_24 : Int32) (H : Heap) (locs : List Loc) (ls : Array Slot), PL_X2_next_j_24 row_count bytes_n bytes_f cr_end n v6_j_24 cr_place_j_24 cr_window_j_24 cr_size_j_24 cr_room_j_24 → L_X2_next_j_24 row_count bytes_f cr_end n v6_j_24 cr_place_j_24 cr_window_j_24 cr_size_j_24 cr_room_j_24 = j_24 → va_P (dC, dI) vwCl (wd_row_bytes_ctx_states_likely_cr cI a_row a_bytes a_ctx a_states a_likely a_cr row_count row_start bytes_n bytes_f states_n j_23.1 likely_n j_23.2 cr_place_j_24 cr_end cr_window_j_24 cr_size_j_24 cr_room_j_24) H → va_D A (wd_row_bytes_ctx_states_likely_cr cI a_row a_bytes a_ctx a_states a_likely a_cr row_count row_start bytes_n bytes_f states_n j_23.1 likely_n j_23.2 cr_place_j_24 cr_end cr_window_j_24 cr_size_j_24 cr_room_j_24) → va_S A s.heap H locs → lv_has ls 7 [(0, .ref a_cr), (1, .int p1), (2, .int p2), (3, .int r_1), (4, .int r_2), (5, .int j_19), (6, .int v6_j_24)] → W p l e (headSpec wsX2_next rm_X2_next).room s m ([.ref a_cr, .int p1, .int p2] : List Value).toArray below meth c H locs 0 0 Q (F0 m 130 ls []) := by
          intro n
          induction n with
          | zero => intro v6_j_24 cr_place_j_24 cr_window_j_24 cr_size_j_24 cr_room_j_24 H locs ls hpre; exact absurd hpre id
          | succ n ih =>
            intro v6_j_24 cr_place_j_24 cr_window_j_24 cr_size_j_24 cr_room_j_24 H locs ls hpre hg hP hD hS hl
            rw [PL_X2_next_j_24] at hpre
            rw [L_X2_next_j_24] at hg
            refine lv_iload hx hb dX2_next_130 (lv_at hl 6 rfl) ?_
            refine lv_bipush (v := 15) hx hb dX2_next_132 (by decide) ?_
            refine lv_icmp_ge (tgt := 193) hx hb dX2_next_134 (by decide) (fun c_25 => ?_) (fun c_25 => ?_)
            · rw [if_pos c_25] at hg
              exact hJ_j_24 _ _ _ (by rw [← hg]; exact hP) (by rw [← hg]; exact hD) hS (by rw [← hg]; exact lv_sub hl [0, 1, 2, 3, 4, 5, 6] rfl)
            · rw [if_neg c_25] at hg
              have hpre := hpre c_25
              refine lv_aload_n hx hb dX2_next_137 rfl (lv_at hl 0 rfl) ?_
              refine va_get (D := (dC, dI)) (ci := 1) (v := .int cr_size_j_24) (C := RX2) (T := TX2) (N := 7) hx hb hts iw_X2_next_X2 hown hK hP 5 rfl rfl 5 (by decide) (hts (.fieldLink RX2 36 "PlaneBlocks$CodedReader" "size" "I") (by decide +kernel)) (fun _ h9 => h9) rfl dX2_next_138 ?_
              refine lv_ldc (v := 32768) hx hb hown (hts (.constant RX2 35 (32768)) (by decide +kernel)) dX2_next_141 ?_
              refine lv_icmp_ge (tgt := 193) hx hb dX2_next_143 (by decide) (fun c_26 => ?_) (fun c_26 => ?_)
              · rw [if_pos c_26] at hg
                exact hJ_j_24 _ _ _ (by rw [← hg]; exact hP) (by rw [← hg]; exact hD) hS (by rw [← hg]; exact lv_sub hl [0, 1, 2, 3, 4, 5, 6] rfl)
              · rw [if_neg c_26] at hg
                have hpre := hpre c_26
                refine lv_aload_n hx hb dX2_next_146 rfl (lv_at hl 0 rfl) ?_
                refine va_get (D := (dC, dI)) (ci := 1) (v := .int cr_room_j_24) (C := RX2) (T := TX2) (N := 7) hx hb hts iw_X2_next_X2 hown hK hP 5 rfl rfl 6 (by decide) (hts (.fieldLink RX2 42 "PlaneBlocks$CodedReader" "room" "I") (by decide +kernel)) (fun _ h9 => h9) rfl dX2_next_147 ?_
                obtain ⟨j_29, hj_29⟩ : ∃ z, J_X2_next_j_29 row_count bytes_f cr_end cr_place_j_24 cr_window_j_24 cr_room_j_24 = z := ⟨_, rfl⟩
                have hg : (L_X2_next_j_24 row_count bytes_f cr_end n (v6_j_24 + (1 : Int32)) j_29.1 (j_29.2.1 * (2 : Int32)) (cr_size_j_24 * (2 : Int32)) (j_29.2.2 - (1 : Int32))) = j_24 := by first | (rw [hj_29] at hg; exact hg) | (subst hj_29; exact hg)
                have hJ_j_29 : ∀ (H : Heap) (locs : List Loc) (ls : Array Slot), va_P (dC, dI) vwCl (wd_row_bytes_ctx_states_likely_cr cI a_row a_bytes a_ctx a_states a_likely a_cr row_count row_start bytes_n bytes_f states_n j_23.1 likely_n j_23.2 j_29.1 cr_end j_29.2.1 cr_size_j_24 j_29.2.2) H → va_D A (wd_row_bytes_ctx_states_likely_cr cI a_row a_bytes a_ctx a_states a_likely a_cr row_count row_start bytes_n bytes_f states_n j_23.1 likely_n j_23.2 j_29.1 cr_end j_29.2.1 cr_size_j_24 j_29.2.2) → va_S A s.heap H locs → lv_has ls 7 [(0, .ref a_cr), (1, .int p1), (2, .int p2), (3, .int r_1), (4, .int r_2), (5, .int j_19), (6, .int v6_j_24)] → W p l e (headSpec wsX2_next rm_X2_next).room s m ([.ref a_cr, .int p1, .int p2] : List Value).toArray below meth c H locs 0 0 Q (F0 m 157 ls []) := by
                  intro H locs ls hP hD hS hl
                  have hpre := hpre.2 j_29 hj_29
                  refine lv_aload_n hx hb dX2_next_157 rfl (lv_at hl 0 rfl) ?_
                  refine lv_dup hx hb dX2_next_158 rfl ?_
                  refine va_get (D := (dC, dI)) (ci := 1) (v := .int cr_size_j_24) (C := RX2) (T := TX2) (N := 7) hx hb hts iw_X2_next_X2 hown hK hP 5 rfl rfl 5 (by decide) (hts (.fieldLink RX2 36 "PlaneBlocks$CodedReader" "size" "I") (by decide +kernel)) (fun _ h9 => h9) rfl dX2_next_159 ?_
                  refine lv_iconst (v := 2) hx hb dX2_next_162 (by decide) ?_
                  refine lv_imul hx hb dX2_next_163 ?_
                  refine va_put (D := (dC, dI)) (ci := 1) (v := .int (cr_size_j_24 * (2 : Int32))) (ty := .int) (C := RX2) (T := TX2) (N := 7) hx hb hts iw_X2_next_X2 tyX2 tyX2_ok nmX2 hown hK hP hD hS 5 rfl rfl 5 (by decide) (hts (.fieldLink RX2 36 "PlaneBlocks$CodedReader" "size" "I") (by decide +kernel)) (fun _ h9 => h9) rfl (by decide +kernel) rfl rfl (Nat.le_of_ble_eq_true rfl) dX2_next_164 (fun H locs hP hD hS => ?_)
                  have hP : va_P (dC, dI) vwCl (wd_row_bytes_ctx_states_likely_cr cI a_row a_bytes a_ctx a_states a_likely a_cr row_count row_start bytes_n bytes_f states_n j_23.1 likely_n j_23.2 j_29.1 cr_end j_29.2.1 (cr_size_j_24 * (2 : Int32)) j_29.2.2) H := hP
                  have hD : va_D A (wd_row_bytes_ctx_states_likely_cr cI a_row a_bytes a_ctx a_states a_likely a_cr row_count row_start bytes_n bytes_f states_n j_23.1 likely_n j_23.2 j_29.1 cr_end j_29.2.1 (cr_size_j_24 * (2 : Int32)) j_29.2.2) := hD
                  refine lv_aload_n hx hb dX2_next_167 rfl (lv_at hl 0 rfl) ?_
                  refine lv_dup hx hb dX2_next_168 rfl ?_
                  refine va_get (D := (dC, dI)) (ci := 1) (v := .int j_29.2.1) (C := RX2) (T := TX2) (N := 7) hx hb hts iw_X2_next_X2 hown hK hP 5 rfl rfl 4 (by decide) (hts (.fieldLink RX2 32 "PlaneBlocks$CodedReader" "window" "I") (by decide +kernel)) (fun _ h9 => h9) rfl dX2_next_169 ?_
                  refine lv_iconst (v := 2) hx hb dX2_next_172 (by decide) ?_
                  refine lv_imul hx hb dX2_next_173 ?_
                  refine va_put (D := (dC, dI)) (ci := 1) (v := .int (j_29.2.1 * (2 : Int32))) (ty := .int) (C := RX2) (T := TX2) (N := 7) hx hb hts iw_X2_next_X2 tyX2 tyX2_ok nmX2 hown hK hP hD hS 5 rfl rfl 4 (by decide) (hts (.fieldLink RX2 32 "PlaneBlocks$CodedReader" "window" "I") (by decide +kernel)) (fun _ h9 => h9) rfl (by decide +kernel) rfl rfl (Nat.le_of_ble_eq_true rfl) dX2_next_174 (fun H locs hP hD hS => ?_)
                  have hP : va_P (dC, dI) vwCl (wd_row_bytes_ctx_states_likely_cr cI a_row a_bytes a_ctx a_states a_likely a_cr row_count row_start bytes_n bytes_f states_n j_23.1 likely_n j_23.2 j_29.1 cr_end (j_29.2.1 * (2 : Int32)) (cr_size_j_24 * (2 : Int32)) j_29.2.2) H := hP
                  have hD : va_D A (wd_row_bytes_ctx_states_likely_cr cI a_row a_bytes a_ctx a_states a_likely a_cr row_count row_start bytes_n bytes_f states_n j_23.1 likely_n j_23.2 j_29.1 cr_end (j_29.2.1 * (2 : Int32)) (cr_size_j_24 * (2 : Int32)) j_29.2.2) := hD
                  refine lv_aload_n hx hb dX2_next_177 rfl (lv_at hl 0 rfl) ?_
                  refine lv_dup hx hb dX2_next_178 rfl ?_
                  refine va_get (D := (dC, dI)) (ci := 1) (v := .int j_29.2.2) (C := RX2) (T := TX2) (N := 7) hx hb hts iw_X2_next_X2 hown hK hP 5 rfl rfl 6 (by decide) (hts (.fieldLink RX2 42 "PlaneBlocks$CodedReader" "room" "I") (by decide +kernel)) (fun _ h9 => h9) rfl dX2_next_179 ?_
                  refine lv_iconst (v := 1) hx hb dX2_next_182 (by decide) ?_
                  refine lv_isub hx hb dX2_next_183 ?_
                  refine va_put (D := (dC, dI)) (ci := 1) (v := .int (j_29.2.2 - (1 : Int32))) (ty := .int) (C := RX2) (T := TX2) (N := 7) hx hb hts iw_X2_next_X2 tyX2 tyX2_ok nmX2 hown hK hP hD hS 5 rfl rfl 6 (by decide) (hts (.fieldLink RX2 42 "PlaneBlocks$CodedReader" "room" "I") (by decide +kernel)) (fun _ h9 => h9) rfl (by decide +kernel) rfl rfl (Nat.le_of_ble_eq_true rfl) dX2_next_184 (fun H locs hP hD hS => ?_)
                  have hP : va_P (dC, dI) vwCl (wd_row_bytes_ctx_states_likely_cr cI a_row a_bytes a_ctx a_states a_likely a_cr row_count row_start bytes_n bytes_f states_n j_23.1 likely_n j_23.2 j_29.1 cr_end (j_29.2.1 * (2 : Int32)) (cr_size_j_24 * (2 : Int32)) (j_29.2.2 - (1 : Int32))) H := hP
                  have hD : va_D A (wd_row_bytes_ctx_states_likely_cr cI a_row a_bytes a_ctx a_states a_likely a_cr row_count row_start bytes_n bytes_f states_n j_23.1 likely_n j_23.2 j_29.1 cr_end (j_29.2.1 * (2 : Int32)) (cr_size_j_24 * (2 : Int32)) (j_29.2.2 - (1 : Int32))) := hD
                  refine lv_iinc (v := (v6_j_24 + (1 : Int32))) (lv' := [(6, .int (v6_j_24 + (1 : Int32))), (0, .ref a_cr), (1, .int p1), (2, .int p2), (3, .int r_1), (4, .int r_2), (5, .int j_19)]) hx hb dX2_next_187 hl (k := 6) rfl rfl (by decide) rfl (fun ls hl => ?_)
                  refine lv_goto (tgt := 130) hx hb dX2_next_190 (by decide) ?_
                  exact ih (v6_j_24 + (1 : Int32)) j_29.1 (j_29.2.1 * (2 : Int32)) (cr_size_j_24 * (2 : Int32)) (j_29.2.2 - (1 : Int32)) _ _ _ hpre hg hP hD hS (lv_sub hl [1, 2, 3, 4, 5, 6, 0] rfl)
                have hpre := hpre.1
                unfold PJ_X2_next_j_29 at hpre
                have hg : (if cr_room_j_24 = (0 : Int32) then (let r_28 := F_X2_byteIn row_count bytes_f cr_place_j_24 cr_end cr_window_j_24; (r_28.1, r_28.2.1, r_28.2.2)) else (cr_place_j_24, cr_window_j_24, cr_room_j_24)) = j_29 := by rw [← hj_29]; rfl
                clear hj_29
                refine lv_if_ne (tgt := 157) hx hb dX2_next_150 (by decide) (fun c_27 => ?_) (fun c_27 => ?_)
                · rw [if_neg c_27] at hg
                  exact hJ_j_29 _ _ _ (by rw [← hg]; exact hP) (by rw [← hg]; exact hD) hS (lv_sub hl [0, 1, 2, 3, 4, 5, 6] rfl)
                · rw [if_pos c_27] at hg
                  have hpre := hpre c_27
                  refine lv_aload_n hx hb dX2_next_153 rfl (lv_at hl 0 rfl) ?_
                  have hPc := hP.sub (ws' := (wd_row_bytes_cr cI a_row a_bytes a_cr a_ctx row_count row_start bytes_n bytes_f cr_place_j_24 cr_end cr_window_j_24 cr_size_j_24 cr_room_j_24)) [0, 1, 5] rfl
                  have hDc := hD.sub (ws' := (wd_row_bytes_cr cI a_row a_bytes a_cr a_ctx row_count row_start bytes_n bytes_f cr_place_j_24 cr_end cr_window_j_24 cr_size_j_24 cr_room_j_24)) [0, 1, 5] (by decide) rfl
                  have hFc := va_free (wc := (wd_row_bytes_cr cI a_row a_bytes a_cr a_ctx row_count row_start bytes_n bytes_f cr_place_j_24 cr_end cr_window_j_24 cr_size_j_24 cr_room_j_24)) hD hS hA [0, 1, 5] rfl
                  refine va_callv (va_runV (As := []) (rest := []) ⟨hx, hb, hml, hown, hts⟩ (c_X2_byteIn l dC dI cI cJ cZ a_row a_bytes a_cr a_ctx H.size row_count row_start bytes_n bytes_f cr_place_j_24 cr_end cr_window_j_24 cr_size_j_24 cr_room_j_24 hpre) (cwV 0 hts gX2_next_X2_byteIn rfl rfl rfl (by decide +kernel) ⟨Nat.le_of_ble_eq_true rfl, Nat.le_of_ble_eq_true rfl⟩) ⟨fun a U g mk q => by obtain ⟨q0, q1, qP, qK, qD⟩ := q; exact ⟨q0, q1, qP, va_K.moved (u := U) (U := U.calling g mk a) (Vm.Alike.refl U.vm) qK, qD⟩, va_recv hK hPc (ci := 1) (q0 := 2) rfl rfl, fun U hU hW => ⟨rfl, by rw [hU], by rw [hU]; exact hPc, va_K.moved hW.alike hK, hDc.weaken (fun _ _ _ _ => trivial)⟩⟩ rfl rfl hl.1 rfl (lv_room (Nat.le_of_ble_eq_true rfl)) dX2_next_154 ⟨Nat.le_of_ble_eq_true rfl, Nat.le_of_ble_eq_true rfl⟩) hS (fun q _ h => hFc q h) hFc (fun u t H1 locs ht hvm hw hB hz1 hk1 hS => ?_)
                  obtain ⟨hP1, hK1, hD1⟩ := hB
                  rw [ht] at hP1
                  obtain ⟨r_28, hr_28⟩ : ∃ z, F_X2_byteIn row_count bytes_f cr_place_j_24 cr_end cr_window_j_24 = z := ⟨_, rfl⟩
                  try rw [hr_28] at hw
                  try rw [hr_28] at hP1
                  try rw [hr_28] at hD1
                  have hg : (r_28.1, r_28.2.1, r_28.2.2) = j_29 := by first | (rw [hr_28] at hg; exact hg) | (subst hr_28; exact hg)
                  obtain ⟨hP, hD⟩ := va_join (wr := [(a_ctx, .inr (3, [.ref a_states, .ref a_likely])), (a_states, .inl (cI, states_n, .inl j_23.1)), (a_likely, .inl (cI, likely_n, .inl j_23.2))]) (w1 := (wd_row_bytes_cr cI a_row a_bytes a_cr a_ctx row_count row_start bytes_n bytes_f r_28.1 cr_end r_28.2.1 cr_size_j_24 r_28.2.2)) hP hD [0, 1, 5] [2, 3, 4] rfl rfl (by decide) (by decide) hk1 hFc hP1 hD1
                  have hP : va_P (dC, dI) vwCl (wd_row_bytes_ctx_states_likely_cr cI a_row a_bytes a_ctx a_states a_likely a_cr row_count row_start bytes_n bytes_f states_n j_23.1 likely_n j_23.2 r_28.1 cr_end r_28.2.1 cr_size_j_24 r_28.2.2) H1 := hP.sub [3, 4, 0, 1, 2, 5] rfl
                  have hD : va_D A (wd_row_bytes_ctx_states_likely_cr cI a_row a_bytes a_ctx a_states a_likely a_cr row_count row_start bytes_n bytes_f states_n j_23.1 likely_n j_23.2 r_28.1 cr_end r_28.2.1 cr_size_j_24 r_28.2.2) := hD.sub [3, 4, 0, 1, 2, 5] (by decide) rfl
                  generalize H1 = H at hP hS ⊢
                  exact hJ_j_29 _ _ _ (by rw [← hg]; exact hP) (by rw [← hg]; exact hD) hS (lv_sub hl [0, 1, 2, 3, 4, 5, 6] rfl)
        exact hL_j_24 fu (0 : Int32) cr_place cr_window r_1 cr_room _ _ _ hpre hj_24 hP hD hS (lv_sub hl [1, 2, 3, 4, 5, 6, 0] rfl)
      have hpre := hpre.1
      unfold PJ_X2_next_j_23 at hpre
      have hg : (if j_19 = (0 : Int32) then (let r_21 := F_X4_otherCame p2 states_f likely_f; (r_21.1, r_21.2)) else (let r_22 := F_X4_likelyCame p2 states_f; (r_22, likely_f))) = j_23 := by rw [← hj_23]; rfl
      clear hj_23
      refine lv_if_eq (tgt := 119) hx hb dX2_next_105 (by decide) (fun c_20 => ?_) (fun c_20 => ?_)
      · rw [if_pos c_20] at hg
        have hpre := hpre.1 c_20
        refine lv_aload_n hx hb dX2_next_119 rfl (lv_at hl 1 rfl) ?_
        refine va_get (D := (dC, dI)) (ci := 1) (v := .ref a_ctx) (C := RX2) (T := TX2) (N := 7) hx hb hts iw_X2_next_X2 hown hK hP 5 rfl rfl 1 (by decide) (hts (.fieldLink RX2 15 "PlaneBlocks$CodedReader" "contexts" "LPlaneBlocks$Contexts;") (by decide +kernel)) (fun _ h9 => h9) rfl dX2_next_120 ?_
        refine lv_iload_n hx hb dX2_next_123 rfl (lv_at hl 3 rfl) ?_
        have hPc := hP.sub (ws' := (wd_ctx_states_likely cI a_ctx a_states a_likely states_n states_f likely_n likely_f)) [2, 3, 4] rfl
        have hDc := hD.sub (ws' := (wd_ctx_states_likely cI a_ctx a_states a_likely states_n states_f likely_n likely_f)) [2, 3, 4] (by decide) rfl
        have hFc := va_free (wc := (wd_ctx_states_likely cI a_ctx a_states a_likely states_n states_f likely_n likely_f)) hD hS hA [2, 3, 4] rfl
        refine va_callv (va_runV (As := [.int p2]) (rest := []) ⟨hx, hb, hml, hown, hts⟩ (c_X4_otherCame l dC dI cI cJ cZ tP tN tO a_ctx a_states a_likely H.size states_n states_f likely_n likely_f p2 hpre) (cwV 1 hts gX2_next_X4_otherCame rfl rfl rfl (by decide +kernel) ⟨Nat.le_of_ble_eq_true rfl, Nat.le_of_ble_eq_true rfl⟩) ⟨fun a U g mk q => by obtain ⟨q0, q1, qP, qK, qD, qZ⟩ := q; exact ⟨q0, q1, qP, va_K.moved (u := U) (U := U.calling g mk a) (Vm.Alike.refl U.vm) qK, qD, Zs.moved (u := U) (U := U.calling g mk a) (Vm.Alike.refl U.vm) qZ⟩, va_recv hK hPc (ci := 3) (q0 := 0) rfl rfl, fun U hU hW => ⟨rfl, by rw [hU], by rw [hU]; exact hPc, va_K.moved hW.alike hK, hDc.weaken (fun _ _ _ _ => trivial), by rw [hU]; exact (((hZ.kept hS.2.1).narrow hFc).moved hW.alike)⟩⟩ rfl rfl hl.1 rfl (lv_room (Nat.le_of_ble_eq_true rfl)) dX2_next_124 ⟨Nat.le_of_ble_eq_true rfl, Nat.le_of_ble_eq_true rfl⟩) hS (fun q _ h => hFc q h) hFc (fun u t H1 locs ht hvm hw hB hz1 hk1 hS => ?_)
        obtain ⟨hP1, hK1, hD1⟩ := hB
        rw [ht] at hP1
        obtain ⟨r_21, hr_21⟩ : ∃ z, F_X4_otherCame p2 states_f likely_f = z := ⟨_, rfl⟩
        try rw [hr_21] at hw
        try rw [hr_21] at hP1
        try rw [hr_21] at hD1
        have hg : (r_21.1, r_21.2) = j_23 := by first | (rw [hr_21] at hg; exact hg) | (subst hr_21; exact hg)
        obtain ⟨hP, hD⟩ := va_join (wr := [(a_row, .inr (0, [.ref a_bytes, .int row_count, .int row_start])), (a_bytes, .inl (cI, bytes_n, .inl bytes_f)), (a_cr, .inr (1, [.ref a_row, .ref a_ctx, .int cr_place, .int cr_end, .int cr_window, .int r_1, .int cr_room]))]) (w1 := (wd_ctx_states_likely cI a_ctx a_states a_likely states_n r_21.1 likely_n r_21.2)) hP hD [2, 3, 4] [0, 1, 5] rfl rfl (by decide) (by decide) hk1 hFc hP1 hD1
        have hP : va_P (dC, dI) vwCl (wd_row_bytes_ctx_states_likely_cr cI a_row a_bytes a_ctx a_states a_likely a_cr row_count row_start bytes_n bytes_f states_n r_21.1 likely_n r_21.2 cr_place cr_end cr_window r_1 cr_room) H1 := hP.sub [0, 1, 3, 4, 5, 2] rfl
        have hD : va_D A (wd_row_bytes_ctx_states_likely_cr cI a_row a_bytes a_ctx a_states a_likely a_cr row_count row_start bytes_n bytes_f states_n r_21.1 likely_n r_21.2 cr_place cr_end cr_window r_1 cr_room) := hD.sub [0, 1, 3, 4, 5, 2] (by decide) rfl
        generalize H1 = H at hP hS ⊢
        exact hJ_j_23 _ _ _ (by rw [← hg]; exact hP) (by rw [← hg]; exact hD) hS (lv_sub hl [1, 2, 3, 4, 5, 0] rfl)
      · rw [if_neg c_20] at hg
        have hpre := hpre.2 c_20
        refine lv_aload_n hx hb dX2_next_108 rfl (lv_at hl 1 rfl) ?_
        refine va_get (D := (dC, dI)) (ci := 1) (v := .ref a_ctx) (C := RX2) (T := TX2) (N := 7) hx hb hts iw_X2_next_X2 hown hK hP 5 rfl rfl 1 (by decide) (hts (.fieldLink RX2 15 "PlaneBlocks$CodedReader" "contexts" "LPlaneBlocks$Contexts;") (by decide +kernel)) (fun _ h9 => h9) rfl dX2_next_109 ?_
        refine lv_iload_n hx hb dX2_next_112 rfl (lv_at hl 3 rfl) ?_
        have hPc := hP.sub (ws' := (wd_ctx_states cI a_ctx a_states a_likely states_n states_f)) [2, 3] rfl
        have hDc := hD.sub (ws' := (wd_ctx_states cI a_ctx a_states a_likely states_n states_f)) [2, 3] (by decide) rfl
        have hFc := va_free (wc := (wd_ctx_states cI a_ctx a_states a_likely states_n states_f)) hD hS hA [2, 3] rfl
        refine va_callv (va_runV (As := [.int p2]) (rest := []) ⟨hx, hb, hml, hown, hts⟩ (c_X4_likelyCame l dC dI cI cJ cZ tP tN tO a_ctx a_states a_likely H.size states_n states_f p2 hpre) (cwV 1 hts gX2_next_X4_likelyCame rfl rfl rfl (by decide +kernel) ⟨Nat.le_of_ble_eq_true rfl, Nat.le_of_ble_eq_true rfl⟩) ⟨fun a U g mk q => by obtain ⟨q0, q1, qP, qK, qD, qZ⟩ := q; exact ⟨q0, q1, qP, va_K.moved (u := U) (U := U.calling g mk a) (Vm.Alike.refl U.vm) qK, qD, Zs.moved (u := U) (U := U.calling g mk a) (Vm.Alike.refl U.vm) qZ⟩, va_recv hK hPc (ci := 3) (q0 := 0) rfl rfl, fun U hU hW => ⟨rfl, by rw [hU], by rw [hU]; exact hPc, va_K.moved hW.alike hK, hDc.weaken (fun _ _ _ _ => trivial), by rw [hU]; exact (((hZ.kept hS.2.1).narrow hFc).moved hW.alike)⟩⟩ rfl rfl hl.1 rfl (lv_room (Nat.le_of_ble_eq_true rfl)) dX2_next_113 ⟨Nat.le_of_ble_eq_true rfl, Nat.le_of_ble_eq_true rfl⟩) hS (fun q _ h => hFc q h) hFc (fun u t H1 locs ht hvm hw hB hz1 hk1 hS => ?_)
        obtain ⟨hP1, hK1, hD1⟩ := hB
        rw [ht] at hP1
        obtain ⟨r_22, hr_22⟩ : ∃ z, F_X4_likelyCame p2 states_f = z := ⟨_, rfl⟩
        try rw [hr_22] at hw
        try rw [hr_22] at hP1
        try rw [hr_22] at hD1
        have hg : (r_22, likely_f) = j_23 := by first | (rw [hr_22] at hg; exact hg) | (subst hr_22; exact hg)
        obtain ⟨hP, hD⟩ := va_join (wr := [(a_row, .inr (0, [.ref a_bytes, .int row_count, .int row_start])), (a_bytes, .inl (cI, bytes_n, .inl bytes_f)), (a_likely, .inl (cI, likely_n, .inl likely_f)), (a_cr, .inr (1, [.ref a_row, .ref a_ctx, .int cr_place, .int cr_end, .int cr_window, .int r_1, .int cr_room]))]) (w1 := (wd_ctx_states cI a_ctx a_states a_likely states_n r_22)) hP hD [2, 3] [0, 1, 4, 5] rfl rfl (by decide) (by decide) hk1 hFc hP1 hD1
        have hP : va_P (dC, dI) vwCl (wd_row_bytes_ctx_states_likely_cr cI a_row a_bytes a_ctx a_states a_likely a_cr row_count row_start bytes_n bytes_f states_n r_22 likely_n likely_f cr_place cr_end cr_window r_1 cr_room) H1 := hP.sub [0, 1, 4, 5, 2, 3] rfl
        have hD : va_D A (wd_row_bytes_ctx_states_likely_cr cI a_row a_bytes a_ctx a_states a_likely a_cr row_count row_start bytes_n bytes_f states_n r_22 likely_n likely_f cr_place cr_end cr_window r_1 cr_room) := hD.sub [0, 1, 4, 5, 2, 3] (by decide) rfl
        generalize H1 = H at hP hS ⊢
        refine lv_goto (tgt := 127) hx hb dX2_next_116 (by decide) ?_
        exact hJ_j_23 _ _ _ (by rw [← hg]; exact hP) (by rw [← hg]; exact hD) hS (lv_sub hl [1, 2, 3, 4, 5, 0] rfl)
    have hg : (if r_1 ≤ (cr_size - r_1) then (0 : Int32) else (1 : Int32)) = j_19 := by rw [← hj_19]; rfl
    clear hj_19
    refine lv_icmp_ge (tgt := 52) hx hb dX2_next_45 (by decide) (fun c_18 => ?_) (fun c_18 => ?_)
    · rw [if_pos c_18] at hg
      refine lv_iconst (v := 0) hx hb dX2_next_52 (by decide) ?_
      rw [← hg] at hJ_j_19
      exact hJ_j_19 _ _ _ hP hD hS (lv_sub hl [2, 3, 4, 1, 0] rfl)
    · rw [if_neg c_18] at hg
      refine lv_iconst (v := 1) hx hb dX2_next_48 (by decide) ?_
      refine lv_goto (tgt := 53) hx hb dX2_next_49 (by decide) ?_
      rw [← hg] at hJ_j_19
      exact hJ_j_19 _ _ _ hP hD hS (lv_sub hl [2, 3, 4, 1, 0] rfl)

abbrev rm_X11_count : Room := { frames := 0, cells := 0, slots := 0, locals := 0 }
abbrev Q_X11_count (dC : Nat → ClassId) (dI : Nat → Nat → Nat) (cI cJ cZ : ClassId) (a_md : Nat) (a_mpart : Nat) (a_mother : Nat) (a_mmagnitude : Nat) (a_mminus : Nat) (a_mreach : Nat) (a_mgain : Nat) (a_msegmentOf : Nat) (a_mbegins : Nat) (a_mlengths : Nat) (a_mknown : Nat) (a_mbelow : Nat) (a_mlatest : Nat) (a_mearly : Nat) (a_magain : Nat) (a_mstates : Nat) (a_mlikely : Nat) (a_mbytes : Nat) (A : Nat → Prop) (md_thrown : Int32) (md_wide : Int32) (md_high : Int32) (md_band : Int32) (md_style : Int32) (md_isWritten : Int32) (md_isRead : Int32) (md_planes : Int32) (md_passes : Int32) (md_segments : Int32) (md_writing : Int32) (md_plane : Int32) (md_raw : Int32) (md_faults : Int32) (md_size : Int32) (md_begin : Int32) (md_low : Int32) (md_carried : Int32) (md_span : Int32) (md_room : Int32) (md_place : Int32) (md_limit : Int32) (md_next : Int32) (md_last : Int32) (md_upper : Int64) (mmagnitude_n : Nat) (mmagnitude_f : Nat → Int32) (g : (Int32 × Int32)) : Array Value → State → Outcome → State → Prop := va_Qv (fun _ : Unit => True) (fun u t => va_P (dC, dI) vwCl (wd_md_mmagnitude cI a_md a_mpart a_mother a_mmagnitude a_mminus a_mreach a_mgain a_msegmentOf a_mbegins a_mlengths a_mknown a_mbelow a_mlatest a_mearly a_magain a_mstates a_mlikely a_mbytes md_thrown md_wide md_high md_band md_style md_isWritten md_isRead g.1 g.2 md_segments md_writing md_plane md_raw md_faults md_size md_begin md_low md_carried md_span md_room md_place md_limit md_next md_last md_upper mmagnitude_n mmagnitude_f) t.heap ∧ va_K (dC, dI) vwCl [(cI, .int), (cJ, .long), (cZ, .boolean)] t ∧ va_D A (wd_md_mmagnitude cI a_md a_mpart a_mother a_mmagnitude a_mminus a_mreach a_mgain a_msegmentOf a_mbegins a_mlengths a_mknown a_mbelow a_mlatest a_mearly a_magain a_mstates a_mlikely a_mbytes md_thrown md_wide md_high md_band md_style md_isWritten md_isRead g.1 g.2 md_segments md_writing md_plane md_raw md_faults md_size md_begin md_low md_carried md_span md_room md_place md_limit md_next md_last md_upper mmagnitude_n mmagnitude_f)) A
theorem iw_X11_count_X11 : ∀ w ∈ u_ws RX11 TX11 42, w ∈ wsX11_count := by decide +kernel
set_option maxHeartbeats 4000000 in
set_option maxRecDepth 100000 in
theorem c_X11_count (l : Launch) (dC : Nat → ClassId) (dI : Nat → Nat → Nat) (cI cJ cZ : ClassId) (a_md : Nat) (a_mpart : Nat) (a_mother : Nat) (a_mmagnitude : Nat) (a_mminus : Nat) (a_mreach : Nat) (a_mgain : Nat) (a_msegmentOf : Nat) (a_mbegins : Nat) (a_mlengths : Nat) (a_mknown : Nat) (a_mbelow : Nat) (a_mlatest : Nat) (a_mearly : Nat) (a_magain : Nat) (a_mstates : Nat) (a_mlikely : Nat) (a_mbytes : Nat) (sz : Nat) (md_thrown : Int32) (md_wide : Int32) (md_high : Int32) (md_band : Int32) (md_style : Int32) (md_isWritten : Int32) (md_isRead : Int32) (md_planes : Int32) (md_passes : Int32) (md_segments : Int32) (md_writing : Int32) (md_plane : Int32) (md_raw : Int32) (md_faults : Int32) (md_size : Int32) (md_begin : Int32) (md_low : Int32) (md_carried : Int32) (md_span : Int32) (md_room : Int32) (md_place : Int32) (md_limit : Int32) (md_next : Int32) (md_last : Int32) (md_upper : Int64) (mmagnitude_n : Nat) (mmagnitude_f : Nat → Int32) (hpre : P_X11_count md_wide md_high mmagnitude_n mmagnitude_f) : Met l yX11_count wsX11_count rm_X11_count (va_Pc [.ref a_md] (fun U => U.heap.size = sz ∧ va_P (dC, dI) vwCl (wd_md_mmagnitude cI a_md a_mpart a_mother a_mmagnitude a_mminus a_mreach a_mgain a_msegmentOf a_mbegins a_mlengths a_mknown a_mbelow a_mlatest a_mearly a_magain a_mstates a_mlikely a_mbytes md_thrown md_wide md_high md_band md_style md_isWritten md_isRead md_planes md_passes md_segments md_writing md_plane md_raw md_faults md_size md_begin md_low md_carried md_span md_room md_place md_limit md_next md_last md_upper mmagnitude_n mmagnitude_f) U.heap ∧ va_K (dC, dI) vwCl [(cI, .int), (cJ, .long), (cZ, .boolean)] U ∧ va_D (fun _ => True) (wd_md_mmagnitude cI a_md a_mpart a_mother a_mmagnitude a_mminus a_mreach a_mgain a_msegmentOf a_mbegins a_mlengths a_mknown a_mbelow a_mlatest a_mearly a_magain a_mstates a_mlikely a_mbytes md_thrown md_wide md_high md_band md_style md_isWritten md_isRead md_planes md_passes md_segments md_writing md_plane md_raw md_faults md_size md_begin md_low md_carried md_span md_room md_place md_limit md_next md_last md_upper mmagnitude_n mmagnitude_f))) (Q_X11_count dC dI cI cJ cZ a_md a_mpart a_mother a_mmagnitude a_mminus a_mreach a_mgain a_msegmentOf a_mbegins a_mlengths a_mknown a_mbelow a_mlatest a_mearly a_magain a_mstates a_mlikely a_mbytes (va_A (wd_md_mmagnitude cI a_md a_mpart a_mother a_mmagnitude a_mminus a_mreach a_mgain a_msegmentOf a_mbegins a_mlengths a_mknown a_mbelow a_mlatest a_mearly a_magain a_mstates a_mlikely a_mbytes md_thrown md_wide md_high md_band md_style md_isWritten md_isRead md_planes md_passes md_segments md_writing md_plane md_raw md_faults md_size md_begin md_low md_carried md_span md_room md_place md_limit md_next md_last md_upper mmagnitude_n mmagnitude_f) sz) md_thrown md_wide md_high md_band md_style md_isWritten md_isRead md_planes md_passes md_segments md_writing md_plane md_raw md_faults md_size md_begin md_low md_carried md_span md_room md_place md_limit md_next md_last md_upper mmagnitude_n mmagnitude_f (F_X11_count md_wide md_high mmagnitude_f)) 0 0 (va_A (wd_md_mmagnitude cI a_md a_mpart a_mother a_mmagnitude a_mminus a_mreach a_mgain a_msegmentOf a_mbegins a_mlengths a_mknown a_mbelow a_mlatest a_mearly a_magain a_mstates a_mlikely a_mbytes md_thrown md_wide md_high md_band md_style md_isWritten md_isRead md_planes md_passes md_segments md_writing md_plane md_raw md_faults md_size md_begin md_low md_carried md_span md_room md_place md_limit md_next md_last md_upper mmagnitude_n mmagnitude_f) sz) := by
  refine Met.ofW (cc := cX11_count) (maxL := 3) (ret := none) (by decide) rfl ?_
  intro p e s m args below meth c s₁ B hml hv
  obtain ⟨rfl, hsz, hP, hK, hD0⟩ := hv
  have hx := B.exec
  have hb := B.bytes
  have hr := B.returns
  have hts := atoms_spec (ws := wsX11_count) B.pre
  have hown : s.vm.findClass RX11 = some m.cls := findClass_of_methodNamed B.named
  have hlocks := B.notSynchronized
  subst hsz
  have hD := hD0.self (sz := s.heap.size)
  generalize hAe : va_A (wd_md_mmagnitude cI a_md a_mpart a_mother a_mmagnitude a_mminus a_mreach a_mgain a_msegmentOf a_mbegins a_mlengths a_mknown a_mbelow a_mlatest a_mearly a_magain a_mstates a_mlikely a_mbytes md_thrown md_wide md_high md_band md_style md_isWritten md_isRead md_planes md_passes md_segments md_writing md_plane md_raw md_faults md_size md_begin md_low md_carried md_span md_room md_place md_limit md_next md_last md_upper mmagnitude_n mmagnitude_f) s.heap.size = A at hD ⊢
  have hA : ∀ q : Nat, s.heap.size ≤ q → A q := fun q h => by rw [← hAe]; exact Or.inr h
  have hS : va_S A s.heap s.heap [] := va_S.rf
  obtain ⟨H, hH⟩ : ∃ z, z = s.heap := ⟨_, rfl⟩
  have hP : va_P (dC, dI) vwCl (wd_md_mmagnitude cI a_md a_mpart a_mother a_mmagnitude a_mminus a_mreach a_mgain a_msegmentOf a_mbegins a_mlengths a_mknown a_mbelow a_mlatest a_mearly a_magain a_mstates a_mlikely a_mbytes md_thrown md_wide md_high md_band md_style md_isWritten md_isRead md_planes md_passes md_segments md_writing md_plane md_raw md_faults md_size md_begin md_low md_carried md_span md_room md_place md_limit md_next md_last md_upper mmagnitude_n mmagnitude_f) H := by rw [hH]; exact hP
  have hS : va_S A s.heap H [] := by rw [hH]; exact va_S.rf
  obtain ⟨g, hg⟩ : ∃ z, F_X11_count md_wide md_high mmagnitude_f = z := ⟨_, rfl⟩
  rw [hg]
  generalize hQe : MQ below (Q_X11_count dC dI cI cJ cZ a_md a_mpart a_mother a_mmagnitude a_mminus a_mreach a_mgain a_msegmentOf a_mbegins a_mlengths a_mknown a_mbelow a_mlatest a_mearly a_magain a_mstates a_mlikely a_mbytes A md_thrown md_wide md_high md_band md_style md_isWritten md_isRead md_planes md_passes md_segments md_writing md_plane md_raw md_faults md_size md_begin md_low md_carried md_span md_room md_place md_limit md_next md_last md_upper mmagnitude_n mmagnitude_f g) _ s 0 0 A = Q
  rw [← hH]
  clear hH
  have hl := lv_entry ([.ref a_md]) (n := 3) (Nat.le_of_ble_eq_true rfl)
  rw [lg_entry_eq]
  generalize (lg_sl ([.ref a_md]) ++ List.replicate (3 - (lg_sl ([.ref a_md])).length) Slot.unset).toArray = ls at hl ⊢
  have hl : lv_has ls 3 [(0, .ref a_md)] := hl
  unfold F_X11_count at hg
  unfold P_X11_count at hpre
  refine lv_iconst (v := 0) hx hb dX11_count_0 (by decide) ?_
  refine lv_istore_n (lv' := [(1, .int (0 : Int32)), (0, .ref a_md)]) hx hb dX11_count_1 rfl hl (by decide) rfl (fun ls hl => ?_)
  refine lv_iconst (v := 0) hx hb dX11_count_2 (by decide) ?_
  refine lv_istore_n (lv' := [(2, .int (0 : Int32)), (1, .int (0 : Int32)), (0, .ref a_md)]) hx hb dX11_count_3 rfl hl (by decide) rfl (fun ls hl => ?_)
  obtain ⟨j_1, hj_1⟩ : ∃ z, L_X11_count_j_1 md_wide md_high mmagnitude_f fu (0 : Int32) (0 : Int32) = z := ⟨_, rfl⟩
  have hg : (let j_4 := L_X11_count_j_4 j_1 fu (0 : Int32); if j_4 = (0 : Int32) then (j_4, (0 : Int32)) else (j_4, ((3 : Int32) * j_4) - (2 : Int32))) = g := by first | (rw [hj_1] at hg; exact hg) | (subst hj_1; exact hg)
  have hJ_j_1 : ∀ (H : Heap) (locs : List Loc) (ls : Array Slot), va_P (dC, dI) vwCl (wd_md_mmagnitude cI a_md a_mpart a_mother a_mmagnitude a_mminus a_mreach a_mgain a_msegmentOf a_mbegins a_mlengths a_mknown a_mbelow a_mlatest a_mearly a_magain a_mstates a_mlikely a_mbytes md_thrown md_wide md_high md_band md_style md_isWritten md_isRead md_planes md_passes md_segments md_writing md_plane md_raw md_faults md_size md_begin md_low md_carried md_span md_room md_place md_limit md_next md_last md_upper mmagnitude_n mmagnitude_f) H → va_D A (wd_md_mmagnitude cI a_md a_mpart a_mother a_mmagnitude a_mminus a_mreach a_mgain a_msegmentOf a_mbegins a_mlengths a_mknown a_mbelow a_mlatest a_mearly a_magain a_mstates a_mlikely a_mbytes md_thrown md_wide md_high md_band md_style md_isWritten md_isRead md_planes md_passes md_segments md_writing md_plane md_raw md_faults md_size md_begin md_low md_carried md_span md_room md_place md_limit md_next md_last md_upper mmagnitude_n mmagnitude_f) → va_S A s.heap H locs → lv_has ls 3 [(0, .ref a_md), (1, .int j_1.1), (2, .int j_1.2)] → W p l e (headSpec wsX11_count rm_X11_count).room s m ([.ref a_md] : List Value).toArray below meth c H locs 0 0 Q (F0 m 32 ls []) := by
    intro H locs ls hP hD hS hl
    have hpre := hpre.2 j_1 hj_1
    refine lv_aload_n hx hb dX11_count_32 rfl (lv_at hl 0 rfl) ?_
    refine lv_iconst (v := 0) hx hb dX11_count_33 (by decide) ?_
    refine va_put (D := (dC, dI)) (ci := 10) (v := .int (0 : Int32)) (ty := .int) (C := RX11) (T := TX11) (N := 42) hx hb hts iw_X11_count_X11 tyX11 tyX11_ok nmX11 hown hK hP hD hS 0 rfl rfl 11 (by decide) (hts (.fieldLink RX11 234 "PlaneBlocksModel" "planes" "I") (by decide +kernel)) (fun _ h9 => h9) rfl (by decide +kernel) rfl rfl (Nat.le_of_ble_eq_true rfl) dX11_count_34 (fun H locs hP hD hS => ?_)
    have hP : va_P (dC, dI) vwCl (wd_md_mmagnitude cI a_md a_mpart a_mother a_mmagnitude a_mminus a_mreach a_mgain a_msegmentOf a_mbegins a_mlengths a_mknown a_mbelow a_mlatest a_mearly a_magain a_mstates a_mlikely a_mbytes md_thrown md_wide md_high md_band md_style md_isWritten md_isRead (0 : Int32) md_passes md_segments md_writing md_plane md_raw md_faults md_size md_begin md_low md_carried md_span md_room md_place md_limit md_next md_last md_upper mmagnitude_n mmagnitude_f) H := hP
    have hD : va_D A (wd_md_mmagnitude cI a_md a_mpart a_mother a_mmagnitude a_mminus a_mreach a_mgain a_msegmentOf a_mbegins a_mlengths a_mknown a_mbelow a_mlatest a_mearly a_magain a_mstates a_mlikely a_mbytes md_thrown md_wide md_high md_band md_style md_isWritten md_isRead (0 : Int32) md_passes md_segments md_writing md_plane md_raw md_faults md_size md_begin md_low md_carried md_span md_room md_place md_limit md_next md_last md_upper mmagnitude_n mmagnitude_f) := hD
    obtain ⟨j_4, hj_4⟩ : ∃ z, L_X11_count_j_4 j_1 fu (0 : Int32) = z := ⟨_, rfl⟩
    have hg : (if j_4 = (0 : Int32) then (j_4, (0 : Int32)) else (j_4, ((3 : Int32) * j_4) - (2 : Int32))) = g := by first | (rw [hj_4] at hg; exact hg) | (subst hj_4; exact hg)
    have hJ_j_4 : ∀ (H : Heap) (locs : List Loc) (ls : Array Slot), va_P (dC, dI) vwCl (wd_md_mmagnitude cI a_md a_mpart a_mother a_mmagnitude a_mminus a_mreach a_mgain a_msegmentOf a_mbegins a_mlengths a_mknown a_mbelow a_mlatest a_mearly a_magain a_mstates a_mlikely a_mbytes md_thrown md_wide md_high md_band md_style md_isWritten md_isRead j_4 md_passes md_segments md_writing md_plane md_raw md_faults md_size md_begin md_low md_carried md_span md_room md_place md_limit md_next md_last md_upper mmagnitude_n mmagnitude_f) H → va_D A (wd_md_mmagnitude cI a_md a_mpart a_mother a_mmagnitude a_mminus a_mreach a_mgain a_msegmentOf a_mbegins a_mlengths a_mknown a_mbelow a_mlatest a_mearly a_magain a_mstates a_mlikely a_mbytes md_thrown md_wide md_high md_band md_style md_isWritten md_isRead j_4 md_passes md_segments md_writing md_plane md_raw md_faults md_size md_begin md_low md_carried md_span md_room md_place md_limit md_next md_last md_upper mmagnitude_n mmagnitude_f) → va_S A s.heap H locs → lv_has ls 3 [(0, .ref a_md), (1, .int j_1.1), (2, .int j_1.2)] → W p l e (headSpec wsX11_count rm_X11_count).room s m ([.ref a_md] : List Value).toArray below meth c H locs 0 0 Q (F0 m 59 ls []) := by
      intro H locs ls hP hD hS hl
      refine lv_aload_n hx hb dX11_count_59 rfl (lv_at hl 0 rfl) ?_
      refine lv_aload_n hx hb dX11_count_60 rfl (lv_at hl 0 rfl) ?_
      refine va_get (D := (dC, dI)) (ci := 10) (v := .int j_4) (C := RX11) (T := TX11) (N := 42) hx hb hts iw_X11_count_X11 hown hK hP 0 rfl rfl 11 (by decide) (hts (.fieldLink RX11 234 "PlaneBlocksModel" "planes" "I") (by decide +kernel)) (fun _ h9 => h9) rfl dX11_count_61 ?_
      refine lv_if_ne (tgt := 71) hx hb dX11_count_64 (by decide) (fun c_6 => ?_) (fun c_6 => ?_)
      · rw [if_neg c_6] at hg
        refine lv_iconst (v := 3) hx hb dX11_count_71 (by decide) ?_
        refine lv_aload_n hx hb dX11_count_72 rfl (lv_at hl 0 rfl) ?_
        refine va_get (D := (dC, dI)) (ci := 10) (v := .int j_4) (C := RX11) (T := TX11) (N := 42) hx hb hts iw_X11_count_X11 hown hK hP 0 rfl rfl 11 (by decide) (hts (.fieldLink RX11 234 "PlaneBlocksModel" "planes" "I") (by decide +kernel)) (fun _ h9 => h9) rfl dX11_count_73 ?_
        refine lv_imul hx hb dX11_count_76 ?_
        refine lv_iconst (v := 2) hx hb dX11_count_77 (by decide) ?_
        refine lv_isub hx hb dX11_count_78 ?_
        refine va_put (D := (dC, dI)) (ci := 10) (v := .int (((3 : Int32) * j_4) - (2 : Int32))) (ty := .int) (C := RX11) (T := TX11) (N := 42) hx hb hts iw_X11_count_X11 tyX11 tyX11_ok nmX11 hown hK hP hD hS 0 rfl rfl 12 (by decide) (hts (.fieldLink RX11 237 "PlaneBlocksModel" "passes" "I") (by decide +kernel)) (fun _ h9 => h9) rfl (by decide +kernel) rfl rfl (Nat.le_of_ble_eq_true rfl) dX11_count_79 (fun H locs hP hD hS => ?_)
        have hP : va_P (dC, dI) vwCl (wd_md_mmagnitude cI a_md a_mpart a_mother a_mmagnitude a_mminus a_mreach a_mgain a_msegmentOf a_mbegins a_mlengths a_mknown a_mbelow a_mlatest a_mearly a_magain a_mstates a_mlikely a_mbytes md_thrown md_wide md_high md_band md_style md_isWritten md_isRead j_4 (((3 : Int32) * j_4) - (2 : Int32)) md_segments md_writing md_plane md_raw md_faults md_size md_begin md_low md_carried md_span md_room md_place md_limit md_next md_last md_upper mmagnitude_n mmagnitude_f) H := hP
        have hD : va_D A (wd_md_mmagnitude cI a_md a_mpart a_mother a_mmagnitude a_mminus a_mreach a_mgain a_msegmentOf a_mbegins a_mlengths a_mknown a_mbelow a_mlatest a_mearly a_magain a_mstates a_mlikely a_mbytes md_thrown md_wide md_high md_band md_style md_isWritten md_isRead j_4 (((3 : Int32) * j_4) - (2 : Int32)) md_segments md_writing md_plane md_raw md_faults md_size md_begin md_low md_carried md_span md_room md_place md_limit md_next md_last md_upper mmagnitude_n mmagnitude_f) := hD
        subst hg
        rw [← hQe]
        exact W.vret hx hb hr (fun t ht hW => ⟨⟨(), rfl, trivial, by rw [ht]; exact hP, va_K.moved hW.alike hK, hD⟩, hS.F ht⟩) hS.2.2 dX11_count_82
      · rw [if_pos c_6] at hg
        refine lv_iconst (v := 0) hx hb dX11_count_67 (by decide) ?_
        refine lv_goto (tgt := 79) hx hb dX11_count_68 (by decide) ?_
        refine va_put (D := (dC, dI)) (ci := 10) (v := .int (0 : Int32)) (ty := .int) (C := RX11) (T := TX11) (N := 42) hx hb hts iw_X11_count_X11 tyX11 tyX11_ok nmX11 hown hK hP hD hS 0 rfl rfl 12 (by decide) (hts (.fieldLink RX11 237 "PlaneBlocksModel" "passes" "I") (by decide +kernel)) (fun _ h9 => h9) rfl (by decide +kernel) rfl rfl (Nat.le_of_ble_eq_true rfl) dX11_count_79 (fun H locs hP hD hS => ?_)
        have hP : va_P (dC, dI) vwCl (wd_md_mmagnitude cI a_md a_mpart a_mother a_mmagnitude a_mminus a_mreach a_mgain a_msegmentOf a_mbegins a_mlengths a_mknown a_mbelow a_mlatest a_mearly a_magain a_mstates a_mlikely a_mbytes md_thrown md_wide md_high md_band md_style md_isWritten md_isRead j_4 (0 : Int32) md_segments md_writing md_plane md_raw md_faults md_size md_begin md_low md_carried md_span md_room md_place md_limit md_next md_last md_upper mmagnitude_n mmagnitude_f) H := hP
        have hD : va_D A (wd_md_mmagnitude cI a_md a_mpart a_mother a_mmagnitude a_mminus a_mreach a_mgain a_msegmentOf a_mbegins a_mlengths a_mknown a_mbelow a_mlatest a_mearly a_magain a_mstates a_mlikely a_mbytes md_thrown md_wide md_high md_band md_style md_isWritten md_isRead j_4 (0 : Int32) md_segments md_writing md_plane md_raw md_faults md_size md_begin md_low md_carried md_span md_room md_place md_limit md_next md_last md_upper mmagnitude_n mmagnitude_f) := hD
        subst hg
        rw [← hQe]
        exact W.vret hx hb hr (fun t ht hW => ⟨⟨(), rfl, trivial, by rw [ht]; exact hP, va_K.moved hW.alike hK, hD⟩, hS.F ht⟩) hS.2.2 dX11_count_82
    have hL_j_4 : ∀ (n : Nat) (md_planes_j_4 : Int32) (H : Heap) (locs : List Loc) (ls : Array Slot), PL_X11_count_j_4 j_1 n md_planes_j_4 → L_X11_count_j_4 j_1 n md_planes_j_4 = j_4 → va_P (dC, dI) vwCl (wd_md_mmagnitude cI a_md a_mpart a_mother a_mmagnitude a_mminus a_mreach a_mgain a_msegmentOf a_mbegins a_mlengths a_mknown a_mbelow a_mlatest a_mearly a_magain a_mstates a_mlikely a_mbytes md_thrown md_wide md_high md_band md_style md_isWritten md_isRead md_planes_j_4 md_passes md_segments md_writing md_plane md_raw md_faults md_size md_begin md_low md_carried md_span md_room md_place md_limit md_next md_last md_upper mmagnitude_n mmagnitude_f) H → va_D A (wd_md_mmagnitude cI a_md a_mpart a_mother a_mmagnitude a_mminus a_mreach a_mgain a_msegmentOf a_mbegins a_mlengths a_mknown a_mbelow a_mlatest a_mearly a_magain a_mstates a_mlikely a_mbytes md_thrown md_wide md_high md_band md_style md_isWritten md_isRead md_planes_j_4 md_passes md_segments md_writing md_plane md_raw md_faults md_size md_begin md_low md_carried md_span md_room md_place md_limit md_next md_last md_upper mmagnitude_n mmagnitude_f) → va_S A s.heap H locs → lv_has ls 3 [(0, .ref a_md), (1, .int j_1.1), (2, .int j_1.2)] → W p l e (headSpec wsX11_count rm_X11_count).room s m ([.ref a_md] : List Value).toArray below meth c H locs 0 0 Q (F0 m 37 ls []) := by
      intro n
      induction n with
      | zero => intro md_planes_j_4 H locs ls hpre; exact absurd hpre id
      | succ n ih =>
        intro md_planes_j_4 H locs ls hpre hg hP hD hS hl
        rw [PL_X11_count_j_4] at hpre
        rw [L_X11_count_j_4] at hg
        refine lv_iload_n hx hb dX11_count_37 rfl (lv_at hl 1 rfl) ?_
        refine lv_aload_n hx hb dX11_count_38 rfl (lv_at hl 0 rfl) ?_
        refine va_get (D := (dC, dI)) (ci := 10) (v := .int md_planes_j_4) (C := RX11) (T := TX11) (N := 42) hx hb hts iw_X11_count_X11 hown hK hP 0 rfl rfl 11 (by decide) (hts (.fieldLink RX11 234 "PlaneBlocksModel" "planes" "I") (by decide +kernel)) (fun _ h9 => h9) rfl dX11_count_39 ?_
        refine lv_ishr hx hb dX11_count_42 ?_
        refine lv_if_eq (tgt := 59) hx hb dX11_count_43 (by decide) (fun c_5 => ?_) (fun c_5 => ?_)
        · rw [if_pos c_5] at hg
          exact hJ_j_4 _ _ _ (by rw [← hg]; exact hP) (by rw [← hg]; exact hD) hS (lv_sub hl [0, 1, 2] rfl)
        · rw [if_neg c_5] at hg
          have hpre := hpre c_5
          refine lv_aload_n hx hb dX11_count_46 rfl (lv_at hl 0 rfl) ?_
          refine lv_dup hx hb dX11_count_47 rfl ?_
          refine va_get (D := (dC, dI)) (ci := 10) (v := .int md_planes_j_4) (C := RX11) (T := TX11) (N := 42) hx hb hts iw_X11_count_X11 hown hK hP 0 rfl rfl 11 (by decide) (hts (.fieldLink RX11 234 "PlaneBlocksModel" "planes" "I") (by decide +kernel)) (fun _ h9 => h9) rfl dX11_count_48 ?_
          refine lv_iconst (v := 1) hx hb dX11_count_51 (by decide) ?_
          refine lv_iadd hx hb dX11_count_52 ?_
          refine va_put (D := (dC, dI)) (ci := 10) (v := .int (md_planes_j_4 + (1 : Int32))) (ty := .int) (C := RX11) (T := TX11) (N := 42) hx hb hts iw_X11_count_X11 tyX11 tyX11_ok nmX11 hown hK hP hD hS 0 rfl rfl 11 (by decide) (hts (.fieldLink RX11 234 "PlaneBlocksModel" "planes" "I") (by decide +kernel)) (fun _ h9 => h9) rfl (by decide +kernel) rfl rfl (Nat.le_of_ble_eq_true rfl) dX11_count_53 (fun H locs hP hD hS => ?_)
          have hP : va_P (dC, dI) vwCl (wd_md_mmagnitude cI a_md a_mpart a_mother a_mmagnitude a_mminus a_mreach a_mgain a_msegmentOf a_mbegins a_mlengths a_mknown a_mbelow a_mlatest a_mearly a_magain a_mstates a_mlikely a_mbytes md_thrown md_wide md_high md_band md_style md_isWritten md_isRead (md_planes_j_4 + (1 : Int32)) md_passes md_segments md_writing md_plane md_raw md_faults md_size md_begin md_low md_carried md_span md_room md_place md_limit md_next md_last md_upper mmagnitude_n mmagnitude_f) H := hP
          have hD : va_D A (wd_md_mmagnitude cI a_md a_mpart a_mother a_mmagnitude a_mminus a_mreach a_mgain a_msegmentOf a_mbegins a_mlengths a_mknown a_mbelow a_mlatest a_mearly a_magain a_mstates a_mlikely a_mbytes md_thrown md_wide md_high md_band md_style md_isWritten md_isRead (md_planes_j_4 + (1 : Int32)) md_passes md_segments md_writing md_plane md_raw md_faults md_size md_begin md_low md_carried md_span md_room md_place md_limit md_next md_last md_upper mmagnitude_n mmagnitude_f) := hD
          refine lv_goto (tgt := 37) hx hb dX11_count_56 (by decide) ?_
          exact ih (md_planes_j_4 + (1 : Int32)) _ _ _ hpre hg hP hD hS (lv_sub hl [0, 1, 2] rfl)
    exact hL_j_4 fu (0 : Int32) _ _ _ hpre hj_4 hP hD hS (lv_sub hl [0, 1, 2] rfl)
  have hpre := hpre.1
  have hL_j_1 : ∀ (n : Nat) (v1_j_1 : Int32) (v2_j_1 : Int32) (H : Heap) (locs : List Loc) (ls : Array Slot), PL_X11_count_j_1 md_wide md_high mmagnitude_n mmagnitude_f n v1_j_1 v2_j_1 → L_X11_count_j_1 md_wide md_high mmagnitude_f n v1_j_1 v2_j_1 = j_1 → va_P (dC, dI) vwCl (wd_md_mmagnitude cI a_md a_mpart a_mother a_mmagnitude a_mminus a_mreach a_mgain a_msegmentOf a_mbegins a_mlengths a_mknown a_mbelow a_mlatest a_mearly a_magain a_mstates a_mlikely a_mbytes md_thrown md_wide md_high md_band md_style md_isWritten md_isRead md_planes md_passes md_segments md_writing md_plane md_raw md_faults md_size md_begin md_low md_carried md_span md_room md_place md_limit md_next md_last md_upper mmagnitude_n mmagnitude_f) H → va_D A (wd_md_mmagnitude cI a_md a_mpart a_mother a_mmagnitude a_mminus a_mreach a_mgain a_msegmentOf a_mbegins a_mlengths a_mknown a_mbelow a_mlatest a_mearly a_magain a_mstates a_mlikely a_mbytes md_thrown md_wide md_high md_band md_style md_isWritten md_isRead md_planes md_passes md_segments md_writing md_plane md_raw md_faults md_size md_begin md_low md_carried md_span md_room md_place md_limit md_next md_last md_upper mmagnitude_n mmagnitude_f) → va_S A s.heap H locs → lv_has ls 3 [(0, .ref a_md), (1, .int v1_j_1), (2, .int v2_j_1)] → W p l e (headSpec wsX11_count rm_X11_count).room s m ([.ref a_md] : List Value).toArray below meth c H locs 0 0 Q (F0 m 4 ls []) := by
    intro n
    induction n with
    | zero => intro v1_j_1 v2_j_1 H locs ls hpre; exact absurd hpre id
    | succ n ih =>
      intro v1_j_1 v2_j_1 H locs ls hpre hg hP hD hS hl
      rw [PL_X11_count_j_1] at hpre
      rw [L_X11_count_j_1] at hg
      refine lv_iload_n hx hb dX11_count_4 rfl (lv_at hl 2 rfl) ?_
      refine lv_aload_n hx hb dX11_count_5 rfl (lv_at hl 0 rfl) ?_
      refine va_get (D := (dC, dI)) (ci := 10) (v := .int md_wide) (C := RX11) (T := TX11) (N := 42) hx hb hts iw_X11_count_X11 hown hK hP 0 rfl rfl 3 (by decide) (hts (.fieldLink RX11 16 "PlaneBlocksModel" "wide" "I") (by decide +kernel)) (fun _ h9 => h9) rfl dX11_count_6 ?_
      refine lv_aload_n hx hb dX11_count_9 rfl (lv_at hl 0 rfl) ?_
      refine va_get (D := (dC, dI)) (ci := 10) (v := .int md_high) (C := RX11) (T := TX11) (N := 42) hx hb hts iw_X11_count_X11 hown hK hP 0 rfl rfl 4 (by decide) (hts (.fieldLink RX11 20 "PlaneBlocksModel" "high" "I") (by decide +kernel)) (fun _ h9 => h9) rfl dX11_count_10 ?_
      refine lv_imul hx hb dX11_count_13 ?_
      refine lv_icmp_ge (tgt := 32) hx hb dX11_count_14 (by decide) (fun c_2 => ?_) (fun c_2 => ?_)
      · rw [if_pos c_2] at hg
        exact hJ_j_1 _ _ _ hP hD hS (by rw [← hg]; exact lv_sub hl [0, 1, 2] rfl)
      · rw [if_neg c_2] at hg
        have hpre := hpre c_2
        refine lv_iload_n hx hb dX11_count_17 rfl (lv_at hl 1 rfl) ?_
        refine lv_aload_n hx hb dX11_count_18 rfl (lv_at hl 0 rfl) ?_
        refine va_get (D := (dC, dI)) (ci := 10) (v := .ref a_mmagnitude) (C := RX11) (T := TX11) (N := 42) hx hb hts iw_X11_count_X11 hown hK hP 0 rfl rfl 7 (by decide) (hts (.fieldLink RX11 23 "PlaneBlocksModel" "magnitude" "[I") (by decide +kernel)) (fun _ h9 => h9) rfl dX11_count_19 ?_
        refine lv_iload_n hx hb dX11_count_22 rfl (lv_at hl 2 rfl) ?_
        have h_3 := hpre.1
        have hpre := hpre.2
        refine va_iald hx hb hK hP 1 0 rfl rfl h_3 dX11_count_23 ?_
        refine lv_ior hx hb dX11_count_24 ?_
        refine lv_istore_n (lv' := [(1, .int (v1_j_1 ||| (mmagnitude_f v2_j_1.toNatClampNeg))), (0, .ref a_md), (2, .int v2_j_1)]) hx hb dX11_count_25 rfl hl (by decide) rfl (fun ls hl => ?_)
        refine lv_iinc (v := (v2_j_1 + (1 : Int32))) (lv' := [(2, .int (v2_j_1 + (1 : Int32))), (1, .int (v1_j_1 ||| (mmagnitude_f v2_j_1.toNatClampNeg))), (0, .ref a_md)]) hx hb dX11_count_26 hl (k := 2) rfl rfl (by decide) rfl (fun ls hl => ?_)
        refine lv_goto (tgt := 4) hx hb dX11_count_29 (by decide) ?_
        exact ih (v1_j_1 ||| (mmagnitude_f v2_j_1.toNatClampNeg)) (v2_j_1 + (1 : Int32)) _ _ _ hpre hg hP hD hS (lv_sub hl [2, 1, 0] rfl)
  exact hL_j_1 fu (0 : Int32) (0 : Int32) _ _ _ hpre hj_1 hP hD hS (lv_sub hl [2, 1, 0] rfl)

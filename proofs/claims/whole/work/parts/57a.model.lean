abbrev rm_X11_gone : Room := { frames := 0, cells := 0, slots := 0, locals := 0 }
abbrev Q_X11_gone (dC : Nat → ClassId) (dI : Nat → Nat → Nat) (cI cJ cZ : ClassId) (a_md : Nat) (a_mpart : Nat) (a_mother : Nat) (a_mmagnitude : Nat) (a_mminus : Nat) (a_mreach : Nat) (a_mgain : Nat) (a_msegmentOf : Nat) (a_mbegins : Nat) (a_mlengths : Nat) (a_mknown : Nat) (a_mbelow : Nat) (a_mlatest : Nat) (a_mearly : Nat) (a_magain : Nat) (a_mstates : Nat) (a_mlikely : Nat) (a_mbytes : Nat) (A : Nat → Prop) (md_thrown : Int32) (md_wide : Int32) (md_high : Int32) (md_band : Int32) (md_style : Int32) (md_isWritten : Int32) (md_isRead : Int32) (md_planes : Int32) (md_passes : Int32) (md_segments : Int32) (md_writing : Int32) (md_plane : Int32) (md_raw : Int32) (md_faults : Int32) (md_size : Int32) (md_begin : Int32) (md_low : Int32) (md_carried : Int32) (md_span : Int32) (md_room : Int32) (md_place : Int32) (md_limit : Int32) (md_next : Int32) (md_last : Int32) (md_upper : Int64) (g : (Int32 × Int32)) : Array Value → State → Outcome → State → Prop := va_Qv (fun _ : Unit => True) (fun u t => va_P (dC, dI) vwCl (wd_md a_md a_mpart a_mother a_mmagnitude a_mminus a_mreach a_mgain a_msegmentOf a_mbegins a_mlengths a_mknown a_mbelow a_mlatest a_mearly a_magain a_mstates a_mlikely a_mbytes md_thrown md_wide md_high md_band md_style g.1 g.2 md_planes md_passes md_segments md_writing md_plane md_raw md_faults md_size md_begin md_low md_carried md_span md_room md_place md_limit md_next md_last md_upper) t.heap ∧ va_K (dC, dI) vwCl [(cI, .int), (cJ, .long), (cZ, .boolean)] t ∧ va_D A (wd_md a_md a_mpart a_mother a_mmagnitude a_mminus a_mreach a_mgain a_msegmentOf a_mbegins a_mlengths a_mknown a_mbelow a_mlatest a_mearly a_magain a_mstates a_mlikely a_mbytes md_thrown md_wide md_high md_band md_style g.1 g.2 md_planes md_passes md_segments md_writing md_plane md_raw md_faults md_size md_begin md_low md_carried md_span md_room md_place md_limit md_next md_last md_upper)) A
theorem iw_X11_gone_X11 : ∀ w ∈ u_ws RX11 TX11 42, w ∈ wsX11_gone := by decide +kernel
set_option maxHeartbeats 4000000 in
set_option maxRecDepth 100000 in
theorem c_X11_gone (l : Launch) (dC : Nat → ClassId) (dI : Nat → Nat → Nat) (cI cJ cZ : ClassId) (a_md : Nat) (a_mpart : Nat) (a_mother : Nat) (a_mmagnitude : Nat) (a_mminus : Nat) (a_mreach : Nat) (a_mgain : Nat) (a_msegmentOf : Nat) (a_mbegins : Nat) (a_mlengths : Nat) (a_mknown : Nat) (a_mbelow : Nat) (a_mlatest : Nat) (a_mearly : Nat) (a_magain : Nat) (a_mstates : Nat) (a_mlikely : Nat) (a_mbytes : Nat) (sz : Nat) (md_thrown : Int32) (md_wide : Int32) (md_high : Int32) (md_band : Int32) (md_style : Int32) (md_isWritten : Int32) (md_isRead : Int32) (md_planes : Int32) (md_passes : Int32) (md_segments : Int32) (md_writing : Int32) (md_plane : Int32) (md_raw : Int32) (md_faults : Int32) (md_size : Int32) (md_begin : Int32) (md_low : Int32) (md_carried : Int32) (md_span : Int32) (md_room : Int32) (md_place : Int32) (md_limit : Int32) (md_next : Int32) (md_last : Int32) (md_upper : Int64) : Met l yX11_gone wsX11_gone rm_X11_gone (va_Pc [.ref a_md] (fun U => U.heap.size = sz ∧ va_P (dC, dI) vwCl (wd_md a_md a_mpart a_mother a_mmagnitude a_mminus a_mreach a_mgain a_msegmentOf a_mbegins a_mlengths a_mknown a_mbelow a_mlatest a_mearly a_magain a_mstates a_mlikely a_mbytes md_thrown md_wide md_high md_band md_style md_isWritten md_isRead md_planes md_passes md_segments md_writing md_plane md_raw md_faults md_size md_begin md_low md_carried md_span md_room md_place md_limit md_next md_last md_upper) U.heap ∧ va_K (dC, dI) vwCl [(cI, .int), (cJ, .long), (cZ, .boolean)] U ∧ va_D (fun _ => True) (wd_md a_md a_mpart a_mother a_mmagnitude a_mminus a_mreach a_mgain a_msegmentOf a_mbegins a_mlengths a_mknown a_mbelow a_mlatest a_mearly a_magain a_mstates a_mlikely a_mbytes md_thrown md_wide md_high md_band md_style md_isWritten md_isRead md_planes md_passes md_segments md_writing md_plane md_raw md_faults md_size md_begin md_low md_carried md_span md_room md_place md_limit md_next md_last md_upper))) (Q_X11_gone dC dI cI cJ cZ a_md a_mpart a_mother a_mmagnitude a_mminus a_mreach a_mgain a_msegmentOf a_mbegins a_mlengths a_mknown a_mbelow a_mlatest a_mearly a_magain a_mstates a_mlikely a_mbytes (va_A (wd_md a_md a_mpart a_mother a_mmagnitude a_mminus a_mreach a_mgain a_msegmentOf a_mbegins a_mlengths a_mknown a_mbelow a_mlatest a_mearly a_magain a_mstates a_mlikely a_mbytes md_thrown md_wide md_high md_band md_style md_isWritten md_isRead md_planes md_passes md_segments md_writing md_plane md_raw md_faults md_size md_begin md_low md_carried md_span md_room md_place md_limit md_next md_last md_upper) sz) md_thrown md_wide md_high md_band md_style md_isWritten md_isRead md_planes md_passes md_segments md_writing md_plane md_raw md_faults md_size md_begin md_low md_carried md_span md_room md_place md_limit md_next md_last md_upper F_X11_gone) 0 0 (va_A (wd_md a_md a_mpart a_mother a_mmagnitude a_mminus a_mreach a_mgain a_msegmentOf a_mbegins a_mlengths a_mknown a_mbelow a_mlatest a_mearly a_magain a_mstates a_mlikely a_mbytes md_thrown md_wide md_high md_band md_style md_isWritten md_isRead md_planes md_passes md_segments md_writing md_plane md_raw md_faults md_size md_begin md_low md_carried md_span md_room md_place md_limit md_next md_last md_upper) sz) := by
  refine Met.ofW (cc := cX11_gone) (maxL := 1) (ret := none) (by decide) rfl ?_
  intro p e s m args below meth c s₁ B hml hv
  obtain ⟨rfl, hsz, hP, hK, hD0⟩ := hv
  have hx := B.exec
  have hb := B.bytes
  have hr := B.returns
  have hts := atoms_spec (ws := wsX11_gone) B.pre
  have hown : s.vm.findClass RX11 = some m.cls := findClass_of_methodNamed B.named
  have hlocks := B.notSynchronized
  subst hsz
  have hD := hD0.self (sz := s.heap.size)
  generalize hAe : va_A (wd_md a_md a_mpart a_mother a_mmagnitude a_mminus a_mreach a_mgain a_msegmentOf a_mbegins a_mlengths a_mknown a_mbelow a_mlatest a_mearly a_magain a_mstates a_mlikely a_mbytes md_thrown md_wide md_high md_band md_style md_isWritten md_isRead md_planes md_passes md_segments md_writing md_plane md_raw md_faults md_size md_begin md_low md_carried md_span md_room md_place md_limit md_next md_last md_upper) s.heap.size = A at hD ⊢
  have hA : ∀ q : Nat, s.heap.size ≤ q → A q := fun q h => by rw [← hAe]; exact Or.inr h
  have hS : va_S A s.heap s.heap [] := va_S.rf
  obtain ⟨H, hH⟩ : ∃ z, z = s.heap := ⟨_, rfl⟩
  have hP : va_P (dC, dI) vwCl (wd_md a_md a_mpart a_mother a_mmagnitude a_mminus a_mreach a_mgain a_msegmentOf a_mbegins a_mlengths a_mknown a_mbelow a_mlatest a_mearly a_magain a_mstates a_mlikely a_mbytes md_thrown md_wide md_high md_band md_style md_isWritten md_isRead md_planes md_passes md_segments md_writing md_plane md_raw md_faults md_size md_begin md_low md_carried md_span md_room md_place md_limit md_next md_last md_upper) H := by rw [hH]; exact hP
  have hS : va_S A s.heap H [] := by rw [hH]; exact va_S.rf
  obtain ⟨g, hg⟩ : ∃ z, F_X11_gone = z := ⟨_, rfl⟩
  rw [hg]
  generalize hQe : MQ below (Q_X11_gone dC dI cI cJ cZ a_md a_mpart a_mother a_mmagnitude a_mminus a_mreach a_mgain a_msegmentOf a_mbegins a_mlengths a_mknown a_mbelow a_mlatest a_mearly a_magain a_mstates a_mlikely a_mbytes A md_thrown md_wide md_high md_band md_style md_isWritten md_isRead md_planes md_passes md_segments md_writing md_plane md_raw md_faults md_size md_begin md_low md_carried md_span md_room md_place md_limit md_next md_last md_upper g) _ s 0 0 A = Q
  rw [← hH]
  clear hH
  have hl := lv_entry ([.ref a_md]) (n := 1) (Nat.le_of_ble_eq_true rfl)
  rw [lg_entry_eq]
  generalize (lg_sl ([.ref a_md]) ++ List.replicate (1 - (lg_sl ([.ref a_md])).length) Slot.unset).toArray = ls at hl ⊢
  have hl : lv_has ls 1 [(0, .ref a_md)] := hl
  unfold F_X11_gone at hg
  refine lv_aload_n hx hb dX11_gone_0 rfl (lv_at hl 0 rfl) ?_
  refine lv_iconst (v := 0) hx hb dX11_gone_1 (by decide) ?_
  refine va_put (D := (dC, dI)) (ci := 10) (v := .int (0 : Int32)) (ty := .boolean) (C := RX11) (T := TX11) (N := 42) hx hb hts iw_X11_gone_X11 tyX11 tyX11_ok nmX11 hown hK hP hD hS 0 rfl rfl 9 (by decide) (hts (.fieldLink RX11 249 "PlaneBlocksModel" "isWritten" "Z") (by decide +kernel)) (fun _ h9 => h9) rfl (by decide +kernel) rfl rfl (Nat.le_of_ble_eq_true rfl) dX11_gone_2 (fun H locs hP hD hS => ?_)
  have hP : va_P (dC, dI) vwCl (wd_md a_md a_mpart a_mother a_mmagnitude a_mminus a_mreach a_mgain a_msegmentOf a_mbegins a_mlengths a_mknown a_mbelow a_mlatest a_mearly a_magain a_mstates a_mlikely a_mbytes md_thrown md_wide md_high md_band md_style (0 : Int32) md_isRead md_planes md_passes md_segments md_writing md_plane md_raw md_faults md_size md_begin md_low md_carried md_span md_room md_place md_limit md_next md_last md_upper) H := hP
  have hD : va_D A (wd_md a_md a_mpart a_mother a_mmagnitude a_mminus a_mreach a_mgain a_msegmentOf a_mbegins a_mlengths a_mknown a_mbelow a_mlatest a_mearly a_magain a_mstates a_mlikely a_mbytes md_thrown md_wide md_high md_band md_style (0 : Int32) md_isRead md_planes md_passes md_segments md_writing md_plane md_raw md_faults md_size md_begin md_low md_carried md_span md_room md_place md_limit md_next md_last md_upper) := hD
  refine lv_aload_n hx hb dX11_gone_5 rfl (lv_at hl 0 rfl) ?_
  refine lv_iconst (v := 0) hx hb dX11_gone_6 (by decide) ?_
  refine va_put (D := (dC, dI)) (ci := 10) (v := .int (0 : Int32)) (ty := .boolean) (C := RX11) (T := TX11) (N := 42) hx hb hts iw_X11_gone_X11 tyX11 tyX11_ok nmX11 hown hK hP hD hS 0 rfl rfl 10 (by decide) (hts (.fieldLink RX11 246 "PlaneBlocksModel" "isRead" "Z") (by decide +kernel)) (fun _ h9 => h9) rfl (by decide +kernel) rfl rfl (Nat.le_of_ble_eq_true rfl) dX11_gone_7 (fun H locs hP hD hS => ?_)
  have hP : va_P (dC, dI) vwCl (wd_md a_md a_mpart a_mother a_mmagnitude a_mminus a_mreach a_mgain a_msegmentOf a_mbegins a_mlengths a_mknown a_mbelow a_mlatest a_mearly a_magain a_mstates a_mlikely a_mbytes md_thrown md_wide md_high md_band md_style (0 : Int32) (0 : Int32) md_planes md_passes md_segments md_writing md_plane md_raw md_faults md_size md_begin md_low md_carried md_span md_room md_place md_limit md_next md_last md_upper) H := hP
  have hD : va_D A (wd_md a_md a_mpart a_mother a_mmagnitude a_mminus a_mreach a_mgain a_msegmentOf a_mbegins a_mlengths a_mknown a_mbelow a_mlatest a_mearly a_magain a_mstates a_mlikely a_mbytes md_thrown md_wide md_high md_band md_style (0 : Int32) (0 : Int32) md_planes md_passes md_segments md_writing md_plane md_raw md_faults md_size md_begin md_low md_carried md_span md_room md_place md_limit md_next md_last md_upper) := hD
  subst hg
  rw [← hQe]
  exact W.vret hx hb hr (fun t ht hW => ⟨⟨(), rfl, trivial, by rw [ht]; exact hP, va_K.moved hW.alike hK, hD⟩, hS.F ht⟩) hS.2.2 dX11_gone_10
abbrev wd_md_mmagnitude_mminus (cI : ClassId) (cZ : ClassId) (a_md : Nat) (a_mpart : Nat) (a_mother : Nat) (a_mmagnitude : Nat) (a_mminus : Nat) (a_mreach : Nat) (a_mgain : Nat) (a_msegmentOf : Nat) (a_mbegins : Nat) (a_mlengths : Nat) (a_mknown : Nat) (a_mbelow : Nat) (a_mlatest : Nat) (a_mearly : Nat) (a_magain : Nat) (a_mstates : Nat) (a_mlikely : Nat) (a_mbytes : Nat) (md_thrown : Int32) (md_wide : Int32) (md_high : Int32) (md_band : Int32) (md_style : Int32) (md_isWritten : Int32) (md_isRead : Int32) (md_planes : Int32) (md_passes : Int32) (md_segments : Int32) (md_writing : Int32) (md_plane : Int32) (md_raw : Int32) (md_faults : Int32) (md_size : Int32) (md_begin : Int32) (md_low : Int32) (md_carried : Int32) (md_span : Int32) (md_room : Int32) (md_place : Int32) (md_limit : Int32) (md_next : Int32) (md_last : Int32) (md_upper : Int64) (mmagnitude_n : Nat) (mmagnitude_f : Nat → Int32) (mminus_n : Nat) (mminus_f : Nat → Int32) : va_W := [(a_md, .inr (10, [.ref a_mpart, .ref a_mother, .int md_thrown, .int md_wide, .int md_high, .int md_band, .int md_style, .ref a_mmagnitude, .ref a_mminus, .int md_isWritten, .int md_isRead, .int md_planes, .int md_passes, .ref a_mreach, .ref a_mgain, .ref a_msegmentOf, .int md_segments, .ref a_mbegins, .ref a_mlengths, .int md_writing, .ref a_mknown, .ref a_mbelow, .ref a_mlatest, .ref a_mearly, .ref a_magain, .int md_plane, .int md_raw, .int md_faults, .ref a_mstates, .ref a_mlikely, .int md_size, .ref a_mbytes, .int md_begin, .int md_low, .int md_carried, .int md_span, .int md_room, .int md_place, .int md_limit, .int md_next, .int md_last, .long md_upper])), (a_mmagnitude, .inl (cI, mmagnitude_n, .inl mmagnitude_f)), (a_mminus, .inl (cZ, mminus_n, .inl mminus_f))]
abbrev rm_X11_put : Room := { frames := 0, cells := 0, slots := 0, locals := 0 }
abbrev Q_X11_put (dC : Nat → ClassId) (dI : Nat → Nat → Nat) (cI cJ cZ : ClassId) (a_md : Nat) (a_mpart : Nat) (a_mother : Nat) (a_mmagnitude : Nat) (a_mminus : Nat) (a_mreach : Nat) (a_mgain : Nat) (a_msegmentOf : Nat) (a_mbegins : Nat) (a_mlengths : Nat) (a_mknown : Nat) (a_mbelow : Nat) (a_mlatest : Nat) (a_mearly : Nat) (a_magain : Nat) (a_mstates : Nat) (a_mlikely : Nat) (a_mbytes : Nat) (A : Nat → Prop) (md_thrown : Int32) (md_wide : Int32) (md_high : Int32) (md_band : Int32) (md_style : Int32) (md_isWritten : Int32) (md_isRead : Int32) (md_planes : Int32) (md_passes : Int32) (md_segments : Int32) (md_writing : Int32) (md_plane : Int32) (md_raw : Int32) (md_faults : Int32) (md_size : Int32) (md_begin : Int32) (md_low : Int32) (md_carried : Int32) (md_span : Int32) (md_room : Int32) (md_place : Int32) (md_limit : Int32) (md_next : Int32) (md_last : Int32) (md_upper : Int64) (mmagnitude_n : Nat) (mmagnitude_f : Nat → Int32) (mminus_n : Nat) (mminus_f : Nat → Int32) (g : ((Nat → Int32) × (Nat → Int32))) : Array Value → State → Outcome → State → Prop := va_Qv (fun _ : Unit => True) (fun u t => va_P (dC, dI) vwCl (wd_md_mmagnitude_mminus cI cZ a_md a_mpart a_mother a_mmagnitude a_mminus a_mreach a_mgain a_msegmentOf a_mbegins a_mlengths a_mknown a_mbelow a_mlatest a_mearly a_magain a_mstates a_mlikely a_mbytes md_thrown md_wide md_high md_band md_style md_isWritten md_isRead md_planes md_passes md_segments md_writing md_plane md_raw md_faults md_size md_begin md_low md_carried md_span md_room md_place md_limit md_next md_last md_upper mmagnitude_n g.1 mminus_n g.2) t.heap ∧ va_K (dC, dI) vwCl [(cI, .int), (cJ, .long), (cZ, .boolean)] t ∧ va_D A (wd_md_mmagnitude_mminus cI cZ a_md a_mpart a_mother a_mmagnitude a_mminus a_mreach a_mgain a_msegmentOf a_mbegins a_mlengths a_mknown a_mbelow a_mlatest a_mearly a_magain a_mstates a_mlikely a_mbytes md_thrown md_wide md_high md_band md_style md_isWritten md_isRead md_planes md_passes md_segments md_writing md_plane md_raw md_faults md_size md_begin md_low md_carried md_span md_room md_place md_limit md_next md_last md_upper mmagnitude_n g.1 mminus_n g.2)) A
theorem iw_X11_put_X11 : ∀ w ∈ u_ws RX11 TX11 42, w ∈ wsX11_put := by decide +kernel
set_option maxHeartbeats 4000000 in
set_option maxRecDepth 100000 in
theorem c_X11_put (l : Launch) (dC : Nat → ClassId) (dI : Nat → Nat → Nat) (cI cJ cZ : ClassId) (a_md : Nat) (a_mpart : Nat) (a_mother : Nat) (a_mmagnitude : Nat) (a_mminus : Nat) (a_mreach : Nat) (a_mgain : Nat) (a_msegmentOf : Nat) (a_mbegins : Nat) (a_mlengths : Nat) (a_mknown : Nat) (a_mbelow : Nat) (a_mlatest : Nat) (a_mearly : Nat) (a_magain : Nat) (a_mstates : Nat) (a_mlikely : Nat) (a_mbytes : Nat) (sz : Nat) (md_thrown : Int32) (md_wide : Int32) (md_high : Int32) (md_band : Int32) (md_style : Int32) (md_isWritten : Int32) (md_isRead : Int32) (md_planes : Int32) (md_passes : Int32) (md_segments : Int32) (md_writing : Int32) (md_plane : Int32) (md_raw : Int32) (md_faults : Int32) (md_size : Int32) (md_begin : Int32) (md_low : Int32) (md_carried : Int32) (md_span : Int32) (md_room : Int32) (md_place : Int32) (md_limit : Int32) (md_next : Int32) (md_last : Int32) (md_upper : Int64) (mmagnitude_n : Nat) (mmagnitude_f : Nat → Int32) (mminus_n : Nat) (mminus_f : Nat → Int32) (p1 : Int32) (p2 : Int32) (hpre : P_X11_put p1 p2 mmagnitude_n mminus_n) : Met l yX11_put wsX11_put rm_X11_put (va_Pc [.ref a_md, .int p1, .int p2] (fun U => U.heap.size = sz ∧ va_P (dC, dI) vwCl (wd_md_mmagnitude_mminus cI cZ a_md a_mpart a_mother a_mmagnitude a_mminus a_mreach a_mgain a_msegmentOf a_mbegins a_mlengths a_mknown a_mbelow a_mlatest a_mearly a_magain a_mstates a_mlikely a_mbytes md_thrown md_wide md_high md_band md_style md_isWritten md_isRead md_planes md_passes md_segments md_writing md_plane md_raw md_faults md_size md_begin md_low md_carried md_span md_room md_place md_limit md_next md_last md_upper mmagnitude_n mmagnitude_f mminus_n mminus_f) U.heap ∧ va_K (dC, dI) vwCl [(cI, .int), (cJ, .long), (cZ, .boolean)] U ∧ va_D (fun _ => True) (wd_md_mmagnitude_mminus cI cZ a_md a_mpart a_mother a_mmagnitude a_mminus a_mreach a_mgain a_msegmentOf a_mbegins a_mlengths a_mknown a_mbelow a_mlatest a_mearly a_magain a_mstates a_mlikely a_mbytes md_thrown md_wide md_high md_band md_style md_isWritten md_isRead md_planes md_passes md_segments md_writing md_plane md_raw md_faults md_size md_begin md_low md_carried md_span md_room md_place md_limit md_next md_last md_upper mmagnitude_n mmagnitude_f mminus_n mminus_f))) (Q_X11_put dC dI cI cJ cZ a_md a_mpart a_mother a_mmagnitude a_mminus a_mreach a_mgain a_msegmentOf a_mbegins a_mlengths a_mknown a_mbelow a_mlatest a_mearly a_magain a_mstates a_mlikely a_mbytes (va_A (wd_md_mmagnitude_mminus cI cZ a_md a_mpart a_mother a_mmagnitude a_mminus a_mreach a_mgain a_msegmentOf a_mbegins a_mlengths a_mknown a_mbelow a_mlatest a_mearly a_magain a_mstates a_mlikely a_mbytes md_thrown md_wide md_high md_band md_style md_isWritten md_isRead md_planes md_passes md_segments md_writing md_plane md_raw md_faults md_size md_begin md_low md_carried md_span md_room md_place md_limit md_next md_last md_upper mmagnitude_n mmagnitude_f mminus_n mminus_f) sz) md_thrown md_wide md_high md_band md_style md_isWritten md_isRead md_planes md_passes md_segments md_writing md_plane md_raw md_faults md_size md_begin md_low md_carried md_span md_room md_place md_limit md_next md_last md_upper mmagnitude_n mmagnitude_f mminus_n mminus_f (F_X11_put p1 p2 mmagnitude_f mminus_f)) 0 0 (va_A (wd_md_mmagnitude_mminus cI cZ a_md a_mpart a_mother a_mmagnitude a_mminus a_mreach a_mgain a_msegmentOf a_mbegins a_mlengths a_mknown a_mbelow a_mlatest a_mearly a_magain a_mstates a_mlikely a_mbytes md_thrown md_wide md_high md_band md_style md_isWritten md_isRead md_planes md_passes md_segments md_writing md_plane md_raw md_faults md_size md_begin md_low md_carried md_span md_room md_place md_limit md_next md_last md_upper mmagnitude_n mmagnitude_f mminus_n mminus_f) sz) := by
  refine Met.ofW (cc := cX11_put) (maxL := 3) (ret := none) (by decide) rfl ?_
  intro p e s m args below meth c s₁ B hml hv
  obtain ⟨rfl, hsz, hP, hK, hD0⟩ := hv
  have hx := B.exec
  have hb := B.bytes
  have hr := B.returns
  have hts := atoms_spec (ws := wsX11_put) B.pre
  have hown : s.vm.findClass RX11 = some m.cls := findClass_of_methodNamed B.named
  have hlocks := B.notSynchronized
  subst hsz
  have hD := hD0.self (sz := s.heap.size)
  generalize hAe : va_A (wd_md_mmagnitude_mminus cI cZ a_md a_mpart a_mother a_mmagnitude a_mminus a_mreach a_mgain a_msegmentOf a_mbegins a_mlengths a_mknown a_mbelow a_mlatest a_mearly a_magain a_mstates a_mlikely a_mbytes md_thrown md_wide md_high md_band md_style md_isWritten md_isRead md_planes md_passes md_segments md_writing md_plane md_raw md_faults md_size md_begin md_low md_carried md_span md_room md_place md_limit md_next md_last md_upper mmagnitude_n mmagnitude_f mminus_n mminus_f) s.heap.size = A at hD ⊢
  have hA : ∀ q : Nat, s.heap.size ≤ q → A q := fun q h => by rw [← hAe]; exact Or.inr h
  have hS : va_S A s.heap s.heap [] := va_S.rf
  obtain ⟨H, hH⟩ : ∃ z, z = s.heap := ⟨_, rfl⟩
  have hP : va_P (dC, dI) vwCl (wd_md_mmagnitude_mminus cI cZ a_md a_mpart a_mother a_mmagnitude a_mminus a_mreach a_mgain a_msegmentOf a_mbegins a_mlengths a_mknown a_mbelow a_mlatest a_mearly a_magain a_mstates a_mlikely a_mbytes md_thrown md_wide md_high md_band md_style md_isWritten md_isRead md_planes md_passes md_segments md_writing md_plane md_raw md_faults md_size md_begin md_low md_carried md_span md_room md_place md_limit md_next md_last md_upper mmagnitude_n mmagnitude_f mminus_n mminus_f) H := by rw [hH]; exact hP
  have hS : va_S A s.heap H [] := by rw [hH]; exact va_S.rf
  obtain ⟨g, hg⟩ : ∃ z, F_X11_put p1 p2 mmagnitude_f mminus_f = z := ⟨_, rfl⟩
  rw [hg]
  generalize hQe : MQ below (Q_X11_put dC dI cI cJ cZ a_md a_mpart a_mother a_mmagnitude a_mminus a_mreach a_mgain a_msegmentOf a_mbegins a_mlengths a_mknown a_mbelow a_mlatest a_mearly a_magain a_mstates a_mlikely a_mbytes A md_thrown md_wide md_high md_band md_style md_isWritten md_isRead md_planes md_passes md_segments md_writing md_plane md_raw md_faults md_size md_begin md_low md_carried md_span md_room md_place md_limit md_next md_last md_upper mmagnitude_n mmagnitude_f mminus_n mminus_f g) _ s 0 0 A = Q
  rw [← hH]
  clear hH
  have hl := lv_entry ([.ref a_md, .int p1, .int p2]) (n := 3) (Nat.le_of_ble_eq_true rfl)
  rw [lg_entry_eq]
  generalize (lg_sl ([.ref a_md, .int p1, .int p2]) ++ List.replicate (3 - (lg_sl ([.ref a_md, .int p1, .int p2])).length) Slot.unset).toArray = ls at hl ⊢
  have hl : lv_has ls 3 [(0, .ref a_md), (1, .int p1), (2, .int p2)] := hl
  unfold F_X11_put at hg
  unfold P_X11_put at hpre
  refine lv_aload_n hx hb dX11_put_0 rfl (lv_at hl 0 rfl) ?_
  refine va_get (D := (dC, dI)) (ci := 10) (v := .ref a_mmagnitude) (C := RX11) (T := TX11) (N := 42) hx hb hts iw_X11_put_X11 hown hK hP 0 rfl rfl 7 (by decide) (hts (.fieldLink RX11 23 "PlaneBlocksModel" "magnitude" "[I") (by decide +kernel)) (fun _ h9 => h9) rfl dX11_put_1 ?_
  refine lv_iload_n hx hb dX11_put_4 rfl (lv_at hl 1 rfl) ?_
  refine lv_iload_n hx hb dX11_put_5 rfl (lv_at hl 2 rfl) ?_
  obtain ⟨j_2, hj_2⟩ : ∃ z, J_X11_put_j_2 p2 = z := ⟨_, rfl⟩
  have hg : (if (0 : Int32) ≤ p2 then (upd mmagnitude_f p1.toNatClampNeg j_2, upd mminus_f p1.toNatClampNeg (vp_nar .boolean (0 : Int32))) else (upd mmagnitude_f p1.toNatClampNeg j_2, upd mminus_f p1.toNatClampNeg (vp_nar .boolean (1 : Int32)))) = g := by first | (rw [hj_2] at hg; exact hg) | (subst hj_2; exact hg)
  have hJ_j_2 : ∀ (H : Heap) (locs : List Loc) (ls : Array Slot), va_P (dC, dI) vwCl (wd_md_mmagnitude_mminus cI cZ a_md a_mpart a_mother a_mmagnitude a_mminus a_mreach a_mgain a_msegmentOf a_mbegins a_mlengths a_mknown a_mbelow a_mlatest a_mearly a_magain a_mstates a_mlikely a_mbytes md_thrown md_wide md_high md_band md_style md_isWritten md_isRead md_planes md_passes md_segments md_writing md_plane md_raw md_faults md_size md_begin md_low md_carried md_span md_room md_place md_limit md_next md_last md_upper mmagnitude_n mmagnitude_f mminus_n mminus_f) H → va_D A (wd_md_mmagnitude_mminus cI cZ a_md a_mpart a_mother a_mmagnitude a_mminus a_mreach a_mgain a_msegmentOf a_mbegins a_mlengths a_mknown a_mbelow a_mlatest a_mearly a_magain a_mstates a_mlikely a_mbytes md_thrown md_wide md_high md_band md_style md_isWritten md_isRead md_planes md_passes md_segments md_writing md_plane md_raw md_faults md_size md_begin md_low md_carried md_span md_room md_place md_limit md_next md_last md_upper mmagnitude_n mmagnitude_f mminus_n mminus_f) → va_S A s.heap H locs → lv_has ls 3 [(0, .ref a_md), (1, .int p1), (2, .int p2)] → W p l e (headSpec wsX11_put rm_X11_put).room s m ([.ref a_md, .int p1, .int p2] : List Value).toArray below meth c H locs 0 0 Q (F0 m 15 ls [.int j_2, .int p1, .ref a_mmagnitude]) := by
    intro H locs ls hP hD hS hl
    have hpre := hpre j_2 hj_2
    have h_3 := hpre.1
    have hpre := hpre.2
    refine va_iast hx hb hK hP hD hS 1 0 rfl rfl h_3 dX11_put_15 (fun H locs hP hD hS => ?_)
    have hP : va_P (dC, dI) vwCl (wd_md_mmagnitude_mminus cI cZ a_md a_mpart a_mother a_mmagnitude a_mminus a_mreach a_mgain a_msegmentOf a_mbegins a_mlengths a_mknown a_mbelow a_mlatest a_mearly a_magain a_mstates a_mlikely a_mbytes md_thrown md_wide md_high md_band md_style md_isWritten md_isRead md_planes md_passes md_segments md_writing md_plane md_raw md_faults md_size md_begin md_low md_carried md_span md_room md_place md_limit md_next md_last md_upper mmagnitude_n (upd mmagnitude_f p1.toNatClampNeg j_2) mminus_n mminus_f) H := hP
    have hD : va_D A (wd_md_mmagnitude_mminus cI cZ a_md a_mpart a_mother a_mmagnitude a_mminus a_mreach a_mgain a_msegmentOf a_mbegins a_mlengths a_mknown a_mbelow a_mlatest a_mearly a_magain a_mstates a_mlikely a_mbytes md_thrown md_wide md_high md_band md_style md_isWritten md_isRead md_planes md_passes md_segments md_writing md_plane md_raw md_faults md_size md_begin md_low md_carried md_span md_room md_place md_limit md_next md_last md_upper mmagnitude_n (upd mmagnitude_f p1.toNatClampNeg j_2) mminus_n mminus_f) := hD
    refine lv_aload_n hx hb dX11_put_16 rfl (lv_at hl 0 rfl) ?_
    refine va_get (D := (dC, dI)) (ci := 10) (v := .ref a_mminus) (C := RX11) (T := TX11) (N := 42) hx hb hts iw_X11_put_X11 hown hK hP 0 rfl rfl 8 (by decide) (hts (.fieldLink RX11 26 "PlaneBlocksModel" "minus" "[Z") (by decide +kernel)) (fun _ h9 => h9) rfl dX11_put_17 ?_
    refine lv_iload_n hx hb dX11_put_20 rfl (lv_at hl 1 rfl) ?_
    refine lv_iload_n hx hb dX11_put_21 rfl (lv_at hl 2 rfl) ?_
    refine lv_if_ge (tgt := 29) hx hb dX11_put_22 (by decide) (fun c_4 => ?_) (fun c_4 => ?_)
    · rw [if_pos c_4] at hg
      have hpre := hpre.1 c_4
      refine lv_iconst (v := 0) hx hb dX11_put_29 (by decide) ?_
      have h_5 := hpre
      refine va_zast hx hb hK hP hD hS 2 2 rfl rfl h_5 dX11_put_30 (fun H locs hP hD hS => ?_)
      have hP : va_P (dC, dI) vwCl (wd_md_mmagnitude_mminus cI cZ a_md a_mpart a_mother a_mmagnitude a_mminus a_mreach a_mgain a_msegmentOf a_mbegins a_mlengths a_mknown a_mbelow a_mlatest a_mearly a_magain a_mstates a_mlikely a_mbytes md_thrown md_wide md_high md_band md_style md_isWritten md_isRead md_planes md_passes md_segments md_writing md_plane md_raw md_faults md_size md_begin md_low md_carried md_span md_room md_place md_limit md_next md_last md_upper mmagnitude_n (upd mmagnitude_f p1.toNatClampNeg j_2) mminus_n (upd mminus_f p1.toNatClampNeg (vp_nar .boolean (0 : Int32)))) H := hP
      have hD : va_D A (wd_md_mmagnitude_mminus cI cZ a_md a_mpart a_mother a_mmagnitude a_mminus a_mreach a_mgain a_msegmentOf a_mbegins a_mlengths a_mknown a_mbelow a_mlatest a_mearly a_magain a_mstates a_mlikely a_mbytes md_thrown md_wide md_high md_band md_style md_isWritten md_isRead md_planes md_passes md_segments md_writing md_plane md_raw md_faults md_size md_begin md_low md_carried md_span md_room md_place md_limit md_next md_last md_upper mmagnitude_n (upd mmagnitude_f p1.toNatClampNeg j_2) mminus_n (upd mminus_f p1.toNatClampNeg (vp_nar .boolean (0 : Int32)))) := hD
      subst hg
      rw [← hQe]
      exact W.vret hx hb hr (fun t ht hW => ⟨⟨(), rfl, trivial, by rw [ht]; exact hP, va_K.moved hW.alike hK, hD⟩, hS.F ht⟩) hS.2.2 dX11_put_31
    · rw [if_neg c_4] at hg
      have hpre := hpre.2 c_4
      refine lv_iconst (v := 1) hx hb dX11_put_25 (by decide) ?_
      refine lv_goto (tgt := 30) hx hb dX11_put_26 (by decide) ?_
      have h_6 := hpre
      refine va_zast hx hb hK hP hD hS 2 2 rfl rfl h_6 dX11_put_30 (fun H locs hP hD hS => ?_)
      have hP : va_P (dC, dI) vwCl (wd_md_mmagnitude_mminus cI cZ a_md a_mpart a_mother a_mmagnitude a_mminus a_mreach a_mgain a_msegmentOf a_mbegins a_mlengths a_mknown a_mbelow a_mlatest a_mearly a_magain a_mstates a_mlikely a_mbytes md_thrown md_wide md_high md_band md_style md_isWritten md_isRead md_planes md_passes md_segments md_writing md_plane md_raw md_faults md_size md_begin md_low md_carried md_span md_room md_place md_limit md_next md_last md_upper mmagnitude_n (upd mmagnitude_f p1.toNatClampNeg j_2) mminus_n (upd mminus_f p1.toNatClampNeg (vp_nar .boolean (1 : Int32)))) H := hP
      have hD : va_D A (wd_md_mmagnitude_mminus cI cZ a_md a_mpart a_mother a_mmagnitude a_mminus a_mreach a_mgain a_msegmentOf a_mbegins a_mlengths a_mknown a_mbelow a_mlatest a_mearly a_magain a_mstates a_mlikely a_mbytes md_thrown md_wide md_high md_band md_style md_isWritten md_isRead md_planes md_passes md_segments md_writing md_plane md_raw md_faults md_size md_begin md_low md_carried md_span md_room md_place md_limit md_next md_last md_upper mmagnitude_n (upd mmagnitude_f p1.toNatClampNeg j_2) mminus_n (upd mminus_f p1.toNatClampNeg (vp_nar .boolean (1 : Int32)))) := hD
      subst hg
      rw [← hQe]
      exact W.vret hx hb hr (fun t ht hW => ⟨⟨(), rfl, trivial, by rw [ht]; exact hP, va_K.moved hW.alike hK, hD⟩, hS.F ht⟩) hS.2.2 dX11_put_31
  have hg : (if (0 : Int32) ≤ p2 then p2 else (-p2)) = j_2 := by rw [← hj_2]; rfl
  clear hj_2
  refine lv_if_ge (tgt := 14) hx hb dX11_put_6 (by decide) (fun c_1 => ?_) (fun c_1 => ?_)
  · rw [if_pos c_1] at hg
    refine lv_iload_n hx hb dX11_put_14 rfl (lv_at hl 2 rfl) ?_
    rw [← hg] at hJ_j_2
    exact hJ_j_2 _ _ _ hP hD hS (lv_sub hl [0, 1, 2] rfl)
  · rw [if_neg c_1] at hg
    refine lv_iload_n hx hb dX11_put_9 rfl (lv_at hl 2 rfl) ?_
    refine lv_ineg hx hb dX11_put_10 ?_
    refine lv_goto (tgt := 15) hx hb dX11_put_11 (by decide) ?_
    rw [← hg] at hJ_j_2
    exact hJ_j_2 _ _ _ hP hD hS (lv_sub hl [0, 1, 2] rfl)
abbrev rm_X11_isThere : Room := { frames := 1, cells := 0, slots := 0, locals := 22 }
abbrev Q_X11_isThere (dC : Nat → ClassId) (dI : Nat → Nat → Nat) (cI cJ cZ : ClassId) (a_md : Nat) (a_mpart : Nat) (a_mother : Nat) (a_mmagnitude : Nat) (a_mminus : Nat) (a_mreach : Nat) (a_mgain : Nat) (a_msegmentOf : Nat) (a_mbegins : Nat) (a_mlengths : Nat) (a_mknown : Nat) (a_mbelow : Nat) (a_mlatest : Nat) (a_mearly : Nat) (a_magain : Nat) (a_mstates : Nat) (a_mlikely : Nat) (a_mbytes : Nat) (A : Nat → Prop) (md_thrown : Int32) (md_wide : Int32) (md_high : Int32) (md_band : Int32) (md_style : Int32) (md_isWritten : Int32) (md_isRead : Int32) (md_planes : Int32) (md_passes : Int32) (md_segments : Int32) (md_writing : Int32) (md_plane : Int32) (md_raw : Int32) (md_faults : Int32) (md_size : Int32) (md_begin : Int32) (md_low : Int32) (md_carried : Int32) (md_span : Int32) (md_room : Int32) (md_place : Int32) (md_limit : Int32) (md_next : Int32) (md_last : Int32) (md_upper : Int64) (g : Int32) : Array Value → State → Outcome → State → Prop := va_Qi (fun (r : Int32) (_ : Unit) => r = g) (fun u t => va_P (dC, dI) vwCl (wd_md a_md a_mpart a_mother a_mmagnitude a_mminus a_mreach a_mgain a_msegmentOf a_mbegins a_mlengths a_mknown a_mbelow a_mlatest a_mearly a_magain a_mstates a_mlikely a_mbytes md_thrown md_wide md_high md_band md_style md_isWritten md_isRead md_planes md_passes md_segments md_writing md_plane md_raw md_faults md_size md_begin md_low md_carried md_span md_room md_place md_limit md_next md_last md_upper) t.heap ∧ va_K (dC, dI) vwCl [(cI, .int), (cJ, .long), (cZ, .boolean)] t ∧ va_D A (wd_md a_md a_mpart a_mother a_mmagnitude a_mminus a_mreach a_mgain a_msegmentOf a_mbegins a_mlengths a_mknown a_mbelow a_mlatest a_mearly a_magain a_mstates a_mlikely a_mbytes md_thrown md_wide md_high md_band md_style md_isWritten md_isRead md_planes md_passes md_segments md_writing md_plane md_raw md_faults md_size md_begin md_low md_carried md_span md_room md_place md_limit md_next md_last md_upper)) A
theorem iw_X11_isThere_X11 : ∀ w ∈ u_ws RX11 TX11 42, w ∈ wsX11_isThere := by decide +kernel
set_option maxHeartbeats 4000000 in
set_option maxRecDepth 100000 in
theorem c_X11_isThere (l : Launch) (dC : Nat → ClassId) (dI : Nat → Nat → Nat) (cI cJ cZ : ClassId) (a_md : Nat) (a_mpart : Nat) (a_mother : Nat) (a_mmagnitude : Nat) (a_mminus : Nat) (a_mreach : Nat) (a_mgain : Nat) (a_msegmentOf : Nat) (a_mbegins : Nat) (a_mlengths : Nat) (a_mknown : Nat) (a_mbelow : Nat) (a_mlatest : Nat) (a_mearly : Nat) (a_magain : Nat) (a_mstates : Nat) (a_mlikely : Nat) (a_mbytes : Nat) (sz : Nat) (md_thrown : Int32) (md_wide : Int32) (md_high : Int32) (md_band : Int32) (md_style : Int32) (md_isWritten : Int32) (md_isRead : Int32) (md_planes : Int32) (md_passes : Int32) (md_segments : Int32) (md_writing : Int32) (md_plane : Int32) (md_raw : Int32) (md_faults : Int32) (md_size : Int32) (md_begin : Int32) (md_low : Int32) (md_carried : Int32) (md_span : Int32) (md_room : Int32) (md_place : Int32) (md_limit : Int32) (md_next : Int32) (md_last : Int32) (md_upper : Int64) (p1 : Int32) (p2 : Int32) : Met l yX11_isThere wsX11_isThere rm_X11_isThere (va_Pc [.ref a_md, .int p1, .int p2] (fun U => U.heap.size = sz ∧ va_P (dC, dI) vwCl (wd_md a_md a_mpart a_mother a_mmagnitude a_mminus a_mreach a_mgain a_msegmentOf a_mbegins a_mlengths a_mknown a_mbelow a_mlatest a_mearly a_magain a_mstates a_mlikely a_mbytes md_thrown md_wide md_high md_band md_style md_isWritten md_isRead md_planes md_passes md_segments md_writing md_plane md_raw md_faults md_size md_begin md_low md_carried md_span md_room md_place md_limit md_next md_last md_upper) U.heap ∧ va_K (dC, dI) vwCl [(cI, .int), (cJ, .long), (cZ, .boolean)] U ∧ va_D (fun _ => True) (wd_md a_md a_mpart a_mother a_mmagnitude a_mminus a_mreach a_mgain a_msegmentOf a_mbegins a_mlengths a_mknown a_mbelow a_mlatest a_mearly a_magain a_mstates a_mlikely a_mbytes md_thrown md_wide md_high md_band md_style md_isWritten md_isRead md_planes md_passes md_segments md_writing md_plane md_raw md_faults md_size md_begin md_low md_carried md_span md_room md_place md_limit md_next md_last md_upper))) (Q_X11_isThere dC dI cI cJ cZ a_md a_mpart a_mother a_mmagnitude a_mminus a_mreach a_mgain a_msegmentOf a_mbegins a_mlengths a_mknown a_mbelow a_mlatest a_mearly a_magain a_mstates a_mlikely a_mbytes (va_A (wd_md a_md a_mpart a_mother a_mmagnitude a_mminus a_mreach a_mgain a_msegmentOf a_mbegins a_mlengths a_mknown a_mbelow a_mlatest a_mearly a_magain a_mstates a_mlikely a_mbytes md_thrown md_wide md_high md_band md_style md_isWritten md_isRead md_planes md_passes md_segments md_writing md_plane md_raw md_faults md_size md_begin md_low md_carried md_span md_room md_place md_limit md_next md_last md_upper) sz) md_thrown md_wide md_high md_band md_style md_isWritten md_isRead md_planes md_passes md_segments md_writing md_plane md_raw md_faults md_size md_begin md_low md_carried md_span md_room md_place md_limit md_next md_last md_upper (F_X11_isThere p1 p2 md_wide md_high)) 0 0 (va_A (wd_md a_md a_mpart a_mother a_mmagnitude a_mminus a_mreach a_mgain a_msegmentOf a_mbegins a_mlengths a_mknown a_mbelow a_mlatest a_mearly a_magain a_mstates a_mlikely a_mbytes md_thrown md_wide md_high md_band md_style md_isWritten md_isRead md_planes md_passes md_segments md_writing md_plane md_raw md_faults md_size md_begin md_low md_carried md_span md_room md_place md_limit md_next md_last md_upper) sz) := by
  refine Met.ofW (cc := cX11_isThere) (maxL := 3) (ret := (some .boolean)) (by decide) rfl ?_
  intro p e s m args below meth c s₁ B hml hv
  obtain ⟨rfl, hsz, hP, hK, hD0⟩ := hv
  have hx := B.exec
  have hb := B.bytes
  have hr := B.returns
  have hts := atoms_spec (ws := wsX11_isThere) B.pre
  have hown : s.vm.findClass RX11 = some m.cls := findClass_of_methodNamed B.named
  have hlocks := B.notSynchronized
  subst hsz
  have hD := hD0.self (sz := s.heap.size)
  generalize hAe : va_A (wd_md a_md a_mpart a_mother a_mmagnitude a_mminus a_mreach a_mgain a_msegmentOf a_mbegins a_mlengths a_mknown a_mbelow a_mlatest a_mearly a_magain a_mstates a_mlikely a_mbytes md_thrown md_wide md_high md_band md_style md_isWritten md_isRead md_planes md_passes md_segments md_writing md_plane md_raw md_faults md_size md_begin md_low md_carried md_span md_room md_place md_limit md_next md_last md_upper) s.heap.size = A at hD ⊢
  have hA : ∀ q : Nat, s.heap.size ≤ q → A q := fun q h => by rw [← hAe]; exact Or.inr h
  have hS : va_S A s.heap s.heap [] := va_S.rf
  obtain ⟨H, hH⟩ : ∃ z, z = s.heap := ⟨_, rfl⟩
  have hP : va_P (dC, dI) vwCl (wd_md a_md a_mpart a_mother a_mmagnitude a_mminus a_mreach a_mgain a_msegmentOf a_mbegins a_mlengths a_mknown a_mbelow a_mlatest a_mearly a_magain a_mstates a_mlikely a_mbytes md_thrown md_wide md_high md_band md_style md_isWritten md_isRead md_planes md_passes md_segments md_writing md_plane md_raw md_faults md_size md_begin md_low md_carried md_span md_room md_place md_limit md_next md_last md_upper) H := by rw [hH]; exact hP
  have hS : va_S A s.heap H [] := by rw [hH]; exact va_S.rf
  obtain ⟨g, hg⟩ : ∃ z, F_X11_isThere p1 p2 md_wide md_high = z := ⟨_, rfl⟩
  rw [hg]
  generalize hQe : MQ below (Q_X11_isThere dC dI cI cJ cZ a_md a_mpart a_mother a_mmagnitude a_mminus a_mreach a_mgain a_msegmentOf a_mbegins a_mlengths a_mknown a_mbelow a_mlatest a_mearly a_magain a_mstates a_mlikely a_mbytes A md_thrown md_wide md_high md_band md_style md_isWritten md_isRead md_planes md_passes md_segments md_writing md_plane md_raw md_faults md_size md_begin md_low md_carried md_span md_room md_place md_limit md_next md_last md_upper g) _ s 0 0 A = Q
  rw [← hH]
  clear hH
  have hl := lv_entry ([.ref a_md, .int p1, .int p2]) (n := 3) (Nat.le_of_ble_eq_true rfl)
  rw [lg_entry_eq]
  generalize (lg_sl ([.ref a_md, .int p1, .int p2]) ++ List.replicate (3 - (lg_sl ([.ref a_md, .int p1, .int p2])).length) Slot.unset).toArray = ls at hl ⊢
  have hl : lv_has ls 3 [(0, .ref a_md), (1, .int p1), (2, .int p2)] := hl
  unfold F_X11_isThere at hg
  refine lv_iload_n hx hb dX11_isThere_0 rfl (lv_at hl 1 rfl) ?_
  refine lv_iconst (v := 0) hx hb dX11_isThere_1 (by decide) ?_
  refine lv_aload_n hx hb dX11_isThere_2 rfl (lv_at hl 0 rfl) ?_
  refine va_get (D := (dC, dI)) (ci := 10) (v := .int md_wide) (C := RX11) (T := TX11) (N := 42) hx hb hts iw_X11_isThere_X11 hown hK hP 0 rfl rfl 3 (by decide) (hts (.fieldLink RX11 16 "PlaneBlocksModel" "wide" "I") (by decide +kernel)) (fun _ h9 => h9) rfl dX11_isThere_3 ?_
  refine lv_iconst (v := 1) hx hb dX11_isThere_6 (by decide) ?_
  refine lv_isub hx hb dX11_isThere_7 ?_
  have hPc := hP.sub (ws' := (wd_)) [] rfl
  have hDc := hD.sub (ws' := (wd_)) [] (by decide) rfl
  have hFc := va_free (wc := (wd_)) hD hS hA [] rfl
  refine va_calli (va_runS (As := [.int p1, .int (0 : Int32), .int (md_wide - (1 : Int32))]) (rest := []) ⟨hx, hb, hml, hown, hts⟩ (c_X11_out l dC dI cI cJ cZ  H.size p1 (0 : Int32) (md_wide - (1 : Int32))) (va_cwS 3 hts gX11_isThere_X11_out rfl rfl rfl (by decide +kernel) ⟨Nat.le_of_ble_eq_true rfl, Nat.le_of_ble_eq_true rfl⟩) ⟨fun a U g mk q => by obtain ⟨q0, q1, qP, qK, qD⟩ := q; exact ⟨q0, q1, qP, va_K.moved (u := U) (U := U.calling g mk a) (Vm.Alike.refl U.vm) qK, qD⟩, fun U hU hW => ⟨rfl, by rw [hU], by rw [hU]; exact hPc, va_K.moved hW.alike hK, hDc.weaken (fun _ _ _ _ => trivial)⟩⟩ rfl rfl hl.1 rfl (lv_room (Nat.le_of_ble_eq_true rfl)) dX11_isThere_8 ⟨Nat.le_of_ble_eq_true rfl, Nat.le_of_ble_eq_true rfl⟩) hS (fun q _ h => hFc q h) hFc (fun r u t H1 locs ht hvm hw hB hz1 hk1 hS => ?_)
  obtain ⟨hP1, hK1, hD1⟩ := hB
  rw [ht] at hP1
  obtain ⟨r_1, hr_1⟩ : ∃ z, F_X11_out p1 (0 : Int32) (md_wide - (1 : Int32)) = z := ⟨_, rfl⟩
  try rw [hr_1] at hw
  try rw [hr_1] at hP1
  try rw [hr_1] at hD1
  have hg : (if r_1 = (0 : Int32) then (let r_3 := F_X11_out p2 (0 : Int32) (md_high - (1 : Int32)); if r_3 = (0 : Int32) then (1 : Int32) else (0 : Int32)) else (0 : Int32)) = g := by first | (rw [hr_1] at hg; exact hg) | (subst hr_1; exact hg)
  have hw := hw.symm
  subst hw
  obtain ⟨hP, hD⟩ := va_join (wr := [(a_md, .inr (10, [.ref a_mpart, .ref a_mother, .int md_thrown, .int md_wide, .int md_high, .int md_band, .int md_style, .ref a_mmagnitude, .ref a_mminus, .int md_isWritten, .int md_isRead, .int md_planes, .int md_passes, .ref a_mreach, .ref a_mgain, .ref a_msegmentOf, .int md_segments, .ref a_mbegins, .ref a_mlengths, .int md_writing, .ref a_mknown, .ref a_mbelow, .ref a_mlatest, .ref a_mearly, .ref a_magain, .int md_plane, .int md_raw, .int md_faults, .ref a_mstates, .ref a_mlikely, .int md_size, .ref a_mbytes, .int md_begin, .int md_low, .int md_carried, .int md_span, .int md_room, .int md_place, .int md_limit, .int md_next, .int md_last, .long md_upper]))]) (w1 := (wd_)) hP hD [] [0] rfl rfl (by decide) (by decide) hk1 hFc hP1 hD1
  have hP : va_P (dC, dI) vwCl (wd_md a_md a_mpart a_mother a_mmagnitude a_mminus a_mreach a_mgain a_msegmentOf a_mbegins a_mlengths a_mknown a_mbelow a_mlatest a_mearly a_magain a_mstates a_mlikely a_mbytes md_thrown md_wide md_high md_band md_style md_isWritten md_isRead md_planes md_passes md_segments md_writing md_plane md_raw md_faults md_size md_begin md_low md_carried md_span md_room md_place md_limit md_next md_last md_upper) H1 := hP.sub [0] rfl
  have hD : va_D A (wd_md a_md a_mpart a_mother a_mmagnitude a_mminus a_mreach a_mgain a_msegmentOf a_mbegins a_mlengths a_mknown a_mbelow a_mlatest a_mearly a_magain a_mstates a_mlikely a_mbytes md_thrown md_wide md_high md_band md_style md_isWritten md_isRead md_planes md_passes md_segments md_writing md_plane md_raw md_faults md_size md_begin md_low md_carried md_span md_room md_place md_limit md_next md_last md_upper) := hD.sub [0] (by decide) rfl
  generalize H1 = H at hP hS ⊢
  refine lv_if_ne (tgt := 32) hx hb dX11_isThere_11 (by decide) (fun c_2 => ?_) (fun c_2 => ?_)
  · rw [if_neg c_2] at hg
    refine lv_iconst (v := 0) hx hb dX11_isThere_32 (by decide) ?_
    subst hg
    rw [← hQe]
    exact W.zret (v := (0 : Int32)) (ty := .boolean) hx hb hr rfl (fun t ht hW => ⟨⟨(0 : Int32), (), rfl, rfl, by rw [ht]; exact hP, va_K.moved hW.alike hK, hD⟩, hS.F ht⟩) hS.2.2 dX11_isThere_33
  · rw [if_pos c_2] at hg
    refine lv_iload_n hx hb dX11_isThere_14 rfl (lv_at hl 2 rfl) ?_
    refine lv_iconst (v := 0) hx hb dX11_isThere_15 (by decide) ?_
    refine lv_aload_n hx hb dX11_isThere_16 rfl (lv_at hl 0 rfl) ?_
    refine va_get (D := (dC, dI)) (ci := 10) (v := .int md_high) (C := RX11) (T := TX11) (N := 42) hx hb hts iw_X11_isThere_X11 hown hK hP 0 rfl rfl 4 (by decide) (hts (.fieldLink RX11 20 "PlaneBlocksModel" "high" "I") (by decide +kernel)) (fun _ h9 => h9) rfl dX11_isThere_17 ?_
    refine lv_iconst (v := 1) hx hb dX11_isThere_20 (by decide) ?_
    refine lv_isub hx hb dX11_isThere_21 ?_
    have hPc := hP.sub (ws' := (wd_)) [] rfl
    have hDc := hD.sub (ws' := (wd_)) [] (by decide) rfl
    have hFc := va_free (wc := (wd_)) hD hS hA [] rfl
    refine va_calli (va_runS (As := [.int p2, .int (0 : Int32), .int (md_high - (1 : Int32))]) (rest := []) ⟨hx, hb, hml, hown, hts⟩ (c_X11_out l dC dI cI cJ cZ  H.size p2 (0 : Int32) (md_high - (1 : Int32))) (va_cwS 3 hts gX11_isThere_X11_out rfl rfl rfl (by decide +kernel) ⟨Nat.le_of_ble_eq_true rfl, Nat.le_of_ble_eq_true rfl⟩) ⟨fun a U g mk q => by obtain ⟨q0, q1, qP, qK, qD⟩ := q; exact ⟨q0, q1, qP, va_K.moved (u := U) (U := U.calling g mk a) (Vm.Alike.refl U.vm) qK, qD⟩, fun U hU hW => ⟨rfl, by rw [hU], by rw [hU]; exact hPc, va_K.moved hW.alike hK, hDc.weaken (fun _ _ _ _ => trivial)⟩⟩ rfl rfl hl.1 rfl (lv_room (Nat.le_of_ble_eq_true rfl)) dX11_isThere_22 ⟨Nat.le_of_ble_eq_true rfl, Nat.le_of_ble_eq_true rfl⟩) hS (fun q _ h => hFc q h) hFc (fun r u t H1 locs ht hvm hw hB hz1 hk1 hS => ?_)
    obtain ⟨hP1, hK1, hD1⟩ := hB
    rw [ht] at hP1
    obtain ⟨r_3, hr_3⟩ : ∃ z, F_X11_out p2 (0 : Int32) (md_high - (1 : Int32)) = z := ⟨_, rfl⟩
    try rw [hr_3] at hw
    try rw [hr_3] at hP1
    try rw [hr_3] at hD1
    have hg : (if r_3 = (0 : Int32) then (1 : Int32) else (0 : Int32)) = g := by first | (rw [hr_3] at hg; exact hg) | (subst hr_3; exact hg)
    have hw := hw.symm
    subst hw
    obtain ⟨hP, hD⟩ := va_join (wr := [(a_md, .inr (10, [.ref a_mpart, .ref a_mother, .int md_thrown, .int md_wide, .int md_high, .int md_band, .int md_style, .ref a_mmagnitude, .ref a_mminus, .int md_isWritten, .int md_isRead, .int md_planes, .int md_passes, .ref a_mreach, .ref a_mgain, .ref a_msegmentOf, .int md_segments, .ref a_mbegins, .ref a_mlengths, .int md_writing, .ref a_mknown, .ref a_mbelow, .ref a_mlatest, .ref a_mearly, .ref a_magain, .int md_plane, .int md_raw, .int md_faults, .ref a_mstates, .ref a_mlikely, .int md_size, .ref a_mbytes, .int md_begin, .int md_low, .int md_carried, .int md_span, .int md_room, .int md_place, .int md_limit, .int md_next, .int md_last, .long md_upper]))]) (w1 := (wd_)) hP hD [] [0] rfl rfl (by decide) (by decide) hk1 hFc hP1 hD1
    have hP : va_P (dC, dI) vwCl (wd_md a_md a_mpart a_mother a_mmagnitude a_mminus a_mreach a_mgain a_msegmentOf a_mbegins a_mlengths a_mknown a_mbelow a_mlatest a_mearly a_magain a_mstates a_mlikely a_mbytes md_thrown md_wide md_high md_band md_style md_isWritten md_isRead md_planes md_passes md_segments md_writing md_plane md_raw md_faults md_size md_begin md_low md_carried md_span md_room md_place md_limit md_next md_last md_upper) H1 := hP.sub [0] rfl
    have hD : va_D A (wd_md a_md a_mpart a_mother a_mmagnitude a_mminus a_mreach a_mgain a_msegmentOf a_mbegins a_mlengths a_mknown a_mbelow a_mlatest a_mearly a_magain a_mstates a_mlikely a_mbytes md_thrown md_wide md_high md_band md_style md_isWritten md_isRead md_planes md_passes md_segments md_writing md_plane md_raw md_faults md_size md_begin md_low md_carried md_span md_room md_place md_limit md_next md_last md_upper) := hD.sub [0] (by decide) rfl
    generalize H1 = H at hP hS ⊢
    refine lv_if_ne (tgt := 32) hx hb dX11_isThere_25 (by decide) (fun c_4 => ?_) (fun c_4 => ?_)
    · rw [if_neg c_4] at hg
      refine lv_iconst (v := 0) hx hb dX11_isThere_32 (by decide) ?_
      subst hg
      rw [← hQe]
      exact W.zret (v := (0 : Int32)) (ty := .boolean) hx hb hr rfl (fun t ht hW => ⟨⟨(0 : Int32), (), rfl, rfl, by rw [ht]; exact hP, va_K.moved hW.alike hK, hD⟩, hS.F ht⟩) hS.2.2 dX11_isThere_33
    · rw [if_pos c_4] at hg
      refine lv_iconst (v := 1) hx hb dX11_isThere_28 (by decide) ?_
      refine lv_goto (tgt := 33) hx hb dX11_isThere_29 (by decide) ?_
      subst hg
      rw [← hQe]
      exact W.zret (v := (1 : Int32)) (ty := .boolean) hx hb hr rfl (fun t ht hW => ⟨⟨(1 : Int32), (), rfl, rfl, by rw [ht]; exact hP, va_K.moved hW.alike hK, hD⟩, hS.F ht⟩) hS.2.2 dX11_isThere_33

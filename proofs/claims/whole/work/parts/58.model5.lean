abbrev rm_X11_written : Room := { frames := 1, cells := 0, slots := 0, locals := 23 }
abbrev Q_X11_written (dC : Nat → ClassId) (dI : Nat → Nat → Nat) (cI cJ cZ : ClassId) (a_md : Nat) (a_mpart : Nat) (a_mother : Nat) (a_mmagnitude : Nat) (a_mminus : Nat) (a_mreach : Nat) (a_mgain : Nat) (a_msegmentOf : Nat) (a_mbegins : Nat) (a_mlengths : Nat) (a_mknown : Nat) (a_mbelow : Nat) (a_mlatest : Nat) (a_mearly : Nat) (a_magain : Nat) (a_mstates : Nat) (a_mlikely : Nat) (a_mbytes : Nat) (A : Nat → Prop) (md_thrown : Int32) (md_wide : Int32) (md_high : Int32) (md_band : Int32) (md_style : Int32) (md_isWritten : Int32) (md_isRead : Int32) (md_planes : Int32) (md_passes : Int32) (md_segments : Int32) (md_writing : Int32) (md_plane : Int32) (md_raw : Int32) (md_faults : Int32) (md_size : Int32) (md_begin : Int32) (md_low : Int32) (md_carried : Int32) (md_span : Int32) (md_room : Int32) (md_place : Int32) (md_limit : Int32) (md_next : Int32) (md_last : Int32) (md_upper : Int64) (g : (Int32 × Int32)) : Array Value → State → Outcome → State → Prop := va_Qi (fun (r : Int32) (_ : Unit) => r = g.1) (fun u t => va_P (dC, dI) vwCl (wd_md a_md a_mpart a_mother a_mmagnitude a_mminus a_mreach a_mgain a_msegmentOf a_mbegins a_mlengths a_mknown a_mbelow a_mlatest a_mearly a_magain a_mstates a_mlikely a_mbytes g.2 md_wide md_high md_band md_style md_isWritten md_isRead md_planes md_passes md_segments md_writing md_plane md_raw md_faults md_size md_begin md_low md_carried md_span md_room md_place md_limit md_next md_last md_upper) t.heap ∧ va_K (dC, dI) vwCl [(cI, .int), (cJ, .long), (cZ, .boolean)] t ∧ va_D A (wd_md a_md a_mpart a_mother a_mmagnitude a_mminus a_mreach a_mgain a_msegmentOf a_mbegins a_mlengths a_mknown a_mbelow a_mlatest a_mearly a_magain a_mstates a_mlikely a_mbytes g.2 md_wide md_high md_band md_style md_isWritten md_isRead md_planes md_passes md_segments md_writing md_plane md_raw md_faults md_size md_begin md_low md_carried md_span md_room md_place md_limit md_next md_last md_upper)) A
theorem iw_X11_written_X11 : ∀ w ∈ u_ws RX11 TX11 42, w ∈ wsX11_written := by decide +kernel
set_option maxHeartbeats 4000000 in
set_option maxRecDepth 100000 in
theorem c_X11_written (l : Launch) (dC : Nat → ClassId) (dI : Nat → Nat → Nat) (cI cJ cZ : ClassId) (a_md : Nat) (a_mpart : Nat) (a_mother : Nat) (a_mmagnitude : Nat) (a_mminus : Nat) (a_mreach : Nat) (a_mgain : Nat) (a_msegmentOf : Nat) (a_mbegins : Nat) (a_mlengths : Nat) (a_mknown : Nat) (a_mbelow : Nat) (a_mlatest : Nat) (a_mearly : Nat) (a_magain : Nat) (a_mstates : Nat) (a_mlikely : Nat) (a_mbytes : Nat) (sz : Nat) (md_thrown : Int32) (md_wide : Int32) (md_high : Int32) (md_band : Int32) (md_style : Int32) (md_isWritten : Int32) (md_isRead : Int32) (md_planes : Int32) (md_passes : Int32) (md_segments : Int32) (md_writing : Int32) (md_plane : Int32) (md_raw : Int32) (md_faults : Int32) (md_size : Int32) (md_begin : Int32) (md_low : Int32) (md_carried : Int32) (md_span : Int32) (md_room : Int32) (md_place : Int32) (md_limit : Int32) (md_next : Int32) (md_last : Int32) (md_upper : Int64) (p1 : Int32) : Met l yX11_written wsX11_written rm_X11_written (va_Pc [.ref a_md, .int p1] (fun U => U.heap.size = sz ∧ va_P (dC, dI) vwCl (wd_md a_md a_mpart a_mother a_mmagnitude a_mminus a_mreach a_mgain a_msegmentOf a_mbegins a_mlengths a_mknown a_mbelow a_mlatest a_mearly a_magain a_mstates a_mlikely a_mbytes md_thrown md_wide md_high md_band md_style md_isWritten md_isRead md_planes md_passes md_segments md_writing md_plane md_raw md_faults md_size md_begin md_low md_carried md_span md_room md_place md_limit md_next md_last md_upper) U.heap ∧ va_K (dC, dI) vwCl [(cI, .int), (cJ, .long), (cZ, .boolean)] U ∧ va_D (fun _ => True) (wd_md a_md a_mpart a_mother a_mmagnitude a_mminus a_mreach a_mgain a_msegmentOf a_mbegins a_mlengths a_mknown a_mbelow a_mlatest a_mearly a_magain a_mstates a_mlikely a_mbytes md_thrown md_wide md_high md_band md_style md_isWritten md_isRead md_planes md_passes md_segments md_writing md_plane md_raw md_faults md_size md_begin md_low md_carried md_span md_room md_place md_limit md_next md_last md_upper))) (Q_X11_written dC dI cI cJ cZ a_md a_mpart a_mother a_mmagnitude a_mminus a_mreach a_mgain a_msegmentOf a_mbegins a_mlengths a_mknown a_mbelow a_mlatest a_mearly a_magain a_mstates a_mlikely a_mbytes (va_A (wd_md a_md a_mpart a_mother a_mmagnitude a_mminus a_mreach a_mgain a_msegmentOf a_mbegins a_mlengths a_mknown a_mbelow a_mlatest a_mearly a_magain a_mstates a_mlikely a_mbytes md_thrown md_wide md_high md_band md_style md_isWritten md_isRead md_planes md_passes md_segments md_writing md_plane md_raw md_faults md_size md_begin md_low md_carried md_span md_room md_place md_limit md_next md_last md_upper) sz) md_thrown md_wide md_high md_band md_style md_isWritten md_isRead md_planes md_passes md_segments md_writing md_plane md_raw md_faults md_size md_begin md_low md_carried md_span md_room md_place md_limit md_next md_last md_upper (F_X11_written p1 md_isWritten md_planes md_passes md_segments md_size)) 0 0 (va_A (wd_md a_md a_mpart a_mother a_mmagnitude a_mminus a_mreach a_mgain a_msegmentOf a_mbegins a_mlengths a_mknown a_mbelow a_mlatest a_mearly a_magain a_mstates a_mlikely a_mbytes md_thrown md_wide md_high md_band md_style md_isWritten md_isRead md_planes md_passes md_segments md_writing md_plane md_raw md_faults md_size md_begin md_low md_carried md_span md_room md_place md_limit md_next md_last md_upper) sz) := by
  refine Met.ofW (cc := cX11_written) (maxL := 2) (ret := (some .int)) (by decide) rfl ?_
  intro p e s m args below meth c s₁ B hml hv
  obtain ⟨rfl, hsz, hP, hK, hD0⟩ := hv
  have hx := B.exec
  have hb := B.bytes
  have hr := B.returns
  have hts := atoms_spec (ws := wsX11_written) B.pre
  have hown : s.vm.findClass RX11 = some m.cls := findClass_of_methodNamed B.named
  have hlocks := B.notSynchronized
  subst hsz
  have hD := hD0.self (sz := s.heap.size)
  generalize hAe : va_A (wd_md a_md a_mpart a_mother a_mmagnitude a_mminus a_mreach a_mgain a_msegmentOf a_mbegins a_mlengths a_mknown a_mbelow a_mlatest a_mearly a_magain a_mstates a_mlikely a_mbytes md_thrown md_wide md_high md_band md_style md_isWritten md_isRead md_planes md_passes md_segments md_writing md_plane md_raw md_faults md_size md_begin md_low md_carried md_span md_room md_place md_limit md_next md_last md_upper) s.heap.size = A at hD ⊢
  have hA : ∀ q : Nat, s.heap.size ≤ q → A q := fun q h => by rw [← hAe]; exact Or.inr h
  have hS : va_S A s.heap s.heap [] := va_S.rf
  obtain ⟨H, hH⟩ : ∃ z, z = s.heap := ⟨_, rfl⟩
  have hP : va_P (dC, dI) vwCl (wd_md a_md a_mpart a_mother a_mmagnitude a_mminus a_mreach a_mgain a_msegmentOf a_mbegins a_mlengths a_mknown a_mbelow a_mlatest a_mearly a_magain a_mstates a_mlikely a_mbytes md_thrown md_wide md_high md_band md_style md_isWritten md_isRead md_planes md_passes md_segments md_writing md_plane md_raw md_faults md_size md_begin md_low md_carried md_span md_room md_place md_limit md_next md_last md_upper) H := by rw [hH]; exact hP
  have hS : va_S A s.heap H [] := by rw [hH]; exact va_S.rf
  obtain ⟨g, hg⟩ : ∃ z, F_X11_written p1 md_isWritten md_planes md_passes md_segments md_size = z := ⟨_, rfl⟩
  rw [hg]
  generalize hQe : MQ below (Q_X11_written dC dI cI cJ cZ a_md a_mpart a_mother a_mmagnitude a_mminus a_mreach a_mgain a_msegmentOf a_mbegins a_mlengths a_mknown a_mbelow a_mlatest a_mearly a_magain a_mstates a_mlikely a_mbytes A md_thrown md_wide md_high md_band md_style md_isWritten md_isRead md_planes md_passes md_segments md_writing md_plane md_raw md_faults md_size md_begin md_low md_carried md_span md_room md_place md_limit md_next md_last md_upper g) _ s 0 0 A = Q
  rw [← hH]
  clear hH
  have hl := lv_entry ([.ref a_md, .int p1]) (n := 2) (Nat.le_of_ble_eq_true rfl)
  rw [lg_entry_eq]
  generalize (lg_sl ([.ref a_md, .int p1]) ++ List.replicate (2 - (lg_sl ([.ref a_md, .int p1])).length) Slot.unset).toArray = ls at hl ⊢
  have hl : lv_has ls 2 [(0, .ref a_md), (1, .int p1)] := hl
  unfold F_X11_written at hg
  refine lv_aload_n hx hb dX11_written_0 rfl (lv_at hl 0 rfl) ?_
  refine lv_aload_n hx hb dX11_written_1 rfl (lv_at hl 0 rfl) ?_
  refine va_get (D := (dC, dI)) (ci := 10) (v := .int md_isWritten) (C := RX11) (T := TX11) (N := 42) hx hb hts iw_X11_written_X11 hown hK hP 0 rfl rfl 9 (by decide) (hts (.fieldLink RX11 249 "PlaneBlocksModel" "isWritten" "Z") (by decide +kernel)) (fun _ h9 => h9) rfl dX11_written_2 ?_
  obtain ⟨j_2, hj_2⟩ : ∃ z, J_X11_written_j_2 md_isWritten = z := ⟨_, rfl⟩
  have hg : (let r_3 := F_X11_out p1 (0 : Int32) (3 : Int32); let r_4 := F_X11_throwing j_2 r_3 (0 : Int32); if r_4.1 = (0 : Int32) then (if p1 = (0 : Int32) then (md_planes, r_4.2) else (if p1 = (1 : Int32) then (md_passes, r_4.2) else (if p1 = (2 : Int32) then (md_size, r_4.2) else (md_segments, r_4.2)))) else ((0 : Int32), r_4.2)) = g := by first | (rw [hj_2] at hg; exact hg) | (subst hj_2; exact hg)
  have hJ_j_2 : ∀ (H : Heap) (locs : List Loc) (ls : Array Slot), va_P (dC, dI) vwCl (wd_md a_md a_mpart a_mother a_mmagnitude a_mminus a_mreach a_mgain a_msegmentOf a_mbegins a_mlengths a_mknown a_mbelow a_mlatest a_mearly a_magain a_mstates a_mlikely a_mbytes md_thrown md_wide md_high md_band md_style md_isWritten md_isRead md_planes md_passes md_segments md_writing md_plane md_raw md_faults md_size md_begin md_low md_carried md_span md_room md_place md_limit md_next md_last md_upper) H → va_D A (wd_md a_md a_mpart a_mother a_mmagnitude a_mminus a_mreach a_mgain a_msegmentOf a_mbegins a_mlengths a_mknown a_mbelow a_mlatest a_mearly a_magain a_mstates a_mlikely a_mbytes md_thrown md_wide md_high md_band md_style md_isWritten md_isRead md_planes md_passes md_segments md_writing md_plane md_raw md_faults md_size md_begin md_low md_carried md_span md_room md_place md_limit md_next md_last md_upper) → va_S A s.heap H locs → lv_has ls 2 [(0, .ref a_md), (1, .int p1)] → W p l e (headSpec wsX11_written rm_X11_written).room s m ([.ref a_md, .int p1] : List Value).toArray below meth c H locs 0 0 Q (F0 m 13 ls [.int j_2, .ref a_md]) := by
    intro H locs ls hP hD hS hl
    refine lv_iload_n hx hb dX11_written_13 rfl (lv_at hl 1 rfl) ?_
    refine lv_iconst (v := 0) hx hb dX11_written_14 (by decide) ?_
    refine lv_iconst (v := 3) hx hb dX11_written_15 (by decide) ?_
    have hPc := hP.sub (ws' := (wd_)) [] rfl
    have hDc := hD.sub (ws' := (wd_)) [] (by decide) rfl
    have hFc := va_free (wc := (wd_)) hD hS hA [] rfl
    refine va_calli (va_runS (As := [.int p1, .int (0 : Int32), .int (3 : Int32)]) (rest := [.int j_2, .ref a_md]) ⟨hx, hb, hml, hown, hts⟩ (c_X11_out l dC dI cI cJ cZ  H.size p1 (0 : Int32) (3 : Int32)) (va_cwS 3 hts gX11_written_X11_out rfl rfl rfl (by decide +kernel) ⟨Nat.le_of_ble_eq_true rfl, Nat.le_of_ble_eq_true rfl⟩) ⟨fun a U g mk q => by obtain ⟨q0, q1, qP, qK, qD⟩ := q; exact ⟨q0, q1, qP, va_K.moved (u := U) (U := U.calling g mk a) (Vm.Alike.refl U.vm) qK, qD⟩, fun U hU hW => ⟨rfl, by rw [hU], by rw [hU]; exact hPc, va_K.moved hW.alike hK, hDc.weaken (fun _ _ _ _ => trivial)⟩⟩ rfl rfl hl.1 rfl (lv_room (Nat.le_of_ble_eq_true rfl)) dX11_written_16 ⟨Nat.le_of_ble_eq_true rfl, Nat.le_of_ble_eq_true rfl⟩) hS (fun q _ h => hFc q h) hFc (fun r u t H1 locs ht hvm hw hB hz1 hk1 hS => ?_)
    obtain ⟨hP1, hK1, hD1⟩ := hB
    rw [ht] at hP1
    obtain ⟨r_3, hr_3⟩ : ∃ z, F_X11_out p1 (0 : Int32) (3 : Int32) = z := ⟨_, rfl⟩
    try rw [hr_3] at hw
    try rw [hr_3] at hP1
    try rw [hr_3] at hD1
    have hg : (let r_4 := F_X11_throwing j_2 r_3 (0 : Int32); if r_4.1 = (0 : Int32) then (if p1 = (0 : Int32) then (md_planes, r_4.2) else (if p1 = (1 : Int32) then (md_passes, r_4.2) else (if p1 = (2 : Int32) then (md_size, r_4.2) else (md_segments, r_4.2)))) else ((0 : Int32), r_4.2)) = g := by first | (rw [hr_3] at hg; exact hg) | (subst hr_3; exact hg)
    have hw := hw.symm
    subst hw
    obtain ⟨hP, hD⟩ := va_join (wr := [(a_md, .inr (10, [.ref a_mpart, .ref a_mother, .int md_thrown, .int md_wide, .int md_high, .int md_band, .int md_style, .ref a_mmagnitude, .ref a_mminus, .int md_isWritten, .int md_isRead, .int md_planes, .int md_passes, .ref a_mreach, .ref a_mgain, .ref a_msegmentOf, .int md_segments, .ref a_mbegins, .ref a_mlengths, .int md_writing, .ref a_mknown, .ref a_mbelow, .ref a_mlatest, .ref a_mearly, .ref a_magain, .int md_plane, .int md_raw, .int md_faults, .ref a_mstates, .ref a_mlikely, .int md_size, .ref a_mbytes, .int md_begin, .int md_low, .int md_carried, .int md_span, .int md_room, .int md_place, .int md_limit, .int md_next, .int md_last, .long md_upper]))]) (w1 := (wd_)) hP hD [] [0] rfl rfl (by decide) (by decide) hk1 hFc hP1 hD1
    have hP : va_P (dC, dI) vwCl (wd_md a_md a_mpart a_mother a_mmagnitude a_mminus a_mreach a_mgain a_msegmentOf a_mbegins a_mlengths a_mknown a_mbelow a_mlatest a_mearly a_magain a_mstates a_mlikely a_mbytes md_thrown md_wide md_high md_band md_style md_isWritten md_isRead md_planes md_passes md_segments md_writing md_plane md_raw md_faults md_size md_begin md_low md_carried md_span md_room md_place md_limit md_next md_last md_upper) H1 := hP.sub [0] rfl
    have hD : va_D A (wd_md a_md a_mpart a_mother a_mmagnitude a_mminus a_mreach a_mgain a_msegmentOf a_mbegins a_mlengths a_mknown a_mbelow a_mlatest a_mearly a_magain a_mstates a_mlikely a_mbytes md_thrown md_wide md_high md_band md_style md_isWritten md_isRead md_planes md_passes md_segments md_writing md_plane md_raw md_faults md_size md_begin md_low md_carried md_span md_room md_place md_limit md_next md_last md_upper) := hD.sub [0] (by decide) rfl
    generalize H1 = H at hP hS ⊢
    refine lv_iconst (v := 0) hx hb dX11_written_19 (by decide) ?_
    have hPc := hP.sub (ws' := (wd_md a_md a_mpart a_mother a_mmagnitude a_mminus a_mreach a_mgain a_msegmentOf a_mbegins a_mlengths a_mknown a_mbelow a_mlatest a_mearly a_magain a_mstates a_mlikely a_mbytes md_thrown md_wide md_high md_band md_style md_isWritten md_isRead md_planes md_passes md_segments md_writing md_plane md_raw md_faults md_size md_begin md_low md_carried md_span md_room md_place md_limit md_next md_last md_upper)) [0] rfl
    have hDc := hD.sub (ws' := (wd_md a_md a_mpart a_mother a_mmagnitude a_mminus a_mreach a_mgain a_msegmentOf a_mbegins a_mlengths a_mknown a_mbelow a_mlatest a_mearly a_magain a_mstates a_mlikely a_mbytes md_thrown md_wide md_high md_band md_style md_isWritten md_isRead md_planes md_passes md_segments md_writing md_plane md_raw md_faults md_size md_begin md_low md_carried md_span md_room md_place md_limit md_next md_last md_upper)) [0] (by decide) rfl
    have hFc := va_free (wc := (wd_md a_md a_mpart a_mother a_mmagnitude a_mminus a_mreach a_mgain a_msegmentOf a_mbegins a_mlengths a_mknown a_mbelow a_mlatest a_mearly a_magain a_mstates a_mlikely a_mbytes md_thrown md_wide md_high md_band md_style md_isWritten md_isRead md_planes md_passes md_segments md_writing md_plane md_raw md_faults md_size md_begin md_low md_carried md_span md_room md_place md_limit md_next md_last md_upper)) hD hS hA [0] rfl
    refine va_calli (va_runV (As := [.int j_2, .int r_3, .int (0 : Int32)]) (rest := []) ⟨hx, hb, hml, hown, hts⟩ (c_X11_throwing l dC dI cI cJ cZ a_md a_mpart a_mother a_mmagnitude a_mminus a_mreach a_mgain a_msegmentOf a_mbegins a_mlengths a_mknown a_mbelow a_mlatest a_mearly a_magain a_mstates a_mlikely a_mbytes H.size md_thrown md_wide md_high md_band md_style md_isWritten md_isRead md_planes md_passes md_segments md_writing md_plane md_raw md_faults md_size md_begin md_low md_carried md_span md_room md_place md_limit md_next md_last md_upper j_2 r_3 (0 : Int32)) (cwV 3 hts gX11_written_X11_throwing rfl rfl rfl (by decide +kernel) ⟨Nat.le_of_ble_eq_true rfl, Nat.le_of_ble_eq_true rfl⟩) ⟨fun a U g mk q => by obtain ⟨q0, q1, qP, qK, qD⟩ := q; exact ⟨q0, q1, qP, va_K.moved (u := U) (U := U.calling g mk a) (Vm.Alike.refl U.vm) qK, qD⟩, va_recv hK hPc (ci := 10) (q0 := 0) rfl rfl, fun U hU hW => ⟨rfl, by rw [hU], by rw [hU]; exact hPc, va_K.moved hW.alike hK, hDc.weaken (fun _ _ _ _ => trivial)⟩⟩ rfl rfl hl.1 rfl (lv_room (Nat.le_of_ble_eq_true rfl)) dX11_written_20 ⟨Nat.le_of_ble_eq_true rfl, Nat.le_of_ble_eq_true rfl⟩) hS (fun q _ h => hFc q h) hFc (fun r u t H1 locs ht hvm hw hB hz1 hk1 hS => ?_)
    obtain ⟨hP1, hK1, hD1⟩ := hB
    rw [ht] at hP1
    obtain ⟨r_4, hr_4⟩ : ∃ z, F_X11_throwing j_2 r_3 (0 : Int32) = z := ⟨_, rfl⟩
    try rw [hr_4] at hw
    try rw [hr_4] at hP1
    try rw [hr_4] at hD1
    have hg : (if r_4.1 = (0 : Int32) then (if p1 = (0 : Int32) then (md_planes, r_4.2) else (if p1 = (1 : Int32) then (md_passes, r_4.2) else (if p1 = (2 : Int32) then (md_size, r_4.2) else (md_segments, r_4.2)))) else ((0 : Int32), r_4.2)) = g := by first | (rw [hr_4] at hg; exact hg) | (subst hr_4; exact hg)
    subst hw
    obtain ⟨hP, hD⟩ := va_join (wr := []) (w1 := (wd_md a_md a_mpart a_mother a_mmagnitude a_mminus a_mreach a_mgain a_msegmentOf a_mbegins a_mlengths a_mknown a_mbelow a_mlatest a_mearly a_magain a_mstates a_mlikely a_mbytes r_4.2 md_wide md_high md_band md_style md_isWritten md_isRead md_planes md_passes md_segments md_writing md_plane md_raw md_faults md_size md_begin md_low md_carried md_span md_room md_place md_limit md_next md_last md_upper)) hP hD [0] [] rfl rfl (by decide) (by decide) hk1 hFc hP1 hD1
    have hP : va_P (dC, dI) vwCl (wd_md a_md a_mpart a_mother a_mmagnitude a_mminus a_mreach a_mgain a_msegmentOf a_mbegins a_mlengths a_mknown a_mbelow a_mlatest a_mearly a_magain a_mstates a_mlikely a_mbytes r_4.2 md_wide md_high md_band md_style md_isWritten md_isRead md_planes md_passes md_segments md_writing md_plane md_raw md_faults md_size md_begin md_low md_carried md_span md_room md_place md_limit md_next md_last md_upper) H1 := hP.sub [0] rfl
    have hD : va_D A (wd_md a_md a_mpart a_mother a_mmagnitude a_mminus a_mreach a_mgain a_msegmentOf a_mbegins a_mlengths a_mknown a_mbelow a_mlatest a_mearly a_magain a_mstates a_mlikely a_mbytes r_4.2 md_wide md_high md_band md_style md_isWritten md_isRead md_planes md_passes md_segments md_writing md_plane md_raw md_faults md_size md_begin md_low md_carried md_span md_room md_place md_limit md_next md_last md_upper) := hD.sub [0] (by decide) rfl
    generalize H1 = H at hP hS ⊢
    refine lv_if_eq (tgt := 28) hx hb dX11_written_23 (by decide) (fun c_5 => ?_) (fun c_5 => ?_)
    · rw [if_pos c_5] at hg
      refine lv_iload_n hx hb dX11_written_28 rfl (lv_at hl 1 rfl) ?_
      refine lv_if_ne (tgt := 39) hx hb dX11_written_29 (by decide) (fun c_6 => ?_) (fun c_6 => ?_)
      · rw [if_neg c_6] at hg
        refine lv_iload_n hx hb dX11_written_39 rfl (lv_at hl 1 rfl) ?_
        refine lv_iconst (v := 1) hx hb dX11_written_40 (by decide) ?_
        refine lv_icmp_ne (tgt := 51) hx hb dX11_written_41 (by decide) (fun c_7 => ?_) (fun c_7 => ?_)
        · rw [if_neg c_7] at hg
          refine lv_iload_n hx hb dX11_written_51 rfl (lv_at hl 1 rfl) ?_
          refine lv_iconst (v := 2) hx hb dX11_written_52 (by decide) ?_
          refine lv_icmp_ne (tgt := 63) hx hb dX11_written_53 (by decide) (fun c_8 => ?_) (fun c_8 => ?_)
          · rw [if_neg c_8] at hg
            refine lv_aload_n hx hb dX11_written_63 rfl (lv_at hl 0 rfl) ?_
            refine va_get (D := (dC, dI)) (ci := 10) (v := .int md_segments) (C := RX11) (T := TX11) (N := 42) hx hb hts iw_X11_written_X11 hown hK hP 0 rfl rfl 16 (by decide) (hts (.fieldLink RX11 252 "PlaneBlocksModel" "segments" "I") (by decide +kernel)) (fun _ h9 => h9) rfl dX11_written_64 ?_
            subst hg
            rw [← hQe]
            exact W.iret (v := md_segments) hx hb hr (fun t ht hW => ⟨⟨md_segments, (), rfl, rfl, by rw [ht]; exact hP, va_K.moved hW.alike hK, hD⟩, hS.F ht⟩) hS.2.2 dX11_written_67
          · rw [if_pos c_8] at hg
            refine lv_aload_n hx hb dX11_written_56 rfl (lv_at hl 0 rfl) ?_
            refine va_get (D := (dC, dI)) (ci := 10) (v := .int md_size) (C := RX11) (T := TX11) (N := 42) hx hb hts iw_X11_written_X11 hown hK hP 0 rfl rfl 30 (by decide) (hts (.fieldLink RX11 74 "PlaneBlocksModel" "size" "I") (by decide +kernel)) (fun _ h9 => h9) rfl dX11_written_57 ?_
            refine lv_goto (tgt := 67) hx hb dX11_written_60 (by decide) ?_
            subst hg
            rw [← hQe]
            exact W.iret (v := md_size) hx hb hr (fun t ht hW => ⟨⟨md_size, (), rfl, rfl, by rw [ht]; exact hP, va_K.moved hW.alike hK, hD⟩, hS.F ht⟩) hS.2.2 dX11_written_67
        · rw [if_pos c_7] at hg
          refine lv_aload_n hx hb dX11_written_44 rfl (lv_at hl 0 rfl) ?_
          refine va_get (D := (dC, dI)) (ci := 10) (v := .int md_passes) (C := RX11) (T := TX11) (N := 42) hx hb hts iw_X11_written_X11 hown hK hP 0 rfl rfl 12 (by decide) (hts (.fieldLink RX11 237 "PlaneBlocksModel" "passes" "I") (by decide +kernel)) (fun _ h9 => h9) rfl dX11_written_45 ?_
          refine lv_goto (tgt := 67) hx hb dX11_written_48 (by decide) ?_
          subst hg
          rw [← hQe]
          exact W.iret (v := md_passes) hx hb hr (fun t ht hW => ⟨⟨md_passes, (), rfl, rfl, by rw [ht]; exact hP, va_K.moved hW.alike hK, hD⟩, hS.F ht⟩) hS.2.2 dX11_written_67
      · rw [if_pos c_6] at hg
        refine lv_aload_n hx hb dX11_written_32 rfl (lv_at hl 0 rfl) ?_
        refine va_get (D := (dC, dI)) (ci := 10) (v := .int md_planes) (C := RX11) (T := TX11) (N := 42) hx hb hts iw_X11_written_X11 hown hK hP 0 rfl rfl 11 (by decide) (hts (.fieldLink RX11 234 "PlaneBlocksModel" "planes" "I") (by decide +kernel)) (fun _ h9 => h9) rfl dX11_written_33 ?_
        refine lv_goto (tgt := 67) hx hb dX11_written_36 (by decide) ?_
        subst hg
        rw [← hQe]
        exact W.iret (v := md_planes) hx hb hr (fun t ht hW => ⟨⟨md_planes, (), rfl, rfl, by rw [ht]; exact hP, va_K.moved hW.alike hK, hD⟩, hS.F ht⟩) hS.2.2 dX11_written_67
    · rw [if_neg c_5] at hg
      refine lv_iconst (v := 0) hx hb dX11_written_26 (by decide) ?_
      subst hg
      rw [← hQe]
      exact W.iret (v := (0 : Int32)) hx hb hr (fun t ht hW => ⟨⟨(0 : Int32), (), rfl, rfl, by rw [ht]; exact hP, va_K.moved hW.alike hK, hD⟩, hS.F ht⟩) hS.2.2 dX11_written_27
  have hg : (if md_isWritten = (0 : Int32) then (1 : Int32) else (0 : Int32)) = j_2 := by rw [← hj_2]; rfl
  clear hj_2
  refine lv_if_ne (tgt := 12) hx hb dX11_written_5 (by decide) (fun c_1 => ?_) (fun c_1 => ?_)
  · rw [if_neg c_1] at hg
    refine lv_iconst (v := 0) hx hb dX11_written_12 (by decide) ?_
    rw [← hg] at hJ_j_2
    exact hJ_j_2 _ _ _ hP hD hS (lv_sub hl [0, 1] rfl)
  · rw [if_pos c_1] at hg
    refine lv_iconst (v := 1) hx hb dX11_written_8 (by decide) ?_
    refine lv_goto (tgt := 13) hx hb dX11_written_9 (by decide) ?_
    rw [← hg] at hJ_j_2
    exact hJ_j_2 _ _ _ hP hD hS (lv_sub hl [0, 1] rfl)
abbrev wd_md_mreach (cI : ClassId) (a_md : Nat) (a_mpart : Nat) (a_mother : Nat) (a_mmagnitude : Nat) (a_mminus : Nat) (a_mreach : Nat) (a_mgain : Nat) (a_msegmentOf : Nat) (a_mbegins : Nat) (a_mlengths : Nat) (a_mknown : Nat) (a_mbelow : Nat) (a_mlatest : Nat) (a_mearly : Nat) (a_magain : Nat) (a_mstates : Nat) (a_mlikely : Nat) (a_mbytes : Nat) (md_thrown : Int32) (md_wide : Int32) (md_high : Int32) (md_band : Int32) (md_style : Int32) (md_isWritten : Int32) (md_isRead : Int32) (md_planes : Int32) (md_passes : Int32) (md_segments : Int32) (md_writing : Int32) (md_plane : Int32) (md_raw : Int32) (md_faults : Int32) (md_size : Int32) (md_begin : Int32) (md_low : Int32) (md_carried : Int32) (md_span : Int32) (md_room : Int32) (md_place : Int32) (md_limit : Int32) (md_next : Int32) (md_last : Int32) (md_upper : Int64) (mreach_n : Nat) (mreach_f : Nat → Int32) : va_W := [(a_md, .inr (10, [.ref a_mpart, .ref a_mother, .int md_thrown, .int md_wide, .int md_high, .int md_band, .int md_style, .ref a_mmagnitude, .ref a_mminus, .int md_isWritten, .int md_isRead, .int md_planes, .int md_passes, .ref a_mreach, .ref a_mgain, .ref a_msegmentOf, .int md_segments, .ref a_mbegins, .ref a_mlengths, .int md_writing, .ref a_mknown, .ref a_mbelow, .ref a_mlatest, .ref a_mearly, .ref a_magain, .int md_plane, .int md_raw, .int md_faults, .ref a_mstates, .ref a_mlikely, .int md_size, .ref a_mbytes, .int md_begin, .int md_low, .int md_carried, .int md_span, .int md_room, .int md_place, .int md_limit, .int md_next, .int md_last, .long md_upper])), (a_mreach, .inl (cI, mreach_n, .inl mreach_f))]
abbrev rm_X11_pass : Room := { frames := 2, cells := 0, slots := 0, locals := 41 }
abbrev Q_X11_pass (dC : Nat → ClassId) (dI : Nat → Nat → Nat) (cI cJ cZ : ClassId) (a_md : Nat) (a_mpart : Nat) (a_mother : Nat) (a_mmagnitude : Nat) (a_mminus : Nat) (a_mreach : Nat) (a_mgain : Nat) (a_msegmentOf : Nat) (a_mbegins : Nat) (a_mlengths : Nat) (a_mknown : Nat) (a_mbelow : Nat) (a_mlatest : Nat) (a_mearly : Nat) (a_magain : Nat) (a_mstates : Nat) (a_mlikely : Nat) (a_mbytes : Nat) (A : Nat → Prop) (md_thrown : Int32) (md_wide : Int32) (md_high : Int32) (md_band : Int32) (md_style : Int32) (md_isWritten : Int32) (md_isRead : Int32) (md_planes : Int32) (md_passes : Int32) (md_segments : Int32) (md_writing : Int32) (md_plane : Int32) (md_raw : Int32) (md_faults : Int32) (md_size : Int32) (md_begin : Int32) (md_low : Int32) (md_carried : Int32) (md_span : Int32) (md_room : Int32) (md_place : Int32) (md_limit : Int32) (md_next : Int32) (md_last : Int32) (md_upper : Int64) (mreach_n : Nat) (mreach_f : Nat → Int32) (g : (Int32 × Int32)) : Array Value → State → Outcome → State → Prop := va_Qi (fun (r : Int32) (_ : Unit) => r = g.1) (fun u t => va_P (dC, dI) vwCl (wd_md_mreach cI a_md a_mpart a_mother a_mmagnitude a_mminus a_mreach a_mgain a_msegmentOf a_mbegins a_mlengths a_mknown a_mbelow a_mlatest a_mearly a_magain a_mstates a_mlikely a_mbytes g.2 md_wide md_high md_band md_style md_isWritten md_isRead md_planes md_passes md_segments md_writing md_plane md_raw md_faults md_size md_begin md_low md_carried md_span md_room md_place md_limit md_next md_last md_upper mreach_n mreach_f) t.heap ∧ va_K (dC, dI) vwCl [(cI, .int), (cJ, .long), (cZ, .boolean)] t ∧ va_D A (wd_md_mreach cI a_md a_mpart a_mother a_mmagnitude a_mminus a_mreach a_mgain a_msegmentOf a_mbegins a_mlengths a_mknown a_mbelow a_mlatest a_mearly a_magain a_mstates a_mlikely a_mbytes g.2 md_wide md_high md_band md_style md_isWritten md_isRead md_planes md_passes md_segments md_writing md_plane md_raw md_faults md_size md_begin md_low md_carried md_span md_room md_place md_limit md_next md_last md_upper mreach_n mreach_f)) A
theorem iw_X11_pass_X11 : ∀ w ∈ u_ws RX11 TX11 42, w ∈ wsX11_pass := by decide +kernel
set_option maxHeartbeats 4000000 in
set_option maxRecDepth 100000 in
theorem c_X11_pass (l : Launch) (dC : Nat → ClassId) (dI : Nat → Nat → Nat) (cI cJ cZ : ClassId) (a_md : Nat) (a_mpart : Nat) (a_mother : Nat) (a_mmagnitude : Nat) (a_mminus : Nat) (a_mreach : Nat) (a_mgain : Nat) (a_msegmentOf : Nat) (a_mbegins : Nat) (a_mlengths : Nat) (a_mknown : Nat) (a_mbelow : Nat) (a_mlatest : Nat) (a_mearly : Nat) (a_magain : Nat) (a_mstates : Nat) (a_mlikely : Nat) (a_mbytes : Nat) (sz : Nat) (md_thrown : Int32) (md_wide : Int32) (md_high : Int32) (md_band : Int32) (md_style : Int32) (md_isWritten : Int32) (md_isRead : Int32) (md_planes : Int32) (md_passes : Int32) (md_segments : Int32) (md_writing : Int32) (md_plane : Int32) (md_raw : Int32) (md_faults : Int32) (md_size : Int32) (md_begin : Int32) (md_low : Int32) (md_carried : Int32) (md_span : Int32) (md_room : Int32) (md_place : Int32) (md_limit : Int32) (md_next : Int32) (md_last : Int32) (md_upper : Int64) (mreach_n : Nat) (mreach_f : Nat → Int32) (p1 : Int32) (p2 : Int32) (hpre : P_X11_pass p1 p2 md_isWritten md_passes mreach_n) : Met l yX11_pass wsX11_pass rm_X11_pass (va_Pc [.ref a_md, .int p1, .int p2] (fun U => U.heap.size = sz ∧ va_P (dC, dI) vwCl (wd_md_mreach cI a_md a_mpart a_mother a_mmagnitude a_mminus a_mreach a_mgain a_msegmentOf a_mbegins a_mlengths a_mknown a_mbelow a_mlatest a_mearly a_magain a_mstates a_mlikely a_mbytes md_thrown md_wide md_high md_band md_style md_isWritten md_isRead md_planes md_passes md_segments md_writing md_plane md_raw md_faults md_size md_begin md_low md_carried md_span md_room md_place md_limit md_next md_last md_upper mreach_n mreach_f) U.heap ∧ va_K (dC, dI) vwCl [(cI, .int), (cJ, .long), (cZ, .boolean)] U ∧ va_D (fun _ => True) (wd_md_mreach cI a_md a_mpart a_mother a_mmagnitude a_mminus a_mreach a_mgain a_msegmentOf a_mbegins a_mlengths a_mknown a_mbelow a_mlatest a_mearly a_magain a_mstates a_mlikely a_mbytes md_thrown md_wide md_high md_band md_style md_isWritten md_isRead md_planes md_passes md_segments md_writing md_plane md_raw md_faults md_size md_begin md_low md_carried md_span md_room md_place md_limit md_next md_last md_upper mreach_n mreach_f))) (Q_X11_pass dC dI cI cJ cZ a_md a_mpart a_mother a_mmagnitude a_mminus a_mreach a_mgain a_msegmentOf a_mbegins a_mlengths a_mknown a_mbelow a_mlatest a_mearly a_magain a_mstates a_mlikely a_mbytes (va_A (wd_md_mreach cI a_md a_mpart a_mother a_mmagnitude a_mminus a_mreach a_mgain a_msegmentOf a_mbegins a_mlengths a_mknown a_mbelow a_mlatest a_mearly a_magain a_mstates a_mlikely a_mbytes md_thrown md_wide md_high md_band md_style md_isWritten md_isRead md_planes md_passes md_segments md_writing md_plane md_raw md_faults md_size md_begin md_low md_carried md_span md_room md_place md_limit md_next md_last md_upper mreach_n mreach_f) sz) md_thrown md_wide md_high md_band md_style md_isWritten md_isRead md_planes md_passes md_segments md_writing md_plane md_raw md_faults md_size md_begin md_low md_carried md_span md_room md_place md_limit md_next md_last md_upper mreach_n mreach_f (F_X11_pass p1 p2 md_style md_isWritten md_planes md_passes mreach_f)) 0 0 (va_A (wd_md_mreach cI a_md a_mpart a_mother a_mmagnitude a_mminus a_mreach a_mgain a_msegmentOf a_mbegins a_mlengths a_mknown a_mbelow a_mlatest a_mearly a_magain a_mstates a_mlikely a_mbytes md_thrown md_wide md_high md_band md_style md_isWritten md_isRead md_planes md_passes md_segments md_writing md_plane md_raw md_faults md_size md_begin md_low md_carried md_span md_room md_place md_limit md_next md_last md_upper mreach_n mreach_f) sz) := by
  refine Met.ofW (cc := cX11_pass) (maxL := 3) (ret := (some .int)) (by decide) rfl ?_
  intro p e s m args below meth c s₁ B hml hv
  obtain ⟨rfl, hsz, hP, hK, hD0⟩ := hv
  have hx := B.exec
  have hb := B.bytes
  have hr := B.returns
  have hts := atoms_spec (ws := wsX11_pass) B.pre
  have hown : s.vm.findClass RX11 = some m.cls := findClass_of_methodNamed B.named
  have hlocks := B.notSynchronized
  subst hsz
  have hD := hD0.self (sz := s.heap.size)
  generalize hAe : va_A (wd_md_mreach cI a_md a_mpart a_mother a_mmagnitude a_mminus a_mreach a_mgain a_msegmentOf a_mbegins a_mlengths a_mknown a_mbelow a_mlatest a_mearly a_magain a_mstates a_mlikely a_mbytes md_thrown md_wide md_high md_band md_style md_isWritten md_isRead md_planes md_passes md_segments md_writing md_plane md_raw md_faults md_size md_begin md_low md_carried md_span md_room md_place md_limit md_next md_last md_upper mreach_n mreach_f) s.heap.size = A at hD ⊢
  have hA : ∀ q : Nat, s.heap.size ≤ q → A q := fun q h => by rw [← hAe]; exact Or.inr h
  have hS : va_S A s.heap s.heap [] := va_S.rf
  obtain ⟨H, hH⟩ : ∃ z, z = s.heap := ⟨_, rfl⟩
  have hP : va_P (dC, dI) vwCl (wd_md_mreach cI a_md a_mpart a_mother a_mmagnitude a_mminus a_mreach a_mgain a_msegmentOf a_mbegins a_mlengths a_mknown a_mbelow a_mlatest a_mearly a_magain a_mstates a_mlikely a_mbytes md_thrown md_wide md_high md_band md_style md_isWritten md_isRead md_planes md_passes md_segments md_writing md_plane md_raw md_faults md_size md_begin md_low md_carried md_span md_room md_place md_limit md_next md_last md_upper mreach_n mreach_f) H := by rw [hH]; exact hP
  have hS : va_S A s.heap H [] := by rw [hH]; exact va_S.rf
  obtain ⟨g, hg⟩ : ∃ z, F_X11_pass p1 p2 md_style md_isWritten md_planes md_passes mreach_f = z := ⟨_, rfl⟩
  rw [hg]
  generalize hQe : MQ below (Q_X11_pass dC dI cI cJ cZ a_md a_mpart a_mother a_mmagnitude a_mminus a_mreach a_mgain a_msegmentOf a_mbegins a_mlengths a_mknown a_mbelow a_mlatest a_mearly a_magain a_mstates a_mlikely a_mbytes A md_thrown md_wide md_high md_band md_style md_isWritten md_isRead md_planes md_passes md_segments md_writing md_plane md_raw md_faults md_size md_begin md_low md_carried md_span md_room md_place md_limit md_next md_last md_upper mreach_n mreach_f g) _ s 0 0 A = Q
  rw [← hH]
  clear hH
  have hl := lv_entry ([.ref a_md, .int p1, .int p2]) (n := 3) (Nat.le_of_ble_eq_true rfl)
  rw [lg_entry_eq]
  generalize (lg_sl ([.ref a_md, .int p1, .int p2]) ++ List.replicate (3 - (lg_sl ([.ref a_md, .int p1, .int p2])).length) Slot.unset).toArray = ls at hl ⊢
  have hl : lv_has ls 3 [(0, .ref a_md), (1, .int p1), (2, .int p2)] := hl
  unfold F_X11_pass at hg
  unfold P_X11_pass at hpre
  refine lv_aload_n hx hb dX11_pass_0 rfl (lv_at hl 0 rfl) ?_
  refine lv_aload_n hx hb dX11_pass_1 rfl (lv_at hl 0 rfl) ?_
  refine va_get (D := (dC, dI)) (ci := 10) (v := .int md_isWritten) (C := RX11) (T := TX11) (N := 42) hx hb hts iw_X11_pass_X11 hown hK hP 0 rfl rfl 9 (by decide) (hts (.fieldLink RX11 249 "PlaneBlocksModel" "isWritten" "Z") (by decide +kernel)) (fun _ h9 => h9) rfl dX11_pass_2 ?_
  obtain ⟨j_2, hj_2⟩ : ∃ z, J_X11_pass_j_2 md_isWritten = z := ⟨_, rfl⟩
  have hg : (let r_3 := F_X11_out p1 (0 : Int32) (md_passes - (1 : Int32)); let r_4 := F_X11_out p2 (0 : Int32) (4 : Int32); let r_5 := F_X11_throwing j_2 r_3 r_4; if r_5.1 = (0 : Int32) then (if p2 = (0 : Int32) then (let r_8 := F_X11_kindOf p1; (r_8, r_5.2)) else (if p2 = (1 : Int32) then (let r_9 := F_X11_planeOf p1 md_planes; (r_9, r_5.2)) else (if p2 = (2 : Int32) then (let r_10 := F_X11_isRaw p1 md_style; if r_10 = (0 : Int32) then ((0 : Int32), r_5.2) else ((1 : Int32), r_5.2)) else (if p2 = (3 : Int32) then (let r_12 := F_X11_ends p1 md_style md_passes; if r_12 = (0 : Int32) then ((0 : Int32), r_5.2) else ((1 : Int32), r_5.2)) else (mreach_f p1.toNatClampNeg, r_5.2))))) else ((0 : Int32), r_5.2)) = g := by first | (rw [hj_2] at hg; exact hg) | (subst hj_2; exact hg)
  have hJ_j_2 : ∀ (H : Heap) (locs : List Loc) (ls : Array Slot), va_P (dC, dI) vwCl (wd_md_mreach cI a_md a_mpart a_mother a_mmagnitude a_mminus a_mreach a_mgain a_msegmentOf a_mbegins a_mlengths a_mknown a_mbelow a_mlatest a_mearly a_magain a_mstates a_mlikely a_mbytes md_thrown md_wide md_high md_band md_style md_isWritten md_isRead md_planes md_passes md_segments md_writing md_plane md_raw md_faults md_size md_begin md_low md_carried md_span md_room md_place md_limit md_next md_last md_upper mreach_n mreach_f) H → va_D A (wd_md_mreach cI a_md a_mpart a_mother a_mmagnitude a_mminus a_mreach a_mgain a_msegmentOf a_mbegins a_mlengths a_mknown a_mbelow a_mlatest a_mearly a_magain a_mstates a_mlikely a_mbytes md_thrown md_wide md_high md_band md_style md_isWritten md_isRead md_planes md_passes md_segments md_writing md_plane md_raw md_faults md_size md_begin md_low md_carried md_span md_room md_place md_limit md_next md_last md_upper mreach_n mreach_f) → va_S A s.heap H locs → lv_has ls 3 [(0, .ref a_md), (1, .int p1), (2, .int p2)] → W p l e (headSpec wsX11_pass rm_X11_pass).room s m ([.ref a_md, .int p1, .int p2] : List Value).toArray below meth c H locs 0 0 Q (F0 m 13 ls [.int j_2, .ref a_md]) := by
    intro H locs ls hP hD hS hl
    have hpre := hpre j_2 hj_2
    refine lv_iload_n hx hb dX11_pass_13 rfl (lv_at hl 1 rfl) ?_
    refine lv_iconst (v := 0) hx hb dX11_pass_14 (by decide) ?_
    refine lv_aload_n hx hb dX11_pass_15 rfl (lv_at hl 0 rfl) ?_
    refine va_get (D := (dC, dI)) (ci := 10) (v := .int md_passes) (C := RX11) (T := TX11) (N := 42) hx hb hts iw_X11_pass_X11 hown hK hP 0 rfl rfl 12 (by decide) (hts (.fieldLink RX11 237 "PlaneBlocksModel" "passes" "I") (by decide +kernel)) (fun _ h9 => h9) rfl dX11_pass_16 ?_
    refine lv_iconst (v := 1) hx hb dX11_pass_19 (by decide) ?_
    refine lv_isub hx hb dX11_pass_20 ?_
    have hPc := hP.sub (ws' := (wd_)) [] rfl
    have hDc := hD.sub (ws' := (wd_)) [] (by decide) rfl
    have hFc := va_free (wc := (wd_)) hD hS hA [] rfl
    refine va_calli (va_runS (As := [.int p1, .int (0 : Int32), .int (md_passes - (1 : Int32))]) (rest := [.int j_2, .ref a_md]) ⟨hx, hb, hml, hown, hts⟩ (c_X11_out l dC dI cI cJ cZ  H.size p1 (0 : Int32) (md_passes - (1 : Int32))) (va_cwS 3 hts gX11_pass_X11_out rfl rfl rfl (by decide +kernel) ⟨Nat.le_of_ble_eq_true rfl, Nat.le_of_ble_eq_true rfl⟩) ⟨fun a U g mk q => by obtain ⟨q0, q1, qP, qK, qD⟩ := q; exact ⟨q0, q1, qP, va_K.moved (u := U) (U := U.calling g mk a) (Vm.Alike.refl U.vm) qK, qD⟩, fun U hU hW => ⟨rfl, by rw [hU], by rw [hU]; exact hPc, va_K.moved hW.alike hK, hDc.weaken (fun _ _ _ _ => trivial)⟩⟩ rfl rfl hl.1 rfl (lv_room (Nat.le_of_ble_eq_true rfl)) dX11_pass_21 ⟨Nat.le_of_ble_eq_true rfl, Nat.le_of_ble_eq_true rfl⟩) hS (fun q _ h => hFc q h) hFc (fun r u t H1 locs ht hvm hw hB hz1 hk1 hS => ?_)
    obtain ⟨hP1, hK1, hD1⟩ := hB
    rw [ht] at hP1
    obtain ⟨r_3, hr_3⟩ : ∃ z, F_X11_out p1 (0 : Int32) (md_passes - (1 : Int32)) = z := ⟨_, rfl⟩
    try rw [hr_3] at hw
    try rw [hr_3] at hP1
    try rw [hr_3] at hD1
    have hg : (let r_4 := F_X11_out p2 (0 : Int32) (4 : Int32); let r_5 := F_X11_throwing j_2 r_3 r_4; if r_5.1 = (0 : Int32) then (if p2 = (0 : Int32) then (let r_8 := F_X11_kindOf p1; (r_8, r_5.2)) else (if p2 = (1 : Int32) then (let r_9 := F_X11_planeOf p1 md_planes; (r_9, r_5.2)) else (if p2 = (2 : Int32) then (let r_10 := F_X11_isRaw p1 md_style; if r_10 = (0 : Int32) then ((0 : Int32), r_5.2) else ((1 : Int32), r_5.2)) else (if p2 = (3 : Int32) then (let r_12 := F_X11_ends p1 md_style md_passes; if r_12 = (0 : Int32) then ((0 : Int32), r_5.2) else ((1 : Int32), r_5.2)) else (mreach_f p1.toNatClampNeg, r_5.2))))) else ((0 : Int32), r_5.2)) = g := by first | (rw [hr_3] at hg; exact hg) | (subst hr_3; exact hg)
    have hw := hw.symm
    subst hw
    obtain ⟨hP, hD⟩ := va_join (wr := [(a_md, .inr (10, [.ref a_mpart, .ref a_mother, .int md_thrown, .int md_wide, .int md_high, .int md_band, .int md_style, .ref a_mmagnitude, .ref a_mminus, .int md_isWritten, .int md_isRead, .int md_planes, .int md_passes, .ref a_mreach, .ref a_mgain, .ref a_msegmentOf, .int md_segments, .ref a_mbegins, .ref a_mlengths, .int md_writing, .ref a_mknown, .ref a_mbelow, .ref a_mlatest, .ref a_mearly, .ref a_magain, .int md_plane, .int md_raw, .int md_faults, .ref a_mstates, .ref a_mlikely, .int md_size, .ref a_mbytes, .int md_begin, .int md_low, .int md_carried, .int md_span, .int md_room, .int md_place, .int md_limit, .int md_next, .int md_last, .long md_upper])), (a_mreach, .inl (cI, mreach_n, .inl mreach_f))]) (w1 := (wd_)) hP hD [] [0, 1] rfl rfl (by decide) (by decide) hk1 hFc hP1 hD1
    have hP : va_P (dC, dI) vwCl (wd_md_mreach cI a_md a_mpart a_mother a_mmagnitude a_mminus a_mreach a_mgain a_msegmentOf a_mbegins a_mlengths a_mknown a_mbelow a_mlatest a_mearly a_magain a_mstates a_mlikely a_mbytes md_thrown md_wide md_high md_band md_style md_isWritten md_isRead md_planes md_passes md_segments md_writing md_plane md_raw md_faults md_size md_begin md_low md_carried md_span md_room md_place md_limit md_next md_last md_upper mreach_n mreach_f) H1 := hP.sub [0, 1] rfl
    have hD : va_D A (wd_md_mreach cI a_md a_mpart a_mother a_mmagnitude a_mminus a_mreach a_mgain a_msegmentOf a_mbegins a_mlengths a_mknown a_mbelow a_mlatest a_mearly a_magain a_mstates a_mlikely a_mbytes md_thrown md_wide md_high md_band md_style md_isWritten md_isRead md_planes md_passes md_segments md_writing md_plane md_raw md_faults md_size md_begin md_low md_carried md_span md_room md_place md_limit md_next md_last md_upper mreach_n mreach_f) := hD.sub [0, 1] (by decide) rfl
    generalize H1 = H at hP hS ⊢
    have hpre := hpre r_3 hr_3
    refine lv_iload_n hx hb dX11_pass_24 rfl (lv_at hl 2 rfl) ?_
    refine lv_iconst (v := 0) hx hb dX11_pass_25 (by decide) ?_
    refine lv_iconst (v := 4) hx hb dX11_pass_26 (by decide) ?_
    have hPc := hP.sub (ws' := (wd_)) [] rfl
    have hDc := hD.sub (ws' := (wd_)) [] (by decide) rfl
    have hFc := va_free (wc := (wd_)) hD hS hA [] rfl
    refine va_calli (va_runS (As := [.int p2, .int (0 : Int32), .int (4 : Int32)]) (rest := [.int r_3, .int j_2, .ref a_md]) ⟨hx, hb, hml, hown, hts⟩ (c_X11_out l dC dI cI cJ cZ  H.size p2 (0 : Int32) (4 : Int32)) (va_cwS 3 hts gX11_pass_X11_out rfl rfl rfl (by decide +kernel) ⟨Nat.le_of_ble_eq_true rfl, Nat.le_of_ble_eq_true rfl⟩) ⟨fun a U g mk q => by obtain ⟨q0, q1, qP, qK, qD⟩ := q; exact ⟨q0, q1, qP, va_K.moved (u := U) (U := U.calling g mk a) (Vm.Alike.refl U.vm) qK, qD⟩, fun U hU hW => ⟨rfl, by rw [hU], by rw [hU]; exact hPc, va_K.moved hW.alike hK, hDc.weaken (fun _ _ _ _ => trivial)⟩⟩ rfl rfl hl.1 rfl (lv_room (Nat.le_of_ble_eq_true rfl)) dX11_pass_27 ⟨Nat.le_of_ble_eq_true rfl, Nat.le_of_ble_eq_true rfl⟩) hS (fun q _ h => hFc q h) hFc (fun r u t H1 locs ht hvm hw hB hz1 hk1 hS => ?_)
    obtain ⟨hP1, hK1, hD1⟩ := hB
    rw [ht] at hP1
    obtain ⟨r_4, hr_4⟩ : ∃ z, F_X11_out p2 (0 : Int32) (4 : Int32) = z := ⟨_, rfl⟩
    try rw [hr_4] at hw
    try rw [hr_4] at hP1
    try rw [hr_4] at hD1
    have hg : (let r_5 := F_X11_throwing j_2 r_3 r_4; if r_5.1 = (0 : Int32) then (if p2 = (0 : Int32) then (let r_8 := F_X11_kindOf p1; (r_8, r_5.2)) else (if p2 = (1 : Int32) then (let r_9 := F_X11_planeOf p1 md_planes; (r_9, r_5.2)) else (if p2 = (2 : Int32) then (let r_10 := F_X11_isRaw p1 md_style; if r_10 = (0 : Int32) then ((0 : Int32), r_5.2) else ((1 : Int32), r_5.2)) else (if p2 = (3 : Int32) then (let r_12 := F_X11_ends p1 md_style md_passes; if r_12 = (0 : Int32) then ((0 : Int32), r_5.2) else ((1 : Int32), r_5.2)) else (mreach_f p1.toNatClampNeg, r_5.2))))) else ((0 : Int32), r_5.2)) = g := by first | (rw [hr_4] at hg; exact hg) | (subst hr_4; exact hg)
    have hw := hw.symm
    subst hw
    obtain ⟨hP, hD⟩ := va_join (wr := [(a_md, .inr (10, [.ref a_mpart, .ref a_mother, .int md_thrown, .int md_wide, .int md_high, .int md_band, .int md_style, .ref a_mmagnitude, .ref a_mminus, .int md_isWritten, .int md_isRead, .int md_planes, .int md_passes, .ref a_mreach, .ref a_mgain, .ref a_msegmentOf, .int md_segments, .ref a_mbegins, .ref a_mlengths, .int md_writing, .ref a_mknown, .ref a_mbelow, .ref a_mlatest, .ref a_mearly, .ref a_magain, .int md_plane, .int md_raw, .int md_faults, .ref a_mstates, .ref a_mlikely, .int md_size, .ref a_mbytes, .int md_begin, .int md_low, .int md_carried, .int md_span, .int md_room, .int md_place, .int md_limit, .int md_next, .int md_last, .long md_upper])), (a_mreach, .inl (cI, mreach_n, .inl mreach_f))]) (w1 := (wd_)) hP hD [] [0, 1] rfl rfl (by decide) (by decide) hk1 hFc hP1 hD1
    have hP : va_P (dC, dI) vwCl (wd_md_mreach cI a_md a_mpart a_mother a_mmagnitude a_mminus a_mreach a_mgain a_msegmentOf a_mbegins a_mlengths a_mknown a_mbelow a_mlatest a_mearly a_magain a_mstates a_mlikely a_mbytes md_thrown md_wide md_high md_band md_style md_isWritten md_isRead md_planes md_passes md_segments md_writing md_plane md_raw md_faults md_size md_begin md_low md_carried md_span md_room md_place md_limit md_next md_last md_upper mreach_n mreach_f) H1 := hP.sub [0, 1] rfl
    have hD : va_D A (wd_md_mreach cI a_md a_mpart a_mother a_mmagnitude a_mminus a_mreach a_mgain a_msegmentOf a_mbegins a_mlengths a_mknown a_mbelow a_mlatest a_mearly a_magain a_mstates a_mlikely a_mbytes md_thrown md_wide md_high md_band md_style md_isWritten md_isRead md_planes md_passes md_segments md_writing md_plane md_raw md_faults md_size md_begin md_low md_carried md_span md_room md_place md_limit md_next md_last md_upper mreach_n mreach_f) := hD.sub [0, 1] (by decide) rfl
    generalize H1 = H at hP hS ⊢
    have hpre := hpre r_4 hr_4
    have hPc := hP.sub (ws' := (wd_md a_md a_mpart a_mother a_mmagnitude a_mminus a_mreach a_mgain a_msegmentOf a_mbegins a_mlengths a_mknown a_mbelow a_mlatest a_mearly a_magain a_mstates a_mlikely a_mbytes md_thrown md_wide md_high md_band md_style md_isWritten md_isRead md_planes md_passes md_segments md_writing md_plane md_raw md_faults md_size md_begin md_low md_carried md_span md_room md_place md_limit md_next md_last md_upper)) [0] rfl
    have hDc := hD.sub (ws' := (wd_md a_md a_mpart a_mother a_mmagnitude a_mminus a_mreach a_mgain a_msegmentOf a_mbegins a_mlengths a_mknown a_mbelow a_mlatest a_mearly a_magain a_mstates a_mlikely a_mbytes md_thrown md_wide md_high md_band md_style md_isWritten md_isRead md_planes md_passes md_segments md_writing md_plane md_raw md_faults md_size md_begin md_low md_carried md_span md_room md_place md_limit md_next md_last md_upper)) [0] (by decide) rfl
    have hFc := va_free (wc := (wd_md a_md a_mpart a_mother a_mmagnitude a_mminus a_mreach a_mgain a_msegmentOf a_mbegins a_mlengths a_mknown a_mbelow a_mlatest a_mearly a_magain a_mstates a_mlikely a_mbytes md_thrown md_wide md_high md_band md_style md_isWritten md_isRead md_planes md_passes md_segments md_writing md_plane md_raw md_faults md_size md_begin md_low md_carried md_span md_room md_place md_limit md_next md_last md_upper)) hD hS hA [0] rfl
    refine va_calli (va_runV (As := [.int j_2, .int r_3, .int r_4]) (rest := []) ⟨hx, hb, hml, hown, hts⟩ (c_X11_throwing l dC dI cI cJ cZ a_md a_mpart a_mother a_mmagnitude a_mminus a_mreach a_mgain a_msegmentOf a_mbegins a_mlengths a_mknown a_mbelow a_mlatest a_mearly a_magain a_mstates a_mlikely a_mbytes H.size md_thrown md_wide md_high md_band md_style md_isWritten md_isRead md_planes md_passes md_segments md_writing md_plane md_raw md_faults md_size md_begin md_low md_carried md_span md_room md_place md_limit md_next md_last md_upper j_2 r_3 r_4) (cwV 3 hts gX11_pass_X11_throwing rfl rfl rfl (by decide +kernel) ⟨Nat.le_of_ble_eq_true rfl, Nat.le_of_ble_eq_true rfl⟩) ⟨fun a U g mk q => by obtain ⟨q0, q1, qP, qK, qD⟩ := q; exact ⟨q0, q1, qP, va_K.moved (u := U) (U := U.calling g mk a) (Vm.Alike.refl U.vm) qK, qD⟩, va_recv hK hPc (ci := 10) (q0 := 0) rfl rfl, fun U hU hW => ⟨rfl, by rw [hU], by rw [hU]; exact hPc, va_K.moved hW.alike hK, hDc.weaken (fun _ _ _ _ => trivial)⟩⟩ rfl rfl hl.1 rfl (lv_room (Nat.le_of_ble_eq_true rfl)) dX11_pass_30 ⟨Nat.le_of_ble_eq_true rfl, Nat.le_of_ble_eq_true rfl⟩) hS (fun q _ h => hFc q h) hFc (fun r u t H1 locs ht hvm hw hB hz1 hk1 hS => ?_)
    obtain ⟨hP1, hK1, hD1⟩ := hB
    rw [ht] at hP1
    obtain ⟨r_5, hr_5⟩ : ∃ z, F_X11_throwing j_2 r_3 r_4 = z := ⟨_, rfl⟩
    try rw [hr_5] at hw
    try rw [hr_5] at hP1
    try rw [hr_5] at hD1
    have hg : (if r_5.1 = (0 : Int32) then (if p2 = (0 : Int32) then (let r_8 := F_X11_kindOf p1; (r_8, r_5.2)) else (if p2 = (1 : Int32) then (let r_9 := F_X11_planeOf p1 md_planes; (r_9, r_5.2)) else (if p2 = (2 : Int32) then (let r_10 := F_X11_isRaw p1 md_style; if r_10 = (0 : Int32) then ((0 : Int32), r_5.2) else ((1 : Int32), r_5.2)) else (if p2 = (3 : Int32) then (let r_12 := F_X11_ends p1 md_style md_passes; if r_12 = (0 : Int32) then ((0 : Int32), r_5.2) else ((1 : Int32), r_5.2)) else (mreach_f p1.toNatClampNeg, r_5.2))))) else ((0 : Int32), r_5.2)) = g := by first | (rw [hr_5] at hg; exact hg) | (subst hr_5; exact hg)
    subst hw
    obtain ⟨hP, hD⟩ := va_join (wr := [(a_mreach, .inl (cI, mreach_n, .inl mreach_f))]) (w1 := (wd_md a_md a_mpart a_mother a_mmagnitude a_mminus a_mreach a_mgain a_msegmentOf a_mbegins a_mlengths a_mknown a_mbelow a_mlatest a_mearly a_magain a_mstates a_mlikely a_mbytes r_5.2 md_wide md_high md_band md_style md_isWritten md_isRead md_planes md_passes md_segments md_writing md_plane md_raw md_faults md_size md_begin md_low md_carried md_span md_room md_place md_limit md_next md_last md_upper)) hP hD [0] [1] rfl rfl (by decide) (by decide) hk1 hFc hP1 hD1
    have hP : va_P (dC, dI) vwCl (wd_md_mreach cI a_md a_mpart a_mother a_mmagnitude a_mminus a_mreach a_mgain a_msegmentOf a_mbegins a_mlengths a_mknown a_mbelow a_mlatest a_mearly a_magain a_mstates a_mlikely a_mbytes r_5.2 md_wide md_high md_band md_style md_isWritten md_isRead md_planes md_passes md_segments md_writing md_plane md_raw md_faults md_size md_begin md_low md_carried md_span md_room md_place md_limit md_next md_last md_upper mreach_n mreach_f) H1 := hP.sub [1, 0] rfl
    have hD : va_D A (wd_md_mreach cI a_md a_mpart a_mother a_mmagnitude a_mminus a_mreach a_mgain a_msegmentOf a_mbegins a_mlengths a_mknown a_mbelow a_mlatest a_mearly a_magain a_mstates a_mlikely a_mbytes r_5.2 md_wide md_high md_band md_style md_isWritten md_isRead md_planes md_passes md_segments md_writing md_plane md_raw md_faults md_size md_begin md_low md_carried md_span md_room md_place md_limit md_next md_last md_upper mreach_n mreach_f) := hD.sub [1, 0] (by decide) rfl
    generalize H1 = H at hP hS ⊢
    have hpre := hpre r_5 hr_5
    refine lv_if_eq (tgt := 38) hx hb dX11_pass_33 (by decide) (fun c_6 => ?_) (fun c_6 => ?_)
    · rw [if_pos c_6] at hg
      have hpre := hpre c_6
      refine lv_iload_n hx hb dX11_pass_38 rfl (lv_at hl 2 rfl) ?_
      by_cases c_7_0 : p2 = (0 : Int32)
      · rw [if_pos c_7_0] at hg
        have hpre := hpre.1 c_7_0
        refine lv_tableIn (tgt := 68) (off := 29) hx hb dX11_pass_39 (by rw [c_7_0]; decide) (by rw [c_7_0]; decide) (by rw [c_7_0]; rfl) (by decide) ?_
        clear hpre
        refine lv_iload_n hx hb dX11_pass_68 rfl (lv_at hl 1 rfl) ?_
        have hPc := hP.sub (ws' := (wd_)) [] rfl
        have hDc := hD.sub (ws' := (wd_)) [] (by decide) rfl
        have hFc := va_free (wc := (wd_)) hD hS hA [] rfl
        refine va_calli (va_runS (As := [.int p1]) (rest := []) ⟨hx, hb, hml, hown, hts⟩ (c_X11_kindOf l dC dI cI cJ cZ  H.size p1) (va_cwS 1 hts gX11_pass_X11_kindOf rfl rfl rfl (by decide +kernel) ⟨Nat.le_of_ble_eq_true rfl, Nat.le_of_ble_eq_true rfl⟩) ⟨fun a U g mk q => by obtain ⟨q0, q1, qP, qK, qD⟩ := q; exact ⟨q0, q1, qP, va_K.moved (u := U) (U := U.calling g mk a) (Vm.Alike.refl U.vm) qK, qD⟩, fun U hU hW => ⟨rfl, by rw [hU], by rw [hU]; exact hPc, va_K.moved hW.alike hK, hDc.weaken (fun _ _ _ _ => trivial)⟩⟩ rfl rfl hl.1 rfl (lv_room (Nat.le_of_ble_eq_true rfl)) dX11_pass_69 ⟨Nat.le_of_ble_eq_true rfl, Nat.le_of_ble_eq_true rfl⟩) hS (fun q _ h => hFc q h) hFc (fun r u t H1 locs ht hvm hw hB hz1 hk1 hS => ?_)
        obtain ⟨hP1, hK1, hD1⟩ := hB
        rw [ht] at hP1
        obtain ⟨r_8, hr_8⟩ : ∃ z, F_X11_kindOf p1 = z := ⟨_, rfl⟩
        try rw [hr_8] at hw
        try rw [hr_8] at hP1
        try rw [hr_8] at hD1
        have hg : (r_8, r_5.2) = g := by first | (rw [hr_8] at hg; exact hg) | (subst hr_8; exact hg)
        have hw := hw.symm
        subst hw
        obtain ⟨hP, hD⟩ := va_join (wr := [(a_md, .inr (10, [.ref a_mpart, .ref a_mother, .int r_5.2, .int md_wide, .int md_high, .int md_band, .int md_style, .ref a_mmagnitude, .ref a_mminus, .int md_isWritten, .int md_isRead, .int md_planes, .int md_passes, .ref a_mreach, .ref a_mgain, .ref a_msegmentOf, .int md_segments, .ref a_mbegins, .ref a_mlengths, .int md_writing, .ref a_mknown, .ref a_mbelow, .ref a_mlatest, .ref a_mearly, .ref a_magain, .int md_plane, .int md_raw, .int md_faults, .ref a_mstates, .ref a_mlikely, .int md_size, .ref a_mbytes, .int md_begin, .int md_low, .int md_carried, .int md_span, .int md_room, .int md_place, .int md_limit, .int md_next, .int md_last, .long md_upper])), (a_mreach, .inl (cI, mreach_n, .inl mreach_f))]) (w1 := (wd_)) hP hD [] [0, 1] rfl rfl (by decide) (by decide) hk1 hFc hP1 hD1
        have hP : va_P (dC, dI) vwCl (wd_md_mreach cI a_md a_mpart a_mother a_mmagnitude a_mminus a_mreach a_mgain a_msegmentOf a_mbegins a_mlengths a_mknown a_mbelow a_mlatest a_mearly a_magain a_mstates a_mlikely a_mbytes r_5.2 md_wide md_high md_band md_style md_isWritten md_isRead md_planes md_passes md_segments md_writing md_plane md_raw md_faults md_size md_begin md_low md_carried md_span md_room md_place md_limit md_next md_last md_upper mreach_n mreach_f) H1 := hP.sub [0, 1] rfl
        have hD : va_D A (wd_md_mreach cI a_md a_mpart a_mother a_mmagnitude a_mminus a_mreach a_mgain a_msegmentOf a_mbegins a_mlengths a_mknown a_mbelow a_mlatest a_mearly a_magain a_mstates a_mlikely a_mbytes r_5.2 md_wide md_high md_band md_style md_isWritten md_isRead md_planes md_passes md_segments md_writing md_plane md_raw md_faults md_size md_begin md_low md_carried md_span md_room md_place md_limit md_next md_last md_upper mreach_n mreach_f) := hD.sub [0, 1] (by decide) rfl
        generalize H1 = H at hP hS ⊢
        subst hg
        rw [← hQe]
        exact W.iret (v := r_8) hx hb hr (fun t ht hW => ⟨⟨r_8, (), rfl, rfl, by rw [ht]; exact hP, va_K.moved hW.alike hK, hD⟩, hS.F ht⟩) hS.2.2 dX11_pass_72
      rw [if_neg c_7_0] at hg
      have hpre := hpre.2 c_7_0
      by_cases c_7_1 : p2 = (1 : Int32)
      · rw [if_pos c_7_1] at hg
        have hpre := hpre.1 c_7_1
        refine lv_tableIn (tgt := 73) (off := 34) hx hb dX11_pass_39 (by rw [c_7_1]; decide) (by rw [c_7_1]; decide) (by rw [c_7_1]; rfl) (by decide) ?_
        clear hpre
        refine lv_aload_n hx hb dX11_pass_73 rfl (lv_at hl 0 rfl) ?_
        refine lv_iload_n hx hb dX11_pass_74 rfl (lv_at hl 1 rfl) ?_
        have hPc := hP.sub (ws' := (wd_md a_md a_mpart a_mother a_mmagnitude a_mminus a_mreach a_mgain a_msegmentOf a_mbegins a_mlengths a_mknown a_mbelow a_mlatest a_mearly a_magain a_mstates a_mlikely a_mbytes r_5.2 md_wide md_high md_band md_style md_isWritten md_isRead md_planes md_passes md_segments md_writing md_plane md_raw md_faults md_size md_begin md_low md_carried md_span md_room md_place md_limit md_next md_last md_upper)) [0] rfl
        have hDc := hD.sub (ws' := (wd_md a_md a_mpart a_mother a_mmagnitude a_mminus a_mreach a_mgain a_msegmentOf a_mbegins a_mlengths a_mknown a_mbelow a_mlatest a_mearly a_magain a_mstates a_mlikely a_mbytes r_5.2 md_wide md_high md_band md_style md_isWritten md_isRead md_planes md_passes md_segments md_writing md_plane md_raw md_faults md_size md_begin md_low md_carried md_span md_room md_place md_limit md_next md_last md_upper)) [0] (by decide) rfl
        have hFc := va_free (wc := (wd_md a_md a_mpart a_mother a_mmagnitude a_mminus a_mreach a_mgain a_msegmentOf a_mbegins a_mlengths a_mknown a_mbelow a_mlatest a_mearly a_magain a_mstates a_mlikely a_mbytes r_5.2 md_wide md_high md_band md_style md_isWritten md_isRead md_planes md_passes md_segments md_writing md_plane md_raw md_faults md_size md_begin md_low md_carried md_span md_room md_place md_limit md_next md_last md_upper)) hD hS hA [0] rfl
        refine va_calli (va_runV (As := [.int p1]) (rest := []) ⟨hx, hb, hml, hown, hts⟩ (c_X11_planeOf l dC dI cI cJ cZ a_md a_mpart a_mother a_mmagnitude a_mminus a_mreach a_mgain a_msegmentOf a_mbegins a_mlengths a_mknown a_mbelow a_mlatest a_mearly a_magain a_mstates a_mlikely a_mbytes H.size r_5.2 md_wide md_high md_band md_style md_isWritten md_isRead md_planes md_passes md_segments md_writing md_plane md_raw md_faults md_size md_begin md_low md_carried md_span md_room md_place md_limit md_next md_last md_upper p1) (cwV 1 hts gX11_pass_X11_planeOf rfl rfl rfl (by decide +kernel) ⟨Nat.le_of_ble_eq_true rfl, Nat.le_of_ble_eq_true rfl⟩) ⟨fun a U g mk q => by obtain ⟨q0, q1, qP, qK, qD⟩ := q; exact ⟨q0, q1, qP, va_K.moved (u := U) (U := U.calling g mk a) (Vm.Alike.refl U.vm) qK, qD⟩, va_recv hK hPc (ci := 10) (q0 := 0) rfl rfl, fun U hU hW => ⟨rfl, by rw [hU], by rw [hU]; exact hPc, va_K.moved hW.alike hK, hDc.weaken (fun _ _ _ _ => trivial)⟩⟩ rfl rfl hl.1 rfl (lv_room (Nat.le_of_ble_eq_true rfl)) dX11_pass_75 ⟨Nat.le_of_ble_eq_true rfl, Nat.le_of_ble_eq_true rfl⟩) hS (fun q _ h => hFc q h) hFc (fun r u t H1 locs ht hvm hw hB hz1 hk1 hS => ?_)
        obtain ⟨hP1, hK1, hD1⟩ := hB
        rw [ht] at hP1
        obtain ⟨r_9, hr_9⟩ : ∃ z, F_X11_planeOf p1 md_planes = z := ⟨_, rfl⟩
        try rw [hr_9] at hw
        try rw [hr_9] at hP1
        try rw [hr_9] at hD1
        have hg : (r_9, r_5.2) = g := by first | (rw [hr_9] at hg; exact hg) | (subst hr_9; exact hg)
        have hw := hw.symm
        subst hw
        obtain ⟨hP, hD⟩ := va_join (wr := [(a_mreach, .inl (cI, mreach_n, .inl mreach_f))]) (w1 := (wd_md a_md a_mpart a_mother a_mmagnitude a_mminus a_mreach a_mgain a_msegmentOf a_mbegins a_mlengths a_mknown a_mbelow a_mlatest a_mearly a_magain a_mstates a_mlikely a_mbytes r_5.2 md_wide md_high md_band md_style md_isWritten md_isRead md_planes md_passes md_segments md_writing md_plane md_raw md_faults md_size md_begin md_low md_carried md_span md_room md_place md_limit md_next md_last md_upper)) hP hD [0] [1] rfl rfl (by decide) (by decide) hk1 hFc hP1 hD1
        have hP : va_P (dC, dI) vwCl (wd_md_mreach cI a_md a_mpart a_mother a_mmagnitude a_mminus a_mreach a_mgain a_msegmentOf a_mbegins a_mlengths a_mknown a_mbelow a_mlatest a_mearly a_magain a_mstates a_mlikely a_mbytes r_5.2 md_wide md_high md_band md_style md_isWritten md_isRead md_planes md_passes md_segments md_writing md_plane md_raw md_faults md_size md_begin md_low md_carried md_span md_room md_place md_limit md_next md_last md_upper mreach_n mreach_f) H1 := hP.sub [1, 0] rfl
        have hD : va_D A (wd_md_mreach cI a_md a_mpart a_mother a_mmagnitude a_mminus a_mreach a_mgain a_msegmentOf a_mbegins a_mlengths a_mknown a_mbelow a_mlatest a_mearly a_magain a_mstates a_mlikely a_mbytes r_5.2 md_wide md_high md_band md_style md_isWritten md_isRead md_planes md_passes md_segments md_writing md_plane md_raw md_faults md_size md_begin md_low md_carried md_span md_room md_place md_limit md_next md_last md_upper mreach_n mreach_f) := hD.sub [1, 0] (by decide) rfl
        generalize H1 = H at hP hS ⊢
        subst hg
        rw [← hQe]
        exact W.iret (v := r_9) hx hb hr (fun t ht hW => ⟨⟨r_9, (), rfl, rfl, by rw [ht]; exact hP, va_K.moved hW.alike hK, hD⟩, hS.F ht⟩) hS.2.2 dX11_pass_78
      rw [if_neg c_7_1] at hg
      have hpre := hpre.2 c_7_1
      by_cases c_7_2 : p2 = (2 : Int32)
      · rw [if_pos c_7_2] at hg
        have hpre := hpre.1 c_7_2
        refine lv_tableIn (tgt := 79) (off := 40) hx hb dX11_pass_39 (by rw [c_7_2]; decide) (by rw [c_7_2]; decide) (by rw [c_7_2]; rfl) (by decide) ?_
        clear hpre
        refine lv_aload_n hx hb dX11_pass_79 rfl (lv_at hl 0 rfl) ?_
        refine lv_iload_n hx hb dX11_pass_80 rfl (lv_at hl 1 rfl) ?_
        have hPc := hP.sub (ws' := (wd_md a_md a_mpart a_mother a_mmagnitude a_mminus a_mreach a_mgain a_msegmentOf a_mbegins a_mlengths a_mknown a_mbelow a_mlatest a_mearly a_magain a_mstates a_mlikely a_mbytes r_5.2 md_wide md_high md_band md_style md_isWritten md_isRead md_planes md_passes md_segments md_writing md_plane md_raw md_faults md_size md_begin md_low md_carried md_span md_room md_place md_limit md_next md_last md_upper)) [0] rfl
        have hDc := hD.sub (ws' := (wd_md a_md a_mpart a_mother a_mmagnitude a_mminus a_mreach a_mgain a_msegmentOf a_mbegins a_mlengths a_mknown a_mbelow a_mlatest a_mearly a_magain a_mstates a_mlikely a_mbytes r_5.2 md_wide md_high md_band md_style md_isWritten md_isRead md_planes md_passes md_segments md_writing md_plane md_raw md_faults md_size md_begin md_low md_carried md_span md_room md_place md_limit md_next md_last md_upper)) [0] (by decide) rfl
        have hFc := va_free (wc := (wd_md a_md a_mpart a_mother a_mmagnitude a_mminus a_mreach a_mgain a_msegmentOf a_mbegins a_mlengths a_mknown a_mbelow a_mlatest a_mearly a_magain a_mstates a_mlikely a_mbytes r_5.2 md_wide md_high md_band md_style md_isWritten md_isRead md_planes md_passes md_segments md_writing md_plane md_raw md_faults md_size md_begin md_low md_carried md_span md_room md_place md_limit md_next md_last md_upper)) hD hS hA [0] rfl
        refine va_calli (va_runV (As := [.int p1]) (rest := []) ⟨hx, hb, hml, hown, hts⟩ (c_X11_isRaw l dC dI cI cJ cZ a_md a_mpart a_mother a_mmagnitude a_mminus a_mreach a_mgain a_msegmentOf a_mbegins a_mlengths a_mknown a_mbelow a_mlatest a_mearly a_magain a_mstates a_mlikely a_mbytes H.size r_5.2 md_wide md_high md_band md_style md_isWritten md_isRead md_planes md_passes md_segments md_writing md_plane md_raw md_faults md_size md_begin md_low md_carried md_span md_room md_place md_limit md_next md_last md_upper p1) (cwV 1 hts gX11_pass_X11_isRaw rfl rfl rfl (by decide +kernel) ⟨Nat.le_of_ble_eq_true rfl, Nat.le_of_ble_eq_true rfl⟩) ⟨fun a U g mk q => by obtain ⟨q0, q1, qP, qK, qD⟩ := q; exact ⟨q0, q1, qP, va_K.moved (u := U) (U := U.calling g mk a) (Vm.Alike.refl U.vm) qK, qD⟩, va_recv hK hPc (ci := 10) (q0 := 0) rfl rfl, fun U hU hW => ⟨rfl, by rw [hU], by rw [hU]; exact hPc, va_K.moved hW.alike hK, hDc.weaken (fun _ _ _ _ => trivial)⟩⟩ rfl rfl hl.1 rfl (lv_room (Nat.le_of_ble_eq_true rfl)) dX11_pass_81 ⟨Nat.le_of_ble_eq_true rfl, Nat.le_of_ble_eq_true rfl⟩) hS (fun q _ h => hFc q h) hFc (fun r u t H1 locs ht hvm hw hB hz1 hk1 hS => ?_)
        obtain ⟨hP1, hK1, hD1⟩ := hB
        rw [ht] at hP1
        obtain ⟨r_10, hr_10⟩ : ∃ z, F_X11_isRaw p1 md_style = z := ⟨_, rfl⟩
        try rw [hr_10] at hw
        try rw [hr_10] at hP1
        try rw [hr_10] at hD1
        have hg : (if r_10 = (0 : Int32) then ((0 : Int32), r_5.2) else ((1 : Int32), r_5.2)) = g := by first | (rw [hr_10] at hg; exact hg) | (subst hr_10; exact hg)
        have hw := hw.symm
        subst hw
        obtain ⟨hP, hD⟩ := va_join (wr := [(a_mreach, .inl (cI, mreach_n, .inl mreach_f))]) (w1 := (wd_md a_md a_mpart a_mother a_mmagnitude a_mminus a_mreach a_mgain a_msegmentOf a_mbegins a_mlengths a_mknown a_mbelow a_mlatest a_mearly a_magain a_mstates a_mlikely a_mbytes r_5.2 md_wide md_high md_band md_style md_isWritten md_isRead md_planes md_passes md_segments md_writing md_plane md_raw md_faults md_size md_begin md_low md_carried md_span md_room md_place md_limit md_next md_last md_upper)) hP hD [0] [1] rfl rfl (by decide) (by decide) hk1 hFc hP1 hD1
        have hP : va_P (dC, dI) vwCl (wd_md_mreach cI a_md a_mpart a_mother a_mmagnitude a_mminus a_mreach a_mgain a_msegmentOf a_mbegins a_mlengths a_mknown a_mbelow a_mlatest a_mearly a_magain a_mstates a_mlikely a_mbytes r_5.2 md_wide md_high md_band md_style md_isWritten md_isRead md_planes md_passes md_segments md_writing md_plane md_raw md_faults md_size md_begin md_low md_carried md_span md_room md_place md_limit md_next md_last md_upper mreach_n mreach_f) H1 := hP.sub [1, 0] rfl
        have hD : va_D A (wd_md_mreach cI a_md a_mpart a_mother a_mmagnitude a_mminus a_mreach a_mgain a_msegmentOf a_mbegins a_mlengths a_mknown a_mbelow a_mlatest a_mearly a_magain a_mstates a_mlikely a_mbytes r_5.2 md_wide md_high md_band md_style md_isWritten md_isRead md_planes md_passes md_segments md_writing md_plane md_raw md_faults md_size md_begin md_low md_carried md_span md_room md_place md_limit md_next md_last md_upper mreach_n mreach_f) := hD.sub [1, 0] (by decide) rfl
        generalize H1 = H at hP hS ⊢
        refine lv_if_eq (tgt := 91) hx hb dX11_pass_84 (by decide) (fun c_11 => ?_) (fun c_11 => ?_)
        · rw [if_pos c_11] at hg
          refine lv_iconst (v := 0) hx hb dX11_pass_91 (by decide) ?_
          subst hg
          rw [← hQe]
          exact W.iret (v := (0 : Int32)) hx hb hr (fun t ht hW => ⟨⟨(0 : Int32), (), rfl, rfl, by rw [ht]; exact hP, va_K.moved hW.alike hK, hD⟩, hS.F ht⟩) hS.2.2 dX11_pass_92
        · rw [if_neg c_11] at hg
          refine lv_iconst (v := 1) hx hb dX11_pass_87 (by decide) ?_
          refine lv_goto (tgt := 92) hx hb dX11_pass_88 (by decide) ?_
          subst hg
          rw [← hQe]
          exact W.iret (v := (1 : Int32)) hx hb hr (fun t ht hW => ⟨⟨(1 : Int32), (), rfl, rfl, by rw [ht]; exact hP, va_K.moved hW.alike hK, hD⟩, hS.F ht⟩) hS.2.2 dX11_pass_92
      rw [if_neg c_7_2] at hg
      have hpre := hpre.2 c_7_2
      by_cases c_7_3 : p2 = (3 : Int32)
      · rw [if_pos c_7_3] at hg
        have hpre := hpre.1 c_7_3
        refine lv_tableIn (tgt := 93) (off := 54) hx hb dX11_pass_39 (by rw [c_7_3]; decide) (by rw [c_7_3]; decide) (by rw [c_7_3]; rfl) (by decide) ?_
        clear hpre
        refine lv_aload_n hx hb dX11_pass_93 rfl (lv_at hl 0 rfl) ?_
        refine lv_iload_n hx hb dX11_pass_94 rfl (lv_at hl 1 rfl) ?_
        have hPc := hP.sub (ws' := (wd_md a_md a_mpart a_mother a_mmagnitude a_mminus a_mreach a_mgain a_msegmentOf a_mbegins a_mlengths a_mknown a_mbelow a_mlatest a_mearly a_magain a_mstates a_mlikely a_mbytes r_5.2 md_wide md_high md_band md_style md_isWritten md_isRead md_planes md_passes md_segments md_writing md_plane md_raw md_faults md_size md_begin md_low md_carried md_span md_room md_place md_limit md_next md_last md_upper)) [0] rfl
        have hDc := hD.sub (ws' := (wd_md a_md a_mpart a_mother a_mmagnitude a_mminus a_mreach a_mgain a_msegmentOf a_mbegins a_mlengths a_mknown a_mbelow a_mlatest a_mearly a_magain a_mstates a_mlikely a_mbytes r_5.2 md_wide md_high md_band md_style md_isWritten md_isRead md_planes md_passes md_segments md_writing md_plane md_raw md_faults md_size md_begin md_low md_carried md_span md_room md_place md_limit md_next md_last md_upper)) [0] (by decide) rfl
        have hFc := va_free (wc := (wd_md a_md a_mpart a_mother a_mmagnitude a_mminus a_mreach a_mgain a_msegmentOf a_mbegins a_mlengths a_mknown a_mbelow a_mlatest a_mearly a_magain a_mstates a_mlikely a_mbytes r_5.2 md_wide md_high md_band md_style md_isWritten md_isRead md_planes md_passes md_segments md_writing md_plane md_raw md_faults md_size md_begin md_low md_carried md_span md_room md_place md_limit md_next md_last md_upper)) hD hS hA [0] rfl
        refine va_calli (va_runV (As := [.int p1]) (rest := []) ⟨hx, hb, hml, hown, hts⟩ (c_X11_ends l dC dI cI cJ cZ a_md a_mpart a_mother a_mmagnitude a_mminus a_mreach a_mgain a_msegmentOf a_mbegins a_mlengths a_mknown a_mbelow a_mlatest a_mearly a_magain a_mstates a_mlikely a_mbytes H.size r_5.2 md_wide md_high md_band md_style md_isWritten md_isRead md_planes md_passes md_segments md_writing md_plane md_raw md_faults md_size md_begin md_low md_carried md_span md_room md_place md_limit md_next md_last md_upper p1) (cwV 1 hts gX11_pass_X11_ends rfl rfl rfl (by decide +kernel) ⟨Nat.le_of_ble_eq_true rfl, Nat.le_of_ble_eq_true rfl⟩) ⟨fun a U g mk q => by obtain ⟨q0, q1, qP, qK, qD⟩ := q; exact ⟨q0, q1, qP, va_K.moved (u := U) (U := U.calling g mk a) (Vm.Alike.refl U.vm) qK, qD⟩, va_recv hK hPc (ci := 10) (q0 := 0) rfl rfl, fun U hU hW => ⟨rfl, by rw [hU], by rw [hU]; exact hPc, va_K.moved hW.alike hK, hDc.weaken (fun _ _ _ _ => trivial)⟩⟩ rfl rfl hl.1 rfl (lv_room (Nat.le_of_ble_eq_true rfl)) dX11_pass_95 ⟨Nat.le_of_ble_eq_true rfl, Nat.le_of_ble_eq_true rfl⟩) hS (fun q _ h => hFc q h) hFc (fun r u t H1 locs ht hvm hw hB hz1 hk1 hS => ?_)
        obtain ⟨hP1, hK1, hD1⟩ := hB
        rw [ht] at hP1
        obtain ⟨r_12, hr_12⟩ : ∃ z, F_X11_ends p1 md_style md_passes = z := ⟨_, rfl⟩
        try rw [hr_12] at hw
        try rw [hr_12] at hP1
        try rw [hr_12] at hD1
        have hg : (if r_12 = (0 : Int32) then ((0 : Int32), r_5.2) else ((1 : Int32), r_5.2)) = g := by first | (rw [hr_12] at hg; exact hg) | (subst hr_12; exact hg)
        have hw := hw.symm
        subst hw
        obtain ⟨hP, hD⟩ := va_join (wr := [(a_mreach, .inl (cI, mreach_n, .inl mreach_f))]) (w1 := (wd_md a_md a_mpart a_mother a_mmagnitude a_mminus a_mreach a_mgain a_msegmentOf a_mbegins a_mlengths a_mknown a_mbelow a_mlatest a_mearly a_magain a_mstates a_mlikely a_mbytes r_5.2 md_wide md_high md_band md_style md_isWritten md_isRead md_planes md_passes md_segments md_writing md_plane md_raw md_faults md_size md_begin md_low md_carried md_span md_room md_place md_limit md_next md_last md_upper)) hP hD [0] [1] rfl rfl (by decide) (by decide) hk1 hFc hP1 hD1
        have hP : va_P (dC, dI) vwCl (wd_md_mreach cI a_md a_mpart a_mother a_mmagnitude a_mminus a_mreach a_mgain a_msegmentOf a_mbegins a_mlengths a_mknown a_mbelow a_mlatest a_mearly a_magain a_mstates a_mlikely a_mbytes r_5.2 md_wide md_high md_band md_style md_isWritten md_isRead md_planes md_passes md_segments md_writing md_plane md_raw md_faults md_size md_begin md_low md_carried md_span md_room md_place md_limit md_next md_last md_upper mreach_n mreach_f) H1 := hP.sub [1, 0] rfl
        have hD : va_D A (wd_md_mreach cI a_md a_mpart a_mother a_mmagnitude a_mminus a_mreach a_mgain a_msegmentOf a_mbegins a_mlengths a_mknown a_mbelow a_mlatest a_mearly a_magain a_mstates a_mlikely a_mbytes r_5.2 md_wide md_high md_band md_style md_isWritten md_isRead md_planes md_passes md_segments md_writing md_plane md_raw md_faults md_size md_begin md_low md_carried md_span md_room md_place md_limit md_next md_last md_upper mreach_n mreach_f) := hD.sub [1, 0] (by decide) rfl
        generalize H1 = H at hP hS ⊢
        refine lv_if_eq (tgt := 105) hx hb dX11_pass_98 (by decide) (fun c_13 => ?_) (fun c_13 => ?_)
        · rw [if_pos c_13] at hg
          refine lv_iconst (v := 0) hx hb dX11_pass_105 (by decide) ?_
          subst hg
          rw [← hQe]
          exact W.iret (v := (0 : Int32)) hx hb hr (fun t ht hW => ⟨⟨(0 : Int32), (), rfl, rfl, by rw [ht]; exact hP, va_K.moved hW.alike hK, hD⟩, hS.F ht⟩) hS.2.2 dX11_pass_106
        · rw [if_neg c_13] at hg
          refine lv_iconst (v := 1) hx hb dX11_pass_101 (by decide) ?_
          refine lv_goto (tgt := 106) hx hb dX11_pass_102 (by decide) ?_
          subst hg
          rw [← hQe]
          exact W.iret (v := (1 : Int32)) hx hb hr (fun t ht hW => ⟨⟨(1 : Int32), (), rfl, rfl, by rw [ht]; exact hP, va_K.moved hW.alike hK, hD⟩, hS.F ht⟩) hS.2.2 dX11_pass_106
      rw [if_neg c_7_3] at hg
      have hpre := hpre.2 c_7_3
      have hsw : p2.toInt < 0 ∨ 3 < p2.toInt := by
        have f0 := ne_toInt (c := 0) rfl c_7_0
        have f1 := ne_toInt (c := 1) rfl c_7_1
        have f2 := ne_toInt (c := 2) rfl c_7_2
        have f3 := ne_toInt (c := 3) rfl c_7_3
        omega
      refine lv_tableOut (tgt := 107) hx hb dX11_pass_39 hsw (by decide) ?_
      refine lv_aload_n hx hb dX11_pass_107 rfl (lv_at hl 0 rfl) ?_
      refine va_get (D := (dC, dI)) (ci := 10) (v := .ref a_mreach) (C := RX11) (T := TX11) (N := 42) hx hb hts iw_X11_pass_X11 hown hK hP 0 rfl rfl 13 (by decide) (hts (.fieldLink RX11 30 "PlaneBlocksModel" "reach" "[I") (by decide +kernel)) (fun _ h9 => h9) rfl dX11_pass_108 ?_
      refine lv_iload_n hx hb dX11_pass_111 rfl (lv_at hl 1 rfl) ?_
      have h_14 := hpre
      refine va_iald hx hb hK hP 1 0 rfl rfl h_14 dX11_pass_112 ?_
      subst hg
      rw [← hQe]
      exact W.iret (v := (mreach_f p1.toNatClampNeg)) hx hb hr (fun t ht hW => ⟨⟨(mreach_f p1.toNatClampNeg), (), rfl, rfl, by rw [ht]; exact hP, va_K.moved hW.alike hK, hD⟩, hS.F ht⟩) hS.2.2 dX11_pass_113
    · rw [if_neg c_6] at hg
      refine lv_iconst (v := 0) hx hb dX11_pass_36 (by decide) ?_
      subst hg
      rw [← hQe]
      exact W.iret (v := (0 : Int32)) hx hb hr (fun t ht hW => ⟨⟨(0 : Int32), (), rfl, rfl, by rw [ht]; exact hP, va_K.moved hW.alike hK, hD⟩, hS.F ht⟩) hS.2.2 dX11_pass_37
  have hg : (if md_isWritten = (0 : Int32) then (1 : Int32) else (0 : Int32)) = j_2 := by rw [← hj_2]; rfl
  clear hj_2
  refine lv_if_ne (tgt := 12) hx hb dX11_pass_5 (by decide) (fun c_1 => ?_) (fun c_1 => ?_)
  · rw [if_neg c_1] at hg
    refine lv_iconst (v := 0) hx hb dX11_pass_12 (by decide) ?_
    rw [← hg] at hJ_j_2
    exact hJ_j_2 _ _ _ hP hD hS (lv_sub hl [0, 1, 2] rfl)
  · rw [if_pos c_1] at hg
    refine lv_iconst (v := 1) hx hb dX11_pass_8 (by decide) ?_
    refine lv_goto (tgt := 13) hx hb dX11_pass_9 (by decide) ?_
    rw [← hg] at hJ_j_2
    exact hJ_j_2 _ _ _ hP hD hS (lv_sub hl [0, 1, 2] rfl)
abbrev wd_md_mgain (cJ : ClassId) (a_md : Nat) (a_mpart : Nat) (a_mother : Nat) (a_mmagnitude : Nat) (a_mminus : Nat) (a_mreach : Nat) (a_mgain : Nat) (a_msegmentOf : Nat) (a_mbegins : Nat) (a_mlengths : Nat) (a_mknown : Nat) (a_mbelow : Nat) (a_mlatest : Nat) (a_mearly : Nat) (a_magain : Nat) (a_mstates : Nat) (a_mlikely : Nat) (a_mbytes : Nat) (md_thrown : Int32) (md_wide : Int32) (md_high : Int32) (md_band : Int32) (md_style : Int32) (md_isWritten : Int32) (md_isRead : Int32) (md_planes : Int32) (md_passes : Int32) (md_segments : Int32) (md_writing : Int32) (md_plane : Int32) (md_raw : Int32) (md_faults : Int32) (md_size : Int32) (md_begin : Int32) (md_low : Int32) (md_carried : Int32) (md_span : Int32) (md_room : Int32) (md_place : Int32) (md_limit : Int32) (md_next : Int32) (md_last : Int32) (md_upper : Int64) (mgain_n : Nat) (mgain_f : Nat → Int64) : va_W := [(a_md, .inr (10, [.ref a_mpart, .ref a_mother, .int md_thrown, .int md_wide, .int md_high, .int md_band, .int md_style, .ref a_mmagnitude, .ref a_mminus, .int md_isWritten, .int md_isRead, .int md_planes, .int md_passes, .ref a_mreach, .ref a_mgain, .ref a_msegmentOf, .int md_segments, .ref a_mbegins, .ref a_mlengths, .int md_writing, .ref a_mknown, .ref a_mbelow, .ref a_mlatest, .ref a_mearly, .ref a_magain, .int md_plane, .int md_raw, .int md_faults, .ref a_mstates, .ref a_mlikely, .int md_size, .ref a_mbytes, .int md_begin, .int md_low, .int md_carried, .int md_span, .int md_room, .int md_place, .int md_limit, .int md_next, .int md_last, .long md_upper])), (a_mgain, .inl (cJ, mgain_n, .inr (.inl mgain_f)))]
abbrev rm_X11_gain : Room := { frames := 1, cells := 0, slots := 0, locals := 23 }
abbrev Q_X11_gain (dC : Nat → ClassId) (dI : Nat → Nat → Nat) (cI cJ cZ : ClassId) (a_md : Nat) (a_mpart : Nat) (a_mother : Nat) (a_mmagnitude : Nat) (a_mminus : Nat) (a_mreach : Nat) (a_mgain : Nat) (a_msegmentOf : Nat) (a_mbegins : Nat) (a_mlengths : Nat) (a_mknown : Nat) (a_mbelow : Nat) (a_mlatest : Nat) (a_mearly : Nat) (a_magain : Nat) (a_mstates : Nat) (a_mlikely : Nat) (a_mbytes : Nat) (A : Nat → Prop) (md_thrown : Int32) (md_wide : Int32) (md_high : Int32) (md_band : Int32) (md_style : Int32) (md_isWritten : Int32) (md_isRead : Int32) (md_planes : Int32) (md_passes : Int32) (md_segments : Int32) (md_writing : Int32) (md_plane : Int32) (md_raw : Int32) (md_faults : Int32) (md_size : Int32) (md_begin : Int32) (md_low : Int32) (md_carried : Int32) (md_span : Int32) (md_room : Int32) (md_place : Int32) (md_limit : Int32) (md_next : Int32) (md_last : Int32) (md_upper : Int64) (mgain_n : Nat) (mgain_f : Nat → Int64) (g : (Int64 × Int32)) : Array Value → State → Outcome → State → Prop := va_Ql (fun (r : Int64) (_ : Unit) => r = g.1) (fun u t => va_P (dC, dI) vwCl (wd_md_mgain cJ a_md a_mpart a_mother a_mmagnitude a_mminus a_mreach a_mgain a_msegmentOf a_mbegins a_mlengths a_mknown a_mbelow a_mlatest a_mearly a_magain a_mstates a_mlikely a_mbytes g.2 md_wide md_high md_band md_style md_isWritten md_isRead md_planes md_passes md_segments md_writing md_plane md_raw md_faults md_size md_begin md_low md_carried md_span md_room md_place md_limit md_next md_last md_upper mgain_n mgain_f) t.heap ∧ va_K (dC, dI) vwCl [(cI, .int), (cJ, .long), (cZ, .boolean)] t ∧ va_D A (wd_md_mgain cJ a_md a_mpart a_mother a_mmagnitude a_mminus a_mreach a_mgain a_msegmentOf a_mbegins a_mlengths a_mknown a_mbelow a_mlatest a_mearly a_magain a_mstates a_mlikely a_mbytes g.2 md_wide md_high md_band md_style md_isWritten md_isRead md_planes md_passes md_segments md_writing md_plane md_raw md_faults md_size md_begin md_low md_carried md_span md_room md_place md_limit md_next md_last md_upper mgain_n mgain_f)) A
theorem iw_X11_gain_X11 : ∀ w ∈ u_ws RX11 TX11 42, w ∈ wsX11_gain := by decide +kernel
set_option maxHeartbeats 4000000 in
set_option maxRecDepth 100000 in
theorem c_X11_gain (l : Launch) (dC : Nat → ClassId) (dI : Nat → Nat → Nat) (cI cJ cZ : ClassId) (a_md : Nat) (a_mpart : Nat) (a_mother : Nat) (a_mmagnitude : Nat) (a_mminus : Nat) (a_mreach : Nat) (a_mgain : Nat) (a_msegmentOf : Nat) (a_mbegins : Nat) (a_mlengths : Nat) (a_mknown : Nat) (a_mbelow : Nat) (a_mlatest : Nat) (a_mearly : Nat) (a_magain : Nat) (a_mstates : Nat) (a_mlikely : Nat) (a_mbytes : Nat) (sz : Nat) (md_thrown : Int32) (md_wide : Int32) (md_high : Int32) (md_band : Int32) (md_style : Int32) (md_isWritten : Int32) (md_isRead : Int32) (md_planes : Int32) (md_passes : Int32) (md_segments : Int32) (md_writing : Int32) (md_plane : Int32) (md_raw : Int32) (md_faults : Int32) (md_size : Int32) (md_begin : Int32) (md_low : Int32) (md_carried : Int32) (md_span : Int32) (md_room : Int32) (md_place : Int32) (md_limit : Int32) (md_next : Int32) (md_last : Int32) (md_upper : Int64) (mgain_n : Nat) (mgain_f : Nat → Int64) (p1 : Int32) (hpre : P_X11_gain p1 md_isWritten md_passes mgain_n) : Met l yX11_gain wsX11_gain rm_X11_gain (va_Pc [.ref a_md, .int p1] (fun U => U.heap.size = sz ∧ va_P (dC, dI) vwCl (wd_md_mgain cJ a_md a_mpart a_mother a_mmagnitude a_mminus a_mreach a_mgain a_msegmentOf a_mbegins a_mlengths a_mknown a_mbelow a_mlatest a_mearly a_magain a_mstates a_mlikely a_mbytes md_thrown md_wide md_high md_band md_style md_isWritten md_isRead md_planes md_passes md_segments md_writing md_plane md_raw md_faults md_size md_begin md_low md_carried md_span md_room md_place md_limit md_next md_last md_upper mgain_n mgain_f) U.heap ∧ va_K (dC, dI) vwCl [(cI, .int), (cJ, .long), (cZ, .boolean)] U ∧ va_D (fun _ => True) (wd_md_mgain cJ a_md a_mpart a_mother a_mmagnitude a_mminus a_mreach a_mgain a_msegmentOf a_mbegins a_mlengths a_mknown a_mbelow a_mlatest a_mearly a_magain a_mstates a_mlikely a_mbytes md_thrown md_wide md_high md_band md_style md_isWritten md_isRead md_planes md_passes md_segments md_writing md_plane md_raw md_faults md_size md_begin md_low md_carried md_span md_room md_place md_limit md_next md_last md_upper mgain_n mgain_f))) (Q_X11_gain dC dI cI cJ cZ a_md a_mpart a_mother a_mmagnitude a_mminus a_mreach a_mgain a_msegmentOf a_mbegins a_mlengths a_mknown a_mbelow a_mlatest a_mearly a_magain a_mstates a_mlikely a_mbytes (va_A (wd_md_mgain cJ a_md a_mpart a_mother a_mmagnitude a_mminus a_mreach a_mgain a_msegmentOf a_mbegins a_mlengths a_mknown a_mbelow a_mlatest a_mearly a_magain a_mstates a_mlikely a_mbytes md_thrown md_wide md_high md_band md_style md_isWritten md_isRead md_planes md_passes md_segments md_writing md_plane md_raw md_faults md_size md_begin md_low md_carried md_span md_room md_place md_limit md_next md_last md_upper mgain_n mgain_f) sz) md_thrown md_wide md_high md_band md_style md_isWritten md_isRead md_planes md_passes md_segments md_writing md_plane md_raw md_faults md_size md_begin md_low md_carried md_span md_room md_place md_limit md_next md_last md_upper mgain_n mgain_f (F_X11_gain p1 md_isWritten md_passes mgain_f)) 0 0 (va_A (wd_md_mgain cJ a_md a_mpart a_mother a_mmagnitude a_mminus a_mreach a_mgain a_msegmentOf a_mbegins a_mlengths a_mknown a_mbelow a_mlatest a_mearly a_magain a_mstates a_mlikely a_mbytes md_thrown md_wide md_high md_band md_style md_isWritten md_isRead md_planes md_passes md_segments md_writing md_plane md_raw md_faults md_size md_begin md_low md_carried md_span md_room md_place md_limit md_next md_last md_upper mgain_n mgain_f) sz) := by
  refine Met.ofW (cc := cX11_gain) (maxL := 2) (ret := (some .long)) (by decide) rfl ?_
  intro p e s m args below meth c s₁ B hml hv
  obtain ⟨rfl, hsz, hP, hK, hD0⟩ := hv
  have hx := B.exec
  have hb := B.bytes
  have hr := B.returns
  have hts := atoms_spec (ws := wsX11_gain) B.pre
  have hown : s.vm.findClass RX11 = some m.cls := findClass_of_methodNamed B.named
  have hlocks := B.notSynchronized
  subst hsz
  have hD := hD0.self (sz := s.heap.size)
  generalize hAe : va_A (wd_md_mgain cJ a_md a_mpart a_mother a_mmagnitude a_mminus a_mreach a_mgain a_msegmentOf a_mbegins a_mlengths a_mknown a_mbelow a_mlatest a_mearly a_magain a_mstates a_mlikely a_mbytes md_thrown md_wide md_high md_band md_style md_isWritten md_isRead md_planes md_passes md_segments md_writing md_plane md_raw md_faults md_size md_begin md_low md_carried md_span md_room md_place md_limit md_next md_last md_upper mgain_n mgain_f) s.heap.size = A at hD ⊢
  have hA : ∀ q : Nat, s.heap.size ≤ q → A q := fun q h => by rw [← hAe]; exact Or.inr h
  have hS : va_S A s.heap s.heap [] := va_S.rf
  obtain ⟨H, hH⟩ : ∃ z, z = s.heap := ⟨_, rfl⟩
  have hP : va_P (dC, dI) vwCl (wd_md_mgain cJ a_md a_mpart a_mother a_mmagnitude a_mminus a_mreach a_mgain a_msegmentOf a_mbegins a_mlengths a_mknown a_mbelow a_mlatest a_mearly a_magain a_mstates a_mlikely a_mbytes md_thrown md_wide md_high md_band md_style md_isWritten md_isRead md_planes md_passes md_segments md_writing md_plane md_raw md_faults md_size md_begin md_low md_carried md_span md_room md_place md_limit md_next md_last md_upper mgain_n mgain_f) H := by rw [hH]; exact hP
  have hS : va_S A s.heap H [] := by rw [hH]; exact va_S.rf
  obtain ⟨g, hg⟩ : ∃ z, F_X11_gain p1 md_isWritten md_passes mgain_f = z := ⟨_, rfl⟩
  rw [hg]
  generalize hQe : MQ below (Q_X11_gain dC dI cI cJ cZ a_md a_mpart a_mother a_mmagnitude a_mminus a_mreach a_mgain a_msegmentOf a_mbegins a_mlengths a_mknown a_mbelow a_mlatest a_mearly a_magain a_mstates a_mlikely a_mbytes A md_thrown md_wide md_high md_band md_style md_isWritten md_isRead md_planes md_passes md_segments md_writing md_plane md_raw md_faults md_size md_begin md_low md_carried md_span md_room md_place md_limit md_next md_last md_upper mgain_n mgain_f g) _ s 0 0 A = Q
  rw [← hH]
  clear hH
  have hl := lv_entry ([.ref a_md, .int p1]) (n := 2) (Nat.le_of_ble_eq_true rfl)
  rw [lg_entry_eq]
  generalize (lg_sl ([.ref a_md, .int p1]) ++ List.replicate (2 - (lg_sl ([.ref a_md, .int p1])).length) Slot.unset).toArray = ls at hl ⊢
  have hl : lv_has ls 2 [(0, .ref a_md), (1, .int p1)] := hl
  unfold F_X11_gain at hg
  unfold P_X11_gain at hpre
  refine lv_aload_n hx hb dX11_gain_0 rfl (lv_at hl 0 rfl) ?_
  refine lv_aload_n hx hb dX11_gain_1 rfl (lv_at hl 0 rfl) ?_
  refine va_get (D := (dC, dI)) (ci := 10) (v := .int md_isWritten) (C := RX11) (T := TX11) (N := 42) hx hb hts iw_X11_gain_X11 hown hK hP 0 rfl rfl 9 (by decide) (hts (.fieldLink RX11 249 "PlaneBlocksModel" "isWritten" "Z") (by decide +kernel)) (fun _ h9 => h9) rfl dX11_gain_2 ?_
  obtain ⟨j_2, hj_2⟩ : ∃ z, J_X11_gain_j_2 md_isWritten = z := ⟨_, rfl⟩
  have hg : (let r_3 := F_X11_out p1 (0 : Int32) (md_passes - (1 : Int32)); let r_4 := F_X11_throwing j_2 r_3 (0 : Int32); if r_4.1 = (0 : Int32) then (mgain_f p1.toNatClampNeg, r_4.2) else ((0 : Int64), r_4.2)) = g := by first | (rw [hj_2] at hg; exact hg) | (subst hj_2; exact hg)
  have hJ_j_2 : ∀ (H : Heap) (locs : List Loc) (ls : Array Slot), va_P (dC, dI) vwCl (wd_md_mgain cJ a_md a_mpart a_mother a_mmagnitude a_mminus a_mreach a_mgain a_msegmentOf a_mbegins a_mlengths a_mknown a_mbelow a_mlatest a_mearly a_magain a_mstates a_mlikely a_mbytes md_thrown md_wide md_high md_band md_style md_isWritten md_isRead md_planes md_passes md_segments md_writing md_plane md_raw md_faults md_size md_begin md_low md_carried md_span md_room md_place md_limit md_next md_last md_upper mgain_n mgain_f) H → va_D A (wd_md_mgain cJ a_md a_mpart a_mother a_mmagnitude a_mminus a_mreach a_mgain a_msegmentOf a_mbegins a_mlengths a_mknown a_mbelow a_mlatest a_mearly a_magain a_mstates a_mlikely a_mbytes md_thrown md_wide md_high md_band md_style md_isWritten md_isRead md_planes md_passes md_segments md_writing md_plane md_raw md_faults md_size md_begin md_low md_carried md_span md_room md_place md_limit md_next md_last md_upper mgain_n mgain_f) → va_S A s.heap H locs → lv_has ls 2 [(0, .ref a_md), (1, .int p1)] → W p l e (headSpec wsX11_gain rm_X11_gain).room s m ([.ref a_md, .int p1] : List Value).toArray below meth c H locs 0 0 Q (F0 m 13 ls [.int j_2, .ref a_md]) := by
    intro H locs ls hP hD hS hl
    have hpre := hpre j_2 hj_2
    refine lv_iload_n hx hb dX11_gain_13 rfl (lv_at hl 1 rfl) ?_
    refine lv_iconst (v := 0) hx hb dX11_gain_14 (by decide) ?_
    refine lv_aload_n hx hb dX11_gain_15 rfl (lv_at hl 0 rfl) ?_
    refine va_get (D := (dC, dI)) (ci := 10) (v := .int md_passes) (C := RX11) (T := TX11) (N := 42) hx hb hts iw_X11_gain_X11 hown hK hP 0 rfl rfl 12 (by decide) (hts (.fieldLink RX11 237 "PlaneBlocksModel" "passes" "I") (by decide +kernel)) (fun _ h9 => h9) rfl dX11_gain_16 ?_
    refine lv_iconst (v := 1) hx hb dX11_gain_19 (by decide) ?_
    refine lv_isub hx hb dX11_gain_20 ?_
    have hPc := hP.sub (ws' := (wd_)) [] rfl
    have hDc := hD.sub (ws' := (wd_)) [] (by decide) rfl
    have hFc := va_free (wc := (wd_)) hD hS hA [] rfl
    refine va_calli (va_runS (As := [.int p1, .int (0 : Int32), .int (md_passes - (1 : Int32))]) (rest := [.int j_2, .ref a_md]) ⟨hx, hb, hml, hown, hts⟩ (c_X11_out l dC dI cI cJ cZ  H.size p1 (0 : Int32) (md_passes - (1 : Int32))) (va_cwS 3 hts gX11_gain_X11_out rfl rfl rfl (by decide +kernel) ⟨Nat.le_of_ble_eq_true rfl, Nat.le_of_ble_eq_true rfl⟩) ⟨fun a U g mk q => by obtain ⟨q0, q1, qP, qK, qD⟩ := q; exact ⟨q0, q1, qP, va_K.moved (u := U) (U := U.calling g mk a) (Vm.Alike.refl U.vm) qK, qD⟩, fun U hU hW => ⟨rfl, by rw [hU], by rw [hU]; exact hPc, va_K.moved hW.alike hK, hDc.weaken (fun _ _ _ _ => trivial)⟩⟩ rfl rfl hl.1 rfl (lv_room (Nat.le_of_ble_eq_true rfl)) dX11_gain_21 ⟨Nat.le_of_ble_eq_true rfl, Nat.le_of_ble_eq_true rfl⟩) hS (fun q _ h => hFc q h) hFc (fun r u t H1 locs ht hvm hw hB hz1 hk1 hS => ?_)
    obtain ⟨hP1, hK1, hD1⟩ := hB
    rw [ht] at hP1
    obtain ⟨r_3, hr_3⟩ : ∃ z, F_X11_out p1 (0 : Int32) (md_passes - (1 : Int32)) = z := ⟨_, rfl⟩
    try rw [hr_3] at hw
    try rw [hr_3] at hP1
    try rw [hr_3] at hD1
    have hg : (let r_4 := F_X11_throwing j_2 r_3 (0 : Int32); if r_4.1 = (0 : Int32) then (mgain_f p1.toNatClampNeg, r_4.2) else ((0 : Int64), r_4.2)) = g := by first | (rw [hr_3] at hg; exact hg) | (subst hr_3; exact hg)
    have hw := hw.symm
    subst hw
    obtain ⟨hP, hD⟩ := va_join (wr := [(a_md, .inr (10, [.ref a_mpart, .ref a_mother, .int md_thrown, .int md_wide, .int md_high, .int md_band, .int md_style, .ref a_mmagnitude, .ref a_mminus, .int md_isWritten, .int md_isRead, .int md_planes, .int md_passes, .ref a_mreach, .ref a_mgain, .ref a_msegmentOf, .int md_segments, .ref a_mbegins, .ref a_mlengths, .int md_writing, .ref a_mknown, .ref a_mbelow, .ref a_mlatest, .ref a_mearly, .ref a_magain, .int md_plane, .int md_raw, .int md_faults, .ref a_mstates, .ref a_mlikely, .int md_size, .ref a_mbytes, .int md_begin, .int md_low, .int md_carried, .int md_span, .int md_room, .int md_place, .int md_limit, .int md_next, .int md_last, .long md_upper])), (a_mgain, .inl (cJ, mgain_n, .inr (.inl mgain_f)))]) (w1 := (wd_)) hP hD [] [0, 1] rfl rfl (by decide) (by decide) hk1 hFc hP1 hD1
    have hP : va_P (dC, dI) vwCl (wd_md_mgain cJ a_md a_mpart a_mother a_mmagnitude a_mminus a_mreach a_mgain a_msegmentOf a_mbegins a_mlengths a_mknown a_mbelow a_mlatest a_mearly a_magain a_mstates a_mlikely a_mbytes md_thrown md_wide md_high md_band md_style md_isWritten md_isRead md_planes md_passes md_segments md_writing md_plane md_raw md_faults md_size md_begin md_low md_carried md_span md_room md_place md_limit md_next md_last md_upper mgain_n mgain_f) H1 := hP.sub [0, 1] rfl
    have hD : va_D A (wd_md_mgain cJ a_md a_mpart a_mother a_mmagnitude a_mminus a_mreach a_mgain a_msegmentOf a_mbegins a_mlengths a_mknown a_mbelow a_mlatest a_mearly a_magain a_mstates a_mlikely a_mbytes md_thrown md_wide md_high md_band md_style md_isWritten md_isRead md_planes md_passes md_segments md_writing md_plane md_raw md_faults md_size md_begin md_low md_carried md_span md_room md_place md_limit md_next md_last md_upper mgain_n mgain_f) := hD.sub [0, 1] (by decide) rfl
    generalize H1 = H at hP hS ⊢
    have hpre := hpre r_3 hr_3
    refine lv_iconst (v := 0) hx hb dX11_gain_24 (by decide) ?_
    have hPc := hP.sub (ws' := (wd_md a_md a_mpart a_mother a_mmagnitude a_mminus a_mreach a_mgain a_msegmentOf a_mbegins a_mlengths a_mknown a_mbelow a_mlatest a_mearly a_magain a_mstates a_mlikely a_mbytes md_thrown md_wide md_high md_band md_style md_isWritten md_isRead md_planes md_passes md_segments md_writing md_plane md_raw md_faults md_size md_begin md_low md_carried md_span md_room md_place md_limit md_next md_last md_upper)) [0] rfl
    have hDc := hD.sub (ws' := (wd_md a_md a_mpart a_mother a_mmagnitude a_mminus a_mreach a_mgain a_msegmentOf a_mbegins a_mlengths a_mknown a_mbelow a_mlatest a_mearly a_magain a_mstates a_mlikely a_mbytes md_thrown md_wide md_high md_band md_style md_isWritten md_isRead md_planes md_passes md_segments md_writing md_plane md_raw md_faults md_size md_begin md_low md_carried md_span md_room md_place md_limit md_next md_last md_upper)) [0] (by decide) rfl
    have hFc := va_free (wc := (wd_md a_md a_mpart a_mother a_mmagnitude a_mminus a_mreach a_mgain a_msegmentOf a_mbegins a_mlengths a_mknown a_mbelow a_mlatest a_mearly a_magain a_mstates a_mlikely a_mbytes md_thrown md_wide md_high md_band md_style md_isWritten md_isRead md_planes md_passes md_segments md_writing md_plane md_raw md_faults md_size md_begin md_low md_carried md_span md_room md_place md_limit md_next md_last md_upper)) hD hS hA [0] rfl
    refine va_calli (va_runV (As := [.int j_2, .int r_3, .int (0 : Int32)]) (rest := []) ⟨hx, hb, hml, hown, hts⟩ (c_X11_throwing l dC dI cI cJ cZ a_md a_mpart a_mother a_mmagnitude a_mminus a_mreach a_mgain a_msegmentOf a_mbegins a_mlengths a_mknown a_mbelow a_mlatest a_mearly a_magain a_mstates a_mlikely a_mbytes H.size md_thrown md_wide md_high md_band md_style md_isWritten md_isRead md_planes md_passes md_segments md_writing md_plane md_raw md_faults md_size md_begin md_low md_carried md_span md_room md_place md_limit md_next md_last md_upper j_2 r_3 (0 : Int32)) (cwV 3 hts gX11_gain_X11_throwing rfl rfl rfl (by decide +kernel) ⟨Nat.le_of_ble_eq_true rfl, Nat.le_of_ble_eq_true rfl⟩) ⟨fun a U g mk q => by obtain ⟨q0, q1, qP, qK, qD⟩ := q; exact ⟨q0, q1, qP, va_K.moved (u := U) (U := U.calling g mk a) (Vm.Alike.refl U.vm) qK, qD⟩, va_recv hK hPc (ci := 10) (q0 := 0) rfl rfl, fun U hU hW => ⟨rfl, by rw [hU], by rw [hU]; exact hPc, va_K.moved hW.alike hK, hDc.weaken (fun _ _ _ _ => trivial)⟩⟩ rfl rfl hl.1 rfl (lv_room (Nat.le_of_ble_eq_true rfl)) dX11_gain_25 ⟨Nat.le_of_ble_eq_true rfl, Nat.le_of_ble_eq_true rfl⟩) hS (fun q _ h => hFc q h) hFc (fun r u t H1 locs ht hvm hw hB hz1 hk1 hS => ?_)
    obtain ⟨hP1, hK1, hD1⟩ := hB
    rw [ht] at hP1
    obtain ⟨r_4, hr_4⟩ : ∃ z, F_X11_throwing j_2 r_3 (0 : Int32) = z := ⟨_, rfl⟩
    try rw [hr_4] at hw
    try rw [hr_4] at hP1
    try rw [hr_4] at hD1
    have hg : (if r_4.1 = (0 : Int32) then (mgain_f p1.toNatClampNeg, r_4.2) else ((0 : Int64), r_4.2)) = g := by first | (rw [hr_4] at hg; exact hg) | (subst hr_4; exact hg)
    subst hw
    obtain ⟨hP, hD⟩ := va_join (wr := [(a_mgain, .inl (cJ, mgain_n, .inr (.inl mgain_f)))]) (w1 := (wd_md a_md a_mpart a_mother a_mmagnitude a_mminus a_mreach a_mgain a_msegmentOf a_mbegins a_mlengths a_mknown a_mbelow a_mlatest a_mearly a_magain a_mstates a_mlikely a_mbytes r_4.2 md_wide md_high md_band md_style md_isWritten md_isRead md_planes md_passes md_segments md_writing md_plane md_raw md_faults md_size md_begin md_low md_carried md_span md_room md_place md_limit md_next md_last md_upper)) hP hD [0] [1] rfl rfl (by decide) (by decide) hk1 hFc hP1 hD1
    have hP : va_P (dC, dI) vwCl (wd_md_mgain cJ a_md a_mpart a_mother a_mmagnitude a_mminus a_mreach a_mgain a_msegmentOf a_mbegins a_mlengths a_mknown a_mbelow a_mlatest a_mearly a_magain a_mstates a_mlikely a_mbytes r_4.2 md_wide md_high md_band md_style md_isWritten md_isRead md_planes md_passes md_segments md_writing md_plane md_raw md_faults md_size md_begin md_low md_carried md_span md_room md_place md_limit md_next md_last md_upper mgain_n mgain_f) H1 := hP.sub [1, 0] rfl
    have hD : va_D A (wd_md_mgain cJ a_md a_mpart a_mother a_mmagnitude a_mminus a_mreach a_mgain a_msegmentOf a_mbegins a_mlengths a_mknown a_mbelow a_mlatest a_mearly a_magain a_mstates a_mlikely a_mbytes r_4.2 md_wide md_high md_band md_style md_isWritten md_isRead md_planes md_passes md_segments md_writing md_plane md_raw md_faults md_size md_begin md_low md_carried md_span md_room md_place md_limit md_next md_last md_upper mgain_n mgain_f) := hD.sub [1, 0] (by decide) rfl
    generalize H1 = H at hP hS ⊢
    have hpre := hpre r_4 hr_4
    refine lv_if_eq (tgt := 33) hx hb dX11_gain_28 (by decide) (fun c_5 => ?_) (fun c_5 => ?_)
    · rw [if_pos c_5] at hg
      have hpre := hpre c_5
      refine lv_aload_n hx hb dX11_gain_33 rfl (lv_at hl 0 rfl) ?_
      refine va_get (D := (dC, dI)) (ci := 10) (v := .ref a_mgain) (C := RX11) (T := TX11) (N := 42) hx hb hts iw_X11_gain_X11 hown hK hP 0 rfl rfl 14 (by decide) (hts (.fieldLink RX11 33 "PlaneBlocksModel" "gain" "[J") (by decide +kernel)) (fun _ h9 => h9) rfl dX11_gain_34 ?_
      refine lv_iload_n hx hb dX11_gain_37 rfl (lv_at hl 1 rfl) ?_
      have h_6 := hpre
      refine va_lald hx hb hK hP 1 1 rfl rfl h_6 dX11_gain_38 ?_
      subst hg
      rw [← hQe]
      exact W.lret (v := (mgain_f p1.toNatClampNeg)) hx hb hr (fun t ht hW => ⟨⟨(mgain_f p1.toNatClampNeg), (), rfl, rfl, by rw [ht]; exact hP, va_K.moved hW.alike hK, hD⟩, hS.F ht⟩) hS.2.2 dX11_gain_39
    · rw [if_neg c_5] at hg
      refine lv_lconst (v := 0) hx hb dX11_gain_31 (by decide) ?_
      subst hg
      rw [← hQe]
      exact W.lret (v := (0 : Int64)) hx hb hr (fun t ht hW => ⟨⟨(0 : Int64), (), rfl, rfl, by rw [ht]; exact hP, va_K.moved hW.alike hK, hD⟩, hS.F ht⟩) hS.2.2 dX11_gain_32
  have hg : (if md_isWritten = (0 : Int32) then (1 : Int32) else (0 : Int32)) = j_2 := by rw [← hj_2]; rfl
  clear hj_2
  refine lv_if_ne (tgt := 12) hx hb dX11_gain_5 (by decide) (fun c_1 => ?_) (fun c_1 => ?_)
  · rw [if_neg c_1] at hg
    refine lv_iconst (v := 0) hx hb dX11_gain_12 (by decide) ?_
    rw [← hg] at hJ_j_2
    exact hJ_j_2 _ _ _ hP hD hS (lv_sub hl [0, 1] rfl)
  · rw [if_pos c_1] at hg
    refine lv_iconst (v := 1) hx hb dX11_gain_8 (by decide) ?_
    refine lv_goto (tgt := 13) hx hb dX11_gain_9 (by decide) ?_
    rw [← hg] at hJ_j_2
    exact hJ_j_2 _ _ _ hP hD hS (lv_sub hl [0, 1] rfl)
abbrev rm_X11_at : Room := { frames := 1, cells := 0, slots := 0, locals := 23 }
abbrev Q_X11_at (dC : Nat → ClassId) (dI : Nat → Nat → Nat) (cI cJ cZ : ClassId) (a_md : Nat) (a_mpart : Nat) (a_mother : Nat) (a_mmagnitude : Nat) (a_mminus : Nat) (a_mreach : Nat) (a_mgain : Nat) (a_msegmentOf : Nat) (a_mbegins : Nat) (a_mlengths : Nat) (a_mknown : Nat) (a_mbelow : Nat) (a_mlatest : Nat) (a_mearly : Nat) (a_magain : Nat) (a_mstates : Nat) (a_mlikely : Nat) (a_mbytes : Nat) (A : Nat → Prop) (md_thrown : Int32) (md_wide : Int32) (md_high : Int32) (md_band : Int32) (md_style : Int32) (md_isWritten : Int32) (md_isRead : Int32) (md_planes : Int32) (md_passes : Int32) (md_segments : Int32) (md_writing : Int32) (md_plane : Int32) (md_raw : Int32) (md_faults : Int32) (md_size : Int32) (md_begin : Int32) (md_low : Int32) (md_carried : Int32) (md_span : Int32) (md_room : Int32) (md_place : Int32) (md_limit : Int32) (md_next : Int32) (md_last : Int32) (md_upper : Int64) (mbytes_n : Nat) (mbytes_f : Nat → Int32) (g : (Int32 × Int32)) : Array Value → State → Outcome → State → Prop := va_Qi (fun (r : Int32) (_ : Unit) => r = g.1) (fun u t => va_P (dC, dI) vwCl (wd_md_mbytes cI a_md a_mpart a_mother a_mmagnitude a_mminus a_mreach a_mgain a_msegmentOf a_mbegins a_mlengths a_mknown a_mbelow a_mlatest a_mearly a_magain a_mstates a_mlikely a_mbytes g.2 md_wide md_high md_band md_style md_isWritten md_isRead md_planes md_passes md_segments md_writing md_plane md_raw md_faults md_size md_begin md_low md_carried md_span md_room md_place md_limit md_next md_last md_upper mbytes_n mbytes_f) t.heap ∧ va_K (dC, dI) vwCl [(cI, .int), (cJ, .long), (cZ, .boolean)] t ∧ va_D A (wd_md_mbytes cI a_md a_mpart a_mother a_mmagnitude a_mminus a_mreach a_mgain a_msegmentOf a_mbegins a_mlengths a_mknown a_mbelow a_mlatest a_mearly a_magain a_mstates a_mlikely a_mbytes g.2 md_wide md_high md_band md_style md_isWritten md_isRead md_planes md_passes md_segments md_writing md_plane md_raw md_faults md_size md_begin md_low md_carried md_span md_room md_place md_limit md_next md_last md_upper mbytes_n mbytes_f)) A
theorem iw_X11_at_X11 : ∀ w ∈ u_ws RX11 TX11 42, w ∈ wsX11_at := by decide +kernel
set_option maxHeartbeats 4000000 in
set_option maxRecDepth 100000 in
theorem c_X11_at (l : Launch) (dC : Nat → ClassId) (dI : Nat → Nat → Nat) (cI cJ cZ : ClassId) (a_md : Nat) (a_mpart : Nat) (a_mother : Nat) (a_mmagnitude : Nat) (a_mminus : Nat) (a_mreach : Nat) (a_mgain : Nat) (a_msegmentOf : Nat) (a_mbegins : Nat) (a_mlengths : Nat) (a_mknown : Nat) (a_mbelow : Nat) (a_mlatest : Nat) (a_mearly : Nat) (a_magain : Nat) (a_mstates : Nat) (a_mlikely : Nat) (a_mbytes : Nat) (sz : Nat) (md_thrown : Int32) (md_wide : Int32) (md_high : Int32) (md_band : Int32) (md_style : Int32) (md_isWritten : Int32) (md_isRead : Int32) (md_planes : Int32) (md_passes : Int32) (md_segments : Int32) (md_writing : Int32) (md_plane : Int32) (md_raw : Int32) (md_faults : Int32) (md_size : Int32) (md_begin : Int32) (md_low : Int32) (md_carried : Int32) (md_span : Int32) (md_room : Int32) (md_place : Int32) (md_limit : Int32) (md_next : Int32) (md_last : Int32) (md_upper : Int64) (mbytes_n : Nat) (mbytes_f : Nat → Int32) (p1 : Int32) (hpre : P_X11_at p1 md_isWritten md_size mbytes_n) : Met l yX11_at wsX11_at rm_X11_at (va_Pc [.ref a_md, .int p1] (fun U => U.heap.size = sz ∧ va_P (dC, dI) vwCl (wd_md_mbytes cI a_md a_mpart a_mother a_mmagnitude a_mminus a_mreach a_mgain a_msegmentOf a_mbegins a_mlengths a_mknown a_mbelow a_mlatest a_mearly a_magain a_mstates a_mlikely a_mbytes md_thrown md_wide md_high md_band md_style md_isWritten md_isRead md_planes md_passes md_segments md_writing md_plane md_raw md_faults md_size md_begin md_low md_carried md_span md_room md_place md_limit md_next md_last md_upper mbytes_n mbytes_f) U.heap ∧ va_K (dC, dI) vwCl [(cI, .int), (cJ, .long), (cZ, .boolean)] U ∧ va_D (fun _ => True) (wd_md_mbytes cI a_md a_mpart a_mother a_mmagnitude a_mminus a_mreach a_mgain a_msegmentOf a_mbegins a_mlengths a_mknown a_mbelow a_mlatest a_mearly a_magain a_mstates a_mlikely a_mbytes md_thrown md_wide md_high md_band md_style md_isWritten md_isRead md_planes md_passes md_segments md_writing md_plane md_raw md_faults md_size md_begin md_low md_carried md_span md_room md_place md_limit md_next md_last md_upper mbytes_n mbytes_f))) (Q_X11_at dC dI cI cJ cZ a_md a_mpart a_mother a_mmagnitude a_mminus a_mreach a_mgain a_msegmentOf a_mbegins a_mlengths a_mknown a_mbelow a_mlatest a_mearly a_magain a_mstates a_mlikely a_mbytes (va_A (wd_md_mbytes cI a_md a_mpart a_mother a_mmagnitude a_mminus a_mreach a_mgain a_msegmentOf a_mbegins a_mlengths a_mknown a_mbelow a_mlatest a_mearly a_magain a_mstates a_mlikely a_mbytes md_thrown md_wide md_high md_band md_style md_isWritten md_isRead md_planes md_passes md_segments md_writing md_plane md_raw md_faults md_size md_begin md_low md_carried md_span md_room md_place md_limit md_next md_last md_upper mbytes_n mbytes_f) sz) md_thrown md_wide md_high md_band md_style md_isWritten md_isRead md_planes md_passes md_segments md_writing md_plane md_raw md_faults md_size md_begin md_low md_carried md_span md_room md_place md_limit md_next md_last md_upper mbytes_n mbytes_f (F_X11_at p1 md_isWritten md_size mbytes_f)) 0 0 (va_A (wd_md_mbytes cI a_md a_mpart a_mother a_mmagnitude a_mminus a_mreach a_mgain a_msegmentOf a_mbegins a_mlengths a_mknown a_mbelow a_mlatest a_mearly a_magain a_mstates a_mlikely a_mbytes md_thrown md_wide md_high md_band md_style md_isWritten md_isRead md_planes md_passes md_segments md_writing md_plane md_raw md_faults md_size md_begin md_low md_carried md_span md_room md_place md_limit md_next md_last md_upper mbytes_n mbytes_f) sz) := by
  refine Met.ofW (cc := cX11_at) (maxL := 2) (ret := (some .int)) (by decide) rfl ?_
  intro p e s m args below meth c s₁ B hml hv
  obtain ⟨rfl, hsz, hP, hK, hD0⟩ := hv
  have hx := B.exec
  have hb := B.bytes
  have hr := B.returns
  have hts := atoms_spec (ws := wsX11_at) B.pre
  have hown : s.vm.findClass RX11 = some m.cls := findClass_of_methodNamed B.named
  have hlocks := B.notSynchronized
  subst hsz
  have hD := hD0.self (sz := s.heap.size)
  generalize hAe : va_A (wd_md_mbytes cI a_md a_mpart a_mother a_mmagnitude a_mminus a_mreach a_mgain a_msegmentOf a_mbegins a_mlengths a_mknown a_mbelow a_mlatest a_mearly a_magain a_mstates a_mlikely a_mbytes md_thrown md_wide md_high md_band md_style md_isWritten md_isRead md_planes md_passes md_segments md_writing md_plane md_raw md_faults md_size md_begin md_low md_carried md_span md_room md_place md_limit md_next md_last md_upper mbytes_n mbytes_f) s.heap.size = A at hD ⊢
  have hA : ∀ q : Nat, s.heap.size ≤ q → A q := fun q h => by rw [← hAe]; exact Or.inr h
  have hS : va_S A s.heap s.heap [] := va_S.rf
  obtain ⟨H, hH⟩ : ∃ z, z = s.heap := ⟨_, rfl⟩
  have hP : va_P (dC, dI) vwCl (wd_md_mbytes cI a_md a_mpart a_mother a_mmagnitude a_mminus a_mreach a_mgain a_msegmentOf a_mbegins a_mlengths a_mknown a_mbelow a_mlatest a_mearly a_magain a_mstates a_mlikely a_mbytes md_thrown md_wide md_high md_band md_style md_isWritten md_isRead md_planes md_passes md_segments md_writing md_plane md_raw md_faults md_size md_begin md_low md_carried md_span md_room md_place md_limit md_next md_last md_upper mbytes_n mbytes_f) H := by rw [hH]; exact hP
  have hS : va_S A s.heap H [] := by rw [hH]; exact va_S.rf
  obtain ⟨g, hg⟩ : ∃ z, F_X11_at p1 md_isWritten md_size mbytes_f = z := ⟨_, rfl⟩
  rw [hg]
  generalize hQe : MQ below (Q_X11_at dC dI cI cJ cZ a_md a_mpart a_mother a_mmagnitude a_mminus a_mreach a_mgain a_msegmentOf a_mbegins a_mlengths a_mknown a_mbelow a_mlatest a_mearly a_magain a_mstates a_mlikely a_mbytes A md_thrown md_wide md_high md_band md_style md_isWritten md_isRead md_planes md_passes md_segments md_writing md_plane md_raw md_faults md_size md_begin md_low md_carried md_span md_room md_place md_limit md_next md_last md_upper mbytes_n mbytes_f g) _ s 0 0 A = Q
  rw [← hH]
  clear hH
  have hl := lv_entry ([.ref a_md, .int p1]) (n := 2) (Nat.le_of_ble_eq_true rfl)
  rw [lg_entry_eq]
  generalize (lg_sl ([.ref a_md, .int p1]) ++ List.replicate (2 - (lg_sl ([.ref a_md, .int p1])).length) Slot.unset).toArray = ls at hl ⊢
  have hl : lv_has ls 2 [(0, .ref a_md), (1, .int p1)] := hl
  unfold F_X11_at at hg
  unfold P_X11_at at hpre
  refine lv_aload_n hx hb dX11_at_0 rfl (lv_at hl 0 rfl) ?_
  refine lv_aload_n hx hb dX11_at_1 rfl (lv_at hl 0 rfl) ?_
  refine va_get (D := (dC, dI)) (ci := 10) (v := .int md_isWritten) (C := RX11) (T := TX11) (N := 42) hx hb hts iw_X11_at_X11 hown hK hP 0 rfl rfl 9 (by decide) (hts (.fieldLink RX11 249 "PlaneBlocksModel" "isWritten" "Z") (by decide +kernel)) (fun _ h9 => h9) rfl dX11_at_2 ?_
  obtain ⟨j_2, hj_2⟩ : ∃ z, J_X11_at_j_2 md_isWritten = z := ⟨_, rfl⟩
  have hg : (let r_3 := F_X11_out p1 (0 : Int32) (md_size - (1 : Int32)); let r_4 := F_X11_throwing j_2 r_3 (0 : Int32); if r_4.1 = (0 : Int32) then (mbytes_f p1.toNatClampNeg, r_4.2) else ((0 : Int32), r_4.2)) = g := by first | (rw [hj_2] at hg; exact hg) | (subst hj_2; exact hg)
  have hJ_j_2 : ∀ (H : Heap) (locs : List Loc) (ls : Array Slot), va_P (dC, dI) vwCl (wd_md_mbytes cI a_md a_mpart a_mother a_mmagnitude a_mminus a_mreach a_mgain a_msegmentOf a_mbegins a_mlengths a_mknown a_mbelow a_mlatest a_mearly a_magain a_mstates a_mlikely a_mbytes md_thrown md_wide md_high md_band md_style md_isWritten md_isRead md_planes md_passes md_segments md_writing md_plane md_raw md_faults md_size md_begin md_low md_carried md_span md_room md_place md_limit md_next md_last md_upper mbytes_n mbytes_f) H → va_D A (wd_md_mbytes cI a_md a_mpart a_mother a_mmagnitude a_mminus a_mreach a_mgain a_msegmentOf a_mbegins a_mlengths a_mknown a_mbelow a_mlatest a_mearly a_magain a_mstates a_mlikely a_mbytes md_thrown md_wide md_high md_band md_style md_isWritten md_isRead md_planes md_passes md_segments md_writing md_plane md_raw md_faults md_size md_begin md_low md_carried md_span md_room md_place md_limit md_next md_last md_upper mbytes_n mbytes_f) → va_S A s.heap H locs → lv_has ls 2 [(0, .ref a_md), (1, .int p1)] → W p l e (headSpec wsX11_at rm_X11_at).room s m ([.ref a_md, .int p1] : List Value).toArray below meth c H locs 0 0 Q (F0 m 13 ls [.int j_2, .ref a_md]) := by
    intro H locs ls hP hD hS hl
    have hpre := hpre j_2 hj_2
    refine lv_iload_n hx hb dX11_at_13 rfl (lv_at hl 1 rfl) ?_
    refine lv_iconst (v := 0) hx hb dX11_at_14 (by decide) ?_
    refine lv_aload_n hx hb dX11_at_15 rfl (lv_at hl 0 rfl) ?_
    refine va_get (D := (dC, dI)) (ci := 10) (v := .int md_size) (C := RX11) (T := TX11) (N := 42) hx hb hts iw_X11_at_X11 hown hK hP 0 rfl rfl 30 (by decide) (hts (.fieldLink RX11 74 "PlaneBlocksModel" "size" "I") (by decide +kernel)) (fun _ h9 => h9) rfl dX11_at_16 ?_
    refine lv_iconst (v := 1) hx hb dX11_at_19 (by decide) ?_
    refine lv_isub hx hb dX11_at_20 ?_
    have hPc := hP.sub (ws' := (wd_)) [] rfl
    have hDc := hD.sub (ws' := (wd_)) [] (by decide) rfl
    have hFc := va_free (wc := (wd_)) hD hS hA [] rfl
    refine va_calli (va_runS (As := [.int p1, .int (0 : Int32), .int (md_size - (1 : Int32))]) (rest := [.int j_2, .ref a_md]) ⟨hx, hb, hml, hown, hts⟩ (c_X11_out l dC dI cI cJ cZ  H.size p1 (0 : Int32) (md_size - (1 : Int32))) (va_cwS 3 hts gX11_at_X11_out rfl rfl rfl (by decide +kernel) ⟨Nat.le_of_ble_eq_true rfl, Nat.le_of_ble_eq_true rfl⟩) ⟨fun a U g mk q => by obtain ⟨q0, q1, qP, qK, qD⟩ := q; exact ⟨q0, q1, qP, va_K.moved (u := U) (U := U.calling g mk a) (Vm.Alike.refl U.vm) qK, qD⟩, fun U hU hW => ⟨rfl, by rw [hU], by rw [hU]; exact hPc, va_K.moved hW.alike hK, hDc.weaken (fun _ _ _ _ => trivial)⟩⟩ rfl rfl hl.1 rfl (lv_room (Nat.le_of_ble_eq_true rfl)) dX11_at_21 ⟨Nat.le_of_ble_eq_true rfl, Nat.le_of_ble_eq_true rfl⟩) hS (fun q _ h => hFc q h) hFc (fun r u t H1 locs ht hvm hw hB hz1 hk1 hS => ?_)
    obtain ⟨hP1, hK1, hD1⟩ := hB
    rw [ht] at hP1
    obtain ⟨r_3, hr_3⟩ : ∃ z, F_X11_out p1 (0 : Int32) (md_size - (1 : Int32)) = z := ⟨_, rfl⟩
    try rw [hr_3] at hw
    try rw [hr_3] at hP1
    try rw [hr_3] at hD1
    have hg : (let r_4 := F_X11_throwing j_2 r_3 (0 : Int32); if r_4.1 = (0 : Int32) then (mbytes_f p1.toNatClampNeg, r_4.2) else ((0 : Int32), r_4.2)) = g := by first | (rw [hr_3] at hg; exact hg) | (subst hr_3; exact hg)
    have hw := hw.symm
    subst hw
    obtain ⟨hP, hD⟩ := va_join (wr := [(a_md, .inr (10, [.ref a_mpart, .ref a_mother, .int md_thrown, .int md_wide, .int md_high, .int md_band, .int md_style, .ref a_mmagnitude, .ref a_mminus, .int md_isWritten, .int md_isRead, .int md_planes, .int md_passes, .ref a_mreach, .ref a_mgain, .ref a_msegmentOf, .int md_segments, .ref a_mbegins, .ref a_mlengths, .int md_writing, .ref a_mknown, .ref a_mbelow, .ref a_mlatest, .ref a_mearly, .ref a_magain, .int md_plane, .int md_raw, .int md_faults, .ref a_mstates, .ref a_mlikely, .int md_size, .ref a_mbytes, .int md_begin, .int md_low, .int md_carried, .int md_span, .int md_room, .int md_place, .int md_limit, .int md_next, .int md_last, .long md_upper])), (a_mbytes, .inl (cI, mbytes_n, .inl mbytes_f))]) (w1 := (wd_)) hP hD [] [0, 1] rfl rfl (by decide) (by decide) hk1 hFc hP1 hD1
    have hP : va_P (dC, dI) vwCl (wd_md_mbytes cI a_md a_mpart a_mother a_mmagnitude a_mminus a_mreach a_mgain a_msegmentOf a_mbegins a_mlengths a_mknown a_mbelow a_mlatest a_mearly a_magain a_mstates a_mlikely a_mbytes md_thrown md_wide md_high md_band md_style md_isWritten md_isRead md_planes md_passes md_segments md_writing md_plane md_raw md_faults md_size md_begin md_low md_carried md_span md_room md_place md_limit md_next md_last md_upper mbytes_n mbytes_f) H1 := hP.sub [0, 1] rfl
    have hD : va_D A (wd_md_mbytes cI a_md a_mpart a_mother a_mmagnitude a_mminus a_mreach a_mgain a_msegmentOf a_mbegins a_mlengths a_mknown a_mbelow a_mlatest a_mearly a_magain a_mstates a_mlikely a_mbytes md_thrown md_wide md_high md_band md_style md_isWritten md_isRead md_planes md_passes md_segments md_writing md_plane md_raw md_faults md_size md_begin md_low md_carried md_span md_room md_place md_limit md_next md_last md_upper mbytes_n mbytes_f) := hD.sub [0, 1] (by decide) rfl
    generalize H1 = H at hP hS ⊢
    have hpre := hpre r_3 hr_3
    refine lv_iconst (v := 0) hx hb dX11_at_24 (by decide) ?_
    have hPc := hP.sub (ws' := (wd_md a_md a_mpart a_mother a_mmagnitude a_mminus a_mreach a_mgain a_msegmentOf a_mbegins a_mlengths a_mknown a_mbelow a_mlatest a_mearly a_magain a_mstates a_mlikely a_mbytes md_thrown md_wide md_high md_band md_style md_isWritten md_isRead md_planes md_passes md_segments md_writing md_plane md_raw md_faults md_size md_begin md_low md_carried md_span md_room md_place md_limit md_next md_last md_upper)) [0] rfl
    have hDc := hD.sub (ws' := (wd_md a_md a_mpart a_mother a_mmagnitude a_mminus a_mreach a_mgain a_msegmentOf a_mbegins a_mlengths a_mknown a_mbelow a_mlatest a_mearly a_magain a_mstates a_mlikely a_mbytes md_thrown md_wide md_high md_band md_style md_isWritten md_isRead md_planes md_passes md_segments md_writing md_plane md_raw md_faults md_size md_begin md_low md_carried md_span md_room md_place md_limit md_next md_last md_upper)) [0] (by decide) rfl
    have hFc := va_free (wc := (wd_md a_md a_mpart a_mother a_mmagnitude a_mminus a_mreach a_mgain a_msegmentOf a_mbegins a_mlengths a_mknown a_mbelow a_mlatest a_mearly a_magain a_mstates a_mlikely a_mbytes md_thrown md_wide md_high md_band md_style md_isWritten md_isRead md_planes md_passes md_segments md_writing md_plane md_raw md_faults md_size md_begin md_low md_carried md_span md_room md_place md_limit md_next md_last md_upper)) hD hS hA [0] rfl
    refine va_calli (va_runV (As := [.int j_2, .int r_3, .int (0 : Int32)]) (rest := []) ⟨hx, hb, hml, hown, hts⟩ (c_X11_throwing l dC dI cI cJ cZ a_md a_mpart a_mother a_mmagnitude a_mminus a_mreach a_mgain a_msegmentOf a_mbegins a_mlengths a_mknown a_mbelow a_mlatest a_mearly a_magain a_mstates a_mlikely a_mbytes H.size md_thrown md_wide md_high md_band md_style md_isWritten md_isRead md_planes md_passes md_segments md_writing md_plane md_raw md_faults md_size md_begin md_low md_carried md_span md_room md_place md_limit md_next md_last md_upper j_2 r_3 (0 : Int32)) (cwV 3 hts gX11_at_X11_throwing rfl rfl rfl (by decide +kernel) ⟨Nat.le_of_ble_eq_true rfl, Nat.le_of_ble_eq_true rfl⟩) ⟨fun a U g mk q => by obtain ⟨q0, q1, qP, qK, qD⟩ := q; exact ⟨q0, q1, qP, va_K.moved (u := U) (U := U.calling g mk a) (Vm.Alike.refl U.vm) qK, qD⟩, va_recv hK hPc (ci := 10) (q0 := 0) rfl rfl, fun U hU hW => ⟨rfl, by rw [hU], by rw [hU]; exact hPc, va_K.moved hW.alike hK, hDc.weaken (fun _ _ _ _ => trivial)⟩⟩ rfl rfl hl.1 rfl (lv_room (Nat.le_of_ble_eq_true rfl)) dX11_at_25 ⟨Nat.le_of_ble_eq_true rfl, Nat.le_of_ble_eq_true rfl⟩) hS (fun q _ h => hFc q h) hFc (fun r u t H1 locs ht hvm hw hB hz1 hk1 hS => ?_)
    obtain ⟨hP1, hK1, hD1⟩ := hB
    rw [ht] at hP1
    obtain ⟨r_4, hr_4⟩ : ∃ z, F_X11_throwing j_2 r_3 (0 : Int32) = z := ⟨_, rfl⟩
    try rw [hr_4] at hw
    try rw [hr_4] at hP1
    try rw [hr_4] at hD1
    have hg : (if r_4.1 = (0 : Int32) then (mbytes_f p1.toNatClampNeg, r_4.2) else ((0 : Int32), r_4.2)) = g := by first | (rw [hr_4] at hg; exact hg) | (subst hr_4; exact hg)
    subst hw
    obtain ⟨hP, hD⟩ := va_join (wr := [(a_mbytes, .inl (cI, mbytes_n, .inl mbytes_f))]) (w1 := (wd_md a_md a_mpart a_mother a_mmagnitude a_mminus a_mreach a_mgain a_msegmentOf a_mbegins a_mlengths a_mknown a_mbelow a_mlatest a_mearly a_magain a_mstates a_mlikely a_mbytes r_4.2 md_wide md_high md_band md_style md_isWritten md_isRead md_planes md_passes md_segments md_writing md_plane md_raw md_faults md_size md_begin md_low md_carried md_span md_room md_place md_limit md_next md_last md_upper)) hP hD [0] [1] rfl rfl (by decide) (by decide) hk1 hFc hP1 hD1
    have hP : va_P (dC, dI) vwCl (wd_md_mbytes cI a_md a_mpart a_mother a_mmagnitude a_mminus a_mreach a_mgain a_msegmentOf a_mbegins a_mlengths a_mknown a_mbelow a_mlatest a_mearly a_magain a_mstates a_mlikely a_mbytes r_4.2 md_wide md_high md_band md_style md_isWritten md_isRead md_planes md_passes md_segments md_writing md_plane md_raw md_faults md_size md_begin md_low md_carried md_span md_room md_place md_limit md_next md_last md_upper mbytes_n mbytes_f) H1 := hP.sub [1, 0] rfl
    have hD : va_D A (wd_md_mbytes cI a_md a_mpart a_mother a_mmagnitude a_mminus a_mreach a_mgain a_msegmentOf a_mbegins a_mlengths a_mknown a_mbelow a_mlatest a_mearly a_magain a_mstates a_mlikely a_mbytes r_4.2 md_wide md_high md_band md_style md_isWritten md_isRead md_planes md_passes md_segments md_writing md_plane md_raw md_faults md_size md_begin md_low md_carried md_span md_room md_place md_limit md_next md_last md_upper mbytes_n mbytes_f) := hD.sub [1, 0] (by decide) rfl
    generalize H1 = H at hP hS ⊢
    have hpre := hpre r_4 hr_4
    refine lv_if_eq (tgt := 33) hx hb dX11_at_28 (by decide) (fun c_5 => ?_) (fun c_5 => ?_)
    · rw [if_pos c_5] at hg
      have hpre := hpre c_5
      refine lv_aload_n hx hb dX11_at_33 rfl (lv_at hl 0 rfl) ?_
      refine va_get (D := (dC, dI)) (ci := 10) (v := .ref a_mbytes) (C := RX11) (T := TX11) (N := 42) hx hb hts iw_X11_at_X11 hown hK hP 0 rfl rfl 31 (by decide) (hts (.fieldLink RX11 68 "PlaneBlocksModel" "bytes" "[I") (by decide +kernel)) (fun _ h9 => h9) rfl dX11_at_34 ?_
      refine lv_iload_n hx hb dX11_at_37 rfl (lv_at hl 1 rfl) ?_
      have h_6 := hpre
      refine va_iald hx hb hK hP 1 0 rfl rfl h_6 dX11_at_38 ?_
      subst hg
      rw [← hQe]
      exact W.iret (v := (mbytes_f p1.toNatClampNeg)) hx hb hr (fun t ht hW => ⟨⟨(mbytes_f p1.toNatClampNeg), (), rfl, rfl, by rw [ht]; exact hP, va_K.moved hW.alike hK, hD⟩, hS.F ht⟩) hS.2.2 dX11_at_39
    · rw [if_neg c_5] at hg
      refine lv_iconst (v := 0) hx hb dX11_at_31 (by decide) ?_
      subst hg
      rw [← hQe]
      exact W.iret (v := (0 : Int32)) hx hb hr (fun t ht hW => ⟨⟨(0 : Int32), (), rfl, rfl, by rw [ht]; exact hP, va_K.moved hW.alike hK, hD⟩, hS.F ht⟩) hS.2.2 dX11_at_32
  have hg : (if md_isWritten = (0 : Int32) then (1 : Int32) else (0 : Int32)) = j_2 := by rw [← hj_2]; rfl
  clear hj_2
  refine lv_if_ne (tgt := 12) hx hb dX11_at_5 (by decide) (fun c_1 => ?_) (fun c_1 => ?_)
  · rw [if_neg c_1] at hg
    refine lv_iconst (v := 0) hx hb dX11_at_12 (by decide) ?_
    rw [← hg] at hJ_j_2
    exact hJ_j_2 _ _ _ hP hD hS (lv_sub hl [0, 1] rfl)
  · rw [if_pos c_1] at hg
    refine lv_iconst (v := 1) hx hb dX11_at_8 (by decide) ?_
    refine lv_goto (tgt := 13) hx hb dX11_at_9 (by decide) ?_
    rw [← hg] at hJ_j_2
    exact hJ_j_2 _ _ _ hP hD hS (lv_sub hl [0, 1] rfl)
abbrev rm_X11_change : Room := { frames := 1, cells := 0, slots := 0, locals := 23 }
abbrev Q_X11_change (dC : Nat → ClassId) (dI : Nat → Nat → Nat) (cI cJ cZ : ClassId) (a_md : Nat) (a_mpart : Nat) (a_mother : Nat) (a_mmagnitude : Nat) (a_mminus : Nat) (a_mreach : Nat) (a_mgain : Nat) (a_msegmentOf : Nat) (a_mbegins : Nat) (a_mlengths : Nat) (a_mknown : Nat) (a_mbelow : Nat) (a_mlatest : Nat) (a_mearly : Nat) (a_magain : Nat) (a_mstates : Nat) (a_mlikely : Nat) (a_mbytes : Nat) (A : Nat → Prop) (md_thrown : Int32) (md_wide : Int32) (md_high : Int32) (md_band : Int32) (md_style : Int32) (md_isWritten : Int32) (md_isRead : Int32) (md_planes : Int32) (md_passes : Int32) (md_segments : Int32) (md_writing : Int32) (md_plane : Int32) (md_raw : Int32) (md_faults : Int32) (md_size : Int32) (md_begin : Int32) (md_low : Int32) (md_carried : Int32) (md_span : Int32) (md_room : Int32) (md_place : Int32) (md_limit : Int32) (md_next : Int32) (md_last : Int32) (md_upper : Int64) (mbytes_n : Nat) (mbytes_f : Nat → Int32) (g : (Int32 × Int32 × Int32 × (Nat → Int32))) : Array Value → State → Outcome → State → Prop := va_Qi (fun (r : Int32) (_ : Unit) => r = g.1) (fun u t => va_P (dC, dI) vwCl (wd_md_mbytes cI a_md a_mpart a_mother a_mmagnitude a_mminus a_mreach a_mgain a_msegmentOf a_mbegins a_mlengths a_mknown a_mbelow a_mlatest a_mearly a_magain a_mstates a_mlikely a_mbytes g.2.1 md_wide md_high md_band md_style md_isWritten g.2.2.1 md_planes md_passes md_segments md_writing md_plane md_raw md_faults md_size md_begin md_low md_carried md_span md_room md_place md_limit md_next md_last md_upper mbytes_n g.2.2.2) t.heap ∧ va_K (dC, dI) vwCl [(cI, .int), (cJ, .long), (cZ, .boolean)] t ∧ va_D A (wd_md_mbytes cI a_md a_mpart a_mother a_mmagnitude a_mminus a_mreach a_mgain a_msegmentOf a_mbegins a_mlengths a_mknown a_mbelow a_mlatest a_mearly a_magain a_mstates a_mlikely a_mbytes g.2.1 md_wide md_high md_band md_style md_isWritten g.2.2.1 md_planes md_passes md_segments md_writing md_plane md_raw md_faults md_size md_begin md_low md_carried md_span md_room md_place md_limit md_next md_last md_upper mbytes_n g.2.2.2)) A
theorem iw_X11_change_X11 : ∀ w ∈ u_ws RX11 TX11 42, w ∈ wsX11_change := by decide +kernel
set_option maxHeartbeats 4000000 in
set_option maxRecDepth 100000 in
theorem c_X11_change (l : Launch) (dC : Nat → ClassId) (dI : Nat → Nat → Nat) (cI cJ cZ : ClassId) (a_md : Nat) (a_mpart : Nat) (a_mother : Nat) (a_mmagnitude : Nat) (a_mminus : Nat) (a_mreach : Nat) (a_mgain : Nat) (a_msegmentOf : Nat) (a_mbegins : Nat) (a_mlengths : Nat) (a_mknown : Nat) (a_mbelow : Nat) (a_mlatest : Nat) (a_mearly : Nat) (a_magain : Nat) (a_mstates : Nat) (a_mlikely : Nat) (a_mbytes : Nat) (sz : Nat) (md_thrown : Int32) (md_wide : Int32) (md_high : Int32) (md_band : Int32) (md_style : Int32) (md_isWritten : Int32) (md_isRead : Int32) (md_planes : Int32) (md_passes : Int32) (md_segments : Int32) (md_writing : Int32) (md_plane : Int32) (md_raw : Int32) (md_faults : Int32) (md_size : Int32) (md_begin : Int32) (md_low : Int32) (md_carried : Int32) (md_span : Int32) (md_room : Int32) (md_place : Int32) (md_limit : Int32) (md_next : Int32) (md_last : Int32) (md_upper : Int64) (mbytes_n : Nat) (mbytes_f : Nat → Int32) (p1 : Int32) (p2 : Int32) (hpre : P_X11_change p1 md_isWritten md_size mbytes_n) : Met l yX11_change wsX11_change rm_X11_change (va_Pc [.ref a_md, .int p1, .int p2] (fun U => U.heap.size = sz ∧ va_P (dC, dI) vwCl (wd_md_mbytes cI a_md a_mpart a_mother a_mmagnitude a_mminus a_mreach a_mgain a_msegmentOf a_mbegins a_mlengths a_mknown a_mbelow a_mlatest a_mearly a_magain a_mstates a_mlikely a_mbytes md_thrown md_wide md_high md_band md_style md_isWritten md_isRead md_planes md_passes md_segments md_writing md_plane md_raw md_faults md_size md_begin md_low md_carried md_span md_room md_place md_limit md_next md_last md_upper mbytes_n mbytes_f) U.heap ∧ va_K (dC, dI) vwCl [(cI, .int), (cJ, .long), (cZ, .boolean)] U ∧ va_D (fun _ => True) (wd_md_mbytes cI a_md a_mpart a_mother a_mmagnitude a_mminus a_mreach a_mgain a_msegmentOf a_mbegins a_mlengths a_mknown a_mbelow a_mlatest a_mearly a_magain a_mstates a_mlikely a_mbytes md_thrown md_wide md_high md_band md_style md_isWritten md_isRead md_planes md_passes md_segments md_writing md_plane md_raw md_faults md_size md_begin md_low md_carried md_span md_room md_place md_limit md_next md_last md_upper mbytes_n mbytes_f))) (Q_X11_change dC dI cI cJ cZ a_md a_mpart a_mother a_mmagnitude a_mminus a_mreach a_mgain a_msegmentOf a_mbegins a_mlengths a_mknown a_mbelow a_mlatest a_mearly a_magain a_mstates a_mlikely a_mbytes (va_A (wd_md_mbytes cI a_md a_mpart a_mother a_mmagnitude a_mminus a_mreach a_mgain a_msegmentOf a_mbegins a_mlengths a_mknown a_mbelow a_mlatest a_mearly a_magain a_mstates a_mlikely a_mbytes md_thrown md_wide md_high md_band md_style md_isWritten md_isRead md_planes md_passes md_segments md_writing md_plane md_raw md_faults md_size md_begin md_low md_carried md_span md_room md_place md_limit md_next md_last md_upper mbytes_n mbytes_f) sz) md_thrown md_wide md_high md_band md_style md_isWritten md_isRead md_planes md_passes md_segments md_writing md_plane md_raw md_faults md_size md_begin md_low md_carried md_span md_room md_place md_limit md_next md_last md_upper mbytes_n mbytes_f (F_X11_change p1 p2 md_isWritten md_isRead md_size mbytes_f)) 0 0 (va_A (wd_md_mbytes cI a_md a_mpart a_mother a_mmagnitude a_mminus a_mreach a_mgain a_msegmentOf a_mbegins a_mlengths a_mknown a_mbelow a_mlatest a_mearly a_magain a_mstates a_mlikely a_mbytes md_thrown md_wide md_high md_band md_style md_isWritten md_isRead md_planes md_passes md_segments md_writing md_plane md_raw md_faults md_size md_begin md_low md_carried md_span md_room md_place md_limit md_next md_last md_upper mbytes_n mbytes_f) sz) := by
  refine Met.ofW (cc := cX11_change) (maxL := 4) (ret := (some .int)) (by decide) rfl ?_
  intro p e s m args below meth c s₁ B hml hv
  obtain ⟨rfl, hsz, hP, hK, hD0⟩ := hv
  have hx := B.exec
  have hb := B.bytes
  have hr := B.returns
  have hts := atoms_spec (ws := wsX11_change) B.pre
  have hown : s.vm.findClass RX11 = some m.cls := findClass_of_methodNamed B.named
  have hlocks := B.notSynchronized
  subst hsz
  have hD := hD0.self (sz := s.heap.size)
  generalize hAe : va_A (wd_md_mbytes cI a_md a_mpart a_mother a_mmagnitude a_mminus a_mreach a_mgain a_msegmentOf a_mbegins a_mlengths a_mknown a_mbelow a_mlatest a_mearly a_magain a_mstates a_mlikely a_mbytes md_thrown md_wide md_high md_band md_style md_isWritten md_isRead md_planes md_passes md_segments md_writing md_plane md_raw md_faults md_size md_begin md_low md_carried md_span md_room md_place md_limit md_next md_last md_upper mbytes_n mbytes_f) s.heap.size = A at hD ⊢
  have hA : ∀ q : Nat, s.heap.size ≤ q → A q := fun q h => by rw [← hAe]; exact Or.inr h
  have hS : va_S A s.heap s.heap [] := va_S.rf
  obtain ⟨H, hH⟩ : ∃ z, z = s.heap := ⟨_, rfl⟩
  have hP : va_P (dC, dI) vwCl (wd_md_mbytes cI a_md a_mpart a_mother a_mmagnitude a_mminus a_mreach a_mgain a_msegmentOf a_mbegins a_mlengths a_mknown a_mbelow a_mlatest a_mearly a_magain a_mstates a_mlikely a_mbytes md_thrown md_wide md_high md_band md_style md_isWritten md_isRead md_planes md_passes md_segments md_writing md_plane md_raw md_faults md_size md_begin md_low md_carried md_span md_room md_place md_limit md_next md_last md_upper mbytes_n mbytes_f) H := by rw [hH]; exact hP
  have hS : va_S A s.heap H [] := by rw [hH]; exact va_S.rf
  obtain ⟨g, hg⟩ : ∃ z, F_X11_change p1 p2 md_isWritten md_isRead md_size mbytes_f = z := ⟨_, rfl⟩
  rw [hg]
  generalize hQe : MQ below (Q_X11_change dC dI cI cJ cZ a_md a_mpart a_mother a_mmagnitude a_mminus a_mreach a_mgain a_msegmentOf a_mbegins a_mlengths a_mknown a_mbelow a_mlatest a_mearly a_magain a_mstates a_mlikely a_mbytes A md_thrown md_wide md_high md_band md_style md_isWritten md_isRead md_planes md_passes md_segments md_writing md_plane md_raw md_faults md_size md_begin md_low md_carried md_span md_room md_place md_limit md_next md_last md_upper mbytes_n mbytes_f g) _ s 0 0 A = Q
  rw [← hH]
  clear hH
  have hl := lv_entry ([.ref a_md, .int p1, .int p2]) (n := 4) (Nat.le_of_ble_eq_true rfl)
  rw [lg_entry_eq]
  generalize (lg_sl ([.ref a_md, .int p1, .int p2]) ++ List.replicate (4 - (lg_sl ([.ref a_md, .int p1, .int p2])).length) Slot.unset).toArray = ls at hl ⊢
  have hl : lv_has ls 4 [(0, .ref a_md), (1, .int p1), (2, .int p2)] := hl
  unfold F_X11_change at hg
  unfold P_X11_change at hpre
  refine lv_aload_n hx hb dX11_change_0 rfl (lv_at hl 0 rfl) ?_
  refine lv_aload_n hx hb dX11_change_1 rfl (lv_at hl 0 rfl) ?_
  refine va_get (D := (dC, dI)) (ci := 10) (v := .int md_isWritten) (C := RX11) (T := TX11) (N := 42) hx hb hts iw_X11_change_X11 hown hK hP 0 rfl rfl 9 (by decide) (hts (.fieldLink RX11 249 "PlaneBlocksModel" "isWritten" "Z") (by decide +kernel)) (fun _ h9 => h9) rfl dX11_change_2 ?_
  obtain ⟨j_2, hj_2⟩ : ∃ z, J_X11_change_j_2 md_isWritten = z := ⟨_, rfl⟩
  have hg : (let r_3 := F_X11_out p1 (0 : Int32) (md_size - (1 : Int32)); let r_4 := F_X11_throwing j_2 r_3 (0 : Int32); if r_4.1 = (0 : Int32) then (mbytes_f p1.toNatClampNeg, r_4.2, (0 : Int32), upd mbytes_f p1.toNatClampNeg (p2 &&& (255 : Int32))) else ((0 : Int32), r_4.2, md_isRead, mbytes_f)) = g := by first | (rw [hj_2] at hg; exact hg) | (subst hj_2; exact hg)
  have hJ_j_2 : ∀ (H : Heap) (locs : List Loc) (ls : Array Slot), va_P (dC, dI) vwCl (wd_md_mbytes cI a_md a_mpart a_mother a_mmagnitude a_mminus a_mreach a_mgain a_msegmentOf a_mbegins a_mlengths a_mknown a_mbelow a_mlatest a_mearly a_magain a_mstates a_mlikely a_mbytes md_thrown md_wide md_high md_band md_style md_isWritten md_isRead md_planes md_passes md_segments md_writing md_plane md_raw md_faults md_size md_begin md_low md_carried md_span md_room md_place md_limit md_next md_last md_upper mbytes_n mbytes_f) H → va_D A (wd_md_mbytes cI a_md a_mpart a_mother a_mmagnitude a_mminus a_mreach a_mgain a_msegmentOf a_mbegins a_mlengths a_mknown a_mbelow a_mlatest a_mearly a_magain a_mstates a_mlikely a_mbytes md_thrown md_wide md_high md_band md_style md_isWritten md_isRead md_planes md_passes md_segments md_writing md_plane md_raw md_faults md_size md_begin md_low md_carried md_span md_room md_place md_limit md_next md_last md_upper mbytes_n mbytes_f) → va_S A s.heap H locs → lv_has ls 4 [(0, .ref a_md), (1, .int p1), (2, .int p2)] → W p l e (headSpec wsX11_change rm_X11_change).room s m ([.ref a_md, .int p1, .int p2] : List Value).toArray below meth c H locs 0 0 Q (F0 m 13 ls [.int j_2, .ref a_md]) := by
    intro H locs ls hP hD hS hl
    have hpre := hpre j_2 hj_2
    refine lv_iload_n hx hb dX11_change_13 rfl (lv_at hl 1 rfl) ?_
    refine lv_iconst (v := 0) hx hb dX11_change_14 (by decide) ?_
    refine lv_aload_n hx hb dX11_change_15 rfl (lv_at hl 0 rfl) ?_
    refine va_get (D := (dC, dI)) (ci := 10) (v := .int md_size) (C := RX11) (T := TX11) (N := 42) hx hb hts iw_X11_change_X11 hown hK hP 0 rfl rfl 30 (by decide) (hts (.fieldLink RX11 74 "PlaneBlocksModel" "size" "I") (by decide +kernel)) (fun _ h9 => h9) rfl dX11_change_16 ?_
    refine lv_iconst (v := 1) hx hb dX11_change_19 (by decide) ?_
    refine lv_isub hx hb dX11_change_20 ?_
    have hPc := hP.sub (ws' := (wd_)) [] rfl
    have hDc := hD.sub (ws' := (wd_)) [] (by decide) rfl
    have hFc := va_free (wc := (wd_)) hD hS hA [] rfl
    refine va_calli (va_runS (As := [.int p1, .int (0 : Int32), .int (md_size - (1 : Int32))]) (rest := [.int j_2, .ref a_md]) ⟨hx, hb, hml, hown, hts⟩ (c_X11_out l dC dI cI cJ cZ  H.size p1 (0 : Int32) (md_size - (1 : Int32))) (va_cwS 3 hts gX11_change_X11_out rfl rfl rfl (by decide +kernel) ⟨Nat.le_of_ble_eq_true rfl, Nat.le_of_ble_eq_true rfl⟩) ⟨fun a U g mk q => by obtain ⟨q0, q1, qP, qK, qD⟩ := q; exact ⟨q0, q1, qP, va_K.moved (u := U) (U := U.calling g mk a) (Vm.Alike.refl U.vm) qK, qD⟩, fun U hU hW => ⟨rfl, by rw [hU], by rw [hU]; exact hPc, va_K.moved hW.alike hK, hDc.weaken (fun _ _ _ _ => trivial)⟩⟩ rfl rfl hl.1 rfl (lv_room (Nat.le_of_ble_eq_true rfl)) dX11_change_21 ⟨Nat.le_of_ble_eq_true rfl, Nat.le_of_ble_eq_true rfl⟩) hS (fun q _ h => hFc q h) hFc (fun r u t H1 locs ht hvm hw hB hz1 hk1 hS => ?_)
    obtain ⟨hP1, hK1, hD1⟩ := hB
    rw [ht] at hP1
    obtain ⟨r_3, hr_3⟩ : ∃ z, F_X11_out p1 (0 : Int32) (md_size - (1 : Int32)) = z := ⟨_, rfl⟩
    try rw [hr_3] at hw
    try rw [hr_3] at hP1
    try rw [hr_3] at hD1
    have hg : (let r_4 := F_X11_throwing j_2 r_3 (0 : Int32); if r_4.1 = (0 : Int32) then (mbytes_f p1.toNatClampNeg, r_4.2, (0 : Int32), upd mbytes_f p1.toNatClampNeg (p2 &&& (255 : Int32))) else ((0 : Int32), r_4.2, md_isRead, mbytes_f)) = g := by first | (rw [hr_3] at hg; exact hg) | (subst hr_3; exact hg)
    have hw := hw.symm
    subst hw
    obtain ⟨hP, hD⟩ := va_join (wr := [(a_md, .inr (10, [.ref a_mpart, .ref a_mother, .int md_thrown, .int md_wide, .int md_high, .int md_band, .int md_style, .ref a_mmagnitude, .ref a_mminus, .int md_isWritten, .int md_isRead, .int md_planes, .int md_passes, .ref a_mreach, .ref a_mgain, .ref a_msegmentOf, .int md_segments, .ref a_mbegins, .ref a_mlengths, .int md_writing, .ref a_mknown, .ref a_mbelow, .ref a_mlatest, .ref a_mearly, .ref a_magain, .int md_plane, .int md_raw, .int md_faults, .ref a_mstates, .ref a_mlikely, .int md_size, .ref a_mbytes, .int md_begin, .int md_low, .int md_carried, .int md_span, .int md_room, .int md_place, .int md_limit, .int md_next, .int md_last, .long md_upper])), (a_mbytes, .inl (cI, mbytes_n, .inl mbytes_f))]) (w1 := (wd_)) hP hD [] [0, 1] rfl rfl (by decide) (by decide) hk1 hFc hP1 hD1
    have hP : va_P (dC, dI) vwCl (wd_md_mbytes cI a_md a_mpart a_mother a_mmagnitude a_mminus a_mreach a_mgain a_msegmentOf a_mbegins a_mlengths a_mknown a_mbelow a_mlatest a_mearly a_magain a_mstates a_mlikely a_mbytes md_thrown md_wide md_high md_band md_style md_isWritten md_isRead md_planes md_passes md_segments md_writing md_plane md_raw md_faults md_size md_begin md_low md_carried md_span md_room md_place md_limit md_next md_last md_upper mbytes_n mbytes_f) H1 := hP.sub [0, 1] rfl
    have hD : va_D A (wd_md_mbytes cI a_md a_mpart a_mother a_mmagnitude a_mminus a_mreach a_mgain a_msegmentOf a_mbegins a_mlengths a_mknown a_mbelow a_mlatest a_mearly a_magain a_mstates a_mlikely a_mbytes md_thrown md_wide md_high md_band md_style md_isWritten md_isRead md_planes md_passes md_segments md_writing md_plane md_raw md_faults md_size md_begin md_low md_carried md_span md_room md_place md_limit md_next md_last md_upper mbytes_n mbytes_f) := hD.sub [0, 1] (by decide) rfl
    generalize H1 = H at hP hS ⊢
    have hpre := hpre r_3 hr_3
    refine lv_iconst (v := 0) hx hb dX11_change_24 (by decide) ?_
    have hPc := hP.sub (ws' := (wd_md a_md a_mpart a_mother a_mmagnitude a_mminus a_mreach a_mgain a_msegmentOf a_mbegins a_mlengths a_mknown a_mbelow a_mlatest a_mearly a_magain a_mstates a_mlikely a_mbytes md_thrown md_wide md_high md_band md_style md_isWritten md_isRead md_planes md_passes md_segments md_writing md_plane md_raw md_faults md_size md_begin md_low md_carried md_span md_room md_place md_limit md_next md_last md_upper)) [0] rfl
    have hDc := hD.sub (ws' := (wd_md a_md a_mpart a_mother a_mmagnitude a_mminus a_mreach a_mgain a_msegmentOf a_mbegins a_mlengths a_mknown a_mbelow a_mlatest a_mearly a_magain a_mstates a_mlikely a_mbytes md_thrown md_wide md_high md_band md_style md_isWritten md_isRead md_planes md_passes md_segments md_writing md_plane md_raw md_faults md_size md_begin md_low md_carried md_span md_room md_place md_limit md_next md_last md_upper)) [0] (by decide) rfl
    have hFc := va_free (wc := (wd_md a_md a_mpart a_mother a_mmagnitude a_mminus a_mreach a_mgain a_msegmentOf a_mbegins a_mlengths a_mknown a_mbelow a_mlatest a_mearly a_magain a_mstates a_mlikely a_mbytes md_thrown md_wide md_high md_band md_style md_isWritten md_isRead md_planes md_passes md_segments md_writing md_plane md_raw md_faults md_size md_begin md_low md_carried md_span md_room md_place md_limit md_next md_last md_upper)) hD hS hA [0] rfl
    refine va_calli (va_runV (As := [.int j_2, .int r_3, .int (0 : Int32)]) (rest := []) ⟨hx, hb, hml, hown, hts⟩ (c_X11_throwing l dC dI cI cJ cZ a_md a_mpart a_mother a_mmagnitude a_mminus a_mreach a_mgain a_msegmentOf a_mbegins a_mlengths a_mknown a_mbelow a_mlatest a_mearly a_magain a_mstates a_mlikely a_mbytes H.size md_thrown md_wide md_high md_band md_style md_isWritten md_isRead md_planes md_passes md_segments md_writing md_plane md_raw md_faults md_size md_begin md_low md_carried md_span md_room md_place md_limit md_next md_last md_upper j_2 r_3 (0 : Int32)) (cwV 3 hts gX11_change_X11_throwing rfl rfl rfl (by decide +kernel) ⟨Nat.le_of_ble_eq_true rfl, Nat.le_of_ble_eq_true rfl⟩) ⟨fun a U g mk q => by obtain ⟨q0, q1, qP, qK, qD⟩ := q; exact ⟨q0, q1, qP, va_K.moved (u := U) (U := U.calling g mk a) (Vm.Alike.refl U.vm) qK, qD⟩, va_recv hK hPc (ci := 10) (q0 := 0) rfl rfl, fun U hU hW => ⟨rfl, by rw [hU], by rw [hU]; exact hPc, va_K.moved hW.alike hK, hDc.weaken (fun _ _ _ _ => trivial)⟩⟩ rfl rfl hl.1 rfl (lv_room (Nat.le_of_ble_eq_true rfl)) dX11_change_25 ⟨Nat.le_of_ble_eq_true rfl, Nat.le_of_ble_eq_true rfl⟩) hS (fun q _ h => hFc q h) hFc (fun r u t H1 locs ht hvm hw hB hz1 hk1 hS => ?_)
    obtain ⟨hP1, hK1, hD1⟩ := hB
    rw [ht] at hP1
    obtain ⟨r_4, hr_4⟩ : ∃ z, F_X11_throwing j_2 r_3 (0 : Int32) = z := ⟨_, rfl⟩
    try rw [hr_4] at hw
    try rw [hr_4] at hP1
    try rw [hr_4] at hD1
    have hg : (if r_4.1 = (0 : Int32) then (mbytes_f p1.toNatClampNeg, r_4.2, (0 : Int32), upd mbytes_f p1.toNatClampNeg (p2 &&& (255 : Int32))) else ((0 : Int32), r_4.2, md_isRead, mbytes_f)) = g := by first | (rw [hr_4] at hg; exact hg) | (subst hr_4; exact hg)
    subst hw
    obtain ⟨hP, hD⟩ := va_join (wr := [(a_mbytes, .inl (cI, mbytes_n, .inl mbytes_f))]) (w1 := (wd_md a_md a_mpart a_mother a_mmagnitude a_mminus a_mreach a_mgain a_msegmentOf a_mbegins a_mlengths a_mknown a_mbelow a_mlatest a_mearly a_magain a_mstates a_mlikely a_mbytes r_4.2 md_wide md_high md_band md_style md_isWritten md_isRead md_planes md_passes md_segments md_writing md_plane md_raw md_faults md_size md_begin md_low md_carried md_span md_room md_place md_limit md_next md_last md_upper)) hP hD [0] [1] rfl rfl (by decide) (by decide) hk1 hFc hP1 hD1
    have hP : va_P (dC, dI) vwCl (wd_md_mbytes cI a_md a_mpart a_mother a_mmagnitude a_mminus a_mreach a_mgain a_msegmentOf a_mbegins a_mlengths a_mknown a_mbelow a_mlatest a_mearly a_magain a_mstates a_mlikely a_mbytes r_4.2 md_wide md_high md_band md_style md_isWritten md_isRead md_planes md_passes md_segments md_writing md_plane md_raw md_faults md_size md_begin md_low md_carried md_span md_room md_place md_limit md_next md_last md_upper mbytes_n mbytes_f) H1 := hP.sub [1, 0] rfl
    have hD : va_D A (wd_md_mbytes cI a_md a_mpart a_mother a_mmagnitude a_mminus a_mreach a_mgain a_msegmentOf a_mbegins a_mlengths a_mknown a_mbelow a_mlatest a_mearly a_magain a_mstates a_mlikely a_mbytes r_4.2 md_wide md_high md_band md_style md_isWritten md_isRead md_planes md_passes md_segments md_writing md_plane md_raw md_faults md_size md_begin md_low md_carried md_span md_room md_place md_limit md_next md_last md_upper mbytes_n mbytes_f) := hD.sub [1, 0] (by decide) rfl
    generalize H1 = H at hP hS ⊢
    have hpre := hpre r_4 hr_4
    refine lv_if_eq (tgt := 33) hx hb dX11_change_28 (by decide) (fun c_5 => ?_) (fun c_5 => ?_)
    · rw [if_pos c_5] at hg
      have hpre := hpre c_5
      refine lv_aload_n hx hb dX11_change_33 rfl (lv_at hl 0 rfl) ?_
      refine va_get (D := (dC, dI)) (ci := 10) (v := .ref a_mbytes) (C := RX11) (T := TX11) (N := 42) hx hb hts iw_X11_change_X11 hown hK hP 0 rfl rfl 31 (by decide) (hts (.fieldLink RX11 68 "PlaneBlocksModel" "bytes" "[I") (by decide +kernel)) (fun _ h9 => h9) rfl dX11_change_34 ?_
      refine lv_iload_n hx hb dX11_change_37 rfl (lv_at hl 1 rfl) ?_
      have h_6 := hpre
      refine va_iald hx hb hK hP 1 0 rfl rfl h_6 dX11_change_38 ?_
      refine lv_istore_n (lv' := [(3, .int (mbytes_f p1.toNatClampNeg)), (0, .ref a_md), (1, .int p1), (2, .int p2)]) hx hb dX11_change_39 rfl hl (by decide) rfl (fun ls hl => ?_)
      refine lv_aload_n hx hb dX11_change_40 rfl (lv_at hl 1 rfl) ?_
      refine va_get (D := (dC, dI)) (ci := 10) (v := .ref a_mbytes) (C := RX11) (T := TX11) (N := 42) hx hb hts iw_X11_change_X11 hown hK hP 0 rfl rfl 31 (by decide) (hts (.fieldLink RX11 68 "PlaneBlocksModel" "bytes" "[I") (by decide +kernel)) (fun _ h9 => h9) rfl dX11_change_41 ?_
      refine lv_iload_n hx hb dX11_change_44 rfl (lv_at hl 2 rfl) ?_
      refine lv_iload_n hx hb dX11_change_45 rfl (lv_at hl 3 rfl) ?_
      refine lv_sipush (v := 255) hx hb dX11_change_46 (by decide) ?_
      refine lv_iand hx hb dX11_change_49 ?_
      refine va_iast hx hb hK hP hD hS 1 0 rfl rfl h_6 dX11_change_50 (fun H locs hP hD hS => ?_)
      have hP : va_P (dC, dI) vwCl (wd_md_mbytes cI a_md a_mpart a_mother a_mmagnitude a_mminus a_mreach a_mgain a_msegmentOf a_mbegins a_mlengths a_mknown a_mbelow a_mlatest a_mearly a_magain a_mstates a_mlikely a_mbytes r_4.2 md_wide md_high md_band md_style md_isWritten md_isRead md_planes md_passes md_segments md_writing md_plane md_raw md_faults md_size md_begin md_low md_carried md_span md_room md_place md_limit md_next md_last md_upper mbytes_n (upd mbytes_f p1.toNatClampNeg (p2 &&& (255 : Int32)))) H := hP
      have hD : va_D A (wd_md_mbytes cI a_md a_mpart a_mother a_mmagnitude a_mminus a_mreach a_mgain a_msegmentOf a_mbegins a_mlengths a_mknown a_mbelow a_mlatest a_mearly a_magain a_mstates a_mlikely a_mbytes r_4.2 md_wide md_high md_band md_style md_isWritten md_isRead md_planes md_passes md_segments md_writing md_plane md_raw md_faults md_size md_begin md_low md_carried md_span md_room md_place md_limit md_next md_last md_upper mbytes_n (upd mbytes_f p1.toNatClampNeg (p2 &&& (255 : Int32)))) := hD
      refine lv_aload_n hx hb dX11_change_51 rfl (lv_at hl 1 rfl) ?_
      refine lv_iconst (v := 0) hx hb dX11_change_52 (by decide) ?_
      refine va_put (D := (dC, dI)) (ci := 10) (v := .int (0 : Int32)) (ty := .boolean) (C := RX11) (T := TX11) (N := 42) hx hb hts iw_X11_change_X11 tyX11 tyX11_ok nmX11 hown hK hP hD hS 0 rfl rfl 10 (by decide) (hts (.fieldLink RX11 246 "PlaneBlocksModel" "isRead" "Z") (by decide +kernel)) (fun _ h9 => h9) rfl (by decide +kernel) rfl rfl (Nat.le_of_ble_eq_true rfl) dX11_change_53 (fun H locs hP hD hS => ?_)
      have hP : va_P (dC, dI) vwCl (wd_md_mbytes cI a_md a_mpart a_mother a_mmagnitude a_mminus a_mreach a_mgain a_msegmentOf a_mbegins a_mlengths a_mknown a_mbelow a_mlatest a_mearly a_magain a_mstates a_mlikely a_mbytes r_4.2 md_wide md_high md_band md_style md_isWritten (0 : Int32) md_planes md_passes md_segments md_writing md_plane md_raw md_faults md_size md_begin md_low md_carried md_span md_room md_place md_limit md_next md_last md_upper mbytes_n (upd mbytes_f p1.toNatClampNeg (p2 &&& (255 : Int32)))) H := hP
      have hD : va_D A (wd_md_mbytes cI a_md a_mpart a_mother a_mmagnitude a_mminus a_mreach a_mgain a_msegmentOf a_mbegins a_mlengths a_mknown a_mbelow a_mlatest a_mearly a_magain a_mstates a_mlikely a_mbytes r_4.2 md_wide md_high md_band md_style md_isWritten (0 : Int32) md_planes md_passes md_segments md_writing md_plane md_raw md_faults md_size md_begin md_low md_carried md_span md_room md_place md_limit md_next md_last md_upper mbytes_n (upd mbytes_f p1.toNatClampNeg (p2 &&& (255 : Int32)))) := hD
      refine lv_iload_n hx hb dX11_change_56 rfl (lv_at hl 0 rfl) ?_
      subst hg
      rw [← hQe]
      exact W.iret (v := (mbytes_f p1.toNatClampNeg)) hx hb hr (fun t ht hW => ⟨⟨(mbytes_f p1.toNatClampNeg), (), rfl, rfl, by rw [ht]; exact hP, va_K.moved hW.alike hK, hD⟩, hS.F ht⟩) hS.2.2 dX11_change_57
    · rw [if_neg c_5] at hg
      refine lv_iconst (v := 0) hx hb dX11_change_31 (by decide) ?_
      subst hg
      rw [← hQe]
      exact W.iret (v := (0 : Int32)) hx hb hr (fun t ht hW => ⟨⟨(0 : Int32), (), rfl, rfl, by rw [ht]; exact hP, va_K.moved hW.alike hK, hD⟩, hS.F ht⟩) hS.2.2 dX11_change_32
  have hg : (if md_isWritten = (0 : Int32) then (1 : Int32) else (0 : Int32)) = j_2 := by rw [← hj_2]; rfl
  clear hj_2
  refine lv_if_ne (tgt := 12) hx hb dX11_change_5 (by decide) (fun c_1 => ?_) (fun c_1 => ?_)
  · rw [if_neg c_1] at hg
    refine lv_iconst (v := 0) hx hb dX11_change_12 (by decide) ?_
    rw [← hg] at hJ_j_2
    exact hJ_j_2 _ _ _ hP hD hS (lv_sub hl [0, 1, 2] rfl)
  · rw [if_pos c_1] at hg
    refine lv_iconst (v := 1) hx hb dX11_change_8 (by decide) ?_
    refine lv_goto (tgt := 13) hx hb dX11_change_9 (by decide) ?_
    rw [← hg] at hJ_j_2
    exact hJ_j_2 _ _ _ hP hD hS (lv_sub hl [0, 1, 2] rfl)
abbrev rm_X11_value : Room := { frames := 2, cells := 0, slots := 0, locals := 44 }
abbrev Q_X11_value (dC : Nat → ClassId) (dI : Nat → Nat → Nat) (cI cJ cZ : ClassId) (a_md : Nat) (a_mpart : Nat) (a_mother : Nat) (a_mmagnitude : Nat) (a_mminus : Nat) (a_mreach : Nat) (a_mgain : Nat) (a_msegmentOf : Nat) (a_mbegins : Nat) (a_mlengths : Nat) (a_mknown : Nat) (a_mbelow : Nat) (a_mlatest : Nat) (a_mearly : Nat) (a_magain : Nat) (a_mstates : Nat) (a_mlikely : Nat) (a_mbytes : Nat) (A : Nat → Prop) (md_thrown : Int32) (md_wide : Int32) (md_high : Int32) (md_band : Int32) (md_style : Int32) (md_isWritten : Int32) (md_isRead : Int32) (md_planes : Int32) (md_passes : Int32) (md_segments : Int32) (md_writing : Int32) (md_plane : Int32) (md_raw : Int32) (md_faults : Int32) (md_size : Int32) (md_begin : Int32) (md_low : Int32) (md_carried : Int32) (md_span : Int32) (md_room : Int32) (md_place : Int32) (md_limit : Int32) (md_next : Int32) (md_last : Int32) (md_upper : Int64) (mknown_n : Nat) (mknown_f : Nat → Int32) (mbelow_n : Nat) (mbelow_f : Nat → Int32) (mlatest_n : Nat) (mlatest_f : Nat → Int32) (g : (Int32 × Int32)) : Array Value → State → Outcome → State → Prop := va_Qi (fun (r : Int32) (_ : Unit) => r = g.1) (fun u t => va_P (dC, dI) vwCl (wd_md_mknown_mbelow_mlatest cI cZ a_md a_mpart a_mother a_mmagnitude a_mminus a_mreach a_mgain a_msegmentOf a_mbegins a_mlengths a_mknown a_mbelow a_mlatest a_mearly a_magain a_mstates a_mlikely a_mbytes g.2 md_wide md_high md_band md_style md_isWritten md_isRead md_planes md_passes md_segments md_writing md_plane md_raw md_faults md_size md_begin md_low md_carried md_span md_room md_place md_limit md_next md_last md_upper mknown_n mknown_f mbelow_n mbelow_f mlatest_n mlatest_f) t.heap ∧ va_K (dC, dI) vwCl [(cI, .int), (cJ, .long), (cZ, .boolean)] t ∧ va_D A (wd_md_mknown_mbelow_mlatest cI cZ a_md a_mpart a_mother a_mmagnitude a_mminus a_mreach a_mgain a_msegmentOf a_mbegins a_mlengths a_mknown a_mbelow a_mlatest a_mearly a_magain a_mstates a_mlikely a_mbytes g.2 md_wide md_high md_band md_style md_isWritten md_isRead md_planes md_passes md_segments md_writing md_plane md_raw md_faults md_size md_begin md_low md_carried md_span md_room md_place md_limit md_next md_last md_upper mknown_n mknown_f mbelow_n mbelow_f mlatest_n mlatest_f)) A
theorem iw_X11_value_X11 : ∀ w ∈ u_ws RX11 TX11 42, w ∈ wsX11_value := by decide +kernel
set_option maxHeartbeats 4000000 in
set_option maxRecDepth 100000 in
theorem c_X11_value (l : Launch) (dC : Nat → ClassId) (dI : Nat → Nat → Nat) (cI cJ cZ : ClassId) (a_md : Nat) (a_mpart : Nat) (a_mother : Nat) (a_mmagnitude : Nat) (a_mminus : Nat) (a_mreach : Nat) (a_mgain : Nat) (a_msegmentOf : Nat) (a_mbegins : Nat) (a_mlengths : Nat) (a_mknown : Nat) (a_mbelow : Nat) (a_mlatest : Nat) (a_mearly : Nat) (a_magain : Nat) (a_mstates : Nat) (a_mlikely : Nat) (a_mbytes : Nat) (sz : Nat) (md_thrown : Int32) (md_wide : Int32) (md_high : Int32) (md_band : Int32) (md_style : Int32) (md_isWritten : Int32) (md_isRead : Int32) (md_planes : Int32) (md_passes : Int32) (md_segments : Int32) (md_writing : Int32) (md_plane : Int32) (md_raw : Int32) (md_faults : Int32) (md_size : Int32) (md_begin : Int32) (md_low : Int32) (md_carried : Int32) (md_span : Int32) (md_room : Int32) (md_place : Int32) (md_limit : Int32) (md_next : Int32) (md_last : Int32) (md_upper : Int64) (mknown_n : Nat) (mknown_f : Nat → Int32) (mbelow_n : Nat) (mbelow_f : Nat → Int32) (mlatest_n : Nat) (mlatest_f : Nat → Int32) (p1 : Int32) (p2 : Int32) (hpre : P_X11_value p1 p2 md_wide md_high md_isRead mknown_n mknown_f mbelow_n mbelow_f mlatest_n) : Met l yX11_value wsX11_value rm_X11_value (va_Pc [.ref a_md, .int p1, .int p2] (fun U => U.heap.size = sz ∧ va_P (dC, dI) vwCl (wd_md_mknown_mbelow_mlatest cI cZ a_md a_mpart a_mother a_mmagnitude a_mminus a_mreach a_mgain a_msegmentOf a_mbegins a_mlengths a_mknown a_mbelow a_mlatest a_mearly a_magain a_mstates a_mlikely a_mbytes md_thrown md_wide md_high md_band md_style md_isWritten md_isRead md_planes md_passes md_segments md_writing md_plane md_raw md_faults md_size md_begin md_low md_carried md_span md_room md_place md_limit md_next md_last md_upper mknown_n mknown_f mbelow_n mbelow_f mlatest_n mlatest_f) U.heap ∧ va_K (dC, dI) vwCl [(cI, .int), (cJ, .long), (cZ, .boolean)] U ∧ va_D (fun _ => True) (wd_md_mknown_mbelow_mlatest cI cZ a_md a_mpart a_mother a_mmagnitude a_mminus a_mreach a_mgain a_msegmentOf a_mbegins a_mlengths a_mknown a_mbelow a_mlatest a_mearly a_magain a_mstates a_mlikely a_mbytes md_thrown md_wide md_high md_band md_style md_isWritten md_isRead md_planes md_passes md_segments md_writing md_plane md_raw md_faults md_size md_begin md_low md_carried md_span md_room md_place md_limit md_next md_last md_upper mknown_n mknown_f mbelow_n mbelow_f mlatest_n mlatest_f))) (Q_X11_value dC dI cI cJ cZ a_md a_mpart a_mother a_mmagnitude a_mminus a_mreach a_mgain a_msegmentOf a_mbegins a_mlengths a_mknown a_mbelow a_mlatest a_mearly a_magain a_mstates a_mlikely a_mbytes (va_A (wd_md_mknown_mbelow_mlatest cI cZ a_md a_mpart a_mother a_mmagnitude a_mminus a_mreach a_mgain a_msegmentOf a_mbegins a_mlengths a_mknown a_mbelow a_mlatest a_mearly a_magain a_mstates a_mlikely a_mbytes md_thrown md_wide md_high md_band md_style md_isWritten md_isRead md_planes md_passes md_segments md_writing md_plane md_raw md_faults md_size md_begin md_low md_carried md_span md_room md_place md_limit md_next md_last md_upper mknown_n mknown_f mbelow_n mbelow_f mlatest_n mlatest_f) sz) md_thrown md_wide md_high md_band md_style md_isWritten md_isRead md_planes md_passes md_segments md_writing md_plane md_raw md_faults md_size md_begin md_low md_carried md_span md_room md_place md_limit md_next md_last md_upper mknown_n mknown_f mbelow_n mbelow_f mlatest_n mlatest_f (F_X11_value p1 p2 md_wide md_high md_isRead mknown_f mbelow_f mlatest_f)) 0 0 (va_A (wd_md_mknown_mbelow_mlatest cI cZ a_md a_mpart a_mother a_mmagnitude a_mminus a_mreach a_mgain a_msegmentOf a_mbegins a_mlengths a_mknown a_mbelow a_mlatest a_mearly a_magain a_mstates a_mlikely a_mbytes md_thrown md_wide md_high md_band md_style md_isWritten md_isRead md_planes md_passes md_segments md_writing md_plane md_raw md_faults md_size md_begin md_low md_carried md_span md_room md_place md_limit md_next md_last md_upper mknown_n mknown_f mbelow_n mbelow_f mlatest_n mlatest_f) sz) := by
  refine Met.ofW (cc := cX11_value) (maxL := 3) (ret := (some .int)) (by decide) rfl ?_
  intro p e s m args below meth c s₁ B hml hv
  obtain ⟨rfl, hsz, hP, hK, hD0⟩ := hv
  have hx := B.exec
  have hb := B.bytes
  have hr := B.returns
  have hts := atoms_spec (ws := wsX11_value) B.pre
  have hown : s.vm.findClass RX11 = some m.cls := findClass_of_methodNamed B.named
  have hlocks := B.notSynchronized
  subst hsz
  have hD := hD0.self (sz := s.heap.size)
  generalize hAe : va_A (wd_md_mknown_mbelow_mlatest cI cZ a_md a_mpart a_mother a_mmagnitude a_mminus a_mreach a_mgain a_msegmentOf a_mbegins a_mlengths a_mknown a_mbelow a_mlatest a_mearly a_magain a_mstates a_mlikely a_mbytes md_thrown md_wide md_high md_band md_style md_isWritten md_isRead md_planes md_passes md_segments md_writing md_plane md_raw md_faults md_size md_begin md_low md_carried md_span md_room md_place md_limit md_next md_last md_upper mknown_n mknown_f mbelow_n mbelow_f mlatest_n mlatest_f) s.heap.size = A at hD ⊢
  have hA : ∀ q : Nat, s.heap.size ≤ q → A q := fun q h => by rw [← hAe]; exact Or.inr h
  have hS : va_S A s.heap s.heap [] := va_S.rf
  obtain ⟨H, hH⟩ : ∃ z, z = s.heap := ⟨_, rfl⟩
  have hP : va_P (dC, dI) vwCl (wd_md_mknown_mbelow_mlatest cI cZ a_md a_mpart a_mother a_mmagnitude a_mminus a_mreach a_mgain a_msegmentOf a_mbegins a_mlengths a_mknown a_mbelow a_mlatest a_mearly a_magain a_mstates a_mlikely a_mbytes md_thrown md_wide md_high md_band md_style md_isWritten md_isRead md_planes md_passes md_segments md_writing md_plane md_raw md_faults md_size md_begin md_low md_carried md_span md_room md_place md_limit md_next md_last md_upper mknown_n mknown_f mbelow_n mbelow_f mlatest_n mlatest_f) H := by rw [hH]; exact hP
  have hS : va_S A s.heap H [] := by rw [hH]; exact va_S.rf
  obtain ⟨g, hg⟩ : ∃ z, F_X11_value p1 p2 md_wide md_high md_isRead mknown_f mbelow_f mlatest_f = z := ⟨_, rfl⟩
  rw [hg]
  generalize hQe : MQ below (Q_X11_value dC dI cI cJ cZ a_md a_mpart a_mother a_mmagnitude a_mminus a_mreach a_mgain a_msegmentOf a_mbegins a_mlengths a_mknown a_mbelow a_mlatest a_mearly a_magain a_mstates a_mlikely a_mbytes A md_thrown md_wide md_high md_band md_style md_isWritten md_isRead md_planes md_passes md_segments md_writing md_plane md_raw md_faults md_size md_begin md_low md_carried md_span md_room md_place md_limit md_next md_last md_upper mknown_n mknown_f mbelow_n mbelow_f mlatest_n mlatest_f g) _ s 0 0 A = Q
  rw [← hH]
  clear hH
  have hl := lv_entry ([.ref a_md, .int p1, .int p2]) (n := 3) (Nat.le_of_ble_eq_true rfl)
  rw [lg_entry_eq]
  generalize (lg_sl ([.ref a_md, .int p1, .int p2]) ++ List.replicate (3 - (lg_sl ([.ref a_md, .int p1, .int p2])).length) Slot.unset).toArray = ls at hl ⊢
  have hl : lv_has ls 3 [(0, .ref a_md), (1, .int p1), (2, .int p2)] := hl
  unfold F_X11_value at hg
  unfold P_X11_value at hpre
  refine lv_aload_n hx hb dX11_value_0 rfl (lv_at hl 0 rfl) ?_
  refine lv_aload_n hx hb dX11_value_1 rfl (lv_at hl 0 rfl) ?_
  refine lv_iload_n hx hb dX11_value_2 rfl (lv_at hl 1 rfl) ?_
  refine lv_iload_n hx hb dX11_value_3 rfl (lv_at hl 2 rfl) ?_
  have hPc := hP.sub (ws' := (wd_md a_md a_mpart a_mother a_mmagnitude a_mminus a_mreach a_mgain a_msegmentOf a_mbegins a_mlengths a_mknown a_mbelow a_mlatest a_mearly a_magain a_mstates a_mlikely a_mbytes md_thrown md_wide md_high md_band md_style md_isWritten md_isRead md_planes md_passes md_segments md_writing md_plane md_raw md_faults md_size md_begin md_low md_carried md_span md_room md_place md_limit md_next md_last md_upper)) [0] rfl
  have hDc := hD.sub (ws' := (wd_md a_md a_mpart a_mother a_mmagnitude a_mminus a_mreach a_mgain a_msegmentOf a_mbegins a_mlengths a_mknown a_mbelow a_mlatest a_mearly a_magain a_mstates a_mlikely a_mbytes md_thrown md_wide md_high md_band md_style md_isWritten md_isRead md_planes md_passes md_segments md_writing md_plane md_raw md_faults md_size md_begin md_low md_carried md_span md_room md_place md_limit md_next md_last md_upper)) [0] (by decide) rfl
  have hFc := va_free (wc := (wd_md a_md a_mpart a_mother a_mmagnitude a_mminus a_mreach a_mgain a_msegmentOf a_mbegins a_mlengths a_mknown a_mbelow a_mlatest a_mearly a_magain a_mstates a_mlikely a_mbytes md_thrown md_wide md_high md_band md_style md_isWritten md_isRead md_planes md_passes md_segments md_writing md_plane md_raw md_faults md_size md_begin md_low md_carried md_span md_room md_place md_limit md_next md_last md_upper)) hD hS hA [0] rfl
  refine va_calli (va_runV (As := [.int p1, .int p2]) (rest := [.ref a_md]) ⟨hx, hb, hml, hown, hts⟩ (c_X11_isThere l dC dI cI cJ cZ a_md a_mpart a_mother a_mmagnitude a_mminus a_mreach a_mgain a_msegmentOf a_mbegins a_mlengths a_mknown a_mbelow a_mlatest a_mearly a_magain a_mstates a_mlikely a_mbytes H.size md_thrown md_wide md_high md_band md_style md_isWritten md_isRead md_planes md_passes md_segments md_writing md_plane md_raw md_faults md_size md_begin md_low md_carried md_span md_room md_place md_limit md_next md_last md_upper p1 p2) (cwV 2 hts gX11_value_X11_isThere rfl rfl rfl (by decide +kernel) ⟨Nat.le_of_ble_eq_true rfl, Nat.le_of_ble_eq_true rfl⟩) ⟨fun a U g mk q => by obtain ⟨q0, q1, qP, qK, qD⟩ := q; exact ⟨q0, q1, qP, va_K.moved (u := U) (U := U.calling g mk a) (Vm.Alike.refl U.vm) qK, qD⟩, va_recv hK hPc (ci := 10) (q0 := 0) rfl rfl, fun U hU hW => ⟨rfl, by rw [hU], by rw [hU]; exact hPc, va_K.moved hW.alike hK, hDc.weaken (fun _ _ _ _ => trivial)⟩⟩ rfl rfl hl.1 rfl (lv_room (Nat.le_of_ble_eq_true rfl)) dX11_value_4 ⟨Nat.le_of_ble_eq_true rfl, Nat.le_of_ble_eq_true rfl⟩) hS (fun q _ h => hFc q h) hFc (fun r u t H1 locs ht hvm hw hB hz1 hk1 hS => ?_)
  obtain ⟨hP1, hK1, hD1⟩ := hB
  rw [ht] at hP1
  obtain ⟨r_1, hr_1⟩ : ∃ z, F_X11_isThere p1 p2 md_wide md_high = z := ⟨_, rfl⟩
  try rw [hr_1] at hw
  try rw [hr_1] at hP1
  try rw [hr_1] at hD1
  have hg : (let j_3 := J_X11_value_j_3 r_1; let j_5 := J_X11_value_j_5 md_isRead; let r_6 := F_X11_throwing j_3 j_5 (0 : Int32); if r_6.1 = (0 : Int32) then (let r_8 := F_X11_worthAt ((p2 * md_wide) + p1) mknown_f mbelow_f mlatest_f; (r_8, r_6.2)) else ((0 : Int32), r_6.2)) = g := by first | (rw [hr_1] at hg; exact hg) | (subst hr_1; exact hg)
  have hw := hw.symm
  subst hw
  obtain ⟨hP, hD⟩ := va_join (wr := [(a_mknown, .inl (cI, mknown_n, .inl mknown_f)), (a_mbelow, .inl (cZ, mbelow_n, .inl mbelow_f)), (a_mlatest, .inl (cI, mlatest_n, .inl mlatest_f))]) (w1 := (wd_md a_md a_mpart a_mother a_mmagnitude a_mminus a_mreach a_mgain a_msegmentOf a_mbegins a_mlengths a_mknown a_mbelow a_mlatest a_mearly a_magain a_mstates a_mlikely a_mbytes md_thrown md_wide md_high md_band md_style md_isWritten md_isRead md_planes md_passes md_segments md_writing md_plane md_raw md_faults md_size md_begin md_low md_carried md_span md_room md_place md_limit md_next md_last md_upper)) hP hD [0] [1, 2, 3] rfl rfl (by decide) (by decide) hk1 hFc hP1 hD1
  have hP : va_P (dC, dI) vwCl (wd_md_mknown_mbelow_mlatest cI cZ a_md a_mpart a_mother a_mmagnitude a_mminus a_mreach a_mgain a_msegmentOf a_mbegins a_mlengths a_mknown a_mbelow a_mlatest a_mearly a_magain a_mstates a_mlikely a_mbytes md_thrown md_wide md_high md_band md_style md_isWritten md_isRead md_planes md_passes md_segments md_writing md_plane md_raw md_faults md_size md_begin md_low md_carried md_span md_room md_place md_limit md_next md_last md_upper mknown_n mknown_f mbelow_n mbelow_f mlatest_n mlatest_f) H1 := hP.sub [3, 0, 1, 2] rfl
  have hD : va_D A (wd_md_mknown_mbelow_mlatest cI cZ a_md a_mpart a_mother a_mmagnitude a_mminus a_mreach a_mgain a_msegmentOf a_mbegins a_mlengths a_mknown a_mbelow a_mlatest a_mearly a_magain a_mstates a_mlikely a_mbytes md_thrown md_wide md_high md_band md_style md_isWritten md_isRead md_planes md_passes md_segments md_writing md_plane md_raw md_faults md_size md_begin md_low md_carried md_span md_room md_place md_limit md_next md_last md_upper mknown_n mknown_f mbelow_n mbelow_f mlatest_n mlatest_f) := hD.sub [3, 0, 1, 2] (by decide) rfl
  generalize H1 = H at hP hS ⊢
  have hpre := hpre r_1 hr_1
  obtain ⟨j_3, hj_3⟩ : ∃ z, J_X11_value_j_3 r_1 = z := ⟨_, rfl⟩
  have hg : (let j_5 := J_X11_value_j_5 md_isRead; let r_6 := F_X11_throwing j_3 j_5 (0 : Int32); if r_6.1 = (0 : Int32) then (let r_8 := F_X11_worthAt ((p2 * md_wide) + p1) mknown_f mbelow_f mlatest_f; (r_8, r_6.2)) else ((0 : Int32), r_6.2)) = g := by first | (rw [hj_3] at hg; exact hg) | (subst hj_3; exact hg)
  have hJ_j_3 : ∀ (H : Heap) (locs : List Loc) (ls : Array Slot), va_P (dC, dI) vwCl (wd_md_mknown_mbelow_mlatest cI cZ a_md a_mpart a_mother a_mmagnitude a_mminus a_mreach a_mgain a_msegmentOf a_mbegins a_mlengths a_mknown a_mbelow a_mlatest a_mearly a_magain a_mstates a_mlikely a_mbytes md_thrown md_wide md_high md_band md_style md_isWritten md_isRead md_planes md_passes md_segments md_writing md_plane md_raw md_faults md_size md_begin md_low md_carried md_span md_room md_place md_limit md_next md_last md_upper mknown_n mknown_f mbelow_n mbelow_f mlatest_n mlatest_f) H → va_D A (wd_md_mknown_mbelow_mlatest cI cZ a_md a_mpart a_mother a_mmagnitude a_mminus a_mreach a_mgain a_msegmentOf a_mbegins a_mlengths a_mknown a_mbelow a_mlatest a_mearly a_magain a_mstates a_mlikely a_mbytes md_thrown md_wide md_high md_band md_style md_isWritten md_isRead md_planes md_passes md_segments md_writing md_plane md_raw md_faults md_size md_begin md_low md_carried md_span md_room md_place md_limit md_next md_last md_upper mknown_n mknown_f mbelow_n mbelow_f mlatest_n mlatest_f) → va_S A s.heap H locs → lv_has ls 3 [(0, .ref a_md), (1, .int p1), (2, .int p2)] → W p l e (headSpec wsX11_value rm_X11_value).room s m ([.ref a_md, .int p1, .int p2] : List Value).toArray below meth c H locs 0 0 Q (F0 m 15 ls [.int j_3, .ref a_md]) := by
    intro H locs ls hP hD hS hl
    have hpre := hpre j_3 hj_3
    refine lv_aload_n hx hb dX11_value_15 rfl (lv_at hl 0 rfl) ?_
    refine va_get (D := (dC, dI)) (ci := 10) (v := .int md_isRead) (C := RX11) (T := TX11) (N := 42) hx hb hts iw_X11_value_X11 hown hK hP 0 rfl rfl 10 (by decide) (hts (.fieldLink RX11 246 "PlaneBlocksModel" "isRead" "Z") (by decide +kernel)) (fun _ h9 => h9) rfl dX11_value_16 ?_
    obtain ⟨j_5, hj_5⟩ : ∃ z, J_X11_value_j_5 md_isRead = z := ⟨_, rfl⟩
    have hg : (let r_6 := F_X11_throwing j_3 j_5 (0 : Int32); if r_6.1 = (0 : Int32) then (let r_8 := F_X11_worthAt ((p2 * md_wide) + p1) mknown_f mbelow_f mlatest_f; (r_8, r_6.2)) else ((0 : Int32), r_6.2)) = g := by first | (rw [hj_5] at hg; exact hg) | (subst hj_5; exact hg)
    have hJ_j_5 : ∀ (H : Heap) (locs : List Loc) (ls : Array Slot), va_P (dC, dI) vwCl (wd_md_mknown_mbelow_mlatest cI cZ a_md a_mpart a_mother a_mmagnitude a_mminus a_mreach a_mgain a_msegmentOf a_mbegins a_mlengths a_mknown a_mbelow a_mlatest a_mearly a_magain a_mstates a_mlikely a_mbytes md_thrown md_wide md_high md_band md_style md_isWritten md_isRead md_planes md_passes md_segments md_writing md_plane md_raw md_faults md_size md_begin md_low md_carried md_span md_room md_place md_limit md_next md_last md_upper mknown_n mknown_f mbelow_n mbelow_f mlatest_n mlatest_f) H → va_D A (wd_md_mknown_mbelow_mlatest cI cZ a_md a_mpart a_mother a_mmagnitude a_mminus a_mreach a_mgain a_msegmentOf a_mbegins a_mlengths a_mknown a_mbelow a_mlatest a_mearly a_magain a_mstates a_mlikely a_mbytes md_thrown md_wide md_high md_band md_style md_isWritten md_isRead md_planes md_passes md_segments md_writing md_plane md_raw md_faults md_size md_begin md_low md_carried md_span md_room md_place md_limit md_next md_last md_upper mknown_n mknown_f mbelow_n mbelow_f mlatest_n mlatest_f) → va_S A s.heap H locs → lv_has ls 3 [(0, .ref a_md), (1, .int p1), (2, .int p2)] → W p l e (headSpec wsX11_value rm_X11_value).room s m ([.ref a_md, .int p1, .int p2] : List Value).toArray below meth c H locs 0 0 Q (F0 m 27 ls [.int j_5, .int j_3, .ref a_md]) := by
      intro H locs ls hP hD hS hl
      have hpre := hpre j_5 hj_5
      refine lv_iconst (v := 0) hx hb dX11_value_27 (by decide) ?_
      have hPc := hP.sub (ws' := (wd_md a_md a_mpart a_mother a_mmagnitude a_mminus a_mreach a_mgain a_msegmentOf a_mbegins a_mlengths a_mknown a_mbelow a_mlatest a_mearly a_magain a_mstates a_mlikely a_mbytes md_thrown md_wide md_high md_band md_style md_isWritten md_isRead md_planes md_passes md_segments md_writing md_plane md_raw md_faults md_size md_begin md_low md_carried md_span md_room md_place md_limit md_next md_last md_upper)) [0] rfl
      have hDc := hD.sub (ws' := (wd_md a_md a_mpart a_mother a_mmagnitude a_mminus a_mreach a_mgain a_msegmentOf a_mbegins a_mlengths a_mknown a_mbelow a_mlatest a_mearly a_magain a_mstates a_mlikely a_mbytes md_thrown md_wide md_high md_band md_style md_isWritten md_isRead md_planes md_passes md_segments md_writing md_plane md_raw md_faults md_size md_begin md_low md_carried md_span md_room md_place md_limit md_next md_last md_upper)) [0] (by decide) rfl
      have hFc := va_free (wc := (wd_md a_md a_mpart a_mother a_mmagnitude a_mminus a_mreach a_mgain a_msegmentOf a_mbegins a_mlengths a_mknown a_mbelow a_mlatest a_mearly a_magain a_mstates a_mlikely a_mbytes md_thrown md_wide md_high md_band md_style md_isWritten md_isRead md_planes md_passes md_segments md_writing md_plane md_raw md_faults md_size md_begin md_low md_carried md_span md_room md_place md_limit md_next md_last md_upper)) hD hS hA [0] rfl
      refine va_calli (va_runV (As := [.int j_3, .int j_5, .int (0 : Int32)]) (rest := []) ⟨hx, hb, hml, hown, hts⟩ (c_X11_throwing l dC dI cI cJ cZ a_md a_mpart a_mother a_mmagnitude a_mminus a_mreach a_mgain a_msegmentOf a_mbegins a_mlengths a_mknown a_mbelow a_mlatest a_mearly a_magain a_mstates a_mlikely a_mbytes H.size md_thrown md_wide md_high md_band md_style md_isWritten md_isRead md_planes md_passes md_segments md_writing md_plane md_raw md_faults md_size md_begin md_low md_carried md_span md_room md_place md_limit md_next md_last md_upper j_3 j_5 (0 : Int32)) (cwV 3 hts gX11_value_X11_throwing rfl rfl rfl (by decide +kernel) ⟨Nat.le_of_ble_eq_true rfl, Nat.le_of_ble_eq_true rfl⟩) ⟨fun a U g mk q => by obtain ⟨q0, q1, qP, qK, qD⟩ := q; exact ⟨q0, q1, qP, va_K.moved (u := U) (U := U.calling g mk a) (Vm.Alike.refl U.vm) qK, qD⟩, va_recv hK hPc (ci := 10) (q0 := 0) rfl rfl, fun U hU hW => ⟨rfl, by rw [hU], by rw [hU]; exact hPc, va_K.moved hW.alike hK, hDc.weaken (fun _ _ _ _ => trivial)⟩⟩ rfl rfl hl.1 rfl (lv_room (Nat.le_of_ble_eq_true rfl)) dX11_value_28 ⟨Nat.le_of_ble_eq_true rfl, Nat.le_of_ble_eq_true rfl⟩) hS (fun q _ h => hFc q h) hFc (fun r u t H1 locs ht hvm hw hB hz1 hk1 hS => ?_)
      obtain ⟨hP1, hK1, hD1⟩ := hB
      rw [ht] at hP1
      obtain ⟨r_6, hr_6⟩ : ∃ z, F_X11_throwing j_3 j_5 (0 : Int32) = z := ⟨_, rfl⟩
      try rw [hr_6] at hw
      try rw [hr_6] at hP1
      try rw [hr_6] at hD1
      have hg : (if r_6.1 = (0 : Int32) then (let r_8 := F_X11_worthAt ((p2 * md_wide) + p1) mknown_f mbelow_f mlatest_f; (r_8, r_6.2)) else ((0 : Int32), r_6.2)) = g := by first | (rw [hr_6] at hg; exact hg) | (subst hr_6; exact hg)
      subst hw
      obtain ⟨hP, hD⟩ := va_join (wr := [(a_mknown, .inl (cI, mknown_n, .inl mknown_f)), (a_mbelow, .inl (cZ, mbelow_n, .inl mbelow_f)), (a_mlatest, .inl (cI, mlatest_n, .inl mlatest_f))]) (w1 := (wd_md a_md a_mpart a_mother a_mmagnitude a_mminus a_mreach a_mgain a_msegmentOf a_mbegins a_mlengths a_mknown a_mbelow a_mlatest a_mearly a_magain a_mstates a_mlikely a_mbytes r_6.2 md_wide md_high md_band md_style md_isWritten md_isRead md_planes md_passes md_segments md_writing md_plane md_raw md_faults md_size md_begin md_low md_carried md_span md_room md_place md_limit md_next md_last md_upper)) hP hD [0] [1, 2, 3] rfl rfl (by decide) (by decide) hk1 hFc hP1 hD1
      have hP : va_P (dC, dI) vwCl (wd_md_mknown_mbelow_mlatest cI cZ a_md a_mpart a_mother a_mmagnitude a_mminus a_mreach a_mgain a_msegmentOf a_mbegins a_mlengths a_mknown a_mbelow a_mlatest a_mearly a_magain a_mstates a_mlikely a_mbytes r_6.2 md_wide md_high md_band md_style md_isWritten md_isRead md_planes md_passes md_segments md_writing md_plane md_raw md_faults md_size md_begin md_low md_carried md_span md_room md_place md_limit md_next md_last md_upper mknown_n mknown_f mbelow_n mbelow_f mlatest_n mlatest_f) H1 := hP.sub [3, 0, 1, 2] rfl
      have hD : va_D A (wd_md_mknown_mbelow_mlatest cI cZ a_md a_mpart a_mother a_mmagnitude a_mminus a_mreach a_mgain a_msegmentOf a_mbegins a_mlengths a_mknown a_mbelow a_mlatest a_mearly a_magain a_mstates a_mlikely a_mbytes r_6.2 md_wide md_high md_band md_style md_isWritten md_isRead md_planes md_passes md_segments md_writing md_plane md_raw md_faults md_size md_begin md_low md_carried md_span md_room md_place md_limit md_next md_last md_upper mknown_n mknown_f mbelow_n mbelow_f mlatest_n mlatest_f) := hD.sub [3, 0, 1, 2] (by decide) rfl
      generalize H1 = H at hP hS ⊢
      have hpre := hpre r_6 hr_6
      refine lv_if_eq (tgt := 36) hx hb dX11_value_31 (by decide) (fun c_7 => ?_) (fun c_7 => ?_)
      · rw [if_pos c_7] at hg
        have hpre := hpre c_7
        refine lv_aload_n hx hb dX11_value_36 rfl (lv_at hl 0 rfl) ?_
        refine lv_iload_n hx hb dX11_value_37 rfl (lv_at hl 2 rfl) ?_
        refine lv_aload_n hx hb dX11_value_38 rfl (lv_at hl 0 rfl) ?_
        refine va_get (D := (dC, dI)) (ci := 10) (v := .int md_wide) (C := RX11) (T := TX11) (N := 42) hx hb hts iw_X11_value_X11 hown hK hP 0 rfl rfl 3 (by decide) (hts (.fieldLink RX11 16 "PlaneBlocksModel" "wide" "I") (by decide +kernel)) (fun _ h9 => h9) rfl dX11_value_39 ?_
        refine lv_imul hx hb dX11_value_42 ?_
        refine lv_iload_n hx hb dX11_value_43 rfl (lv_at hl 1 rfl) ?_
        refine lv_iadd hx hb dX11_value_44 ?_
        have hPc := hP.sub (ws' := (wd_md_mknown_mbelow_mlatest cI cZ a_md a_mpart a_mother a_mmagnitude a_mminus a_mreach a_mgain a_msegmentOf a_mbegins a_mlengths a_mknown a_mbelow a_mlatest a_mearly a_magain a_mstates a_mlikely a_mbytes r_6.2 md_wide md_high md_band md_style md_isWritten md_isRead md_planes md_passes md_segments md_writing md_plane md_raw md_faults md_size md_begin md_low md_carried md_span md_room md_place md_limit md_next md_last md_upper mknown_n mknown_f mbelow_n mbelow_f mlatest_n mlatest_f)) [0, 1, 2, 3] rfl
        have hDc := hD.sub (ws' := (wd_md_mknown_mbelow_mlatest cI cZ a_md a_mpart a_mother a_mmagnitude a_mminus a_mreach a_mgain a_msegmentOf a_mbegins a_mlengths a_mknown a_mbelow a_mlatest a_mearly a_magain a_mstates a_mlikely a_mbytes r_6.2 md_wide md_high md_band md_style md_isWritten md_isRead md_planes md_passes md_segments md_writing md_plane md_raw md_faults md_size md_begin md_low md_carried md_span md_room md_place md_limit md_next md_last md_upper mknown_n mknown_f mbelow_n mbelow_f mlatest_n mlatest_f)) [0, 1, 2, 3] (by decide) rfl
        have hFc := va_free (wc := (wd_md_mknown_mbelow_mlatest cI cZ a_md a_mpart a_mother a_mmagnitude a_mminus a_mreach a_mgain a_msegmentOf a_mbegins a_mlengths a_mknown a_mbelow a_mlatest a_mearly a_magain a_mstates a_mlikely a_mbytes r_6.2 md_wide md_high md_band md_style md_isWritten md_isRead md_planes md_passes md_segments md_writing md_plane md_raw md_faults md_size md_begin md_low md_carried md_span md_room md_place md_limit md_next md_last md_upper mknown_n mknown_f mbelow_n mbelow_f mlatest_n mlatest_f)) hD hS hA [0, 1, 2, 3] rfl
        refine va_calli (va_runV (As := [.int ((p2 * md_wide) + p1)]) (rest := []) ⟨hx, hb, hml, hown, hts⟩ (c_X11_worthAt l dC dI cI cJ cZ a_md a_mpart a_mother a_mmagnitude a_mminus a_mreach a_mgain a_msegmentOf a_mbegins a_mlengths a_mknown a_mbelow a_mlatest a_mearly a_magain a_mstates a_mlikely a_mbytes H.size r_6.2 md_wide md_high md_band md_style md_isWritten md_isRead md_planes md_passes md_segments md_writing md_plane md_raw md_faults md_size md_begin md_low md_carried md_span md_room md_place md_limit md_next md_last md_upper mknown_n mknown_f mbelow_n mbelow_f mlatest_n mlatest_f ((p2 * md_wide) + p1) hpre) (cwV 1 hts gX11_value_X11_worthAt rfl rfl rfl (by decide +kernel) ⟨Nat.le_of_ble_eq_true rfl, Nat.le_of_ble_eq_true rfl⟩) ⟨fun a U g mk q => by obtain ⟨q0, q1, qP, qK, qD⟩ := q; exact ⟨q0, q1, qP, va_K.moved (u := U) (U := U.calling g mk a) (Vm.Alike.refl U.vm) qK, qD⟩, va_recv hK hPc (ci := 10) (q0 := 0) rfl rfl, fun U hU hW => ⟨rfl, by rw [hU], by rw [hU]; exact hPc, va_K.moved hW.alike hK, hDc.weaken (fun _ _ _ _ => trivial)⟩⟩ rfl rfl hl.1 rfl (lv_room (Nat.le_of_ble_eq_true rfl)) dX11_value_45 ⟨Nat.le_of_ble_eq_true rfl, Nat.le_of_ble_eq_true rfl⟩) hS (fun q _ h => hFc q h) hFc (fun r u t H1 locs ht hvm hw hB hz1 hk1 hS => ?_)
        obtain ⟨hP1, hK1, hD1⟩ := hB
        rw [ht] at hP1
        obtain ⟨r_8, hr_8⟩ : ∃ z, F_X11_worthAt ((p2 * md_wide) + p1) mknown_f mbelow_f mlatest_f = z := ⟨_, rfl⟩
        try rw [hr_8] at hw
        try rw [hr_8] at hP1
        try rw [hr_8] at hD1
        have hg : (r_8, r_6.2) = g := by first | (rw [hr_8] at hg; exact hg) | (subst hr_8; exact hg)
        have hw := hw.symm
        subst hw
        obtain ⟨hP, hD⟩ := va_join (wr := []) (w1 := (wd_md_mknown_mbelow_mlatest cI cZ a_md a_mpart a_mother a_mmagnitude a_mminus a_mreach a_mgain a_msegmentOf a_mbegins a_mlengths a_mknown a_mbelow a_mlatest a_mearly a_magain a_mstates a_mlikely a_mbytes r_6.2 md_wide md_high md_band md_style md_isWritten md_isRead md_planes md_passes md_segments md_writing md_plane md_raw md_faults md_size md_begin md_low md_carried md_span md_room md_place md_limit md_next md_last md_upper mknown_n mknown_f mbelow_n mbelow_f mlatest_n mlatest_f)) hP hD [0, 1, 2, 3] [] rfl rfl (by decide) (by decide) hk1 hFc hP1 hD1
        have hP : va_P (dC, dI) vwCl (wd_md_mknown_mbelow_mlatest cI cZ a_md a_mpart a_mother a_mmagnitude a_mminus a_mreach a_mgain a_msegmentOf a_mbegins a_mlengths a_mknown a_mbelow a_mlatest a_mearly a_magain a_mstates a_mlikely a_mbytes r_6.2 md_wide md_high md_band md_style md_isWritten md_isRead md_planes md_passes md_segments md_writing md_plane md_raw md_faults md_size md_begin md_low md_carried md_span md_room md_place md_limit md_next md_last md_upper mknown_n mknown_f mbelow_n mbelow_f mlatest_n mlatest_f) H1 := hP.sub [0, 1, 2, 3] rfl
        have hD : va_D A (wd_md_mknown_mbelow_mlatest cI cZ a_md a_mpart a_mother a_mmagnitude a_mminus a_mreach a_mgain a_msegmentOf a_mbegins a_mlengths a_mknown a_mbelow a_mlatest a_mearly a_magain a_mstates a_mlikely a_mbytes r_6.2 md_wide md_high md_band md_style md_isWritten md_isRead md_planes md_passes md_segments md_writing md_plane md_raw md_faults md_size md_begin md_low md_carried md_span md_room md_place md_limit md_next md_last md_upper mknown_n mknown_f mbelow_n mbelow_f mlatest_n mlatest_f) := hD.sub [0, 1, 2, 3] (by decide) rfl
        generalize H1 = H at hP hS ⊢
        subst hg
        rw [← hQe]
        exact W.iret (v := r_8) hx hb hr (fun t ht hW => ⟨⟨r_8, (), rfl, rfl, by rw [ht]; exact hP, va_K.moved hW.alike hK, hD⟩, hS.F ht⟩) hS.2.2 dX11_value_48
      · rw [if_neg c_7] at hg
        refine lv_iconst (v := 0) hx hb dX11_value_34 (by decide) ?_
        subst hg
        rw [← hQe]
        exact W.iret (v := (0 : Int32)) hx hb hr (fun t ht hW => ⟨⟨(0 : Int32), (), rfl, rfl, by rw [ht]; exact hP, va_K.moved hW.alike hK, hD⟩, hS.F ht⟩) hS.2.2 dX11_value_35
    have hg : (if md_isRead = (0 : Int32) then (1 : Int32) else (0 : Int32)) = j_5 := by rw [← hj_5]; rfl
    clear hj_5
    refine lv_if_ne (tgt := 26) hx hb dX11_value_19 (by decide) (fun c_4 => ?_) (fun c_4 => ?_)
    · rw [if_neg c_4] at hg
      refine lv_iconst (v := 0) hx hb dX11_value_26 (by decide) ?_
      rw [← hg] at hJ_j_5
      exact hJ_j_5 _ _ _ hP hD hS (lv_sub hl [0, 1, 2] rfl)
    · rw [if_pos c_4] at hg
      refine lv_iconst (v := 1) hx hb dX11_value_22 (by decide) ?_
      refine lv_goto (tgt := 27) hx hb dX11_value_23 (by decide) ?_
      rw [← hg] at hJ_j_5
      exact hJ_j_5 _ _ _ hP hD hS (lv_sub hl [0, 1, 2] rfl)
  have hg : (if r_1 = (0 : Int32) then (1 : Int32) else (0 : Int32)) = j_3 := by rw [← hj_3]; rfl
  clear hj_3
  refine lv_if_ne (tgt := 14) hx hb dX11_value_7 (by decide) (fun c_2 => ?_) (fun c_2 => ?_)
  · rw [if_neg c_2] at hg
    refine lv_iconst (v := 0) hx hb dX11_value_14 (by decide) ?_
    rw [← hg] at hJ_j_3
    exact hJ_j_3 _ _ _ hP hD hS (lv_sub hl [0, 1, 2] rfl)
  · rw [if_pos c_2] at hg
    refine lv_iconst (v := 1) hx hb dX11_value_10 (by decide) ?_
    refine lv_goto (tgt := 15) hx hb dX11_value_11 (by decide) ?_
    rw [← hg] at hJ_j_3
    exact hJ_j_3 _ _ _ hP hD hS (lv_sub hl [0, 1, 2] rfl)
abbrev wd_md_mknown (cI : ClassId) (a_md : Nat) (a_mpart : Nat) (a_mother : Nat) (a_mmagnitude : Nat) (a_mminus : Nat) (a_mreach : Nat) (a_mgain : Nat) (a_msegmentOf : Nat) (a_mbegins : Nat) (a_mlengths : Nat) (a_mknown : Nat) (a_mbelow : Nat) (a_mlatest : Nat) (a_mearly : Nat) (a_magain : Nat) (a_mstates : Nat) (a_mlikely : Nat) (a_mbytes : Nat) (md_thrown : Int32) (md_wide : Int32) (md_high : Int32) (md_band : Int32) (md_style : Int32) (md_isWritten : Int32) (md_isRead : Int32) (md_planes : Int32) (md_passes : Int32) (md_segments : Int32) (md_writing : Int32) (md_plane : Int32) (md_raw : Int32) (md_faults : Int32) (md_size : Int32) (md_begin : Int32) (md_low : Int32) (md_carried : Int32) (md_span : Int32) (md_room : Int32) (md_place : Int32) (md_limit : Int32) (md_next : Int32) (md_last : Int32) (md_upper : Int64) (mknown_n : Nat) (mknown_f : Nat → Int32) : va_W := [(a_md, .inr (10, [.ref a_mpart, .ref a_mother, .int md_thrown, .int md_wide, .int md_high, .int md_band, .int md_style, .ref a_mmagnitude, .ref a_mminus, .int md_isWritten, .int md_isRead, .int md_planes, .int md_passes, .ref a_mreach, .ref a_mgain, .ref a_msegmentOf, .int md_segments, .ref a_mbegins, .ref a_mlengths, .int md_writing, .ref a_mknown, .ref a_mbelow, .ref a_mlatest, .ref a_mearly, .ref a_magain, .int md_plane, .int md_raw, .int md_faults, .ref a_mstates, .ref a_mlikely, .int md_size, .ref a_mbytes, .int md_begin, .int md_low, .int md_carried, .int md_span, .int md_room, .int md_place, .int md_limit, .int md_next, .int md_last, .long md_upper])), (a_mknown, .inl (cI, mknown_n, .inl mknown_f))]
abbrev rm_X11_known : Room := { frames := 2, cells := 0, slots := 0, locals := 44 }
abbrev Q_X11_known (dC : Nat → ClassId) (dI : Nat → Nat → Nat) (cI cJ cZ : ClassId) (a_md : Nat) (a_mpart : Nat) (a_mother : Nat) (a_mmagnitude : Nat) (a_mminus : Nat) (a_mreach : Nat) (a_mgain : Nat) (a_msegmentOf : Nat) (a_mbegins : Nat) (a_mlengths : Nat) (a_mknown : Nat) (a_mbelow : Nat) (a_mlatest : Nat) (a_mearly : Nat) (a_magain : Nat) (a_mstates : Nat) (a_mlikely : Nat) (a_mbytes : Nat) (A : Nat → Prop) (md_thrown : Int32) (md_wide : Int32) (md_high : Int32) (md_band : Int32) (md_style : Int32) (md_isWritten : Int32) (md_isRead : Int32) (md_planes : Int32) (md_passes : Int32) (md_segments : Int32) (md_writing : Int32) (md_plane : Int32) (md_raw : Int32) (md_faults : Int32) (md_size : Int32) (md_begin : Int32) (md_low : Int32) (md_carried : Int32) (md_span : Int32) (md_room : Int32) (md_place : Int32) (md_limit : Int32) (md_next : Int32) (md_last : Int32) (md_upper : Int64) (mknown_n : Nat) (mknown_f : Nat → Int32) (g : (Int32 × Int32)) : Array Value → State → Outcome → State → Prop := va_Qi (fun (r : Int32) (_ : Unit) => r = g.1) (fun u t => va_P (dC, dI) vwCl (wd_md_mknown cI a_md a_mpart a_mother a_mmagnitude a_mminus a_mreach a_mgain a_msegmentOf a_mbegins a_mlengths a_mknown a_mbelow a_mlatest a_mearly a_magain a_mstates a_mlikely a_mbytes g.2 md_wide md_high md_band md_style md_isWritten md_isRead md_planes md_passes md_segments md_writing md_plane md_raw md_faults md_size md_begin md_low md_carried md_span md_room md_place md_limit md_next md_last md_upper mknown_n mknown_f) t.heap ∧ va_K (dC, dI) vwCl [(cI, .int), (cJ, .long), (cZ, .boolean)] t ∧ va_D A (wd_md_mknown cI a_md a_mpart a_mother a_mmagnitude a_mminus a_mreach a_mgain a_msegmentOf a_mbegins a_mlengths a_mknown a_mbelow a_mlatest a_mearly a_magain a_mstates a_mlikely a_mbytes g.2 md_wide md_high md_band md_style md_isWritten md_isRead md_planes md_passes md_segments md_writing md_plane md_raw md_faults md_size md_begin md_low md_carried md_span md_room md_place md_limit md_next md_last md_upper mknown_n mknown_f)) A
theorem iw_X11_known_X11 : ∀ w ∈ u_ws RX11 TX11 42, w ∈ wsX11_known := by decide +kernel
set_option maxHeartbeats 4000000 in
set_option maxRecDepth 100000 in
theorem c_X11_known (l : Launch) (dC : Nat → ClassId) (dI : Nat → Nat → Nat) (cI cJ cZ : ClassId) (a_md : Nat) (a_mpart : Nat) (a_mother : Nat) (a_mmagnitude : Nat) (a_mminus : Nat) (a_mreach : Nat) (a_mgain : Nat) (a_msegmentOf : Nat) (a_mbegins : Nat) (a_mlengths : Nat) (a_mknown : Nat) (a_mbelow : Nat) (a_mlatest : Nat) (a_mearly : Nat) (a_magain : Nat) (a_mstates : Nat) (a_mlikely : Nat) (a_mbytes : Nat) (sz : Nat) (md_thrown : Int32) (md_wide : Int32) (md_high : Int32) (md_band : Int32) (md_style : Int32) (md_isWritten : Int32) (md_isRead : Int32) (md_planes : Int32) (md_passes : Int32) (md_segments : Int32) (md_writing : Int32) (md_plane : Int32) (md_raw : Int32) (md_faults : Int32) (md_size : Int32) (md_begin : Int32) (md_low : Int32) (md_carried : Int32) (md_span : Int32) (md_room : Int32) (md_place : Int32) (md_limit : Int32) (md_next : Int32) (md_last : Int32) (md_upper : Int64) (mknown_n : Nat) (mknown_f : Nat → Int32) (p1 : Int32) (p2 : Int32) (hpre : P_X11_known p1 p2 md_wide md_high md_isRead mknown_n) : Met l yX11_known wsX11_known rm_X11_known (va_Pc [.ref a_md, .int p1, .int p2] (fun U => U.heap.size = sz ∧ va_P (dC, dI) vwCl (wd_md_mknown cI a_md a_mpart a_mother a_mmagnitude a_mminus a_mreach a_mgain a_msegmentOf a_mbegins a_mlengths a_mknown a_mbelow a_mlatest a_mearly a_magain a_mstates a_mlikely a_mbytes md_thrown md_wide md_high md_band md_style md_isWritten md_isRead md_planes md_passes md_segments md_writing md_plane md_raw md_faults md_size md_begin md_low md_carried md_span md_room md_place md_limit md_next md_last md_upper mknown_n mknown_f) U.heap ∧ va_K (dC, dI) vwCl [(cI, .int), (cJ, .long), (cZ, .boolean)] U ∧ va_D (fun _ => True) (wd_md_mknown cI a_md a_mpart a_mother a_mmagnitude a_mminus a_mreach a_mgain a_msegmentOf a_mbegins a_mlengths a_mknown a_mbelow a_mlatest a_mearly a_magain a_mstates a_mlikely a_mbytes md_thrown md_wide md_high md_band md_style md_isWritten md_isRead md_planes md_passes md_segments md_writing md_plane md_raw md_faults md_size md_begin md_low md_carried md_span md_room md_place md_limit md_next md_last md_upper mknown_n mknown_f))) (Q_X11_known dC dI cI cJ cZ a_md a_mpart a_mother a_mmagnitude a_mminus a_mreach a_mgain a_msegmentOf a_mbegins a_mlengths a_mknown a_mbelow a_mlatest a_mearly a_magain a_mstates a_mlikely a_mbytes (va_A (wd_md_mknown cI a_md a_mpart a_mother a_mmagnitude a_mminus a_mreach a_mgain a_msegmentOf a_mbegins a_mlengths a_mknown a_mbelow a_mlatest a_mearly a_magain a_mstates a_mlikely a_mbytes md_thrown md_wide md_high md_band md_style md_isWritten md_isRead md_planes md_passes md_segments md_writing md_plane md_raw md_faults md_size md_begin md_low md_carried md_span md_room md_place md_limit md_next md_last md_upper mknown_n mknown_f) sz) md_thrown md_wide md_high md_band md_style md_isWritten md_isRead md_planes md_passes md_segments md_writing md_plane md_raw md_faults md_size md_begin md_low md_carried md_span md_room md_place md_limit md_next md_last md_upper mknown_n mknown_f (F_X11_known p1 p2 md_wide md_high md_isRead mknown_f)) 0 0 (va_A (wd_md_mknown cI a_md a_mpart a_mother a_mmagnitude a_mminus a_mreach a_mgain a_msegmentOf a_mbegins a_mlengths a_mknown a_mbelow a_mlatest a_mearly a_magain a_mstates a_mlikely a_mbytes md_thrown md_wide md_high md_band md_style md_isWritten md_isRead md_planes md_passes md_segments md_writing md_plane md_raw md_faults md_size md_begin md_low md_carried md_span md_room md_place md_limit md_next md_last md_upper mknown_n mknown_f) sz) := by
  refine Met.ofW (cc := cX11_known) (maxL := 3) (ret := (some .int)) (by decide) rfl ?_
  intro p e s m args below meth c s₁ B hml hv
  obtain ⟨rfl, hsz, hP, hK, hD0⟩ := hv
  have hx := B.exec
  have hb := B.bytes
  have hr := B.returns
  have hts := atoms_spec (ws := wsX11_known) B.pre
  have hown : s.vm.findClass RX11 = some m.cls := findClass_of_methodNamed B.named
  have hlocks := B.notSynchronized
  subst hsz
  have hD := hD0.self (sz := s.heap.size)
  generalize hAe : va_A (wd_md_mknown cI a_md a_mpart a_mother a_mmagnitude a_mminus a_mreach a_mgain a_msegmentOf a_mbegins a_mlengths a_mknown a_mbelow a_mlatest a_mearly a_magain a_mstates a_mlikely a_mbytes md_thrown md_wide md_high md_band md_style md_isWritten md_isRead md_planes md_passes md_segments md_writing md_plane md_raw md_faults md_size md_begin md_low md_carried md_span md_room md_place md_limit md_next md_last md_upper mknown_n mknown_f) s.heap.size = A at hD ⊢
  have hA : ∀ q : Nat, s.heap.size ≤ q → A q := fun q h => by rw [← hAe]; exact Or.inr h
  have hS : va_S A s.heap s.heap [] := va_S.rf
  obtain ⟨H, hH⟩ : ∃ z, z = s.heap := ⟨_, rfl⟩
  have hP : va_P (dC, dI) vwCl (wd_md_mknown cI a_md a_mpart a_mother a_mmagnitude a_mminus a_mreach a_mgain a_msegmentOf a_mbegins a_mlengths a_mknown a_mbelow a_mlatest a_mearly a_magain a_mstates a_mlikely a_mbytes md_thrown md_wide md_high md_band md_style md_isWritten md_isRead md_planes md_passes md_segments md_writing md_plane md_raw md_faults md_size md_begin md_low md_carried md_span md_room md_place md_limit md_next md_last md_upper mknown_n mknown_f) H := by rw [hH]; exact hP
  have hS : va_S A s.heap H [] := by rw [hH]; exact va_S.rf
  obtain ⟨g, hg⟩ : ∃ z, F_X11_known p1 p2 md_wide md_high md_isRead mknown_f = z := ⟨_, rfl⟩
  rw [hg]
  generalize hQe : MQ below (Q_X11_known dC dI cI cJ cZ a_md a_mpart a_mother a_mmagnitude a_mminus a_mreach a_mgain a_msegmentOf a_mbegins a_mlengths a_mknown a_mbelow a_mlatest a_mearly a_magain a_mstates a_mlikely a_mbytes A md_thrown md_wide md_high md_band md_style md_isWritten md_isRead md_planes md_passes md_segments md_writing md_plane md_raw md_faults md_size md_begin md_low md_carried md_span md_room md_place md_limit md_next md_last md_upper mknown_n mknown_f g) _ s 0 0 A = Q
  rw [← hH]
  clear hH
  have hl := lv_entry ([.ref a_md, .int p1, .int p2]) (n := 3) (Nat.le_of_ble_eq_true rfl)
  rw [lg_entry_eq]
  generalize (lg_sl ([.ref a_md, .int p1, .int p2]) ++ List.replicate (3 - (lg_sl ([.ref a_md, .int p1, .int p2])).length) Slot.unset).toArray = ls at hl ⊢
  have hl : lv_has ls 3 [(0, .ref a_md), (1, .int p1), (2, .int p2)] := hl
  unfold F_X11_known at hg
  unfold P_X11_known at hpre
  refine lv_aload_n hx hb dX11_known_0 rfl (lv_at hl 0 rfl) ?_
  refine lv_aload_n hx hb dX11_known_1 rfl (lv_at hl 0 rfl) ?_
  refine lv_iload_n hx hb dX11_known_2 rfl (lv_at hl 1 rfl) ?_
  refine lv_iload_n hx hb dX11_known_3 rfl (lv_at hl 2 rfl) ?_
  have hPc := hP.sub (ws' := (wd_md a_md a_mpart a_mother a_mmagnitude a_mminus a_mreach a_mgain a_msegmentOf a_mbegins a_mlengths a_mknown a_mbelow a_mlatest a_mearly a_magain a_mstates a_mlikely a_mbytes md_thrown md_wide md_high md_band md_style md_isWritten md_isRead md_planes md_passes md_segments md_writing md_plane md_raw md_faults md_size md_begin md_low md_carried md_span md_room md_place md_limit md_next md_last md_upper)) [0] rfl
  have hDc := hD.sub (ws' := (wd_md a_md a_mpart a_mother a_mmagnitude a_mminus a_mreach a_mgain a_msegmentOf a_mbegins a_mlengths a_mknown a_mbelow a_mlatest a_mearly a_magain a_mstates a_mlikely a_mbytes md_thrown md_wide md_high md_band md_style md_isWritten md_isRead md_planes md_passes md_segments md_writing md_plane md_raw md_faults md_size md_begin md_low md_carried md_span md_room md_place md_limit md_next md_last md_upper)) [0] (by decide) rfl
  have hFc := va_free (wc := (wd_md a_md a_mpart a_mother a_mmagnitude a_mminus a_mreach a_mgain a_msegmentOf a_mbegins a_mlengths a_mknown a_mbelow a_mlatest a_mearly a_magain a_mstates a_mlikely a_mbytes md_thrown md_wide md_high md_band md_style md_isWritten md_isRead md_planes md_passes md_segments md_writing md_plane md_raw md_faults md_size md_begin md_low md_carried md_span md_room md_place md_limit md_next md_last md_upper)) hD hS hA [0] rfl
  refine va_calli (va_runV (As := [.int p1, .int p2]) (rest := [.ref a_md]) ⟨hx, hb, hml, hown, hts⟩ (c_X11_isThere l dC dI cI cJ cZ a_md a_mpart a_mother a_mmagnitude a_mminus a_mreach a_mgain a_msegmentOf a_mbegins a_mlengths a_mknown a_mbelow a_mlatest a_mearly a_magain a_mstates a_mlikely a_mbytes H.size md_thrown md_wide md_high md_band md_style md_isWritten md_isRead md_planes md_passes md_segments md_writing md_plane md_raw md_faults md_size md_begin md_low md_carried md_span md_room md_place md_limit md_next md_last md_upper p1 p2) (cwV 2 hts gX11_known_X11_isThere rfl rfl rfl (by decide +kernel) ⟨Nat.le_of_ble_eq_true rfl, Nat.le_of_ble_eq_true rfl⟩) ⟨fun a U g mk q => by obtain ⟨q0, q1, qP, qK, qD⟩ := q; exact ⟨q0, q1, qP, va_K.moved (u := U) (U := U.calling g mk a) (Vm.Alike.refl U.vm) qK, qD⟩, va_recv hK hPc (ci := 10) (q0 := 0) rfl rfl, fun U hU hW => ⟨rfl, by rw [hU], by rw [hU]; exact hPc, va_K.moved hW.alike hK, hDc.weaken (fun _ _ _ _ => trivial)⟩⟩ rfl rfl hl.1 rfl (lv_room (Nat.le_of_ble_eq_true rfl)) dX11_known_4 ⟨Nat.le_of_ble_eq_true rfl, Nat.le_of_ble_eq_true rfl⟩) hS (fun q _ h => hFc q h) hFc (fun r u t H1 locs ht hvm hw hB hz1 hk1 hS => ?_)
  obtain ⟨hP1, hK1, hD1⟩ := hB
  rw [ht] at hP1
  obtain ⟨r_1, hr_1⟩ : ∃ z, F_X11_isThere p1 p2 md_wide md_high = z := ⟨_, rfl⟩
  try rw [hr_1] at hw
  try rw [hr_1] at hP1
  try rw [hr_1] at hD1
  have hg : (let j_3 := J_X11_known_j_3 r_1; let j_5 := J_X11_known_j_5 md_isRead; let r_6 := F_X11_throwing j_3 j_5 (0 : Int32); if r_6.1 = (0 : Int32) then (mknown_f ((p2 * md_wide) + p1).toNatClampNeg, r_6.2) else ((0 : Int32), r_6.2)) = g := by first | (rw [hr_1] at hg; exact hg) | (subst hr_1; exact hg)
  have hw := hw.symm
  subst hw
  obtain ⟨hP, hD⟩ := va_join (wr := [(a_mknown, .inl (cI, mknown_n, .inl mknown_f))]) (w1 := (wd_md a_md a_mpart a_mother a_mmagnitude a_mminus a_mreach a_mgain a_msegmentOf a_mbegins a_mlengths a_mknown a_mbelow a_mlatest a_mearly a_magain a_mstates a_mlikely a_mbytes md_thrown md_wide md_high md_band md_style md_isWritten md_isRead md_planes md_passes md_segments md_writing md_plane md_raw md_faults md_size md_begin md_low md_carried md_span md_room md_place md_limit md_next md_last md_upper)) hP hD [0] [1] rfl rfl (by decide) (by decide) hk1 hFc hP1 hD1
  have hP : va_P (dC, dI) vwCl (wd_md_mknown cI a_md a_mpart a_mother a_mmagnitude a_mminus a_mreach a_mgain a_msegmentOf a_mbegins a_mlengths a_mknown a_mbelow a_mlatest a_mearly a_magain a_mstates a_mlikely a_mbytes md_thrown md_wide md_high md_band md_style md_isWritten md_isRead md_planes md_passes md_segments md_writing md_plane md_raw md_faults md_size md_begin md_low md_carried md_span md_room md_place md_limit md_next md_last md_upper mknown_n mknown_f) H1 := hP.sub [1, 0] rfl
  have hD : va_D A (wd_md_mknown cI a_md a_mpart a_mother a_mmagnitude a_mminus a_mreach a_mgain a_msegmentOf a_mbegins a_mlengths a_mknown a_mbelow a_mlatest a_mearly a_magain a_mstates a_mlikely a_mbytes md_thrown md_wide md_high md_band md_style md_isWritten md_isRead md_planes md_passes md_segments md_writing md_plane md_raw md_faults md_size md_begin md_low md_carried md_span md_room md_place md_limit md_next md_last md_upper mknown_n mknown_f) := hD.sub [1, 0] (by decide) rfl
  generalize H1 = H at hP hS ⊢
  have hpre := hpre r_1 hr_1
  obtain ⟨j_3, hj_3⟩ : ∃ z, J_X11_known_j_3 r_1 = z := ⟨_, rfl⟩
  have hg : (let j_5 := J_X11_known_j_5 md_isRead; let r_6 := F_X11_throwing j_3 j_5 (0 : Int32); if r_6.1 = (0 : Int32) then (mknown_f ((p2 * md_wide) + p1).toNatClampNeg, r_6.2) else ((0 : Int32), r_6.2)) = g := by first | (rw [hj_3] at hg; exact hg) | (subst hj_3; exact hg)
  have hJ_j_3 : ∀ (H : Heap) (locs : List Loc) (ls : Array Slot), va_P (dC, dI) vwCl (wd_md_mknown cI a_md a_mpart a_mother a_mmagnitude a_mminus a_mreach a_mgain a_msegmentOf a_mbegins a_mlengths a_mknown a_mbelow a_mlatest a_mearly a_magain a_mstates a_mlikely a_mbytes md_thrown md_wide md_high md_band md_style md_isWritten md_isRead md_planes md_passes md_segments md_writing md_plane md_raw md_faults md_size md_begin md_low md_carried md_span md_room md_place md_limit md_next md_last md_upper mknown_n mknown_f) H → va_D A (wd_md_mknown cI a_md a_mpart a_mother a_mmagnitude a_mminus a_mreach a_mgain a_msegmentOf a_mbegins a_mlengths a_mknown a_mbelow a_mlatest a_mearly a_magain a_mstates a_mlikely a_mbytes md_thrown md_wide md_high md_band md_style md_isWritten md_isRead md_planes md_passes md_segments md_writing md_plane md_raw md_faults md_size md_begin md_low md_carried md_span md_room md_place md_limit md_next md_last md_upper mknown_n mknown_f) → va_S A s.heap H locs → lv_has ls 3 [(0, .ref a_md), (1, .int p1), (2, .int p2)] → W p l e (headSpec wsX11_known rm_X11_known).room s m ([.ref a_md, .int p1, .int p2] : List Value).toArray below meth c H locs 0 0 Q (F0 m 15 ls [.int j_3, .ref a_md]) := by
    intro H locs ls hP hD hS hl
    have hpre := hpre j_3 hj_3
    refine lv_aload_n hx hb dX11_known_15 rfl (lv_at hl 0 rfl) ?_
    refine va_get (D := (dC, dI)) (ci := 10) (v := .int md_isRead) (C := RX11) (T := TX11) (N := 42) hx hb hts iw_X11_known_X11 hown hK hP 0 rfl rfl 10 (by decide) (hts (.fieldLink RX11 246 "PlaneBlocksModel" "isRead" "Z") (by decide +kernel)) (fun _ h9 => h9) rfl dX11_known_16 ?_
    obtain ⟨j_5, hj_5⟩ : ∃ z, J_X11_known_j_5 md_isRead = z := ⟨_, rfl⟩
    have hg : (let r_6 := F_X11_throwing j_3 j_5 (0 : Int32); if r_6.1 = (0 : Int32) then (mknown_f ((p2 * md_wide) + p1).toNatClampNeg, r_6.2) else ((0 : Int32), r_6.2)) = g := by first | (rw [hj_5] at hg; exact hg) | (subst hj_5; exact hg)
    have hJ_j_5 : ∀ (H : Heap) (locs : List Loc) (ls : Array Slot), va_P (dC, dI) vwCl (wd_md_mknown cI a_md a_mpart a_mother a_mmagnitude a_mminus a_mreach a_mgain a_msegmentOf a_mbegins a_mlengths a_mknown a_mbelow a_mlatest a_mearly a_magain a_mstates a_mlikely a_mbytes md_thrown md_wide md_high md_band md_style md_isWritten md_isRead md_planes md_passes md_segments md_writing md_plane md_raw md_faults md_size md_begin md_low md_carried md_span md_room md_place md_limit md_next md_last md_upper mknown_n mknown_f) H → va_D A (wd_md_mknown cI a_md a_mpart a_mother a_mmagnitude a_mminus a_mreach a_mgain a_msegmentOf a_mbegins a_mlengths a_mknown a_mbelow a_mlatest a_mearly a_magain a_mstates a_mlikely a_mbytes md_thrown md_wide md_high md_band md_style md_isWritten md_isRead md_planes md_passes md_segments md_writing md_plane md_raw md_faults md_size md_begin md_low md_carried md_span md_room md_place md_limit md_next md_last md_upper mknown_n mknown_f) → va_S A s.heap H locs → lv_has ls 3 [(0, .ref a_md), (1, .int p1), (2, .int p2)] → W p l e (headSpec wsX11_known rm_X11_known).room s m ([.ref a_md, .int p1, .int p2] : List Value).toArray below meth c H locs 0 0 Q (F0 m 27 ls [.int j_5, .int j_3, .ref a_md]) := by
      intro H locs ls hP hD hS hl
      have hpre := hpre j_5 hj_5
      refine lv_iconst (v := 0) hx hb dX11_known_27 (by decide) ?_
      have hPc := hP.sub (ws' := (wd_md a_md a_mpart a_mother a_mmagnitude a_mminus a_mreach a_mgain a_msegmentOf a_mbegins a_mlengths a_mknown a_mbelow a_mlatest a_mearly a_magain a_mstates a_mlikely a_mbytes md_thrown md_wide md_high md_band md_style md_isWritten md_isRead md_planes md_passes md_segments md_writing md_plane md_raw md_faults md_size md_begin md_low md_carried md_span md_room md_place md_limit md_next md_last md_upper)) [0] rfl
      have hDc := hD.sub (ws' := (wd_md a_md a_mpart a_mother a_mmagnitude a_mminus a_mreach a_mgain a_msegmentOf a_mbegins a_mlengths a_mknown a_mbelow a_mlatest a_mearly a_magain a_mstates a_mlikely a_mbytes md_thrown md_wide md_high md_band md_style md_isWritten md_isRead md_planes md_passes md_segments md_writing md_plane md_raw md_faults md_size md_begin md_low md_carried md_span md_room md_place md_limit md_next md_last md_upper)) [0] (by decide) rfl
      have hFc := va_free (wc := (wd_md a_md a_mpart a_mother a_mmagnitude a_mminus a_mreach a_mgain a_msegmentOf a_mbegins a_mlengths a_mknown a_mbelow a_mlatest a_mearly a_magain a_mstates a_mlikely a_mbytes md_thrown md_wide md_high md_band md_style md_isWritten md_isRead md_planes md_passes md_segments md_writing md_plane md_raw md_faults md_size md_begin md_low md_carried md_span md_room md_place md_limit md_next md_last md_upper)) hD hS hA [0] rfl
      refine va_calli (va_runV (As := [.int j_3, .int j_5, .int (0 : Int32)]) (rest := []) ⟨hx, hb, hml, hown, hts⟩ (c_X11_throwing l dC dI cI cJ cZ a_md a_mpart a_mother a_mmagnitude a_mminus a_mreach a_mgain a_msegmentOf a_mbegins a_mlengths a_mknown a_mbelow a_mlatest a_mearly a_magain a_mstates a_mlikely a_mbytes H.size md_thrown md_wide md_high md_band md_style md_isWritten md_isRead md_planes md_passes md_segments md_writing md_plane md_raw md_faults md_size md_begin md_low md_carried md_span md_room md_place md_limit md_next md_last md_upper j_3 j_5 (0 : Int32)) (cwV 3 hts gX11_known_X11_throwing rfl rfl rfl (by decide +kernel) ⟨Nat.le_of_ble_eq_true rfl, Nat.le_of_ble_eq_true rfl⟩) ⟨fun a U g mk q => by obtain ⟨q0, q1, qP, qK, qD⟩ := q; exact ⟨q0, q1, qP, va_K.moved (u := U) (U := U.calling g mk a) (Vm.Alike.refl U.vm) qK, qD⟩, va_recv hK hPc (ci := 10) (q0 := 0) rfl rfl, fun U hU hW => ⟨rfl, by rw [hU], by rw [hU]; exact hPc, va_K.moved hW.alike hK, hDc.weaken (fun _ _ _ _ => trivial)⟩⟩ rfl rfl hl.1 rfl (lv_room (Nat.le_of_ble_eq_true rfl)) dX11_known_28 ⟨Nat.le_of_ble_eq_true rfl, Nat.le_of_ble_eq_true rfl⟩) hS (fun q _ h => hFc q h) hFc (fun r u t H1 locs ht hvm hw hB hz1 hk1 hS => ?_)
      obtain ⟨hP1, hK1, hD1⟩ := hB
      rw [ht] at hP1
      obtain ⟨r_6, hr_6⟩ : ∃ z, F_X11_throwing j_3 j_5 (0 : Int32) = z := ⟨_, rfl⟩
      try rw [hr_6] at hw
      try rw [hr_6] at hP1
      try rw [hr_6] at hD1
      have hg : (if r_6.1 = (0 : Int32) then (mknown_f ((p2 * md_wide) + p1).toNatClampNeg, r_6.2) else ((0 : Int32), r_6.2)) = g := by first | (rw [hr_6] at hg; exact hg) | (subst hr_6; exact hg)
      subst hw
      obtain ⟨hP, hD⟩ := va_join (wr := [(a_mknown, .inl (cI, mknown_n, .inl mknown_f))]) (w1 := (wd_md a_md a_mpart a_mother a_mmagnitude a_mminus a_mreach a_mgain a_msegmentOf a_mbegins a_mlengths a_mknown a_mbelow a_mlatest a_mearly a_magain a_mstates a_mlikely a_mbytes r_6.2 md_wide md_high md_band md_style md_isWritten md_isRead md_planes md_passes md_segments md_writing md_plane md_raw md_faults md_size md_begin md_low md_carried md_span md_room md_place md_limit md_next md_last md_upper)) hP hD [0] [1] rfl rfl (by decide) (by decide) hk1 hFc hP1 hD1
      have hP : va_P (dC, dI) vwCl (wd_md_mknown cI a_md a_mpart a_mother a_mmagnitude a_mminus a_mreach a_mgain a_msegmentOf a_mbegins a_mlengths a_mknown a_mbelow a_mlatest a_mearly a_magain a_mstates a_mlikely a_mbytes r_6.2 md_wide md_high md_band md_style md_isWritten md_isRead md_planes md_passes md_segments md_writing md_plane md_raw md_faults md_size md_begin md_low md_carried md_span md_room md_place md_limit md_next md_last md_upper mknown_n mknown_f) H1 := hP.sub [1, 0] rfl
      have hD : va_D A (wd_md_mknown cI a_md a_mpart a_mother a_mmagnitude a_mminus a_mreach a_mgain a_msegmentOf a_mbegins a_mlengths a_mknown a_mbelow a_mlatest a_mearly a_magain a_mstates a_mlikely a_mbytes r_6.2 md_wide md_high md_band md_style md_isWritten md_isRead md_planes md_passes md_segments md_writing md_plane md_raw md_faults md_size md_begin md_low md_carried md_span md_room md_place md_limit md_next md_last md_upper mknown_n mknown_f) := hD.sub [1, 0] (by decide) rfl
      generalize H1 = H at hP hS ⊢
      have hpre := hpre r_6 hr_6
      refine lv_if_eq (tgt := 36) hx hb dX11_known_31 (by decide) (fun c_7 => ?_) (fun c_7 => ?_)
      · rw [if_pos c_7] at hg
        have hpre := hpre c_7
        refine lv_aload_n hx hb dX11_known_36 rfl (lv_at hl 0 rfl) ?_
        refine va_get (D := (dC, dI)) (ci := 10) (v := .ref a_mknown) (C := RX11) (T := TX11) (N := 42) hx hb hts iw_X11_known_X11 hown hK hP 0 rfl rfl 20 (by decide) (hts (.fieldLink RX11 46 "PlaneBlocksModel" "known" "[I") (by decide +kernel)) (fun _ h9 => h9) rfl dX11_known_37 ?_
        refine lv_iload_n hx hb dX11_known_40 rfl (lv_at hl 2 rfl) ?_
        refine lv_aload_n hx hb dX11_known_41 rfl (lv_at hl 0 rfl) ?_
        refine va_get (D := (dC, dI)) (ci := 10) (v := .int md_wide) (C := RX11) (T := TX11) (N := 42) hx hb hts iw_X11_known_X11 hown hK hP 0 rfl rfl 3 (by decide) (hts (.fieldLink RX11 16 "PlaneBlocksModel" "wide" "I") (by decide +kernel)) (fun _ h9 => h9) rfl dX11_known_42 ?_
        refine lv_imul hx hb dX11_known_45 ?_
        refine lv_iload_n hx hb dX11_known_46 rfl (lv_at hl 1 rfl) ?_
        refine lv_iadd hx hb dX11_known_47 ?_
        have h_8 := hpre
        refine va_iald hx hb hK hP 1 0 rfl rfl h_8 dX11_known_48 ?_
        subst hg
        rw [← hQe]
        exact W.iret (v := (mknown_f ((p2 * md_wide) + p1).toNatClampNeg)) hx hb hr (fun t ht hW => ⟨⟨(mknown_f ((p2 * md_wide) + p1).toNatClampNeg), (), rfl, rfl, by rw [ht]; exact hP, va_K.moved hW.alike hK, hD⟩, hS.F ht⟩) hS.2.2 dX11_known_49
      · rw [if_neg c_7] at hg
        refine lv_iconst (v := 0) hx hb dX11_known_34 (by decide) ?_
        subst hg
        rw [← hQe]
        exact W.iret (v := (0 : Int32)) hx hb hr (fun t ht hW => ⟨⟨(0 : Int32), (), rfl, rfl, by rw [ht]; exact hP, va_K.moved hW.alike hK, hD⟩, hS.F ht⟩) hS.2.2 dX11_known_35
    have hg : (if md_isRead = (0 : Int32) then (1 : Int32) else (0 : Int32)) = j_5 := by rw [← hj_5]; rfl
    clear hj_5
    refine lv_if_ne (tgt := 26) hx hb dX11_known_19 (by decide) (fun c_4 => ?_) (fun c_4 => ?_)
    · rw [if_neg c_4] at hg
      refine lv_iconst (v := 0) hx hb dX11_known_26 (by decide) ?_
      rw [← hg] at hJ_j_5
      exact hJ_j_5 _ _ _ hP hD hS (lv_sub hl [0, 1, 2] rfl)
    · rw [if_pos c_4] at hg
      refine lv_iconst (v := 1) hx hb dX11_known_22 (by decide) ?_
      refine lv_goto (tgt := 27) hx hb dX11_known_23 (by decide) ?_
      rw [← hg] at hJ_j_5
      exact hJ_j_5 _ _ _ hP hD hS (lv_sub hl [0, 1, 2] rfl)
  have hg : (if r_1 = (0 : Int32) then (1 : Int32) else (0 : Int32)) = j_3 := by rw [← hj_3]; rfl
  clear hj_3
  refine lv_if_ne (tgt := 14) hx hb dX11_known_7 (by decide) (fun c_2 => ?_) (fun c_2 => ?_)
  · rw [if_neg c_2] at hg
    refine lv_iconst (v := 0) hx hb dX11_known_14 (by decide) ?_
    rw [← hg] at hJ_j_3
    exact hJ_j_3 _ _ _ hP hD hS (lv_sub hl [0, 1, 2] rfl)
  · rw [if_pos c_2] at hg
    refine lv_iconst (v := 1) hx hb dX11_known_10 (by decide) ?_
    refine lv_goto (tgt := 15) hx hb dX11_known_11 (by decide) ?_
    rw [← hg] at hJ_j_3
    exact hJ_j_3 _ _ _ hP hD hS (lv_sub hl [0, 1, 2] rfl)
abbrev rm_X11_sum_ : Room := { frames := 2, cells := 0, slots := 0, locals := 42 }
abbrev Q_X11_sum_ (dC : Nat → ClassId) (dI : Nat → Nat → Nat) (cI cJ cZ : ClassId) (a_md : Nat) (a_mpart : Nat) (a_mother : Nat) (a_mmagnitude : Nat) (a_mminus : Nat) (a_mreach : Nat) (a_mgain : Nat) (a_msegmentOf : Nat) (a_mbegins : Nat) (a_mlengths : Nat) (a_mknown : Nat) (a_mbelow : Nat) (a_mlatest : Nat) (a_mearly : Nat) (a_magain : Nat) (a_mstates : Nat) (a_mlikely : Nat) (a_mbytes : Nat) (A : Nat → Prop) (md_thrown : Int32) (md_wide : Int32) (md_high : Int32) (md_band : Int32) (md_style : Int32) (md_isWritten : Int32) (md_isRead : Int32) (md_planes : Int32) (md_passes : Int32) (md_segments : Int32) (md_writing : Int32) (md_plane : Int32) (md_raw : Int32) (md_faults : Int32) (md_size : Int32) (md_begin : Int32) (md_low : Int32) (md_carried : Int32) (md_span : Int32) (md_room : Int32) (md_place : Int32) (md_limit : Int32) (md_next : Int32) (md_last : Int32) (md_upper : Int64) (mknown_n : Nat) (mknown_f : Nat → Int32) (mbelow_n : Nat) (mbelow_f : Nat → Int32) (mlatest_n : Nat) (mlatest_f : Nat → Int32) (g : (Int32 × Int32)) : Array Value → State → Outcome → State → Prop := va_Qi (fun (r : Int32) (_ : Unit) => r = g.1) (fun u t => va_P (dC, dI) vwCl (wd_md_mknown_mbelow_mlatest cI cZ a_md a_mpart a_mother a_mmagnitude a_mminus a_mreach a_mgain a_msegmentOf a_mbegins a_mlengths a_mknown a_mbelow a_mlatest a_mearly a_magain a_mstates a_mlikely a_mbytes g.2 md_wide md_high md_band md_style md_isWritten md_isRead md_planes md_passes md_segments md_writing md_plane md_raw md_faults md_size md_begin md_low md_carried md_span md_room md_place md_limit md_next md_last md_upper mknown_n mknown_f mbelow_n mbelow_f mlatest_n mlatest_f) t.heap ∧ va_K (dC, dI) vwCl [(cI, .int), (cJ, .long), (cZ, .boolean)] t ∧ va_D A (wd_md_mknown_mbelow_mlatest cI cZ a_md a_mpart a_mother a_mmagnitude a_mminus a_mreach a_mgain a_msegmentOf a_mbegins a_mlengths a_mknown a_mbelow a_mlatest a_mearly a_magain a_mstates a_mlikely a_mbytes g.2 md_wide md_high md_band md_style md_isWritten md_isRead md_planes md_passes md_segments md_writing md_plane md_raw md_faults md_size md_begin md_low md_carried md_span md_room md_place md_limit md_next md_last md_upper mknown_n mknown_f mbelow_n mbelow_f mlatest_n mlatest_f)) A
theorem iw_X11_sum__X11 : ∀ w ∈ u_ws RX11 TX11 42, w ∈ wsX11_sum_ := by decide +kernel
set_option maxHeartbeats 4000000 in
set_option maxRecDepth 100000 in
theorem c_X11_sum_ (l : Launch) (dC : Nat → ClassId) (dI : Nat → Nat → Nat) (cI cJ cZ : ClassId) (a_md : Nat) (a_mpart : Nat) (a_mother : Nat) (a_mmagnitude : Nat) (a_mminus : Nat) (a_mreach : Nat) (a_mgain : Nat) (a_msegmentOf : Nat) (a_mbegins : Nat) (a_mlengths : Nat) (a_mknown : Nat) (a_mbelow : Nat) (a_mlatest : Nat) (a_mearly : Nat) (a_magain : Nat) (a_mstates : Nat) (a_mlikely : Nat) (a_mbytes : Nat) (sz : Nat) (md_thrown : Int32) (md_wide : Int32) (md_high : Int32) (md_band : Int32) (md_style : Int32) (md_isWritten : Int32) (md_isRead : Int32) (md_planes : Int32) (md_passes : Int32) (md_segments : Int32) (md_writing : Int32) (md_plane : Int32) (md_raw : Int32) (md_faults : Int32) (md_size : Int32) (md_begin : Int32) (md_low : Int32) (md_carried : Int32) (md_span : Int32) (md_room : Int32) (md_place : Int32) (md_limit : Int32) (md_next : Int32) (md_last : Int32) (md_upper : Int64) (mknown_n : Nat) (mknown_f : Nat → Int32) (mbelow_n : Nat) (mbelow_f : Nat → Int32) (mlatest_n : Nat) (mlatest_f : Nat → Int32) (hpre : P_X11_sum_ md_wide md_high md_isRead mknown_n mknown_f mbelow_n mbelow_f mlatest_n mlatest_f) : Met l yX11_sum_ wsX11_sum_ rm_X11_sum_ (va_Pc [.ref a_md] (fun U => U.heap.size = sz ∧ va_P (dC, dI) vwCl (wd_md_mknown_mbelow_mlatest cI cZ a_md a_mpart a_mother a_mmagnitude a_mminus a_mreach a_mgain a_msegmentOf a_mbegins a_mlengths a_mknown a_mbelow a_mlatest a_mearly a_magain a_mstates a_mlikely a_mbytes md_thrown md_wide md_high md_band md_style md_isWritten md_isRead md_planes md_passes md_segments md_writing md_plane md_raw md_faults md_size md_begin md_low md_carried md_span md_room md_place md_limit md_next md_last md_upper mknown_n mknown_f mbelow_n mbelow_f mlatest_n mlatest_f) U.heap ∧ va_K (dC, dI) vwCl [(cI, .int), (cJ, .long), (cZ, .boolean)] U ∧ va_D (fun _ => True) (wd_md_mknown_mbelow_mlatest cI cZ a_md a_mpart a_mother a_mmagnitude a_mminus a_mreach a_mgain a_msegmentOf a_mbegins a_mlengths a_mknown a_mbelow a_mlatest a_mearly a_magain a_mstates a_mlikely a_mbytes md_thrown md_wide md_high md_band md_style md_isWritten md_isRead md_planes md_passes md_segments md_writing md_plane md_raw md_faults md_size md_begin md_low md_carried md_span md_room md_place md_limit md_next md_last md_upper mknown_n mknown_f mbelow_n mbelow_f mlatest_n mlatest_f))) (Q_X11_sum_ dC dI cI cJ cZ a_md a_mpart a_mother a_mmagnitude a_mminus a_mreach a_mgain a_msegmentOf a_mbegins a_mlengths a_mknown a_mbelow a_mlatest a_mearly a_magain a_mstates a_mlikely a_mbytes (va_A (wd_md_mknown_mbelow_mlatest cI cZ a_md a_mpart a_mother a_mmagnitude a_mminus a_mreach a_mgain a_msegmentOf a_mbegins a_mlengths a_mknown a_mbelow a_mlatest a_mearly a_magain a_mstates a_mlikely a_mbytes md_thrown md_wide md_high md_band md_style md_isWritten md_isRead md_planes md_passes md_segments md_writing md_plane md_raw md_faults md_size md_begin md_low md_carried md_span md_room md_place md_limit md_next md_last md_upper mknown_n mknown_f mbelow_n mbelow_f mlatest_n mlatest_f) sz) md_thrown md_wide md_high md_band md_style md_isWritten md_isRead md_planes md_passes md_segments md_writing md_plane md_raw md_faults md_size md_begin md_low md_carried md_span md_room md_place md_limit md_next md_last md_upper mknown_n mknown_f mbelow_n mbelow_f mlatest_n mlatest_f (F_X11_sum_ md_wide md_high md_isRead mknown_f mbelow_f mlatest_f)) 0 0 (va_A (wd_md_mknown_mbelow_mlatest cI cZ a_md a_mpart a_mother a_mmagnitude a_mminus a_mreach a_mgain a_msegmentOf a_mbegins a_mlengths a_mknown a_mbelow a_mlatest a_mearly a_magain a_mstates a_mlikely a_mbytes md_thrown md_wide md_high md_band md_style md_isWritten md_isRead md_planes md_passes md_segments md_writing md_plane md_raw md_faults md_size md_begin md_low md_carried md_span md_room md_place md_limit md_next md_last md_upper mknown_n mknown_f mbelow_n mbelow_f mlatest_n mlatest_f) sz) := by
  refine Met.ofW (cc := cX11_sum_) (maxL := 3) (ret := (some .int)) (by decide) rfl ?_
  intro p e s m args below meth c s₁ B hml hv
  obtain ⟨rfl, hsz, hP, hK, hD0⟩ := hv
  have hx := B.exec
  have hb := B.bytes
  have hr := B.returns
  have hts := atoms_spec (ws := wsX11_sum_) B.pre
  have hown : s.vm.findClass RX11 = some m.cls := findClass_of_methodNamed B.named
  have hlocks := B.notSynchronized
  subst hsz
  have hD := hD0.self (sz := s.heap.size)
  generalize hAe : va_A (wd_md_mknown_mbelow_mlatest cI cZ a_md a_mpart a_mother a_mmagnitude a_mminus a_mreach a_mgain a_msegmentOf a_mbegins a_mlengths a_mknown a_mbelow a_mlatest a_mearly a_magain a_mstates a_mlikely a_mbytes md_thrown md_wide md_high md_band md_style md_isWritten md_isRead md_planes md_passes md_segments md_writing md_plane md_raw md_faults md_size md_begin md_low md_carried md_span md_room md_place md_limit md_next md_last md_upper mknown_n mknown_f mbelow_n mbelow_f mlatest_n mlatest_f) s.heap.size = A at hD ⊢
  have hA : ∀ q : Nat, s.heap.size ≤ q → A q := fun q h => by rw [← hAe]; exact Or.inr h
  have hS : va_S A s.heap s.heap [] := va_S.rf
  obtain ⟨H, hH⟩ : ∃ z, z = s.heap := ⟨_, rfl⟩
  have hP : va_P (dC, dI) vwCl (wd_md_mknown_mbelow_mlatest cI cZ a_md a_mpart a_mother a_mmagnitude a_mminus a_mreach a_mgain a_msegmentOf a_mbegins a_mlengths a_mknown a_mbelow a_mlatest a_mearly a_magain a_mstates a_mlikely a_mbytes md_thrown md_wide md_high md_band md_style md_isWritten md_isRead md_planes md_passes md_segments md_writing md_plane md_raw md_faults md_size md_begin md_low md_carried md_span md_room md_place md_limit md_next md_last md_upper mknown_n mknown_f mbelow_n mbelow_f mlatest_n mlatest_f) H := by rw [hH]; exact hP
  have hS : va_S A s.heap H [] := by rw [hH]; exact va_S.rf
  obtain ⟨g, hg⟩ : ∃ z, F_X11_sum_ md_wide md_high md_isRead mknown_f mbelow_f mlatest_f = z := ⟨_, rfl⟩
  rw [hg]
  generalize hQe : MQ below (Q_X11_sum_ dC dI cI cJ cZ a_md a_mpart a_mother a_mmagnitude a_mminus a_mreach a_mgain a_msegmentOf a_mbegins a_mlengths a_mknown a_mbelow a_mlatest a_mearly a_magain a_mstates a_mlikely a_mbytes A md_thrown md_wide md_high md_band md_style md_isWritten md_isRead md_planes md_passes md_segments md_writing md_plane md_raw md_faults md_size md_begin md_low md_carried md_span md_room md_place md_limit md_next md_last md_upper mknown_n mknown_f mbelow_n mbelow_f mlatest_n mlatest_f g) _ s 0 0 A = Q
  rw [← hH]
  clear hH
  have hl := lv_entry ([.ref a_md]) (n := 3) (Nat.le_of_ble_eq_true rfl)
  rw [lg_entry_eq]
  generalize (lg_sl ([.ref a_md]) ++ List.replicate (3 - (lg_sl ([.ref a_md])).length) Slot.unset).toArray = ls at hl ⊢
  have hl : lv_has ls 3 [(0, .ref a_md)] := hl
  unfold F_X11_sum_ at hg
  unfold P_X11_sum_ at hpre
  refine lv_aload_n hx hb dX11_sum__0 rfl (lv_at hl 0 rfl) ?_
  refine lv_aload_n hx hb dX11_sum__1 rfl (lv_at hl 0 rfl) ?_
  refine va_get (D := (dC, dI)) (ci := 10) (v := .int md_isRead) (C := RX11) (T := TX11) (N := 42) hx hb hts iw_X11_sum__X11 hown hK hP 0 rfl rfl 10 (by decide) (hts (.fieldLink RX11 246 "PlaneBlocksModel" "isRead" "Z") (by decide +kernel)) (fun _ h9 => h9) rfl dX11_sum__2 ?_
  obtain ⟨j_2, hj_2⟩ : ∃ z, J_X11_sum__j_2 md_isRead = z := ⟨_, rfl⟩
  have hg : (let r_3 := F_X11_throwing j_2 (0 : Int32) (0 : Int32); if r_3.1 = (0 : Int32) then (let j_5 := L_X11_sum__j_5 md_wide md_high mknown_f mbelow_f mlatest_f fu (0 : Int32) (0 : Int32); (j_5.1, r_3.2)) else ((0 : Int32), r_3.2)) = g := by first | (rw [hj_2] at hg; exact hg) | (subst hj_2; exact hg)
  have hJ_j_2 : ∀ (H : Heap) (locs : List Loc) (ls : Array Slot), va_P (dC, dI) vwCl (wd_md_mknown_mbelow_mlatest cI cZ a_md a_mpart a_mother a_mmagnitude a_mminus a_mreach a_mgain a_msegmentOf a_mbegins a_mlengths a_mknown a_mbelow a_mlatest a_mearly a_magain a_mstates a_mlikely a_mbytes md_thrown md_wide md_high md_band md_style md_isWritten md_isRead md_planes md_passes md_segments md_writing md_plane md_raw md_faults md_size md_begin md_low md_carried md_span md_room md_place md_limit md_next md_last md_upper mknown_n mknown_f mbelow_n mbelow_f mlatest_n mlatest_f) H → va_D A (wd_md_mknown_mbelow_mlatest cI cZ a_md a_mpart a_mother a_mmagnitude a_mminus a_mreach a_mgain a_msegmentOf a_mbegins a_mlengths a_mknown a_mbelow a_mlatest a_mearly a_magain a_mstates a_mlikely a_mbytes md_thrown md_wide md_high md_band md_style md_isWritten md_isRead md_planes md_passes md_segments md_writing md_plane md_raw md_faults md_size md_begin md_low md_carried md_span md_room md_place md_limit md_next md_last md_upper mknown_n mknown_f mbelow_n mbelow_f mlatest_n mlatest_f) → va_S A s.heap H locs → lv_has ls 3 [(0, .ref a_md)] → W p l e (headSpec wsX11_sum_ rm_X11_sum_).room s m ([.ref a_md] : List Value).toArray below meth c H locs 0 0 Q (F0 m 13 ls [.int j_2, .ref a_md]) := by
    intro H locs ls hP hD hS hl
    have hpre := hpre j_2 hj_2
    refine lv_iconst (v := 0) hx hb dX11_sum__13 (by decide) ?_
    refine lv_iconst (v := 0) hx hb dX11_sum__14 (by decide) ?_
    have hPc := hP.sub (ws' := (wd_md a_md a_mpart a_mother a_mmagnitude a_mminus a_mreach a_mgain a_msegmentOf a_mbegins a_mlengths a_mknown a_mbelow a_mlatest a_mearly a_magain a_mstates a_mlikely a_mbytes md_thrown md_wide md_high md_band md_style md_isWritten md_isRead md_planes md_passes md_segments md_writing md_plane md_raw md_faults md_size md_begin md_low md_carried md_span md_room md_place md_limit md_next md_last md_upper)) [0] rfl
    have hDc := hD.sub (ws' := (wd_md a_md a_mpart a_mother a_mmagnitude a_mminus a_mreach a_mgain a_msegmentOf a_mbegins a_mlengths a_mknown a_mbelow a_mlatest a_mearly a_magain a_mstates a_mlikely a_mbytes md_thrown md_wide md_high md_band md_style md_isWritten md_isRead md_planes md_passes md_segments md_writing md_plane md_raw md_faults md_size md_begin md_low md_carried md_span md_room md_place md_limit md_next md_last md_upper)) [0] (by decide) rfl
    have hFc := va_free (wc := (wd_md a_md a_mpart a_mother a_mmagnitude a_mminus a_mreach a_mgain a_msegmentOf a_mbegins a_mlengths a_mknown a_mbelow a_mlatest a_mearly a_magain a_mstates a_mlikely a_mbytes md_thrown md_wide md_high md_band md_style md_isWritten md_isRead md_planes md_passes md_segments md_writing md_plane md_raw md_faults md_size md_begin md_low md_carried md_span md_room md_place md_limit md_next md_last md_upper)) hD hS hA [0] rfl
    refine va_calli (va_runV (As := [.int j_2, .int (0 : Int32), .int (0 : Int32)]) (rest := []) ⟨hx, hb, hml, hown, hts⟩ (c_X11_throwing l dC dI cI cJ cZ a_md a_mpart a_mother a_mmagnitude a_mminus a_mreach a_mgain a_msegmentOf a_mbegins a_mlengths a_mknown a_mbelow a_mlatest a_mearly a_magain a_mstates a_mlikely a_mbytes H.size md_thrown md_wide md_high md_band md_style md_isWritten md_isRead md_planes md_passes md_segments md_writing md_plane md_raw md_faults md_size md_begin md_low md_carried md_span md_room md_place md_limit md_next md_last md_upper j_2 (0 : Int32) (0 : Int32)) (cwV 3 hts gX11_sum__X11_throwing rfl rfl rfl (by decide +kernel) ⟨Nat.le_of_ble_eq_true rfl, Nat.le_of_ble_eq_true rfl⟩) ⟨fun a U g mk q => by obtain ⟨q0, q1, qP, qK, qD⟩ := q; exact ⟨q0, q1, qP, va_K.moved (u := U) (U := U.calling g mk a) (Vm.Alike.refl U.vm) qK, qD⟩, va_recv hK hPc (ci := 10) (q0 := 0) rfl rfl, fun U hU hW => ⟨rfl, by rw [hU], by rw [hU]; exact hPc, va_K.moved hW.alike hK, hDc.weaken (fun _ _ _ _ => trivial)⟩⟩ rfl rfl hl.1 rfl (lv_room (Nat.le_of_ble_eq_true rfl)) dX11_sum__15 ⟨Nat.le_of_ble_eq_true rfl, Nat.le_of_ble_eq_true rfl⟩) hS (fun q _ h => hFc q h) hFc (fun r u t H1 locs ht hvm hw hB hz1 hk1 hS => ?_)
    obtain ⟨hP1, hK1, hD1⟩ := hB
    rw [ht] at hP1
    obtain ⟨r_3, hr_3⟩ : ∃ z, F_X11_throwing j_2 (0 : Int32) (0 : Int32) = z := ⟨_, rfl⟩
    try rw [hr_3] at hw
    try rw [hr_3] at hP1
    try rw [hr_3] at hD1
    have hg : (if r_3.1 = (0 : Int32) then (let j_5 := L_X11_sum__j_5 md_wide md_high mknown_f mbelow_f mlatest_f fu (0 : Int32) (0 : Int32); (j_5.1, r_3.2)) else ((0 : Int32), r_3.2)) = g := by first | (rw [hr_3] at hg; exact hg) | (subst hr_3; exact hg)
    subst hw
    obtain ⟨hP, hD⟩ := va_join (wr := [(a_mknown, .inl (cI, mknown_n, .inl mknown_f)), (a_mbelow, .inl (cZ, mbelow_n, .inl mbelow_f)), (a_mlatest, .inl (cI, mlatest_n, .inl mlatest_f))]) (w1 := (wd_md a_md a_mpart a_mother a_mmagnitude a_mminus a_mreach a_mgain a_msegmentOf a_mbegins a_mlengths a_mknown a_mbelow a_mlatest a_mearly a_magain a_mstates a_mlikely a_mbytes r_3.2 md_wide md_high md_band md_style md_isWritten md_isRead md_planes md_passes md_segments md_writing md_plane md_raw md_faults md_size md_begin md_low md_carried md_span md_room md_place md_limit md_next md_last md_upper)) hP hD [0] [1, 2, 3] rfl rfl (by decide) (by decide) hk1 hFc hP1 hD1
    have hP : va_P (dC, dI) vwCl (wd_md_mknown_mbelow_mlatest cI cZ a_md a_mpart a_mother a_mmagnitude a_mminus a_mreach a_mgain a_msegmentOf a_mbegins a_mlengths a_mknown a_mbelow a_mlatest a_mearly a_magain a_mstates a_mlikely a_mbytes r_3.2 md_wide md_high md_band md_style md_isWritten md_isRead md_planes md_passes md_segments md_writing md_plane md_raw md_faults md_size md_begin md_low md_carried md_span md_room md_place md_limit md_next md_last md_upper mknown_n mknown_f mbelow_n mbelow_f mlatest_n mlatest_f) H1 := hP.sub [3, 0, 1, 2] rfl
    have hD : va_D A (wd_md_mknown_mbelow_mlatest cI cZ a_md a_mpart a_mother a_mmagnitude a_mminus a_mreach a_mgain a_msegmentOf a_mbegins a_mlengths a_mknown a_mbelow a_mlatest a_mearly a_magain a_mstates a_mlikely a_mbytes r_3.2 md_wide md_high md_band md_style md_isWritten md_isRead md_planes md_passes md_segments md_writing md_plane md_raw md_faults md_size md_begin md_low md_carried md_span md_room md_place md_limit md_next md_last md_upper mknown_n mknown_f mbelow_n mbelow_f mlatest_n mlatest_f) := hD.sub [3, 0, 1, 2] (by decide) rfl
    generalize H1 = H at hP hS ⊢
    have hpre := hpre r_3 hr_3
    refine lv_if_eq (tgt := 23) hx hb dX11_sum__18 (by decide) (fun c_4 => ?_) (fun c_4 => ?_)
    · rw [if_pos c_4] at hg
      have hpre := hpre c_4
      refine lv_iconst (v := 0) hx hb dX11_sum__23 (by decide) ?_
      refine lv_istore_n (lv' := [(1, .int (0 : Int32)), (0, .ref a_md)]) hx hb dX11_sum__24 rfl hl (by decide) rfl (fun ls hl => ?_)
      refine lv_iconst (v := 0) hx hb dX11_sum__25 (by decide) ?_
      refine lv_istore_n (lv' := [(2, .int (0 : Int32)), (1, .int (0 : Int32)), (0, .ref a_md)]) hx hb dX11_sum__26 rfl hl (by decide) rfl (fun ls hl => ?_)
      obtain ⟨j_5, hj_5⟩ : ∃ z, L_X11_sum__j_5 md_wide md_high mknown_f mbelow_f mlatest_f fu (0 : Int32) (0 : Int32) = z := ⟨_, rfl⟩
      have hg : (j_5.1, r_3.2) = g := by first | (rw [hj_5] at hg; exact hg) | (subst hj_5; exact hg)
      have hJ_j_5 : ∀ (H : Heap) (locs : List Loc) (ls : Array Slot), va_P (dC, dI) vwCl (wd_md_mknown_mbelow_mlatest cI cZ a_md a_mpart a_mother a_mmagnitude a_mminus a_mreach a_mgain a_msegmentOf a_mbegins a_mlengths a_mknown a_mbelow a_mlatest a_mearly a_magain a_mstates a_mlikely a_mbytes r_3.2 md_wide md_high md_band md_style md_isWritten md_isRead md_planes md_passes md_segments md_writing md_plane md_raw md_faults md_size md_begin md_low md_carried md_span md_room md_place md_limit md_next md_last md_upper mknown_n mknown_f mbelow_n mbelow_f mlatest_n mlatest_f) H → va_D A (wd_md_mknown_mbelow_mlatest cI cZ a_md a_mpart a_mother a_mmagnitude a_mminus a_mreach a_mgain a_msegmentOf a_mbegins a_mlengths a_mknown a_mbelow a_mlatest a_mearly a_magain a_mstates a_mlikely a_mbytes r_3.2 md_wide md_high md_band md_style md_isWritten md_isRead md_planes md_passes md_segments md_writing md_plane md_raw md_faults md_size md_begin md_low md_carried md_span md_room md_place md_limit md_next md_last md_upper mknown_n mknown_f mbelow_n mbelow_f mlatest_n mlatest_f) → va_S A s.heap H locs → lv_has ls 3 [(0, .ref a_md), (1, .int j_5.1), (2, .int j_5.2)] → W p l e (headSpec wsX11_sum_ rm_X11_sum_).room s m ([.ref a_md] : List Value).toArray below meth c H locs 0 0 Q (F0 m 57 ls []) := by
        intro H locs ls hP hD hS hl
        refine lv_iload_n hx hb dX11_sum__57 rfl (lv_at hl 1 rfl) ?_
        subst hg
        rw [← hQe]
        exact W.iret (v := j_5.1) hx hb hr (fun t ht hW => ⟨⟨j_5.1, (), rfl, rfl, by rw [ht]; exact hP, va_K.moved hW.alike hK, hD⟩, hS.F ht⟩) hS.2.2 dX11_sum__58
      have hL_j_5 : ∀ (n : Nat) (v1_j_5 : Int32) (v2_j_5 : Int32) (H : Heap) (locs : List Loc) (ls : Array Slot), PL_X11_sum__j_5 md_wide md_high mknown_n mknown_f mbelow_n mbelow_f mlatest_n mlatest_f n v1_j_5 v2_j_5 → L_X11_sum__j_5 md_wide md_high mknown_f mbelow_f mlatest_f n v1_j_5 v2_j_5 = j_5 → va_P (dC, dI) vwCl (wd_md_mknown_mbelow_mlatest cI cZ a_md a_mpart a_mother a_mmagnitude a_mminus a_mreach a_mgain a_msegmentOf a_mbegins a_mlengths a_mknown a_mbelow a_mlatest a_mearly a_magain a_mstates a_mlikely a_mbytes r_3.2 md_wide md_high md_band md_style md_isWritten md_isRead md_planes md_passes md_segments md_writing md_plane md_raw md_faults md_size md_begin md_low md_carried md_span md_room md_place md_limit md_next md_last md_upper mknown_n mknown_f mbelow_n mbelow_f mlatest_n mlatest_f) H → va_D A (wd_md_mknown_mbelow_mlatest cI cZ a_md a_mpart a_mother a_mmagnitude a_mminus a_mreach a_mgain a_msegmentOf a_mbegins a_mlengths a_mknown a_mbelow a_mlatest a_mearly a_magain a_mstates a_mlikely a_mbytes r_3.2 md_wide md_high md_band md_style md_isWritten md_isRead md_planes md_passes md_segments md_writing md_plane md_raw md_faults md_size md_begin md_low md_carried md_span md_room md_place md_limit md_next md_last md_upper mknown_n mknown_f mbelow_n mbelow_f mlatest_n mlatest_f) → va_S A s.heap H locs → lv_has ls 3 [(0, .ref a_md), (1, .int v1_j_5), (2, .int v2_j_5)] → W p l e (headSpec wsX11_sum_ rm_X11_sum_).room s m ([.ref a_md] : List Value).toArray below meth c H locs 0 0 Q (F0 m 27 ls []) := by
        intro n
        induction n with
        | zero => intro v1_j_5 v2_j_5 H locs ls hpre; exact absurd hpre id
        | succ n ih =>
          intro v1_j_5 v2_j_5 H locs ls hpre hg hP hD hS hl
          rw [PL_X11_sum__j_5] at hpre
          rw [L_X11_sum__j_5] at hg
          refine lv_iload_n hx hb dX11_sum__27 rfl (lv_at hl 2 rfl) ?_
          refine lv_aload_n hx hb dX11_sum__28 rfl (lv_at hl 0 rfl) ?_
          refine va_get (D := (dC, dI)) (ci := 10) (v := .int md_wide) (C := RX11) (T := TX11) (N := 42) hx hb hts iw_X11_sum__X11 hown hK hP 0 rfl rfl 3 (by decide) (hts (.fieldLink RX11 16 "PlaneBlocksModel" "wide" "I") (by decide +kernel)) (fun _ h9 => h9) rfl dX11_sum__29 ?_
          refine lv_aload_n hx hb dX11_sum__32 rfl (lv_at hl 0 rfl) ?_
          refine va_get (D := (dC, dI)) (ci := 10) (v := .int md_high) (C := RX11) (T := TX11) (N := 42) hx hb hts iw_X11_sum__X11 hown hK hP 0 rfl rfl 4 (by decide) (hts (.fieldLink RX11 20 "PlaneBlocksModel" "high" "I") (by decide +kernel)) (fun _ h9 => h9) rfl dX11_sum__33 ?_
          refine lv_imul hx hb dX11_sum__36 ?_
          refine lv_icmp_ge (tgt := 57) hx hb dX11_sum__37 (by decide) (fun c_6 => ?_) (fun c_6 => ?_)
          · rw [if_pos c_6] at hg
            exact hJ_j_5 _ _ _ hP hD hS (by rw [← hg]; exact lv_sub hl [0, 1, 2] rfl)
          · rw [if_neg c_6] at hg
            have hpre := hpre c_6
            refine lv_bipush (v := 31) hx hb dX11_sum__40 (by decide) ?_
            refine lv_iload_n hx hb dX11_sum__42 rfl (lv_at hl 1 rfl) ?_
            refine lv_imul hx hb dX11_sum__43 ?_
            refine lv_aload_n hx hb dX11_sum__44 rfl (lv_at hl 0 rfl) ?_
            refine lv_iload_n hx hb dX11_sum__45 rfl (lv_at hl 2 rfl) ?_
            have hPc := hP.sub (ws' := (wd_md_mknown_mbelow_mlatest cI cZ a_md a_mpart a_mother a_mmagnitude a_mminus a_mreach a_mgain a_msegmentOf a_mbegins a_mlengths a_mknown a_mbelow a_mlatest a_mearly a_magain a_mstates a_mlikely a_mbytes r_3.2 md_wide md_high md_band md_style md_isWritten md_isRead md_planes md_passes md_segments md_writing md_plane md_raw md_faults md_size md_begin md_low md_carried md_span md_room md_place md_limit md_next md_last md_upper mknown_n mknown_f mbelow_n mbelow_f mlatest_n mlatest_f)) [0, 1, 2, 3] rfl
            have hDc := hD.sub (ws' := (wd_md_mknown_mbelow_mlatest cI cZ a_md a_mpart a_mother a_mmagnitude a_mminus a_mreach a_mgain a_msegmentOf a_mbegins a_mlengths a_mknown a_mbelow a_mlatest a_mearly a_magain a_mstates a_mlikely a_mbytes r_3.2 md_wide md_high md_band md_style md_isWritten md_isRead md_planes md_passes md_segments md_writing md_plane md_raw md_faults md_size md_begin md_low md_carried md_span md_room md_place md_limit md_next md_last md_upper mknown_n mknown_f mbelow_n mbelow_f mlatest_n mlatest_f)) [0, 1, 2, 3] (by decide) rfl
            have hFc := va_free (wc := (wd_md_mknown_mbelow_mlatest cI cZ a_md a_mpart a_mother a_mmagnitude a_mminus a_mreach a_mgain a_msegmentOf a_mbegins a_mlengths a_mknown a_mbelow a_mlatest a_mearly a_magain a_mstates a_mlikely a_mbytes r_3.2 md_wide md_high md_band md_style md_isWritten md_isRead md_planes md_passes md_segments md_writing md_plane md_raw md_faults md_size md_begin md_low md_carried md_span md_room md_place md_limit md_next md_last md_upper mknown_n mknown_f mbelow_n mbelow_f mlatest_n mlatest_f)) hD hS hA [0, 1, 2, 3] rfl
            refine va_calli (va_runV (As := [.int v2_j_5]) (rest := [.int ((31 : Int32) * v1_j_5)]) ⟨hx, hb, hml, hown, hts⟩ (c_X11_worthAt l dC dI cI cJ cZ a_md a_mpart a_mother a_mmagnitude a_mminus a_mreach a_mgain a_msegmentOf a_mbegins a_mlengths a_mknown a_mbelow a_mlatest a_mearly a_magain a_mstates a_mlikely a_mbytes H.size r_3.2 md_wide md_high md_band md_style md_isWritten md_isRead md_planes md_passes md_segments md_writing md_plane md_raw md_faults md_size md_begin md_low md_carried md_span md_room md_place md_limit md_next md_last md_upper mknown_n mknown_f mbelow_n mbelow_f mlatest_n mlatest_f v2_j_5 hpre.1) (cwV 1 hts gX11_sum__X11_worthAt rfl rfl rfl (by decide +kernel) ⟨Nat.le_of_ble_eq_true rfl, Nat.le_of_ble_eq_true rfl⟩) ⟨fun a U g mk q => by obtain ⟨q0, q1, qP, qK, qD⟩ := q; exact ⟨q0, q1, qP, va_K.moved (u := U) (U := U.calling g mk a) (Vm.Alike.refl U.vm) qK, qD⟩, va_recv hK hPc (ci := 10) (q0 := 0) rfl rfl, fun U hU hW => ⟨rfl, by rw [hU], by rw [hU]; exact hPc, va_K.moved hW.alike hK, hDc.weaken (fun _ _ _ _ => trivial)⟩⟩ rfl rfl hl.1 rfl (lv_room (Nat.le_of_ble_eq_true rfl)) dX11_sum__46 ⟨Nat.le_of_ble_eq_true rfl, Nat.le_of_ble_eq_true rfl⟩) hS (fun q _ h => hFc q h) hFc (fun r u t H1 locs ht hvm hw hB hz1 hk1 hS => ?_)
            obtain ⟨hP1, hK1, hD1⟩ := hB
            rw [ht] at hP1
            obtain ⟨r_7, hr_7⟩ : ∃ z, F_X11_worthAt v2_j_5 mknown_f mbelow_f mlatest_f = z := ⟨_, rfl⟩
            try rw [hr_7] at hw
            try rw [hr_7] at hP1
            try rw [hr_7] at hD1
            have hg : (L_X11_sum__j_5 md_wide md_high mknown_f mbelow_f mlatest_f n (((31 : Int32) * v1_j_5) + r_7) (v2_j_5 + (1 : Int32))) = j_5 := by first | (rw [hr_7] at hg; exact hg) | (subst hr_7; exact hg)
            have hw := hw.symm
            subst hw
            obtain ⟨hP, hD⟩ := va_join (wr := []) (w1 := (wd_md_mknown_mbelow_mlatest cI cZ a_md a_mpart a_mother a_mmagnitude a_mminus a_mreach a_mgain a_msegmentOf a_mbegins a_mlengths a_mknown a_mbelow a_mlatest a_mearly a_magain a_mstates a_mlikely a_mbytes r_3.2 md_wide md_high md_band md_style md_isWritten md_isRead md_planes md_passes md_segments md_writing md_plane md_raw md_faults md_size md_begin md_low md_carried md_span md_room md_place md_limit md_next md_last md_upper mknown_n mknown_f mbelow_n mbelow_f mlatest_n mlatest_f)) hP hD [0, 1, 2, 3] [] rfl rfl (by decide) (by decide) hk1 hFc hP1 hD1
            have hP : va_P (dC, dI) vwCl (wd_md_mknown_mbelow_mlatest cI cZ a_md a_mpart a_mother a_mmagnitude a_mminus a_mreach a_mgain a_msegmentOf a_mbegins a_mlengths a_mknown a_mbelow a_mlatest a_mearly a_magain a_mstates a_mlikely a_mbytes r_3.2 md_wide md_high md_band md_style md_isWritten md_isRead md_planes md_passes md_segments md_writing md_plane md_raw md_faults md_size md_begin md_low md_carried md_span md_room md_place md_limit md_next md_last md_upper mknown_n mknown_f mbelow_n mbelow_f mlatest_n mlatest_f) H1 := hP.sub [0, 1, 2, 3] rfl
            have hD : va_D A (wd_md_mknown_mbelow_mlatest cI cZ a_md a_mpart a_mother a_mmagnitude a_mminus a_mreach a_mgain a_msegmentOf a_mbegins a_mlengths a_mknown a_mbelow a_mlatest a_mearly a_magain a_mstates a_mlikely a_mbytes r_3.2 md_wide md_high md_band md_style md_isWritten md_isRead md_planes md_passes md_segments md_writing md_plane md_raw md_faults md_size md_begin md_low md_carried md_span md_room md_place md_limit md_next md_last md_upper mknown_n mknown_f mbelow_n mbelow_f mlatest_n mlatest_f) := hD.sub [0, 1, 2, 3] (by decide) rfl
            generalize H1 = H at hP hS ⊢
            have hpre := hpre.2 r_7 hr_7
            refine lv_iadd hx hb dX11_sum__49 ?_
            refine lv_istore_n (lv' := [(1, .int (((31 : Int32) * v1_j_5) + r_7)), (0, .ref a_md), (2, .int v2_j_5)]) hx hb dX11_sum__50 rfl hl (by decide) rfl (fun ls hl => ?_)
            refine lv_iinc (v := (v2_j_5 + (1 : Int32))) (lv' := [(2, .int (v2_j_5 + (1 : Int32))), (1, .int (((31 : Int32) * v1_j_5) + r_7)), (0, .ref a_md)]) hx hb dX11_sum__51 hl (k := 2) rfl rfl (by decide) rfl (fun ls hl => ?_)
            refine lv_goto (tgt := 27) hx hb dX11_sum__54 (by decide) ?_
            exact ih (((31 : Int32) * v1_j_5) + r_7) (v2_j_5 + (1 : Int32)) _ _ _ hpre hg hP hD hS (lv_sub hl [2, 1, 0] rfl)
      exact hL_j_5 fu (0 : Int32) (0 : Int32) _ _ _ hpre hj_5 hP hD hS (lv_sub hl [2, 1, 0] rfl)
    · rw [if_neg c_4] at hg
      refine lv_iconst (v := 0) hx hb dX11_sum__21 (by decide) ?_
      subst hg
      rw [← hQe]
      exact W.iret (v := (0 : Int32)) hx hb hr (fun t ht hW => ⟨⟨(0 : Int32), (), rfl, rfl, by rw [ht]; exact hP, va_K.moved hW.alike hK, hD⟩, hS.F ht⟩) hS.2.2 dX11_sum__22
  have hg : (if md_isRead = (0 : Int32) then (1 : Int32) else (0 : Int32)) = j_2 := by rw [← hj_2]; rfl
  clear hj_2
  refine lv_if_ne (tgt := 12) hx hb dX11_sum__5 (by decide) (fun c_1 => ?_) (fun c_1 => ?_)
  · rw [if_neg c_1] at hg
    refine lv_iconst (v := 0) hx hb dX11_sum__12 (by decide) ?_
    rw [← hg] at hJ_j_2
    exact hJ_j_2 _ _ _ hP hD hS (lv_sub hl [0] rfl)
  · rw [if_pos c_1] at hg
    refine lv_iconst (v := 1) hx hb dX11_sum__8 (by decide) ?_
    refine lv_goto (tgt := 13) hx hb dX11_sum__9 (by decide) ?_
    rw [← hg] at hJ_j_2
    exact hJ_j_2 _ _ _ hP hD hS (lv_sub hl [0] rfl)
abbrev rm_X11_set : Room := { frames := 2, cells := 0, slots := 0, locals := 44 }
abbrev Q_X11_set (dC : Nat → ClassId) (dI : Nat → Nat → Nat) (cI cJ cZ : ClassId) (a_md : Nat) (a_mpart : Nat) (a_mother : Nat) (a_mmagnitude : Nat) (a_mminus : Nat) (a_mreach : Nat) (a_mgain : Nat) (a_msegmentOf : Nat) (a_mbegins : Nat) (a_mlengths : Nat) (a_mknown : Nat) (a_mbelow : Nat) (a_mlatest : Nat) (a_mearly : Nat) (a_magain : Nat) (a_mstates : Nat) (a_mlikely : Nat) (a_mbytes : Nat) (A : Nat → Prop) (md_thrown : Int32) (md_wide : Int32) (md_high : Int32) (md_band : Int32) (md_style : Int32) (md_isWritten : Int32) (md_isRead : Int32) (md_planes : Int32) (md_passes : Int32) (md_segments : Int32) (md_writing : Int32) (md_plane : Int32) (md_raw : Int32) (md_faults : Int32) (md_size : Int32) (md_begin : Int32) (md_low : Int32) (md_carried : Int32) (md_span : Int32) (md_room : Int32) (md_place : Int32) (md_limit : Int32) (md_next : Int32) (md_last : Int32) (md_upper : Int64) (mmagnitude_n : Nat) (mmagnitude_f : Nat → Int32) (mminus_n : Nat) (mminus_f : Nat → Int32) (g : (Int32 × Int32 × Int32 × (Nat → Int32) × (Nat → Int32))) : Array Value → State → Outcome → State → Prop := va_Qv (fun _ : Unit => True) (fun u t => va_P (dC, dI) vwCl (wd_md_mmagnitude_mminus cI cZ a_md a_mpart a_mother a_mmagnitude a_mminus a_mreach a_mgain a_msegmentOf a_mbegins a_mlengths a_mknown a_mbelow a_mlatest a_mearly a_magain a_mstates a_mlikely a_mbytes g.1 md_wide md_high md_band md_style g.2.1 g.2.2.1 md_planes md_passes md_segments md_writing md_plane md_raw md_faults md_size md_begin md_low md_carried md_span md_room md_place md_limit md_next md_last md_upper mmagnitude_n g.2.2.2.1 mminus_n g.2.2.2.2) t.heap ∧ va_K (dC, dI) vwCl [(cI, .int), (cJ, .long), (cZ, .boolean)] t ∧ va_D A (wd_md_mmagnitude_mminus cI cZ a_md a_mpart a_mother a_mmagnitude a_mminus a_mreach a_mgain a_msegmentOf a_mbegins a_mlengths a_mknown a_mbelow a_mlatest a_mearly a_magain a_mstates a_mlikely a_mbytes g.1 md_wide md_high md_band md_style g.2.1 g.2.2.1 md_planes md_passes md_segments md_writing md_plane md_raw md_faults md_size md_begin md_low md_carried md_span md_room md_place md_limit md_next md_last md_upper mmagnitude_n g.2.2.2.1 mminus_n g.2.2.2.2)) A
theorem iw_X11_set_X11 : ∀ w ∈ u_ws RX11 TX11 42, w ∈ wsX11_set := by decide +kernel
set_option maxHeartbeats 4000000 in
set_option maxRecDepth 100000 in
theorem c_X11_set (l : Launch) (dC : Nat → ClassId) (dI : Nat → Nat → Nat) (cI cJ cZ : ClassId) (a_md : Nat) (a_mpart : Nat) (a_mother : Nat) (a_mmagnitude : Nat) (a_mminus : Nat) (a_mreach : Nat) (a_mgain : Nat) (a_msegmentOf : Nat) (a_mbegins : Nat) (a_mlengths : Nat) (a_mknown : Nat) (a_mbelow : Nat) (a_mlatest : Nat) (a_mearly : Nat) (a_magain : Nat) (a_mstates : Nat) (a_mlikely : Nat) (a_mbytes : Nat) (sz : Nat) (md_thrown : Int32) (md_wide : Int32) (md_high : Int32) (md_band : Int32) (md_style : Int32) (md_isWritten : Int32) (md_isRead : Int32) (md_planes : Int32) (md_passes : Int32) (md_segments : Int32) (md_writing : Int32) (md_plane : Int32) (md_raw : Int32) (md_faults : Int32) (md_size : Int32) (md_begin : Int32) (md_low : Int32) (md_carried : Int32) (md_span : Int32) (md_room : Int32) (md_place : Int32) (md_limit : Int32) (md_next : Int32) (md_last : Int32) (md_upper : Int64) (mmagnitude_n : Nat) (mmagnitude_f : Nat → Int32) (mminus_n : Nat) (mminus_f : Nat → Int32) (p1 : Int32) (p2 : Int32) (p3 : Int32) (hpre : P_X11_set p1 p2 p3 md_wide md_high mmagnitude_n mminus_n) : Met l yX11_set wsX11_set rm_X11_set (va_Pc [.ref a_md, .int p1, .int p2, .int p3] (fun U => U.heap.size = sz ∧ va_P (dC, dI) vwCl (wd_md_mmagnitude_mminus cI cZ a_md a_mpart a_mother a_mmagnitude a_mminus a_mreach a_mgain a_msegmentOf a_mbegins a_mlengths a_mknown a_mbelow a_mlatest a_mearly a_magain a_mstates a_mlikely a_mbytes md_thrown md_wide md_high md_band md_style md_isWritten md_isRead md_planes md_passes md_segments md_writing md_plane md_raw md_faults md_size md_begin md_low md_carried md_span md_room md_place md_limit md_next md_last md_upper mmagnitude_n mmagnitude_f mminus_n mminus_f) U.heap ∧ va_K (dC, dI) vwCl [(cI, .int), (cJ, .long), (cZ, .boolean)] U ∧ va_D (fun _ => True) (wd_md_mmagnitude_mminus cI cZ a_md a_mpart a_mother a_mmagnitude a_mminus a_mreach a_mgain a_msegmentOf a_mbegins a_mlengths a_mknown a_mbelow a_mlatest a_mearly a_magain a_mstates a_mlikely a_mbytes md_thrown md_wide md_high md_band md_style md_isWritten md_isRead md_planes md_passes md_segments md_writing md_plane md_raw md_faults md_size md_begin md_low md_carried md_span md_room md_place md_limit md_next md_last md_upper mmagnitude_n mmagnitude_f mminus_n mminus_f))) (Q_X11_set dC dI cI cJ cZ a_md a_mpart a_mother a_mmagnitude a_mminus a_mreach a_mgain a_msegmentOf a_mbegins a_mlengths a_mknown a_mbelow a_mlatest a_mearly a_magain a_mstates a_mlikely a_mbytes (va_A (wd_md_mmagnitude_mminus cI cZ a_md a_mpart a_mother a_mmagnitude a_mminus a_mreach a_mgain a_msegmentOf a_mbegins a_mlengths a_mknown a_mbelow a_mlatest a_mearly a_magain a_mstates a_mlikely a_mbytes md_thrown md_wide md_high md_band md_style md_isWritten md_isRead md_planes md_passes md_segments md_writing md_plane md_raw md_faults md_size md_begin md_low md_carried md_span md_room md_place md_limit md_next md_last md_upper mmagnitude_n mmagnitude_f mminus_n mminus_f) sz) md_thrown md_wide md_high md_band md_style md_isWritten md_isRead md_planes md_passes md_segments md_writing md_plane md_raw md_faults md_size md_begin md_low md_carried md_span md_room md_place md_limit md_next md_last md_upper mmagnitude_n mmagnitude_f mminus_n mminus_f (F_X11_set p1 p2 p3 md_wide md_high md_isWritten md_isRead mmagnitude_f mminus_f)) 0 0 (va_A (wd_md_mmagnitude_mminus cI cZ a_md a_mpart a_mother a_mmagnitude a_mminus a_mreach a_mgain a_msegmentOf a_mbegins a_mlengths a_mknown a_mbelow a_mlatest a_mearly a_magain a_mstates a_mlikely a_mbytes md_thrown md_wide md_high md_band md_style md_isWritten md_isRead md_planes md_passes md_segments md_writing md_plane md_raw md_faults md_size md_begin md_low md_carried md_span md_room md_place md_limit md_next md_last md_upper mmagnitude_n mmagnitude_f mminus_n mminus_f) sz) := by
  refine Met.ofW (cc := cX11_set) (maxL := 4) (ret := none) (by decide) rfl ?_
  intro p e s m args below meth c s₁ B hml hv
  obtain ⟨rfl, hsz, hP, hK, hD0⟩ := hv
  have hx := B.exec
  have hb := B.bytes
  have hr := B.returns
  have hts := atoms_spec (ws := wsX11_set) B.pre
  have hown : s.vm.findClass RX11 = some m.cls := findClass_of_methodNamed B.named
  have hlocks := B.notSynchronized
  subst hsz
  have hD := hD0.self (sz := s.heap.size)
  generalize hAe : va_A (wd_md_mmagnitude_mminus cI cZ a_md a_mpart a_mother a_mmagnitude a_mminus a_mreach a_mgain a_msegmentOf a_mbegins a_mlengths a_mknown a_mbelow a_mlatest a_mearly a_magain a_mstates a_mlikely a_mbytes md_thrown md_wide md_high md_band md_style md_isWritten md_isRead md_planes md_passes md_segments md_writing md_plane md_raw md_faults md_size md_begin md_low md_carried md_span md_room md_place md_limit md_next md_last md_upper mmagnitude_n mmagnitude_f mminus_n mminus_f) s.heap.size = A at hD ⊢
  have hA : ∀ q : Nat, s.heap.size ≤ q → A q := fun q h => by rw [← hAe]; exact Or.inr h
  have hS : va_S A s.heap s.heap [] := va_S.rf
  obtain ⟨H, hH⟩ : ∃ z, z = s.heap := ⟨_, rfl⟩
  have hP : va_P (dC, dI) vwCl (wd_md_mmagnitude_mminus cI cZ a_md a_mpart a_mother a_mmagnitude a_mminus a_mreach a_mgain a_msegmentOf a_mbegins a_mlengths a_mknown a_mbelow a_mlatest a_mearly a_magain a_mstates a_mlikely a_mbytes md_thrown md_wide md_high md_band md_style md_isWritten md_isRead md_planes md_passes md_segments md_writing md_plane md_raw md_faults md_size md_begin md_low md_carried md_span md_room md_place md_limit md_next md_last md_upper mmagnitude_n mmagnitude_f mminus_n mminus_f) H := by rw [hH]; exact hP
  have hS : va_S A s.heap H [] := by rw [hH]; exact va_S.rf
  obtain ⟨g, hg⟩ : ∃ z, F_X11_set p1 p2 p3 md_wide md_high md_isWritten md_isRead mmagnitude_f mminus_f = z := ⟨_, rfl⟩
  rw [hg]
  generalize hQe : MQ below (Q_X11_set dC dI cI cJ cZ a_md a_mpart a_mother a_mmagnitude a_mminus a_mreach a_mgain a_msegmentOf a_mbegins a_mlengths a_mknown a_mbelow a_mlatest a_mearly a_magain a_mstates a_mlikely a_mbytes A md_thrown md_wide md_high md_band md_style md_isWritten md_isRead md_planes md_passes md_segments md_writing md_plane md_raw md_faults md_size md_begin md_low md_carried md_span md_room md_place md_limit md_next md_last md_upper mmagnitude_n mmagnitude_f mminus_n mminus_f g) _ s 0 0 A = Q
  rw [← hH]
  clear hH
  have hl := lv_entry ([.ref a_md, .int p1, .int p2, .int p3]) (n := 4) (Nat.le_of_ble_eq_true rfl)
  rw [lg_entry_eq]
  generalize (lg_sl ([.ref a_md, .int p1, .int p2, .int p3]) ++ List.replicate (4 - (lg_sl ([.ref a_md, .int p1, .int p2, .int p3])).length) Slot.unset).toArray = ls at hl ⊢
  have hl : lv_has ls 4 [(0, .ref a_md), (1, .int p1), (2, .int p2), (3, .int p3)] := hl
  unfold F_X11_set at hg
  unfold P_X11_set at hpre
  refine lv_aload_n hx hb dX11_set_0 rfl (lv_at hl 0 rfl) ?_
  refine lv_aload_n hx hb dX11_set_1 rfl (lv_at hl 0 rfl) ?_
  refine lv_iload_n hx hb dX11_set_2 rfl (lv_at hl 1 rfl) ?_
  refine lv_iload_n hx hb dX11_set_3 rfl (lv_at hl 2 rfl) ?_
  have hPc := hP.sub (ws' := (wd_md a_md a_mpart a_mother a_mmagnitude a_mminus a_mreach a_mgain a_msegmentOf a_mbegins a_mlengths a_mknown a_mbelow a_mlatest a_mearly a_magain a_mstates a_mlikely a_mbytes md_thrown md_wide md_high md_band md_style md_isWritten md_isRead md_planes md_passes md_segments md_writing md_plane md_raw md_faults md_size md_begin md_low md_carried md_span md_room md_place md_limit md_next md_last md_upper)) [0] rfl
  have hDc := hD.sub (ws' := (wd_md a_md a_mpart a_mother a_mmagnitude a_mminus a_mreach a_mgain a_msegmentOf a_mbegins a_mlengths a_mknown a_mbelow a_mlatest a_mearly a_magain a_mstates a_mlikely a_mbytes md_thrown md_wide md_high md_band md_style md_isWritten md_isRead md_planes md_passes md_segments md_writing md_plane md_raw md_faults md_size md_begin md_low md_carried md_span md_room md_place md_limit md_next md_last md_upper)) [0] (by decide) rfl
  have hFc := va_free (wc := (wd_md a_md a_mpart a_mother a_mmagnitude a_mminus a_mreach a_mgain a_msegmentOf a_mbegins a_mlengths a_mknown a_mbelow a_mlatest a_mearly a_magain a_mstates a_mlikely a_mbytes md_thrown md_wide md_high md_band md_style md_isWritten md_isRead md_planes md_passes md_segments md_writing md_plane md_raw md_faults md_size md_begin md_low md_carried md_span md_room md_place md_limit md_next md_last md_upper)) hD hS hA [0] rfl
  refine va_calli (va_runV (As := [.int p1, .int p2]) (rest := [.ref a_md]) ⟨hx, hb, hml, hown, hts⟩ (c_X11_isThere l dC dI cI cJ cZ a_md a_mpart a_mother a_mmagnitude a_mminus a_mreach a_mgain a_msegmentOf a_mbegins a_mlengths a_mknown a_mbelow a_mlatest a_mearly a_magain a_mstates a_mlikely a_mbytes H.size md_thrown md_wide md_high md_band md_style md_isWritten md_isRead md_planes md_passes md_segments md_writing md_plane md_raw md_faults md_size md_begin md_low md_carried md_span md_room md_place md_limit md_next md_last md_upper p1 p2) (cwV 2 hts gX11_set_X11_isThere rfl rfl rfl (by decide +kernel) ⟨Nat.le_of_ble_eq_true rfl, Nat.le_of_ble_eq_true rfl⟩) ⟨fun a U g mk q => by obtain ⟨q0, q1, qP, qK, qD⟩ := q; exact ⟨q0, q1, qP, va_K.moved (u := U) (U := U.calling g mk a) (Vm.Alike.refl U.vm) qK, qD⟩, va_recv hK hPc (ci := 10) (q0 := 0) rfl rfl, fun U hU hW => ⟨rfl, by rw [hU], by rw [hU]; exact hPc, va_K.moved hW.alike hK, hDc.weaken (fun _ _ _ _ => trivial)⟩⟩ rfl rfl hl.1 rfl (lv_room (Nat.le_of_ble_eq_true rfl)) dX11_set_4 ⟨Nat.le_of_ble_eq_true rfl, Nat.le_of_ble_eq_true rfl⟩) hS (fun q _ h => hFc q h) hFc (fun r u t H1 locs ht hvm hw hB hz1 hk1 hS => ?_)
  obtain ⟨hP1, hK1, hD1⟩ := hB
  rw [ht] at hP1
  obtain ⟨r_1, hr_1⟩ : ∃ z, F_X11_isThere p1 p2 md_wide md_high = z := ⟨_, rfl⟩
  try rw [hr_1] at hw
  try rw [hr_1] at hP1
  try rw [hr_1] at hD1
  have hg : (let j_4 := J_X11_set_j_4 p3 r_1; let r_5 := F_X11_throwing j_4 (0 : Int32) (0 : Int32); if r_5.1 = (0 : Int32) then (let r_7 := F_X11_put ((p2 * md_wide) + p1) p3 mmagnitude_f mminus_f; let r_8 := F_X11_gone; (r_5.2, r_8.1, r_8.2, r_7.1, r_7.2)) else (r_5.2, md_isWritten, md_isRead, mmagnitude_f, mminus_f)) = g := by first | (rw [hr_1] at hg; exact hg) | (subst hr_1; exact hg)
  have hw := hw.symm
  subst hw
  obtain ⟨hP, hD⟩ := va_join (wr := [(a_mmagnitude, .inl (cI, mmagnitude_n, .inl mmagnitude_f)), (a_mminus, .inl (cZ, mminus_n, .inl mminus_f))]) (w1 := (wd_md a_md a_mpart a_mother a_mmagnitude a_mminus a_mreach a_mgain a_msegmentOf a_mbegins a_mlengths a_mknown a_mbelow a_mlatest a_mearly a_magain a_mstates a_mlikely a_mbytes md_thrown md_wide md_high md_band md_style md_isWritten md_isRead md_planes md_passes md_segments md_writing md_plane md_raw md_faults md_size md_begin md_low md_carried md_span md_room md_place md_limit md_next md_last md_upper)) hP hD [0] [1, 2] rfl rfl (by decide) (by decide) hk1 hFc hP1 hD1
  have hP : va_P (dC, dI) vwCl (wd_md_mmagnitude_mminus cI cZ a_md a_mpart a_mother a_mmagnitude a_mminus a_mreach a_mgain a_msegmentOf a_mbegins a_mlengths a_mknown a_mbelow a_mlatest a_mearly a_magain a_mstates a_mlikely a_mbytes md_thrown md_wide md_high md_band md_style md_isWritten md_isRead md_planes md_passes md_segments md_writing md_plane md_raw md_faults md_size md_begin md_low md_carried md_span md_room md_place md_limit md_next md_last md_upper mmagnitude_n mmagnitude_f mminus_n mminus_f) H1 := hP.sub [2, 0, 1] rfl
  have hD : va_D A (wd_md_mmagnitude_mminus cI cZ a_md a_mpart a_mother a_mmagnitude a_mminus a_mreach a_mgain a_msegmentOf a_mbegins a_mlengths a_mknown a_mbelow a_mlatest a_mearly a_magain a_mstates a_mlikely a_mbytes md_thrown md_wide md_high md_band md_style md_isWritten md_isRead md_planes md_passes md_segments md_writing md_plane md_raw md_faults md_size md_begin md_low md_carried md_span md_room md_place md_limit md_next md_last md_upper mmagnitude_n mmagnitude_f mminus_n mminus_f) := hD.sub [2, 0, 1] (by decide) rfl
  generalize H1 = H at hP hS ⊢
  have hpre := hpre r_1 hr_1
  obtain ⟨j_4, hj_4⟩ : ∃ z, J_X11_set_j_4 p3 r_1 = z := ⟨_, rfl⟩
  have hg : (let r_5 := F_X11_throwing j_4 (0 : Int32) (0 : Int32); if r_5.1 = (0 : Int32) then (let r_7 := F_X11_put ((p2 * md_wide) + p1) p3 mmagnitude_f mminus_f; let r_8 := F_X11_gone; (r_5.2, r_8.1, r_8.2, r_7.1, r_7.2)) else (r_5.2, md_isWritten, md_isRead, mmagnitude_f, mminus_f)) = g := by first | (rw [hj_4] at hg; exact hg) | (subst hj_4; exact hg)
  have hJ_j_4 : ∀ (H : Heap) (locs : List Loc) (ls : Array Slot), va_P (dC, dI) vwCl (wd_md_mmagnitude_mminus cI cZ a_md a_mpart a_mother a_mmagnitude a_mminus a_mreach a_mgain a_msegmentOf a_mbegins a_mlengths a_mknown a_mbelow a_mlatest a_mearly a_magain a_mstates a_mlikely a_mbytes md_thrown md_wide md_high md_band md_style md_isWritten md_isRead md_planes md_passes md_segments md_writing md_plane md_raw md_faults md_size md_begin md_low md_carried md_span md_room md_place md_limit md_next md_last md_upper mmagnitude_n mmagnitude_f mminus_n mminus_f) H → va_D A (wd_md_mmagnitude_mminus cI cZ a_md a_mpart a_mother a_mmagnitude a_mminus a_mreach a_mgain a_msegmentOf a_mbegins a_mlengths a_mknown a_mbelow a_mlatest a_mearly a_magain a_mstates a_mlikely a_mbytes md_thrown md_wide md_high md_band md_style md_isWritten md_isRead md_planes md_passes md_segments md_writing md_plane md_raw md_faults md_size md_begin md_low md_carried md_span md_room md_place md_limit md_next md_last md_upper mmagnitude_n mmagnitude_f mminus_n mminus_f) → va_S A s.heap H locs → lv_has ls 4 [(0, .ref a_md), (1, .int p1), (2, .int p2), (3, .int p3)] → W p l e (headSpec wsX11_set rm_X11_set).room s m ([.ref a_md, .int p1, .int p2, .int p3] : List Value).toArray below meth c H locs 0 0 Q (F0 m 22 ls [.int j_4, .ref a_md]) := by
    intro H locs ls hP hD hS hl
    have hpre := hpre j_4 hj_4
    refine lv_iconst (v := 0) hx hb dX11_set_22 (by decide) ?_
    refine lv_iconst (v := 0) hx hb dX11_set_23 (by decide) ?_
    have hPc := hP.sub (ws' := (wd_md a_md a_mpart a_mother a_mmagnitude a_mminus a_mreach a_mgain a_msegmentOf a_mbegins a_mlengths a_mknown a_mbelow a_mlatest a_mearly a_magain a_mstates a_mlikely a_mbytes md_thrown md_wide md_high md_band md_style md_isWritten md_isRead md_planes md_passes md_segments md_writing md_plane md_raw md_faults md_size md_begin md_low md_carried md_span md_room md_place md_limit md_next md_last md_upper)) [0] rfl
    have hDc := hD.sub (ws' := (wd_md a_md a_mpart a_mother a_mmagnitude a_mminus a_mreach a_mgain a_msegmentOf a_mbegins a_mlengths a_mknown a_mbelow a_mlatest a_mearly a_magain a_mstates a_mlikely a_mbytes md_thrown md_wide md_high md_band md_style md_isWritten md_isRead md_planes md_passes md_segments md_writing md_plane md_raw md_faults md_size md_begin md_low md_carried md_span md_room md_place md_limit md_next md_last md_upper)) [0] (by decide) rfl
    have hFc := va_free (wc := (wd_md a_md a_mpart a_mother a_mmagnitude a_mminus a_mreach a_mgain a_msegmentOf a_mbegins a_mlengths a_mknown a_mbelow a_mlatest a_mearly a_magain a_mstates a_mlikely a_mbytes md_thrown md_wide md_high md_band md_style md_isWritten md_isRead md_planes md_passes md_segments md_writing md_plane md_raw md_faults md_size md_begin md_low md_carried md_span md_room md_place md_limit md_next md_last md_upper)) hD hS hA [0] rfl
    refine va_calli (va_runV (As := [.int j_4, .int (0 : Int32), .int (0 : Int32)]) (rest := []) ⟨hx, hb, hml, hown, hts⟩ (c_X11_throwing l dC dI cI cJ cZ a_md a_mpart a_mother a_mmagnitude a_mminus a_mreach a_mgain a_msegmentOf a_mbegins a_mlengths a_mknown a_mbelow a_mlatest a_mearly a_magain a_mstates a_mlikely a_mbytes H.size md_thrown md_wide md_high md_band md_style md_isWritten md_isRead md_planes md_passes md_segments md_writing md_plane md_raw md_faults md_size md_begin md_low md_carried md_span md_room md_place md_limit md_next md_last md_upper j_4 (0 : Int32) (0 : Int32)) (cwV 3 hts gX11_set_X11_throwing rfl rfl rfl (by decide +kernel) ⟨Nat.le_of_ble_eq_true rfl, Nat.le_of_ble_eq_true rfl⟩) ⟨fun a U g mk q => by obtain ⟨q0, q1, qP, qK, qD⟩ := q; exact ⟨q0, q1, qP, va_K.moved (u := U) (U := U.calling g mk a) (Vm.Alike.refl U.vm) qK, qD⟩, va_recv hK hPc (ci := 10) (q0 := 0) rfl rfl, fun U hU hW => ⟨rfl, by rw [hU], by rw [hU]; exact hPc, va_K.moved hW.alike hK, hDc.weaken (fun _ _ _ _ => trivial)⟩⟩ rfl rfl hl.1 rfl (lv_room (Nat.le_of_ble_eq_true rfl)) dX11_set_24 ⟨Nat.le_of_ble_eq_true rfl, Nat.le_of_ble_eq_true rfl⟩) hS (fun q _ h => hFc q h) hFc (fun r u t H1 locs ht hvm hw hB hz1 hk1 hS => ?_)
    obtain ⟨hP1, hK1, hD1⟩ := hB
    rw [ht] at hP1
    obtain ⟨r_5, hr_5⟩ : ∃ z, F_X11_throwing j_4 (0 : Int32) (0 : Int32) = z := ⟨_, rfl⟩
    try rw [hr_5] at hw
    try rw [hr_5] at hP1
    try rw [hr_5] at hD1
    have hg : (if r_5.1 = (0 : Int32) then (let r_7 := F_X11_put ((p2 * md_wide) + p1) p3 mmagnitude_f mminus_f; let r_8 := F_X11_gone; (r_5.2, r_8.1, r_8.2, r_7.1, r_7.2)) else (r_5.2, md_isWritten, md_isRead, mmagnitude_f, mminus_f)) = g := by first | (rw [hr_5] at hg; exact hg) | (subst hr_5; exact hg)
    subst hw
    obtain ⟨hP, hD⟩ := va_join (wr := [(a_mmagnitude, .inl (cI, mmagnitude_n, .inl mmagnitude_f)), (a_mminus, .inl (cZ, mminus_n, .inl mminus_f))]) (w1 := (wd_md a_md a_mpart a_mother a_mmagnitude a_mminus a_mreach a_mgain a_msegmentOf a_mbegins a_mlengths a_mknown a_mbelow a_mlatest a_mearly a_magain a_mstates a_mlikely a_mbytes r_5.2 md_wide md_high md_band md_style md_isWritten md_isRead md_planes md_passes md_segments md_writing md_plane md_raw md_faults md_size md_begin md_low md_carried md_span md_room md_place md_limit md_next md_last md_upper)) hP hD [0] [1, 2] rfl rfl (by decide) (by decide) hk1 hFc hP1 hD1
    have hP : va_P (dC, dI) vwCl (wd_md_mmagnitude_mminus cI cZ a_md a_mpart a_mother a_mmagnitude a_mminus a_mreach a_mgain a_msegmentOf a_mbegins a_mlengths a_mknown a_mbelow a_mlatest a_mearly a_magain a_mstates a_mlikely a_mbytes r_5.2 md_wide md_high md_band md_style md_isWritten md_isRead md_planes md_passes md_segments md_writing md_plane md_raw md_faults md_size md_begin md_low md_carried md_span md_room md_place md_limit md_next md_last md_upper mmagnitude_n mmagnitude_f mminus_n mminus_f) H1 := hP.sub [2, 0, 1] rfl
    have hD : va_D A (wd_md_mmagnitude_mminus cI cZ a_md a_mpart a_mother a_mmagnitude a_mminus a_mreach a_mgain a_msegmentOf a_mbegins a_mlengths a_mknown a_mbelow a_mlatest a_mearly a_magain a_mstates a_mlikely a_mbytes r_5.2 md_wide md_high md_band md_style md_isWritten md_isRead md_planes md_passes md_segments md_writing md_plane md_raw md_faults md_size md_begin md_low md_carried md_span md_room md_place md_limit md_next md_last md_upper mmagnitude_n mmagnitude_f mminus_n mminus_f) := hD.sub [2, 0, 1] (by decide) rfl
    generalize H1 = H at hP hS ⊢
    have hpre := hpre r_5 hr_5
    refine lv_if_eq (tgt := 31) hx hb dX11_set_27 (by decide) (fun c_6 => ?_) (fun c_6 => ?_)
    · rw [if_pos c_6] at hg
      have hpre := hpre c_6
      refine lv_aload_n hx hb dX11_set_31 rfl (lv_at hl 0 rfl) ?_
      refine lv_iload_n hx hb dX11_set_32 rfl (lv_at hl 2 rfl) ?_
      refine lv_aload_n hx hb dX11_set_33 rfl (lv_at hl 0 rfl) ?_
      refine va_get (D := (dC, dI)) (ci := 10) (v := .int md_wide) (C := RX11) (T := TX11) (N := 42) hx hb hts iw_X11_set_X11 hown hK hP 0 rfl rfl 3 (by decide) (hts (.fieldLink RX11 16 "PlaneBlocksModel" "wide" "I") (by decide +kernel)) (fun _ h9 => h9) rfl dX11_set_34 ?_
      refine lv_imul hx hb dX11_set_37 ?_
      refine lv_iload_n hx hb dX11_set_38 rfl (lv_at hl 1 rfl) ?_
      refine lv_iadd hx hb dX11_set_39 ?_
      refine lv_iload_n hx hb dX11_set_40 rfl (lv_at hl 3 rfl) ?_
      have hPc := hP.sub (ws' := (wd_md_mmagnitude_mminus cI cZ a_md a_mpart a_mother a_mmagnitude a_mminus a_mreach a_mgain a_msegmentOf a_mbegins a_mlengths a_mknown a_mbelow a_mlatest a_mearly a_magain a_mstates a_mlikely a_mbytes r_5.2 md_wide md_high md_band md_style md_isWritten md_isRead md_planes md_passes md_segments md_writing md_plane md_raw md_faults md_size md_begin md_low md_carried md_span md_room md_place md_limit md_next md_last md_upper mmagnitude_n mmagnitude_f mminus_n mminus_f)) [0, 1, 2] rfl
      have hDc := hD.sub (ws' := (wd_md_mmagnitude_mminus cI cZ a_md a_mpart a_mother a_mmagnitude a_mminus a_mreach a_mgain a_msegmentOf a_mbegins a_mlengths a_mknown a_mbelow a_mlatest a_mearly a_magain a_mstates a_mlikely a_mbytes r_5.2 md_wide md_high md_band md_style md_isWritten md_isRead md_planes md_passes md_segments md_writing md_plane md_raw md_faults md_size md_begin md_low md_carried md_span md_room md_place md_limit md_next md_last md_upper mmagnitude_n mmagnitude_f mminus_n mminus_f)) [0, 1, 2] (by decide) rfl
      have hFc := va_free (wc := (wd_md_mmagnitude_mminus cI cZ a_md a_mpart a_mother a_mmagnitude a_mminus a_mreach a_mgain a_msegmentOf a_mbegins a_mlengths a_mknown a_mbelow a_mlatest a_mearly a_magain a_mstates a_mlikely a_mbytes r_5.2 md_wide md_high md_band md_style md_isWritten md_isRead md_planes md_passes md_segments md_writing md_plane md_raw md_faults md_size md_begin md_low md_carried md_span md_room md_place md_limit md_next md_last md_upper mmagnitude_n mmagnitude_f mminus_n mminus_f)) hD hS hA [0, 1, 2] rfl
      refine va_callv (va_runV (As := [.int ((p2 * md_wide) + p1), .int p3]) (rest := []) ⟨hx, hb, hml, hown, hts⟩ (c_X11_put l dC dI cI cJ cZ a_md a_mpart a_mother a_mmagnitude a_mminus a_mreach a_mgain a_msegmentOf a_mbegins a_mlengths a_mknown a_mbelow a_mlatest a_mearly a_magain a_mstates a_mlikely a_mbytes H.size r_5.2 md_wide md_high md_band md_style md_isWritten md_isRead md_planes md_passes md_segments md_writing md_plane md_raw md_faults md_size md_begin md_low md_carried md_span md_room md_place md_limit md_next md_last md_upper mmagnitude_n mmagnitude_f mminus_n mminus_f ((p2 * md_wide) + p1) p3 hpre) (cwV 2 hts gX11_set_X11_put rfl rfl rfl (by decide +kernel) ⟨Nat.le_of_ble_eq_true rfl, Nat.le_of_ble_eq_true rfl⟩) ⟨fun a U g mk q => by obtain ⟨q0, q1, qP, qK, qD⟩ := q; exact ⟨q0, q1, qP, va_K.moved (u := U) (U := U.calling g mk a) (Vm.Alike.refl U.vm) qK, qD⟩, va_recv hK hPc (ci := 10) (q0 := 0) rfl rfl, fun U hU hW => ⟨rfl, by rw [hU], by rw [hU]; exact hPc, va_K.moved hW.alike hK, hDc.weaken (fun _ _ _ _ => trivial)⟩⟩ rfl rfl hl.1 rfl (lv_room (Nat.le_of_ble_eq_true rfl)) dX11_set_41 ⟨Nat.le_of_ble_eq_true rfl, Nat.le_of_ble_eq_true rfl⟩) hS (fun q _ h => hFc q h) hFc (fun u t H1 locs ht hvm hw hB hz1 hk1 hS => ?_)
      obtain ⟨hP1, hK1, hD1⟩ := hB
      rw [ht] at hP1
      obtain ⟨r_7, hr_7⟩ : ∃ z, F_X11_put ((p2 * md_wide) + p1) p3 mmagnitude_f mminus_f = z := ⟨_, rfl⟩
      try rw [hr_7] at hw
      try rw [hr_7] at hP1
      try rw [hr_7] at hD1
      have hg : (let r_8 := F_X11_gone; (r_5.2, r_8.1, r_8.2, r_7.1, r_7.2)) = g := by first | (rw [hr_7] at hg; exact hg) | (subst hr_7; exact hg)
      obtain ⟨hP, hD⟩ := va_join (wr := []) (w1 := (wd_md_mmagnitude_mminus cI cZ a_md a_mpart a_mother a_mmagnitude a_mminus a_mreach a_mgain a_msegmentOf a_mbegins a_mlengths a_mknown a_mbelow a_mlatest a_mearly a_magain a_mstates a_mlikely a_mbytes r_5.2 md_wide md_high md_band md_style md_isWritten md_isRead md_planes md_passes md_segments md_writing md_plane md_raw md_faults md_size md_begin md_low md_carried md_span md_room md_place md_limit md_next md_last md_upper mmagnitude_n r_7.1 mminus_n r_7.2)) hP hD [0, 1, 2] [] rfl rfl (by decide) (by decide) hk1 hFc hP1 hD1
      have hP : va_P (dC, dI) vwCl (wd_md_mmagnitude_mminus cI cZ a_md a_mpart a_mother a_mmagnitude a_mminus a_mreach a_mgain a_msegmentOf a_mbegins a_mlengths a_mknown a_mbelow a_mlatest a_mearly a_magain a_mstates a_mlikely a_mbytes r_5.2 md_wide md_high md_band md_style md_isWritten md_isRead md_planes md_passes md_segments md_writing md_plane md_raw md_faults md_size md_begin md_low md_carried md_span md_room md_place md_limit md_next md_last md_upper mmagnitude_n r_7.1 mminus_n r_7.2) H1 := hP.sub [0, 1, 2] rfl
      have hD : va_D A (wd_md_mmagnitude_mminus cI cZ a_md a_mpart a_mother a_mmagnitude a_mminus a_mreach a_mgain a_msegmentOf a_mbegins a_mlengths a_mknown a_mbelow a_mlatest a_mearly a_magain a_mstates a_mlikely a_mbytes r_5.2 md_wide md_high md_band md_style md_isWritten md_isRead md_planes md_passes md_segments md_writing md_plane md_raw md_faults md_size md_begin md_low md_carried md_span md_room md_place md_limit md_next md_last md_upper mmagnitude_n r_7.1 mminus_n r_7.2) := hD.sub [0, 1, 2] (by decide) rfl
      generalize H1 = H at hP hS ⊢
      refine lv_aload_n hx hb dX11_set_44 rfl (lv_at hl 0 rfl) ?_
      have hPc := hP.sub (ws' := (wd_md a_md a_mpart a_mother a_mmagnitude a_mminus a_mreach a_mgain a_msegmentOf a_mbegins a_mlengths a_mknown a_mbelow a_mlatest a_mearly a_magain a_mstates a_mlikely a_mbytes r_5.2 md_wide md_high md_band md_style md_isWritten md_isRead md_planes md_passes md_segments md_writing md_plane md_raw md_faults md_size md_begin md_low md_carried md_span md_room md_place md_limit md_next md_last md_upper)) [0] rfl
      have hDc := hD.sub (ws' := (wd_md a_md a_mpart a_mother a_mmagnitude a_mminus a_mreach a_mgain a_msegmentOf a_mbegins a_mlengths a_mknown a_mbelow a_mlatest a_mearly a_magain a_mstates a_mlikely a_mbytes r_5.2 md_wide md_high md_band md_style md_isWritten md_isRead md_planes md_passes md_segments md_writing md_plane md_raw md_faults md_size md_begin md_low md_carried md_span md_room md_place md_limit md_next md_last md_upper)) [0] (by decide) rfl
      have hFc := va_free (wc := (wd_md a_md a_mpart a_mother a_mmagnitude a_mminus a_mreach a_mgain a_msegmentOf a_mbegins a_mlengths a_mknown a_mbelow a_mlatest a_mearly a_magain a_mstates a_mlikely a_mbytes r_5.2 md_wide md_high md_band md_style md_isWritten md_isRead md_planes md_passes md_segments md_writing md_plane md_raw md_faults md_size md_begin md_low md_carried md_span md_room md_place md_limit md_next md_last md_upper)) hD hS hA [0] rfl
      refine va_callv (va_runV (As := []) (rest := []) ⟨hx, hb, hml, hown, hts⟩ (c_X11_gone l dC dI cI cJ cZ a_md a_mpart a_mother a_mmagnitude a_mminus a_mreach a_mgain a_msegmentOf a_mbegins a_mlengths a_mknown a_mbelow a_mlatest a_mearly a_magain a_mstates a_mlikely a_mbytes H.size r_5.2 md_wide md_high md_band md_style md_isWritten md_isRead md_planes md_passes md_segments md_writing md_plane md_raw md_faults md_size md_begin md_low md_carried md_span md_room md_place md_limit md_next md_last md_upper) (cwV 0 hts gX11_set_X11_gone rfl rfl rfl (by decide +kernel) ⟨Nat.le_of_ble_eq_true rfl, Nat.le_of_ble_eq_true rfl⟩) ⟨fun a U g mk q => by obtain ⟨q0, q1, qP, qK, qD⟩ := q; exact ⟨q0, q1, qP, va_K.moved (u := U) (U := U.calling g mk a) (Vm.Alike.refl U.vm) qK, qD⟩, va_recv hK hPc (ci := 10) (q0 := 0) rfl rfl, fun U hU hW => ⟨rfl, by rw [hU], by rw [hU]; exact hPc, va_K.moved hW.alike hK, hDc.weaken (fun _ _ _ _ => trivial)⟩⟩ rfl rfl hl.1 rfl (lv_room (Nat.le_of_ble_eq_true rfl)) dX11_set_45 ⟨Nat.le_of_ble_eq_true rfl, Nat.le_of_ble_eq_true rfl⟩) hS (fun q _ h => hFc q h) hFc (fun u t H1 locs ht hvm hw hB hz1 hk1 hS => ?_)
      obtain ⟨hP1, hK1, hD1⟩ := hB
      rw [ht] at hP1
      obtain ⟨r_8, hr_8⟩ : ∃ z, F_X11_gone = z := ⟨_, rfl⟩
      try rw [hr_8] at hw
      try rw [hr_8] at hP1
      try rw [hr_8] at hD1
      have hg : (r_5.2, r_8.1, r_8.2, r_7.1, r_7.2) = g := by first | (rw [hr_8] at hg; exact hg) | (subst hr_8; exact hg)
      obtain ⟨hP, hD⟩ := va_join (wr := [(a_mmagnitude, .inl (cI, mmagnitude_n, .inl r_7.1)), (a_mminus, .inl (cZ, mminus_n, .inl r_7.2))]) (w1 := (wd_md a_md a_mpart a_mother a_mmagnitude a_mminus a_mreach a_mgain a_msegmentOf a_mbegins a_mlengths a_mknown a_mbelow a_mlatest a_mearly a_magain a_mstates a_mlikely a_mbytes r_5.2 md_wide md_high md_band md_style r_8.1 r_8.2 md_planes md_passes md_segments md_writing md_plane md_raw md_faults md_size md_begin md_low md_carried md_span md_room md_place md_limit md_next md_last md_upper)) hP hD [0] [1, 2] rfl rfl (by decide) (by decide) hk1 hFc hP1 hD1
      have hP : va_P (dC, dI) vwCl (wd_md_mmagnitude_mminus cI cZ a_md a_mpart a_mother a_mmagnitude a_mminus a_mreach a_mgain a_msegmentOf a_mbegins a_mlengths a_mknown a_mbelow a_mlatest a_mearly a_magain a_mstates a_mlikely a_mbytes r_5.2 md_wide md_high md_band md_style r_8.1 r_8.2 md_planes md_passes md_segments md_writing md_plane md_raw md_faults md_size md_begin md_low md_carried md_span md_room md_place md_limit md_next md_last md_upper mmagnitude_n r_7.1 mminus_n r_7.2) H1 := hP.sub [2, 0, 1] rfl
      have hD : va_D A (wd_md_mmagnitude_mminus cI cZ a_md a_mpart a_mother a_mmagnitude a_mminus a_mreach a_mgain a_msegmentOf a_mbegins a_mlengths a_mknown a_mbelow a_mlatest a_mearly a_magain a_mstates a_mlikely a_mbytes r_5.2 md_wide md_high md_band md_style r_8.1 r_8.2 md_planes md_passes md_segments md_writing md_plane md_raw md_faults md_size md_begin md_low md_carried md_span md_room md_place md_limit md_next md_last md_upper mmagnitude_n r_7.1 mminus_n r_7.2) := hD.sub [2, 0, 1] (by decide) rfl
      generalize H1 = H at hP hS ⊢
      subst hg
      rw [← hQe]
      exact W.vret hx hb hr (fun t ht hW => ⟨⟨(), rfl, trivial, by rw [ht]; exact hP, va_K.moved hW.alike hK, hD⟩, hS.F ht⟩) hS.2.2 dX11_set_48
    · rw [if_neg c_6] at hg
      subst hg
      rw [← hQe]
      exact W.vret hx hb hr (fun t ht hW => ⟨⟨(), rfl, trivial, by rw [ht]; exact hP, va_K.moved hW.alike hK, hD⟩, hS.F ht⟩) hS.2.2 dX11_set_30
  have hg : (if r_1 = (0 : Int32) then (1 : Int32) else (if p3 = (-2147483648 : Int32) then (1 : Int32) else (0 : Int32))) = j_4 := by rw [← hj_4]; rfl
  clear hj_4
  refine lv_if_eq (tgt := 17) hx hb dX11_set_7 (by decide) (fun c_2 => ?_) (fun c_2 => ?_)
  · rw [if_pos c_2] at hg
    refine lv_iconst (v := 1) hx hb dX11_set_17 (by decide) ?_
    refine lv_goto (tgt := 22) hx hb dX11_set_18 (by decide) ?_
    rw [← hg] at hJ_j_4
    exact hJ_j_4 _ _ _ hP hD hS (lv_sub hl [0, 1, 2, 3] rfl)
  · rw [if_neg c_2] at hg
    refine lv_iload_n hx hb dX11_set_10 rfl (lv_at hl 3 rfl) ?_
    refine lv_ldcw (v := -2147483648) hx hb hown (hts (.constant RX11 298 (-2147483648)) (by decide +kernel)) dX11_set_11 ?_
    refine lv_icmp_ne (tgt := 21) hx hb dX11_set_14 (by decide) (fun c_3 => ?_) (fun c_3 => ?_)
    · rw [if_neg c_3] at hg
      refine lv_iconst (v := 0) hx hb dX11_set_21 (by decide) ?_
      rw [← hg] at hJ_j_4
      exact hJ_j_4 _ _ _ hP hD hS (lv_sub hl [0, 1, 2, 3] rfl)
    · rw [if_pos c_3] at hg
      refine lv_iconst (v := 1) hx hb dX11_set_17 (by decide) ?_
      refine lv_goto (tgt := 22) hx hb dX11_set_18 (by decide) ?_
      rw [← hg] at hJ_j_4
      exact hJ_j_4 _ _ _ hP hD hS (lv_sub hl [0, 1, 2, 3] rfl)

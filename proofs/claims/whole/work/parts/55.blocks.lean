abbrev wd_fld_coef_mags_marks_nw1 (cI : ClassId) (a_fld : Nat) (a_coef : Nat) (a_mags : Nat) (a_marks : Nat) (a_nw1 : Nat) (fld_wide : Int32) (fld_high : Int32) (fld_band : Int32) (fld_causal : Int32) (coef_n : Nat) (coef_f : Nat → Int32) (mags_n : Nat) (mags_f : Nat → Int32) (marks_n : Nat) (marks_f : Nat → Int32) (nw1_n : Nat) (nw1_f : Nat → Int32) : va_W := [(a_fld, .inr (4, [.int fld_wide, .int fld_high, .ref a_coef, .ref a_mags, .ref a_marks, .int fld_band, .int fld_causal])), (a_coef, .inl (cI, coef_n, .inl coef_f)), (a_mags, .inl (cI, mags_n, .inl mags_f)), (a_marks, .inl (cI, marks_n, .inl marks_f)), (a_nw1, .inl (cI, nw1_n, .inl nw1_f))]
abbrev wd_coef (cI : ClassId) (a_coef : Nat) (coef_n : Nat) (coef_f : Nat → Int32) : va_W := [(a_coef, .inl (cI, coef_n, .inl coef_f))]
abbrev rm_X5_resize (Dt : Nat) : Room := { frames := 1, cells := Dt, slots := Dt, locals := 23 }
abbrev Q_X5_resize (dC : Nat → ClassId) (dI : Nat → Nat → Nat) (cI cJ cZ : ClassId) (a_fld : Nat) (a_coef : Nat) (a_mags : Nat) (a_marks : Nat) (A : Nat → Prop) (fld_wide : Int32) (fld_high : Int32) (fld_band : Int32) (fld_causal : Int32) (coef_n : Nat) (coef_f : Nat → Int32) (mags_n : Nat) (mags_f : Nat → Int32) (marks_n : Nat) (marks_f : Nat → Int32) (g : (Int32 × Int32 × Int32 × Int32 × Nat × (Nat → Int32) × Nat × (Nat → Int32) × Nat × (Nat → Int32))) : Array Value → State → Outcome → State → Prop := va_Qv (fun _ : (Nat × Nat × Nat) => True) (fun u t => va_P (dC, dI) vwCl (wd_fld_coef_mags_marks cI a_fld u.1 u.2.1 u.2.2 g.1 g.2.1 g.2.2.1 g.2.2.2.1 g.2.2.2.2.1 g.2.2.2.2.2.1 g.2.2.2.2.2.2.1 g.2.2.2.2.2.2.2.1 g.2.2.2.2.2.2.2.2.1 g.2.2.2.2.2.2.2.2.2) t.heap ∧ va_K (dC, dI) vwCl [(cI, .int), (cJ, .long), (cZ, .boolean)] t ∧ va_D A (wd_fld_coef_mags_marks cI a_fld u.1 u.2.1 u.2.2 g.1 g.2.1 g.2.2.1 g.2.2.2.1 g.2.2.2.2.1 g.2.2.2.2.2.1 g.2.2.2.2.2.2.1 g.2.2.2.2.2.2.2.1 g.2.2.2.2.2.2.2.2.1 g.2.2.2.2.2.2.2.2.2)) A
theorem iw_X5_resize_X5 : ∀ w ∈ u_ws RX5 TX5 7, w ∈ wsX5_resize := by decide +kernel
set_option maxHeartbeats 4000000 in
set_option maxRecDepth 100000 in
theorem c_X5_resize (l : Launch) (dC : Nat → ClassId) (dI : Nat → Nat → Nat) (cI cJ cZ : ClassId) (a_fld : Nat) (a_coef : Nat) (a_mags : Nat) (a_marks : Nat) (sz : Nat) (fld_wide : Int32) (fld_high : Int32) (fld_band : Int32) (fld_causal : Int32) (coef_n : Nat) (coef_f : Nat → Int32) (mags_n : Nat) (mags_f : Nat → Int32) (marks_n : Nat) (marks_f : Nat → Int32) (p1 : Int32) (p2 : Int32) (p3 : Int32) (p4 : Int32) (hpre : P_X5_resize p1 p2 p4 coef_n coef_f mags_n mags_f marks_n marks_f) : Met l yX5_resize wsX5_resize (rm_X5_resize (D_X5_resize p1 p2 coef_n coef_f mags_n mags_f marks_n marks_f)) (va_Pc [.ref a_fld, .int p1, .int p2, .int p3, .int p4] (fun U => U.heap.size = sz ∧ va_P (dC, dI) vwCl (wd_fld_coef_mags_marks cI a_fld a_coef a_mags a_marks fld_wide fld_high fld_band fld_causal coef_n coef_f mags_n mags_f marks_n marks_f) U.heap ∧ va_K (dC, dI) vwCl [(cI, .int), (cJ, .long), (cZ, .boolean)] U ∧ va_D (fun _ => True) (wd_fld_coef_mags_marks cI a_fld a_coef a_mags a_marks fld_wide fld_high fld_band fld_causal coef_n coef_f mags_n mags_f marks_n marks_f))) (Q_X5_resize dC dI cI cJ cZ a_fld a_coef a_mags a_marks (va_A (wd_fld_coef_mags_marks cI a_fld a_coef a_mags a_marks fld_wide fld_high fld_band fld_causal coef_n coef_f mags_n mags_f marks_n marks_f) sz) fld_wide fld_high fld_band fld_causal coef_n coef_f mags_n mags_f marks_n marks_f (F_X5_resize p1 p2 p3 p4 coef_n coef_f mags_n mags_f marks_n marks_f)) (D_X5_resize p1 p2 coef_n coef_f mags_n mags_f marks_n marks_f) (D_X5_resize p1 p2 coef_n coef_f mags_n mags_f marks_n marks_f) (va_A (wd_fld_coef_mags_marks cI a_fld a_coef a_mags a_marks fld_wide fld_high fld_band fld_causal coef_n coef_f mags_n mags_f marks_n marks_f) sz) := by
  refine Met.ofW (cc := cX5_resize) (maxL := 7) (ret := none) (by decide) rfl ?_
  intro p e s m args below meth c s₁ B hml hv
  obtain ⟨rfl, hsz, hP, hK, hD0⟩ := hv
  have hx := B.exec
  have hb := B.bytes
  have hr := B.returns
  have hts := atoms_spec (ws := wsX5_resize) B.pre
  have hown : s.vm.findClass RX5 = some m.cls := findClass_of_methodNamed B.named
  have hlocks := B.notSynchronized
  subst hsz
  have hD := hD0.self (sz := s.heap.size)
  generalize hAe : va_A (wd_fld_coef_mags_marks cI a_fld a_coef a_mags a_marks fld_wide fld_high fld_band fld_causal coef_n coef_f mags_n mags_f marks_n marks_f) s.heap.size = A at hD ⊢
  have hA : ∀ q : Nat, s.heap.size ≤ q → A q := fun q h => by rw [← hAe]; exact Or.inr h
  have hS : va_S A s.heap s.heap [] := va_S.rf
  obtain ⟨H, hH⟩ : ∃ z, z = s.heap := ⟨_, rfl⟩
  have hP : va_P (dC, dI) vwCl (wd_fld_coef_mags_marks cI a_fld a_coef a_mags a_marks fld_wide fld_high fld_band fld_causal coef_n coef_f mags_n mags_f marks_n marks_f) H := by rw [hH]; exact hP
  have hS : va_S A s.heap H [] := by rw [hH]; exact va_S.rf
  obtain ⟨g, hg⟩ : ∃ z, F_X5_resize p1 p2 p3 p4 coef_n coef_f mags_n mags_f marks_n marks_f = z := ⟨_, rfl⟩
  rw [hg]
  obtain ⟨Dt, hDt⟩ : ∃ z, D_X5_resize p1 p2 coef_n coef_f mags_n mags_f marks_n marks_f = z := ⟨_, rfl⟩
  rw [hDt]
  generalize hQe : MQ below (Q_X5_resize dC dI cI cJ cZ a_fld a_coef a_mags a_marks A fld_wide fld_high fld_band fld_causal coef_n coef_f mags_n mags_f marks_n marks_f g) _ s Dt Dt A = Q
  rw [← hH]
  clear hH
  have hl := lv_entry ([.ref a_fld, .int p1, .int p2, .int p3, .int p4]) (n := 7) (Nat.le_of_ble_eq_true rfl)
  rw [lg_entry_eq]
  generalize (lg_sl ([.ref a_fld, .int p1, .int p2, .int p3, .int p4]) ++ List.replicate (7 - (lg_sl ([.ref a_fld, .int p1, .int p2, .int p3, .int p4])).length) Slot.unset).toArray = ls at hl ⊢
  have hl : lv_has ls 7 [(0, .ref a_fld), (1, .int p1), (2, .int p2), (3, .int p3), (4, .int p4)] := hl
  unfold F_X5_resize at hg
  unfold P_X5_resize at hpre
  unfold D_X5_resize at hDt
  obtain ⟨k, hk⟩ : ∃ z : Nat, z = 0 := ⟨_, rfl⟩
  obtain ⟨E, hE⟩ : ∃ z : Nat, z = 0 := ⟨_, rfl⟩
  have hC : k + (DJ_X5_resize_j_12 p1 p2 coef_n + (let j_12 := J_X5_resize_j_12 p1 p2 coef_n coef_f mags_n mags_f marks_n marks_f; 0)) + E ≤ Dt := by rw [hk, hE, Nat.zero_add]; exact Nat.le_of_eq hDt
  refine W.widen (k := k) (n := k) (Nat.zero_le _) (Nat.zero_le _) ?_
  clear hk hE hDt
  refine lv_aload_n hx hb dX5_resize_0 rfl (lv_at hl 0 rfl) ?_
  refine lv_iload_n hx hb dX5_resize_1 rfl (lv_at hl 1 rfl) ?_
  refine va_put (D := (dC, dI)) (ci := 4) (v := .int p1) (ty := .int) (C := RX5) (T := TX5) (N := 7) hx hb hts iw_X5_resize_X5 tyX5 tyX5_ok nmX5 hown hK hP hD hS 0 rfl rfl 0 (by decide) (hts (.fieldLink RX5 11 "PlaneBlocks$Field" "wide" "I") (by decide +kernel)) (fun _ h9 => h9) rfl (by decide +kernel) rfl rfl (Nat.le_of_ble_eq_true rfl) dX5_resize_2 (fun H locs hP hD hS => ?_)
  have hP : va_P (dC, dI) vwCl (wd_fld_coef_mags_marks cI a_fld a_coef a_mags a_marks p1 fld_high fld_band fld_causal coef_n coef_f mags_n mags_f marks_n marks_f) H := hP
  have hD : va_D A (wd_fld_coef_mags_marks cI a_fld a_coef a_mags a_marks p1 fld_high fld_band fld_causal coef_n coef_f mags_n mags_f marks_n marks_f) := hD
  refine lv_aload_n hx hb dX5_resize_5 rfl (lv_at hl 0 rfl) ?_
  refine lv_iload_n hx hb dX5_resize_6 rfl (lv_at hl 2 rfl) ?_
  refine va_put (D := (dC, dI)) (ci := 4) (v := .int p2) (ty := .int) (C := RX5) (T := TX5) (N := 7) hx hb hts iw_X5_resize_X5 tyX5 tyX5_ok nmX5 hown hK hP hD hS 0 rfl rfl 1 (by decide) (hts (.fieldLink RX5 15 "PlaneBlocks$Field" "high" "I") (by decide +kernel)) (fun _ h9 => h9) rfl (by decide +kernel) rfl rfl (Nat.le_of_ble_eq_true rfl) dX5_resize_7 (fun H locs hP hD hS => ?_)
  have hP : va_P (dC, dI) vwCl (wd_fld_coef_mags_marks cI a_fld a_coef a_mags a_marks p1 p2 fld_band fld_causal coef_n coef_f mags_n mags_f marks_n marks_f) H := hP
  have hD : va_D A (wd_fld_coef_mags_marks cI a_fld a_coef a_mags a_marks p1 p2 fld_band fld_causal coef_n coef_f mags_n mags_f marks_n marks_f) := hD
  refine lv_aload_n hx hb dX5_resize_10 rfl (lv_at hl 0 rfl) ?_
  refine lv_iload_n hx hb dX5_resize_11 rfl (lv_at hl 3 rfl) ?_
  refine va_put (D := (dC, dI)) (ci := 4) (v := .int p3) (ty := .int) (C := RX5) (T := TX5) (N := 7) hx hb hts iw_X5_resize_X5 tyX5 tyX5_ok nmX5 hown hK hP hD hS 0 rfl rfl 5 (by decide) (hts (.fieldLink RX5 28 "PlaneBlocks$Field" "band" "I") (by decide +kernel)) (fun _ h9 => h9) rfl (by decide +kernel) rfl rfl (Nat.le_of_ble_eq_true rfl) dX5_resize_12 (fun H locs hP hD hS => ?_)
  have hP : va_P (dC, dI) vwCl (wd_fld_coef_mags_marks cI a_fld a_coef a_mags a_marks p1 p2 p3 fld_causal coef_n coef_f mags_n mags_f marks_n marks_f) H := hP
  have hD : va_D A (wd_fld_coef_mags_marks cI a_fld a_coef a_mags a_marks p1 p2 p3 fld_causal coef_n coef_f mags_n mags_f marks_n marks_f) := hD
  refine lv_aload_n hx hb dX5_resize_15 rfl (lv_at hl 0 rfl) ?_
  refine lv_iload hx hb dX5_resize_16 (lv_at hl 4 rfl) ?_
  have h_1 := hpre.1
  have hpre := hpre.2
  refine va_put (D := (dC, dI)) (ci := 4) (v := .int p4) (ty := .boolean) (C := RX5) (T := TX5) (N := 7) hx hb hts iw_X5_resize_X5 tyX5 tyX5_ok nmX5 hown hK hP hD hS 0 rfl rfl 6 (by decide) (hts (.fieldLink RX5 31 "PlaneBlocks$Field" "causal" "Z") (by decide +kernel)) (fun _ h9 => h9) rfl (by decide +kernel) (vz_n h_1) (vz_f h_1) (Nat.le_of_ble_eq_true rfl) dX5_resize_18 (fun H locs hP hD hS => ?_)
  have hP : va_P (dC, dI) vwCl (wd_fld_coef_mags_marks cI a_fld a_coef a_mags a_marks p1 p2 p3 p4 coef_n coef_f mags_n mags_f marks_n marks_f) H := hP
  have hD : va_D A (wd_fld_coef_mags_marks cI a_fld a_coef a_mags a_marks p1 p2 p3 p4 coef_n coef_f mags_n mags_f marks_n marks_f) := hD
  refine lv_aload_n hx hb dX5_resize_21 rfl (lv_at hl 0 rfl) ?_
  refine va_get (D := (dC, dI)) (ci := 4) (v := .ref a_coef) (C := RX5) (T := TX5) (N := 7) hx hb hts iw_X5_resize_X5 hown hK hP 0 rfl rfl 2 (by decide) (hts (.fieldLink RX5 18 "PlaneBlocks$Field" "coefficients" "[I") (by decide +kernel)) (fun _ h9 => h9) rfl dX5_resize_22 ?_
  refine va_alen hx hb hK hP 1 0 (v := (nI coef_n)) rfl rfl rfl dX5_resize_25 ?_
  refine lv_istore (lv' := [(5, .int (nI coef_n)), (0, .ref a_fld), (1, .int p1), (2, .int p2), (3, .int p3), (4, .int p4)]) hx hb dX5_resize_26 hl (by decide) rfl (fun ls hl => ?_)
  refine lv_iload_n hx hb dX5_resize_28 rfl (lv_at hl 2 rfl) ?_
  refine lv_iload_n hx hb dX5_resize_29 rfl (lv_at hl 3 rfl) ?_
  refine lv_imul hx hb dX5_resize_30 ?_
  refine lv_iload hx hb dX5_resize_31 (lv_at hl 0 rfl) ?_
  obtain ⟨j_12, hj_12⟩ : ∃ z, J_X5_resize_j_12 p1 p2 coef_n coef_f mags_n mags_f marks_n marks_f = z := ⟨_, rfl⟩
  have hg : (let r_13 := F_J7_fill_53178 (0 : Int32) j_12.1 j_12.2.1; (p1, p2, p3, p4, j_12.1, r_13, j_12.2.2.1, j_12.2.2.2.1, j_12.2.2.2.2.1, j_12.2.2.2.2.2)) = g := by first | (rw [hj_12] at hg; exact hg) | (subst hj_12; exact hg)
  have hC : k + (DJ_X5_resize_j_12 p1 p2 coef_n + (0)) + E ≤ Dt := by subst hj_12; exact hC
  have hJ_j_12 : ∀ (u_coef_j_12 : Nat) (u_mags_j_12 : Nat) (u_marks_j_12 : Nat) (k : Nat) (H : Heap) (locs : List Loc) (ls : Array Slot), va_P (dC, dI) vwCl (wd_fld_coef_mags_marks cI a_fld u_coef_j_12 u_mags_j_12 u_marks_j_12 p1 p2 p3 p4 j_12.1 j_12.2.1 j_12.2.2.1 j_12.2.2.2.1 j_12.2.2.2.2.1 j_12.2.2.2.2.2) H → va_D A (wd_fld_coef_mags_marks cI a_fld u_coef_j_12 u_mags_j_12 u_marks_j_12 p1 p2 p3 p4 j_12.1 j_12.2.1 j_12.2.2.1 j_12.2.2.2.1 j_12.2.2.2.2.1 j_12.2.2.2.2.2) → va_S A s.heap H locs → lv_has ls 7 [(0, .ref a_fld), (1, .int p1), (2, .int p2), (3, .int p3), (4, .int p4), (5, .int (nI coef_n))] → k + (0) + E ≤ Dt → W p l e (headSpec wsX5_resize (rm_X5_resize Dt)).room s m ([.ref a_fld, .int p1, .int p2, .int p3, .int p4] : List Value).toArray below meth c H locs k k Q (F0 m 78 ls []) := by
    intro u_coef_j_12 u_mags_j_12 u_marks_j_12 k H locs ls hP hD hS hl hC
    have hpre := hpre.2 j_12 hj_12
    refine lv_aload_n hx hb dX5_resize_78 rfl (lv_at hl 0 rfl) ?_
    refine va_get (D := (dC, dI)) (ci := 4) (v := .ref u_coef_j_12) (C := RX5) (T := TX5) (N := 7) hx hb hts iw_X5_resize_X5 hown hK hP 0 rfl rfl 2 (by decide) (hts (.fieldLink RX5 18 "PlaneBlocks$Field" "coefficients" "[I") (by decide +kernel)) (fun _ h9 => h9) rfl dX5_resize_79 ?_
    refine lv_iconst (v := 0) hx hb dX5_resize_82 (by decide) ?_
    have hPc := hP.sub (ws' := (wd_coef cI u_coef_j_12 j_12.1 j_12.2.1)) [1] rfl
    have hDc := hD.sub (ws' := (wd_coef cI u_coef_j_12 j_12.1 j_12.2.1)) [1] (by decide) rfl
    have hFc := va_free (wc := (wd_coef cI u_coef_j_12 j_12.1 j_12.2.1)) hD hS hA [1] rfl
    refine va_callv (va_runS (As := [.ref u_coef_j_12, .int (0 : Int32)]) (rest := []) ⟨hx, hb, hml, hown, hts⟩ (c_J7_fill_53178 l dC dI cI cJ cZ u_coef_j_12 H.size j_12.1 j_12.2.1 (0 : Int32) hpre) (va_cwS 2 hts gX5_resize_J7_fill_53178 rfl rfl rfl (by decide +kernel) ⟨Nat.le_of_ble_eq_true rfl, Nat.le_of_ble_eq_true rfl⟩) ⟨fun a U g mk q => by obtain ⟨q0, q1, qP, qK, qD⟩ := q; exact ⟨q0, q1, qP, va_K.moved (u := U) (U := U.calling g mk a) (Vm.Alike.refl U.vm) qK, qD⟩, fun U hU hW => ⟨rfl, by rw [hU], by rw [hU]; exact hPc, va_K.moved hW.alike hK, hDc.weaken (fun _ _ _ _ => trivial)⟩⟩ rfl rfl hl.1 rfl (lv_room (Nat.le_of_ble_eq_true rfl)) dX5_resize_83 ⟨k0_le hC, k0_le hC⟩) hS (fun q _ h => hFc q h) hFc (fun u t H1 locs ht hvm hw hB hz1 hk1 hS => ?_)
    obtain ⟨hP1, hK1, hD1⟩ := hB
    rw [ht] at hP1
    obtain ⟨r_13, hr_13⟩ : ∃ z, F_J7_fill_53178 (0 : Int32) j_12.1 j_12.2.1 = z := ⟨_, rfl⟩
    try rw [hr_13] at hw
    try rw [hr_13] at hP1
    try rw [hr_13] at hD1
    have hg : (p1, p2, p3, p4, j_12.1, r_13, j_12.2.2.1, j_12.2.2.2.1, j_12.2.2.2.2.1, j_12.2.2.2.2.2) = g := by first | (rw [hr_13] at hg; exact hg) | (subst hr_13; exact hg)
    obtain ⟨hP, hD⟩ := va_join (wr := [(a_fld, .inr (4, [.int p1, .int p2, .ref u_coef_j_12, .ref u_mags_j_12, .ref u_marks_j_12, .int p3, .int p4])), (u_mags_j_12, .inl (cI, j_12.2.2.1, .inl j_12.2.2.2.1)), (u_marks_j_12, .inl (cI, j_12.2.2.2.2.1, .inl j_12.2.2.2.2.2))]) (w1 := (wd_coef cI u_coef_j_12 j_12.1 r_13)) hP hD [1] [0, 2, 3] rfl rfl (by decide) (by decide) hk1 hFc hP1 hD1
    have hP : va_P (dC, dI) vwCl (wd_fld_coef_mags_marks cI a_fld u_coef_j_12 u_mags_j_12 u_marks_j_12 p1 p2 p3 p4 j_12.1 r_13 j_12.2.2.1 j_12.2.2.2.1 j_12.2.2.2.2.1 j_12.2.2.2.2.2) H1 := hP.sub [0, 3, 1, 2] rfl
    have hD : va_D A (wd_fld_coef_mags_marks cI a_fld u_coef_j_12 u_mags_j_12 u_marks_j_12 p1 p2 p3 p4 j_12.1 r_13 j_12.2.2.1 j_12.2.2.2.1 j_12.2.2.2.2.1 j_12.2.2.2.2.2) := hD.sub [0, 3, 1, 2] (by decide) rfl
    generalize H1 = H at hP hS ⊢
    subst hg
    refine W.widen (k := Dt) (n := Dt) (k0_le hC) (k0_le hC) ?_
    rw [← hQe]
    exact W.vret hx hb hr (fun t ht hW => ⟨⟨(u_coef_j_12, u_mags_j_12, u_marks_j_12), rfl, trivial, by rw [ht]; exact hP, va_K.moved hW.alike hK, hD⟩, hS.F ht⟩) hS.2.2 dX5_resize_86
  have hpre := hpre.1
  obtain ⟨E2, hE2⟩ : ∃ z : Nat, z = (0) + E := ⟨_, rfl⟩
  have hC : k + (DJ_X5_resize_j_12 p1 p2 coef_n) + E2 ≤ Dt := by rw [hE2]; exact add4 hC
  unfold PJ_X5_resize_j_12 at hpre
  have hC : k + (if (p1 * p2) ≤ (nI coef_n) then 0 else (((if (if (p1 * p2) < ((2 : Int32) * (nI coef_n)) then ((2 : Int32) * (nI coef_n)) else (p1 * p2)) < (4096 : Int32) then (if (p1 * p2) < ((2 : Int32) * (nI coef_n)) then ((2 : Int32) * (nI coef_n)) else (p1 * p2)) else (4096 : Int32)).toNatClampNeg + 1) + (((if (if (p1 * p2) < ((2 : Int32) * (nI coef_n)) then ((2 : Int32) * (nI coef_n)) else (p1 * p2)) < (4096 : Int32) then (if (p1 * p2) < ((2 : Int32) * (nI coef_n)) then ((2 : Int32) * (nI coef_n)) else (p1 * p2)) else (4096 : Int32)).toNatClampNeg + 1) + (((if (if (p1 * p2) < ((2 : Int32) * (nI coef_n)) then ((2 : Int32) * (nI coef_n)) else (p1 * p2)) < (4096 : Int32) then (if (p1 * p2) < ((2 : Int32) * (nI coef_n)) then ((2 : Int32) * (nI coef_n)) else (p1 * p2)) else (4096 : Int32)).toNatClampNeg + 1) + (0))))) + E2 ≤ Dt := hC
  have hg : (if (p1 * p2) ≤ (nI coef_n) then (coef_n, coef_f, mags_n, mags_f, marks_n, marks_f) else ((if (if (p1 * p2) < ((2 : Int32) * (nI coef_n)) then ((2 : Int32) * (nI coef_n)) else (p1 * p2)) < (4096 : Int32) then (if (p1 * p2) < ((2 : Int32) * (nI coef_n)) then ((2 : Int32) * (nI coef_n)) else (p1 * p2)) else (4096 : Int32)).toNatClampNeg, (fun _ => (0 : Int32)), (if (if (p1 * p2) < ((2 : Int32) * (nI coef_n)) then ((2 : Int32) * (nI coef_n)) else (p1 * p2)) < (4096 : Int32) then (if (p1 * p2) < ((2 : Int32) * (nI coef_n)) then ((2 : Int32) * (nI coef_n)) else (p1 * p2)) else (4096 : Int32)).toNatClampNeg, (fun _ => (0 : Int32)), (if (if (p1 * p2) < ((2 : Int32) * (nI coef_n)) then ((2 : Int32) * (nI coef_n)) else (p1 * p2)) < (4096 : Int32) then (if (p1 * p2) < ((2 : Int32) * (nI coef_n)) then ((2 : Int32) * (nI coef_n)) else (p1 * p2)) else (4096 : Int32)).toNatClampNeg, (fun _ => (0 : Int32)))) = j_12 := by rw [← hj_12]; rfl
  clear hj_12
  refine lv_icmp_le (tgt := 78) hx hb dX5_resize_33 (by decide) (fun c_2 => ?_) (fun c_2 => ?_)
  · rw [if_pos c_2] at hg
    rw [if_pos c_2] at hC
    exact hJ_j_12 a_coef a_mags a_marks _ _ _ _ (by rw [← hg]; exact hP) (by rw [← hg]; exact hD) hS (lv_sub hl [1, 2, 3, 4, 5, 0] rfl) (by rw [Nat.add_assoc, ← hE2]; exact hC)
  · rw [if_neg c_2] at hg
    rw [if_neg c_2] at hC
    have hpre := hpre c_2
    refine lv_sipush (v := 4096) hx hb dX5_resize_36 (by decide) ?_
    refine lv_iload_n hx hb dX5_resize_39 rfl (lv_at hl 2 rfl) ?_
    refine lv_iload_n hx hb dX5_resize_40 rfl (lv_at hl 3 rfl) ?_
    refine lv_imul hx hb dX5_resize_41 ?_
    refine lv_iconst (v := 2) hx hb dX5_resize_42 (by decide) ?_
    refine lv_iload hx hb dX5_resize_43 (lv_at hl 0 rfl) ?_
    refine lv_imul hx hb dX5_resize_45 ?_
    refine va_mmax hx hb (hml.trans hl.1.symm) hown (hts (.methodLink RX5 35 Lib.Math.max.name) (by decide +kernel)) (hts (.static Lib.Math.max.name) (by decide +kernel)) (hts (.initialized "java/lang/Math") (by decide +kernel)) (hts (.code Lib.Math.max.name Lib.Math.max.code 2 (some .int)) (by decide +kernel)) (Nat.le_of_ble_eq_true rfl) (Nat.le_of_ble_eq_true rfl) (k0_le hC) (k0_le hC) dX5_resize_46 ?_
    refine va_mmin hx hb (hml.trans hl.1.symm) hown (hts (.methodLink RX5 41 Lib.Math.min.name) (by decide +kernel)) (hts (.static Lib.Math.min.name) (by decide +kernel)) (hts (.initialized "java/lang/Math") (by decide +kernel)) (hts (.code Lib.Math.min.name Lib.Math.min.code 2 (some .int)) (by decide +kernel)) (Nat.le_of_ble_eq_true rfl) (Nat.le_of_ble_eq_true rfl) (k0_le hC) (k0_le hC) dX5_resize_49 ?_
    refine lv_istore (lv' := [(6, .int (if (if (p1 * p2) < ((2 : Int32) * (nI coef_n)) then ((2 : Int32) * (nI coef_n)) else (p1 * p2)) < (4096 : Int32) then (if (p1 * p2) < ((2 : Int32) * (nI coef_n)) then ((2 : Int32) * (nI coef_n)) else (p1 * p2)) else (4096 : Int32))), (5, .int (nI coef_n)), (0, .ref a_fld), (1, .int p1), (2, .int p2), (3, .int p3), (4, .int p4)]) hx hb dX5_resize_52 hl (by decide) rfl (fun ls hl => ?_)
    refine lv_aload_n hx hb dX5_resize_54 rfl (lv_at hl 2 rfl) ?_
    refine lv_iload hx hb dX5_resize_55 (lv_at hl 0 rfl) ?_
    have h_3 := hpre.1
    have hpre := hpre.2
    have h_4 := hpre.1
    have hpre := hpre.2
    refine va_newa (atype := .int) (ty := .int) (a0 := ((if (if (p1 * p2) < ((2 : Int32) * (nI coef_n)) then ((2 : Int32) * (nI coef_n)) else (p1 * p2)) < (4096 : Int32) then (if (p1 * p2) < ((2 : Int32) * (nI coef_n)) then ((2 : Int32) * (nI coef_n)) else (p1 * p2)) else (4096 : Int32)).toNatClampNeg, .inl (fun _ => 0))) hx hb (hts (.arrayClass .int) (by decide +kernel)) rfl hK hP hD hS hA (fun _ => rfl) h_3 rfl h_4 (kn_le hC) (ks_le hC) dX5_resize_57 (fun q_5 cA H hK1 hP hD hS => ?_)
    have e9 := k3_int hK1
    rw [e9] at hP hD
    clear hK1 e9
    have hP : va_P (dC, dI) vwCl (wd_fld_coef_mags_marks_nw1 cI a_fld a_coef a_mags a_marks q_5 p1 p2 p3 p4 coef_n coef_f mags_n mags_f marks_n marks_f ((if (if (p1 * p2) < ((2 : Int32) * (nI coef_n)) then ((2 : Int32) * (nI coef_n)) else (p1 * p2)) < (4096 : Int32) then (if (p1 * p2) < ((2 : Int32) * (nI coef_n)) then ((2 : Int32) * (nI coef_n)) else (p1 * p2)) else (4096 : Int32)).toNatClampNeg) (fun _ => (0 : Int32))) H := hP
    have hD : va_D A (wd_fld_coef_mags_marks_nw1 cI a_fld a_coef a_mags a_marks q_5 p1 p2 p3 p4 coef_n coef_f mags_n mags_f marks_n marks_f ((if (if (p1 * p2) < ((2 : Int32) * (nI coef_n)) then ((2 : Int32) * (nI coef_n)) else (p1 * p2)) < (4096 : Int32) then (if (p1 * p2) < ((2 : Int32) * (nI coef_n)) then ((2 : Int32) * (nI coef_n)) else (p1 * p2)) else (4096 : Int32)).toNatClampNeg) (fun _ => (0 : Int32))) := hD
    refine W.widen (k := k + ((if (if (p1 * p2) < ((2 : Int32) * (nI coef_n)) then ((2 : Int32) * (nI coef_n)) else (p1 * p2)) < (4096 : Int32) then (if (p1 * p2) < ((2 : Int32) * (nI coef_n)) then ((2 : Int32) * (nI coef_n)) else (p1 * p2)) else (4096 : Int32)).toNatClampNeg + 1)) (n := k + ((if (if (p1 * p2) < ((2 : Int32) * (nI coef_n)) then ((2 : Int32) * (nI coef_n)) else (p1 * p2)) < (4096 : Int32) then (if (p1 * p2) < ((2 : Int32) * (nI coef_n)) then ((2 : Int32) * (nI coef_n)) else (p1 * p2)) else (4096 : Int32)).toNatClampNeg + 1)) (by omega) (by omega) ?_
    obtain ⟨k1, hk1⟩ : ∃ z, z = k + (((if (if (p1 * p2) < ((2 : Int32) * (nI coef_n)) then ((2 : Int32) * (nI coef_n)) else (p1 * p2)) < (4096 : Int32) then (if (p1 * p2) < ((2 : Int32) * (nI coef_n)) then ((2 : Int32) * (nI coef_n)) else (p1 * p2)) else (4096 : Int32)).toNatClampNeg + 1)) := ⟨_, rfl⟩
    have hC : k1 + (((if (if (p1 * p2) < ((2 : Int32) * (nI coef_n)) then ((2 : Int32) * (nI coef_n)) else (p1 * p2)) < (4096 : Int32) then (if (p1 * p2) < ((2 : Int32) * (nI coef_n)) then ((2 : Int32) * (nI coef_n)) else (p1 * p2)) else (4096 : Int32)).toNatClampNeg + 1) + (((if (if (p1 * p2) < ((2 : Int32) * (nI coef_n)) then ((2 : Int32) * (nI coef_n)) else (p1 * p2)) < (4096 : Int32) then (if (p1 * p2) < ((2 : Int32) * (nI coef_n)) then ((2 : Int32) * (nI coef_n)) else (p1 * p2)) else (4096 : Int32)).toNatClampNeg + 1) + (0))) + E2 ≤ Dt := by rw [hk1, Nat.add_assoc k]; exact hC
    refine W.widen (k := k1) (n := k1) (Nat.le_of_eq hk1.symm) (Nat.le_of_eq hk1.symm) ?_
    clear hk1
    generalize k1 = k at hC ⊢
    refine va_put (D := (dC, dI)) (ci := 4) (v := .ref q_5) (ty := .array .int) (C := RX5) (T := TX5) (N := 7) hx hb hts iw_X5_resize_X5 tyX5 tyX5_ok nmX5 hown hK hP hD hS 0 rfl rfl 2 (by decide) (hts (.fieldLink RX5 18 "PlaneBlocks$Field" "coefficients" "[I") (by decide +kernel)) (fun _ h9 => h9) rfl (by decide +kernel) rfl rfl (Nat.le_of_ble_eq_true rfl) dX5_resize_59 (fun H locs hP hD hS => ?_)
    have hP : va_P (dC, dI) vwCl (wd_fld_coef_mags_marks cI a_fld q_5 a_mags a_marks p1 p2 p3 p4 ((if (if (p1 * p2) < ((2 : Int32) * (nI coef_n)) then ((2 : Int32) * (nI coef_n)) else (p1 * p2)) < (4096 : Int32) then (if (p1 * p2) < ((2 : Int32) * (nI coef_n)) then ((2 : Int32) * (nI coef_n)) else (p1 * p2)) else (4096 : Int32)).toNatClampNeg) (fun _ => (0 : Int32)) mags_n mags_f marks_n marks_f) H := hP.sub [0, 4, 2, 3] rfl
    have hD : va_D A (wd_fld_coef_mags_marks cI a_fld q_5 a_mags a_marks p1 p2 p3 p4 ((if (if (p1 * p2) < ((2 : Int32) * (nI coef_n)) then ((2 : Int32) * (nI coef_n)) else (p1 * p2)) < (4096 : Int32) then (if (p1 * p2) < ((2 : Int32) * (nI coef_n)) then ((2 : Int32) * (nI coef_n)) else (p1 * p2)) else (4096 : Int32)).toNatClampNeg) (fun _ => (0 : Int32)) mags_n mags_f marks_n marks_f) := hD.sub [0, 4, 2, 3] (by decide) rfl
    refine lv_aload_n hx hb dX5_resize_62 rfl (lv_at hl 2 rfl) ?_
    refine lv_iload hx hb dX5_resize_63 (lv_at hl 0 rfl) ?_
    have h_6 := hpre.1
    have hpre := hpre.2
    have h_7 := hpre.1
    have hpre := hpre.2
    refine va_newa (atype := .int) (ty := .int) (a0 := ((if (if (p1 * p2) < ((2 : Int32) * (nI coef_n)) then ((2 : Int32) * (nI coef_n)) else (p1 * p2)) < (4096 : Int32) then (if (p1 * p2) < ((2 : Int32) * (nI coef_n)) then ((2 : Int32) * (nI coef_n)) else (p1 * p2)) else (4096 : Int32)).toNatClampNeg, .inl (fun _ => 0))) hx hb (hts (.arrayClass .int) (by decide +kernel)) rfl hK hP hD hS hA (fun _ => rfl) h_6 rfl h_7 (kn_le hC) (ks_le hC) dX5_resize_65 (fun q_8 cA H hK1 hP hD hS => ?_)
    have e9 := k3_int hK1
    rw [e9] at hP hD
    clear hK1 e9
    have hP : va_P (dC, dI) vwCl (wd_fld_coef_mags_marks_nw1 cI a_fld q_5 a_mags a_marks q_8 p1 p2 p3 p4 ((if (if (p1 * p2) < ((2 : Int32) * (nI coef_n)) then ((2 : Int32) * (nI coef_n)) else (p1 * p2)) < (4096 : Int32) then (if (p1 * p2) < ((2 : Int32) * (nI coef_n)) then ((2 : Int32) * (nI coef_n)) else (p1 * p2)) else (4096 : Int32)).toNatClampNeg) (fun _ => (0 : Int32)) mags_n mags_f marks_n marks_f ((if (if (p1 * p2) < ((2 : Int32) * (nI coef_n)) then ((2 : Int32) * (nI coef_n)) else (p1 * p2)) < (4096 : Int32) then (if (p1 * p2) < ((2 : Int32) * (nI coef_n)) then ((2 : Int32) * (nI coef_n)) else (p1 * p2)) else (4096 : Int32)).toNatClampNeg) (fun _ => (0 : Int32))) H := hP
    have hD : va_D A (wd_fld_coef_mags_marks_nw1 cI a_fld q_5 a_mags a_marks q_8 p1 p2 p3 p4 ((if (if (p1 * p2) < ((2 : Int32) * (nI coef_n)) then ((2 : Int32) * (nI coef_n)) else (p1 * p2)) < (4096 : Int32) then (if (p1 * p2) < ((2 : Int32) * (nI coef_n)) then ((2 : Int32) * (nI coef_n)) else (p1 * p2)) else (4096 : Int32)).toNatClampNeg) (fun _ => (0 : Int32)) mags_n mags_f marks_n marks_f ((if (if (p1 * p2) < ((2 : Int32) * (nI coef_n)) then ((2 : Int32) * (nI coef_n)) else (p1 * p2)) < (4096 : Int32) then (if (p1 * p2) < ((2 : Int32) * (nI coef_n)) then ((2 : Int32) * (nI coef_n)) else (p1 * p2)) else (4096 : Int32)).toNatClampNeg) (fun _ => (0 : Int32))) := hD
    refine W.widen (k := k + ((if (if (p1 * p2) < ((2 : Int32) * (nI coef_n)) then ((2 : Int32) * (nI coef_n)) else (p1 * p2)) < (4096 : Int32) then (if (p1 * p2) < ((2 : Int32) * (nI coef_n)) then ((2 : Int32) * (nI coef_n)) else (p1 * p2)) else (4096 : Int32)).toNatClampNeg + 1)) (n := k + ((if (if (p1 * p2) < ((2 : Int32) * (nI coef_n)) then ((2 : Int32) * (nI coef_n)) else (p1 * p2)) < (4096 : Int32) then (if (p1 * p2) < ((2 : Int32) * (nI coef_n)) then ((2 : Int32) * (nI coef_n)) else (p1 * p2)) else (4096 : Int32)).toNatClampNeg + 1)) (by omega) (by omega) ?_
    obtain ⟨k1, hk1⟩ : ∃ z, z = k + (((if (if (p1 * p2) < ((2 : Int32) * (nI coef_n)) then ((2 : Int32) * (nI coef_n)) else (p1 * p2)) < (4096 : Int32) then (if (p1 * p2) < ((2 : Int32) * (nI coef_n)) then ((2 : Int32) * (nI coef_n)) else (p1 * p2)) else (4096 : Int32)).toNatClampNeg + 1)) := ⟨_, rfl⟩
    have hC : k1 + (((if (if (p1 * p2) < ((2 : Int32) * (nI coef_n)) then ((2 : Int32) * (nI coef_n)) else (p1 * p2)) < (4096 : Int32) then (if (p1 * p2) < ((2 : Int32) * (nI coef_n)) then ((2 : Int32) * (nI coef_n)) else (p1 * p2)) else (4096 : Int32)).toNatClampNeg + 1) + (0)) + E2 ≤ Dt := by rw [hk1, Nat.add_assoc k]; exact hC
    refine W.widen (k := k1) (n := k1) (Nat.le_of_eq hk1.symm) (Nat.le_of_eq hk1.symm) ?_
    clear hk1
    generalize k1 = k at hC ⊢
    refine va_put (D := (dC, dI)) (ci := 4) (v := .ref q_8) (ty := .array .int) (C := RX5) (T := TX5) (N := 7) hx hb hts iw_X5_resize_X5 tyX5 tyX5_ok nmX5 hown hK hP hD hS 0 rfl rfl 3 (by decide) (hts (.fieldLink RX5 22 "PlaneBlocks$Field" "magnitudes" "[I") (by decide +kernel)) (fun _ h9 => h9) rfl (by decide +kernel) rfl rfl (Nat.le_of_ble_eq_true rfl) dX5_resize_67 (fun H locs hP hD hS => ?_)
    have hP : va_P (dC, dI) vwCl (wd_fld_coef_mags_marks cI a_fld q_5 q_8 a_marks p1 p2 p3 p4 ((if (if (p1 * p2) < ((2 : Int32) * (nI coef_n)) then ((2 : Int32) * (nI coef_n)) else (p1 * p2)) < (4096 : Int32) then (if (p1 * p2) < ((2 : Int32) * (nI coef_n)) then ((2 : Int32) * (nI coef_n)) else (p1 * p2)) else (4096 : Int32)).toNatClampNeg) (fun _ => (0 : Int32)) ((if (if (p1 * p2) < ((2 : Int32) * (nI coef_n)) then ((2 : Int32) * (nI coef_n)) else (p1 * p2)) < (4096 : Int32) then (if (p1 * p2) < ((2 : Int32) * (nI coef_n)) then ((2 : Int32) * (nI coef_n)) else (p1 * p2)) else (4096 : Int32)).toNatClampNeg) (fun _ => (0 : Int32)) marks_n marks_f) H := hP.sub [0, 1, 4, 3] rfl
    have hD : va_D A (wd_fld_coef_mags_marks cI a_fld q_5 q_8 a_marks p1 p2 p3 p4 ((if (if (p1 * p2) < ((2 : Int32) * (nI coef_n)) then ((2 : Int32) * (nI coef_n)) else (p1 * p2)) < (4096 : Int32) then (if (p1 * p2) < ((2 : Int32) * (nI coef_n)) then ((2 : Int32) * (nI coef_n)) else (p1 * p2)) else (4096 : Int32)).toNatClampNeg) (fun _ => (0 : Int32)) ((if (if (p1 * p2) < ((2 : Int32) * (nI coef_n)) then ((2 : Int32) * (nI coef_n)) else (p1 * p2)) < (4096 : Int32) then (if (p1 * p2) < ((2 : Int32) * (nI coef_n)) then ((2 : Int32) * (nI coef_n)) else (p1 * p2)) else (4096 : Int32)).toNatClampNeg) (fun _ => (0 : Int32)) marks_n marks_f) := hD.sub [0, 1, 4, 3] (by decide) rfl
    refine lv_aload_n hx hb dX5_resize_70 rfl (lv_at hl 2 rfl) ?_
    refine lv_iload hx hb dX5_resize_71 (lv_at hl 0 rfl) ?_
    have h_9 := hpre.1
    have hpre := hpre.2
    have h_10 := hpre
    refine va_newa (atype := .int) (ty := .int) (a0 := ((if (if (p1 * p2) < ((2 : Int32) * (nI coef_n)) then ((2 : Int32) * (nI coef_n)) else (p1 * p2)) < (4096 : Int32) then (if (p1 * p2) < ((2 : Int32) * (nI coef_n)) then ((2 : Int32) * (nI coef_n)) else (p1 * p2)) else (4096 : Int32)).toNatClampNeg, .inl (fun _ => 0))) hx hb (hts (.arrayClass .int) (by decide +kernel)) rfl hK hP hD hS hA (fun _ => rfl) h_9 rfl h_10 (kn_le hC) (ks_le hC) dX5_resize_73 (fun q_11 cA H hK1 hP hD hS => ?_)
    have e9 := k3_int hK1
    rw [e9] at hP hD
    clear hK1 e9
    have hP : va_P (dC, dI) vwCl (wd_fld_coef_mags_marks_nw1 cI a_fld q_5 q_8 a_marks q_11 p1 p2 p3 p4 ((if (if (p1 * p2) < ((2 : Int32) * (nI coef_n)) then ((2 : Int32) * (nI coef_n)) else (p1 * p2)) < (4096 : Int32) then (if (p1 * p2) < ((2 : Int32) * (nI coef_n)) then ((2 : Int32) * (nI coef_n)) else (p1 * p2)) else (4096 : Int32)).toNatClampNeg) (fun _ => (0 : Int32)) ((if (if (p1 * p2) < ((2 : Int32) * (nI coef_n)) then ((2 : Int32) * (nI coef_n)) else (p1 * p2)) < (4096 : Int32) then (if (p1 * p2) < ((2 : Int32) * (nI coef_n)) then ((2 : Int32) * (nI coef_n)) else (p1 * p2)) else (4096 : Int32)).toNatClampNeg) (fun _ => (0 : Int32)) marks_n marks_f ((if (if (p1 * p2) < ((2 : Int32) * (nI coef_n)) then ((2 : Int32) * (nI coef_n)) else (p1 * p2)) < (4096 : Int32) then (if (p1 * p2) < ((2 : Int32) * (nI coef_n)) then ((2 : Int32) * (nI coef_n)) else (p1 * p2)) else (4096 : Int32)).toNatClampNeg) (fun _ => (0 : Int32))) H := hP
    have hD : va_D A (wd_fld_coef_mags_marks_nw1 cI a_fld q_5 q_8 a_marks q_11 p1 p2 p3 p4 ((if (if (p1 * p2) < ((2 : Int32) * (nI coef_n)) then ((2 : Int32) * (nI coef_n)) else (p1 * p2)) < (4096 : Int32) then (if (p1 * p2) < ((2 : Int32) * (nI coef_n)) then ((2 : Int32) * (nI coef_n)) else (p1 * p2)) else (4096 : Int32)).toNatClampNeg) (fun _ => (0 : Int32)) ((if (if (p1 * p2) < ((2 : Int32) * (nI coef_n)) then ((2 : Int32) * (nI coef_n)) else (p1 * p2)) < (4096 : Int32) then (if (p1 * p2) < ((2 : Int32) * (nI coef_n)) then ((2 : Int32) * (nI coef_n)) else (p1 * p2)) else (4096 : Int32)).toNatClampNeg) (fun _ => (0 : Int32)) marks_n marks_f ((if (if (p1 * p2) < ((2 : Int32) * (nI coef_n)) then ((2 : Int32) * (nI coef_n)) else (p1 * p2)) < (4096 : Int32) then (if (p1 * p2) < ((2 : Int32) * (nI coef_n)) then ((2 : Int32) * (nI coef_n)) else (p1 * p2)) else (4096 : Int32)).toNatClampNeg) (fun _ => (0 : Int32))) := hD
    refine W.widen (k := k + ((if (if (p1 * p2) < ((2 : Int32) * (nI coef_n)) then ((2 : Int32) * (nI coef_n)) else (p1 * p2)) < (4096 : Int32) then (if (p1 * p2) < ((2 : Int32) * (nI coef_n)) then ((2 : Int32) * (nI coef_n)) else (p1 * p2)) else (4096 : Int32)).toNatClampNeg + 1)) (n := k + ((if (if (p1 * p2) < ((2 : Int32) * (nI coef_n)) then ((2 : Int32) * (nI coef_n)) else (p1 * p2)) < (4096 : Int32) then (if (p1 * p2) < ((2 : Int32) * (nI coef_n)) then ((2 : Int32) * (nI coef_n)) else (p1 * p2)) else (4096 : Int32)).toNatClampNeg + 1)) (by omega) (by omega) ?_
    obtain ⟨k1, hk1⟩ : ∃ z, z = k + (((if (if (p1 * p2) < ((2 : Int32) * (nI coef_n)) then ((2 : Int32) * (nI coef_n)) else (p1 * p2)) < (4096 : Int32) then (if (p1 * p2) < ((2 : Int32) * (nI coef_n)) then ((2 : Int32) * (nI coef_n)) else (p1 * p2)) else (4096 : Int32)).toNatClampNeg + 1)) := ⟨_, rfl⟩
    have hC : k1 + (0) + E2 ≤ Dt := by rw [hk1, Nat.add_assoc k]; exact hC
    refine W.widen (k := k1) (n := k1) (Nat.le_of_eq hk1.symm) (Nat.le_of_eq hk1.symm) ?_
    clear hk1
    generalize k1 = k at hC ⊢
    refine va_put (D := (dC, dI)) (ci := 4) (v := .ref q_11) (ty := .array .int) (C := RX5) (T := TX5) (N := 7) hx hb hts iw_X5_resize_X5 tyX5 tyX5_ok nmX5 hown hK hP hD hS 0 rfl rfl 4 (by decide) (hts (.fieldLink RX5 25 "PlaneBlocks$Field" "marks" "[I") (by decide +kernel)) (fun _ h9 => h9) rfl (by decide +kernel) rfl rfl (Nat.le_of_ble_eq_true rfl) dX5_resize_75 (fun H locs hP hD hS => ?_)
    have hP : va_P (dC, dI) vwCl (wd_fld_coef_mags_marks cI a_fld q_5 q_8 q_11 p1 p2 p3 p4 ((if (if (p1 * p2) < ((2 : Int32) * (nI coef_n)) then ((2 : Int32) * (nI coef_n)) else (p1 * p2)) < (4096 : Int32) then (if (p1 * p2) < ((2 : Int32) * (nI coef_n)) then ((2 : Int32) * (nI coef_n)) else (p1 * p2)) else (4096 : Int32)).toNatClampNeg) (fun _ => (0 : Int32)) ((if (if (p1 * p2) < ((2 : Int32) * (nI coef_n)) then ((2 : Int32) * (nI coef_n)) else (p1 * p2)) < (4096 : Int32) then (if (p1 * p2) < ((2 : Int32) * (nI coef_n)) then ((2 : Int32) * (nI coef_n)) else (p1 * p2)) else (4096 : Int32)).toNatClampNeg) (fun _ => (0 : Int32)) ((if (if (p1 * p2) < ((2 : Int32) * (nI coef_n)) then ((2 : Int32) * (nI coef_n)) else (p1 * p2)) < (4096 : Int32) then (if (p1 * p2) < ((2 : Int32) * (nI coef_n)) then ((2 : Int32) * (nI coef_n)) else (p1 * p2)) else (4096 : Int32)).toNatClampNeg) (fun _ => (0 : Int32))) H := hP.sub [0, 1, 2, 4] rfl
    have hD : va_D A (wd_fld_coef_mags_marks cI a_fld q_5 q_8 q_11 p1 p2 p3 p4 ((if (if (p1 * p2) < ((2 : Int32) * (nI coef_n)) then ((2 : Int32) * (nI coef_n)) else (p1 * p2)) < (4096 : Int32) then (if (p1 * p2) < ((2 : Int32) * (nI coef_n)) then ((2 : Int32) * (nI coef_n)) else (p1 * p2)) else (4096 : Int32)).toNatClampNeg) (fun _ => (0 : Int32)) ((if (if (p1 * p2) < ((2 : Int32) * (nI coef_n)) then ((2 : Int32) * (nI coef_n)) else (p1 * p2)) < (4096 : Int32) then (if (p1 * p2) < ((2 : Int32) * (nI coef_n)) then ((2 : Int32) * (nI coef_n)) else (p1 * p2)) else (4096 : Int32)).toNatClampNeg) (fun _ => (0 : Int32)) ((if (if (p1 * p2) < ((2 : Int32) * (nI coef_n)) then ((2 : Int32) * (nI coef_n)) else (p1 * p2)) < (4096 : Int32) then (if (p1 * p2) < ((2 : Int32) * (nI coef_n)) then ((2 : Int32) * (nI coef_n)) else (p1 * p2)) else (4096 : Int32)).toNatClampNeg) (fun _ => (0 : Int32))) := hD.sub [0, 1, 2, 4] (by decide) rfl
    exact hJ_j_12 q_5 q_8 q_11 _ _ _ _ (by rw [← hg]; exact hP) (by rw [← hg]; exact hD) hS (lv_sub hl [2, 3, 4, 5, 6, 1] rfl) (by rw [Nat.add_assoc, ← hE2]; exact hC)
abbrev wd_pb (a_pb : Nat) (a_fld : Nat) (a_plan : Nat) (a_row : Nat) (a_ctx : Nat) (a_cw : Nat) (a_rw : Nat) (a_cr : Nat) (a_rr : Nat) (a_scan : Nat) (pb_style : Int32) (pb_isWritten : Int32) (pb_isRead : Int32) : va_W := [(a_pb, .inr (9, [.ref a_fld, .ref a_plan, .ref a_row, .ref a_ctx, .ref a_cw, .ref a_rw, .ref a_cr, .ref a_rr, .ref a_scan, .int pb_style, .int pb_isWritten, .int pb_isRead]))]
abbrev rm_X10_has : Room := { frames := 0, cells := 0, slots := 0, locals := 0 }
abbrev Q_X10_has (dC : Nat → ClassId) (dI : Nat → Nat → Nat) (cI cJ cZ : ClassId) (a_pb : Nat) (a_fld : Nat) (a_plan : Nat) (a_row : Nat) (a_ctx : Nat) (a_cw : Nat) (a_rw : Nat) (a_cr : Nat) (a_rr : Nat) (a_scan : Nat) (A : Nat → Prop) (pb_style : Int32) (pb_isWritten : Int32) (pb_isRead : Int32) (g : Int32) : Array Value → State → Outcome → State → Prop := va_Qi (fun (r : Int32) (_ : Unit) => r = g) (fun u t => va_P (dC, dI) vwCl (wd_pb a_pb a_fld a_plan a_row a_ctx a_cw a_rw a_cr a_rr a_scan pb_style pb_isWritten pb_isRead) t.heap ∧ va_K (dC, dI) vwCl [(cI, .int), (cJ, .long), (cZ, .boolean)] t ∧ va_D A (wd_pb a_pb a_fld a_plan a_row a_ctx a_cw a_rw a_cr a_rr a_scan pb_style pb_isWritten pb_isRead)) A
theorem iw_X10_has_X10 : ∀ w ∈ u_ws RX10 TX10 12, w ∈ wsX10_has := by decide +kernel
set_option maxHeartbeats 4000000 in
set_option maxRecDepth 100000 in
theorem c_X10_has (l : Launch) (dC : Nat → ClassId) (dI : Nat → Nat → Nat) (cI cJ cZ : ClassId) (a_pb : Nat) (a_fld : Nat) (a_plan : Nat) (a_row : Nat) (a_ctx : Nat) (a_cw : Nat) (a_rw : Nat) (a_cr : Nat) (a_rr : Nat) (a_scan : Nat) (sz : Nat) (pb_style : Int32) (pb_isWritten : Int32) (pb_isRead : Int32) (p1 : Int32) : Met l yX10_has wsX10_has rm_X10_has (va_Pc [.ref a_pb, .int p1] (fun U => U.heap.size = sz ∧ va_P (dC, dI) vwCl (wd_pb a_pb a_fld a_plan a_row a_ctx a_cw a_rw a_cr a_rr a_scan pb_style pb_isWritten pb_isRead) U.heap ∧ va_K (dC, dI) vwCl [(cI, .int), (cJ, .long), (cZ, .boolean)] U ∧ va_D (fun _ => True) (wd_pb a_pb a_fld a_plan a_row a_ctx a_cw a_rw a_cr a_rr a_scan pb_style pb_isWritten pb_isRead))) (Q_X10_has dC dI cI cJ cZ a_pb a_fld a_plan a_row a_ctx a_cw a_rw a_cr a_rr a_scan (va_A (wd_pb a_pb a_fld a_plan a_row a_ctx a_cw a_rw a_cr a_rr a_scan pb_style pb_isWritten pb_isRead) sz) pb_style pb_isWritten pb_isRead (F_X10_has p1 pb_style)) 0 0 (va_A (wd_pb a_pb a_fld a_plan a_row a_ctx a_cw a_rw a_cr a_rr a_scan pb_style pb_isWritten pb_isRead) sz) := by
  refine Met.ofW (cc := cX10_has) (maxL := 2) (ret := (some .boolean)) (by decide) rfl ?_
  intro p e s m args below meth c s₁ B hml hv
  obtain ⟨rfl, hsz, hP, hK, hD0⟩ := hv
  have hx := B.exec
  have hb := B.bytes
  have hr := B.returns
  have hts := atoms_spec (ws := wsX10_has) B.pre
  have hown : s.vm.findClass RX10 = some m.cls := findClass_of_methodNamed B.named
  have hlocks := B.notSynchronized
  subst hsz
  have hD := hD0.self (sz := s.heap.size)
  generalize hAe : va_A (wd_pb a_pb a_fld a_plan a_row a_ctx a_cw a_rw a_cr a_rr a_scan pb_style pb_isWritten pb_isRead) s.heap.size = A at hD ⊢
  have hA : ∀ q : Nat, s.heap.size ≤ q → A q := fun q h => by rw [← hAe]; exact Or.inr h
  have hS : va_S A s.heap s.heap [] := va_S.rf
  obtain ⟨H, hH⟩ : ∃ z, z = s.heap := ⟨_, rfl⟩
  have hP : va_P (dC, dI) vwCl (wd_pb a_pb a_fld a_plan a_row a_ctx a_cw a_rw a_cr a_rr a_scan pb_style pb_isWritten pb_isRead) H := by rw [hH]; exact hP
  have hS : va_S A s.heap H [] := by rw [hH]; exact va_S.rf
  obtain ⟨g, hg⟩ : ∃ z, F_X10_has p1 pb_style = z := ⟨_, rfl⟩
  rw [hg]
  generalize hQe : MQ below (Q_X10_has dC dI cI cJ cZ a_pb a_fld a_plan a_row a_ctx a_cw a_rw a_cr a_rr a_scan A pb_style pb_isWritten pb_isRead g) _ s 0 0 A = Q
  rw [← hH]
  clear hH
  have hl := lv_entry ([.ref a_pb, .int p1]) (n := 2) (Nat.le_of_ble_eq_true rfl)
  rw [lg_entry_eq]
  generalize (lg_sl ([.ref a_pb, .int p1]) ++ List.replicate (2 - (lg_sl ([.ref a_pb, .int p1])).length) Slot.unset).toArray = ls at hl ⊢
  have hl : lv_has ls 2 [(0, .ref a_pb), (1, .int p1)] := hl
  unfold F_X10_has at hg
  refine lv_aload_n hx hb dX10_has_0 rfl (lv_at hl 0 rfl) ?_
  refine va_get (D := (dC, dI)) (ci := 9) (v := .int pb_style) (C := RX10) (T := TX10) (N := 12) hx hb hts iw_X10_has_X10 hown hK hP 0 rfl rfl 9 (by decide) (hts (.fieldLink RX10 89 "PlaneBlocks" "style" "I") (by decide +kernel)) (fun _ h9 => h9) rfl dX10_has_1 ?_
  refine lv_iload_n hx hb dX10_has_4 rfl (lv_at hl 1 rfl) ?_
  refine lv_iand hx hb dX10_has_5 ?_
  refine lv_if_eq (tgt := 13) hx hb dX10_has_6 (by decide) (fun c_1 => ?_) (fun c_1 => ?_)
  · rw [if_pos c_1] at hg
    refine lv_iconst (v := 0) hx hb dX10_has_13 (by decide) ?_
    subst hg
    rw [← hQe]
    exact W.zret (v := (0 : Int32)) (ty := .boolean) hx hb hr rfl (fun t ht hW => ⟨⟨(0 : Int32), (), rfl, rfl, by rw [ht]; exact hP, va_K.moved hW.alike hK, hD⟩, hS.F ht⟩) hS.2.2 dX10_has_14
  · rw [if_neg c_1] at hg
    refine lv_iconst (v := 1) hx hb dX10_has_9 (by decide) ?_
    refine lv_goto (tgt := 14) hx hb dX10_has_10 (by decide) ?_
    subst hg
    rw [← hQe]
    exact W.zret (v := (1 : Int32)) (ty := .boolean) hx hb hr rfl (fun t ht hW => ⟨⟨(1 : Int32), (), rfl, rfl, by rw [ht]; exact hP, va_K.moved hW.alike hK, hD⟩, hS.F ht⟩) hS.2.2 dX10_has_14
abbrev rm_X10_forgetAll : Room := { frames := 0, cells := 0, slots := 0, locals := 0 }
abbrev Q_X10_forgetAll (dC : Nat → ClassId) (dI : Nat → Nat → Nat) (cI cJ cZ : ClassId) (a_pb : Nat) (a_fld : Nat) (a_plan : Nat) (a_row : Nat) (a_ctx : Nat) (a_cw : Nat) (a_rw : Nat) (a_cr : Nat) (a_rr : Nat) (a_scan : Nat) (A : Nat → Prop) (pb_style : Int32) (pb_isWritten : Int32) (pb_isRead : Int32) (g : (Int32 × Int32)) : Array Value → State → Outcome → State → Prop := va_Qv (fun _ : Unit => True) (fun u t => va_P (dC, dI) vwCl (wd_pb a_pb a_fld a_plan a_row a_ctx a_cw a_rw a_cr a_rr a_scan pb_style g.1 g.2) t.heap ∧ va_K (dC, dI) vwCl [(cI, .int), (cJ, .long), (cZ, .boolean)] t ∧ va_D A (wd_pb a_pb a_fld a_plan a_row a_ctx a_cw a_rw a_cr a_rr a_scan pb_style g.1 g.2)) A
theorem iw_X10_forgetAll_X10 : ∀ w ∈ u_ws RX10 TX10 12, w ∈ wsX10_forgetAll := by decide +kernel
set_option maxHeartbeats 4000000 in
set_option maxRecDepth 100000 in
theorem c_X10_forgetAll (l : Launch) (dC : Nat → ClassId) (dI : Nat → Nat → Nat) (cI cJ cZ : ClassId) (a_pb : Nat) (a_fld : Nat) (a_plan : Nat) (a_row : Nat) (a_ctx : Nat) (a_cw : Nat) (a_rw : Nat) (a_cr : Nat) (a_rr : Nat) (a_scan : Nat) (sz : Nat) (pb_style : Int32) (pb_isWritten : Int32) (pb_isRead : Int32) : Met l yX10_forgetAll wsX10_forgetAll rm_X10_forgetAll (va_Pc [.ref a_pb] (fun U => U.heap.size = sz ∧ va_P (dC, dI) vwCl (wd_pb a_pb a_fld a_plan a_row a_ctx a_cw a_rw a_cr a_rr a_scan pb_style pb_isWritten pb_isRead) U.heap ∧ va_K (dC, dI) vwCl [(cI, .int), (cJ, .long), (cZ, .boolean)] U ∧ va_D (fun _ => True) (wd_pb a_pb a_fld a_plan a_row a_ctx a_cw a_rw a_cr a_rr a_scan pb_style pb_isWritten pb_isRead))) (Q_X10_forgetAll dC dI cI cJ cZ a_pb a_fld a_plan a_row a_ctx a_cw a_rw a_cr a_rr a_scan (va_A (wd_pb a_pb a_fld a_plan a_row a_ctx a_cw a_rw a_cr a_rr a_scan pb_style pb_isWritten pb_isRead) sz) pb_style pb_isWritten pb_isRead F_X10_forgetAll) 0 0 (va_A (wd_pb a_pb a_fld a_plan a_row a_ctx a_cw a_rw a_cr a_rr a_scan pb_style pb_isWritten pb_isRead) sz) := by
  refine Met.ofW (cc := cX10_forgetAll) (maxL := 1) (ret := none) (by decide) rfl ?_
  intro p e s m args below meth c s₁ B hml hv
  obtain ⟨rfl, hsz, hP, hK, hD0⟩ := hv
  have hx := B.exec
  have hb := B.bytes
  have hr := B.returns
  have hts := atoms_spec (ws := wsX10_forgetAll) B.pre
  have hown : s.vm.findClass RX10 = some m.cls := findClass_of_methodNamed B.named
  have hlocks := B.notSynchronized
  subst hsz
  have hD := hD0.self (sz := s.heap.size)
  generalize hAe : va_A (wd_pb a_pb a_fld a_plan a_row a_ctx a_cw a_rw a_cr a_rr a_scan pb_style pb_isWritten pb_isRead) s.heap.size = A at hD ⊢
  have hA : ∀ q : Nat, s.heap.size ≤ q → A q := fun q h => by rw [← hAe]; exact Or.inr h
  have hS : va_S A s.heap s.heap [] := va_S.rf
  obtain ⟨H, hH⟩ : ∃ z, z = s.heap := ⟨_, rfl⟩
  have hP : va_P (dC, dI) vwCl (wd_pb a_pb a_fld a_plan a_row a_ctx a_cw a_rw a_cr a_rr a_scan pb_style pb_isWritten pb_isRead) H := by rw [hH]; exact hP
  have hS : va_S A s.heap H [] := by rw [hH]; exact va_S.rf
  obtain ⟨g, hg⟩ : ∃ z, F_X10_forgetAll = z := ⟨_, rfl⟩
  rw [hg]
  generalize hQe : MQ below (Q_X10_forgetAll dC dI cI cJ cZ a_pb a_fld a_plan a_row a_ctx a_cw a_rw a_cr a_rr a_scan A pb_style pb_isWritten pb_isRead g) _ s 0 0 A = Q
  rw [← hH]
  clear hH
  have hl := lv_entry ([.ref a_pb]) (n := 1) (Nat.le_of_ble_eq_true rfl)
  rw [lg_entry_eq]
  generalize (lg_sl ([.ref a_pb]) ++ List.replicate (1 - (lg_sl ([.ref a_pb])).length) Slot.unset).toArray = ls at hl ⊢
  have hl : lv_has ls 1 [(0, .ref a_pb)] := hl
  unfold F_X10_forgetAll at hg
  refine lv_aload_n hx hb dX10_forgetAll_0 rfl (lv_at hl 0 rfl) ?_
  refine lv_iconst (v := 0) hx hb dX10_forgetAll_1 (by decide) ?_
  refine va_put (D := (dC, dI)) (ci := 9) (v := .int (0 : Int32)) (ty := .boolean) (C := RX10) (T := TX10) (N := 12) hx hb hts iw_X10_forgetAll_X10 tyX10 tyX10_ok nmX10 hown hK hP hD hS 0 rfl rfl 10 (by decide) (hts (.fieldLink RX10 209 "PlaneBlocks" "isWritten" "Z") (by decide +kernel)) (fun _ h9 => h9) rfl (by decide +kernel) rfl rfl (Nat.le_of_ble_eq_true rfl) dX10_forgetAll_2 (fun H locs hP hD hS => ?_)
  have hP : va_P (dC, dI) vwCl (wd_pb a_pb a_fld a_plan a_row a_ctx a_cw a_rw a_cr a_rr a_scan pb_style (0 : Int32) pb_isRead) H := hP
  have hD : va_D A (wd_pb a_pb a_fld a_plan a_row a_ctx a_cw a_rw a_cr a_rr a_scan pb_style (0 : Int32) pb_isRead) := hD
  refine lv_aload_n hx hb dX10_forgetAll_5 rfl (lv_at hl 0 rfl) ?_
  refine lv_iconst (v := 0) hx hb dX10_forgetAll_6 (by decide) ?_
  refine va_put (D := (dC, dI)) (ci := 9) (v := .int (0 : Int32)) (ty := .boolean) (C := RX10) (T := TX10) (N := 12) hx hb hts iw_X10_forgetAll_X10 tyX10 tyX10_ok nmX10 hown hK hP hD hS 0 rfl rfl 11 (by decide) (hts (.fieldLink RX10 213 "PlaneBlocks" "isRead" "Z") (by decide +kernel)) (fun _ h9 => h9) rfl (by decide +kernel) rfl rfl (Nat.le_of_ble_eq_true rfl) dX10_forgetAll_7 (fun H locs hP hD hS => ?_)
  have hP : va_P (dC, dI) vwCl (wd_pb a_pb a_fld a_plan a_row a_ctx a_cw a_rw a_cr a_rr a_scan pb_style (0 : Int32) (0 : Int32)) H := hP
  have hD : va_D A (wd_pb a_pb a_fld a_plan a_row a_ctx a_cw a_rw a_cr a_rr a_scan pb_style (0 : Int32) (0 : Int32)) := hD
  subst hg
  rw [← hQe]
  exact W.vret hx hb hr (fun t ht hW => ⟨⟨(), rfl, trivial, by rw [ht]; exact hP, va_K.moved hW.alike hK, hD⟩, hS.F ht⟩) hS.2.2 dX10_forgetAll_10
abbrev wd_ctx_states_likely_fld_mags_marks_scan_pb (cI : ClassId) (a_ctx : Nat) (a_states : Nat) (a_likely : Nat) (a_fld : Nat) (a_coef : Nat) (a_mags : Nat) (a_marks : Nat) (a_scan : Nat) (a_cw : Nat) (a_rw : Nat) (a_cr : Nat) (a_rr : Nat) (a_pb : Nat) (a_plan : Nat) (a_row : Nat) (states_n : Nat) (states_f : Nat → Int32) (likely_n : Nat) (likely_f : Nat → Int32) (fld_wide : Int32) (fld_high : Int32) (fld_band : Int32) (fld_causal : Int32) (mags_n : Nat) (mags_f : Nat → Int32) (marks_n : Nat) (marks_f : Nat → Int32) (scan_lessened : Int64) (scan_faults : Int32) (scan_bk : Nat) (scan_raw : Int32) (scan_plane : Int32) (pb_style : Int32) (pb_isWritten : Int32) (pb_isRead : Int32) : va_W := [(a_ctx, .inr (3, [.ref a_states, .ref a_likely])), (a_states, .inl (cI, states_n, .inl states_f)), (a_likely, .inl (cI, likely_n, .inl likely_f)), (a_fld, .inr (4, [.int fld_wide, .int fld_high, .ref a_coef, .ref a_mags, .ref a_marks, .int fld_band, .int fld_causal])), (a_mags, .inl (cI, mags_n, .inl mags_f)), (a_marks, .inl (cI, marks_n, .inl marks_f)), (a_scan, .inr (8, [.long scan_lessened, .int scan_faults, .ref a_fld, .ref (bsel scan_bk a_cw a_rw a_cr a_rr), .int scan_raw, .int scan_plane])), (a_pb, .inr (9, [.ref a_fld, .ref a_plan, .ref a_row, .ref a_ctx, .ref a_cw, .ref a_rw, .ref a_cr, .ref a_rr, .ref a_scan, .int pb_style, .int pb_isWritten, .int pb_isRead]))]
abbrev rm_X10_startOver : Room := { frames := 2, cells := 0, slots := 0, locals := 43 }
abbrev Q_X10_startOver (dC : Nat → ClassId) (dI : Nat → Nat → Nat) (cI cJ cZ : ClassId) (a_ctx : Nat) (a_states : Nat) (a_likely : Nat) (a_fld : Nat) (a_coef : Nat) (a_mags : Nat) (a_marks : Nat) (a_scan : Nat) (a_cw : Nat) (a_rw : Nat) (a_cr : Nat) (a_rr : Nat) (a_pb : Nat) (a_plan : Nat) (a_row : Nat) (A : Nat → Prop) (states_n : Nat) (states_f : Nat → Int32) (likely_n : Nat) (likely_f : Nat → Int32) (fld_wide : Int32) (fld_high : Int32) (fld_band : Int32) (fld_causal : Int32) (mags_n : Nat) (mags_f : Nat → Int32) (marks_n : Nat) (marks_f : Nat → Int32) (scan_lessened : Int64) (scan_faults : Int32) (scan_bk : Nat) (scan_raw : Int32) (scan_plane : Int32) (pb_style : Int32) (pb_isWritten : Int32) (pb_isRead : Int32) (g : ((Nat → Int32) × (Nat → Int32) × (Nat → Int32) × (Nat → Int32) × Int32)) : Array Value → State → Outcome → State → Prop := va_Qv (fun _ : Unit => True) (fun u t => va_P (dC, dI) vwCl (wd_ctx_states_likely_fld_mags_marks_scan_pb cI a_ctx a_states a_likely a_fld a_coef a_mags a_marks a_scan a_cw a_rw a_cr a_rr a_pb a_plan a_row states_n g.1 likely_n g.2.1 fld_wide fld_high fld_band fld_causal mags_n g.2.2.1 marks_n g.2.2.2.1 scan_lessened g.2.2.2.2 scan_bk scan_raw scan_plane pb_style pb_isWritten pb_isRead) t.heap ∧ va_K (dC, dI) vwCl [(cI, .int), (cJ, .long), (cZ, .boolean)] t ∧ va_D A (wd_ctx_states_likely_fld_mags_marks_scan_pb cI a_ctx a_states a_likely a_fld a_coef a_mags a_marks a_scan a_cw a_rw a_cr a_rr a_pb a_plan a_row states_n g.1 likely_n g.2.1 fld_wide fld_high fld_band fld_causal mags_n g.2.2.1 marks_n g.2.2.2.1 scan_lessened g.2.2.2.2 scan_bk scan_raw scan_plane pb_style pb_isWritten pb_isRead)) A
theorem iw_X10_startOver_X10 : ∀ w ∈ u_ws RX10 TX10 12, w ∈ wsX10_startOver := by decide +kernel
theorem iw_X10_startOver_X9 : ∀ w ∈ u_ws RX9 TX9 6, w ∈ wsX10_startOver := by decide +kernel
set_option maxHeartbeats 4000000 in
set_option maxRecDepth 100000 in
theorem c_X10_startOver (l : Launch) (dC : Nat → ClassId) (dI : Nat → Nat → Nat) (cI cJ cZ : ClassId) (a_ctx : Nat) (a_states : Nat) (a_likely : Nat) (a_fld : Nat) (a_coef : Nat) (a_mags : Nat) (a_marks : Nat) (a_scan : Nat) (a_cw : Nat) (a_rw : Nat) (a_cr : Nat) (a_rr : Nat) (a_pb : Nat) (a_plan : Nat) (a_row : Nat) (sz : Nat) (states_n : Nat) (states_f : Nat → Int32) (likely_n : Nat) (likely_f : Nat → Int32) (fld_wide : Int32) (fld_high : Int32) (fld_band : Int32) (fld_causal : Int32) (mags_n : Nat) (mags_f : Nat → Int32) (marks_n : Nat) (marks_f : Nat → Int32) (scan_lessened : Int64) (scan_faults : Int32) (scan_bk : Nat) (scan_raw : Int32) (scan_plane : Int32) (pb_style : Int32) (pb_isWritten : Int32) (pb_isRead : Int32) (hpre : P_X10_startOver states_n states_f likely_n likely_f mags_n mags_f marks_n marks_f) : Met l yX10_startOver wsX10_startOver rm_X10_startOver (va_Pc [.ref a_pb] (fun U => U.heap.size = sz ∧ va_P (dC, dI) vwCl (wd_ctx_states_likely_fld_mags_marks_scan_pb cI a_ctx a_states a_likely a_fld a_coef a_mags a_marks a_scan a_cw a_rw a_cr a_rr a_pb a_plan a_row states_n states_f likely_n likely_f fld_wide fld_high fld_band fld_causal mags_n mags_f marks_n marks_f scan_lessened scan_faults scan_bk scan_raw scan_plane pb_style pb_isWritten pb_isRead) U.heap ∧ va_K (dC, dI) vwCl [(cI, .int), (cJ, .long), (cZ, .boolean)] U ∧ va_D (fun _ => True) (wd_ctx_states_likely_fld_mags_marks_scan_pb cI a_ctx a_states a_likely a_fld a_coef a_mags a_marks a_scan a_cw a_rw a_cr a_rr a_pb a_plan a_row states_n states_f likely_n likely_f fld_wide fld_high fld_band fld_causal mags_n mags_f marks_n marks_f scan_lessened scan_faults scan_bk scan_raw scan_plane pb_style pb_isWritten pb_isRead))) (Q_X10_startOver dC dI cI cJ cZ a_ctx a_states a_likely a_fld a_coef a_mags a_marks a_scan a_cw a_rw a_cr a_rr a_pb a_plan a_row (va_A (wd_ctx_states_likely_fld_mags_marks_scan_pb cI a_ctx a_states a_likely a_fld a_coef a_mags a_marks a_scan a_cw a_rw a_cr a_rr a_pb a_plan a_row states_n states_f likely_n likely_f fld_wide fld_high fld_band fld_causal mags_n mags_f marks_n marks_f scan_lessened scan_faults scan_bk scan_raw scan_plane pb_style pb_isWritten pb_isRead) sz) states_n states_f likely_n likely_f fld_wide fld_high fld_band fld_causal mags_n mags_f marks_n marks_f scan_lessened scan_faults scan_bk scan_raw scan_plane pb_style pb_isWritten pb_isRead (F_X10_startOver states_n states_f likely_n likely_f mags_n mags_f marks_n marks_f)) 0 0 (va_A (wd_ctx_states_likely_fld_mags_marks_scan_pb cI a_ctx a_states a_likely a_fld a_coef a_mags a_marks a_scan a_cw a_rw a_cr a_rr a_pb a_plan a_row states_n states_f likely_n likely_f fld_wide fld_high fld_band fld_causal mags_n mags_f marks_n marks_f scan_lessened scan_faults scan_bk scan_raw scan_plane pb_style pb_isWritten pb_isRead) sz) := by
  refine Met.ofW (cc := cX10_startOver) (maxL := 1) (ret := none) (by decide) rfl ?_
  intro p e s m args below meth c s₁ B hml hv
  obtain ⟨rfl, hsz, hP, hK, hD0⟩ := hv
  have hx := B.exec
  have hb := B.bytes
  have hr := B.returns
  have hts := atoms_spec (ws := wsX10_startOver) B.pre
  have hown : s.vm.findClass RX10 = some m.cls := findClass_of_methodNamed B.named
  have hlocks := B.notSynchronized
  subst hsz
  have hD := hD0.self (sz := s.heap.size)
  generalize hAe : va_A (wd_ctx_states_likely_fld_mags_marks_scan_pb cI a_ctx a_states a_likely a_fld a_coef a_mags a_marks a_scan a_cw a_rw a_cr a_rr a_pb a_plan a_row states_n states_f likely_n likely_f fld_wide fld_high fld_band fld_causal mags_n mags_f marks_n marks_f scan_lessened scan_faults scan_bk scan_raw scan_plane pb_style pb_isWritten pb_isRead) s.heap.size = A at hD ⊢
  have hA : ∀ q : Nat, s.heap.size ≤ q → A q := fun q h => by rw [← hAe]; exact Or.inr h
  have hS : va_S A s.heap s.heap [] := va_S.rf
  obtain ⟨H, hH⟩ : ∃ z, z = s.heap := ⟨_, rfl⟩
  have hP : va_P (dC, dI) vwCl (wd_ctx_states_likely_fld_mags_marks_scan_pb cI a_ctx a_states a_likely a_fld a_coef a_mags a_marks a_scan a_cw a_rw a_cr a_rr a_pb a_plan a_row states_n states_f likely_n likely_f fld_wide fld_high fld_band fld_causal mags_n mags_f marks_n marks_f scan_lessened scan_faults scan_bk scan_raw scan_plane pb_style pb_isWritten pb_isRead) H := by rw [hH]; exact hP
  have hS : va_S A s.heap H [] := by rw [hH]; exact va_S.rf
  obtain ⟨g, hg⟩ : ∃ z, F_X10_startOver states_n states_f likely_n likely_f mags_n mags_f marks_n marks_f = z := ⟨_, rfl⟩
  rw [hg]
  generalize hQe : MQ below (Q_X10_startOver dC dI cI cJ cZ a_ctx a_states a_likely a_fld a_coef a_mags a_marks a_scan a_cw a_rw a_cr a_rr a_pb a_plan a_row A states_n states_f likely_n likely_f fld_wide fld_high fld_band fld_causal mags_n mags_f marks_n marks_f scan_lessened scan_faults scan_bk scan_raw scan_plane pb_style pb_isWritten pb_isRead g) _ s 0 0 A = Q
  rw [← hH]
  clear hH
  have hl := lv_entry ([.ref a_pb]) (n := 1) (Nat.le_of_ble_eq_true rfl)
  rw [lg_entry_eq]
  generalize (lg_sl ([.ref a_pb]) ++ List.replicate (1 - (lg_sl ([.ref a_pb])).length) Slot.unset).toArray = ls at hl ⊢
  have hl : lv_has ls 1 [(0, .ref a_pb)] := hl
  unfold F_X10_startOver at hg
  unfold P_X10_startOver at hpre
  refine lv_aload_n hx hb dX10_startOver_0 rfl (lv_at hl 0 rfl) ?_
  refine va_get (D := (dC, dI)) (ci := 9) (v := .ref a_fld) (C := RX10) (T := TX10) (N := 12) hx hb hts iw_X10_startOver_X10 hown hK hP 7 rfl rfl 0 (by decide) (hts (.fieldLink RX10 12 "PlaneBlocks" "field" "LPlaneBlocks$Field;") (by decide +kernel)) (fun _ h9 => h9) rfl dX10_startOver_1 ?_
  have hPc := hP.sub (ws' := (wd_fld_mags_marks cI a_fld a_coef a_mags a_marks fld_wide fld_high fld_band fld_causal mags_n mags_f marks_n marks_f)) [3, 4, 5] rfl
  have hDc := hD.sub (ws' := (wd_fld_mags_marks cI a_fld a_coef a_mags a_marks fld_wide fld_high fld_band fld_causal mags_n mags_f marks_n marks_f)) [3, 4, 5] (by decide) rfl
  have hFc := va_free (wc := (wd_fld_mags_marks cI a_fld a_coef a_mags a_marks fld_wide fld_high fld_band fld_causal mags_n mags_f marks_n marks_f)) hD hS hA [3, 4, 5] rfl
  refine va_callv (va_runV (As := []) (rest := []) ⟨hx, hb, hml, hown, hts⟩ (c_X5_forget l dC dI cI cJ cZ a_fld a_coef a_mags a_marks H.size fld_wide fld_high fld_band fld_causal mags_n mags_f marks_n marks_f hpre.1) (cwV 0 hts gX10_startOver_X5_forget rfl rfl rfl (by decide +kernel) ⟨Nat.le_of_ble_eq_true rfl, Nat.le_of_ble_eq_true rfl⟩) ⟨fun a U g mk q => by obtain ⟨q0, q1, qP, qK, qD⟩ := q; exact ⟨q0, q1, qP, va_K.moved (u := U) (U := U.calling g mk a) (Vm.Alike.refl U.vm) qK, qD⟩, va_recv hK hPc (ci := 4) (q0 := 0) rfl rfl, fun U hU hW => ⟨rfl, by rw [hU], by rw [hU]; exact hPc, va_K.moved hW.alike hK, hDc.weaken (fun _ _ _ _ => trivial)⟩⟩ rfl rfl hl.1 rfl (lv_room (Nat.le_of_ble_eq_true rfl)) dX10_startOver_4 ⟨Nat.le_of_ble_eq_true rfl, Nat.le_of_ble_eq_true rfl⟩) hS (fun q _ h => hFc q h) hFc (fun u t H1 locs ht hvm hw hB hz1 hk1 hS => ?_)
  obtain ⟨hP1, hK1, hD1⟩ := hB
  rw [ht] at hP1
  obtain ⟨r_1, hr_1⟩ : ∃ z, F_X5_forget mags_n mags_f marks_n marks_f = z := ⟨_, rfl⟩
  try rw [hr_1] at hw
  try rw [hr_1] at hP1
  try rw [hr_1] at hD1
  have hg : (let r_2 := F_X4_restart states_n states_f likely_n likely_f; (r_2.1, r_2.2, r_1.1, r_1.2, (0 : Int32))) = g := by first | (rw [hr_1] at hg; exact hg) | (subst hr_1; exact hg)
  obtain ⟨hP, hD⟩ := va_join (wr := [(a_ctx, .inr (3, [.ref a_states, .ref a_likely])), (a_states, .inl (cI, states_n, .inl states_f)), (a_likely, .inl (cI, likely_n, .inl likely_f)), (a_scan, .inr (8, [.long scan_lessened, .int scan_faults, .ref a_fld, .ref (bsel scan_bk a_cw a_rw a_cr a_rr), .int scan_raw, .int scan_plane])), (a_pb, .inr (9, [.ref a_fld, .ref a_plan, .ref a_row, .ref a_ctx, .ref a_cw, .ref a_rw, .ref a_cr, .ref a_rr, .ref a_scan, .int pb_style, .int pb_isWritten, .int pb_isRead]))]) (w1 := (wd_fld_mags_marks cI a_fld a_coef a_mags a_marks fld_wide fld_high fld_band fld_causal mags_n r_1.1 marks_n r_1.2)) hP hD [3, 4, 5] [0, 1, 2, 6, 7] rfl rfl (by decide) (by decide) hk1 hFc hP1 hD1
  have hP : va_P (dC, dI) vwCl (wd_ctx_states_likely_fld_mags_marks_scan_pb cI a_ctx a_states a_likely a_fld a_coef a_mags a_marks a_scan a_cw a_rw a_cr a_rr a_pb a_plan a_row states_n states_f likely_n likely_f fld_wide fld_high fld_band fld_causal mags_n r_1.1 marks_n r_1.2 scan_lessened scan_faults scan_bk scan_raw scan_plane pb_style pb_isWritten pb_isRead) H1 := hP.sub [0, 1, 2, 5, 6, 7, 3, 4] rfl
  have hD : va_D A (wd_ctx_states_likely_fld_mags_marks_scan_pb cI a_ctx a_states a_likely a_fld a_coef a_mags a_marks a_scan a_cw a_rw a_cr a_rr a_pb a_plan a_row states_n states_f likely_n likely_f fld_wide fld_high fld_band fld_causal mags_n r_1.1 marks_n r_1.2 scan_lessened scan_faults scan_bk scan_raw scan_plane pb_style pb_isWritten pb_isRead) := hD.sub [0, 1, 2, 5, 6, 7, 3, 4] (by decide) rfl
  generalize H1 = H at hP hS ⊢
  have hpre := hpre.2 r_1 hr_1
  refine lv_aload_n hx hb dX10_startOver_7 rfl (lv_at hl 0 rfl) ?_
  refine va_get (D := (dC, dI)) (ci := 9) (v := .ref a_ctx) (C := RX10) (T := TX10) (N := 12) hx hb hts iw_X10_startOver_X10 hown hK hP 7 rfl rfl 3 (by decide) (hts (.fieldLink RX10 33 "PlaneBlocks" "contexts" "LPlaneBlocks$Contexts;") (by decide +kernel)) (fun _ h9 => h9) rfl dX10_startOver_8 ?_
  have hPc := hP.sub (ws' := (wd_ctx_states_likely cI a_ctx a_states a_likely states_n states_f likely_n likely_f)) [0, 1, 2] rfl
  have hDc := hD.sub (ws' := (wd_ctx_states_likely cI a_ctx a_states a_likely states_n states_f likely_n likely_f)) [0, 1, 2] (by decide) rfl
  have hFc := va_free (wc := (wd_ctx_states_likely cI a_ctx a_states a_likely states_n states_f likely_n likely_f)) hD hS hA [0, 1, 2] rfl
  refine va_callv (va_runV (As := []) (rest := []) ⟨hx, hb, hml, hown, hts⟩ (c_X4_restart l dC dI cI cJ cZ a_ctx a_states a_likely H.size states_n states_f likely_n likely_f hpre) (cwV 0 hts gX10_startOver_X4_restart rfl rfl rfl (by decide +kernel) ⟨Nat.le_of_ble_eq_true rfl, Nat.le_of_ble_eq_true rfl⟩) ⟨fun a U g mk q => by obtain ⟨q0, q1, qP, qK, qD⟩ := q; exact ⟨q0, q1, qP, va_K.moved (u := U) (U := U.calling g mk a) (Vm.Alike.refl U.vm) qK, qD⟩, va_recv hK hPc (ci := 3) (q0 := 0) rfl rfl, fun U hU hW => ⟨rfl, by rw [hU], by rw [hU]; exact hPc, va_K.moved hW.alike hK, hDc.weaken (fun _ _ _ _ => trivial)⟩⟩ rfl rfl hl.1 rfl (lv_room (Nat.le_of_ble_eq_true rfl)) dX10_startOver_11 ⟨Nat.le_of_ble_eq_true rfl, Nat.le_of_ble_eq_true rfl⟩) hS (fun q _ h => hFc q h) hFc (fun u t H1 locs ht hvm hw hB hz1 hk1 hS => ?_)
  obtain ⟨hP1, hK1, hD1⟩ := hB
  rw [ht] at hP1
  obtain ⟨r_2, hr_2⟩ : ∃ z, F_X4_restart states_n states_f likely_n likely_f = z := ⟨_, rfl⟩
  try rw [hr_2] at hw
  try rw [hr_2] at hP1
  try rw [hr_2] at hD1
  have hg : (r_2.1, r_2.2, r_1.1, r_1.2, (0 : Int32)) = g := by first | (rw [hr_2] at hg; exact hg) | (subst hr_2; exact hg)
  obtain ⟨hP, hD⟩ := va_join (wr := [(a_fld, .inr (4, [.int fld_wide, .int fld_high, .ref a_coef, .ref a_mags, .ref a_marks, .int fld_band, .int fld_causal])), (a_mags, .inl (cI, mags_n, .inl r_1.1)), (a_marks, .inl (cI, marks_n, .inl r_1.2)), (a_scan, .inr (8, [.long scan_lessened, .int scan_faults, .ref a_fld, .ref (bsel scan_bk a_cw a_rw a_cr a_rr), .int scan_raw, .int scan_plane])), (a_pb, .inr (9, [.ref a_fld, .ref a_plan, .ref a_row, .ref a_ctx, .ref a_cw, .ref a_rw, .ref a_cr, .ref a_rr, .ref a_scan, .int pb_style, .int pb_isWritten, .int pb_isRead]))]) (w1 := (wd_ctx_states_likely cI a_ctx a_states a_likely states_n r_2.1 likely_n r_2.2)) hP hD [0, 1, 2] [3, 4, 5, 6, 7] rfl rfl (by decide) (by decide) hk1 hFc hP1 hD1
  have hP : va_P (dC, dI) vwCl (wd_ctx_states_likely_fld_mags_marks_scan_pb cI a_ctx a_states a_likely a_fld a_coef a_mags a_marks a_scan a_cw a_rw a_cr a_rr a_pb a_plan a_row states_n r_2.1 likely_n r_2.2 fld_wide fld_high fld_band fld_causal mags_n r_1.1 marks_n r_1.2 scan_lessened scan_faults scan_bk scan_raw scan_plane pb_style pb_isWritten pb_isRead) H1 := hP.sub [5, 6, 7, 0, 1, 2, 3, 4] rfl
  have hD : va_D A (wd_ctx_states_likely_fld_mags_marks_scan_pb cI a_ctx a_states a_likely a_fld a_coef a_mags a_marks a_scan a_cw a_rw a_cr a_rr a_pb a_plan a_row states_n r_2.1 likely_n r_2.2 fld_wide fld_high fld_band fld_causal mags_n r_1.1 marks_n r_1.2 scan_lessened scan_faults scan_bk scan_raw scan_plane pb_style pb_isWritten pb_isRead) := hD.sub [5, 6, 7, 0, 1, 2, 3, 4] (by decide) rfl
  generalize H1 = H at hP hS ⊢
  refine lv_aload_n hx hb dX10_startOver_14 rfl (lv_at hl 0 rfl) ?_
  refine va_get (D := (dC, dI)) (ci := 9) (v := .ref a_scan) (C := RX10) (T := TX10) (N := 12) hx hb hts iw_X10_startOver_X10 hown hK hP 7 rfl rfl 8 (by decide) (hts (.fieldLink RX10 74 "PlaneBlocks" "scan" "LPlaneBlocks$Scan;") (by decide +kernel)) (fun _ h9 => h9) rfl dX10_startOver_15 ?_
  refine lv_iconst (v := 0) hx hb dX10_startOver_18 (by decide) ?_
  refine va_put (D := (dC, dI)) (ci := 8) (v := .int (0 : Int32)) (ty := .int) (C := RX9) (T := TX9) (N := 6) hx hb hts iw_X10_startOver_X9 tyX9 tyX9_ok nmX9 hown hK hP hD hS 6 rfl rfl 1 (by decide) (hts (.fieldLink RX10 248 "PlaneBlocks$Scan" "faults" "I") (by decide +kernel)) (fun _ h9 => h9) rfl (by decide +kernel) rfl rfl (Nat.le_of_ble_eq_true rfl) dX10_startOver_19 (fun H locs hP hD hS => ?_)
  have hP : va_P (dC, dI) vwCl (wd_ctx_states_likely_fld_mags_marks_scan_pb cI a_ctx a_states a_likely a_fld a_coef a_mags a_marks a_scan a_cw a_rw a_cr a_rr a_pb a_plan a_row states_n r_2.1 likely_n r_2.2 fld_wide fld_high fld_band fld_causal mags_n r_1.1 marks_n r_1.2 scan_lessened (0 : Int32) scan_bk scan_raw scan_plane pb_style pb_isWritten pb_isRead) H := hP
  have hD : va_D A (wd_ctx_states_likely_fld_mags_marks_scan_pb cI a_ctx a_states a_likely a_fld a_coef a_mags a_marks a_scan a_cw a_rw a_cr a_rr a_pb a_plan a_row states_n r_2.1 likely_n r_2.2 fld_wide fld_high fld_band fld_causal mags_n r_1.1 marks_n r_1.2 scan_lessened (0 : Int32) scan_bk scan_raw scan_plane pb_style pb_isWritten pb_isRead) := hD
  subst hg
  rw [← hQe]
  exact W.vret hx hb hr (fun t ht hW => ⟨⟨(), rfl, trivial, by rw [ht]; exact hP, va_K.moved hW.alike hK, hD⟩, hS.F ht⟩) hS.2.2 dX10_startOver_22
abbrev wd_ctx_states_likely_pb (cI : ClassId) (a_ctx : Nat) (a_states : Nat) (a_likely : Nat) (a_pb : Nat) (a_fld : Nat) (a_plan : Nat) (a_row : Nat) (a_cw : Nat) (a_rw : Nat) (a_cr : Nat) (a_rr : Nat) (a_scan : Nat) (states_n : Nat) (states_f : Nat → Int32) (likely_n : Nat) (likely_f : Nat → Int32) (pb_style : Int32) (pb_isWritten : Int32) (pb_isRead : Int32) : va_W := [(a_ctx, .inr (3, [.ref a_states, .ref a_likely])), (a_states, .inl (cI, states_n, .inl states_f)), (a_likely, .inl (cI, likely_n, .inl likely_f)), (a_pb, .inr (9, [.ref a_fld, .ref a_plan, .ref a_row, .ref a_ctx, .ref a_cw, .ref a_rw, .ref a_cr, .ref a_rr, .ref a_scan, .int pb_style, .int pb_isWritten, .int pb_isRead]))]
abbrev rm_X10_resetIfAsked : Room := { frames := 2, cells := 0, slots := 0, locals := 43 }
abbrev Q_X10_resetIfAsked (dC : Nat → ClassId) (dI : Nat → Nat → Nat) (cI cJ cZ : ClassId) (a_ctx : Nat) (a_states : Nat) (a_likely : Nat) (a_pb : Nat) (a_fld : Nat) (a_plan : Nat) (a_row : Nat) (a_cw : Nat) (a_rw : Nat) (a_cr : Nat) (a_rr : Nat) (a_scan : Nat) (A : Nat → Prop) (states_n : Nat) (states_f : Nat → Int32) (likely_n : Nat) (likely_f : Nat → Int32) (pb_style : Int32) (pb_isWritten : Int32) (pb_isRead : Int32) (g : ((Nat → Int32) × (Nat → Int32))) : Array Value → State → Outcome → State → Prop := va_Qv (fun _ : Unit => True) (fun u t => va_P (dC, dI) vwCl (wd_ctx_states_likely_pb cI a_ctx a_states a_likely a_pb a_fld a_plan a_row a_cw a_rw a_cr a_rr a_scan states_n g.1 likely_n g.2 pb_style pb_isWritten pb_isRead) t.heap ∧ va_K (dC, dI) vwCl [(cI, .int), (cJ, .long), (cZ, .boolean)] t ∧ va_D A (wd_ctx_states_likely_pb cI a_ctx a_states a_likely a_pb a_fld a_plan a_row a_cw a_rw a_cr a_rr a_scan states_n g.1 likely_n g.2 pb_style pb_isWritten pb_isRead)) A
theorem iw_X10_resetIfAsked_X10 : ∀ w ∈ u_ws RX10 TX10 12, w ∈ wsX10_resetIfAsked := by decide +kernel
set_option maxHeartbeats 4000000 in
set_option maxRecDepth 100000 in
theorem c_X10_resetIfAsked (l : Launch) (dC : Nat → ClassId) (dI : Nat → Nat → Nat) (cI cJ cZ : ClassId) (a_ctx : Nat) (a_states : Nat) (a_likely : Nat) (a_pb : Nat) (a_fld : Nat) (a_plan : Nat) (a_row : Nat) (a_cw : Nat) (a_rw : Nat) (a_cr : Nat) (a_rr : Nat) (a_scan : Nat) (sz : Nat) (states_n : Nat) (states_f : Nat → Int32) (likely_n : Nat) (likely_f : Nat → Int32) (pb_style : Int32) (pb_isWritten : Int32) (pb_isRead : Int32) (hpre : P_X10_resetIfAsked states_n states_f likely_n likely_f pb_style) : Met l yX10_resetIfAsked wsX10_resetIfAsked rm_X10_resetIfAsked (va_Pc [.ref a_pb] (fun U => U.heap.size = sz ∧ va_P (dC, dI) vwCl (wd_ctx_states_likely_pb cI a_ctx a_states a_likely a_pb a_fld a_plan a_row a_cw a_rw a_cr a_rr a_scan states_n states_f likely_n likely_f pb_style pb_isWritten pb_isRead) U.heap ∧ va_K (dC, dI) vwCl [(cI, .int), (cJ, .long), (cZ, .boolean)] U ∧ va_D (fun _ => True) (wd_ctx_states_likely_pb cI a_ctx a_states a_likely a_pb a_fld a_plan a_row a_cw a_rw a_cr a_rr a_scan states_n states_f likely_n likely_f pb_style pb_isWritten pb_isRead))) (Q_X10_resetIfAsked dC dI cI cJ cZ a_ctx a_states a_likely a_pb a_fld a_plan a_row a_cw a_rw a_cr a_rr a_scan (va_A (wd_ctx_states_likely_pb cI a_ctx a_states a_likely a_pb a_fld a_plan a_row a_cw a_rw a_cr a_rr a_scan states_n states_f likely_n likely_f pb_style pb_isWritten pb_isRead) sz) states_n states_f likely_n likely_f pb_style pb_isWritten pb_isRead (F_X10_resetIfAsked states_n states_f likely_n likely_f pb_style)) 0 0 (va_A (wd_ctx_states_likely_pb cI a_ctx a_states a_likely a_pb a_fld a_plan a_row a_cw a_rw a_cr a_rr a_scan states_n states_f likely_n likely_f pb_style pb_isWritten pb_isRead) sz) := by
  refine Met.ofW (cc := cX10_resetIfAsked) (maxL := 1) (ret := none) (by decide) rfl ?_
  intro p e s m args below meth c s₁ B hml hv
  obtain ⟨rfl, hsz, hP, hK, hD0⟩ := hv
  have hx := B.exec
  have hb := B.bytes
  have hr := B.returns
  have hts := atoms_spec (ws := wsX10_resetIfAsked) B.pre
  have hown : s.vm.findClass RX10 = some m.cls := findClass_of_methodNamed B.named
  have hlocks := B.notSynchronized
  subst hsz
  have hD := hD0.self (sz := s.heap.size)
  generalize hAe : va_A (wd_ctx_states_likely_pb cI a_ctx a_states a_likely a_pb a_fld a_plan a_row a_cw a_rw a_cr a_rr a_scan states_n states_f likely_n likely_f pb_style pb_isWritten pb_isRead) s.heap.size = A at hD ⊢
  have hA : ∀ q : Nat, s.heap.size ≤ q → A q := fun q h => by rw [← hAe]; exact Or.inr h
  have hS : va_S A s.heap s.heap [] := va_S.rf
  obtain ⟨H, hH⟩ : ∃ z, z = s.heap := ⟨_, rfl⟩
  have hP : va_P (dC, dI) vwCl (wd_ctx_states_likely_pb cI a_ctx a_states a_likely a_pb a_fld a_plan a_row a_cw a_rw a_cr a_rr a_scan states_n states_f likely_n likely_f pb_style pb_isWritten pb_isRead) H := by rw [hH]; exact hP
  have hS : va_S A s.heap H [] := by rw [hH]; exact va_S.rf
  obtain ⟨g, hg⟩ : ∃ z, F_X10_resetIfAsked states_n states_f likely_n likely_f pb_style = z := ⟨_, rfl⟩
  rw [hg]
  generalize hQe : MQ below (Q_X10_resetIfAsked dC dI cI cJ cZ a_ctx a_states a_likely a_pb a_fld a_plan a_row a_cw a_rw a_cr a_rr a_scan A states_n states_f likely_n likely_f pb_style pb_isWritten pb_isRead g) _ s 0 0 A = Q
  rw [← hH]
  clear hH
  have hl := lv_entry ([.ref a_pb]) (n := 1) (Nat.le_of_ble_eq_true rfl)
  rw [lg_entry_eq]
  generalize (lg_sl ([.ref a_pb]) ++ List.replicate (1 - (lg_sl ([.ref a_pb])).length) Slot.unset).toArray = ls at hl ⊢
  have hl : lv_has ls 1 [(0, .ref a_pb)] := hl
  unfold F_X10_resetIfAsked at hg
  unfold P_X10_resetIfAsked at hpre
  refine lv_aload_n hx hb dX10_resetIfAsked_0 rfl (lv_at hl 0 rfl) ?_
  refine lv_iconst (v := 2) hx hb dX10_resetIfAsked_1 (by decide) ?_
  have hPc := hP.sub (ws' := (wd_pb a_pb a_fld a_plan a_row a_ctx a_cw a_rw a_cr a_rr a_scan pb_style pb_isWritten pb_isRead)) [3] rfl
  have hDc := hD.sub (ws' := (wd_pb a_pb a_fld a_plan a_row a_ctx a_cw a_rw a_cr a_rr a_scan pb_style pb_isWritten pb_isRead)) [3] (by decide) rfl
  have hFc := va_free (wc := (wd_pb a_pb a_fld a_plan a_row a_ctx a_cw a_rw a_cr a_rr a_scan pb_style pb_isWritten pb_isRead)) hD hS hA [3] rfl
  refine va_calli (va_runV (As := [.int (2 : Int32)]) (rest := []) ⟨hx, hb, hml, hown, hts⟩ (c_X10_has l dC dI cI cJ cZ a_pb a_fld a_plan a_row a_ctx a_cw a_rw a_cr a_rr a_scan H.size pb_style pb_isWritten pb_isRead (2 : Int32)) (cwV 1 hts gX10_resetIfAsked_X10_has rfl rfl rfl (by decide +kernel) ⟨Nat.le_of_ble_eq_true rfl, Nat.le_of_ble_eq_true rfl⟩) ⟨fun a U g mk q => by obtain ⟨q0, q1, qP, qK, qD⟩ := q; exact ⟨q0, q1, qP, va_K.moved (u := U) (U := U.calling g mk a) (Vm.Alike.refl U.vm) qK, qD⟩, va_recv hK hPc (ci := 9) (q0 := 0) rfl rfl, fun U hU hW => ⟨rfl, by rw [hU], by rw [hU]; exact hPc, va_K.moved hW.alike hK, hDc.weaken (fun _ _ _ _ => trivial)⟩⟩ rfl rfl hl.1 rfl (lv_room (Nat.le_of_ble_eq_true rfl)) dX10_resetIfAsked_2 ⟨Nat.le_of_ble_eq_true rfl, Nat.le_of_ble_eq_true rfl⟩) hS (fun q _ h => hFc q h) hFc (fun r u t H1 locs ht hvm hw hB hz1 hk1 hS => ?_)
  obtain ⟨hP1, hK1, hD1⟩ := hB
  rw [ht] at hP1
  obtain ⟨r_1, hr_1⟩ : ∃ z, F_X10_has (2 : Int32) pb_style = z := ⟨_, rfl⟩
  try rw [hr_1] at hw
  try rw [hr_1] at hP1
  try rw [hr_1] at hD1
  have hg : (if r_1 = (0 : Int32) then (states_f, likely_f) else (let r_3 := F_X4_restart states_n states_f likely_n likely_f; (r_3.1, r_3.2))) = g := by first | (rw [hr_1] at hg; exact hg) | (subst hr_1; exact hg)
  have hw := hw.symm
  subst hw
  obtain ⟨hP, hD⟩ := va_join (wr := [(a_ctx, .inr (3, [.ref a_states, .ref a_likely])), (a_states, .inl (cI, states_n, .inl states_f)), (a_likely, .inl (cI, likely_n, .inl likely_f))]) (w1 := (wd_pb a_pb a_fld a_plan a_row a_ctx a_cw a_rw a_cr a_rr a_scan pb_style pb_isWritten pb_isRead)) hP hD [3] [0, 1, 2] rfl rfl (by decide) (by decide) hk1 hFc hP1 hD1
  have hP : va_P (dC, dI) vwCl (wd_ctx_states_likely_pb cI a_ctx a_states a_likely a_pb a_fld a_plan a_row a_cw a_rw a_cr a_rr a_scan states_n states_f likely_n likely_f pb_style pb_isWritten pb_isRead) H1 := hP.sub [0, 1, 2, 3] rfl
  have hD : va_D A (wd_ctx_states_likely_pb cI a_ctx a_states a_likely a_pb a_fld a_plan a_row a_cw a_rw a_cr a_rr a_scan states_n states_f likely_n likely_f pb_style pb_isWritten pb_isRead) := hD.sub [0, 1, 2, 3] (by decide) rfl
  generalize H1 = H at hP hS ⊢
  have hpre := hpre r_1 hr_1
  refine lv_if_eq (tgt := 15) hx hb dX10_resetIfAsked_5 (by decide) (fun c_2 => ?_) (fun c_2 => ?_)
  · rw [if_pos c_2] at hg
    subst hg
    rw [← hQe]
    exact W.vret hx hb hr (fun t ht hW => ⟨⟨(), rfl, trivial, by rw [ht]; exact hP, va_K.moved hW.alike hK, hD⟩, hS.F ht⟩) hS.2.2 dX10_resetIfAsked_15
  · rw [if_neg c_2] at hg
    have hpre := hpre c_2
    refine lv_aload_n hx hb dX10_resetIfAsked_8 rfl (lv_at hl 0 rfl) ?_
    refine va_get (D := (dC, dI)) (ci := 9) (v := .ref a_ctx) (C := RX10) (T := TX10) (N := 12) hx hb hts iw_X10_resetIfAsked_X10 hown hK hP 3 rfl rfl 3 (by decide) (hts (.fieldLink RX10 33 "PlaneBlocks" "contexts" "LPlaneBlocks$Contexts;") (by decide +kernel)) (fun _ h9 => h9) rfl dX10_resetIfAsked_9 ?_
    have hPc := hP.sub (ws' := (wd_ctx_states_likely cI a_ctx a_states a_likely states_n states_f likely_n likely_f)) [0, 1, 2] rfl
    have hDc := hD.sub (ws' := (wd_ctx_states_likely cI a_ctx a_states a_likely states_n states_f likely_n likely_f)) [0, 1, 2] (by decide) rfl
    have hFc := va_free (wc := (wd_ctx_states_likely cI a_ctx a_states a_likely states_n states_f likely_n likely_f)) hD hS hA [0, 1, 2] rfl
    refine va_callv (va_runV (As := []) (rest := []) ⟨hx, hb, hml, hown, hts⟩ (c_X4_restart l dC dI cI cJ cZ a_ctx a_states a_likely H.size states_n states_f likely_n likely_f hpre) (cwV 0 hts gX10_resetIfAsked_X4_restart rfl rfl rfl (by decide +kernel) ⟨Nat.le_of_ble_eq_true rfl, Nat.le_of_ble_eq_true rfl⟩) ⟨fun a U g mk q => by obtain ⟨q0, q1, qP, qK, qD⟩ := q; exact ⟨q0, q1, qP, va_K.moved (u := U) (U := U.calling g mk a) (Vm.Alike.refl U.vm) qK, qD⟩, va_recv hK hPc (ci := 3) (q0 := 0) rfl rfl, fun U hU hW => ⟨rfl, by rw [hU], by rw [hU]; exact hPc, va_K.moved hW.alike hK, hDc.weaken (fun _ _ _ _ => trivial)⟩⟩ rfl rfl hl.1 rfl (lv_room (Nat.le_of_ble_eq_true rfl)) dX10_resetIfAsked_12 ⟨Nat.le_of_ble_eq_true rfl, Nat.le_of_ble_eq_true rfl⟩) hS (fun q _ h => hFc q h) hFc (fun u t H1 locs ht hvm hw hB hz1 hk1 hS => ?_)
    obtain ⟨hP1, hK1, hD1⟩ := hB
    rw [ht] at hP1
    obtain ⟨r_3, hr_3⟩ : ∃ z, F_X4_restart states_n states_f likely_n likely_f = z := ⟨_, rfl⟩
    try rw [hr_3] at hw
    try rw [hr_3] at hP1
    try rw [hr_3] at hD1
    have hg : (r_3.1, r_3.2) = g := by first | (rw [hr_3] at hg; exact hg) | (subst hr_3; exact hg)
    obtain ⟨hP, hD⟩ := va_join (wr := [(a_pb, .inr (9, [.ref a_fld, .ref a_plan, .ref a_row, .ref a_ctx, .ref a_cw, .ref a_rw, .ref a_cr, .ref a_rr, .ref a_scan, .int pb_style, .int pb_isWritten, .int pb_isRead]))]) (w1 := (wd_ctx_states_likely cI a_ctx a_states a_likely states_n r_3.1 likely_n r_3.2)) hP hD [0, 1, 2] [3] rfl rfl (by decide) (by decide) hk1 hFc hP1 hD1
    have hP : va_P (dC, dI) vwCl (wd_ctx_states_likely_pb cI a_ctx a_states a_likely a_pb a_fld a_plan a_row a_cw a_rw a_cr a_rr a_scan states_n r_3.1 likely_n r_3.2 pb_style pb_isWritten pb_isRead) H1 := hP.sub [1, 2, 3, 0] rfl
    have hD : va_D A (wd_ctx_states_likely_pb cI a_ctx a_states a_likely a_pb a_fld a_plan a_row a_cw a_rw a_cr a_rr a_scan states_n r_3.1 likely_n r_3.2 pb_style pb_isWritten pb_isRead) := hD.sub [1, 2, 3, 0] (by decide) rfl
    generalize H1 = H at hP hS ⊢
    subst hg
    rw [← hQe]
    exact W.vret hx hb hr (fun t ht hW => ⟨⟨(), rfl, trivial, by rw [ht]; exact hP, va_K.moved hW.alike hK, hD⟩, hS.F ht⟩) hS.2.2 dX10_resetIfAsked_15
abbrev wd_row_cw_rw_pb (a_row : Nat) (a_bytes : Nat) (a_cw : Nat) (a_ctx : Nat) (a_rw : Nat) (a_pb : Nat) (a_fld : Nat) (a_plan : Nat) (a_cr : Nat) (a_rr : Nat) (a_scan : Nat) (row_count : Int32) (row_start : Int32) (cw_low : Int32) (cw_size : Int32) (cw_room : Int32) (rw_free : Int32) (pb_style : Int32) (pb_isWritten : Int32) (pb_isRead : Int32) : va_W := [(a_row, .inr (0, [.ref a_bytes, .int row_count, .int row_start])), (a_cw, .inr (2, [.ref a_row, .ref a_ctx, .int cw_low, .int cw_size, .int cw_room])), (a_rw, .inr (7, [.ref a_row, .int rw_free])), (a_pb, .inr (9, [.ref a_fld, .ref a_plan, .ref a_row, .ref a_ctx, .ref a_cw, .ref a_rw, .ref a_cr, .ref a_rr, .ref a_scan, .int pb_style, .int pb_isWritten, .int pb_isRead]))]
abbrev rm_X10_openForWriting : Room := { frames := 1, cells := 0, slots := 0, locals := 20 }
abbrev Q_X10_openForWriting (dC : Nat → ClassId) (dI : Nat → Nat → Nat) (cI cJ cZ : ClassId) (a_row : Nat) (a_bytes : Nat) (a_cw : Nat) (a_ctx : Nat) (a_rw : Nat) (a_pb : Nat) (a_fld : Nat) (a_plan : Nat) (a_cr : Nat) (a_rr : Nat) (a_scan : Nat) (A : Nat → Prop) (row_count : Int32) (row_start : Int32) (cw_low : Int32) (cw_size : Int32) (cw_room : Int32) (rw_free : Int32) (pb_style : Int32) (pb_isWritten : Int32) (pb_isRead : Int32) (g : (Int32 × Int32 × Int32 × Int32 × Int32)) : Array Value → State → Outcome → State → Prop := va_Qv (fun _ : Unit => True) (fun u t => va_P (dC, dI) vwCl (wd_row_cw_rw_pb a_row a_bytes a_cw a_ctx a_rw a_pb a_fld a_plan a_cr a_rr a_scan row_count g.1 g.2.1 g.2.2.1 g.2.2.2.1 g.2.2.2.2 pb_style pb_isWritten pb_isRead) t.heap ∧ va_K (dC, dI) vwCl [(cI, .int), (cJ, .long), (cZ, .boolean)] t ∧ va_D A (wd_row_cw_rw_pb a_row a_bytes a_cw a_ctx a_rw a_pb a_fld a_plan a_cr a_rr a_scan row_count g.1 g.2.1 g.2.2.1 g.2.2.2.1 g.2.2.2.2 pb_style pb_isWritten pb_isRead)) A
theorem iw_X10_openForWriting_X10 : ∀ w ∈ u_ws RX10 TX10 12, w ∈ wsX10_openForWriting := by decide +kernel
set_option maxHeartbeats 4000000 in
set_option maxRecDepth 100000 in
theorem c_X10_openForWriting (l : Launch) (dC : Nat → ClassId) (dI : Nat → Nat → Nat) (cI cJ cZ : ClassId) (a_row : Nat) (a_bytes : Nat) (a_cw : Nat) (a_ctx : Nat) (a_rw : Nat) (a_pb : Nat) (a_fld : Nat) (a_plan : Nat) (a_cr : Nat) (a_rr : Nat) (a_scan : Nat) (sz : Nat) (row_count : Int32) (row_start : Int32) (cw_low : Int32) (cw_size : Int32) (cw_room : Int32) (rw_free : Int32) (pb_style : Int32) (pb_isWritten : Int32) (pb_isRead : Int32) (p1 : Int32) : Met l yX10_openForWriting wsX10_openForWriting rm_X10_openForWriting (va_Pc [.ref a_pb, .int p1] (fun U => U.heap.size = sz ∧ va_P (dC, dI) vwCl (wd_row_cw_rw_pb a_row a_bytes a_cw a_ctx a_rw a_pb a_fld a_plan a_cr a_rr a_scan row_count row_start cw_low cw_size cw_room rw_free pb_style pb_isWritten pb_isRead) U.heap ∧ va_K (dC, dI) vwCl [(cI, .int), (cJ, .long), (cZ, .boolean)] U ∧ va_D (fun _ => True) (wd_row_cw_rw_pb a_row a_bytes a_cw a_ctx a_rw a_pb a_fld a_plan a_cr a_rr a_scan row_count row_start cw_low cw_size cw_room rw_free pb_style pb_isWritten pb_isRead))) (Q_X10_openForWriting dC dI cI cJ cZ a_row a_bytes a_cw a_ctx a_rw a_pb a_fld a_plan a_cr a_rr a_scan (va_A (wd_row_cw_rw_pb a_row a_bytes a_cw a_ctx a_rw a_pb a_fld a_plan a_cr a_rr a_scan row_count row_start cw_low cw_size cw_room rw_free pb_style pb_isWritten pb_isRead) sz) row_count row_start cw_low cw_size cw_room rw_free pb_style pb_isWritten pb_isRead (F_X10_openForWriting p1 row_count cw_low cw_size cw_room rw_free)) 0 0 (va_A (wd_row_cw_rw_pb a_row a_bytes a_cw a_ctx a_rw a_pb a_fld a_plan a_cr a_rr a_scan row_count row_start cw_low cw_size cw_room rw_free pb_style pb_isWritten pb_isRead) sz) := by
  refine Met.ofW (cc := cX10_openForWriting) (maxL := 2) (ret := none) (by decide) rfl ?_
  intro p e s m args below meth c s₁ B hml hv
  obtain ⟨rfl, hsz, hP, hK, hD0⟩ := hv
  have hx := B.exec
  have hb := B.bytes
  have hr := B.returns
  have hts := atoms_spec (ws := wsX10_openForWriting) B.pre
  have hown : s.vm.findClass RX10 = some m.cls := findClass_of_methodNamed B.named
  have hlocks := B.notSynchronized
  subst hsz
  have hD := hD0.self (sz := s.heap.size)
  generalize hAe : va_A (wd_row_cw_rw_pb a_row a_bytes a_cw a_ctx a_rw a_pb a_fld a_plan a_cr a_rr a_scan row_count row_start cw_low cw_size cw_room rw_free pb_style pb_isWritten pb_isRead) s.heap.size = A at hD ⊢
  have hA : ∀ q : Nat, s.heap.size ≤ q → A q := fun q h => by rw [← hAe]; exact Or.inr h
  have hS : va_S A s.heap s.heap [] := va_S.rf
  obtain ⟨H, hH⟩ : ∃ z, z = s.heap := ⟨_, rfl⟩
  have hP : va_P (dC, dI) vwCl (wd_row_cw_rw_pb a_row a_bytes a_cw a_ctx a_rw a_pb a_fld a_plan a_cr a_rr a_scan row_count row_start cw_low cw_size cw_room rw_free pb_style pb_isWritten pb_isRead) H := by rw [hH]; exact hP
  have hS : va_S A s.heap H [] := by rw [hH]; exact va_S.rf
  obtain ⟨g, hg⟩ : ∃ z, F_X10_openForWriting p1 row_count cw_low cw_size cw_room rw_free = z := ⟨_, rfl⟩
  rw [hg]
  generalize hQe : MQ below (Q_X10_openForWriting dC dI cI cJ cZ a_row a_bytes a_cw a_ctx a_rw a_pb a_fld a_plan a_cr a_rr a_scan A row_count row_start cw_low cw_size cw_room rw_free pb_style pb_isWritten pb_isRead g) _ s 0 0 A = Q
  rw [← hH]
  clear hH
  have hl := lv_entry ([.ref a_pb, .int p1]) (n := 2) (Nat.le_of_ble_eq_true rfl)
  rw [lg_entry_eq]
  generalize (lg_sl ([.ref a_pb, .int p1]) ++ List.replicate (2 - (lg_sl ([.ref a_pb, .int p1])).length) Slot.unset).toArray = ls at hl ⊢
  have hl : lv_has ls 2 [(0, .ref a_pb), (1, .int p1)] := hl
  unfold F_X10_openForWriting at hg
  refine lv_aload_n hx hb dX10_openForWriting_0 rfl (lv_at hl 0 rfl) ?_
  refine va_get (D := (dC, dI)) (ci := 9) (v := .ref a_row) (C := RX10) (T := TX10) (N := 12) hx hb hts iw_X10_openForWriting_X10 hown hK hP 3 rfl rfl 2 (by decide) (hts (.fieldLink RX10 26 "PlaneBlocks" "row" "LPlaneBlocks$ByteRow;") (by decide +kernel)) (fun _ h9 => h9) rfl dX10_openForWriting_1 ?_
  have hPc := hP.sub (ws' := (wd_row a_row a_bytes row_count row_start)) [0] rfl
  have hDc := hD.sub (ws' := (wd_row a_row a_bytes row_count row_start)) [0] (by decide) rfl
  have hFc := va_free (wc := (wd_row a_row a_bytes row_count row_start)) hD hS hA [0] rfl
  refine va_callv (va_runV (As := []) (rest := []) ⟨hx, hb, hml, hown, hts⟩ (c_X1_openSegment l dC dI cI cJ cZ a_row a_bytes H.size row_count row_start) (cwV 0 hts gX10_openForWriting_X1_openSegment rfl rfl rfl (by decide +kernel) ⟨Nat.le_of_ble_eq_true rfl, Nat.le_of_ble_eq_true rfl⟩) ⟨fun a U g mk q => by obtain ⟨q0, q1, qP, qK, qD⟩ := q; exact ⟨q0, q1, qP, va_K.moved (u := U) (U := U.calling g mk a) (Vm.Alike.refl U.vm) qK, qD⟩, va_recv hK hPc (ci := 0) (q0 := 0) rfl rfl, fun U hU hW => ⟨rfl, by rw [hU], by rw [hU]; exact hPc, va_K.moved hW.alike hK, hDc.weaken (fun _ _ _ _ => trivial)⟩⟩ rfl rfl hl.1 rfl (lv_room (Nat.le_of_ble_eq_true rfl)) dX10_openForWriting_4 ⟨Nat.le_of_ble_eq_true rfl, Nat.le_of_ble_eq_true rfl⟩) hS (fun q _ h => hFc q h) hFc (fun u t H1 locs ht hvm hw hB hz1 hk1 hS => ?_)
  obtain ⟨hP1, hK1, hD1⟩ := hB
  rw [ht] at hP1
  obtain ⟨r_1, hr_1⟩ : ∃ z, F_X1_openSegment row_count = z := ⟨_, rfl⟩
  try rw [hr_1] at hw
  try rw [hr_1] at hP1
  try rw [hr_1] at hD1
  have hg : (if p1 = (0 : Int32) then (let r_3 := F_X3_open; (r_1, r_3.1, r_3.2.1, r_3.2.2, rw_free)) else (let r_4 := F_X8_open; (r_1, cw_low, cw_size, cw_room, r_4))) = g := by first | (rw [hr_1] at hg; exact hg) | (subst hr_1; exact hg)
  obtain ⟨hP, hD⟩ := va_join (wr := [(a_cw, .inr (2, [.ref a_row, .ref a_ctx, .int cw_low, .int cw_size, .int cw_room])), (a_rw, .inr (7, [.ref a_row, .int rw_free])), (a_pb, .inr (9, [.ref a_fld, .ref a_plan, .ref a_row, .ref a_ctx, .ref a_cw, .ref a_rw, .ref a_cr, .ref a_rr, .ref a_scan, .int pb_style, .int pb_isWritten, .int pb_isRead]))]) (w1 := (wd_row a_row a_bytes row_count r_1)) hP hD [0] [1, 2, 3] rfl rfl (by decide) (by decide) hk1 hFc hP1 hD1
  have hP : va_P (dC, dI) vwCl (wd_row_cw_rw_pb a_row a_bytes a_cw a_ctx a_rw a_pb a_fld a_plan a_cr a_rr a_scan row_count r_1 cw_low cw_size cw_room rw_free pb_style pb_isWritten pb_isRead) H1 := hP.sub [3, 0, 1, 2] rfl
  have hD : va_D A (wd_row_cw_rw_pb a_row a_bytes a_cw a_ctx a_rw a_pb a_fld a_plan a_cr a_rr a_scan row_count r_1 cw_low cw_size cw_room rw_free pb_style pb_isWritten pb_isRead) := hD.sub [3, 0, 1, 2] (by decide) rfl
  generalize H1 = H at hP hS ⊢
  refine lv_iload_n hx hb dX10_openForWriting_7 rfl (lv_at hl 1 rfl) ?_
  refine lv_if_eq (tgt := 21) hx hb dX10_openForWriting_8 (by decide) (fun c_2 => ?_) (fun c_2 => ?_)
  · rw [if_pos c_2] at hg
    refine lv_aload_n hx hb dX10_openForWriting_21 rfl (lv_at hl 0 rfl) ?_
    refine va_get (D := (dC, dI)) (ci := 9) (v := .ref a_cw) (C := RX10) (T := TX10) (N := 12) hx hb hts iw_X10_openForWriting_X10 hown hK hP 3 rfl rfl 4 (by decide) (hts (.fieldLink RX10 42 "PlaneBlocks" "codedWriter" "LPlaneBlocks$CodedWriter;") (by decide +kernel)) (fun _ h9 => h9) rfl dX10_openForWriting_22 ?_
    have hPc := hP.sub (ws' := (wd_cw a_cw a_row a_ctx cw_low cw_size cw_room)) [1] rfl
    have hDc := hD.sub (ws' := (wd_cw a_cw a_row a_ctx cw_low cw_size cw_room)) [1] (by decide) rfl
    have hFc := va_free (wc := (wd_cw a_cw a_row a_ctx cw_low cw_size cw_room)) hD hS hA [1] rfl
    refine va_callv (va_runV (As := []) (rest := []) ⟨hx, hb, hml, hown, hts⟩ (c_X3_open l dC dI cI cJ cZ a_cw a_row a_ctx H.size cw_low cw_size cw_room) (cwV 0 hts gX10_openForWriting_X3_open rfl rfl rfl (by decide +kernel) ⟨Nat.le_of_ble_eq_true rfl, Nat.le_of_ble_eq_true rfl⟩) ⟨fun a U g mk q => by obtain ⟨q0, q1, qP, qK, qD⟩ := q; exact ⟨q0, q1, qP, va_K.moved (u := U) (U := U.calling g mk a) (Vm.Alike.refl U.vm) qK, qD⟩, va_recv hK hPc (ci := 2) (q0 := 0) rfl rfl, fun U hU hW => ⟨rfl, by rw [hU], by rw [hU]; exact hPc, va_K.moved hW.alike hK, hDc.weaken (fun _ _ _ _ => trivial)⟩⟩ rfl rfl hl.1 rfl (lv_room (Nat.le_of_ble_eq_true rfl)) dX10_openForWriting_25 ⟨Nat.le_of_ble_eq_true rfl, Nat.le_of_ble_eq_true rfl⟩) hS (fun q _ h => hFc q h) hFc (fun u t H1 locs ht hvm hw hB hz1 hk1 hS => ?_)
    obtain ⟨hP1, hK1, hD1⟩ := hB
    rw [ht] at hP1
    obtain ⟨r_3, hr_3⟩ : ∃ z, F_X3_open = z := ⟨_, rfl⟩
    try rw [hr_3] at hw
    try rw [hr_3] at hP1
    try rw [hr_3] at hD1
    have hg : (r_1, r_3.1, r_3.2.1, r_3.2.2, rw_free) = g := by first | (rw [hr_3] at hg; exact hg) | (subst hr_3; exact hg)
    obtain ⟨hP, hD⟩ := va_join (wr := [(a_row, .inr (0, [.ref a_bytes, .int row_count, .int r_1])), (a_rw, .inr (7, [.ref a_row, .int rw_free])), (a_pb, .inr (9, [.ref a_fld, .ref a_plan, .ref a_row, .ref a_ctx, .ref a_cw, .ref a_rw, .ref a_cr, .ref a_rr, .ref a_scan, .int pb_style, .int pb_isWritten, .int pb_isRead]))]) (w1 := (wd_cw a_cw a_row a_ctx r_3.1 r_3.2.1 r_3.2.2)) hP hD [1] [0, 2, 3] rfl rfl (by decide) (by decide) hk1 hFc hP1 hD1
    have hP : va_P (dC, dI) vwCl (wd_row_cw_rw_pb a_row a_bytes a_cw a_ctx a_rw a_pb a_fld a_plan a_cr a_rr a_scan row_count r_1 r_3.1 r_3.2.1 r_3.2.2 rw_free pb_style pb_isWritten pb_isRead) H1 := hP.sub [0, 3, 1, 2] rfl
    have hD : va_D A (wd_row_cw_rw_pb a_row a_bytes a_cw a_ctx a_rw a_pb a_fld a_plan a_cr a_rr a_scan row_count r_1 r_3.1 r_3.2.1 r_3.2.2 rw_free pb_style pb_isWritten pb_isRead) := hD.sub [0, 3, 1, 2] (by decide) rfl
    generalize H1 = H at hP hS ⊢
    subst hg
    rw [← hQe]
    exact W.vret hx hb hr (fun t ht hW => ⟨⟨(), rfl, trivial, by rw [ht]; exact hP, va_K.moved hW.alike hK, hD⟩, hS.F ht⟩) hS.2.2 dX10_openForWriting_28
  · rw [if_neg c_2] at hg
    refine lv_aload_n hx hb dX10_openForWriting_11 rfl (lv_at hl 0 rfl) ?_
    refine va_get (D := (dC, dI)) (ci := 9) (v := .ref a_rw) (C := RX10) (T := TX10) (N := 12) hx hb hts iw_X10_openForWriting_X10 hown hK hP 3 rfl rfl 5 (by decide) (hts (.fieldLink RX10 51 "PlaneBlocks" "rawWriter" "LPlaneBlocks$RawWriter;") (by decide +kernel)) (fun _ h9 => h9) rfl dX10_openForWriting_12 ?_
    have hPc := hP.sub (ws' := (wd_rw a_rw a_row rw_free)) [2] rfl
    have hDc := hD.sub (ws' := (wd_rw a_rw a_row rw_free)) [2] (by decide) rfl
    have hFc := va_free (wc := (wd_rw a_rw a_row rw_free)) hD hS hA [2] rfl
    refine va_callv (va_runV (As := []) (rest := []) ⟨hx, hb, hml, hown, hts⟩ (c_X8_open l dC dI cI cJ cZ a_rw a_row H.size rw_free) (cwV 0 hts gX10_openForWriting_X8_open rfl rfl rfl (by decide +kernel) ⟨Nat.le_of_ble_eq_true rfl, Nat.le_of_ble_eq_true rfl⟩) ⟨fun a U g mk q => by obtain ⟨q0, q1, qP, qK, qD⟩ := q; exact ⟨q0, q1, qP, va_K.moved (u := U) (U := U.calling g mk a) (Vm.Alike.refl U.vm) qK, qD⟩, va_recv hK hPc (ci := 7) (q0 := 0) rfl rfl, fun U hU hW => ⟨rfl, by rw [hU], by rw [hU]; exact hPc, va_K.moved hW.alike hK, hDc.weaken (fun _ _ _ _ => trivial)⟩⟩ rfl rfl hl.1 rfl (lv_room (Nat.le_of_ble_eq_true rfl)) dX10_openForWriting_15 ⟨Nat.le_of_ble_eq_true rfl, Nat.le_of_ble_eq_true rfl⟩) hS (fun q _ h => hFc q h) hFc (fun u t H1 locs ht hvm hw hB hz1 hk1 hS => ?_)
    obtain ⟨hP1, hK1, hD1⟩ := hB
    rw [ht] at hP1
    obtain ⟨r_4, hr_4⟩ : ∃ z, F_X8_open = z := ⟨_, rfl⟩
    try rw [hr_4] at hw
    try rw [hr_4] at hP1
    try rw [hr_4] at hD1
    have hg : (r_1, cw_low, cw_size, cw_room, r_4) = g := by first | (rw [hr_4] at hg; exact hg) | (subst hr_4; exact hg)
    obtain ⟨hP, hD⟩ := va_join (wr := [(a_row, .inr (0, [.ref a_bytes, .int row_count, .int r_1])), (a_cw, .inr (2, [.ref a_row, .ref a_ctx, .int cw_low, .int cw_size, .int cw_room])), (a_pb, .inr (9, [.ref a_fld, .ref a_plan, .ref a_row, .ref a_ctx, .ref a_cw, .ref a_rw, .ref a_cr, .ref a_rr, .ref a_scan, .int pb_style, .int pb_isWritten, .int pb_isRead]))]) (w1 := (wd_rw a_rw a_row r_4)) hP hD [2] [0, 1, 3] rfl rfl (by decide) (by decide) hk1 hFc hP1 hD1
    have hP : va_P (dC, dI) vwCl (wd_row_cw_rw_pb a_row a_bytes a_cw a_ctx a_rw a_pb a_fld a_plan a_cr a_rr a_scan row_count r_1 cw_low cw_size cw_room r_4 pb_style pb_isWritten pb_isRead) H1 := hP.sub [0, 1, 3, 2] rfl
    have hD : va_D A (wd_row_cw_rw_pb a_row a_bytes a_cw a_ctx a_rw a_pb a_fld a_plan a_cr a_rr a_scan row_count r_1 cw_low cw_size cw_room r_4 pb_style pb_isWritten pb_isRead) := hD.sub [0, 1, 3, 2] (by decide) rfl
    generalize H1 = H at hP hS ⊢
    refine lv_goto (tgt := 28) hx hb dX10_openForWriting_18 (by decide) ?_
    subst hg
    rw [← hQe]
    exact W.vret hx hb hr (fun t ht hW => ⟨⟨(), rfl, trivial, by rw [ht]; exact hP, va_K.moved hW.alike hK, hD⟩, hS.F ht⟩) hS.2.2 dX10_openForWriting_28
abbrev wd_row_bytes_cw_rw_pb (cI : ClassId) (a_row : Nat) (a_bytes : Nat) (a_cw : Nat) (a_ctx : Nat) (a_rw : Nat) (a_pb : Nat) (a_fld : Nat) (a_plan : Nat) (a_cr : Nat) (a_rr : Nat) (a_scan : Nat) (row_count : Int32) (row_start : Int32) (bytes_n : Nat) (bytes_f : Nat → Int32) (cw_low : Int32) (cw_size : Int32) (cw_room : Int32) (rw_free : Int32) (pb_style : Int32) (pb_isWritten : Int32) (pb_isRead : Int32) : va_W := [(a_row, .inr (0, [.ref a_bytes, .int row_count, .int row_start])), (a_bytes, .inl (cI, bytes_n, .inl bytes_f)), (a_cw, .inr (2, [.ref a_row, .ref a_ctx, .int cw_low, .int cw_size, .int cw_room])), (a_rw, .inr (7, [.ref a_row, .int rw_free])), (a_pb, .inr (9, [.ref a_fld, .ref a_plan, .ref a_row, .ref a_ctx, .ref a_cw, .ref a_rw, .ref a_cr, .ref a_rr, .ref a_scan, .int pb_style, .int pb_isWritten, .int pb_isRead]))]
abbrev rm_X10_endWriting (Dt : Nat) : Room := { frames := 5, cells := Dt, slots := Dt, locals := 127 }
abbrev Q_X10_endWriting (dC : Nat → ClassId) (dI : Nat → Nat → Nat) (cI cJ cZ : ClassId) (a_row : Nat) (a_bytes : Nat) (a_cw : Nat) (a_ctx : Nat) (a_rw : Nat) (a_pb : Nat) (a_fld : Nat) (a_plan : Nat) (a_cr : Nat) (a_rr : Nat) (a_scan : Nat) (A : Nat → Prop) (row_count : Int32) (row_start : Int32) (bytes_n : Nat) (bytes_f : Nat → Int32) (cw_low : Int32) (cw_size : Int32) (cw_room : Int32) (rw_free : Int32) (pb_style : Int32) (pb_isWritten : Int32) (pb_isRead : Int32) (g : (Int32 × Nat × (Nat → Int32) × Int32 × Int32 × Int32)) : Array Value → State → Outcome → State → Prop := va_Qv (fun _ : Nat => True) (fun u t => va_P (dC, dI) vwCl (wd_row_bytes_cw_rw_pb cI a_row u a_cw a_ctx a_rw a_pb a_fld a_plan a_cr a_rr a_scan g.1 row_start g.2.1 g.2.2.1 g.2.2.2.1 cw_size g.2.2.2.2.1 g.2.2.2.2.2 pb_style pb_isWritten pb_isRead) t.heap ∧ va_K (dC, dI) vwCl [(cI, .int), (cJ, .long), (cZ, .boolean)] t ∧ va_D A (wd_row_bytes_cw_rw_pb cI a_row u a_cw a_ctx a_rw a_pb a_fld a_plan a_cr a_rr a_scan g.1 row_start g.2.1 g.2.2.1 g.2.2.2.1 cw_size g.2.2.2.2.1 g.2.2.2.2.2 pb_style pb_isWritten pb_isRead)) A
theorem iw_X10_endWriting_X10 : ∀ w ∈ u_ws RX10 TX10 12, w ∈ wsX10_endWriting := by decide +kernel
set_option maxHeartbeats 4000000 in
set_option maxRecDepth 100000 in
theorem c_X10_endWriting (l : Launch) (dC : Nat → ClassId) (dI : Nat → Nat → Nat) (cI cJ cZ : ClassId) (a_row : Nat) (a_bytes : Nat) (a_cw : Nat) (a_ctx : Nat) (a_rw : Nat) (a_pb : Nat) (a_fld : Nat) (a_plan : Nat) (a_cr : Nat) (a_rr : Nat) (a_scan : Nat) (sz : Nat) (row_count : Int32) (row_start : Int32) (bytes_n : Nat) (bytes_f : Nat → Int32) (cw_low : Int32) (cw_size : Int32) (cw_room : Int32) (rw_free : Int32) (pb_style : Int32) (pb_isWritten : Int32) (pb_isRead : Int32) (p1 : Int32) (hpre : P_X10_endWriting p1 row_count row_start bytes_n bytes_f cw_low cw_size cw_room rw_free pb_style) : Met l yX10_endWriting wsX10_endWriting (rm_X10_endWriting (D_X10_endWriting p1 row_count row_start bytes_n bytes_f cw_low cw_size cw_room rw_free pb_style)) (va_Pc [.ref a_pb, .int p1] (fun U => U.heap.size = sz ∧ va_P (dC, dI) vwCl (wd_row_bytes_cw_rw_pb cI a_row a_bytes a_cw a_ctx a_rw a_pb a_fld a_plan a_cr a_rr a_scan row_count row_start bytes_n bytes_f cw_low cw_size cw_room rw_free pb_style pb_isWritten pb_isRead) U.heap ∧ va_K (dC, dI) vwCl [(cI, .int), (cJ, .long), (cZ, .boolean)] U ∧ va_D (fun _ => True) (wd_row_bytes_cw_rw_pb cI a_row a_bytes a_cw a_ctx a_rw a_pb a_fld a_plan a_cr a_rr a_scan row_count row_start bytes_n bytes_f cw_low cw_size cw_room rw_free pb_style pb_isWritten pb_isRead))) (Q_X10_endWriting dC dI cI cJ cZ a_row a_bytes a_cw a_ctx a_rw a_pb a_fld a_plan a_cr a_rr a_scan (va_A (wd_row_bytes_cw_rw_pb cI a_row a_bytes a_cw a_ctx a_rw a_pb a_fld a_plan a_cr a_rr a_scan row_count row_start bytes_n bytes_f cw_low cw_size cw_room rw_free pb_style pb_isWritten pb_isRead) sz) row_count row_start bytes_n bytes_f cw_low cw_size cw_room rw_free pb_style pb_isWritten pb_isRead (F_X10_endWriting p1 row_count row_start bytes_n bytes_f cw_low cw_size cw_room rw_free pb_style)) (D_X10_endWriting p1 row_count row_start bytes_n bytes_f cw_low cw_size cw_room rw_free pb_style) (D_X10_endWriting p1 row_count row_start bytes_n bytes_f cw_low cw_size cw_room rw_free pb_style) (va_A (wd_row_bytes_cw_rw_pb cI a_row a_bytes a_cw a_ctx a_rw a_pb a_fld a_plan a_cr a_rr a_scan row_count row_start bytes_n bytes_f cw_low cw_size cw_room rw_free pb_style pb_isWritten pb_isRead) sz) := by
  refine Met.ofW (cc := cX10_endWriting) (maxL := 2) (ret := none) (by decide) rfl ?_
  intro p e s m args below meth c s₁ B hml hv
  obtain ⟨rfl, hsz, hP, hK, hD0⟩ := hv
  have hx := B.exec
  have hb := B.bytes
  have hr := B.returns
  have hts := atoms_spec (ws := wsX10_endWriting) B.pre
  have hown : s.vm.findClass RX10 = some m.cls := findClass_of_methodNamed B.named
  have hlocks := B.notSynchronized
  subst hsz
  have hD := hD0.self (sz := s.heap.size)
  generalize hAe : va_A (wd_row_bytes_cw_rw_pb cI a_row a_bytes a_cw a_ctx a_rw a_pb a_fld a_plan a_cr a_rr a_scan row_count row_start bytes_n bytes_f cw_low cw_size cw_room rw_free pb_style pb_isWritten pb_isRead) s.heap.size = A at hD ⊢
  have hA : ∀ q : Nat, s.heap.size ≤ q → A q := fun q h => by rw [← hAe]; exact Or.inr h
  have hS : va_S A s.heap s.heap [] := va_S.rf
  obtain ⟨H, hH⟩ : ∃ z, z = s.heap := ⟨_, rfl⟩
  have hP : va_P (dC, dI) vwCl (wd_row_bytes_cw_rw_pb cI a_row a_bytes a_cw a_ctx a_rw a_pb a_fld a_plan a_cr a_rr a_scan row_count row_start bytes_n bytes_f cw_low cw_size cw_room rw_free pb_style pb_isWritten pb_isRead) H := by rw [hH]; exact hP
  have hS : va_S A s.heap H [] := by rw [hH]; exact va_S.rf
  obtain ⟨g, hg⟩ : ∃ z, F_X10_endWriting p1 row_count row_start bytes_n bytes_f cw_low cw_size cw_room rw_free pb_style = z := ⟨_, rfl⟩
  rw [hg]
  obtain ⟨Dt, hDt⟩ : ∃ z, D_X10_endWriting p1 row_count row_start bytes_n bytes_f cw_low cw_size cw_room rw_free pb_style = z := ⟨_, rfl⟩
  rw [hDt]
  generalize hQe : MQ below (Q_X10_endWriting dC dI cI cJ cZ a_row a_bytes a_cw a_ctx a_rw a_pb a_fld a_plan a_cr a_rr a_scan A row_count row_start bytes_n bytes_f cw_low cw_size cw_room rw_free pb_style pb_isWritten pb_isRead g) _ s Dt Dt A = Q
  rw [← hH]
  clear hH
  have hl := lv_entry ([.ref a_pb, .int p1]) (n := 2) (Nat.le_of_ble_eq_true rfl)
  rw [lg_entry_eq]
  generalize (lg_sl ([.ref a_pb, .int p1]) ++ List.replicate (2 - (lg_sl ([.ref a_pb, .int p1])).length) Slot.unset).toArray = ls at hl ⊢
  have hl : lv_has ls 2 [(0, .ref a_pb), (1, .int p1)] := hl
  unfold F_X10_endWriting at hg
  unfold P_X10_endWriting at hpre
  unfold D_X10_endWriting at hDt
  obtain ⟨k, hk⟩ : ∃ z : Nat, z = 0 := ⟨_, rfl⟩
  obtain ⟨E, hE⟩ : ∃ z : Nat, z = 0 := ⟨_, rfl⟩
  have hC : k + (DJ_X10_endWriting_j_10 p1 row_count row_start bytes_n bytes_f cw_low cw_size cw_room rw_free pb_style + (let j_10 := J_X10_endWriting_j_10 p1 row_count row_start bytes_n bytes_f cw_low cw_size cw_room rw_free pb_style; 0)) + E ≤ Dt := by rw [hk, hE, Nat.zero_add]; exact Nat.le_of_eq hDt
  refine W.widen (k := k) (n := k) (Nat.zero_le _) (Nat.zero_le _) ?_
  clear hk hE hDt
  refine lv_iload_n hx hb dX10_endWriting_0 rfl (lv_at hl 1 rfl) ?_
  obtain ⟨j_10, hj_10⟩ : ∃ z, J_X10_endWriting_j_10 p1 row_count row_start bytes_n bytes_f cw_low cw_size cw_room rw_free pb_style = z := ⟨_, rfl⟩
  have hg : (let r_11 := F_X1_dropStuffed j_10.1 row_start j_10.2.2.1; (r_11, j_10.2.1, j_10.2.2.1, j_10.2.2.2.1, j_10.2.2.2.2.1, j_10.2.2.2.2.2)) = g := by first | (rw [hj_10] at hg; exact hg) | (subst hj_10; exact hg)
  have hC : k + (DJ_X10_endWriting_j_10 p1 row_count row_start bytes_n bytes_f cw_low cw_size cw_room rw_free pb_style + (0)) + E ≤ Dt := by subst hj_10; exact hC
  have hJ_j_10 : ∀ (u_bytes_j_10 : Nat) (k : Nat) (H : Heap) (locs : List Loc) (ls : Array Slot), va_P (dC, dI) vwCl (wd_row_bytes_cw_rw_pb cI a_row u_bytes_j_10 a_cw a_ctx a_rw a_pb a_fld a_plan a_cr a_rr a_scan j_10.1 row_start j_10.2.1 j_10.2.2.1 j_10.2.2.2.1 cw_size j_10.2.2.2.2.1 j_10.2.2.2.2.2 pb_style pb_isWritten pb_isRead) H → va_D A (wd_row_bytes_cw_rw_pb cI a_row u_bytes_j_10 a_cw a_ctx a_rw a_pb a_fld a_plan a_cr a_rr a_scan j_10.1 row_start j_10.2.1 j_10.2.2.1 j_10.2.2.2.1 cw_size j_10.2.2.2.2.1 j_10.2.2.2.2.2 pb_style pb_isWritten pb_isRead) → va_S A s.heap H locs → lv_has ls 2 [(0, .ref a_pb), (1, .int p1)] → k + (0) + E ≤ Dt → W p l e (headSpec wsX10_endWriting (rm_X10_endWriting Dt)).room s m ([.ref a_pb, .int p1] : List Value).toArray below meth c H locs k k Q (F0 m 40 ls []) := by
    intro u_bytes_j_10 k H locs ls hP hD hS hl hC
    have hpre := hpre.2 j_10 hj_10
    refine lv_aload_n hx hb dX10_endWriting_40 rfl (lv_at hl 0 rfl) ?_
    refine va_get (D := (dC, dI)) (ci := 9) (v := .ref a_row) (C := RX10) (T := TX10) (N := 12) hx hb hts iw_X10_endWriting_X10 hown hK hP 4 rfl rfl 2 (by decide) (hts (.fieldLink RX10 26 "PlaneBlocks" "row" "LPlaneBlocks$ByteRow;") (by decide +kernel)) (fun _ h9 => h9) rfl dX10_endWriting_41 ?_
    have hPc := hP.sub (ws' := (wd_row_bytes cI a_row u_bytes_j_10 j_10.1 row_start j_10.2.1 j_10.2.2.1)) [0, 1] rfl
    have hDc := hD.sub (ws' := (wd_row_bytes cI a_row u_bytes_j_10 j_10.1 row_start j_10.2.1 j_10.2.2.1)) [0, 1] (by decide) rfl
    have hFc := va_free (wc := (wd_row_bytes cI a_row u_bytes_j_10 j_10.1 row_start j_10.2.1 j_10.2.2.1)) hD hS hA [0, 1] rfl
    refine va_callv (va_runV (As := []) (rest := []) ⟨hx, hb, hml, hown, hts⟩ (c_X1_dropStuffed l dC dI cI cJ cZ a_row u_bytes_j_10 H.size j_10.1 row_start j_10.2.1 j_10.2.2.1 hpre) (cwV 0 hts gX10_endWriting_X1_dropStuffed rfl rfl rfl (by decide +kernel) ⟨Nat.le_of_ble_eq_true rfl, Nat.le_of_ble_eq_true rfl⟩) ⟨fun a U g mk q => by obtain ⟨q0, q1, qP, qK, qD⟩ := q; exact ⟨q0, q1, qP, va_K.moved (u := U) (U := U.calling g mk a) (Vm.Alike.refl U.vm) qK, qD⟩, va_recv hK hPc (ci := 0) (q0 := 0) rfl rfl, fun U hU hW => ⟨rfl, by rw [hU], by rw [hU]; exact hPc, va_K.moved hW.alike hK, hDc.weaken (fun _ _ _ _ => trivial)⟩⟩ rfl rfl hl.1 rfl (lv_room (Nat.le_of_ble_eq_true rfl)) dX10_endWriting_44 ⟨k0_le hC, k0_le hC⟩) hS (fun q _ h => hFc q h) hFc (fun u t H1 locs ht hvm hw hB hz1 hk1 hS => ?_)
    obtain ⟨hP1, hK1, hD1⟩ := hB
    rw [ht] at hP1
    obtain ⟨r_11, hr_11⟩ : ∃ z, F_X1_dropStuffed j_10.1 row_start j_10.2.2.1 = z := ⟨_, rfl⟩
    try rw [hr_11] at hw
    try rw [hr_11] at hP1
    try rw [hr_11] at hD1
    have hg : (r_11, j_10.2.1, j_10.2.2.1, j_10.2.2.2.1, j_10.2.2.2.2.1, j_10.2.2.2.2.2) = g := by first | (rw [hr_11] at hg; exact hg) | (subst hr_11; exact hg)
    obtain ⟨hP, hD⟩ := va_join (wr := [(a_cw, .inr (2, [.ref a_row, .ref a_ctx, .int j_10.2.2.2.1, .int cw_size, .int j_10.2.2.2.2.1])), (a_rw, .inr (7, [.ref a_row, .int j_10.2.2.2.2.2])), (a_pb, .inr (9, [.ref a_fld, .ref a_plan, .ref a_row, .ref a_ctx, .ref a_cw, .ref a_rw, .ref a_cr, .ref a_rr, .ref a_scan, .int pb_style, .int pb_isWritten, .int pb_isRead]))]) (w1 := (wd_row_bytes cI a_row u_bytes_j_10 r_11 row_start j_10.2.1 j_10.2.2.1)) hP hD [0, 1] [2, 3, 4] rfl rfl (by decide) (by decide) hk1 hFc hP1 hD1
    have hP : va_P (dC, dI) vwCl (wd_row_bytes_cw_rw_pb cI a_row u_bytes_j_10 a_cw a_ctx a_rw a_pb a_fld a_plan a_cr a_rr a_scan r_11 row_start j_10.2.1 j_10.2.2.1 j_10.2.2.2.1 cw_size j_10.2.2.2.2.1 j_10.2.2.2.2.2 pb_style pb_isWritten pb_isRead) H1 := hP.sub [3, 4, 0, 1, 2] rfl
    have hD : va_D A (wd_row_bytes_cw_rw_pb cI a_row u_bytes_j_10 a_cw a_ctx a_rw a_pb a_fld a_plan a_cr a_rr a_scan r_11 row_start j_10.2.1 j_10.2.2.1 j_10.2.2.2.1 cw_size j_10.2.2.2.2.1 j_10.2.2.2.2.2 pb_style pb_isWritten pb_isRead) := hD.sub [3, 4, 0, 1, 2] (by decide) rfl
    generalize H1 = H at hP hS ⊢
    subst hg
    refine W.widen (k := Dt) (n := Dt) (k0_le hC) (k0_le hC) ?_
    rw [← hQe]
    exact W.vret hx hb hr (fun t ht hW => ⟨⟨u_bytes_j_10, rfl, trivial, by rw [ht]; exact hP, va_K.moved hW.alike hK, hD⟩, hS.F ht⟩) hS.2.2 dX10_endWriting_47
  have hpre := hpre.1
  obtain ⟨E2, hE2⟩ : ∃ z : Nat, z = (0) + E := ⟨_, rfl⟩
  have hC : k + (DJ_X10_endWriting_j_10 p1 row_count row_start bytes_n bytes_f cw_low cw_size cw_room rw_free pb_style) + E2 ≤ Dt := by rw [hE2]; exact add4 hC
  unfold PJ_X10_endWriting_j_10 at hpre
  have hC : k + (if p1 = (0 : Int32) then (let r_2 := F_X10_has (16 : Int32) pb_style; if r_2 = (0 : Int32) then (D_X3_end row_count row_start bytes_n bytes_f cw_low cw_size cw_room + (let r_4 := F_X3_end row_count row_start bytes_n bytes_f cw_low cw_size cw_room; 0)) else (D_X3_endPlainly row_count row_start bytes_n bytes_f cw_low cw_room + (let r_6 := F_X3_endPlainly row_count row_start bytes_n bytes_f cw_low cw_room; 0))) else (D_X8_end row_count row_start bytes_n bytes_f rw_free + (let r_8 := F_X8_end row_count row_start bytes_n bytes_f rw_free; 0))) + E2 ≤ Dt := hC
  have hg : (if p1 = (0 : Int32) then (let r_2 := F_X10_has (16 : Int32) pb_style; if r_2 = (0 : Int32) then (let r_4 := F_X3_end row_count row_start bytes_n bytes_f cw_low cw_size cw_room; (r_4.1, r_4.2.1, r_4.2.2.1, r_4.2.2.2.1, r_4.2.2.2.2, rw_free)) else (let r_6 := F_X3_endPlainly row_count row_start bytes_n bytes_f cw_low cw_room; (r_6.1, r_6.2.1, r_6.2.2.1, r_6.2.2.2.1, r_6.2.2.2.2, rw_free))) else (let r_8 := F_X8_end row_count row_start bytes_n bytes_f rw_free; (r_8.1, r_8.2.1, r_8.2.2.1, cw_low, cw_room, r_8.2.2.2))) = j_10 := by rw [← hj_10]; rfl
  clear hj_10
  refine lv_if_eq (tgt := 14) hx hb dX10_endWriting_1 (by decide) (fun c_1 => ?_) (fun c_1 => ?_)
  · rw [if_pos c_1] at hg
    rw [if_pos c_1] at hC
    have hpre := hpre.1 c_1
    refine lv_aload_n hx hb dX10_endWriting_14 rfl (lv_at hl 0 rfl) ?_
    refine lv_bipush (v := 16) hx hb dX10_endWriting_15 (by decide) ?_
    have hPc := hP.sub (ws' := (wd_pb a_pb a_fld a_plan a_row a_ctx a_cw a_rw a_cr a_rr a_scan pb_style pb_isWritten pb_isRead)) [4] rfl
    have hDc := hD.sub (ws' := (wd_pb a_pb a_fld a_plan a_row a_ctx a_cw a_rw a_cr a_rr a_scan pb_style pb_isWritten pb_isRead)) [4] (by decide) rfl
    have hFc := va_free (wc := (wd_pb a_pb a_fld a_plan a_row a_ctx a_cw a_rw a_cr a_rr a_scan pb_style pb_isWritten pb_isRead)) hD hS hA [4] rfl
    refine va_calli (va_runV (As := [.int (16 : Int32)]) (rest := []) ⟨hx, hb, hml, hown, hts⟩ (c_X10_has l dC dI cI cJ cZ a_pb a_fld a_plan a_row a_ctx a_cw a_rw a_cr a_rr a_scan H.size pb_style pb_isWritten pb_isRead (16 : Int32)) (cwV 1 hts gX10_endWriting_X10_has rfl rfl rfl (by decide +kernel) ⟨Nat.le_of_ble_eq_true rfl, Nat.le_of_ble_eq_true rfl⟩) ⟨fun a U g mk q => by obtain ⟨q0, q1, qP, qK, qD⟩ := q; exact ⟨q0, q1, qP, va_K.moved (u := U) (U := U.calling g mk a) (Vm.Alike.refl U.vm) qK, qD⟩, va_recv hK hPc (ci := 9) (q0 := 0) rfl rfl, fun U hU hW => ⟨rfl, by rw [hU], by rw [hU]; exact hPc, va_K.moved hW.alike hK, hDc.weaken (fun _ _ _ _ => trivial)⟩⟩ rfl rfl hl.1 rfl (lv_room (Nat.le_of_ble_eq_true rfl)) dX10_endWriting_17 ⟨k0_le hC, k0_le hC⟩) hS (fun q _ h => hFc q h) hFc (fun r u t H1 locs ht hvm hw hB hz1 hk1 hS => ?_)
    obtain ⟨hP1, hK1, hD1⟩ := hB
    rw [ht] at hP1
    obtain ⟨r_2, hr_2⟩ : ∃ z, F_X10_has (16 : Int32) pb_style = z := ⟨_, rfl⟩
    try rw [hr_2] at hw
    try rw [hr_2] at hP1
    try rw [hr_2] at hD1
    have hg : (if r_2 = (0 : Int32) then (let r_4 := F_X3_end row_count row_start bytes_n bytes_f cw_low cw_size cw_room; (r_4.1, r_4.2.1, r_4.2.2.1, r_4.2.2.2.1, r_4.2.2.2.2, rw_free)) else (let r_6 := F_X3_endPlainly row_count row_start bytes_n bytes_f cw_low cw_room; (r_6.1, r_6.2.1, r_6.2.2.1, r_6.2.2.2.1, r_6.2.2.2.2, rw_free))) = j_10 := by first | (rw [hr_2] at hg; exact hg) | (subst hr_2; exact hg)
    have hw := hw.symm
    subst hw
    obtain ⟨hP, hD⟩ := va_join (wr := [(a_row, .inr (0, [.ref a_bytes, .int row_count, .int row_start])), (a_bytes, .inl (cI, bytes_n, .inl bytes_f)), (a_cw, .inr (2, [.ref a_row, .ref a_ctx, .int cw_low, .int cw_size, .int cw_room])), (a_rw, .inr (7, [.ref a_row, .int rw_free]))]) (w1 := (wd_pb a_pb a_fld a_plan a_row a_ctx a_cw a_rw a_cr a_rr a_scan pb_style pb_isWritten pb_isRead)) hP hD [4] [0, 1, 2, 3] rfl rfl (by decide) (by decide) hk1 hFc hP1 hD1
    have hP : va_P (dC, dI) vwCl (wd_row_bytes_cw_rw_pb cI a_row a_bytes a_cw a_ctx a_rw a_pb a_fld a_plan a_cr a_rr a_scan row_count row_start bytes_n bytes_f cw_low cw_size cw_room rw_free pb_style pb_isWritten pb_isRead) H1 := hP.sub [0, 1, 2, 3, 4] rfl
    have hD : va_D A (wd_row_bytes_cw_rw_pb cI a_row a_bytes a_cw a_ctx a_rw a_pb a_fld a_plan a_cr a_rr a_scan row_count row_start bytes_n bytes_f cw_low cw_size cw_room rw_free pb_style pb_isWritten pb_isRead) := hD.sub [0, 1, 2, 3, 4] (by decide) rfl
    generalize H1 = H at hP hS ⊢
    have hC : k + (if r_2 = (0 : Int32) then (D_X3_end row_count row_start bytes_n bytes_f cw_low cw_size cw_room + (let r_4 := F_X3_end row_count row_start bytes_n bytes_f cw_low cw_size cw_room; 0)) else (D_X3_endPlainly row_count row_start bytes_n bytes_f cw_low cw_room + (let r_6 := F_X3_endPlainly row_count row_start bytes_n bytes_f cw_low cw_room; 0))) + E2 ≤ Dt := by subst hr_2; exact hC
    have hpre := hpre r_2 hr_2
    refine lv_if_eq (tgt := 33) hx hb dX10_endWriting_20 (by decide) (fun c_3 => ?_) (fun c_3 => ?_)
    · rw [if_pos c_3] at hg
      rw [if_pos c_3] at hC
      have hpre := hpre.1 c_3
      refine lv_aload_n hx hb dX10_endWriting_33 rfl (lv_at hl 0 rfl) ?_
      refine va_get (D := (dC, dI)) (ci := 9) (v := .ref a_cw) (C := RX10) (T := TX10) (N := 12) hx hb hts iw_X10_endWriting_X10 hown hK hP 4 rfl rfl 4 (by decide) (hts (.fieldLink RX10 42 "PlaneBlocks" "codedWriter" "LPlaneBlocks$CodedWriter;") (by decide +kernel)) (fun _ h9 => h9) rfl dX10_endWriting_34 ?_
      have hPc := hP.sub (ws' := (wd_row_bytes_cw cI a_row a_bytes a_cw a_ctx row_count row_start bytes_n bytes_f cw_low cw_size cw_room)) [0, 1, 2] rfl
      have hDc := hD.sub (ws' := (wd_row_bytes_cw cI a_row a_bytes a_cw a_ctx row_count row_start bytes_n bytes_f cw_low cw_size cw_room)) [0, 1, 2] (by decide) rfl
      have hFc := va_free (wc := (wd_row_bytes_cw cI a_row a_bytes a_cw a_ctx row_count row_start bytes_n bytes_f cw_low cw_size cw_room)) hD hS hA [0, 1, 2] rfl
      refine va_callv (va_runV (As := []) (rest := []) ⟨hx, hb, hml, hown, hts⟩ (c_X3_end l dC dI cI cJ cZ a_row a_bytes a_cw a_ctx H.size row_count row_start bytes_n bytes_f cw_low cw_size cw_room hpre) (cwV 0 hts gX10_endWriting_X3_end rfl rfl rfl (by decide +kernel) ⟨Nat.le_of_ble_eq_true rfl, Nat.le_of_ble_eq_true rfl⟩) ⟨fun a U g mk q => by obtain ⟨q0, q1, qP, qK, qD⟩ := q; exact ⟨q0, q1, qP, va_K.moved (u := U) (U := U.calling g mk a) (Vm.Alike.refl U.vm) qK, qD⟩, va_recv hK hPc (ci := 2) (q0 := 2) rfl rfl, fun U hU hW => ⟨rfl, by rw [hU], by rw [hU]; exact hPc, va_K.moved hW.alike hK, hDc.weaken (fun _ _ _ _ => trivial)⟩⟩ rfl rfl hl.1 rfl (lv_room (Nat.le_of_ble_eq_true rfl)) dX10_endWriting_37 ⟨kd_le hC, kd_le hC⟩) hS (fun q _ h => hFc q h) hFc (fun u t H1 locs ht hvm hw hB hz1 hk1 hS => ?_)
      obtain ⟨u_5, rfl⟩ : ∃ z, z = u := ⟨_, rfl⟩
      obtain ⟨hP1, hK1, hD1⟩ := hB
      rw [ht] at hP1
      obtain ⟨r_4, hr_4⟩ : ∃ z, F_X3_end row_count row_start bytes_n bytes_f cw_low cw_size cw_room = z := ⟨_, rfl⟩
      try rw [hr_4] at hw
      try rw [hr_4] at hP1
      try rw [hr_4] at hD1
      have hg : (r_4.1, r_4.2.1, r_4.2.2.1, r_4.2.2.2.1, r_4.2.2.2.2, rw_free) = j_10 := by first | (rw [hr_4] at hg; exact hg) | (subst hr_4; exact hg)
      obtain ⟨hP, hD⟩ := va_join (wr := [(a_rw, .inr (7, [.ref a_row, .int rw_free])), (a_pb, .inr (9, [.ref a_fld, .ref a_plan, .ref a_row, .ref a_ctx, .ref a_cw, .ref a_rw, .ref a_cr, .ref a_rr, .ref a_scan, .int pb_style, .int pb_isWritten, .int pb_isRead]))]) (w1 := (wd_row_bytes_cw cI a_row u_5 a_cw a_ctx r_4.1 row_start r_4.2.1 r_4.2.2.1 r_4.2.2.2.1 cw_size r_4.2.2.2.2)) hP hD [0, 1, 2] [3, 4] rfl rfl (by decide) (by decide) hk1 hFc hP1 hD1
      have hP : va_P (dC, dI) vwCl (wd_row_bytes_cw_rw_pb cI a_row u_5 a_cw a_ctx a_rw a_pb a_fld a_plan a_cr a_rr a_scan r_4.1 row_start r_4.2.1 r_4.2.2.1 r_4.2.2.2.1 cw_size r_4.2.2.2.2 rw_free pb_style pb_isWritten pb_isRead) H1 := hP.sub [2, 3, 4, 0, 1] rfl
      have hD : va_D A (wd_row_bytes_cw_rw_pb cI a_row u_5 a_cw a_ctx a_rw a_pb a_fld a_plan a_cr a_rr a_scan r_4.1 row_start r_4.2.1 r_4.2.2.1 r_4.2.2.2.1 cw_size r_4.2.2.2.2 rw_free pb_style pb_isWritten pb_isRead) := hD.sub [2, 3, 4, 0, 1] (by decide) rfl
      generalize H1 = H at hP hS ⊢
      have hC : k + (D_X3_end row_count row_start bytes_n bytes_f cw_low cw_size cw_room + (0)) + E2 ≤ Dt := by subst hr_4; exact hC
      obtain ⟨k1, hk1⟩ : ∃ z, z = k + (D_X3_end row_count row_start bytes_n bytes_f cw_low cw_size cw_room) := ⟨_, rfl⟩
      have hC : k1 + (0) + E2 ≤ Dt := by rw [hk1, Nat.add_assoc k]; exact hC
      refine W.widen (k := k1) (n := k1) (Nat.le_of_eq hk1.symm) (Nat.le_of_eq hk1.symm) ?_
      clear hk1
      generalize k1 = k at hC ⊢
      exact hJ_j_10 u_5 _ _ _ _ (by rw [← hg]; exact hP) (by rw [← hg]; exact hD) hS (lv_sub hl [0, 1] rfl) (by rw [Nat.add_assoc, ← hE2]; exact hC)
    · rw [if_neg c_3] at hg
      rw [if_neg c_3] at hC
      have hpre := hpre.2 c_3
      refine lv_aload_n hx hb dX10_endWriting_23 rfl (lv_at hl 0 rfl) ?_
      refine va_get (D := (dC, dI)) (ci := 9) (v := .ref a_cw) (C := RX10) (T := TX10) (N := 12) hx hb hts iw_X10_endWriting_X10 hown hK hP 4 rfl rfl 4 (by decide) (hts (.fieldLink RX10 42 "PlaneBlocks" "codedWriter" "LPlaneBlocks$CodedWriter;") (by decide +kernel)) (fun _ h9 => h9) rfl dX10_endWriting_24 ?_
      have hPc := hP.sub (ws' := (wd_row_bytes_cw cI a_row a_bytes a_cw a_ctx row_count row_start bytes_n bytes_f cw_low cw_size cw_room)) [0, 1, 2] rfl
      have hDc := hD.sub (ws' := (wd_row_bytes_cw cI a_row a_bytes a_cw a_ctx row_count row_start bytes_n bytes_f cw_low cw_size cw_room)) [0, 1, 2] (by decide) rfl
      have hFc := va_free (wc := (wd_row_bytes_cw cI a_row a_bytes a_cw a_ctx row_count row_start bytes_n bytes_f cw_low cw_size cw_room)) hD hS hA [0, 1, 2] rfl
      refine va_callv (va_runV (As := []) (rest := []) ⟨hx, hb, hml, hown, hts⟩ (c_X3_endPlainly l dC dI cI cJ cZ a_row a_bytes a_cw a_ctx H.size row_count row_start bytes_n bytes_f cw_low cw_size cw_room hpre) (cwV 0 hts gX10_endWriting_X3_endPlainly rfl rfl rfl (by decide +kernel) ⟨Nat.le_of_ble_eq_true rfl, Nat.le_of_ble_eq_true rfl⟩) ⟨fun a U g mk q => by obtain ⟨q0, q1, qP, qK, qD⟩ := q; exact ⟨q0, q1, qP, va_K.moved (u := U) (U := U.calling g mk a) (Vm.Alike.refl U.vm) qK, qD⟩, va_recv hK hPc (ci := 2) (q0 := 2) rfl rfl, fun U hU hW => ⟨rfl, by rw [hU], by rw [hU]; exact hPc, va_K.moved hW.alike hK, hDc.weaken (fun _ _ _ _ => trivial)⟩⟩ rfl rfl hl.1 rfl (lv_room (Nat.le_of_ble_eq_true rfl)) dX10_endWriting_27 ⟨kd_le hC, kd_le hC⟩) hS (fun q _ h => hFc q h) hFc (fun u t H1 locs ht hvm hw hB hz1 hk1 hS => ?_)
      obtain ⟨u_7, rfl⟩ : ∃ z, z = u := ⟨_, rfl⟩
      obtain ⟨hP1, hK1, hD1⟩ := hB
      rw [ht] at hP1
      obtain ⟨r_6, hr_6⟩ : ∃ z, F_X3_endPlainly row_count row_start bytes_n bytes_f cw_low cw_room = z := ⟨_, rfl⟩
      try rw [hr_6] at hw
      try rw [hr_6] at hP1
      try rw [hr_6] at hD1
      have hg : (r_6.1, r_6.2.1, r_6.2.2.1, r_6.2.2.2.1, r_6.2.2.2.2, rw_free) = j_10 := by first | (rw [hr_6] at hg; exact hg) | (subst hr_6; exact hg)
      obtain ⟨hP, hD⟩ := va_join (wr := [(a_rw, .inr (7, [.ref a_row, .int rw_free])), (a_pb, .inr (9, [.ref a_fld, .ref a_plan, .ref a_row, .ref a_ctx, .ref a_cw, .ref a_rw, .ref a_cr, .ref a_rr, .ref a_scan, .int pb_style, .int pb_isWritten, .int pb_isRead]))]) (w1 := (wd_row_bytes_cw cI a_row u_7 a_cw a_ctx r_6.1 row_start r_6.2.1 r_6.2.2.1 r_6.2.2.2.1 cw_size r_6.2.2.2.2)) hP hD [0, 1, 2] [3, 4] rfl rfl (by decide) (by decide) hk1 hFc hP1 hD1
      have hP : va_P (dC, dI) vwCl (wd_row_bytes_cw_rw_pb cI a_row u_7 a_cw a_ctx a_rw a_pb a_fld a_plan a_cr a_rr a_scan r_6.1 row_start r_6.2.1 r_6.2.2.1 r_6.2.2.2.1 cw_size r_6.2.2.2.2 rw_free pb_style pb_isWritten pb_isRead) H1 := hP.sub [2, 3, 4, 0, 1] rfl
      have hD : va_D A (wd_row_bytes_cw_rw_pb cI a_row u_7 a_cw a_ctx a_rw a_pb a_fld a_plan a_cr a_rr a_scan r_6.1 row_start r_6.2.1 r_6.2.2.1 r_6.2.2.2.1 cw_size r_6.2.2.2.2 rw_free pb_style pb_isWritten pb_isRead) := hD.sub [2, 3, 4, 0, 1] (by decide) rfl
      generalize H1 = H at hP hS ⊢
      have hC : k + (D_X3_endPlainly row_count row_start bytes_n bytes_f cw_low cw_room + (0)) + E2 ≤ Dt := by subst hr_6; exact hC
      obtain ⟨k1, hk1⟩ : ∃ z, z = k + (D_X3_endPlainly row_count row_start bytes_n bytes_f cw_low cw_room) := ⟨_, rfl⟩
      have hC : k1 + (0) + E2 ≤ Dt := by rw [hk1, Nat.add_assoc k]; exact hC
      refine W.widen (k := k1) (n := k1) (Nat.le_of_eq hk1.symm) (Nat.le_of_eq hk1.symm) ?_
      clear hk1
      generalize k1 = k at hC ⊢
      refine lv_goto (tgt := 40) hx hb dX10_endWriting_30 (by decide) ?_
      exact hJ_j_10 u_7 _ _ _ _ (by rw [← hg]; exact hP) (by rw [← hg]; exact hD) hS (lv_sub hl [0, 1] rfl) (by rw [Nat.add_assoc, ← hE2]; exact hC)
  · rw [if_neg c_1] at hg
    rw [if_neg c_1] at hC
    have hpre := hpre.2 c_1
    refine lv_aload_n hx hb dX10_endWriting_4 rfl (lv_at hl 0 rfl) ?_
    refine va_get (D := (dC, dI)) (ci := 9) (v := .ref a_rw) (C := RX10) (T := TX10) (N := 12) hx hb hts iw_X10_endWriting_X10 hown hK hP 4 rfl rfl 5 (by decide) (hts (.fieldLink RX10 51 "PlaneBlocks" "rawWriter" "LPlaneBlocks$RawWriter;") (by decide +kernel)) (fun _ h9 => h9) rfl dX10_endWriting_5 ?_
    have hPc := hP.sub (ws' := (wd_row_bytes_rw cI a_row a_bytes a_rw row_count row_start bytes_n bytes_f rw_free)) [0, 1, 3] rfl
    have hDc := hD.sub (ws' := (wd_row_bytes_rw cI a_row a_bytes a_rw row_count row_start bytes_n bytes_f rw_free)) [0, 1, 3] (by decide) rfl
    have hFc := va_free (wc := (wd_row_bytes_rw cI a_row a_bytes a_rw row_count row_start bytes_n bytes_f rw_free)) hD hS hA [0, 1, 3] rfl
    refine va_callv (va_runV (As := []) (rest := []) ⟨hx, hb, hml, hown, hts⟩ (c_X8_end l dC dI cI cJ cZ a_row a_bytes a_rw H.size row_count row_start bytes_n bytes_f rw_free hpre) (cwV 0 hts gX10_endWriting_X8_end rfl rfl rfl (by decide +kernel) ⟨Nat.le_of_ble_eq_true rfl, Nat.le_of_ble_eq_true rfl⟩) ⟨fun a U g mk q => by obtain ⟨q0, q1, qP, qK, qD⟩ := q; exact ⟨q0, q1, qP, va_K.moved (u := U) (U := U.calling g mk a) (Vm.Alike.refl U.vm) qK, qD⟩, va_recv hK hPc (ci := 7) (q0 := 2) rfl rfl, fun U hU hW => ⟨rfl, by rw [hU], by rw [hU]; exact hPc, va_K.moved hW.alike hK, hDc.weaken (fun _ _ _ _ => trivial)⟩⟩ rfl rfl hl.1 rfl (lv_room (Nat.le_of_ble_eq_true rfl)) dX10_endWriting_8 ⟨kd_le hC, kd_le hC⟩) hS (fun q _ h => hFc q h) hFc (fun u t H1 locs ht hvm hw hB hz1 hk1 hS => ?_)
    obtain ⟨u_9, rfl⟩ : ∃ z, z = u := ⟨_, rfl⟩
    obtain ⟨hP1, hK1, hD1⟩ := hB
    rw [ht] at hP1
    obtain ⟨r_8, hr_8⟩ : ∃ z, F_X8_end row_count row_start bytes_n bytes_f rw_free = z := ⟨_, rfl⟩
    try rw [hr_8] at hw
    try rw [hr_8] at hP1
    try rw [hr_8] at hD1
    have hg : (r_8.1, r_8.2.1, r_8.2.2.1, cw_low, cw_room, r_8.2.2.2) = j_10 := by first | (rw [hr_8] at hg; exact hg) | (subst hr_8; exact hg)
    obtain ⟨hP, hD⟩ := va_join (wr := [(a_cw, .inr (2, [.ref a_row, .ref a_ctx, .int cw_low, .int cw_size, .int cw_room])), (a_pb, .inr (9, [.ref a_fld, .ref a_plan, .ref a_row, .ref a_ctx, .ref a_cw, .ref a_rw, .ref a_cr, .ref a_rr, .ref a_scan, .int pb_style, .int pb_isWritten, .int pb_isRead]))]) (w1 := (wd_row_bytes_rw cI a_row u_9 a_rw r_8.1 row_start r_8.2.1 r_8.2.2.1 r_8.2.2.2)) hP hD [0, 1, 3] [2, 4] rfl rfl (by decide) (by decide) hk1 hFc hP1 hD1
    have hP : va_P (dC, dI) vwCl (wd_row_bytes_cw_rw_pb cI a_row u_9 a_cw a_ctx a_rw a_pb a_fld a_plan a_cr a_rr a_scan r_8.1 row_start r_8.2.1 r_8.2.2.1 cw_low cw_size cw_room r_8.2.2.2 pb_style pb_isWritten pb_isRead) H1 := hP.sub [2, 3, 0, 4, 1] rfl
    have hD : va_D A (wd_row_bytes_cw_rw_pb cI a_row u_9 a_cw a_ctx a_rw a_pb a_fld a_plan a_cr a_rr a_scan r_8.1 row_start r_8.2.1 r_8.2.2.1 cw_low cw_size cw_room r_8.2.2.2 pb_style pb_isWritten pb_isRead) := hD.sub [2, 3, 0, 4, 1] (by decide) rfl
    generalize H1 = H at hP hS ⊢
    have hC : k + (D_X8_end row_count row_start bytes_n bytes_f rw_free + (0)) + E2 ≤ Dt := by subst hr_8; exact hC
    obtain ⟨k1, hk1⟩ : ∃ z, z = k + (D_X8_end row_count row_start bytes_n bytes_f rw_free) := ⟨_, rfl⟩
    have hC : k1 + (0) + E2 ≤ Dt := by rw [hk1, Nat.add_assoc k]; exact hC
    refine W.widen (k := k1) (n := k1) (Nat.le_of_eq hk1.symm) (Nat.le_of_eq hk1.symm) ?_
    clear hk1
    generalize k1 = k at hC ⊢
    refine lv_goto (tgt := 40) hx hb dX10_endWriting_11 (by decide) ?_
    exact hJ_j_10 u_9 _ _ _ _ (by rw [← hg]; exact hP) (by rw [← hg]; exact hD) hS (lv_sub hl [0, 1] rfl) (by rw [Nat.add_assoc, ← hE2]; exact hC)
abbrev wd_row_bytes_cr_rr_pb (cI : ClassId) (a_row : Nat) (a_bytes : Nat) (a_cr : Nat) (a_ctx : Nat) (a_rr : Nat) (a_pb : Nat) (a_fld : Nat) (a_plan : Nat) (a_cw : Nat) (a_rw : Nat) (a_scan : Nat) (row_count : Int32) (row_start : Int32) (bytes_n : Nat) (bytes_f : Nat → Int32) (cr_place : Int32) (cr_end : Int32) (cr_window : Int32) (cr_size : Int32) (cr_room : Int32) (rr_place : Int32) (rr_end : Int32) (rr_current : Int32) (rr_left : Int32) (pb_style : Int32) (pb_isWritten : Int32) (pb_isRead : Int32) : va_W := [(a_row, .inr (0, [.ref a_bytes, .int row_count, .int row_start])), (a_bytes, .inl (cI, bytes_n, .inl bytes_f)), (a_cr, .inr (1, [.ref a_row, .ref a_ctx, .int cr_place, .int cr_end, .int cr_window, .int cr_size, .int cr_room])), (a_rr, .inr (6, [.ref a_row, .int rr_place, .int rr_end, .int rr_current, .int rr_left])), (a_pb, .inr (9, [.ref a_fld, .ref a_plan, .ref a_row, .ref a_ctx, .ref a_cw, .ref a_rw, .ref a_cr, .ref a_rr, .ref a_scan, .int pb_style, .int pb_isWritten, .int pb_isRead]))]
abbrev rm_X10_openForReading : Room := { frames := 3, cells := 0, slots := 0, locals := 66 }
abbrev Q_X10_openForReading (dC : Nat → ClassId) (dI : Nat → Nat → Nat) (cI cJ cZ : ClassId) (a_row : Nat) (a_bytes : Nat) (a_cr : Nat) (a_ctx : Nat) (a_rr : Nat) (a_pb : Nat) (a_fld : Nat) (a_plan : Nat) (a_cw : Nat) (a_rw : Nat) (a_scan : Nat) (A : Nat → Prop) (row_count : Int32) (row_start : Int32) (bytes_n : Nat) (bytes_f : Nat → Int32) (cr_place : Int32) (cr_end : Int32) (cr_window : Int32) (cr_size : Int32) (cr_room : Int32) (rr_place : Int32) (rr_end : Int32) (rr_current : Int32) (rr_left : Int32) (pb_style : Int32) (pb_isWritten : Int32) (pb_isRead : Int32) (g : (Int32 × Int32 × Int32 × Int32 × Int32 × Int32 × Int32 × Int32 × Int32)) : Array Value → State → Outcome → State → Prop := va_Qv (fun _ : Unit => True) (fun u t => va_P (dC, dI) vwCl (wd_row_bytes_cr_rr_pb cI a_row a_bytes a_cr a_ctx a_rr a_pb a_fld a_plan a_cw a_rw a_scan row_count row_start bytes_n bytes_f g.1 g.2.1 g.2.2.1 g.2.2.2.1 g.2.2.2.2.1 g.2.2.2.2.2.1 g.2.2.2.2.2.2.1 g.2.2.2.2.2.2.2.1 g.2.2.2.2.2.2.2.2 pb_style pb_isWritten pb_isRead) t.heap ∧ va_K (dC, dI) vwCl [(cI, .int), (cJ, .long), (cZ, .boolean)] t ∧ va_D A (wd_row_bytes_cr_rr_pb cI a_row a_bytes a_cr a_ctx a_rr a_pb a_fld a_plan a_cw a_rw a_scan row_count row_start bytes_n bytes_f g.1 g.2.1 g.2.2.1 g.2.2.2.1 g.2.2.2.2.1 g.2.2.2.2.2.1 g.2.2.2.2.2.2.1 g.2.2.2.2.2.2.2.1 g.2.2.2.2.2.2.2.2 pb_style pb_isWritten pb_isRead)) A
theorem iw_X10_openForReading_X10 : ∀ w ∈ u_ws RX10 TX10 12, w ∈ wsX10_openForReading := by decide +kernel
set_option maxHeartbeats 4000000 in
set_option maxRecDepth 100000 in
theorem c_X10_openForReading (l : Launch) (dC : Nat → ClassId) (dI : Nat → Nat → Nat) (cI cJ cZ : ClassId) (a_row : Nat) (a_bytes : Nat) (a_cr : Nat) (a_ctx : Nat) (a_rr : Nat) (a_pb : Nat) (a_fld : Nat) (a_plan : Nat) (a_cw : Nat) (a_rw : Nat) (a_scan : Nat) (sz : Nat) (row_count : Int32) (row_start : Int32) (bytes_n : Nat) (bytes_f : Nat → Int32) (cr_place : Int32) (cr_end : Int32) (cr_window : Int32) (cr_size : Int32) (cr_room : Int32) (rr_place : Int32) (rr_end : Int32) (rr_current : Int32) (rr_left : Int32) (pb_style : Int32) (pb_isWritten : Int32) (pb_isRead : Int32) (p1 : Int32) (p2 : Int32) (p3 : Int32) (hpre : P_X10_openForReading p1 p2 p3 row_count bytes_n bytes_f) : Met l yX10_openForReading wsX10_openForReading rm_X10_openForReading (va_Pc [.ref a_pb, .int p1, .int p2, .int p3] (fun U => U.heap.size = sz ∧ va_P (dC, dI) vwCl (wd_row_bytes_cr_rr_pb cI a_row a_bytes a_cr a_ctx a_rr a_pb a_fld a_plan a_cw a_rw a_scan row_count row_start bytes_n bytes_f cr_place cr_end cr_window cr_size cr_room rr_place rr_end rr_current rr_left pb_style pb_isWritten pb_isRead) U.heap ∧ va_K (dC, dI) vwCl [(cI, .int), (cJ, .long), (cZ, .boolean)] U ∧ va_D (fun _ => True) (wd_row_bytes_cr_rr_pb cI a_row a_bytes a_cr a_ctx a_rr a_pb a_fld a_plan a_cw a_rw a_scan row_count row_start bytes_n bytes_f cr_place cr_end cr_window cr_size cr_room rr_place rr_end rr_current rr_left pb_style pb_isWritten pb_isRead))) (Q_X10_openForReading dC dI cI cJ cZ a_row a_bytes a_cr a_ctx a_rr a_pb a_fld a_plan a_cw a_rw a_scan (va_A (wd_row_bytes_cr_rr_pb cI a_row a_bytes a_cr a_ctx a_rr a_pb a_fld a_plan a_cw a_rw a_scan row_count row_start bytes_n bytes_f cr_place cr_end cr_window cr_size cr_room rr_place rr_end rr_current rr_left pb_style pb_isWritten pb_isRead) sz) row_count row_start bytes_n bytes_f cr_place cr_end cr_window cr_size cr_room rr_place rr_end rr_current rr_left pb_style pb_isWritten pb_isRead (F_X10_openForReading p1 p2 p3 row_count bytes_f cr_place cr_end cr_window cr_size cr_room rr_place rr_end rr_current rr_left)) 0 0 (va_A (wd_row_bytes_cr_rr_pb cI a_row a_bytes a_cr a_ctx a_rr a_pb a_fld a_plan a_cw a_rw a_scan row_count row_start bytes_n bytes_f cr_place cr_end cr_window cr_size cr_room rr_place rr_end rr_current rr_left pb_style pb_isWritten pb_isRead) sz) := by
  refine Met.ofW (cc := cX10_openForReading) (maxL := 4) (ret := none) (by decide) rfl ?_
  intro p e s m args below meth c s₁ B hml hv
  obtain ⟨rfl, hsz, hP, hK, hD0⟩ := hv
  have hx := B.exec
  have hb := B.bytes
  have hr := B.returns
  have hts := atoms_spec (ws := wsX10_openForReading) B.pre
  have hown : s.vm.findClass RX10 = some m.cls := findClass_of_methodNamed B.named
  have hlocks := B.notSynchronized
  subst hsz
  have hD := hD0.self (sz := s.heap.size)
  generalize hAe : va_A (wd_row_bytes_cr_rr_pb cI a_row a_bytes a_cr a_ctx a_rr a_pb a_fld a_plan a_cw a_rw a_scan row_count row_start bytes_n bytes_f cr_place cr_end cr_window cr_size cr_room rr_place rr_end rr_current rr_left pb_style pb_isWritten pb_isRead) s.heap.size = A at hD ⊢
  have hA : ∀ q : Nat, s.heap.size ≤ q → A q := fun q h => by rw [← hAe]; exact Or.inr h
  have hS : va_S A s.heap s.heap [] := va_S.rf
  obtain ⟨H, hH⟩ : ∃ z, z = s.heap := ⟨_, rfl⟩
  have hP : va_P (dC, dI) vwCl (wd_row_bytes_cr_rr_pb cI a_row a_bytes a_cr a_ctx a_rr a_pb a_fld a_plan a_cw a_rw a_scan row_count row_start bytes_n bytes_f cr_place cr_end cr_window cr_size cr_room rr_place rr_end rr_current rr_left pb_style pb_isWritten pb_isRead) H := by rw [hH]; exact hP
  have hS : va_S A s.heap H [] := by rw [hH]; exact va_S.rf
  obtain ⟨g, hg⟩ : ∃ z, F_X10_openForReading p1 p2 p3 row_count bytes_f cr_place cr_end cr_window cr_size cr_room rr_place rr_end rr_current rr_left = z := ⟨_, rfl⟩
  rw [hg]
  generalize hQe : MQ below (Q_X10_openForReading dC dI cI cJ cZ a_row a_bytes a_cr a_ctx a_rr a_pb a_fld a_plan a_cw a_rw a_scan A row_count row_start bytes_n bytes_f cr_place cr_end cr_window cr_size cr_room rr_place rr_end rr_current rr_left pb_style pb_isWritten pb_isRead g) _ s 0 0 A = Q
  rw [← hH]
  clear hH
  have hl := lv_entry ([.ref a_pb, .int p1, .int p2, .int p3]) (n := 4) (Nat.le_of_ble_eq_true rfl)
  rw [lg_entry_eq]
  generalize (lg_sl ([.ref a_pb, .int p1, .int p2, .int p3]) ++ List.replicate (4 - (lg_sl ([.ref a_pb, .int p1, .int p2, .int p3])).length) Slot.unset).toArray = ls at hl ⊢
  have hl : lv_has ls 4 [(0, .ref a_pb), (1, .int p1), (2, .int p2), (3, .int p3)] := hl
  unfold F_X10_openForReading at hg
  unfold P_X10_openForReading at hpre
  refine lv_iload_n hx hb dX10_openForReading_0 rfl (lv_at hl 1 rfl) ?_
  refine lv_if_eq (tgt := 16) hx hb dX10_openForReading_1 (by decide) (fun c_1 => ?_) (fun c_1 => ?_)
  · rw [if_pos c_1] at hg
    have hpre := hpre c_1
    refine lv_aload_n hx hb dX10_openForReading_16 rfl (lv_at hl 0 rfl) ?_
    refine va_get (D := (dC, dI)) (ci := 9) (v := .ref a_cr) (C := RX10) (T := TX10) (N := 12) hx hb hts iw_X10_openForReading_X10 hown hK hP 4 rfl rfl 6 (by decide) (hts (.fieldLink RX10 58 "PlaneBlocks" "codedReader" "LPlaneBlocks$CodedReader;") (by decide +kernel)) (fun _ h9 => h9) rfl dX10_openForReading_17 ?_
    refine lv_iload_n hx hb dX10_openForReading_20 rfl (lv_at hl 2 rfl) ?_
    refine lv_iload_n hx hb dX10_openForReading_21 rfl (lv_at hl 3 rfl) ?_
    have hPc := hP.sub (ws' := (wd_row_bytes_cr cI a_row a_bytes a_cr a_ctx row_count row_start bytes_n bytes_f cr_place cr_end cr_window cr_size cr_room)) [0, 1, 2] rfl
    have hDc := hD.sub (ws' := (wd_row_bytes_cr cI a_row a_bytes a_cr a_ctx row_count row_start bytes_n bytes_f cr_place cr_end cr_window cr_size cr_room)) [0, 1, 2] (by decide) rfl
    have hFc := va_free (wc := (wd_row_bytes_cr cI a_row a_bytes a_cr a_ctx row_count row_start bytes_n bytes_f cr_place cr_end cr_window cr_size cr_room)) hD hS hA [0, 1, 2] rfl
    refine va_callv (va_runV (As := [.int p2, .int p3]) (rest := []) ⟨hx, hb, hml, hown, hts⟩ (c_X2_open l dC dI cI cJ cZ a_row a_bytes a_cr a_ctx H.size row_count row_start bytes_n bytes_f cr_place cr_end cr_window cr_size cr_room p2 p3 hpre) (cwV 2 hts gX10_openForReading_X2_open rfl rfl rfl (by decide +kernel) ⟨Nat.le_of_ble_eq_true rfl, Nat.le_of_ble_eq_true rfl⟩) ⟨fun a U g mk q => by obtain ⟨q0, q1, qP, qK, qD⟩ := q; exact ⟨q0, q1, qP, va_K.moved (u := U) (U := U.calling g mk a) (Vm.Alike.refl U.vm) qK, qD⟩, va_recv hK hPc (ci := 1) (q0 := 2) rfl rfl, fun U hU hW => ⟨rfl, by rw [hU], by rw [hU]; exact hPc, va_K.moved hW.alike hK, hDc.weaken (fun _ _ _ _ => trivial)⟩⟩ rfl rfl hl.1 rfl (lv_room (Nat.le_of_ble_eq_true rfl)) dX10_openForReading_22 ⟨Nat.le_of_ble_eq_true rfl, Nat.le_of_ble_eq_true rfl⟩) hS (fun q _ h => hFc q h) hFc (fun u t H1 locs ht hvm hw hB hz1 hk1 hS => ?_)
    obtain ⟨hP1, hK1, hD1⟩ := hB
    rw [ht] at hP1
    obtain ⟨r_2, hr_2⟩ : ∃ z, F_X2_open p2 p3 row_count bytes_f = z := ⟨_, rfl⟩
    try rw [hr_2] at hw
    try rw [hr_2] at hP1
    try rw [hr_2] at hD1
    have hg : (r_2.1, r_2.2.1, r_2.2.2.1, r_2.2.2.2.1, r_2.2.2.2.2, rr_place, rr_end, rr_current, rr_left) = g := by first | (rw [hr_2] at hg; exact hg) | (subst hr_2; exact hg)
    obtain ⟨hP, hD⟩ := va_join (wr := [(a_rr, .inr (6, [.ref a_row, .int rr_place, .int rr_end, .int rr_current, .int rr_left])), (a_pb, .inr (9, [.ref a_fld, .ref a_plan, .ref a_row, .ref a_ctx, .ref a_cw, .ref a_rw, .ref a_cr, .ref a_rr, .ref a_scan, .int pb_style, .int pb_isWritten, .int pb_isRead]))]) (w1 := (wd_row_bytes_cr cI a_row a_bytes a_cr a_ctx row_count row_start bytes_n bytes_f r_2.1 r_2.2.1 r_2.2.2.1 r_2.2.2.2.1 r_2.2.2.2.2)) hP hD [0, 1, 2] [3, 4] rfl rfl (by decide) (by decide) hk1 hFc hP1 hD1
    have hP : va_P (dC, dI) vwCl (wd_row_bytes_cr_rr_pb cI a_row a_bytes a_cr a_ctx a_rr a_pb a_fld a_plan a_cw a_rw a_scan row_count row_start bytes_n bytes_f r_2.1 r_2.2.1 r_2.2.2.1 r_2.2.2.2.1 r_2.2.2.2.2 rr_place rr_end rr_current rr_left pb_style pb_isWritten pb_isRead) H1 := hP.sub [2, 3, 4, 0, 1] rfl
    have hD : va_D A (wd_row_bytes_cr_rr_pb cI a_row a_bytes a_cr a_ctx a_rr a_pb a_fld a_plan a_cw a_rw a_scan row_count row_start bytes_n bytes_f r_2.1 r_2.2.1 r_2.2.2.1 r_2.2.2.2.1 r_2.2.2.2.2 rr_place rr_end rr_current rr_left pb_style pb_isWritten pb_isRead) := hD.sub [2, 3, 4, 0, 1] (by decide) rfl
    generalize H1 = H at hP hS ⊢
    subst hg
    rw [← hQe]
    exact W.vret hx hb hr (fun t ht hW => ⟨⟨(), rfl, trivial, by rw [ht]; exact hP, va_K.moved hW.alike hK, hD⟩, hS.F ht⟩) hS.2.2 dX10_openForReading_25
  · rw [if_neg c_1] at hg
    refine lv_aload_n hx hb dX10_openForReading_4 rfl (lv_at hl 0 rfl) ?_
    refine va_get (D := (dC, dI)) (ci := 9) (v := .ref a_rr) (C := RX10) (T := TX10) (N := 12) hx hb hts iw_X10_openForReading_X10 hown hK hP 4 rfl rfl 7 (by decide) (hts (.fieldLink RX10 65 "PlaneBlocks" "rawReader" "LPlaneBlocks$RawReader;") (by decide +kernel)) (fun _ h9 => h9) rfl dX10_openForReading_5 ?_
    refine lv_iload_n hx hb dX10_openForReading_8 rfl (lv_at hl 2 rfl) ?_
    refine lv_iload_n hx hb dX10_openForReading_9 rfl (lv_at hl 3 rfl) ?_
    have hPc := hP.sub (ws' := (wd_rr a_rr a_row rr_place rr_end rr_current rr_left)) [3] rfl
    have hDc := hD.sub (ws' := (wd_rr a_rr a_row rr_place rr_end rr_current rr_left)) [3] (by decide) rfl
    have hFc := va_free (wc := (wd_rr a_rr a_row rr_place rr_end rr_current rr_left)) hD hS hA [3] rfl
    refine va_callv (va_runV (As := [.int p2, .int p3]) (rest := []) ⟨hx, hb, hml, hown, hts⟩ (c_X7_open l dC dI cI cJ cZ a_rr a_row H.size rr_place rr_end rr_current rr_left p2 p3) (cwV 2 hts gX10_openForReading_X7_open rfl rfl rfl (by decide +kernel) ⟨Nat.le_of_ble_eq_true rfl, Nat.le_of_ble_eq_true rfl⟩) ⟨fun a U g mk q => by obtain ⟨q0, q1, qP, qK, qD⟩ := q; exact ⟨q0, q1, qP, va_K.moved (u := U) (U := U.calling g mk a) (Vm.Alike.refl U.vm) qK, qD⟩, va_recv hK hPc (ci := 6) (q0 := 0) rfl rfl, fun U hU hW => ⟨rfl, by rw [hU], by rw [hU]; exact hPc, va_K.moved hW.alike hK, hDc.weaken (fun _ _ _ _ => trivial)⟩⟩ rfl rfl hl.1 rfl (lv_room (Nat.le_of_ble_eq_true rfl)) dX10_openForReading_10 ⟨Nat.le_of_ble_eq_true rfl, Nat.le_of_ble_eq_true rfl⟩) hS (fun q _ h => hFc q h) hFc (fun u t H1 locs ht hvm hw hB hz1 hk1 hS => ?_)
    obtain ⟨hP1, hK1, hD1⟩ := hB
    rw [ht] at hP1
    obtain ⟨r_3, hr_3⟩ : ∃ z, F_X7_open p2 p3 = z := ⟨_, rfl⟩
    try rw [hr_3] at hw
    try rw [hr_3] at hP1
    try rw [hr_3] at hD1
    have hg : (cr_place, cr_end, cr_window, cr_size, cr_room, r_3.1, r_3.2.1, r_3.2.2.1, r_3.2.2.2) = g := by first | (rw [hr_3] at hg; exact hg) | (subst hr_3; exact hg)
    obtain ⟨hP, hD⟩ := va_join (wr := [(a_row, .inr (0, [.ref a_bytes, .int row_count, .int row_start])), (a_bytes, .inl (cI, bytes_n, .inl bytes_f)), (a_cr, .inr (1, [.ref a_row, .ref a_ctx, .int cr_place, .int cr_end, .int cr_window, .int cr_size, .int cr_room])), (a_pb, .inr (9, [.ref a_fld, .ref a_plan, .ref a_row, .ref a_ctx, .ref a_cw, .ref a_rw, .ref a_cr, .ref a_rr, .ref a_scan, .int pb_style, .int pb_isWritten, .int pb_isRead]))]) (w1 := (wd_rr a_rr a_row r_3.1 r_3.2.1 r_3.2.2.1 r_3.2.2.2)) hP hD [3] [0, 1, 2, 4] rfl rfl (by decide) (by decide) hk1 hFc hP1 hD1
    have hP : va_P (dC, dI) vwCl (wd_row_bytes_cr_rr_pb cI a_row a_bytes a_cr a_ctx a_rr a_pb a_fld a_plan a_cw a_rw a_scan row_count row_start bytes_n bytes_f cr_place cr_end cr_window cr_size cr_room r_3.1 r_3.2.1 r_3.2.2.1 r_3.2.2.2 pb_style pb_isWritten pb_isRead) H1 := hP.sub [0, 1, 2, 4, 3] rfl
    have hD : va_D A (wd_row_bytes_cr_rr_pb cI a_row a_bytes a_cr a_ctx a_rr a_pb a_fld a_plan a_cw a_rw a_scan row_count row_start bytes_n bytes_f cr_place cr_end cr_window cr_size cr_room r_3.1 r_3.2.1 r_3.2.2.1 r_3.2.2.2 pb_style pb_isWritten pb_isRead) := hD.sub [0, 1, 2, 4, 3] (by decide) rfl
    generalize H1 = H at hP hS ⊢
    refine lv_goto (tgt := 25) hx hb dX10_openForReading_13 (by decide) ?_
    subst hg
    rw [← hQe]
    exact W.vret hx hb hr (fun t ht hW => ⟨⟨(), rfl, trivial, by rw [ht]; exact hP, va_K.moved hW.alike hK, hD⟩, hS.F ht⟩) hS.2.2 dX10_openForReading_25

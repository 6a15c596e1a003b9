/-! ===== PURE: a bit is written in a context, reference ===== -/
/-- what keep is asked to keep, after the carry went back in -/
theorem whole_add {st c : Nat} {b : Nat → Nat} {low room p : Nat} (h : room ≤ 12) : nI (rLow st c b low room) + F_X11_carry (bI (rCar st c b low room)) (nI room) + nI p = nI (low + p) := by
  rw [carry_ok _ h, nI_add, rLow_whole, nI_add]
theorem x11_wc {st k bit sz low room c : Nat} {f sf lf mp mo : Nat → Int32} {b cs cl : Nat → Nat} (hmp : cEq 47 mp nP) (hmo : cEq 47 mo nO) (hk : k < 19) (hbit : bit < 2) (hcs : cEq 19 sf cs) (hcl : cEq 19 lf cl) (ho : cOk cs cl) (h3 : 32768 ≤ sz) (h4 : sz < 65536) (h5 : low + sz ≤ 2 ^ (28 - room)) (h6 : 1 ≤ room) (h7 : room ≤ 12) (h8 : cEq c f b) (h9 : st ≤ c) (h10 : ∀ j, j < c → b j < 256) (h11 : c + 15 < 65536) :
    P_X11_writeCoded (nI k) (nI bit) (nI c) (nI st) (nI (rLow st c b low room)) (bI (rCar st c b low room)) (nI sz) (nI room) 47 mp 47 mo 19 sf 19 lf 65536 f ∧ ∃ f' sf' lf' : Nat → Int32, F_X11_writeCoded (nI k) (nI bit) (nI c) (nI st) (nI (rLow st c b low room)) (bI (rCar st c b low room)) (nI sz) (nI room) mp mo sf lf f = (nI (sNext st k bit cs cl sz low room c b).2.2.2.2.1, nI (rLow st (sNext st k bit cs cl sz low room c b).2.2.2.2.1 (sNext st k bit cs cl sz low room c b).2.2.2.2.2 (sNext st k bit cs cl sz low room c b).2.2.1 (sNext st k bit cs cl sz low room c b).2.2.2.1), bI (rCar st (sNext st k bit cs cl sz low room c b).2.2.2.2.1 (sNext st k bit cs cl sz low room c b).2.2.2.2.2 (sNext st k bit cs cl sz low room c b).2.2.1 (sNext st k bit cs cl sz low room c b).2.2.2.1), nI (sNext st k bit cs cl sz low room c b).2.1, nI (sNext st k bit cs cl sz low room c b).2.2.2.1, sf', lf', f') ∧ cEq (sNext st k bit cs cl sz low room c b).2.2.2.2.1 f' (sNext st k bit cs cl sz low room c b).2.2.2.2.2 ∧ cEq 19 sf' (sNext st k bit cs cl sz low room c b).1.1 ∧ cEq 19 lf' (sNext st k bit cs cl sz low room c b).1.2 := by
  have hp := nP_in _ (ho.1 k hk)
  have h47 := ho.1 k hk
  have hfu := fu_ge
  have hb2 := ho.2 k hk
  have hkc : (nI k).toNatClampNeg = k := nI_clamp (by omega)
  have hsc : (nI (cs k)).toNatClampNeg = cs k := nI_clamp (by omega)
  have hsub : nI sz - nI (nP (cs k)) = nI (sz - nP (cs k)) := pk_sub (by omega)
  have hpw : 2 ^ (28 - room) ≤ 2 ^ 27 := Nat.pow_le_pow_right (by omega) (by omega)
  have n10 : ¬ (1 : Int32) = 0 := by decide
  have n01 : ¬ (0 : Int32) = 1 := by decide
  have i1 : vp_in (nI k) 19 := vp_in_nI hk (by decide)
  have i2 : vp_in (nI (cs k)) 47 := vp_in_nI h47 (by decide)
  obtain ⟨kp, kf⟩ := keep_ok (st := st) (c := c) (w := low + nP (cs k)) (room := room) (f := f) (b := b) h7 (by omega) (by omega) h9 h8 h10
  have hwh := whole_add (st := st) (c := c) (b := b) (low := low) (p := nP (cs k)) h7
  have cuts : ∀ {j5 j8 : Int32} {lo ca sp : Int32} {s2 l2 : Nat → Int32},
      J_X11_writeCoded_j_5 (nI k) (nI bit) lf = j5 → J_X11_writeCoded_j_8 (nI k) (nI sz) mp sf j5 = j8 →
      J_X11_writeCoded_j_17 (nI k) (nI c) (nI st) (nI (rLow st c b low room)) (bI (rCar st c b low room)) (nI sz) (nI room) mp sf f j5 j8 = (lo, ca, sp) →
      J_X11_writeCoded_j_20 (nI k) mo sf lf j5 j8 = (s2, l2) →
      F_X11_writeCoded (nI k) (nI bit) (nI c) (nI st) (nI (rLow st c b low room)) (bI (rCar st c b low room)) (nI sz) (nI room) mp mo sf lf f =
        ((L_X11_writeCoded_j_21 (nI st) fu (nI c) lo ca sp (nI room) f).1, (L_X11_writeCoded_j_21 (nI st) fu (nI c) lo ca sp (nI room) f).2.1, (L_X11_writeCoded_j_21 (nI st) fu (nI c) lo ca sp (nI room) f).2.2.1, (L_X11_writeCoded_j_21 (nI st) fu (nI c) lo ca sp (nI room) f).2.2.2.1, (L_X11_writeCoded_j_21 (nI st) fu (nI c) lo ca sp (nI room) f).2.2.2.2.1, s2, l2, (L_X11_writeCoded_j_21 (nI st) fu (nI c) lo ca sp (nI room) f).2.2.2.2.2) := by
    intro j5 j8 lo ca sp s2 l2 e5 e8 e17 e20
    unfold F_X11_writeCoded
    simp only [e5, e8, e17, e20]
  have pcut : ∀ {j5 j8 : Int32} {lo ca sp : Int32},
      J_X11_writeCoded_j_5 (nI k) (nI bit) lf = j5 → J_X11_writeCoded_j_8 (nI k) (nI sz) mp sf j5 = j8 →
      J_X11_writeCoded_j_17 (nI k) (nI c) (nI st) (nI (rLow st c b low room)) (bI (rCar st c b low room)) (nI sz) (nI room) mp sf f j5 j8 = (lo, ca, sp) →
      (j8 = 0 → P_X11_changeContext (nI k) j5 47 19 sf 19 lf) → PL_X11_writeCoded_j_21 (nI st) 65536 fu (nI c) lo ca sp (nI room) f →
      P_X11_writeCoded (nI k) (nI bit) (nI c) (nI st) (nI (rLow st c b low room)) (bI (rCar st c b low room)) (nI sz) (nI room) 47 mp 47 mo 19 sf 19 lf 65536 f := by
    intro j5 j8 lo ca sp e5 e8 e17 hc hl
    unfold P_X11_writeCoded PJ_X11_writeCoded_j_17 PJ_X11_writeCoded_j_20
    rw [hkc, hcs k hk, hsc, hmp _ h47]
    refine ⟨i1, i2, i1, fun a ea a8 ea8 => ?_⟩
    rw [e5] at ea
    subst ea
    rw [e8] at ea8
    subst ea8
    refine ⟨⟨fun _ j13 _ _ r15 e15 => ?_, fun _ r10 er10 => ?_⟩, fun a17 ea17 => ⟨hc, fun a20 ea20 => ?_⟩⟩
    · rw [← e15, hwh]; exact kp
    · rw [← er10, hwh]; exact kp
    · rw [e17] at ea17
      subst ea17
      exact hl
  by_cases e : bit = cl k
  · have e5 : J_X11_writeCoded_j_5 (nI k) (nI bit) lf = 1 := by
      unfold J_X11_writeCoded_j_5
      rw [hkc, hcl k hk, if_pos (by rw [e])]
    by_cases e2 : 32768 ≤ sz - nP (cs k)
    · have hs : sNext st k bit cs cl sz low room c b = ((cs, cl), (sz - nP (cs k), low + nP (cs k), room, c, b)) := by unfold sNext; rw [if_pos e, if_pos e2]
      have n2 : ¬ nI (sz - nP (cs k)) < (32768 : Int32) := nI_nlt (b := 32768) e2 (by omega)
      have e8 : J_X11_writeCoded_j_8 (nI k) (nI sz) mp sf 1 = 1 := by
        unfold J_X11_writeCoded_j_8
        rw [if_neg n10, hkc, hcs k hk, hsc, hmp _ h47, hsub, if_neg n2]
      have e17 : J_X11_writeCoded_j_17 (nI k) (nI c) (nI st) (nI (rLow st c b low room)) (bI (rCar st c b low room)) (nI sz) (nI room) mp sf f 1 1 = (nI (rLow st c b (low + nP (cs k)) room), bI (rCar st c b (low + nP (cs k)) room), nI (sz - nP (cs k))) := by
        unfold J_X11_writeCoded_j_17
        rw [if_neg n10, hkc, hcs k hk, hsc, hmp _ h47, hsub]
        simp only [hwh, kf]
      have e20 : J_X11_writeCoded_j_20 (nI k) mo sf lf 1 1 = (sf, lf) := by unfold J_X11_writeCoded_j_20; rw [if_neg n10]
      obtain ⟨t1, f', t2, t3⟩ := x11_ren st 15 fu (sz - nP (cs k)) (low + nP (cs k)) room c f b (p15 (by omega)) (by omega) (by omega) (by omega) h6 h7 h8 h9 h10 (by omega)
      have hsr : sRen st 15 (sz - nP (cs k)) (low + nP (cs k)) room c b = (sz - nP (cs k), low + nP (cs k), room, c, b) := by rw [sRen, if_pos e2]
      rw [hsr] at t2 t3
      rw [hs]
      refine ⟨pcut e5 e8 e17 (fun x => absurd x n10) t1, f', sf, lf, ?_, t3, hcs, hcl⟩
      rw [cuts e5 e8 e17 e20, t2]
    · have hs : sNext st k bit cs cl sz low room c b = ((sLike cs k, cl), sRen st 15 (shLike low sz (nP (cs k))).2 (shLike low sz (nP (cs k))).1 room c b) := by unfold sNext; rw [if_pos e, if_neg e2]
      have n2 : nI (sz - nP (cs k)) < (32768 : Int32) := nI_lt (b := 32768) (by omega) (by omega)
      have e8 : J_X11_writeCoded_j_8 (nI k) (nI sz) mp sf 1 = 0 := by
        unfold J_X11_writeCoded_j_8
        rw [if_neg n10, hkc, hcs k hk, hsc, hmp _ h47, hsub, if_pos n2]
      have e17 : J_X11_writeCoded_j_17 (nI k) (nI c) (nI st) (nI (rLow st c b low room)) (bI (rCar st c b low room)) (nI sz) (nI room) mp sf f 1 0 = (nI (rLow st c b (shLike low sz (nP (cs k))).1 room), bI (rCar st c b (shLike low sz (nP (cs k))).1 room), nI (shLike low sz (nP (cs k))).2) := by
        unfold J_X11_writeCoded_j_17 J_X11_writeCoded_j_13 shLike
        rw [if_pos rfl, hkc, hcs k hk, hsc, hmp _ h47, hsub]
        by_cases e3 : sz - nP (cs k) < nP (cs k)
        · have e4 : ¬ nI (nP (cs k)) ≤ nI (sz - nP (cs k)) := nI_ge e3 (by omega)
          rw [if_neg e4, if_pos e3]
          rfl
        · have e4 : nI (nP (cs k)) ≤ nI (sz - nP (cs k)) := nI_le (by omega) (by omega)
          rw [if_pos e4, if_neg e3]
          simp only [n10, if_false, hwh, kf]
      obtain ⟨c1, c2, c3⟩ := x11_like (mo := mo) (lf := lf) hcs ho hk
      have e20 : J_X11_writeCoded_j_20 (nI k) mo sf lf 1 0 = ((F_X11_changeContext (nI k) 1 mo sf lf).1, (F_X11_changeContext (nI k) 1 mo sf lf).2) := by unfold J_X11_writeCoded_j_20; rw [if_pos rfl]
      obtain ⟨q1, q2, q3⟩ := shLike_in (low := low) hp.1 hp.2 h3 h4
      obtain ⟨t1, f', t2, t3⟩ := x11_ren st 15 fu (shLike low sz (nP (cs k))).2 (shLike low sz (nP (cs k))).1 room c f b (p15 q1) (by omega) q2 (Nat.le_trans q3 h5) h6 h7 h8 h9 h10 (by omega)
      rw [hs]
      refine ⟨pcut e5 e8 e17 (fun _ => c1) t1, f', _, lf, ?_, t3, c2, hcl⟩
      rw [cuts e5 e8 e17 e20, t2, c3]
  · have e5 : J_X11_writeCoded_j_5 (nI k) (nI bit) lf = 0 := by
      unfold J_X11_writeCoded_j_5
      have e1 : ¬ nI bit = nI (cl k) := fun x => e ((nI_eq (by omega) (by omega)).mp x)
      rw [hkc, hcl k hk, if_neg e1]
    have hs : sNext st k bit cs cl sz low room c b = ((sOth cs k, sFlip cs cl k), sRen st 15 (shOth low sz (nP (cs k))).2 (shOth low sz (nP (cs k))).1 room c b) := by unfold sNext; rw [if_neg e]
    have e8 : J_X11_writeCoded_j_8 (nI k) (nI sz) mp sf 0 = 0 := by
      unfold J_X11_writeCoded_j_8
      rw [if_pos rfl]
    have e17 : J_X11_writeCoded_j_17 (nI k) (nI c) (nI st) (nI (rLow st c b low room)) (bI (rCar st c b low room)) (nI sz) (nI room) mp sf f 0 0 = (nI (rLow st c b (shOth low sz (nP (cs k))).1 room), bI (rCar st c b (shOth low sz (nP (cs k))).1 room), nI (shOth low sz (nP (cs k))).2) := by
      unfold J_X11_writeCoded_j_17 J_X11_writeCoded_j_13 shOth
      rw [if_pos rfl, hkc, hcs k hk, hsc, hmp _ h47, hsub]
      by_cases e3 : sz - nP (cs k) < nP (cs k)
      · have e4 : ¬ nI (nP (cs k)) ≤ nI (sz - nP (cs k)) := nI_ge e3 (by omega)
        rw [if_neg e4, if_pos e3]
        simp only [n01, if_false, hwh, kf]
      · have e4 : nI (nP (cs k)) ≤ nI (sz - nP (cs k)) := nI_le (by omega) (by omega)
        rw [if_pos e4, if_neg e3]
        rfl
    obtain ⟨c1, c2, c3⟩ := x11_oth hmo hcs hcl ho hk
    have e20 : J_X11_writeCoded_j_20 (nI k) mo sf lf 0 0 = ((F_X11_changeContext (nI k) 0 mo sf lf).1, (F_X11_changeContext (nI k) 0 mo sf lf).2) := by unfold J_X11_writeCoded_j_20; rw [if_pos rfl]
    obtain ⟨q1, q2, q3⟩ := shOth_in (low := low) hp.1 hp.2 h3 h4
    obtain ⟨t1, f', t2, t3⟩ := x11_ren st 15 fu (shOth low sz (nP (cs k))).2 (shOth low sz (nP (cs k))).1 room c f b (p15 q1) (by omega) q2 (Nat.le_trans q3 h5) h6 h7 h8 h9 h10 (by omega)
    rw [hs]
    refine ⟨pcut e5 e8 e17 (fun _ => c1) t1, f', _, _, ?_, t3, c2, c3⟩
    rw [cuts e5 e8 e17 e20, t2]

/-! ===== PURE: write ===== -/
theorem sta_T (sty : Int32) (T : Nat) : staB sty T T = true := by
  unfold staB endB
  by_cases c : T = 0
  · rw [decide_eq_true c]; rfl
  · rw [decide_eq_true (show T - 1 + 1 = T by omega), Bool.true_or, Bool.or_true]
theorem nT0 (b : EnvB) : nT b (fun _ => 0) (fun _ => 0) 0 = 0 := by
  have h : ∀ n, sumN (fun _ => 0) n = 0 := fun n => by
    have := sumN_le (f := fun _ => 0) (B := 0) n (fun _ _ => Nat.le_refl _)
    omega
  unfold nT
  rw [h, h]
theorem ch0 (b : EnvB) : ChW b 0 g0 (fun _ => 0) (fun _ => 0) := ⟨fun _ _ _ _ => Nat.zero_le _, fun _ _ => Nat.zero_le _⟩
theorem pw30 {P : Nat} (hP : P < 32) : (if 0 < psN P then pW P 0 else 0) ≤ 30 := by
  unfold pW plN kdN
  split
  · rw [if_neg (by decide)]; omega
  · omega
theorem k_write {x : XS} {y : YS} (h : OR x y) : (P_X10_write x.c.bn x.c.bf 19 x.c.sf 19 x.c.lf x.c.low x.c.size x.c.room x.c.free x.c.place x.c.cend x.c.window x.c.csize x.c.croom x.c.rplace x.c.rend x.c.cur x.c.left x.wide x.high x.band x.causal x.cn x.coef x.gn x.mags x.kn x.marks 91 x.rch 91 x.gns x.less x.bk x.rw x.pl x.sty) ∧ (P_X11_write y.wide y.high y.band y.sty y.plane y.raw y.fl y.m.begin y.m.low y.m.carried y.m.span y.m.room y.m.place y.m.limit y.m.next y.m.last y.m.upper 47 y.mp 47 y.mo 4096 y.mag 4096 y.min 96 y.rch 96 y.gns 96 y.mso 96 y.mbg 96 y.mln 4096 y.known 4096 y.below 4096 y.latest 4096 y.early 4096 y.again 19 y.m.sf 19 y.m.lf 65536 y.m.bf) ∧ OR (x.of_write (F_X10_write x.c.bn x.c.bf 19 x.c.sf 19 x.c.lf x.c.low x.c.size x.c.room x.c.free x.c.place x.c.cend x.c.window x.c.csize x.c.croom x.c.rplace x.c.rend x.c.cur x.c.left x.wide x.high x.band x.causal x.coef x.gn x.mags x.kn x.marks x.rch x.gns x.less x.bk x.rw x.pl x.sty)) (y.of_write (F_X11_write y.wide y.high y.band y.sty y.plane y.raw y.fl y.m.begin y.m.low y.m.carried y.m.span y.m.room y.m.place y.m.limit y.m.next y.m.last y.m.upper y.mp y.mo y.mag y.min y.rch y.gns y.mso y.mbg y.mln y.known y.below y.latest y.early y.again y.m.sf y.m.lf y.m.bf)) ∧ (D_X10_write x.c.bn x.c.bf 19 x.c.sf 19 x.c.lf x.c.low x.c.size x.c.room x.c.free x.c.place x.c.cend x.c.window x.c.csize x.c.croom x.c.rplace x.c.rend x.c.cur x.c.left x.wide x.high x.band x.causal x.coef x.gn x.mags x.kn x.marks x.rch x.gns x.less x.bk x.rw x.pl x.sty) + mu x ≤ mu (x.of_write (F_X10_write x.c.bn x.c.bf 19 x.c.sf 19 x.c.lf x.c.low x.c.size x.c.room x.c.free x.c.place x.c.cend x.c.window x.c.csize x.c.croom x.c.rplace x.c.rend x.c.cur x.c.left x.wide x.high x.band x.causal x.coef x.gn x.mags x.kn x.marks x.rch x.gns x.less x.bk x.rw x.pl x.sty)) ∧ (F_X10_write x.c.bn x.c.bf 19 x.c.sf 19 x.c.lf x.c.low x.c.size x.c.room x.c.free x.c.place x.c.cend x.c.window x.c.csize x.c.croom x.c.rplace x.c.rend x.c.cur x.c.left x.wide x.high x.band x.causal x.coef x.gn x.mags x.kn x.marks x.rch x.gns x.less x.bk x.rw x.pl x.sty).1 = (F_X11_write y.wide y.high y.band y.sty y.plane y.raw y.fl y.m.begin y.m.low y.m.carried y.m.span y.m.room y.m.place y.m.limit y.m.next y.m.last y.m.upper y.mp y.mo y.mag y.min y.rch y.gns y.mso y.mbg y.mln y.known y.below y.latest y.early y.again y.m.sf y.m.lf y.m.bf).1 := by
  obtain ⟨e, w, r, ok, L, ⟨hb1, hb2, hbk, hrw, hmr⟩, ⟨w1, w2, w3, w4⟩, hw, hr⟩ := h
  obtain ⟨l1, l2, l3, l4, l5, l6, l7, l8, l9, l10, l11, l12, l13, l14, l15, l16, l17, l18, l19⟩ := L
  have hfu := fu_ge
  obtain ⟨P, hP, pp1, pp2, pp3, pp4⟩ := planes_ok ok
  obtain ⟨ps1, ps2, ps3, ps4⟩ := psN_ok hP
  obtain ⟨f1, f2, mags0, marks0, known0, below0, latest0, early0, again0, f3, f4, f5⟩ := fresh ok (pw30 hP) x.mags x.marks y.known y.below y.latest y.early y.again
  obtain ⟨s1, s2, s3⟩ := restart_ok (n1 := 19) (n2 := 19) rfl rfl x.c.sf x.c.lf
  obtain ⟨u1, u2, u3⟩ := reset_ok y.m.sf y.m.lf
  obtain ⟨cl1, bn', bf', cl2, cl3, cl4, cl5, cl6⟩ := clear_ok (bf := x.c.bf) ok.W64 ok.H64 hP ps4 hb1 hb2
  obtain ⟨er1, er2⟩ := err_ok ok f5
  have hW0 : WRel e P (psN P) 0 0 0 0 g0 (fun _ => 0) (fun _ => 0) (fun _ => 0) (fun _ => 0) ((0, 0, bn', bf', (F_X4_restart 19 x.c.sf 19 x.c.lf).1, (F_X4_restart 19 x.c.sf 19 x.c.lf).2, x.c.low, x.c.size, x.c.room, x.c.free, x.c.place, x.c.cend, x.c.window, x.c.csize, x.c.croom, x.c.rplace, x.c.rend, x.c.cur, x.c.left) : CS) ((0, y.m.begin, y.m.low, y.m.carried, y.m.span, y.m.room, y.m.place, y.m.limit, y.m.next, y.m.last, y.m.upper, (F_X11_resetContexts y.m.sf y.m.lf).1, (F_X11_resetContexts y.m.sf y.m.lf).2, y.m.bf) : MS) mags0 marks0 known0 below0 latest0 early0 again0 x.rch y.rch y.mso y.mbg y.mln 0 0 0 x.gns y.gns (errS e g0) := by
    refine ⟨Nat.zero_le _, fun _ => ⟨⟨c0N, fun _ => 0, fun _ => 0, ⟨c0_eq s2, l0_eq s3, c0_eq u2, l0_eq u3, c0_ok, rfl, ⟨Nat.zero_le _, cl3, cl4, fun j hj => absurd hj (by omega)⟩, rfl, fun j hj => absurd hj (by omega), fun j hj => absurd hj (by omega), by omega⟩, ?_⟩, rfl, rfl⟩, fun z => ?_, by omega, f5, ch0 e, rfl, Nat.le_refl _, fun j hj => absurd hj (by omega), fun j _ hj => absurd hj (by omega), ?_, rfl, rfl, rfl, fun j hj => absurd hj (by omega)⟩
    · rw [phi_c0]; omega
    · have : staB e.sty (psN P) 0 = true := rfl
      rw [this] at z; cases z
    · exact ⟨fun j hj => absurd hj (by omega), fun j hj => absurd hj (by omega), fun j hj => absurd hj (by omega), fun j hj => absurd hj (by omega), fun j hj => absurd hj (by omega), fun j hj => absurd hj (by omega), fun j hj => absurd hj (by omega), fun j hj => absurd hj (by omega), fun hj => absurd hj (by omega)⟩
  obtain ⟨M', f0', st', G', g', gc', rc', sb', cN, mN, mags', marks', known', below', latest', early', again', rch', mrch', mso', mbg', mln', seg', mseg', fst', fl', mfl', rw', pl', mp', mr', bk', ls', gns', mgns', bef', t1, t2, t3, t4, t5, t6, t7, t8⟩ := w_all ok hP ps3 (psN P) 0 fu fu 0 0 0 g0 (fun _ => 0) (fun _ => 0) (fun _ => 0) (fun _ => 0) _ _ mags0 marks0 known0 below0 latest0 early0 again0 x.rch y.rch y.mso y.mbg y.mln 0 0 0 0 y.fl x.rw x.pl y.plane y.raw x.bk x.less x.gns y.gns (errS e g0) (by omega) (by omega) (by omega) hbk hrw hmr hW0
  have t1' : (L_X10_write_j_6 19 19 x.c.cend x.c.rend (nI e.W) (nI e.H) (nI e.band) (bI (czOf e.sty)) e.coef e.sty (nI P, nI (psN P), 0, e.sty, 0) fu 0 0 0 bn' bf' ((F_X4_restart 19 x.c.sf 19 x.c.lf).1) ((F_X4_restart 19 x.c.sf 19 x.c.lf).2) x.c.low x.c.size x.c.room x.c.free x.c.place x.c.window x.c.csize x.c.croom x.c.rplace x.c.cur x.c.left mags0 marks0 0 0 x.rch x.gns x.less 0 x.bk x.rw x.pl) = (nI (psN P), cN.count, cN.start, cN.bn, cN.bf, cN.sf, cN.lf, cN.low, cN.size, cN.room, cN.free, cN.place, cN.window, cN.csize, cN.croom, cN.rplace, cN.cur, cN.left, mags', marks', seg', fst', rch', gns', ls', fl', bk', rw', pl') := t1
  have t2' : (PL_X10_write_j_6 19 19 x.c.cend x.c.rend (nI e.W) (nI e.H) (nI e.band) (bI (czOf e.sty)) e.cn e.coef e.gn e.kn 91 91 e.sty (nI P, nI (psN P), 0, e.sty, 0) fu 0 0 0 bn' bf' ((F_X4_restart 19 x.c.sf 19 x.c.lf).1) ((F_X4_restart 19 x.c.sf 19 x.c.lf).2) x.c.low x.c.size x.c.room x.c.free x.c.place x.c.window x.c.csize x.c.croom x.c.rplace x.c.cur x.c.left mags0 marks0 0 0 x.rch x.gns x.less 0 x.bk x.rw x.pl) := t2
  have t3' : (DL_X10_write_j_6 19 19 x.c.cend x.c.rend (nI e.W) (nI e.H) (nI e.band) (bI (czOf e.sty)) e.coef e.sty (nI P, nI (psN P), 0, e.sty, 0) fu 0 0 0 bn' bf' ((F_X4_restart 19 x.c.sf 19 x.c.lf).1) ((F_X4_restart 19 x.c.sf 19 x.c.lf).2) x.c.low x.c.size x.c.room x.c.free x.c.place x.c.window x.c.csize x.c.croom x.c.rplace x.c.cur x.c.left mags0 marks0 0 0 x.rch x.gns x.less 0 x.bk x.rw x.pl) + 3 * bn' ≤ 3 * cN.bn := t3
  have t4' : (L_X11_write_j_5 (nI e.W) (nI e.H) (nI e.band) e.sty y.m.place y.m.limit e.mp e.mo e.mag e.min (nI P, nI (psN P)) fu (errS e g0) 0 0 y.plane y.raw y.fl 0 y.m.begin y.m.low y.m.carried y.m.span y.m.room y.m.next y.m.last y.m.upper y.rch y.gns y.mso y.mbg y.mln known0 below0 latest0 early0 again0 ((F_X11_resetContexts y.m.sf y.m.lf).1) ((F_X11_resetContexts y.m.sf y.m.lf).2) y.m.bf) = (bef', nI (psN P), mseg', mp', mr', mfl', mN.size, mN.begin, mN.low, mN.carried, mN.span, mN.room, mN.next, mN.last, mN.upper, mrch', mgns', mso', mbg', mln', known', below', latest', early', again', mN.sf, mN.lf, mN.bf) := t4
  have t5' : (PL_X11_write_j_5 (nI e.W) (nI e.H) (nI e.band) e.sty y.m.place y.m.limit 47 e.mp 47 e.mo 4096 e.mag 4096 e.min 96 96 96 96 96 4096 4096 4096 4096 4096 19 19 65536 (nI P, nI (psN P)) fu (errS e g0) 0 0 y.plane y.raw y.fl 0 y.m.begin y.m.low y.m.carried y.m.span y.m.room y.m.next y.m.last y.m.upper y.rch y.gns y.mso y.mbg y.mln known0 below0 latest0 early0 again0 ((F_X11_resetContexts y.m.sf y.m.lf).1) ((F_X11_resetContexts y.m.sf y.m.lf).2) y.m.bf) := t5
  clear t1 t2 t3 t4 t5
  have hso : F_X10_startOver 19 x.c.sf 19 x.c.lf e.gn x.mags e.kn x.marks = ((F_X4_restart 19 x.c.sf 19 x.c.lf).1, (F_X4_restart 19 x.c.sf 19 x.c.lf).2, mags0, marks0, 0) := by
    unfold F_X10_startOver
    simp only [f3]
  have hlay : F_X6_lay e.sty (nI P) = (nI P, nI (psN P), 0, e.sty, 0) := by
    unfold F_X6_lay
    simp only [ps1]
  have hF : (F_X10_write x.c.bn x.c.bf 19 x.c.sf 19 x.c.lf x.c.low x.c.size x.c.room x.c.free x.c.place x.c.cend x.c.window x.c.csize x.c.croom x.c.rplace x.c.rend x.c.cur x.c.left x.wide x.high x.band x.causal x.coef x.gn x.mags x.kn x.marks x.rch x.gns x.less x.bk x.rw x.pl x.sty) = (nI (psN P), cN.count, cN.start, cN.bn, cN.bf, cN.sf, cN.lf, cN.low, cN.size, cN.room, cN.free, cN.place, cN.window, cN.csize, cN.croom, cN.rplace, cN.cur, cN.left, mags', marks', nI P, nI (psN P), seg', e.sty, fst', rch', gns', ls', fl', bk', rw', pl', 1, 0) := by
    rw [l1, l2, l3, l4, l6, l7, l8, l9]
    unfold F_X10_write
    simp only [hso, pp2, hlay, cl2, t1']
  have hF1 : (F_X11_write y.wide y.high y.band y.sty y.plane y.raw y.fl y.m.begin y.m.low y.m.carried y.m.span y.m.room y.m.place y.m.limit y.m.next y.m.last y.m.upper y.mp y.mo y.mag y.min y.rch y.gns y.mso y.mbg y.mln y.known y.below y.latest y.early y.again y.m.sf y.m.lf y.m.bf) = (nI (psN P), 0, 1, 0, nI P, nI (psN P), mseg', 1, mp', mr', mfl', mN.size, mN.begin, mN.low, mN.carried, mN.span, mN.room, mN.next, mN.last, mN.upper, mrch', mgns', mso', mbg', mln', known', below', latest', early', again', mN.sf, mN.lf, mN.bf) := by
    rw [l10, l11, l12, l13, l14, l15, l16, l17]
    unfold F_X11_write
    simp only [pp4, f4, er2, t4']
  have hP10 : (P_X10_write x.c.bn x.c.bf 19 x.c.sf 19 x.c.lf x.c.low x.c.size x.c.room x.c.free x.c.place x.c.cend x.c.window x.c.csize x.c.croom x.c.rplace x.c.rend x.c.cur x.c.left x.wide x.high x.band x.causal x.cn x.coef x.gn x.mags x.kn x.marks 91 x.rch 91 x.gns x.less x.bk x.rw x.pl x.sty) := by
    rw [l1, l2, l3, l4, l5, l6, l7, l8, l9]
    refine ⟨⟨f1, fun _ _ => s1⟩, fun r1 e1 => ⟨pp1, fun r2 e2 r3 e3 => ?_⟩⟩
    rw [hso] at e1
    subst e1
    rw [pp2] at e2
    subst e2
    rw [hlay] at e3
    subst e3
    refine ⟨cl1, fun r4 e4 => ?_⟩
    have e4' : F_X1_clear (nI e.W * nI e.H) (nI P) (nI (psN P)) x.c.bn x.c.bf = r4 := e4
    rw [cl2] at e4'
    subst e4'
    exact t2'
  have hP11 : (P_X11_write y.wide y.high y.band y.sty y.plane y.raw y.fl y.m.begin y.m.low y.m.carried y.m.span y.m.room y.m.place y.m.limit y.m.next y.m.last y.m.upper 47 y.mp 47 y.mo 4096 y.mag 4096 y.min 96 y.rch 96 y.gns 96 y.mso 96 y.mbg 96 y.mln 4096 y.known 4096 y.below 4096 y.latest 4096 y.early 4096 y.again 19 y.m.sf 19 y.m.lf 65536 y.m.bf) := by
    rw [l10, l11, l12, l13, l14, l15, l16, l17]
    refine ⟨pp3, fun r1 e1 => ⟨f2, fun r2 e2 => ⟨u1, fun r3 e3 => ?_⟩⟩⟩
    rw [pp4] at e1
    subst e1
    rw [f4] at e2
    subst e2
    subst e3
    refine ⟨er1, fun r4 e4 => ?_⟩
    rw [er2] at e4
    subst e4
    exact t5'
  have hD : (D_X10_write x.c.bn x.c.bf 19 x.c.sf 19 x.c.lf x.c.low x.c.size x.c.room x.c.free x.c.place x.c.cend x.c.window x.c.csize x.c.croom x.c.rplace x.c.rend x.c.cur x.c.left x.wide x.high x.band x.causal x.coef x.gn x.mags x.kn x.marks x.rch x.gns x.less x.bk x.rw x.pl x.sty) + 3 * x.c.bn ≤ 3 * cN.bn := by
    rw [l1, l2, l3, l4, l6, l7, l8, l9]
    unfold D_X10_write
    simp only [hso, pp2, hlay, cl2, Nat.add_zero]
    omega
  obtain ⟨h1, h2, h3, h4, h5, h6, h7, h8, h9, h10, h11, h12, h13, h14, h15⟩ := t8
  obtain ⟨⟨cs, cl, bb, tie, -⟩, q1, q2⟩ := h2 (sta_T _ _)
  refine ⟨hP10, hP11, ?_, ?_, ?_⟩
  · rw [hF, hF1]
    refine ⟨e, true, false, ok, ⟨l1, l2, l3, l4, l5, l6, l7, l8, l9, l10, l11, l12, l13, l14, l15, l16, l17, l18, l19⟩, ⟨tie.row.2.1, tie.row.2.2.1, t7.1, t7.2.1, t7.2.2⟩, ⟨rfl, rfl, rfl, rfl⟩, fun _ => ⟨P, psN P, st', rc', sb', bb, hP, ps3, ⟨rfl, rfl, rfl, rfl, rfl⟩, ⟨tie.cnt, tie.row, tie.siz, tie.mb, tie.by8, tie.top⟩, h11, fun j hj => h9 j (by omega), ?_, h15⟩, fun z => by cases z⟩
    show seg' = mseg'
    rw [h12, h13]
  · rw [hF]
    show _ + (3 * x.c.bn + fiN x.cn) ≤ 3 * cN.bn + fiN x.cn
    omega
  · rw [hF, hF1]

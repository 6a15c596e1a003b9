/-! ===== PURE: read ===== -/
theorem k_read {x : XS} {y : YS} (p1 : Int32) (h : OR x y) : (P_X11_read p1 y.wide y.high y.band y.sty y.wr y.planes y.passes y.plane y.raw y.m.size y.m.begin y.m.low y.m.carried y.m.span y.m.room y.m.place y.m.limit y.m.next y.m.last y.m.upper 47 y.mp 47 y.mo 4096 y.mag 4096 y.min 96 y.rch 96 y.mso 96 y.mbg 96 y.mln 4096 y.known 4096 y.below 4096 y.latest 4096 y.early 4096 y.again 19 y.m.sf 19 y.m.lf 65536 y.m.bf) ∧ ((T_read p1 x.passes x.wr = 0 ∧ (P_X10_read p1 x.c.count x.c.start x.c.bn x.c.bf 19 x.c.sf 19 x.c.lf x.c.low x.c.size x.c.room x.c.free x.c.place x.c.cend x.c.window x.c.csize x.c.croom x.c.rplace x.c.rend x.c.cur x.c.left x.wide x.high x.band x.causal x.cn x.coef x.gn x.mags x.kn x.marks x.planes x.passes x.psty 91 x.rch x.less x.bk x.rw x.pl x.sty x.wr) ∧ (D_X10_read p1 x.c.count x.c.start x.c.bn x.c.bf 19 x.c.sf 19 x.c.lf x.c.low x.c.size x.c.room x.c.free x.c.place x.c.cend x.c.window x.c.csize x.c.croom x.c.rplace x.c.rend x.c.cur x.c.left x.wide x.high x.band x.causal x.coef x.gn x.mags x.kn x.marks x.planes x.passes x.psty x.rch x.less x.bk x.rw x.pl x.sty) = 0 ∧ (F_X11_read p1 y.wide y.high y.band y.sty y.wr y.rd y.planes y.passes y.wri y.plane y.raw y.fl y.m.size y.m.begin y.m.low y.m.carried y.m.span y.m.room y.m.place y.m.limit y.m.next y.m.last y.m.upper y.mp y.mo y.mag y.min y.rch y.mso y.mbg y.mln y.known y.below y.latest y.early y.again y.m.sf y.m.lf y.m.bf).2.1 = 0 ∧ (F_X10_read p1 x.c.count x.c.start x.c.bn x.c.bf 19 x.c.sf 19 x.c.lf x.c.low x.c.size x.c.room x.c.free x.c.place x.c.cend x.c.window x.c.csize x.c.croom x.c.rplace x.c.rend x.c.cur x.c.left x.wide x.high x.band x.causal x.coef x.gn x.mags x.kn x.marks x.planes x.passes x.psty x.rch x.less x.bk x.rw x.pl x.sty).1 = (F_X11_read p1 y.wide y.high y.band y.sty y.wr y.rd y.planes y.passes y.wri y.plane y.raw y.fl y.m.size y.m.begin y.m.low y.m.carried y.m.span y.m.room y.m.place y.m.limit y.m.next y.m.last y.m.upper y.mp y.mo y.mag y.min y.rch y.mso y.mbg y.mln y.known y.below y.latest y.early y.again y.m.sf y.m.lf y.m.bf).1 ∧ OR (x.of_read (F_X10_read p1 x.c.count x.c.start x.c.bn x.c.bf 19 x.c.sf 19 x.c.lf x.c.low x.c.size x.c.room x.c.free x.c.place x.c.cend x.c.window x.c.csize x.c.croom x.c.rplace x.c.rend x.c.cur x.c.left x.wide x.high x.band x.causal x.coef x.gn x.mags x.kn x.marks x.planes x.passes x.psty x.rch x.less x.bk x.rw x.pl x.sty)) (y.of_read (F_X11_read p1 y.wide y.high y.band y.sty y.wr y.rd y.planes y.passes y.wri y.plane y.raw y.fl y.m.size y.m.begin y.m.low y.m.carried y.m.span y.m.room y.m.place y.m.limit y.m.next y.m.last y.m.upper y.mp y.mo y.mag y.min y.rch y.mso y.mbg y.mln y.known y.below y.latest y.early y.again y.m.sf y.m.lf y.m.bf)) ∧ mu (x.of_read (F_X10_read p1 x.c.count x.c.start x.c.bn x.c.bf 19 x.c.sf 19 x.c.lf x.c.low x.c.size x.c.room x.c.free x.c.place x.c.cend x.c.window x.c.csize x.c.croom x.c.rplace x.c.rend x.c.cur x.c.left x.wide x.high x.band x.causal x.coef x.gn x.mags x.kn x.marks x.planes x.passes x.psty x.rch x.less x.bk x.rw x.pl x.sty)) = mu x) ∨ (T_read p1 x.passes x.wr = 1 ∧ (F_X11_read p1 y.wide y.high y.band y.sty y.wr y.rd y.planes y.passes y.wri y.plane y.raw y.fl y.m.size y.m.begin y.m.low y.m.carried y.m.span y.m.room y.m.place y.m.limit y.m.next y.m.last y.m.upper y.mp y.mo y.mag y.min y.rch y.mso y.mbg y.mln y.known y.below y.latest y.early y.again y.m.sf y.m.lf y.m.bf).2.1 = 1 ∧ OR x (y.of_read (F_X11_read p1 y.wide y.high y.band y.sty y.wr y.rd y.planes y.passes y.wri y.plane y.raw y.fl y.m.size y.m.begin y.m.low y.m.carried y.m.span y.m.room y.m.place y.m.limit y.m.next y.m.last y.m.upper y.mp y.mo y.mag y.min y.rch y.mso y.mbg y.mln y.known y.below y.latest y.early y.again y.m.sf y.m.lf y.m.bf))) ∨ (T_read p1 x.passes x.wr = 3 ∧ (F_X11_read p1 y.wide y.high y.band y.sty y.wr y.rd y.planes y.passes y.wri y.plane y.raw y.fl y.m.size y.m.begin y.m.low y.m.carried y.m.span y.m.room y.m.place y.m.limit y.m.next y.m.last y.m.upper y.mp y.mo y.mag y.min y.rch y.mso y.mbg y.mln y.known y.below y.latest y.early y.again y.m.sf y.m.lf y.m.bf).2.1 = 2 ∧ OR x (y.of_read (F_X11_read p1 y.wide y.high y.band y.sty y.wr y.rd y.planes y.passes y.wri y.plane y.raw y.fl y.m.size y.m.begin y.m.low y.m.carried y.m.span y.m.room y.m.place y.m.limit y.m.next y.m.last y.m.upper y.mp y.mo y.mag y.min y.rch y.mso y.mbg y.mln y.known y.below y.latest y.early y.again y.m.sf y.m.lf y.m.bf)))) := by
  have hOR := h
  obtain ⟨e, w, r, ok, L, ⟨hb1, hb2, hbk, hrw, hmr⟩, ⟨w1, w2, w3, w4⟩, hw, hr⟩ := h
  obtain ⟨l1, l2, l3, l4, l5, l6, l7, l8, l9, l10, l11, l12, l13, l14, l15, l16, l17, l18, l19⟩ := L
  have hfu := fu_ge
  by_cases c : bI w = 0
  · have e1 : J_X11_read_j_2 y.wr = 1 := by unfold J_X11_read_j_2; rw [w2, if_pos c]
    have hF1 : (F_X11_read p1 y.wide y.high y.band y.sty y.wr y.rd y.planes y.passes y.wri y.plane y.raw y.fl y.m.size y.m.begin y.m.low y.m.carried y.m.span y.m.room y.m.place y.m.limit y.m.next y.m.last y.m.upper y.mp y.mo y.mag y.min y.rch y.mso y.mbg y.mln y.known y.below y.latest y.early y.again y.m.sf y.m.lf y.m.bf) = (0, 1, y.rd, y.wri, y.plane, y.raw, y.fl, y.m.size, y.m.low, y.m.carried, y.m.span, y.m.room, y.m.place, y.m.limit, y.m.next, y.m.last, y.m.upper, y.known, y.below, y.latest, y.early, y.again, y.m.sf, y.m.lf, y.m.bf) := by
      unfold F_X11_read
      simp only [e1, thr1]
      rfl
    refine ⟨?_, Or.inr (Or.inl ⟨?_, ?_, ?_⟩)⟩
    · intro j2 ej r3 e3 r4 e4 z
      rw [e1] at ej
      subst ej
      rw [thr1] at e4
      subst e4
      exact absurd z (by decide)
    · unfold T_read; rw [w1, if_pos c]
    · rw [hF1]
    · rw [hF1]; exact hOR
  · obtain ⟨P, T, N, rc, sb, bb, a1, a2, ⟨b1, b2, b3, b4, b5⟩, ⟨d1, d2, d3, d4, d5, d6⟩, a5, a6, a7, a8⟩ := hw (bI_ne c)
    have e1 : J_X11_read_j_2 y.wr = 0 := by unfold J_X11_read_j_2; rw [w2, if_neg c]
    have hT91 : T ≤ 91 := by omega
    by_cases cn : ∃ n, n ≤ T ∧ p1 = nI n
    · obtain ⟨n, hn, rfl⟩ := cn
      have q1 : ¬ nI n < 0 := nI_pos (by omega)
      have q2 : nI n ≤ nI T := nI_le hn (by omega)
      have o1 : F_X11_out (nI n) 0 (nI T) = 0 := out_in q1 q2
      have hps : (if 0 < T then pW P 0 else 0) ≤ 30 := by
        unfold pW plN kdN
        split
        · rw [if_neg (by decide)]; omega
        · omega
      obtain ⟨f1, f2, mags0, marks0, known0, below0, latest0, early0, again0, f3, f4, f5⟩ := fresh ok hps x.mags x.marks y.known y.below y.latest y.early y.again
      obtain ⟨s1, s2, s3⟩ := restart_ok (n1 := 19) (n2 := 19) rfl rfl x.c.sf x.c.lf
      obtain ⟨u1, u2, u3⟩ := reset_ok y.m.sf y.m.lf
      have hR0 : RRel e P T 0 0 N g0 (fun _ => 0) (fun _ => 0) (x.c.ctx (F_X4_restart 19 x.c.sf 19 x.c.lf).1 (F_X4_restart 19 x.c.sf 19 x.c.lf).2) (y.m.ctx (F_X11_resetContexts y.m.sf y.m.lf).1 (F_X11_resetContexts y.m.sf y.m.lf).2) mags0 marks0 known0 below0 latest0 early0 again0 := by
        refine ⟨Nat.zero_le _, fun _ => ⟨c0N, fun _ => 0, bb, c0_eq s2, l0_eq s3, c0_eq u2, l0_eq u3, c0_ok, d1, d2, d3, d4, d5, d6⟩, fun z => ?_, d1, d6, f5, ch0 e⟩
        have : staB e.sty T 0 = true := rfl
        rw [this] at z; cases z
      obtain ⟨M', G', g', gc', cN, mN, mags', marks', known', below', latest', early', again', fl', mfl', rw', pl', mp', mr', bk', ls', t1, t2, t3, t4, t5, t6, t7, t8⟩ := r_all ok a1 a2 hn a5 a6 n 0 fu fu 0 g0 (fun _ => 0) (fun _ => 0) _ _ mags0 marks0 known0 below0 latest0 early0 again0 0 0 x.rw x.pl y.plane y.raw x.bk x.less (by omega) (by omega) (by omega) hbk hrw hmr rfl hR0
      have t1' : (L_X10_read_j_5 (nI n) x.c.start 19 19 (nI e.W) (nI e.H) (nI e.band) (bI (czOf e.sty)) e.coef (nI P) (nI T) e.sty x.rch e.sty fu 0 x.c.count x.c.bn x.c.bf ((F_X4_restart 19 x.c.sf 19 x.c.lf).1) ((F_X4_restart 19 x.c.sf 19 x.c.lf).2) x.c.low x.c.size x.c.room x.c.free x.c.place x.c.cend x.c.window x.c.csize x.c.croom x.c.rplace x.c.rend x.c.cur x.c.left mags0 marks0 x.less 0 x.bk x.rw x.pl) = (nI n, cN.count, cN.bn, cN.bf, cN.sf, cN.lf, cN.low, cN.size, cN.room, cN.free, cN.place, cN.cend, cN.window, cN.csize, cN.croom, cN.rplace, cN.rend, cN.cur, cN.left, mags', marks', ls', fl', bk', rw', pl') := t1
      have t2' : (PL_X10_read_j_5 (nI n) x.c.start 19 19 (nI e.W) (nI e.H) (nI e.band) (bI (czOf e.sty)) e.cn e.coef e.gn e.kn (nI P) (nI T) e.sty 91 x.rch e.sty fu 0 x.c.count x.c.bn x.c.bf ((F_X4_restart 19 x.c.sf 19 x.c.lf).1) ((F_X4_restart 19 x.c.sf 19 x.c.lf).2) x.c.low x.c.size x.c.room x.c.free x.c.place x.c.cend x.c.window x.c.csize x.c.croom x.c.rplace x.c.rend x.c.cur x.c.left mags0 marks0 x.less 0 x.bk x.rw x.pl) := t2
      have t3' : (DL_X10_read_j_5 (nI n) x.c.start 19 19 (nI e.W) (nI e.H) (nI e.band) (bI (czOf e.sty)) e.coef (nI P) (nI T) e.sty x.rch e.sty fu 0 x.c.count x.c.bn x.c.bf ((F_X4_restart 19 x.c.sf 19 x.c.lf).1) ((F_X4_restart 19 x.c.sf 19 x.c.lf).2) x.c.low x.c.size x.c.room x.c.free x.c.place x.c.cend x.c.window x.c.csize x.c.croom x.c.rplace x.c.rend x.c.cur x.c.left mags0 marks0 x.less 0 x.bk x.rw x.pl) = 0 := t3
      have t4' : (L_X11_read_j_8 (nI n) (nI e.W) (nI e.H) (nI e.band) e.sty (nI P) (nI T) y.m.begin e.mp e.mo e.mag e.min y.rch y.mso y.mbg y.mln fu 0 y.plane y.raw 0 y.m.size y.m.low y.m.carried y.m.span y.m.room y.m.place y.m.limit y.m.next y.m.last y.m.upper known0 below0 latest0 early0 again0 ((F_X11_resetContexts y.m.sf y.m.lf).1) ((F_X11_resetContexts y.m.sf y.m.lf).2) y.m.bf) = (nI n, mp', mr', mfl', mN.size, mN.low, mN.carried, mN.span, mN.room, mN.place, mN.limit, mN.next, mN.last, mN.upper, known', below', latest', early', again', mN.sf, mN.lf, mN.bf) := t4
      have t5' : (PL_X11_read_j_8 (nI n) (nI e.W) (nI e.H) (nI e.band) e.sty (nI P) (nI T) y.m.begin 47 e.mp 47 e.mo 4096 e.mag 4096 e.min 96 y.rch 96 y.mso 96 y.mbg 96 y.mln 4096 4096 4096 4096 4096 19 19 65536 fu 0 y.plane y.raw 0 y.m.size y.m.low y.m.carried y.m.span y.m.room y.m.place y.m.limit y.m.next y.m.last y.m.upper known0 below0 latest0 early0 again0 ((F_X11_resetContexts y.m.sf y.m.lf).1) ((F_X11_resetContexts y.m.sf y.m.lf).2) y.m.bf) := t5
      clear t1 t2 t3 t4 t5
      obtain ⟨v1, v2, v3, v4, v5, v6, v7⟩ := t6
      have hso : F_X10_startOver 19 x.c.sf 19 x.c.lf e.gn x.mags e.kn x.marks = ((F_X4_restart 19 x.c.sf 19 x.c.lf).1, (F_X4_restart 19 x.c.sf 19 x.c.lf).2, mags0, marks0, 0) := by
        unfold F_X10_startOver
        simp only [f3]
      have hF : (F_X10_read (nI n) x.c.count x.c.start x.c.bn x.c.bf 19 x.c.sf 19 x.c.lf x.c.low x.c.size x.c.room x.c.free x.c.place x.c.cend x.c.window x.c.csize x.c.croom x.c.rplace x.c.rend x.c.cur x.c.left x.wide x.high x.band x.causal x.coef x.gn x.mags x.kn x.marks x.planes x.passes x.psty x.rch x.less x.bk x.rw x.pl x.sty) = (fl', cN.count, cN.bn, cN.bf, cN.sf, cN.lf, cN.low, cN.size, cN.room, cN.free, cN.place, cN.cend, cN.window, cN.csize, cN.croom, cN.rplace, cN.rend, cN.cur, cN.left, mags', marks', ls', fl', bk', rw', pl', 1) := by
        rw [l1, l2, l3, l4, l6, l7, l8, l9, b1, b2, b3]
        unfold F_X10_read
        rw [if_neg q1, if_pos q2]
        simp only [hso, t1']
      have hF1 : (F_X11_read (nI n) y.wide y.high y.band y.sty y.wr y.rd y.planes y.passes y.wri y.plane y.raw y.fl y.m.size y.m.begin y.m.low y.m.carried y.m.span y.m.room y.m.place y.m.limit y.m.next y.m.last y.m.upper y.mp y.mo y.mag y.min y.rch y.mso y.mbg y.mln y.known y.below y.latest y.early y.again y.m.sf y.m.lf y.m.bf) = (mfl', 0, 1, 0, mp', mr', mfl', mN.size, mN.low, mN.carried, mN.span, mN.room, mN.place, mN.limit, mN.next, mN.last, mN.upper, known', below', latest', early', again', mN.sf, mN.lf, mN.bf) := by
        rw [l10, l11, l12, l13, l14, l15, l16, l17, b4, b5]
        unfold F_X11_read
        simp only [e1, o1, thr0, if_true, f4, t4']
      refine ⟨?_, Or.inl ⟨?_, ?_, ?_, ?_, ?_, ?_, ?_⟩⟩
      · rw [l10, l11, l12, l13, l14, l15, l16, l17, b4, b5]
        intro j2 ej r3 e3 r4 e4 z
        refine ⟨f2, fun r6 e6 => ⟨u1, fun r7 e7 => ?_⟩⟩
        rw [f4] at e6
        subst e6
        subst e7
        exact t5'
      · unfold T_read; rw [w1, b2, if_neg c, if_neg q1, if_pos q2]
      · rw [l1, l2, l3, l4, l5, l6, l7, l8, l9, b1, b2, b3, w1]
        refine ⟨fun z => c z, fun z => q1 z, fun _ => ⟨fun _ => ⟨⟨f1, fun _ _ => s1⟩, fun r4 e4 => ?_⟩, fun z => z q2⟩⟩
        rw [hso] at e4
        subst e4
        exact t2'
      · rw [l1, l2, l3, l4, l6, l7, l8, l9, b1, b2, b3]
        unfold D_X10_read
        rw [if_neg q1, if_pos q2]
        simp only [hso, t3']
      · rw [hF1]
      · rw [hF, hF1]; exact t7.2.2.2
      · rw [hF, hF1]
        obtain ⟨h1, h2, h3, h4, h5, h6, h7⟩ := t8
        refine ⟨e, w, true, ok, ⟨l1, l2, l3, l4, l5, l6, l7, l8, l9, l10, l11, l12, l13, l14, l15, l16, l17, l18, l19⟩, ⟨?_, ?_, t7.1, t7.2.1, t7.2.2.1⟩, ⟨w1, w2, rfl, rfl⟩, fun _ => ⟨P, T, N, rc, sb, bb, a1, a2, ⟨b1, b2, b3, b4, b5⟩, ⟨v1.trans d1, ?_, v5.trans d3, ?_, d5, d6⟩, a5, a6, a7, a8⟩, fun _ => ⟨_, G', h6⟩⟩
        · show 16 ≤ cN.bn
          rw [v3]; exact hb1
        · show cN.bn ≤ 131072
          rw [v3]; exact hb2
        · show rOk N cN.bn cN.bf bb
          rw [v3, v4]; exact d2
        · show cEq N mN.bf bb
          rw [v7]; exact d4
      · rw [hF]
        show 3 * cN.bn + fiN x.cn = 3 * x.c.bn + fiN x.cn
        rw [v3]; rfl
    · have o1 : F_X11_out p1 0 (nI T) = 1 ∧ (p1 < 0 ∨ (¬ p1 < 0 ∧ ¬ p1 ≤ nI T)) := by
        by_cases q1 : p1 < 0
        · exact ⟨out_lo q1, Or.inl q1⟩
        · obtain ⟨j, hj, rfl⟩ := nI_of q1
          have q2 : ¬ nI j ≤ nI T := fun z => cn ⟨j, (nI_leI hj (by omega)).mp z, rfl⟩
          exact ⟨out_hi q1 q2, Or.inr ⟨q1, q2⟩⟩
      have hF1 : (F_X11_read p1 y.wide y.high y.band y.sty y.wr y.rd y.planes y.passes y.wri y.plane y.raw y.fl y.m.size y.m.begin y.m.low y.m.carried y.m.span y.m.room y.m.place y.m.limit y.m.next y.m.last y.m.upper y.mp y.mo y.mag y.min y.rch y.mso y.mbg y.mln y.known y.below y.latest y.early y.again y.m.sf y.m.lf y.m.bf) = (0, 2, y.rd, y.wri, y.plane, y.raw, y.fl, y.m.size, y.m.low, y.m.carried, y.m.span, y.m.room, y.m.place, y.m.limit, y.m.next, y.m.last, y.m.upper, y.known, y.below, y.latest, y.early, y.again, y.m.sf, y.m.lf, y.m.bf) := by
        unfold F_X11_read
        rw [b5]
        simp only [e1, o1.1, thr2]
        rfl
      refine ⟨?_, Or.inr (Or.inr ⟨?_, ?_, ?_⟩)⟩
      · intro j2 ej r3 e3 r4 e4 z
        rw [e1] at ej
        subst ej
        rw [b5, o1.1] at e3
        subst e3
        rw [thr2] at e4
        subst e4
        exact absurd z (by decide)
      · unfold T_read
        rw [w1, b2, if_neg c]
        rcases o1.2 with q | ⟨q, q2⟩
        · rw [if_pos q]
        · rw [if_neg q, if_neg q2]
      · rw [hF1]
      · rw [hF1]; exact hOR

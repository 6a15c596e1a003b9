/-! ===== PURE: a first bit, both sides ===== -/
theorem zero_sim {e : EnvB} (ok : e.Ok) {N : Nat} {c : CS} {m : MS} {G : GF} {mags marks known below latest early again : Nat → Int32} {less : Int64} {x y : Nat} (hc : Cod e.bk N e.K c m) (hf : Fld e.W e.H (czOf e.sty) e.p G mags marks known below latest early again) (hx : x < e.W) (hy : y < e.H) (hs : G.sg x y = false) (hE : less + errS e G = e.E0) (hL : 36 * (N + 1) + e.K ≤ 4913000) :
    ∃ (v : Nat) (c1 : CS) (m1 : MS), v < 2 ∧ (F_X9_firstBit (nI (y * e.W + x)) c.count c.start c.bn c.bf 19 c.sf 19 c.lf c.low c.size c.room c.free c.place c.cend c.window c.csize c.croom c.rplace c.rend c.cur c.left (nI e.band) e.coef marks e.bk (nI e.p)) = c1.T (nI v) ∧ (P_X9_firstBit (nI (y * e.W + x)) c.count c.start c.bn c.bf 19 c.sf 19 c.lf c.low c.size c.room c.free c.place c.cend c.window c.csize c.croom c.rplace c.rend c.cur c.left (nI e.band) e.cn e.coef e.kn marks e.bk (nI e.p)) ∧ (D_X9_firstBit (nI (y * e.W + x)) c.count c.start c.bn c.bf 19 c.sf 19 c.lf c.low c.size c.room c.free c.place c.cend c.window c.csize c.croom c.rplace c.rend c.cur c.left (nI e.band) e.coef marks e.bk (nI e.p)) + 3 * c.bn ≤ 3 * c1.bn ∧ Kept e.bk c c1 m m1 ∧ Cod e.bk (N + 1) e.K c1 m1 ∧
    (v = 0 → (F_X11_codeZero (nI x) (nI y) (nI (zcN e.band (hC G x y) (vC (czOf e.sty) G x y) (dC (czOf e.sty) G x y))) (nI e.W) (nI e.H) e.sty (wrI e.bk) (nI e.p) (rawI e.bk) m.size m.begin m.low m.carried m.span m.room m.place m.limit m.next m.last m.upper e.mp e.mo e.mag e.min known below latest m.sf m.lf m.bf) = m1.U known below latest ∧ (P_X11_codeZero (nI x) (nI y) (nI (zcN e.band (hC G x y) (vC (czOf e.sty) G x y) (dC (czOf e.sty) G x y))) (nI e.W) (nI e.H) e.sty (wrI e.bk) (nI e.p) (rawI e.bk) m.size m.begin m.low m.carried m.span m.room m.place m.limit m.next m.last m.upper 47 e.mp 47 e.mo 4096 e.mag 4096 e.min 4096 known 4096 below 4096 19 m.sf 19 m.lf 65536 m.bf)) ∧
    (v = 1 → ∃ (c' : CS) (m' : MS) (mi : Bool) (mags' marks' known' below' latest' : Nat → Int32) (less' : Int64), (F_X9_becomeSignificant (nI x) (nI y) c1.count c.start c1.bn c1.bf 19 c1.sf 19 c1.lf c1.low c1.size c1.room c1.free c1.place c.cend c1.window c1.csize c1.croom c1.rplace c.rend c1.cur c1.left (nI e.W) (nI e.H) (bI (czOf e.sty)) e.coef mags marks less e.bk (rawI e.bk) (nI e.p)) = c'.U mags' marks' less' ∧
      (P_X9_becomeSignificant (nI x) (nI y) c1.count c.start c1.bn c1.bf 19 c1.sf 19 c1.lf c1.low c1.size c1.room c1.free c1.place c.cend c1.window c1.csize c1.croom c1.rplace c.rend c1.cur c1.left (nI e.W) (nI e.H) (bI (czOf e.sty)) e.cn e.coef e.gn mags e.kn marks e.bk (rawI e.bk) (nI e.p)) ∧ (D_X9_becomeSignificant (nI x) (nI y) c1.count c.start c1.bn c1.bf 19 c1.sf 19 c1.lf c1.low c1.size c1.room c1.free c1.place c.cend c1.window c1.csize c1.croom c1.rplace c.rend c1.cur c1.left (nI e.W) e.coef marks e.bk (rawI e.bk)) + 3 * c1.bn ≤ 3 * c'.bn ∧
      (F_X11_codeZero (nI x) (nI y) (nI (zcN e.band (hC G x y) (vC (czOf e.sty) G x y) (dC (czOf e.sty) G x y))) (nI e.W) (nI e.H) e.sty (wrI e.bk) (nI e.p) (rawI e.bk) m.size m.begin m.low m.carried m.span m.room m.place m.limit m.next m.last m.upper e.mp e.mo e.mag e.min known below latest m.sf m.lf m.bf) = m'.U known' below' latest' ∧ (P_X11_codeZero (nI x) (nI y) (nI (zcN e.band (hC G x y) (vC (czOf e.sty) G x y) (dC (czOf e.sty) G x y))) (nI e.W) (nI e.H) e.sty (wrI e.bk) (nI e.p) (rawI e.bk) m.size m.begin m.low m.carried m.span m.room m.place m.limit m.next m.last m.upper 47 e.mp 47 e.mo 4096 e.mag 4096 e.min 4096 known 4096 below 4096 19 m.sf 19 m.lf 65536 m.bf) ∧
      Kept e.bk c c' m m' ∧ Cod e.bk (N + 2) e.K c' m' ∧ Fld e.W e.H (czOf e.sty) e.p (gNew G x y mi e.p) mags' marks' known' below' latest' early again ∧ less' + errS e (gNew G x y mi e.p) = e.E0) := by
  have hpl := plc hx hy
  have hplt := pl_lt ok hx hy
  obtain ⟨kb1, kb2, kb3, kb4⟩ := hf.kb x y
  have knl := ok.knl
  have knu := ok.knu
  have hm := hf.mr x y hx hy
  have hz := x5_zero (i := y * e.W + x) (by omega) hm kb3 ok.b4
  obtain ⟨-, zc9, -⟩ := zc_ok ok.b4 (hC_le G x y) (vC_le (czOf e.sty) G x y) (dC_le (czOf e.sty) G x y)
  obtain ⟨cb1, cb2⟩ := c_bit ok hx hy
  obtain ⟨mb1, mb2⟩ := m_bit ok hx hy
  have hmpl : nI y * nI e.W + nI x = nI (y * e.W + x) := place_ok x y e.W
  obtain ⟨v, c1, m1, v1, v2, n1, n2, n3, n4, n5, n6, n7⟩ := next_sim (k := zcN e.band (hC G x y) (vC (czOf e.sty) G x y) (dC (czOf e.sty) G x y)) (k' := zcN e.band (hC G x y) (vC (czOf e.sty) G x y) (dC (czOf e.sty) G x y)) (bit := bitN (e.a x y) e.p) (bit' := bitN (e.a x y) e.p) ok.hmp ok.hmo hc ok.bk4 (by omega) (fun _ => rfl) (bitN_lt _ _) (fun _ => rfl) (by omega)
  refine ⟨v, c1, m1, v1, ?_, ⟨cb1, fun r1 e1 => ⟨vp_in_nI (by omega) (by omega), fun r2 e2 => ?_⟩⟩, ?_, n6, n7, ?_, ?_⟩
  · unfold F_X9_firstBit
    simp only [cb2, hz, n1]
  · rw [cb2] at e1
    subst e1
    rw [hz] at e2
    subst e2
    exact n2
  · unfold D_X9_firstBit
    simp only [cb2, hz, Nat.add_zero]
    exact n3
  · intro hv
    subst hv
    refine ⟨?_, ?_⟩
    · unfold F_X11_codeZero
      simp only [hmpl, mb2, n4]
      show (if nI 0 = (1 : Int32) then _ else _) = _
      rw [if_neg (by decide)]
      rfl
    · unfold P_X11_codeZero
      rw [hmpl]
      refine ⟨mb1, fun r1 e1 => ?_⟩
      rw [mb2] at e1
      subst e1
      refine ⟨n5, fun r2 e2 h1 => ?_⟩
      rw [n4] at e2
      subst e2
      exact absurd h1 (by show ¬ nI 0 = (1 : Int32); decide)
  · intro hv
    subst hv
    obtain ⟨c', m', mi, mags', marks', known', below', latest', less', t1, t2, t3, t4, t5, t6, t7, t8, t9⟩ := sig_sim ok (less := less) n7 hf hx hy hs hE (by omega)
    rw [n6.1, n6.2.1, n6.2.2.1] at t1 t2 t3
    rw [n6.2.2.2.1, n6.2.2.2.2.1, n6.2.2.2.2.2.1] at t4 t5
    refine ⟨c', m', mi, mags', marks', known', below', latest', less', t1, t2, t3, ?_, ?_, n6.trans t6, t7, t8, t9⟩
    · unfold F_X11_codeZero
      simp only [hmpl, mb2, n4]
      show (if nI 1 = (1 : Int32) then _ else _) = _
      rw [if_pos (show nI 1 = (1 : Int32) from rfl)]
      exact t4
    · unfold P_X11_codeZero
      rw [hmpl]
      refine ⟨mb1, fun r1 e1 => ?_⟩
      rw [mb2] at e1
      subst e1
      refine ⟨n5, fun r2 e2 h1 => ?_⟩
      rw [n4] at e2
      subst e2
      exact t5

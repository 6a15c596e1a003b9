/-! ===== PURE: the third pass ===== -/
theorem pass_clean {e : EnvB} (ok : e.Ok) {G : GF} {g gc : Nat → Nat} {c : CS} {m : MS} {mags marks marks0 known below latest early again : Nat → Int32} {fl mfl pk plk mkd : Int32} (h : Rel e 2 0 G g gc c m mags marks0 known below latest early again 0) (hj3 : (J_X9_go_j_3 2 (nI e.W) (nI e.H) marks) = marks0) (pj3 : (PJ_X9_go_j_3 2 (nI e.W) (nI e.H) e.kn marks)) (hmk : mkd = (0 : Int32) ↔ (e.sty &&& (32 : Int32)) = (0 : Int32)) (hk : F_X11_kindOf pk = 2) (hp : F_X11_planeOf pk plk = nI e.p) :
    ∃ (G' : GF) (g' gc' : Nat → Nat) (c' : CS) (m' : MS) (mags' marks' known' below' latest' early' again' : Nat → Int32) (less' : Int64) (fl' mfl' : Int32) (d : Nat), (F_X9_go 2 mkd c.count c.start c.bn c.bf 19 c.sf 19 c.lf c.low c.size c.room c.free c.place c.cend c.window c.csize c.croom c.rplace c.rend c.cur c.left (nI e.W) (nI e.H) (nI e.band) (bI (czOf e.sty)) e.coef mags marks fl e.bk (rawI e.bk) (nI e.p)) = c'.Z mags' marks' less' fl' ∧ (P_X9_go 2 mkd c.count c.start c.bn c.bf 19 c.sf 19 c.lf c.low c.size c.room c.free c.place c.cend c.window c.csize c.croom c.rplace c.rend c.cur c.left (nI e.W) (nI e.H) (nI e.band) (bI (czOf e.sty)) e.cn e.coef e.gn mags e.kn marks e.bk (rawI e.bk) (nI e.p)) ∧ (D_X9_go 2 mkd c.count c.start c.bn c.bf 19 c.sf 19 c.lf c.low c.size c.room c.free c.place c.cend c.window c.csize c.croom c.rplace c.rend c.cur c.left (nI e.W) (nI e.H) (nI e.band) (bI (czOf e.sty)) e.coef mags marks fl e.bk (rawI e.bk) (nI e.p)) + 3 * c.bn ≤ 3 * c'.bn ∧
    (F_X11_codePass pk (nI e.W) (nI e.H) (nI e.band) e.sty plk (wrI e.bk) (rawI e.bk) mfl m.size m.begin m.low m.carried m.span m.room m.place m.limit m.next m.last m.upper e.mp e.mo e.mag e.min known below latest early again m.sf m.lf m.bf) = m'.W (nI e.p) mfl' known' below' latest' early' again' (rst e.sty m'.sf m'.lf).1 (rst e.sty m'.sf m'.lf).2 ∧ (P_X11_codePass pk (nI e.W) (nI e.H) (nI e.band) e.sty plk (wrI e.bk) (rawI e.bk) mfl m.size m.begin m.low m.carried m.span m.room m.place m.limit m.next m.last m.upper 47 e.mp 47 e.mo 4096 e.mag 4096 e.min 4096 known 4096 below 4096 latest 4096 early 4096 again 19 m.sf 19 m.lf 65536 m.bf) ∧ Kept e.bk c c' m m' ∧ Cod e.bk (totN e g' gc' + d) e.K c' m' ∧ d ≤ 4 ∧
    Fld e.W e.H (czOf e.sty) e.p G' mags' marks' known' below' latest' early' again' ∧ less' + errS e G' = e.E0 ∧ Chg e 2 (17 * (4 * e.W)) G' g' gc' ∧ (fl = mfl → fl' = mfl') := by
  have hfu := fu_ge
  have hH := ok.H64
  obtain ⟨G', g', gc', c', m', mags', marks', known', below', latest', early', again', less', i, i', t1, t2, t3, t4, t5, t6, t7⟩ := clean_all ok 17 0 fu fu _ _ _ _ _ _ _ _ _ _ _ _ _ (by omega) (by omega) (by omega) (by omega) (by omega) (by rw [Nat.zero_mul]; exact h)
  rw [show nI (4 * 0) = (0 : Int32) from rfl] at t1 t2 t3 t4 t5
  have fin : ∀ {c2 : CS} {m2 : MS} {fl2 : Int32}, J_X11_codePass_j_19 e.sty (wrI e.bk) (rawI e.bk) mfl m.begin m.place m.limit e.mp e.mo 2 (i', m'.V known' below' latest' early' again') = m2.T fl2 → PJ_X11_codePass_j_19 e.sty (wrI e.bk) (rawI e.bk) m.begin m.place m.limit 47 e.mp 47 e.mo 19 19 65536 2 (i', m'.V known' below' latest' early' again') →
      (F_X11_codePass pk (nI e.W) (nI e.H) (nI e.band) e.sty plk (wrI e.bk) (rawI e.bk) mfl m.size m.begin m.low m.carried m.span m.room m.place m.limit m.next m.last m.upper e.mp e.mo e.mag e.min known below latest early again m.sf m.lf m.bf) = m2.W (nI e.p) fl2 known' below' latest' early' again' (rst e.sty m2.sf m2.lf).1 (rst e.sty m2.sf m2.lf).2 ∧ (P_X11_codePass pk (nI e.W) (nI e.H) (nI e.band) e.sty plk (wrI e.bk) (rawI e.bk) mfl m.size m.begin m.low m.carried m.span m.room m.place m.limit m.next m.last m.upper 47 e.mp 47 e.mo 4096 e.mag 4096 e.min 4096 known 4096 below 4096 latest 4096 early 4096 again 19 m.sf 19 m.lf 65536 m.bf) := by
    intro c2 m2 fl2 a1 a2
    refine ⟨?_, ?_⟩
    · unfold F_X11_codePass rst
      simp only [hk, hp, t4, a1]
      by_cases q : (e.sty &&& (2 : Int32)) = (0 : Int32)
      · rw [if_pos q, if_pos q]; rfl
      · rw [if_neg q, if_neg q]; rfl
    · intro r1 e1 r2 e2
      rw [hk] at e1
      subst e1
      rw [hp] at e2
      subst e2
      refine ⟨t5, fun j3 e3 => ?_⟩
      rw [t4] at e3
      subst e3
      exact ⟨a2, fun j19 e19 _ => (reset_ok _ _).1⟩
  have hlim := t7.chg.lim ok
  by_cases q : (e.sty &&& (32 : Int32)) = (0 : Int32)
  · have hm0 := hmk.mpr q
    obtain ⟨f1, f2⟩ := fin (c2 := c') (m2 := m') (fl2 := mfl) (by unfold J_X11_codePass_j_19; rw [if_pos rfl, if_pos q]; rfl) (fun _ z => absurd q z)
    refine ⟨G', g', gc', c', m', mags', marks', known', below', latest', early', again', less', fl, mfl, 0, ?_, ?_, ?_, f1, f2, t6, t7.cod, by omega, t7.fld, t7.err, t7.chg, fun z => z⟩
    · unfold F_X9_go
      simp only [hj3, t1]
      rw [if_pos trivial, if_pos hm0]
      rfl
    · refine ⟨pj3, fun j3 e3 => ?_⟩
      rw [hj3] at e3
      subst e3
      exact ⟨t2, fun _ _ _ z => absurd hm0 z⟩
    · unfold D_X9_go
      simp only [hj3, t1]
      rw [if_pos trivial, if_pos hm0]
      exact t3
  · have hm0 : ¬ mkd = (0 : Int32) := fun z => q (hmk.mp z)
    obtain ⟨c2, m2, fl2, mfl2, s1, s2, s3, s4, s5, s6, s7, s8⟩ := mark_sim ok (fl := fl) (mfl := mfl) hlim t7.cod
    rw [t6.1, t6.2.1, t6.2.2.1] at s1 s2 s3
    rw [t6.2.2.2.1, t6.2.2.2.2.1, t6.2.2.2.2.2.1] at s4 s5
    obtain ⟨f1, f2⟩ := fin (c2 := c2) (m2 := m2) (fl2 := mfl2) (by
      unfold J_X11_codePass_j_19
      rw [if_pos rfl, if_neg q]
      exact s4) (fun _ _ => s5)
    refine ⟨G', g', gc', c2, m2, mags', marks', known', below', latest', early', again', less', fl2, mfl2, 4, ?_, ?_, ?_, f1, f2, t6.trans s6, s7, by omega, t7.fld, t7.err, t7.chg, s8⟩
    · unfold F_X9_go
      simp only [hj3, t1]
      rw [if_pos trivial, if_neg hm0]
      exact congrArg (fun r : (Int32 × Nat × (Nat → Int32) × (Nat → Int32) × (Nat → Int32) × Int32 × Int32 × Int32 × Int32 × Int32 × Int32 × Int32 × Int32 × Int32 × Int32 × Int32 × Int32) => (r.1, r.2.1, r.2.2.1, r.2.2.2.1, r.2.2.2.2.1, r.2.2.2.2.2.1, r.2.2.2.2.2.2.1, r.2.2.2.2.2.2.2.1, r.2.2.2.2.2.2.2.2.1, r.2.2.2.2.2.2.2.2.2.1, r.2.2.2.2.2.2.2.2.2.2.1, r.2.2.2.2.2.2.2.2.2.2.2.1, r.2.2.2.2.2.2.2.2.2.2.2.2.1, r.2.2.2.2.2.2.2.2.2.2.2.2.2.1, r.2.2.2.2.2.2.2.2.2.2.2.2.2.2.1, r.2.2.2.2.2.2.2.2.2.2.2.2.2.2.2.1, mags', marks', less', r.2.2.2.2.2.2.2.2.2.2.2.2.2.2.2.2)) s1
    · refine ⟨pj3, fun j3 e3 => ?_⟩
      rw [hj3] at e3
      subst e3
      refine ⟨t2, fun j4 e4 _ _ => ?_⟩
      rw [t1] at e4
      subst e4
      exact s2
    · unfold D_X9_go
      simp only [hj3, t1]
      rw [if_pos trivial, if_neg hm0]
      simp only [CS.U, Nat.add_zero]
      exact addC t3 s3

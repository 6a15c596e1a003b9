/-! ===== PURE: a whole pass ===== -/
def MS.W (m : MS) (p f : Int32) (k b l ea ag s2 l2 : Nat → Int32) : (Int32 × Int32 × Int32 × Int32 × Int32 × Int32 × Int32 × Int32 × Int32 × Int64 × (Nat → Int32) × (Nat → Int32) × (Nat → Int32) × (Nat → Int32) × (Nat → Int32) × (Nat → Int32) × (Nat → Int32) × (Nat → Int32)) :=
  (p, f, m.size, m.low, m.carried, m.span, m.room, m.next, m.last, m.upper, k, b, l, ea, ag, s2, l2, m.bf)
noncomputable def rst (sty : Int32) (sf lf : Nat → Int32) : (Nat → Int32) × (Nat → Int32) := if (sty &&& (2 : Int32)) = (0 : Int32) then (sf, lf) else F_X11_resetContexts sf lf
theorem reset_loop : ∀ (k i fuel : Nat) (sf lf : Nat → Int32), i + k = 19 → k < fuel → PL_X11_resetContexts_j_1 19 19 fuel (nI i) sf lf ∧ (L_X11_resetContexts_j_1 fuel (nI i) sf lf).2 = (fun j => if i ≤ j ∧ j < 19 then ctx0 j else sf j, fun j => if i ≤ j ∧ j < 19 then 0 else lf j) := by
  intro k
  induction k with
  | zero =>
    intro i fuel sf lf h1 h2
    obtain ⟨n, rfl⟩ : ∃ n, fuel = n + 1 := ⟨fuel - 1, by omega⟩
    have q : (19 : Int32) ≤ nI i := nI_le (a := 19) (by omega) (by omega)
    rw [PL_X11_resetContexts_j_1, L_X11_resetContexts_j_1, if_pos q]
    refine ⟨fun z => absurd q z, Prod.ext ?_ ?_⟩
    · funext j; show sf j = if i ≤ j ∧ j < 19 then ctx0 j else sf j; rw [if_neg (by omega)]
    · funext j; show lf j = if i ≤ j ∧ j < 19 then 0 else lf j; rw [if_neg (by omega)]
  | succ k ih =>
    intro i fuel sf lf h1 h2
    obtain ⟨n, rfl⟩ : ∃ n, fuel = n + 1 := ⟨fuel - 1, by omega⟩
    have q : ¬ (19 : Int32) ≤ nI i := nI_ge (b := 19) (by omega) (by omega)
    have hj : J_X11_resetContexts_j_6 (nI i) = ctx0 i := by
      have : ∀ i, i < 19 → J_X11_resetContexts_j_6 (nI i) = ctx0 i := by decide +kernel
      exact this i (by omega)
    obtain ⟨t1, t2⟩ := ih (i + 1) n (upd sf i (ctx0 i)) (upd lf i 0) (by omega) (by omega)
    rw [nI_succ] at t1 t2
    rw [PL_X11_resetContexts_j_1, L_X11_resetContexts_j_1, if_neg q, hj, nI_clamp (by omega)]
    refine ⟨fun _ j ej => ?_, ?_⟩
    · rw [← ej]; exact ⟨vp_in_nI (by omega) (by omega), vp_in_nI (by omega) (by omega), t1⟩
    · show (L_X11_resetContexts_j_1 n (nI i + 1) (upd sf i (ctx0 i)) (upd lf i 0)).2 = _
      rw [t2]
      refine Prod.ext ?_ ?_
      · funext j
        show (if i + 1 ≤ j ∧ j < 19 then ctx0 j else upd sf i (ctx0 i) j) = if i ≤ j ∧ j < 19 then ctx0 j else sf j
        by_cases c : j = i
        · subst c; rw [if_neg (by omega), if_pos (by omega), pk_us]
        · rw [pk_un c]
          by_cases c2 : i + 1 ≤ j ∧ j < 19
          · rw [if_pos c2, if_pos (by omega)]
          · rw [if_neg c2, if_neg (by omega)]
      · funext j
        show (if i + 1 ≤ j ∧ j < 19 then 0 else upd lf i 0 j) = if i ≤ j ∧ j < 19 then 0 else lf j
        by_cases c : j = i
        · subst c; rw [if_neg (by omega), if_pos (by omega), pk_us]
        · rw [pk_un c]
          by_cases c2 : i + 1 ≤ j ∧ j < 19
          · rw [if_pos c2, if_pos (by omega)]
          · rw [if_neg c2, if_neg (by omega)]
theorem reset_ok (sf lf : Nat → Int32) : P_X11_resetContexts 19 sf 19 lf ∧ (∀ j, j < 19 → (F_X11_resetContexts sf lf).1 j = ctx0 j) ∧ ∀ j, j < 19 → (F_X11_resetContexts sf lf).2 j = 0 := by
  have hfu := fu_ge
  obtain ⟨t1, t2⟩ := reset_loop 19 0 fu sf lf (by omega) (by omega)
  rw [nI_0] at t1 t2
  have e1 : F_X11_resetContexts sf lf = (L_X11_resetContexts_j_1 fu 0 sf lf).2 := rfl
  refine ⟨t1, fun j hj => ?_, fun j hj => ?_⟩
  · rw [e1, t2]; show (if 0 ≤ j ∧ j < 19 then ctx0 j else sf j) = _; rw [if_pos (by omega)]
  · rw [e1, t2]; show (if 0 ≤ j ∧ j < 19 then 0 else lf j) = _; rw [if_pos (by omega)]
theorem pass_spread {e : EnvB} (ok : e.Ok) {G : GF} {g gc : Nat → Nat} {c : CS} {m : MS} {mags marks marks0 known below latest early again : Nat → Int32} {fl mfl pk plk mkd : Int32} (h : Rel e 0 0 G g gc c m mags marks0 known below latest early again 0) (hj3 : (J_X9_go_j_3 0 (nI e.W) (nI e.H) marks) = marks0) (pj3 : (PJ_X9_go_j_3 0 (nI e.W) (nI e.H) e.kn marks)) (hmk : mkd = (0 : Int32) ↔ (e.sty &&& (32 : Int32)) = (0 : Int32)) (hk : F_X11_kindOf pk = 0) (hp : F_X11_planeOf pk plk = nI e.p) :
    ∃ (G' : GF) (g' gc' : Nat → Nat) (c' : CS) (m' : MS) (mags' marks' known' below' latest' early' again' : Nat → Int32) (less' : Int64) (fl' mfl' : Int32) (d : Nat), (F_X9_go 0 mkd c.count c.start c.bn c.bf 19 c.sf 19 c.lf c.low c.size c.room c.free c.place c.cend c.window c.csize c.croom c.rplace c.rend c.cur c.left (nI e.W) (nI e.H) (nI e.band) (bI (czOf e.sty)) e.coef mags marks fl e.bk (rawI e.bk) (nI e.p)) = c'.Z mags' marks' less' fl' ∧ (P_X9_go 0 mkd c.count c.start c.bn c.bf 19 c.sf 19 c.lf c.low c.size c.room c.free c.place c.cend c.window c.csize c.croom c.rplace c.rend c.cur c.left (nI e.W) (nI e.H) (nI e.band) (bI (czOf e.sty)) e.cn e.coef e.gn mags e.kn marks e.bk (rawI e.bk) (nI e.p)) ∧ (D_X9_go 0 mkd c.count c.start c.bn c.bf 19 c.sf 19 c.lf c.low c.size c.room c.free c.place c.cend c.window c.csize c.croom c.rplace c.rend c.cur c.left (nI e.W) (nI e.H) (nI e.band) (bI (czOf e.sty)) e.coef mags marks fl e.bk (rawI e.bk) (nI e.p)) + 3 * c.bn ≤ 3 * c'.bn ∧
    (F_X11_codePass pk (nI e.W) (nI e.H) (nI e.band) e.sty plk (wrI e.bk) (rawI e.bk) mfl m.size m.begin m.low m.carried m.span m.room m.place m.limit m.next m.last m.upper e.mp e.mo e.mag e.min known below latest early again m.sf m.lf m.bf) = m'.W (nI e.p) mfl' known' below' latest' early' again' (rst e.sty m'.sf m'.lf).1 (rst e.sty m'.sf m'.lf).2 ∧ (P_X11_codePass pk (nI e.W) (nI e.H) (nI e.band) e.sty plk (wrI e.bk) (rawI e.bk) mfl m.size m.begin m.low m.carried m.span m.room m.place m.limit m.next m.last m.upper 47 e.mp 47 e.mo 4096 e.mag 4096 e.min 4096 known 4096 below 4096 latest 4096 early 4096 again 19 m.sf 19 m.lf 65536 m.bf) ∧ Kept e.bk c c' m m' ∧ Cod e.bk (totN e g' gc' + d) e.K c' m' ∧ d ≤ 0 ∧
    Fld e.W e.H (czOf e.sty) e.p G' mags' marks' known' below' latest' early' again' ∧ less' + errS e G' = e.E0 ∧ Chg e 0 (17 * (4 * e.W)) G' g' gc' ∧ (fl = mfl → fl' = mfl') := by
  have hfu := fu_ge
  have hH := ok.H64
  obtain ⟨G', g', gc', c', m', mags', marks', known', below', latest', early', again', less', i, i', t1, t2, t3, t4, t5, t6, t7⟩ := spread_all ok 17 0 fu fu _ _ _ _ _ _ _ _ _ _ _ _ _ (by omega) (by omega) (by omega) (by omega) (by omega) (by rw [Nat.zero_mul]; exact h)
  rw [show nI (4 * 0) = (0 : Int32) from rfl] at t1 t2 t3 t4 t5
  have fin : ∀ {c2 : CS} {m2 : MS} {fl2 : Int32}, J_X11_codePass_j_19 e.sty (wrI e.bk) (rawI e.bk) mfl m.begin m.place m.limit e.mp e.mo 0 (i', m'.V known' below' latest' early' again') = m2.T fl2 → PJ_X11_codePass_j_19 e.sty (wrI e.bk) (rawI e.bk) m.begin m.place m.limit 47 e.mp 47 e.mo 19 19 65536 0 (i', m'.V known' below' latest' early' again') →
      (F_X11_codePass pk (nI e.W) (nI e.H) (nI e.band) e.sty plk (wrI e.bk) (rawI e.bk) mfl m.size m.begin m.low m.carried m.span m.room m.place m.limit m.next m.last m.upper e.mp e.mo e.mag e.min known below latest early again m.sf m.lf m.bf) = m2.W (nI e.p) fl2 known' below' latest' early' again' (rst e.sty m2.sf m2.lf).1 (rst e.sty m2.sf m2.lf).2 ∧ (P_X11_codePass pk (nI e.W) (nI e.H) (nI e.band) e.sty plk (wrI e.bk) (rawI e.bk) mfl m.size m.begin m.low m.carried m.span m.room m.place m.limit m.next m.last m.upper 47 e.mp 47 e.mo 4096 e.mag 4096 e.min 4096 known 4096 below 4096 latest 4096 early 4096 again 19 m.sf 19 m.lf 65536 m.bf) := by
    intro c2 m2 fl2 a1 a2
    refine ⟨?_, ?_⟩
    · unfold F_X11_codePass rst
      simp only [hk, hp, t4, a1]
      by_cases q : (e.sty &&& (2 : Int32)) = (0 : Int32)
      · rw [if_pos q, if_pos q]; rfl
      · rw [if_neg q, if_neg q]; rfl
    · intro r1 e1 r2 e2
      rw [hk] at e1
      subst e1
      rw [hp] at e2
      subst e2
      refine ⟨t5, fun j3 e3 => ?_⟩
      rw [t4] at e3
      subst e3
      exact ⟨a2, fun j19 e19 _ => (reset_ok _ _).1⟩
  have n2 : ¬ (0 : Int32) = 2 := by decide
  obtain ⟨f1, f2⟩ := fin (c2 := c') (m2 := m') (fl2 := mfl) (by unfold J_X11_codePass_j_19; rw [if_neg n2]; rfl) (fun z => absurd z n2)
  refine ⟨G', g', gc', c', m', mags', marks', known', below', latest', early', again', less', fl, mfl, 0, ?_, ?_, ?_, f1, f2, t6, t7.cod, Nat.le_refl _, t7.fld, t7.err, t7.chg, fun z => z⟩
  · unfold F_X9_go
    simp only [hj3, t1]
    rw [if_neg n2]
    rfl
  · refine ⟨pj3, fun j3 e3 => ?_⟩
    rw [hj3] at e3
    subst e3
    exact ⟨t2, fun _ _ z => absurd z n2⟩
  · unfold D_X9_go
    simp only [hj3, t1]
    rw [if_neg n2]
    exact t3
theorem pass_refine {e : EnvB} (ok : e.Ok) {G : GF} {g gc : Nat → Nat} {c : CS} {m : MS} {mags marks marks0 known below latest early again : Nat → Int32} {fl mfl pk plk mkd : Int32} (h : Rel e 1 0 G g gc c m mags marks0 known below latest early again 0) (hj3 : (J_X9_go_j_3 1 (nI e.W) (nI e.H) marks) = marks0) (pj3 : (PJ_X9_go_j_3 1 (nI e.W) (nI e.H) e.kn marks)) (hmk : mkd = (0 : Int32) ↔ (e.sty &&& (32 : Int32)) = (0 : Int32)) (hk : F_X11_kindOf pk = 1) (hp : F_X11_planeOf pk plk = nI e.p) :
    ∃ (G' : GF) (g' gc' : Nat → Nat) (c' : CS) (m' : MS) (mags' marks' known' below' latest' early' again' : Nat → Int32) (less' : Int64) (fl' mfl' : Int32) (d : Nat), (F_X9_go 1 mkd c.count c.start c.bn c.bf 19 c.sf 19 c.lf c.low c.size c.room c.free c.place c.cend c.window c.csize c.croom c.rplace c.rend c.cur c.left (nI e.W) (nI e.H) (nI e.band) (bI (czOf e.sty)) e.coef mags marks fl e.bk (rawI e.bk) (nI e.p)) = c'.Z mags' marks' less' fl' ∧ (P_X9_go 1 mkd c.count c.start c.bn c.bf 19 c.sf 19 c.lf c.low c.size c.room c.free c.place c.cend c.window c.csize c.croom c.rplace c.rend c.cur c.left (nI e.W) (nI e.H) (nI e.band) (bI (czOf e.sty)) e.cn e.coef e.gn mags e.kn marks e.bk (rawI e.bk) (nI e.p)) ∧ (D_X9_go 1 mkd c.count c.start c.bn c.bf 19 c.sf 19 c.lf c.low c.size c.room c.free c.place c.cend c.window c.csize c.croom c.rplace c.rend c.cur c.left (nI e.W) (nI e.H) (nI e.band) (bI (czOf e.sty)) e.coef mags marks fl e.bk (rawI e.bk) (nI e.p)) + 3 * c.bn ≤ 3 * c'.bn ∧
    (F_X11_codePass pk (nI e.W) (nI e.H) (nI e.band) e.sty plk (wrI e.bk) (rawI e.bk) mfl m.size m.begin m.low m.carried m.span m.room m.place m.limit m.next m.last m.upper e.mp e.mo e.mag e.min known below latest early again m.sf m.lf m.bf) = m'.W (nI e.p) mfl' known' below' latest' early' again' (rst e.sty m'.sf m'.lf).1 (rst e.sty m'.sf m'.lf).2 ∧ (P_X11_codePass pk (nI e.W) (nI e.H) (nI e.band) e.sty plk (wrI e.bk) (rawI e.bk) mfl m.size m.begin m.low m.carried m.span m.room m.place m.limit m.next m.last m.upper 47 e.mp 47 e.mo 4096 e.mag 4096 e.min 4096 known 4096 below 4096 latest 4096 early 4096 again 19 m.sf 19 m.lf 65536 m.bf) ∧ Kept e.bk c c' m m' ∧ Cod e.bk (totN e g' gc' + d) e.K c' m' ∧ d ≤ 0 ∧
    Fld e.W e.H (czOf e.sty) e.p G' mags' marks' known' below' latest' early' again' ∧ less' + errS e G' = e.E0 ∧ Chg e 1 (17 * (4 * e.W)) G' g' gc' ∧ (fl = mfl → fl' = mfl') := by
  have hfu := fu_ge
  have hH := ok.H64
  obtain ⟨G', g', gc', c', m', mags', marks', known', below', latest', early', again', less', i, i', t1, t2, t3, t4, t5, t6, t7⟩ := refine_all ok 17 0 fu fu _ _ _ _ _ _ _ _ _ _ _ _ _ (by omega) (by omega) (by omega) (by omega) (by omega) (by rw [Nat.zero_mul]; exact h)
  rw [show nI (4 * 0) = (0 : Int32) from rfl] at t1 t2 t3 t4 t5
  have fin : ∀ {c2 : CS} {m2 : MS} {fl2 : Int32}, J_X11_codePass_j_19 e.sty (wrI e.bk) (rawI e.bk) mfl m.begin m.place m.limit e.mp e.mo 1 (i', m'.V known' below' latest' early' again') = m2.T fl2 → PJ_X11_codePass_j_19 e.sty (wrI e.bk) (rawI e.bk) m.begin m.place m.limit 47 e.mp 47 e.mo 19 19 65536 1 (i', m'.V known' below' latest' early' again') →
      (F_X11_codePass pk (nI e.W) (nI e.H) (nI e.band) e.sty plk (wrI e.bk) (rawI e.bk) mfl m.size m.begin m.low m.carried m.span m.room m.place m.limit m.next m.last m.upper e.mp e.mo e.mag e.min known below latest early again m.sf m.lf m.bf) = m2.W (nI e.p) fl2 known' below' latest' early' again' (rst e.sty m2.sf m2.lf).1 (rst e.sty m2.sf m2.lf).2 ∧ (P_X11_codePass pk (nI e.W) (nI e.H) (nI e.band) e.sty plk (wrI e.bk) (rawI e.bk) mfl m.size m.begin m.low m.carried m.span m.room m.place m.limit m.next m.last m.upper 47 e.mp 47 e.mo 4096 e.mag 4096 e.min 4096 known 4096 below 4096 latest 4096 early 4096 again 19 m.sf 19 m.lf 65536 m.bf) := by
    intro c2 m2 fl2 a1 a2
    refine ⟨?_, ?_⟩
    · unfold F_X11_codePass rst
      simp only [hk, hp, t4, a1]
      by_cases q : (e.sty &&& (2 : Int32)) = (0 : Int32)
      · rw [if_pos q, if_pos q]; rfl
      · rw [if_neg q, if_neg q]; rfl
    · intro r1 e1 r2 e2
      rw [hk] at e1
      subst e1
      rw [hp] at e2
      subst e2
      refine ⟨t5, fun j3 e3 => ?_⟩
      rw [t4] at e3
      subst e3
      exact ⟨a2, fun j19 e19 _ => (reset_ok _ _).1⟩
  have n2 : ¬ (1 : Int32) = 2 := by decide
  obtain ⟨f1, f2⟩ := fin (c2 := c') (m2 := m') (fl2 := mfl) (by unfold J_X11_codePass_j_19; rw [if_neg n2]; rfl) (fun z => absurd z n2)
  refine ⟨G', g', gc', c', m', mags', marks', known', below', latest', early', again', less', fl, mfl, 0, ?_, ?_, ?_, f1, f2, t6, t7.cod, Nat.le_refl _, t7.fld, t7.err, t7.chg, fun z => z⟩
  · unfold F_X9_go
    simp only [hj3, t1]
    rw [if_neg n2]
    rfl
  · refine ⟨pj3, fun j3 e3 => ?_⟩
    rw [hj3] at e3
    subst e3
    exact ⟨t2, fun _ _ z => absurd z n2⟩
  · unfold D_X9_go
    simp only [hj3, t1]
    rw [if_neg n2]
    exact t3

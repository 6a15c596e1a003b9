/-! ===== PURE: the column loops ===== -/
theorem spread_loop {e : EnvB} (ok : e.Ok) {x t bot : Nat} (hx : x < e.W) (hb : bot = min (4 * t + 4) e.H) : ∀ (k y fuel fuel' : Nat) (G : GF) (g : Nat → Nat) (gc : Nat → Nat) (c : CS) (m : MS) (mags marks known below latest early again : Nat → Int32) (less : Int64), y + k = bot → 4 * t ≤ y → k < fuel → k < fuel' → Rel e 0 (t * (4 * e.W) + x * 4 + (y - 4 * t)) G g gc c m mags marks known below latest early again less →
    ∃ (G' : GF) (g' : Nat → Nat) (c' : CS) (m' : MS) (mags' marks' known' below' latest' early' again' : Nat → Int32) (less' : Int64) (i' : Int32), (L_X9_spread_j_1 (nI x) (nI bot) c.start 19 19 c.cend c.rend (nI e.W) (nI e.H) (nI e.band) (bI (czOf e.sty)) e.coef e.bk (rawI e.bk) (nI e.p) fuel (nI y) c.count c.bn c.bf c.sf c.lf c.low c.size c.room c.free c.place c.window c.csize c.croom c.rplace c.cur c.left mags marks less) = (nI bot, c'.U mags' marks' less') ∧ (PL_X9_spread_j_1 (nI x) (nI bot) c.start 19 19 c.cend c.rend (nI e.W) (nI e.H) (nI e.band) (bI (czOf e.sty)) e.cn e.coef e.gn e.kn e.bk (rawI e.bk) (nI e.p) fuel (nI y) c.count c.bn c.bf c.sf c.lf c.low c.size c.room c.free c.place c.window c.csize c.croom c.rplace c.cur c.left mags marks less) ∧ (DL_X9_spread_j_1 (nI x) (nI bot) c.start 19 19 c.cend c.rend (nI e.W) (nI e.H) (nI e.band) (bI (czOf e.sty)) e.coef e.bk (rawI e.bk) (nI e.p) fuel (nI y) c.count c.bn c.bf c.sf c.lf c.low c.size c.room c.free c.place c.window c.csize c.croom c.rplace c.cur c.left mags marks less) + 3 * c.bn ≤ 3 * c'.bn ∧
    (L_X11_codePass_j_12 (nI e.W) (nI e.H) (nI e.band) e.sty (wrI e.bk) (rawI e.bk) m.begin m.place m.limit e.mp e.mo e.mag e.min 0 (nI e.p) (nI (4 * t)) (nI x) fuel' (nI y) m.size m.low m.carried m.span m.room m.next m.last m.upper known below latest early again m.sf m.lf m.bf) = (i', m'.V known' below' latest' early' again') ∧ (PL_X11_codePass_j_12 (nI e.W) (nI e.H) (nI e.band) e.sty (wrI e.bk) (rawI e.bk) m.begin m.place m.limit 47 e.mp 47 e.mo 4096 e.mag 4096 e.min 4096 4096 4096 4096 4096 19 19 65536 0 (nI e.p) (nI (4 * t)) (nI x) fuel' (nI y) m.size m.low m.carried m.span m.room m.next m.last m.upper known below latest early again m.sf m.lf m.bf) ∧ Kept e.bk c c' m m' ∧ Rel e 0 (t * (4 * e.W) + x * 4 + (bot - 4 * t)) G' g' gc c' m' mags' marks' known' below' latest' early' again' less' := by
  have hH := ok.H64
  have e4 : nI (4 * t) + (4 : Int32) = nI (4 * t + 4) := nI_add (4 * t) 4
  have knl := ok.knl
  have knu := ok.knu
  intro k
  induction k with
  | zero =>
    intro y fuel fuel' G g gc c m mags marks known below latest early again less h1 h2 h3 h4 h
    obtain ⟨n, rfl⟩ : ∃ n, fuel = n + 1 := ⟨fuel - 1, by omega⟩
    obtain ⟨n', rfl⟩ : ∃ n, fuel' = n + 1 := ⟨fuel' - 1, by omega⟩
    have hy : y = bot := by omega
    subst hy
    have q : nI y ≤ nI y := nI_le (Nat.le_refl _) (by omega)
    refine ⟨G, g, c, m, mags, marks, known, below, latest, early, again, less, nI y, ?_, ?_, ?_, ?_, ?_, Kept.refl _ _ _, h⟩
    · rw [L_X9_spread_j_1, if_pos q]; rfl
    · rw [PL_X9_spread_j_1]; exact fun z => absurd q z
    · rw [DL_X9_spread_j_1, if_pos q]; omega
    · rw [L_X11_codePass_j_12, e4]
      by_cases q2 : 4 * t + 4 ≤ y
      · rw [if_pos (nI_le q2 (by omega))]; rfl
      · rw [if_neg (nI_ge (by omega) (by omega)), if_pos (nI_le (by omega) (by omega))]; rfl
    · rw [PL_X11_codePass_j_12, e4]
      intro z1 z2
      by_cases q2 : 4 * t + 4 ≤ y
      · exact absurd (nI_le q2 (by omega)) z1
      · exact absurd (nI_le (by omega) (by omega)) z2
  | succ k ih =>
    intro y fuel fuel' G g gc c m mags marks known below latest early again less h1 h2 h3 h4 h
    obtain ⟨n, rfl⟩ : ∃ n, fuel = n + 1 := ⟨fuel - 1, by omega⟩
    obtain ⟨n', rfl⟩ : ∃ n, fuel' = n + 1 := ⟨fuel' - 1, by omega⟩
    have q : ¬ nI bot ≤ nI y := nI_ge (by omega) (by omega)
    have q2 : ¬ nI (4 * t + 4) ≤ nI y := nI_ge (by omega) (by omega)
    have q3 : ¬ nI e.H ≤ nI y := nI_ge (by omega) (by omega)
    have hy : y < e.H := by omega
    have hpl := plc hx hy
    obtain ⟨r, hr, hr4⟩ : ∃ r, y = 4 * t + r ∧ r < 4 := ⟨y - 4 * t, by omega, by omega⟩
    have hkey : key e.W x y = t * (4 * e.W) + x * 4 + (y - 4 * t) := by rw [hr, key_row hr4]; omega
    obtain ⟨G1, g1, c1, m1, mags1, marks1, known1, below1, latest1, early1, less1, s1, s2, s3, s4, s5, s6, s7⟩ := spread_step ok h hx hy (by omega)
    rw [hkey, show t * (4 * e.W) + x * 4 + (y - 4 * t) + 1 = t * (4 * e.W) + x * 4 + (y + 1 - 4 * t) by omega] at s7
    obtain ⟨G', g', c', m', mags', marks', known', below', latest', early', again', less', i', t1, t2, t3, t4, t5, t6, t7⟩ := ih (y + 1) n n' _ _ _ _ _ _ _ _ _ _ _ _ _ (by omega) (by omega) (by omega) (by omega) s7
    rw [s6.1, s6.2.1, s6.2.2.1, nI_succ] at t1 t2 t3
    rw [s6.2.2.2.1, s6.2.2.2.2.1, s6.2.2.2.2.2.1, nI_succ] at t4 t5
    refine ⟨G', g', c', m', mags', marks', known', below', latest', early', again', less', i', ?_, ?_, ?_, ?_, ?_, s6.trans t6, t7⟩
    · rw [L_X9_spread_j_1, if_neg q]
      simp only [place_ok, s1]
      exact t1
    · rw [PL_X9_spread_j_1]
      intro _ r3 e3
      rw [place_ok] at e3
      subst e3
      refine ⟨vp_in_nI (by omega) (by omega), s2, fun j ej => ?_⟩
      rw [s1] at ej
      subst ej
      exact t2
    · rw [DL_X9_spread_j_1, if_neg q]
      simp only [place_ok, s1]
      exact addC s3 t3
    · rw [L_X11_codePass_j_12, e4, if_neg q2, if_neg q3]
      simp only [s4]
      exact t4
    · rw [PL_X11_codePass_j_12, e4]
      refine fun _ _ => ⟨s5, fun r15 e15 => ?_⟩
      rw [s4] at e15
      subst e15
      exact t5
theorem refine_loop {e : EnvB} (ok : e.Ok) {x t bot : Nat} (hx : x < e.W) (hb : bot = min (4 * t + 4) e.H) : ∀ (k y fuel fuel' : Nat) (G : GF) (g : Nat → Nat) (gc : Nat → Nat) (c : CS) (m : MS) (mags marks known below latest early again : Nat → Int32) (less : Int64), y + k = bot → 4 * t ≤ y → k < fuel → k < fuel' → Rel e 1 (t * (4 * e.W) + x * 4 + (y - 4 * t)) G g gc c m mags marks known below latest early again less →
    ∃ (G' : GF) (g' : Nat → Nat) (c' : CS) (m' : MS) (mags' marks' known' below' latest' early' again' : Nat → Int32) (less' : Int64) (i' : Int32), (L_X9_refine_j_1 (nI x) (nI bot) c.start 19 19 c.cend c.rend (nI e.W) e.coef e.bk (nI e.p) fuel (nI y) c.count c.bn c.bf c.sf c.lf c.low c.size c.room c.free c.place c.window c.csize c.croom c.rplace c.cur c.left mags marks less) = (nI bot, c'.U mags' marks' less') ∧ (PL_X9_refine_j_1 (nI x) (nI bot) c.start 19 19 c.cend c.rend (nI e.W) e.cn e.coef e.gn e.kn e.bk (nI e.p) fuel (nI y) c.count c.bn c.bf c.sf c.lf c.low c.size c.room c.free c.place c.window c.csize c.croom c.rplace c.cur c.left mags marks less) ∧ (DL_X9_refine_j_1 (nI x) (nI bot) c.start 19 19 c.cend c.rend (nI e.W) e.coef e.bk (nI e.p) fuel (nI y) c.count c.bn c.bf c.sf c.lf c.low c.size c.room c.free c.place c.window c.csize c.croom c.rplace c.cur c.left mags marks less) + 3 * c.bn ≤ 3 * c'.bn ∧
    (L_X11_codePass_j_12 (nI e.W) (nI e.H) (nI e.band) e.sty (wrI e.bk) (rawI e.bk) m.begin m.place m.limit e.mp e.mo e.mag e.min 1 (nI e.p) (nI (4 * t)) (nI x) fuel' (nI y) m.size m.low m.carried m.span m.room m.next m.last m.upper known below latest early again m.sf m.lf m.bf) = (i', m'.V known' below' latest' early' again') ∧ (PL_X11_codePass_j_12 (nI e.W) (nI e.H) (nI e.band) e.sty (wrI e.bk) (rawI e.bk) m.begin m.place m.limit 47 e.mp 47 e.mo 4096 e.mag 4096 e.min 4096 4096 4096 4096 4096 19 19 65536 1 (nI e.p) (nI (4 * t)) (nI x) fuel' (nI y) m.size m.low m.carried m.span m.room m.next m.last m.upper known below latest early again m.sf m.lf m.bf) ∧ Kept e.bk c c' m m' ∧ Rel e 1 (t * (4 * e.W) + x * 4 + (bot - 4 * t)) G' g' gc c' m' mags' marks' known' below' latest' early' again' less' := by
  have hH := ok.H64
  have e4 : nI (4 * t) + (4 : Int32) = nI (4 * t + 4) := nI_add (4 * t) 4
  have knl := ok.knl
  have knu := ok.knu
  intro k
  induction k with
  | zero =>
    intro y fuel fuel' G g gc c m mags marks known below latest early again less h1 h2 h3 h4 h
    obtain ⟨n, rfl⟩ : ∃ n, fuel = n + 1 := ⟨fuel - 1, by omega⟩
    obtain ⟨n', rfl⟩ : ∃ n, fuel' = n + 1 := ⟨fuel' - 1, by omega⟩
    have hy : y = bot := by omega
    subst hy
    have q : nI y ≤ nI y := nI_le (Nat.le_refl _) (by omega)
    refine ⟨G, g, c, m, mags, marks, known, below, latest, early, again, less, nI y, ?_, ?_, ?_, ?_, ?_, Kept.refl _ _ _, h⟩
    · rw [L_X9_refine_j_1, if_pos q]; rfl
    · rw [PL_X9_refine_j_1]; exact fun z => absurd q z
    · rw [DL_X9_refine_j_1, if_pos q]; omega
    · rw [L_X11_codePass_j_12, e4]
      by_cases q2 : 4 * t + 4 ≤ y
      · rw [if_pos (nI_le q2 (by omega))]; rfl
      · rw [if_neg (nI_ge (by omega) (by omega)), if_pos (nI_le (by omega) (by omega))]; rfl
    · rw [PL_X11_codePass_j_12, e4]
      intro z1 z2
      by_cases q2 : 4 * t + 4 ≤ y
      · exact absurd (nI_le q2 (by omega)) z1
      · exact absurd (nI_le (by omega) (by omega)) z2
  | succ k ih =>
    intro y fuel fuel' G g gc c m mags marks known below latest early again less h1 h2 h3 h4 h
    obtain ⟨n, rfl⟩ : ∃ n, fuel = n + 1 := ⟨fuel - 1, by omega⟩
    obtain ⟨n', rfl⟩ : ∃ n, fuel' = n + 1 := ⟨fuel' - 1, by omega⟩
    have q : ¬ nI bot ≤ nI y := nI_ge (by omega) (by omega)
    have q2 : ¬ nI (4 * t + 4) ≤ nI y := nI_ge (by omega) (by omega)
    have q3 : ¬ nI e.H ≤ nI y := nI_ge (by omega) (by omega)
    have hy : y < e.H := by omega
    have hpl := plc hx hy
    obtain ⟨r, hr, hr4⟩ : ∃ r, y = 4 * t + r ∧ r < 4 := ⟨y - 4 * t, by omega, by omega⟩
    have hkey : key e.W x y = t * (4 * e.W) + x * 4 + (y - 4 * t) := by rw [hr, key_row hr4]; omega
    obtain ⟨G1, g1, c1, m1, mags1, marks1, known1, latest1, again1, less1, s1, s2, s3, s4, s5, s6, s7⟩ := refine_step ok h hx hy (by omega)
    rw [hkey, show t * (4 * e.W) + x * 4 + (y - 4 * t) + 1 = t * (4 * e.W) + x * 4 + (y + 1 - 4 * t) by omega] at s7
    obtain ⟨G', g', c', m', mags', marks', known', below', latest', early', again', less', i', t1, t2, t3, t4, t5, t6, t7⟩ := ih (y + 1) n n' _ _ _ _ _ _ _ _ _ _ _ _ _ (by omega) (by omega) (by omega) (by omega) s7
    rw [s6.1, s6.2.1, s6.2.2.1, nI_succ] at t1 t2 t3
    rw [s6.2.2.2.1, s6.2.2.2.2.1, s6.2.2.2.2.2.1, nI_succ] at t4 t5
    refine ⟨G', g', c', m', mags', marks', known', below', latest', early', again', less', i', ?_, ?_, ?_, ?_, ?_, s6.trans t6, t7⟩
    · rw [L_X9_refine_j_1, if_neg q]
      simp only [place_ok, s1]
      exact t1
    · rw [PL_X9_refine_j_1]
      intro _ r3 e3
      rw [place_ok] at e3
      subst e3
      refine ⟨vp_in_nI (by omega) (by omega), s2, fun j ej => ?_⟩
      rw [s1] at ej
      subst ej
      exact t2
    · rw [DL_X9_refine_j_1, if_neg q]
      simp only [place_ok, s1]
      exact addC s3 t3
    · rw [L_X11_codePass_j_12, e4, if_neg q2, if_neg q3]
      simp only [s4]
      exact t4
    · rw [PL_X11_codePass_j_12, e4]
      refine fun _ _ => ⟨s5, fun r15 e15 => ?_⟩
      rw [s4] at e15
      subst e15
      exact t5
theorem clean_loop {e : EnvB} (ok : e.Ok) {x t bot : Nat} (hx : x < e.W) (hb : bot = min (4 * t + 4) e.H) : ∀ (k y fuel fuel' : Nat) (G : GF) (g : Nat → Nat) (gc : Nat → Nat) (c : CS) (m : MS) (mags marks known below latest early again : Nat → Int32) (less : Int64), y + k = bot → 4 * t ≤ y → k < fuel → k < fuel' → Rel e 2 (t * (4 * e.W) + x * 4 + (y - 4 * t)) G g gc c m mags marks known below latest early again less →
    ∃ (G' : GF) (g' : Nat → Nat) (c' : CS) (m' : MS) (mags' marks' known' below' latest' early' again' : Nat → Int32) (less' : Int64) (i' : Int32), (L_X9_clean_j_9 (nI x) (nI bot) c.start 19 19 c.cend c.rend (nI e.W) (nI e.H) (nI e.band) (bI (czOf e.sty)) e.coef e.bk (rawI e.bk) (nI e.p) fuel (nI y) c.count c.bn c.bf c.sf c.lf c.low c.size c.room c.free c.place c.window c.csize c.croom c.rplace c.cur c.left mags marks less) = (nI bot, c'.U mags' marks' less') ∧ (PL_X9_clean_j_9 (nI x) (nI bot) c.start 19 19 c.cend c.rend (nI e.W) (nI e.H) (nI e.band) (bI (czOf e.sty)) e.cn e.coef e.gn e.kn e.bk (rawI e.bk) (nI e.p) fuel (nI y) c.count c.bn c.bf c.sf c.lf c.low c.size c.room c.free c.place c.window c.csize c.croom c.rplace c.cur c.left mags marks less) ∧ (DL_X9_clean_j_9 (nI x) (nI bot) c.start 19 19 c.cend c.rend (nI e.W) (nI e.H) (nI e.band) (bI (czOf e.sty)) e.coef e.bk (rawI e.bk) (nI e.p) fuel (nI y) c.count c.bn c.bf c.sf c.lf c.low c.size c.room c.free c.place c.window c.csize c.croom c.rplace c.cur c.left mags marks less) + 3 * c.bn ≤ 3 * c'.bn ∧
    (L_X11_codePass_j_12 (nI e.W) (nI e.H) (nI e.band) e.sty (wrI e.bk) (rawI e.bk) m.begin m.place m.limit e.mp e.mo e.mag e.min 2 (nI e.p) (nI (4 * t)) (nI x) fuel' (nI y) m.size m.low m.carried m.span m.room m.next m.last m.upper known below latest early again m.sf m.lf m.bf) = (i', m'.V known' below' latest' early' again') ∧ (PL_X11_codePass_j_12 (nI e.W) (nI e.H) (nI e.band) e.sty (wrI e.bk) (rawI e.bk) m.begin m.place m.limit 47 e.mp 47 e.mo 4096 e.mag 4096 e.min 4096 4096 4096 4096 4096 19 19 65536 2 (nI e.p) (nI (4 * t)) (nI x) fuel' (nI y) m.size m.low m.carried m.span m.room m.next m.last m.upper known below latest early again m.sf m.lf m.bf) ∧ Kept e.bk c c' m m' ∧ Rel e 2 (t * (4 * e.W) + x * 4 + (bot - 4 * t)) G' g' gc c' m' mags' marks' known' below' latest' early' again' less' := by
  have hH := ok.H64
  have e4 : nI (4 * t) + (4 : Int32) = nI (4 * t + 4) := nI_add (4 * t) 4
  have knl := ok.knl
  have knu := ok.knu
  intro k
  induction k with
  | zero =>
    intro y fuel fuel' G g gc c m mags marks known below latest early again less h1 h2 h3 h4 h
    obtain ⟨n, rfl⟩ : ∃ n, fuel = n + 1 := ⟨fuel - 1, by omega⟩
    obtain ⟨n', rfl⟩ : ∃ n, fuel' = n + 1 := ⟨fuel' - 1, by omega⟩
    have hy : y = bot := by omega
    subst hy
    have q : nI y ≤ nI y := nI_le (Nat.le_refl _) (by omega)
    refine ⟨G, g, c, m, mags, marks, known, below, latest, early, again, less, nI y, ?_, ?_, ?_, ?_, ?_, Kept.refl _ _ _, h⟩
    · rw [L_X9_clean_j_9, if_pos q]; rfl
    · rw [PL_X9_clean_j_9]; exact fun z => absurd q z
    · rw [DL_X9_clean_j_9, if_pos q]; omega
    · rw [L_X11_codePass_j_12, e4]
      by_cases q2 : 4 * t + 4 ≤ y
      · rw [if_pos (nI_le q2 (by omega))]; rfl
      · rw [if_neg (nI_ge (by omega) (by omega)), if_pos (nI_le (by omega) (by omega))]; rfl
    · rw [PL_X11_codePass_j_12, e4]
      intro z1 z2
      by_cases q2 : 4 * t + 4 ≤ y
      · exact absurd (nI_le q2 (by omega)) z1
      · exact absurd (nI_le (by omega) (by omega)) z2
  | succ k ih =>
    intro y fuel fuel' G g gc c m mags marks known below latest early again less h1 h2 h3 h4 h
    obtain ⟨n, rfl⟩ : ∃ n, fuel = n + 1 := ⟨fuel - 1, by omega⟩
    obtain ⟨n', rfl⟩ : ∃ n, fuel' = n + 1 := ⟨fuel' - 1, by omega⟩
    have q : ¬ nI bot ≤ nI y := nI_ge (by omega) (by omega)
    have q2 : ¬ nI (4 * t + 4) ≤ nI y := nI_ge (by omega) (by omega)
    have q3 : ¬ nI e.H ≤ nI y := nI_ge (by omega) (by omega)
    have hy : y < e.H := by omega
    have hpl := plc hx hy
    obtain ⟨r, hr, hr4⟩ : ∃ r, y = 4 * t + r ∧ r < 4 := ⟨y - 4 * t, by omega, by omega⟩
    have hkey : key e.W x y = t * (4 * e.W) + x * 4 + (y - 4 * t) := by rw [hr, key_row hr4]; omega
    obtain ⟨G1, g1, c1, m1, mags1, marks1, known1, below1, latest1, less1, s1, s2, s3, s4, s5, s6, s7⟩ := clean_step ok h hx hy (by omega)
    rw [hkey, show t * (4 * e.W) + x * 4 + (y - 4 * t) + 1 = t * (4 * e.W) + x * 4 + (y + 1 - 4 * t) by omega] at s7
    obtain ⟨G', g', c', m', mags', marks', known', below', latest', early', again', less', i', t1, t2, t3, t4, t5, t6, t7⟩ := ih (y + 1) n n' _ _ _ _ _ _ _ _ _ _ _ _ _ (by omega) (by omega) (by omega) (by omega) s7
    rw [s6.1, s6.2.1, s6.2.2.1, nI_succ] at t1 t2 t3
    rw [s6.2.2.2.1, s6.2.2.2.2.1, s6.2.2.2.2.2.1, nI_succ] at t4 t5
    refine ⟨G', g', c', m', mags', marks', known', below', latest', early', again', less', i', ?_, ?_, ?_, ?_, ?_, s6.trans t6, t7⟩
    · rw [L_X9_clean_j_9, if_neg q]
      simp only [place_ok, s1]
      exact t1
    · rw [PL_X9_clean_j_9]
      intro _ r3 e3
      rw [place_ok] at e3
      subst e3
      refine ⟨vp_in_nI (by omega) (by omega), s2, fun j ej => ?_⟩
      rw [s1] at ej
      subst ej
      exact t2
    · rw [DL_X9_clean_j_9, if_neg q]
      simp only [place_ok, s1]
      exact addC s3 t3
    · rw [L_X11_codePass_j_12, e4, if_neg q2, if_neg q3]
      simp only [s4]
      exact t4
    · rw [PL_X11_codePass_j_12, e4]
      refine fun _ _ => ⟨s5, fun r15 e15 => ?_⟩
      rw [s4] at e15
      subst e15
      exact t5

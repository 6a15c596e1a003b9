/-! ===== PURE: columns, stripes, all stripes ===== -/
theorem bot_ok {t H : Nat} (h : 4 * t < H) (hH : H ≤ 64) : (if nI H < (nI (4 * t) + (4 : Int32)) then nI H else (nI (4 * t) + (4 : Int32))) = nI (min (4 * t + 4) H) := by
  have e4 : nI (4 * t) + (4 : Int32) = nI (4 * t + 4) := nI_add (4 * t) 4
  rw [e4]
  by_cases c : H < 4 * t + 4
  · rw [if_pos (nI_lt c (by omega)), show min (4 * t + 4) H = H by omega]
  · rw [if_neg (nI_nlt (by omega) (by omega)), show min (4 * t + 4) H = 4 * t + 4 by omega]
theorem spread_col {e : EnvB} (ok : e.Ok) {G : GF} {g gc : Nat → Nat} {c : CS} {m : MS} {mags marks known below latest early again : Nat → Int32} {less : Int64} {x t : Nat} (h : Rel e 0 (t * (4 * e.W) + x * 4) G g gc c m mags marks known below latest early again less) (hx : x < e.W) (ht : 4 * t < e.H) :
    ∃ (G' : GF) (g' gc' : Nat → Nat) (c' : CS) (m1 m' : MS) (mags' marks' known1 below1 latest1 known' below' latest' early' again' : Nat → Int32) (less' : Int64) (d i' : Int32), (J_X9_go_j_16 0 c.start 19 19 c.cend c.rend (nI e.W) (nI e.H) (nI e.band) (bI (czOf e.sty)) e.coef e.bk (rawI e.bk) (nI e.p) (nI (4 * t)) (nI x) c.count c.bn c.bf c.sf c.lf c.low c.size c.room c.free c.place c.window c.csize c.croom c.rplace c.cur c.left mags marks less) = c'.U mags' marks' less' ∧ (PJ_X9_go_j_16 0 c.start 19 19 c.cend c.rend (nI e.W) (nI e.H) (nI e.band) (bI (czOf e.sty)) e.cn e.coef e.gn e.kn e.bk (rawI e.bk) (nI e.p) (nI (4 * t)) (nI x) c.count c.bn c.bf c.sf c.lf c.low c.size c.room c.free c.place c.window c.csize c.croom c.rplace c.cur c.left mags marks less) ∧ (DJ_X9_go_j_16 0 c.start 19 19 c.cend c.rend (nI e.W) (nI e.H) (nI e.band) (bI (czOf e.sty)) e.coef e.bk (rawI e.bk) (nI e.p) (nI (4 * t)) (nI x) c.count c.bn c.bf c.sf c.lf c.low c.size c.room c.free c.place c.window c.csize c.croom c.rplace c.cur c.left mags marks less) + 3 * c.bn ≤ 3 * c'.bn ∧
    (J_X11_codePass_j_11 (nI e.W) (nI e.H) (nI e.band) e.sty (wrI e.bk) (rawI e.bk) m.begin m.place m.limit e.mp e.mo e.mag e.min 0 (nI e.p) (nI (4 * t)) (nI x) m.size m.low m.carried m.span m.room m.next m.last m.upper known below latest early m.sf m.lf m.bf) = (d, m1.U known1 below1 latest1) ∧ (PJ_X11_codePass_j_11 (nI e.W) (nI e.H) (nI e.band) e.sty (wrI e.bk) (rawI e.bk) m.begin m.place m.limit 47 e.mp 47 e.mo 4096 e.mag 4096 e.min 4096 4096 4096 4096 19 19 65536 0 (nI e.p) (nI (4 * t)) (nI x) m.size m.low m.carried m.span m.room m.next m.last m.upper known below early m.sf m.lf m.bf) ∧
    (L_X11_codePass_j_12 (nI e.W) (nI e.H) (nI e.band) e.sty (wrI e.bk) (rawI e.bk) m.begin m.place m.limit e.mp e.mo e.mag e.min 0 (nI e.p) (nI (4 * t)) (nI x) fu (nI (4 * t) + d) m1.size m1.low m1.carried m1.span m1.room m1.next m1.last m1.upper known1 below1 latest1 early again m1.sf m1.lf m1.bf) = (i', m'.V known' below' latest' early' again') ∧ (PL_X11_codePass_j_12 (nI e.W) (nI e.H) (nI e.band) e.sty (wrI e.bk) (rawI e.bk) m.begin m.place m.limit 47 e.mp 47 e.mo 4096 e.mag 4096 e.min 4096 4096 4096 4096 4096 19 19 65536 0 (nI e.p) (nI (4 * t)) (nI x) fu (nI (4 * t) + d) m1.size m1.low m1.carried m1.span m1.room m1.next m1.last m1.upper known1 below1 latest1 early again m1.sf m1.lf m1.bf) ∧
    Kept e.bk c c' m m' ∧ Rel e 0 (t * (4 * e.W) + (x + 1) * 4) G' g' gc' c' m' mags' marks' known' below' latest' early' again' less' := by
  have hH := ok.H64
  have hfu := fu_ge
  have hbot := bot_ok ht hH
  obtain ⟨G', g', c', m', mags', marks', known', below', latest', early', again', less', i', t1, t2, t3, t4, t5, t6, t7⟩ := spread_loop ok (x := x) (t := t) (bot := min (4 * t + 4) e.H) hx rfl (min (4 * t + 4) e.H - 4 * t) (4 * t) fu fu G g gc c m mags marks known below latest early again less (by omega) (by omega) (by omega) (by omega) (by rw [Nat.sub_self, Nat.add_zero]; exact h)
  refine ⟨G', g', gc, c', m, m', mags', marks', known, below, latest, known', below', latest', early', again', less', 0, i', ?_, ?_, ?_, ?_, fun z => absurd z (by decide), ?_, ?_, t6, ⟨t7.cod, t7.fld, t7.err, t7.chg.mono (by omega)⟩⟩
  · unfold J_X9_go_j_16
    simp only [hbot, if_true]
    have hF : (F_X9_spread (nI x) (nI (4 * t)) (nI (min (4 * t + 4) e.H)) c.count c.start c.bn c.bf 19 c.sf 19 c.lf c.low c.size c.room c.free c.place c.cend c.window c.csize c.croom c.rplace c.rend c.cur c.left (nI e.W) (nI e.H) (nI e.band) (bI (czOf e.sty)) e.coef mags marks less e.bk (rawI e.bk) (nI e.p)) = c'.U mags' marks' less' := by
      unfold F_X9_spread
      rw [t1]
      try rfl
    rw [hF]
    try rfl
  · unfold PJ_X9_go_j_16
    rw [hbot]
    exact ⟨fun _ => t2, fun z => absurd rfl z⟩
  · unfold DJ_X9_go_j_16
    simp only [hbot, if_true, Nat.add_zero]
    unfold D_X9_spread
    simp only [Nat.add_zero]
    exact t3
  · unfold J_X11_codePass_j_11
    rw [if_neg (by decide)]
    rfl
  · rw [Int32.add_zero]; exact t4
  · rw [Int32.add_zero]; exact t5
theorem spread_row {e : EnvB} (ok : e.Ok) {t : Nat} (ht : 4 * t < e.H) : ∀ (k x fuel fuel' : Nat) (G : GF) (g gc : Nat → Nat) (c : CS) (m : MS) (mags marks known below latest early again : Nat → Int32) (less : Int64), x + k = e.W → k < fuel → k < fuel' → Rel e 0 (t * (4 * e.W) + x * 4) G g gc c m mags marks known below latest early again less →
    ∃ (G' : GF) (g' gc' : Nat → Nat) (c' : CS) (m' : MS) (mags' marks' known' below' latest' early' again' : Nat → Int32) (less' : Int64) (i i' : Int32), (L_X9_go_j_6 0 c.start 19 19 c.cend c.rend (nI e.W) (nI e.H) (nI e.band) (bI (czOf e.sty)) e.coef e.bk (rawI e.bk) (nI e.p) (nI (4 * t)) fuel (nI x) c.count c.bn c.bf c.sf c.lf c.low c.size c.room c.free c.place c.window c.csize c.croom c.rplace c.cur c.left mags marks less) = (i, c'.U mags' marks' less') ∧ (PL_X9_go_j_6 0 c.start 19 19 c.cend c.rend (nI e.W) (nI e.H) (nI e.band) (bI (czOf e.sty)) e.cn e.coef e.gn e.kn e.bk (rawI e.bk) (nI e.p) (nI (4 * t)) fuel (nI x) c.count c.bn c.bf c.sf c.lf c.low c.size c.room c.free c.place c.window c.csize c.croom c.rplace c.cur c.left mags marks less) ∧ (DL_X9_go_j_6 0 c.start 19 19 c.cend c.rend (nI e.W) (nI e.H) (nI e.band) (bI (czOf e.sty)) e.coef e.bk (rawI e.bk) (nI e.p) (nI (4 * t)) fuel (nI x) c.count c.bn c.bf c.sf c.lf c.low c.size c.room c.free c.place c.window c.csize c.croom c.rplace c.cur c.left mags marks less) + 3 * c.bn ≤ 3 * c'.bn ∧
    (L_X11_codePass_j_5 (nI e.W) (nI e.H) (nI e.band) e.sty (wrI e.bk) (rawI e.bk) m.begin m.place m.limit e.mp e.mo e.mag e.min 0 (nI e.p) (nI (4 * t)) fuel' (nI x) m.size m.low m.carried m.span m.room m.next m.last m.upper known below latest early again m.sf m.lf m.bf) = (i', m'.V known' below' latest' early' again') ∧ (PL_X11_codePass_j_5 (nI e.W) (nI e.H) (nI e.band) e.sty (wrI e.bk) (rawI e.bk) m.begin m.place m.limit 47 e.mp 47 e.mo 4096 e.mag 4096 e.min 4096 4096 4096 4096 4096 19 19 65536 0 (nI e.p) (nI (4 * t)) fuel' (nI x) m.size m.low m.carried m.span m.room m.next m.last m.upper known below latest early again m.sf m.lf m.bf) ∧ Kept e.bk c c' m m' ∧ Rel e 0 ((t + 1) * (4 * e.W)) G' g' gc' c' m' mags' marks' known' below' latest' early' again' less' := by
  have hW := ok.W64
  intro k
  induction k with
  | zero =>
    intro x fuel fuel' G g gc c m mags marks known below latest early again less h1 h2 h3 h
    obtain ⟨n, rfl⟩ : ∃ n, fuel = n + 1 := ⟨fuel - 1, by omega⟩
    obtain ⟨n', rfl⟩ : ∃ n, fuel' = n + 1 := ⟨fuel' - 1, by omega⟩
    have q : nI e.W ≤ nI x := nI_le (by omega) (by omega)
    refine ⟨G, g, gc, c, m, mags, marks, known, below, latest, early, again, less, nI x, nI x, ?_, ?_, ?_, ?_, ?_, Kept.refl _ _ _, ⟨h.cod, h.fld, h.err, h.chg.mono (by have hm : (t + 1) * (4 * e.W) = t * (4 * e.W) + 4 * e.W := Nat.succ_mul _ _; omega)⟩⟩
    · rw [L_X9_go_j_6, if_pos q]; rfl
    · rw [PL_X9_go_j_6]; exact fun z => absurd q z
    · rw [DL_X9_go_j_6, if_pos q]; omega
    · rw [L_X11_codePass_j_5, if_pos q]; rfl
    · rw [PL_X11_codePass_j_5]; exact fun z => absurd q z
  | succ k ih =>
    intro x fuel fuel' G g gc c m mags marks known below latest early again less h1 h2 h3 h
    obtain ⟨n, rfl⟩ : ∃ n, fuel = n + 1 := ⟨fuel - 1, by omega⟩
    obtain ⟨n', rfl⟩ : ∃ n, fuel' = n + 1 := ⟨fuel' - 1, by omega⟩
    have q : ¬ nI e.W ≤ nI x := nI_ge (by omega) (by omega)
    obtain ⟨G1, g1, gc1, c1, ma, m1, mags1, marks1, knowna, belowa, latesta, known1, below1, latest1, early1, again1, less1, d, i1, s1, s2, s3, s4, s5, s6, s7, s8, s9⟩ := spread_col ok h (show x < e.W by omega) ht
    obtain ⟨G', g', gc', c', m', mags', marks', known', below', latest', early', again', less', i, i', t1, t2, t3, t4, t5, t6, t7⟩ := ih (x + 1) n n' _ _ _ _ _ _ _ _ _ _ _ _ _ (by omega) (by omega) (by omega) s9
    rw [s8.1, s8.2.1, s8.2.2.1, nI_succ] at t1 t2 t3
    rw [s8.2.2.2.1, s8.2.2.2.2.1, s8.2.2.2.2.2.1, nI_succ] at t4 t5
    refine ⟨G', g', gc', c', m', mags', marks', known', below', latest', early', again', less', i, i', ?_, ?_, ?_, ?_, ?_, s8.trans t6, t7⟩
    · rw [L_X9_go_j_6, if_neg q]
      simp only [s1]
      exact t1
    · rw [PL_X9_go_j_6]
      refine fun _ => ⟨s2, fun j ej => ?_⟩
      rw [s1] at ej
      subst ej
      exact t2
    · rw [DL_X9_go_j_6, if_neg q]
      simp only [s1]
      exact addC s3 t3
    · rw [L_X11_codePass_j_5, if_neg q]
      simp only [s4]
      simp only [MS.U, s6]
      exact t4
    · rw [PL_X11_codePass_j_5]
      refine fun _ => ⟨s5, fun j11 e11 => ?_⟩
      rw [s4] at e11
      subst e11
      refine ⟨s7, fun j12 e12 => ?_⟩
      have e13 : (i1, m1.V known1 below1 latest1 early1 again1) = j12 := by rw [← s6]; exact e12
      subst e13
      exact t5
theorem spread_all {e : EnvB} (ok : e.Ok) : ∀ (k t fuel fuel' : Nat) (G : GF) (g gc : Nat → Nat) (c : CS) (m : MS) (mags marks known below latest early again : Nat → Int32) (less : Int64), e.H ≤ 4 * t + 4 * k → k < fuel → k < fuel' → t ≤ 17 → t + k ≤ 17 → Rel e 0 (t * (4 * e.W)) G g gc c m mags marks known below latest early again less →
    ∃ (G' : GF) (g' gc' : Nat → Nat) (c' : CS) (m' : MS) (mags' marks' known' below' latest' early' again' : Nat → Int32) (less' : Int64) (i i' : Int32), (L_X9_go_j_4 0 c.start 19 19 c.cend c.rend (nI e.W) (nI e.H) (nI e.band) (bI (czOf e.sty)) e.coef e.bk (rawI e.bk) (nI e.p) fuel (nI (4 * t)) c.count c.bn c.bf c.sf c.lf c.low c.size c.room c.free c.place c.window c.csize c.croom c.rplace c.cur c.left mags marks less) = (i, c'.U mags' marks' less') ∧ (PL_X9_go_j_4 0 c.start 19 19 c.cend c.rend (nI e.W) (nI e.H) (nI e.band) (bI (czOf e.sty)) e.cn e.coef e.gn e.kn e.bk (rawI e.bk) (nI e.p) fuel (nI (4 * t)) c.count c.bn c.bf c.sf c.lf c.low c.size c.room c.free c.place c.window c.csize c.croom c.rplace c.cur c.left mags marks less) ∧ (DL_X9_go_j_4 0 c.start 19 19 c.cend c.rend (nI e.W) (nI e.H) (nI e.band) (bI (czOf e.sty)) e.coef e.bk (rawI e.bk) (nI e.p) fuel (nI (4 * t)) c.count c.bn c.bf c.sf c.lf c.low c.size c.room c.free c.place c.window c.csize c.croom c.rplace c.cur c.left mags marks less) + 3 * c.bn ≤ 3 * c'.bn ∧
    (L_X11_codePass_j_3 (nI e.W) (nI e.H) (nI e.band) e.sty (wrI e.bk) (rawI e.bk) m.begin m.place m.limit e.mp e.mo e.mag e.min 0 (nI e.p) fuel' (nI (4 * t)) m.size m.low m.carried m.span m.room m.next m.last m.upper known below latest early again m.sf m.lf m.bf) = (i', m'.V known' below' latest' early' again') ∧ (PL_X11_codePass_j_3 (nI e.W) (nI e.H) (nI e.band) e.sty (wrI e.bk) (rawI e.bk) m.begin m.place m.limit 47 e.mp 47 e.mo 4096 e.mag 4096 e.min 4096 4096 4096 4096 4096 19 19 65536 0 (nI e.p) fuel' (nI (4 * t)) m.size m.low m.carried m.span m.room m.next m.last m.upper known below latest early again m.sf m.lf m.bf) ∧ Kept e.bk c c' m m' ∧ Rel e 0 (17 * (4 * e.W)) G' g' gc' c' m' mags' marks' known' below' latest' early' again' less' := by
  have hH := ok.H64
  have hW := ok.W64
  have hfu := fu_ge
  have stop : ∀ (t fuel fuel' : Nat) (G : GF) (g gc : Nat → Nat) (c : CS) (m : MS) (mags marks known below latest early again : Nat → Int32) (less : Int64), e.H ≤ 4 * t → 0 < fuel → 0 < fuel' → t ≤ 17 → Rel e 0 (t * (4 * e.W)) G g gc c m mags marks known below latest early again less →
    ∃ (G' : GF) (g' gc' : Nat → Nat) (c' : CS) (m' : MS) (mags' marks' known' below' latest' early' again' : Nat → Int32) (less' : Int64) (i i' : Int32), (L_X9_go_j_4 0 c.start 19 19 c.cend c.rend (nI e.W) (nI e.H) (nI e.band) (bI (czOf e.sty)) e.coef e.bk (rawI e.bk) (nI e.p) fuel (nI (4 * t)) c.count c.bn c.bf c.sf c.lf c.low c.size c.room c.free c.place c.window c.csize c.croom c.rplace c.cur c.left mags marks less) = (i, c'.U mags' marks' less') ∧ (PL_X9_go_j_4 0 c.start 19 19 c.cend c.rend (nI e.W) (nI e.H) (nI e.band) (bI (czOf e.sty)) e.cn e.coef e.gn e.kn e.bk (rawI e.bk) (nI e.p) fuel (nI (4 * t)) c.count c.bn c.bf c.sf c.lf c.low c.size c.room c.free c.place c.window c.csize c.croom c.rplace c.cur c.left mags marks less) ∧ (DL_X9_go_j_4 0 c.start 19 19 c.cend c.rend (nI e.W) (nI e.H) (nI e.band) (bI (czOf e.sty)) e.coef e.bk (rawI e.bk) (nI e.p) fuel (nI (4 * t)) c.count c.bn c.bf c.sf c.lf c.low c.size c.room c.free c.place c.window c.csize c.croom c.rplace c.cur c.left mags marks less) + 3 * c.bn ≤ 3 * c'.bn ∧
    (L_X11_codePass_j_3 (nI e.W) (nI e.H) (nI e.band) e.sty (wrI e.bk) (rawI e.bk) m.begin m.place m.limit e.mp e.mo e.mag e.min 0 (nI e.p) fuel' (nI (4 * t)) m.size m.low m.carried m.span m.room m.next m.last m.upper known below latest early again m.sf m.lf m.bf) = (i', m'.V known' below' latest' early' again') ∧ (PL_X11_codePass_j_3 (nI e.W) (nI e.H) (nI e.band) e.sty (wrI e.bk) (rawI e.bk) m.begin m.place m.limit 47 e.mp 47 e.mo 4096 e.mag 4096 e.min 4096 4096 4096 4096 4096 19 19 65536 0 (nI e.p) fuel' (nI (4 * t)) m.size m.low m.carried m.span m.room m.next m.last m.upper known below latest early again m.sf m.lf m.bf) ∧ Kept e.bk c c' m m' ∧ Rel e 0 (17 * (4 * e.W)) G' g' gc' c' m' mags' marks' known' below' latest' early' again' less' := by
    intro t fuel fuel' G g gc c m mags marks known below latest early again less h1 h2 h3 h4 h
    obtain ⟨n, rfl⟩ : ∃ n, fuel = n + 1 := ⟨fuel - 1, by omega⟩
    obtain ⟨n', rfl⟩ : ∃ n, fuel' = n + 1 := ⟨fuel' - 1, by omega⟩
    have q : nI e.H ≤ nI (4 * t) := nI_le h1 (by omega)
    refine ⟨G, g, gc, c, m, mags, marks, known, below, latest, early, again, less, nI (4 * t), nI (4 * t), ?_, ?_, ?_, ?_, ?_, Kept.refl _ _ _, ⟨h.cod, h.fld, h.err, h.chg.mono (Nat.mul_le_mul_right _ h4)⟩⟩
    · rw [L_X9_go_j_4, if_pos q]; rfl
    · rw [PL_X9_go_j_4]; exact fun z => absurd q z
    · rw [DL_X9_go_j_4, if_pos q]; omega
    · rw [L_X11_codePass_j_3, if_pos q]; rfl
    · rw [PL_X11_codePass_j_3]; exact fun z => absurd q z
  intro k
  induction k with
  | zero =>
    intro t fuel fuel' G g gc c m mags marks known below latest early again less h1 h2 h3 h4 h5 h
    exact stop t fuel fuel' G g gc c m mags marks known below latest early again less (by omega) (by omega) (by omega) h4 h
  | succ k ih =>
    intro t fuel fuel' G g gc c m mags marks known below latest early again less h1 h2 h3 h4 h5 h
    by_cases hdone : e.H ≤ 4 * t
    · exact stop t fuel fuel' G g gc c m mags marks known below latest early again less hdone (by omega) (by omega) h4 h
    · obtain ⟨n, rfl⟩ : ∃ n, fuel = n + 1 := ⟨fuel - 1, by omega⟩
      obtain ⟨n', rfl⟩ : ∃ n, fuel' = n + 1 := ⟨fuel' - 1, by omega⟩
      have q : ¬ nI e.H ≤ nI (4 * t) := nI_ge (by omega) (by omega)
      have e4 : nI (4 * t) + (4 : Int32) = nI (4 * (t + 1)) := nI_add (4 * t) 4
      obtain ⟨G1, g1, gc1, c1, m1, mags1, marks1, known1, below1, latest1, early1, again1, less1, i1, i2, s1, s2, s3, s4, s5, s6, s7⟩ := spread_row ok (t := t) (by omega) e.W 0 fu fu _ _ _ _ _ _ _ _ _ _ _ _ _ (by omega) (by omega) (by omega) (by rw [Nat.zero_mul, Nat.add_zero]; exact h)
      obtain ⟨G', g', gc', c', m', mags', marks', known', below', latest', early', again', less', i, i', t1, t2, t3, t4, t5, t6, t7⟩ := ih (t + 1) n n' _ _ _ _ _ _ _ _ _ _ _ _ _ (by omega) (by omega) (by omega) (by omega) (by omega) s7
      rw [s6.1, s6.2.1, s6.2.2.1] at t1 t2 t3
      rw [s6.2.2.2.1, s6.2.2.2.2.1, s6.2.2.2.2.2.1] at t4 t5
      rw [nI_0] at s1 s2 s3 s4 s5
      refine ⟨G', g', gc', c', m', mags', marks', known', below', latest', early', again', less', i, i', ?_, ?_, ?_, ?_, ?_, s6.trans t6, t7⟩
      · rw [L_X9_go_j_4, if_neg q, e4]
        simp only [s1]
        exact t1
      · rw [PL_X9_go_j_4, e4]
        refine fun _ => ⟨s2, fun j ej => ?_⟩
        rw [s1] at ej
        subst ej
        exact t2
      · rw [DL_X9_go_j_4, if_neg q, e4]
        simp only [s1]
        exact addC s3 t3
      · rw [L_X11_codePass_j_3, if_neg q, e4]
        simp only [s4]
        exact t4
      · rw [PL_X11_codePass_j_3, e4]
        refine fun _ => ⟨s5, fun j ej => ?_⟩
        rw [s4] at ej
        subst ej
        exact t5
theorem refine_col {e : EnvB} (ok : e.Ok) {G : GF} {g gc : Nat → Nat} {c : CS} {m : MS} {mags marks known below latest early again : Nat → Int32} {less : Int64} {x t : Nat} (h : Rel e 1 (t * (4 * e.W) + x * 4) G g gc c m mags marks known below latest early again less) (hx : x < e.W) (ht : 4 * t < e.H) :
    ∃ (G' : GF) (g' gc' : Nat → Nat) (c' : CS) (m1 m' : MS) (mags' marks' known1 below1 latest1 known' below' latest' early' again' : Nat → Int32) (less' : Int64) (d i' : Int32), (J_X9_go_j_16 1 c.start 19 19 c.cend c.rend (nI e.W) (nI e.H) (nI e.band) (bI (czOf e.sty)) e.coef e.bk (rawI e.bk) (nI e.p) (nI (4 * t)) (nI x) c.count c.bn c.bf c.sf c.lf c.low c.size c.room c.free c.place c.window c.csize c.croom c.rplace c.cur c.left mags marks less) = c'.U mags' marks' less' ∧ (PJ_X9_go_j_16 1 c.start 19 19 c.cend c.rend (nI e.W) (nI e.H) (nI e.band) (bI (czOf e.sty)) e.cn e.coef e.gn e.kn e.bk (rawI e.bk) (nI e.p) (nI (4 * t)) (nI x) c.count c.bn c.bf c.sf c.lf c.low c.size c.room c.free c.place c.window c.csize c.croom c.rplace c.cur c.left mags marks less) ∧ (DJ_X9_go_j_16 1 c.start 19 19 c.cend c.rend (nI e.W) (nI e.H) (nI e.band) (bI (czOf e.sty)) e.coef e.bk (rawI e.bk) (nI e.p) (nI (4 * t)) (nI x) c.count c.bn c.bf c.sf c.lf c.low c.size c.room c.free c.place c.window c.csize c.croom c.rplace c.cur c.left mags marks less) + 3 * c.bn ≤ 3 * c'.bn ∧
    (J_X11_codePass_j_11 (nI e.W) (nI e.H) (nI e.band) e.sty (wrI e.bk) (rawI e.bk) m.begin m.place m.limit e.mp e.mo e.mag e.min 1 (nI e.p) (nI (4 * t)) (nI x) m.size m.low m.carried m.span m.room m.next m.last m.upper known below latest early m.sf m.lf m.bf) = (d, m1.U known1 below1 latest1) ∧ (PJ_X11_codePass_j_11 (nI e.W) (nI e.H) (nI e.band) e.sty (wrI e.bk) (rawI e.bk) m.begin m.place m.limit 47 e.mp 47 e.mo 4096 e.mag 4096 e.min 4096 4096 4096 4096 19 19 65536 1 (nI e.p) (nI (4 * t)) (nI x) m.size m.low m.carried m.span m.room m.next m.last m.upper known below early m.sf m.lf m.bf) ∧
    (L_X11_codePass_j_12 (nI e.W) (nI e.H) (nI e.band) e.sty (wrI e.bk) (rawI e.bk) m.begin m.place m.limit e.mp e.mo e.mag e.min 1 (nI e.p) (nI (4 * t)) (nI x) fu (nI (4 * t) + d) m1.size m1.low m1.carried m1.span m1.room m1.next m1.last m1.upper known1 below1 latest1 early again m1.sf m1.lf m1.bf) = (i', m'.V known' below' latest' early' again') ∧ (PL_X11_codePass_j_12 (nI e.W) (nI e.H) (nI e.band) e.sty (wrI e.bk) (rawI e.bk) m.begin m.place m.limit 47 e.mp 47 e.mo 4096 e.mag 4096 e.min 4096 4096 4096 4096 4096 19 19 65536 1 (nI e.p) (nI (4 * t)) (nI x) fu (nI (4 * t) + d) m1.size m1.low m1.carried m1.span m1.room m1.next m1.last m1.upper known1 below1 latest1 early again m1.sf m1.lf m1.bf) ∧
    Kept e.bk c c' m m' ∧ Rel e 1 (t * (4 * e.W) + (x + 1) * 4) G' g' gc' c' m' mags' marks' known' below' latest' early' again' less' := by
  have hH := ok.H64
  have hfu := fu_ge
  have hbot := bot_ok ht hH
  obtain ⟨G', g', c', m', mags', marks', known', below', latest', early', again', less', i', t1, t2, t3, t4, t5, t6, t7⟩ := refine_loop ok (x := x) (t := t) (bot := min (4 * t + 4) e.H) hx rfl (min (4 * t + 4) e.H - 4 * t) (4 * t) fu fu G g gc c m mags marks known below latest early again less (by omega) (by omega) (by omega) (by omega) (by rw [Nat.sub_self, Nat.add_zero]; exact h)
  refine ⟨G', g', gc, c', m, m', mags', marks', known, below, latest, known', below', latest', early', again', less', 0, i', ?_, ?_, ?_, ?_, fun z => absurd z (by decide), ?_, ?_, t6, ⟨t7.cod, t7.fld, t7.err, t7.chg.mono (by omega)⟩⟩
  · unfold J_X9_go_j_16
    simp only [hbot, show ¬ (1 : Int32) = 0 by decide, if_false, if_true]
    have hF : (F_X9_refine (nI x) (nI (4 * t)) (nI (min (4 * t + 4) e.H)) c.count c.start c.bn c.bf 19 c.sf 19 c.lf c.low c.size c.room c.free c.place c.cend c.window c.csize c.croom c.rplace c.rend c.cur c.left (nI e.W) e.coef mags marks less e.bk (nI e.p)) = c'.U mags' marks' less' := by
      unfold F_X9_refine
      rw [t1]
      try rfl
    rw [hF]
    try rfl
  · unfold PJ_X9_go_j_16
    rw [hbot]
    exact ⟨fun z => absurd z (by decide), fun _ => ⟨fun _ => t2, fun z => absurd rfl z⟩⟩
  · unfold DJ_X9_go_j_16
    simp only [hbot, show ¬ (1 : Int32) = 0 by decide, if_false, if_true, Nat.add_zero]
    unfold D_X9_refine
    simp only [Nat.add_zero]
    exact t3
  · unfold J_X11_codePass_j_11
    rw [if_neg (by decide)]
    rfl
  · rw [Int32.add_zero]; exact t4
  · rw [Int32.add_zero]; exact t5
theorem refine_row {e : EnvB} (ok : e.Ok) {t : Nat} (ht : 4 * t < e.H) : ∀ (k x fuel fuel' : Nat) (G : GF) (g gc : Nat → Nat) (c : CS) (m : MS) (mags marks known below latest early again : Nat → Int32) (less : Int64), x + k = e.W → k < fuel → k < fuel' → Rel e 1 (t * (4 * e.W) + x * 4) G g gc c m mags marks known below latest early again less →
    ∃ (G' : GF) (g' gc' : Nat → Nat) (c' : CS) (m' : MS) (mags' marks' known' below' latest' early' again' : Nat → Int32) (less' : Int64) (i i' : Int32), (L_X9_go_j_6 1 c.start 19 19 c.cend c.rend (nI e.W) (nI e.H) (nI e.band) (bI (czOf e.sty)) e.coef e.bk (rawI e.bk) (nI e.p) (nI (4 * t)) fuel (nI x) c.count c.bn c.bf c.sf c.lf c.low c.size c.room c.free c.place c.window c.csize c.croom c.rplace c.cur c.left mags marks less) = (i, c'.U mags' marks' less') ∧ (PL_X9_go_j_6 1 c.start 19 19 c.cend c.rend (nI e.W) (nI e.H) (nI e.band) (bI (czOf e.sty)) e.cn e.coef e.gn e.kn e.bk (rawI e.bk) (nI e.p) (nI (4 * t)) fuel (nI x) c.count c.bn c.bf c.sf c.lf c.low c.size c.room c.free c.place c.window c.csize c.croom c.rplace c.cur c.left mags marks less) ∧ (DL_X9_go_j_6 1 c.start 19 19 c.cend c.rend (nI e.W) (nI e.H) (nI e.band) (bI (czOf e.sty)) e.coef e.bk (rawI e.bk) (nI e.p) (nI (4 * t)) fuel (nI x) c.count c.bn c.bf c.sf c.lf c.low c.size c.room c.free c.place c.window c.csize c.croom c.rplace c.cur c.left mags marks less) + 3 * c.bn ≤ 3 * c'.bn ∧
    (L_X11_codePass_j_5 (nI e.W) (nI e.H) (nI e.band) e.sty (wrI e.bk) (rawI e.bk) m.begin m.place m.limit e.mp e.mo e.mag e.min 1 (nI e.p) (nI (4 * t)) fuel' (nI x) m.size m.low m.carried m.span m.room m.next m.last m.upper known below latest early again m.sf m.lf m.bf) = (i', m'.V known' below' latest' early' again') ∧ (PL_X11_codePass_j_5 (nI e.W) (nI e.H) (nI e.band) e.sty (wrI e.bk) (rawI e.bk) m.begin m.place m.limit 47 e.mp 47 e.mo 4096 e.mag 4096 e.min 4096 4096 4096 4096 4096 19 19 65536 1 (nI e.p) (nI (4 * t)) fuel' (nI x) m.size m.low m.carried m.span m.room m.next m.last m.upper known below latest early again m.sf m.lf m.bf) ∧ Kept e.bk c c' m m' ∧ Rel e 1 ((t + 1) * (4 * e.W)) G' g' gc' c' m' mags' marks' known' below' latest' early' again' less' := by
  have hW := ok.W64
  intro k
  induction k with
  | zero =>
    intro x fuel fuel' G g gc c m mags marks known below latest early again less h1 h2 h3 h
    obtain ⟨n, rfl⟩ : ∃ n, fuel = n + 1 := ⟨fuel - 1, by omega⟩
    obtain ⟨n', rfl⟩ : ∃ n, fuel' = n + 1 := ⟨fuel' - 1, by omega⟩
    have q : nI e.W ≤ nI x := nI_le (by omega) (by omega)
    refine ⟨G, g, gc, c, m, mags, marks, known, below, latest, early, again, less, nI x, nI x, ?_, ?_, ?_, ?_, ?_, Kept.refl _ _ _, ⟨h.cod, h.fld, h.err, h.chg.mono (by have hm : (t + 1) * (4 * e.W) = t * (4 * e.W) + 4 * e.W := Nat.succ_mul _ _; omega)⟩⟩
    · rw [L_X9_go_j_6, if_pos q]; rfl
    · rw [PL_X9_go_j_6]; exact fun z => absurd q z
    · rw [DL_X9_go_j_6, if_pos q]; omega
    · rw [L_X11_codePass_j_5, if_pos q]; rfl
    · rw [PL_X11_codePass_j_5]; exact fun z => absurd q z
  | succ k ih =>
    intro x fuel fuel' G g gc c m mags marks known below latest early again less h1 h2 h3 h
    obtain ⟨n, rfl⟩ : ∃ n, fuel = n + 1 := ⟨fuel - 1, by omega⟩
    obtain ⟨n', rfl⟩ : ∃ n, fuel' = n + 1 := ⟨fuel' - 1, by omega⟩
    have q : ¬ nI e.W ≤ nI x := nI_ge (by omega) (by omega)
    obtain ⟨G1, g1, gc1, c1, ma, m1, mags1, marks1, knowna, belowa, latesta, known1, below1, latest1, early1, again1, less1, d, i1, s1, s2, s3, s4, s5, s6, s7, s8, s9⟩ := refine_col ok h (show x < e.W by omega) ht
    obtain ⟨G', g', gc', c', m', mags', marks', known', below', latest', early', again', less', i, i', t1, t2, t3, t4, t5, t6, t7⟩ := ih (x + 1) n n' _ _ _ _ _ _ _ _ _ _ _ _ _ (by omega) (by omega) (by omega) s9
    rw [s8.1, s8.2.1, s8.2.2.1, nI_succ] at t1 t2 t3
    rw [s8.2.2.2.1, s8.2.2.2.2.1, s8.2.2.2.2.2.1, nI_succ] at t4 t5
    refine ⟨G', g', gc', c', m', mags', marks', known', below', latest', early', again', less', i, i', ?_, ?_, ?_, ?_, ?_, s8.trans t6, t7⟩
    · rw [L_X9_go_j_6, if_neg q]
      simp only [s1]
      exact t1
    · rw [PL_X9_go_j_6]
      refine fun _ => ⟨s2, fun j ej => ?_⟩
      rw [s1] at ej
      subst ej
      exact t2
    · rw [DL_X9_go_j_6, if_neg q]
      simp only [s1]
      exact addC s3 t3
    · rw [L_X11_codePass_j_5, if_neg q]
      simp only [s4]
      simp only [MS.U, s6]
      exact t4
    · rw [PL_X11_codePass_j_5]
      refine fun _ => ⟨s5, fun j11 e11 => ?_⟩
      rw [s4] at e11
      subst e11
      refine ⟨s7, fun j12 e12 => ?_⟩
      have e13 : (i1, m1.V known1 below1 latest1 early1 again1) = j12 := by rw [← s6]; exact e12
      subst e13
      exact t5
theorem refine_all {e : EnvB} (ok : e.Ok) : ∀ (k t fuel fuel' : Nat) (G : GF) (g gc : Nat → Nat) (c : CS) (m : MS) (mags marks known below latest early again : Nat → Int32) (less : Int64), e.H ≤ 4 * t + 4 * k → k < fuel → k < fuel' → t ≤ 17 → t + k ≤ 17 → Rel e 1 (t * (4 * e.W)) G g gc c m mags marks known below latest early again less →
    ∃ (G' : GF) (g' gc' : Nat → Nat) (c' : CS) (m' : MS) (mags' marks' known' below' latest' early' again' : Nat → Int32) (less' : Int64) (i i' : Int32), (L_X9_go_j_4 1 c.start 19 19 c.cend c.rend (nI e.W) (nI e.H) (nI e.band) (bI (czOf e.sty)) e.coef e.bk (rawI e.bk) (nI e.p) fuel (nI (4 * t)) c.count c.bn c.bf c.sf c.lf c.low c.size c.room c.free c.place c.window c.csize c.croom c.rplace c.cur c.left mags marks less) = (i, c'.U mags' marks' less') ∧ (PL_X9_go_j_4 1 c.start 19 19 c.cend c.rend (nI e.W) (nI e.H) (nI e.band) (bI (czOf e.sty)) e.cn e.coef e.gn e.kn e.bk (rawI e.bk) (nI e.p) fuel (nI (4 * t)) c.count c.bn c.bf c.sf c.lf c.low c.size c.room c.free c.place c.window c.csize c.croom c.rplace c.cur c.left mags marks less) ∧ (DL_X9_go_j_4 1 c.start 19 19 c.cend c.rend (nI e.W) (nI e.H) (nI e.band) (bI (czOf e.sty)) e.coef e.bk (rawI e.bk) (nI e.p) fuel (nI (4 * t)) c.count c.bn c.bf c.sf c.lf c.low c.size c.room c.free c.place c.window c.csize c.croom c.rplace c.cur c.left mags marks less) + 3 * c.bn ≤ 3 * c'.bn ∧
    (L_X11_codePass_j_3 (nI e.W) (nI e.H) (nI e.band) e.sty (wrI e.bk) (rawI e.bk) m.begin m.place m.limit e.mp e.mo e.mag e.min 1 (nI e.p) fuel' (nI (4 * t)) m.size m.low m.carried m.span m.room m.next m.last m.upper known below latest early again m.sf m.lf m.bf) = (i', m'.V known' below' latest' early' again') ∧ (PL_X11_codePass_j_3 (nI e.W) (nI e.H) (nI e.band) e.sty (wrI e.bk) (rawI e.bk) m.begin m.place m.limit 47 e.mp 47 e.mo 4096 e.mag 4096 e.min 4096 4096 4096 4096 4096 19 19 65536 1 (nI e.p) fuel' (nI (4 * t)) m.size m.low m.carried m.span m.room m.next m.last m.upper known below latest early again m.sf m.lf m.bf) ∧ Kept e.bk c c' m m' ∧ Rel e 1 (17 * (4 * e.W)) G' g' gc' c' m' mags' marks' known' below' latest' early' again' less' := by
  have hH := ok.H64
  have hW := ok.W64
  have hfu := fu_ge
  have stop : ∀ (t fuel fuel' : Nat) (G : GF) (g gc : Nat → Nat) (c : CS) (m : MS) (mags marks known below latest early again : Nat → Int32) (less : Int64), e.H ≤ 4 * t → 0 < fuel → 0 < fuel' → t ≤ 17 → Rel e 1 (t * (4 * e.W)) G g gc c m mags marks known below latest early again less →
    ∃ (G' : GF) (g' gc' : Nat → Nat) (c' : CS) (m' : MS) (mags' marks' known' below' latest' early' again' : Nat → Int32) (less' : Int64) (i i' : Int32), (L_X9_go_j_4 1 c.start 19 19 c.cend c.rend (nI e.W) (nI e.H) (nI e.band) (bI (czOf e.sty)) e.coef e.bk (rawI e.bk) (nI e.p) fuel (nI (4 * t)) c.count c.bn c.bf c.sf c.lf c.low c.size c.room c.free c.place c.window c.csize c.croom c.rplace c.cur c.left mags marks less) = (i, c'.U mags' marks' less') ∧ (PL_X9_go_j_4 1 c.start 19 19 c.cend c.rend (nI e.W) (nI e.H) (nI e.band) (bI (czOf e.sty)) e.cn e.coef e.gn e.kn e.bk (rawI e.bk) (nI e.p) fuel (nI (4 * t)) c.count c.bn c.bf c.sf c.lf c.low c.size c.room c.free c.place c.window c.csize c.croom c.rplace c.cur c.left mags marks less) ∧ (DL_X9_go_j_4 1 c.start 19 19 c.cend c.rend (nI e.W) (nI e.H) (nI e.band) (bI (czOf e.sty)) e.coef e.bk (rawI e.bk) (nI e.p) fuel (nI (4 * t)) c.count c.bn c.bf c.sf c.lf c.low c.size c.room c.free c.place c.window c.csize c.croom c.rplace c.cur c.left mags marks less) + 3 * c.bn ≤ 3 * c'.bn ∧
    (L_X11_codePass_j_3 (nI e.W) (nI e.H) (nI e.band) e.sty (wrI e.bk) (rawI e.bk) m.begin m.place m.limit e.mp e.mo e.mag e.min 1 (nI e.p) fuel' (nI (4 * t)) m.size m.low m.carried m.span m.room m.next m.last m.upper known below latest early again m.sf m.lf m.bf) = (i', m'.V known' below' latest' early' again') ∧ (PL_X11_codePass_j_3 (nI e.W) (nI e.H) (nI e.band) e.sty (wrI e.bk) (rawI e.bk) m.begin m.place m.limit 47 e.mp 47 e.mo 4096 e.mag 4096 e.min 4096 4096 4096 4096 4096 19 19 65536 1 (nI e.p) fuel' (nI (4 * t)) m.size m.low m.carried m.span m.room m.next m.last m.upper known below latest early again m.sf m.lf m.bf) ∧ Kept e.bk c c' m m' ∧ Rel e 1 (17 * (4 * e.W)) G' g' gc' c' m' mags' marks' known' below' latest' early' again' less' := by
    intro t fuel fuel' G g gc c m mags marks known below latest early again less h1 h2 h3 h4 h
    obtain ⟨n, rfl⟩ : ∃ n, fuel = n + 1 := ⟨fuel - 1, by omega⟩
    obtain ⟨n', rfl⟩ : ∃ n, fuel' = n + 1 := ⟨fuel' - 1, by omega⟩
    have q : nI e.H ≤ nI (4 * t) := nI_le h1 (by omega)
    refine ⟨G, g, gc, c, m, mags, marks, known, below, latest, early, again, less, nI (4 * t), nI (4 * t), ?_, ?_, ?_, ?_, ?_, Kept.refl _ _ _, ⟨h.cod, h.fld, h.err, h.chg.mono (Nat.mul_le_mul_right _ h4)⟩⟩
    · rw [L_X9_go_j_4, if_pos q]; rfl
    · rw [PL_X9_go_j_4]; exact fun z => absurd q z
    · rw [DL_X9_go_j_4, if_pos q]; omega
    · rw [L_X11_codePass_j_3, if_pos q]; rfl
    · rw [PL_X11_codePass_j_3]; exact fun z => absurd q z
  intro k
  induction k with
  | zero =>
    intro t fuel fuel' G g gc c m mags marks known below latest early again less h1 h2 h3 h4 h5 h
    exact stop t fuel fuel' G g gc c m mags marks known below latest early again less (by omega) (by omega) (by omega) h4 h
  | succ k ih =>
    intro t fuel fuel' G g gc c m mags marks known below latest early again less h1 h2 h3 h4 h5 h
    by_cases hdone : e.H ≤ 4 * t
    · exact stop t fuel fuel' G g gc c m mags marks known below latest early again less hdone (by omega) (by omega) h4 h
    · obtain ⟨n, rfl⟩ : ∃ n, fuel = n + 1 := ⟨fuel - 1, by omega⟩
      obtain ⟨n', rfl⟩ : ∃ n, fuel' = n + 1 := ⟨fuel' - 1, by omega⟩
      have q : ¬ nI e.H ≤ nI (4 * t) := nI_ge (by omega) (by omega)
      have e4 : nI (4 * t) + (4 : Int32) = nI (4 * (t + 1)) := nI_add (4 * t) 4
      obtain ⟨G1, g1, gc1, c1, m1, mags1, marks1, known1, below1, latest1, early1, again1, less1, i1, i2, s1, s2, s3, s4, s5, s6, s7⟩ := refine_row ok (t := t) (by omega) e.W 0 fu fu _ _ _ _ _ _ _ _ _ _ _ _ _ (by omega) (by omega) (by omega) (by rw [Nat.zero_mul, Nat.add_zero]; exact h)
      obtain ⟨G', g', gc', c', m', mags', marks', known', below', latest', early', again', less', i, i', t1, t2, t3, t4, t5, t6, t7⟩ := ih (t + 1) n n' _ _ _ _ _ _ _ _ _ _ _ _ _ (by omega) (by omega) (by omega) (by omega) (by omega) s7
      rw [s6.1, s6.2.1, s6.2.2.1] at t1 t2 t3
      rw [s6.2.2.2.1, s6.2.2.2.2.1, s6.2.2.2.2.2.1] at t4 t5
      rw [nI_0] at s1 s2 s3 s4 s5
      refine ⟨G', g', gc', c', m', mags', marks', known', below', latest', early', again', less', i, i', ?_, ?_, ?_, ?_, ?_, s6.trans t6, t7⟩
      · rw [L_X9_go_j_4, if_neg q, e4]
        simp only [s1]
        exact t1
      · rw [PL_X9_go_j_4, e4]
        refine fun _ => ⟨s2, fun j ej => ?_⟩
        rw [s1] at ej
        subst ej
        exact t2
      · rw [DL_X9_go_j_4, if_neg q, e4]
        simp only [s1]
        exact addC s3 t3
      · rw [L_X11_codePass_j_3, if_neg q, e4]
        simp only [s4]
        exact t4
      · rw [PL_X11_codePass_j_3, e4]
        refine fun _ => ⟨s5, fun j ej => ?_⟩
        rw [s4] at ej
        subst ej
        exact t5
theorem clean_col {e : EnvB} (ok : e.Ok) {G : GF} {g gc : Nat → Nat} {c : CS} {m : MS} {mags marks known below latest early again : Nat → Int32} {less : Int64} {x t : Nat} (h : Rel e 2 (t * (4 * e.W) + x * 4) G g gc c m mags marks known below latest early again less) (hx : x < e.W) (ht : 4 * t < e.H) :
    ∃ (G' : GF) (g' gc' : Nat → Nat) (c' : CS) (m1 m' : MS) (mags' marks' known1 below1 latest1 known' below' latest' early' again' : Nat → Int32) (less' : Int64) (d i' : Int32), (J_X9_go_j_16 2 c.start 19 19 c.cend c.rend (nI e.W) (nI e.H) (nI e.band) (bI (czOf e.sty)) e.coef e.bk (rawI e.bk) (nI e.p) (nI (4 * t)) (nI x) c.count c.bn c.bf c.sf c.lf c.low c.size c.room c.free c.place c.window c.csize c.croom c.rplace c.cur c.left mags marks less) = c'.U mags' marks' less' ∧ (PJ_X9_go_j_16 2 c.start 19 19 c.cend c.rend (nI e.W) (nI e.H) (nI e.band) (bI (czOf e.sty)) e.cn e.coef e.gn e.kn e.bk (rawI e.bk) (nI e.p) (nI (4 * t)) (nI x) c.count c.bn c.bf c.sf c.lf c.low c.size c.room c.free c.place c.window c.csize c.croom c.rplace c.cur c.left mags marks less) ∧ (DJ_X9_go_j_16 2 c.start 19 19 c.cend c.rend (nI e.W) (nI e.H) (nI e.band) (bI (czOf e.sty)) e.coef e.bk (rawI e.bk) (nI e.p) (nI (4 * t)) (nI x) c.count c.bn c.bf c.sf c.lf c.low c.size c.room c.free c.place c.window c.csize c.croom c.rplace c.cur c.left mags marks less) + 3 * c.bn ≤ 3 * c'.bn ∧
    (J_X11_codePass_j_11 (nI e.W) (nI e.H) (nI e.band) e.sty (wrI e.bk) (rawI e.bk) m.begin m.place m.limit e.mp e.mo e.mag e.min 2 (nI e.p) (nI (4 * t)) (nI x) m.size m.low m.carried m.span m.room m.next m.last m.upper known below latest early m.sf m.lf m.bf) = (d, m1.U known1 below1 latest1) ∧ (PJ_X11_codePass_j_11 (nI e.W) (nI e.H) (nI e.band) e.sty (wrI e.bk) (rawI e.bk) m.begin m.place m.limit 47 e.mp 47 e.mo 4096 e.mag 4096 e.min 4096 4096 4096 4096 19 19 65536 2 (nI e.p) (nI (4 * t)) (nI x) m.size m.low m.carried m.span m.room m.next m.last m.upper known below early m.sf m.lf m.bf) ∧
    (L_X11_codePass_j_12 (nI e.W) (nI e.H) (nI e.band) e.sty (wrI e.bk) (rawI e.bk) m.begin m.place m.limit e.mp e.mo e.mag e.min 2 (nI e.p) (nI (4 * t)) (nI x) fu (nI (4 * t) + d) m1.size m1.low m1.carried m1.span m1.room m1.next m1.last m1.upper known1 below1 latest1 early again m1.sf m1.lf m1.bf) = (i', m'.V known' below' latest' early' again') ∧ (PL_X11_codePass_j_12 (nI e.W) (nI e.H) (nI e.band) e.sty (wrI e.bk) (rawI e.bk) m.begin m.place m.limit 47 e.mp 47 e.mo 4096 e.mag 4096 e.min 4096 4096 4096 4096 4096 19 19 65536 2 (nI e.p) (nI (4 * t)) (nI x) fu (nI (4 * t) + d) m1.size m1.low m1.carried m1.span m1.room m1.next m1.last m1.upper known1 below1 latest1 early again m1.sf m1.lf m1.bf) ∧
    Kept e.bk c c' m m' ∧ Rel e 2 (t * (4 * e.W) + (x + 1) * 4) G' g' gc' c' m' mags' marks' known' below' latest' early' again' less' := by
  have hH := ok.H64
  have hfu := fu_ge
  have hbot := bot_ok ht hH
  obtain ⟨qc1, qc2⟩ := c_quiet h.fld (bot := min (4 * t + 4) e.H) hx ok.W64 hH ok.knl ok.knu ht rfl
  obtain ⟨qm1, qm2⟩ := m_quiet h.fld ok.W64 hH (band := e.band) hx ok.b4 ht
  have n20 : ¬ (2 : Int32) = 0 := by decide
  have n21 : ¬ (2 : Int32) = 1 := by decide
  -- the loop, once it is known where both begin
  have fin : ∀ {c0 : CS} {mags0 marks0 : Nat → Int32} {less0 : Int64} {c1 : CS} {m1 m' : MS} {c' : CS} {G' : GF} {g' gc' : Nat → Nat} {mags' marks' known1 below1 latest1 known' below' latest' early' again' : Nat → Int32} {less' : Int64} {y0 d i' : Int32},
      (J_X9_clean_j_8 (nI x) (nI (4 * t)) (nI (min (4 * t + 4) e.H)) c.count c.start c.bn c.bf 19 c.sf 19 c.lf c.low c.size c.room c.free c.place c.cend c.window c.csize c.croom c.rplace c.rend c.cur c.left (nI e.W) (nI e.H) (bI (czOf e.sty)) e.coef mags marks less e.bk (rawI e.bk) (nI e.p) (bI (quiet (czOf e.sty) G e.H x (4 * t)))) = (y0, c0.U mags0 marks0 less0) → (PJ_X9_clean_j_8 (nI x) (nI (4 * t)) (nI (min (4 * t + 4) e.H)) c.count c.start c.bn c.bf 19 c.sf 19 c.lf c.low c.size c.room c.free c.place c.cend c.window c.csize c.croom c.rplace c.rend c.cur c.left (nI e.W) (nI e.H) (bI (czOf e.sty)) e.cn e.coef e.gn mags e.kn marks e.bk (rawI e.bk) (nI e.p) (bI (quiet (czOf e.sty) G e.H x (4 * t)))) → (DJ_X9_clean_j_8 (nI x) (nI (4 * t)) (nI (min (4 * t + 4) e.H)) c.count c.start c.bn c.bf 19 c.sf 19 c.lf c.low c.size c.room c.free c.place c.cend c.window c.csize c.croom c.rplace c.rend c.cur c.left (nI e.W) (nI e.H) (bI (czOf e.sty)) e.coef mags marks less e.bk (rawI e.bk) (nI e.p) (bI (quiet (czOf e.sty) G e.H x (4 * t)))) + 3 * c.bn ≤ 3 * c0.bn →
      (L_X9_clean_j_9 (nI x) (nI (min (4 * t + 4) e.H)) c.start 19 19 c.cend c.rend (nI e.W) (nI e.H) (nI e.band) (bI (czOf e.sty)) e.coef e.bk (rawI e.bk) (nI e.p) fu y0 c0.count c0.bn c0.bf c0.sf c0.lf c0.low c0.size c0.room c0.free c0.place c0.window c0.csize c0.croom c0.rplace c0.cur c0.left mags0 marks0 less0) = (nI (min (4 * t + 4) e.H), c'.U mags' marks' less') → (PL_X9_clean_j_9 (nI x) (nI (min (4 * t + 4) e.H)) c.start 19 19 c.cend c.rend (nI e.W) (nI e.H) (nI e.band) (bI (czOf e.sty)) e.cn e.coef e.gn e.kn e.bk (rawI e.bk) (nI e.p) fu y0 c0.count c0.bn c0.bf c0.sf c0.lf c0.low c0.size c0.room c0.free c0.place c0.window c0.csize c0.croom c0.rplace c0.cur c0.left mags0 marks0 less0) → (DL_X9_clean_j_9 (nI x) (nI (min (4 * t + 4) e.H)) c.start 19 19 c.cend c.rend (nI e.W) (nI e.H) (nI e.band) (bI (czOf e.sty)) e.coef e.bk (rawI e.bk) (nI e.p) fu y0 c0.count c0.bn c0.bf c0.sf c0.lf c0.low c0.size c0.room c0.free c0.place c0.window c0.csize c0.croom c0.rplace c0.cur c0.left mags0 marks0 less0) + 3 * c0.bn ≤ 3 * c'.bn →
      (J_X9_go_j_16 2 c.start 19 19 c.cend c.rend (nI e.W) (nI e.H) (nI e.band) (bI (czOf e.sty)) e.coef e.bk (rawI e.bk) (nI e.p) (nI (4 * t)) (nI x) c.count c.bn c.bf c.sf c.lf c.low c.size c.room c.free c.place c.window c.csize c.croom c.rplace c.cur c.left mags marks less) = c'.U mags' marks' less' ∧ (PJ_X9_go_j_16 2 c.start 19 19 c.cend c.rend (nI e.W) (nI e.H) (nI e.band) (bI (czOf e.sty)) e.cn e.coef e.gn e.kn e.bk (rawI e.bk) (nI e.p) (nI (4 * t)) (nI x) c.count c.bn c.bf c.sf c.lf c.low c.size c.room c.free c.place c.window c.csize c.croom c.rplace c.cur c.left mags marks less) ∧ (DJ_X9_go_j_16 2 c.start 19 19 c.cend c.rend (nI e.W) (nI e.H) (nI e.band) (bI (czOf e.sty)) e.coef e.bk (rawI e.bk) (nI e.p) (nI (4 * t)) (nI x) c.count c.bn c.bf c.sf c.lf c.low c.size c.room c.free c.place c.window c.csize c.croom c.rplace c.cur c.left mags marks less) + 3 * c.bn ≤ 3 * c'.bn := by
    intro c0 mags0 marks0 less0 c1 m1 m' c' G' g' gc' mags' marks' known1 below1 latest1 known' below' latest' early' again' less' y0 d i' a1 a2 a3 a4 a5 a6
    refine ⟨?_, ?_, ?_⟩
    · unfold J_X9_go_j_16
      simp only [hbot, n20, n21, if_false]
      have hF : (F_X9_clean (nI x) (nI (4 * t)) (nI (min (4 * t + 4) e.H)) c.count c.start c.bn c.bf 19 c.sf 19 c.lf c.low c.size c.room c.free c.place c.cend c.window c.csize c.croom c.rplace c.rend c.cur c.left (nI e.W) (nI e.H) (nI e.band) (bI (czOf e.sty)) e.coef mags marks less e.bk (rawI e.bk) (nI e.p)) = c'.U mags' marks' less' := by
        unfold F_X9_clean
        simp only [qc2, a1, CS.U]
        simp only [a4]
        try rfl
      rw [hF]
      try rfl
    · unfold PJ_X9_go_j_16
      rw [hbot]
      refine ⟨fun z => absurd z n20, fun _ => ⟨fun z => absurd z n21, fun _ => ⟨qc1, fun r1 e1 => ?_⟩⟩⟩
      rw [qc2] at e1
      subst e1
      refine ⟨a2, fun j8 e8 => ?_⟩
      rw [a1] at e8
      subst e8
      exact a5
    · unfold DJ_X9_go_j_16
      simp only [hbot, n20, n21, if_false, Nat.add_zero]
      unfold D_X9_clean
      simp only [qc2, a1, CS.U, Nat.add_zero]
      exact addC a3 a6
  cases hq : quiet (czOf e.sty) G e.H x (4 * t) with
  | false =>
    obtain ⟨G', g', c', m', mags', marks', known', below', latest', early', again', less', i', t1, t2, t3, t4, t5, t6, t7⟩ := clean_loop ok (x := x) (t := t) (bot := min (4 * t + 4) e.H) hx rfl (min (4 * t + 4) e.H - 4 * t) (4 * t) fu fu G g gc c m mags marks known below latest early again less (by omega) (by omega) (by omega) (by omega) (by rw [Nat.sub_self, Nat.add_zero]; exact h)
    rw [hq] at fin qm2
    obtain ⟨f1, f2, f3⟩ := fin (c0 := c) (mags0 := mags) (marks0 := marks) (less0 := less) (c1 := c) (m1 := m) (m' := m') (G' := G) (g' := g) (gc' := gc) (known1 := known) (below1 := below) (latest1 := latest) (known' := known) (below' := below) (latest' := latest) (early' := early) (again' := again) (y0 := nI (4 * t)) (d := 0) (i' := 0) (by unfold J_X9_clean_j_8; rw [if_pos (show bI false = 0 from rfl)]; rfl) (fun z => absurd rfl z) (by unfold DJ_X9_clean_j_8; rw [if_pos (show bI false = 0 from rfl)]; omega) t1 t2 t3
    refine ⟨G', g', gc, c', m, m', mags', marks', known, below, latest, known', below', latest', early', again', less', 0, i', f1, f2, f3, ?_, ?_, ?_, ?_, t6, ⟨t7.cod, t7.fld, t7.err, t7.chg.mono (by omega)⟩⟩
    · unfold J_X11_codePass_j_11
      rw [if_pos rfl]
      simp only [qm2]
      rw [if_pos (show bI false = 0 from rfl)]
      rfl
    · refine fun _ => ⟨qm1, fun r8 e8 z => ?_⟩
      rw [qm2] at e8
      exact absurd e8.symm z
    · rw [Int32.add_zero]; exact t4
    · rw [Int32.add_zero]; exact t5
  | true =>
    obtain ⟨r, G1, g1, gc1, c1, m1, mags1, marks1, known1, below1, latest1, less1, hr, h4, s1, s2, s3, s4, s5, s6, s7, s8⟩ := quiet_sim ok h hx ht hq
    have hmin : min (4 * t + 4) e.H = 4 * t + 4 := by omega
    rw [hq] at fin qm2
    rw [hmin] at fin
    -- where the loops go on
    obtain ⟨G', g', c', m', mags', marks', known', below', latest', early', again', less', i', t1, t2, t3, t4, t5, t6, t7⟩ := clean_loop ok (x := x) (t := t) (bot := 4 * t + 4) hx hmin.symm (4 - min (r + 1) 4) (4 * t + min (r + 1) 4) (fu - 1) fu G1 g1 gc1 c1 m1 mags1 marks1 known1 below1 latest1 early again less1 (by omega) (by omega) (by omega) (by omega) (by rw [show 4 * t + min (r + 1) 4 - 4 * t = min (r + 1) 4 by omega]; exact s8)
    rw [s6.1, s6.2.1, s6.2.2.1] at t1 t2 t3
    rw [s6.2.2.2.1, s6.2.2.2.2.1, s6.2.2.2.2.2.1] at t4 t5
    have hstep : (L_X9_clean_j_9 (nI x) (nI (4 * t + 4)) c.start 19 19 c.cend c.rend (nI e.W) (nI e.H) (nI e.band) (bI (czOf e.sty)) e.coef e.bk (rawI e.bk) (nI e.p) fu (nI (4 * t + r)) c1.count c1.bn c1.bf c1.sf c1.lf c1.low c1.size c1.room c1.free c1.place c1.window c1.csize c1.croom c1.rplace c1.cur c1.left mags1 marks1 less1) = (nI (4 * t + 4), c'.U mags' marks' less') ∧ (PL_X9_clean_j_9 (nI x) (nI (4 * t + 4)) c.start 19 19 c.cend c.rend (nI e.W) (nI e.H) (nI e.band) (bI (czOf e.sty)) e.cn e.coef e.gn e.kn e.bk (rawI e.bk) (nI e.p) fu (nI (4 * t + r)) c1.count c1.bn c1.bf c1.sf c1.lf c1.low c1.size c1.room c1.free c1.place c1.window c1.csize c1.croom c1.rplace c1.cur c1.left mags1 marks1 less1) ∧ (DL_X9_clean_j_9 (nI x) (nI (4 * t + 4)) c.start 19 19 c.cend c.rend (nI e.W) (nI e.H) (nI e.band) (bI (czOf e.sty)) e.coef e.bk (rawI e.bk) (nI e.p) fu (nI (4 * t + r)) c1.count c1.bn c1.bf c1.sf c1.lf c1.low c1.size c1.room c1.free c1.place c1.window c1.csize c1.croom c1.rplace c1.cur c1.left mags1 marks1 less1) + 3 * c1.bn ≤ 3 * c'.bn := by
      by_cases hr4 : r = 4
      · subst hr4
        have hu : ∀ n : Nat, 1 ≤ n → n ≤ fu → (L_X9_clean_j_9 (nI x) (nI (4 * t + 4)) c.start 19 19 c.cend c.rend (nI e.W) (nI e.H) (nI e.band) (bI (czOf e.sty)) e.coef e.bk (rawI e.bk) (nI e.p) n (nI (4 * t + 4)) c1.count c1.bn c1.bf c1.sf c1.lf c1.low c1.size c1.room c1.free c1.place c1.window c1.csize c1.croom c1.rplace c1.cur c1.left mags1 marks1 less1) = (nI (4 * t + 4), c1.U mags1 marks1 less1) ∧ (PL_X9_clean_j_9 (nI x) (nI (4 * t + 4)) c.start 19 19 c.cend c.rend (nI e.W) (nI e.H) (nI e.band) (bI (czOf e.sty)) e.cn e.coef e.gn e.kn e.bk (rawI e.bk) (nI e.p) n (nI (4 * t + 4)) c1.count c1.bn c1.bf c1.sf c1.lf c1.low c1.size c1.room c1.free c1.place c1.window c1.csize c1.croom c1.rplace c1.cur c1.left mags1 marks1 less1) ∧ (DL_X9_clean_j_9 (nI x) (nI (4 * t + 4)) c.start 19 19 c.cend c.rend (nI e.W) (nI e.H) (nI e.band) (bI (czOf e.sty)) e.coef e.bk (rawI e.bk) (nI e.p) n (nI (4 * t + 4)) c1.count c1.bn c1.bf c1.sf c1.lf c1.low c1.size c1.room c1.free c1.place c1.window c1.csize c1.croom c1.rplace c1.cur c1.left mags1 marks1 less1) = 0 := by
          intro n hn _
          obtain ⟨k, rfl⟩ : ∃ k, n = k + 1 := ⟨n - 1, by omega⟩
          have q : nI (4 * t + 4) ≤ nI (4 * t + 4) := nI_le (Nat.le_refl _) (by omega)
          rw [L_X9_clean_j_9, PL_X9_clean_j_9, DL_X9_clean_j_9, if_pos q, if_pos q]
          exact ⟨rfl, fun z => absurd q z, rfl⟩
        obtain ⟨u1, u2, u3⟩ := hu (fu - 1) (by omega) (by omega)
        obtain ⟨w1, w2, w3⟩ := hu fu (by omega) (by omega)
        have t1' : (L_X9_clean_j_9 (nI x) (nI (4 * t + 4)) c.start 19 19 c.cend c.rend (nI e.W) (nI e.H) (nI e.band) (bI (czOf e.sty)) e.coef e.bk (rawI e.bk) (nI e.p) (fu - 1) (nI (4 * t + 4)) c1.count c1.bn c1.bf c1.sf c1.lf c1.low c1.size c1.room c1.free c1.place c1.window c1.csize c1.croom c1.rplace c1.cur c1.left mags1 marks1 less1) = (nI (4 * t + 4), c'.U mags' marks' less') := t1
        have t3' : (DL_X9_clean_j_9 (nI x) (nI (4 * t + 4)) c.start 19 19 c.cend c.rend (nI e.W) (nI e.H) (nI e.band) (bI (czOf e.sty)) e.coef e.bk (rawI e.bk) (nI e.p) (fu - 1) (nI (4 * t + 4)) c1.count c1.bn c1.bf c1.sf c1.lf c1.low c1.size c1.room c1.free c1.place c1.window c1.csize c1.croom c1.rplace c1.cur c1.left mags1 marks1 less1) + 3 * c1.bn ≤ 3 * c'.bn := t3
        rw [u1] at t1'
        rw [u3] at t3'
        rw [w1, w3]
        exact ⟨t1', w2, t3'⟩
      · have hsg := s7 (by omega)
        obtain ⟨n, hn⟩ : ∃ n, fu = n + 1 := ⟨fu - 1, by omega⟩
        have hpl := plc hx (show 4 * t + r < e.H by omega)
        have hplt := pl_lt ok hx (show 4 * t + r < e.H by omega)
        have knl := ok.knl
        have knu := ok.knu
        have q : ¬ nI (4 * t + 4) ≤ nI (4 * t + r) := nI_ge (by omega) (by omega)
        have t2b := f_two s8.fld hx (show 4 * t + r < e.H by omega)
        have t3b : ¬ marks1 ((4 * t + r) * e.W + x) &&& (10240 : Int32) = (0 : Int32) := by
          rw [t2b, hsg]
          cases G1.sn x (4 * t + r) <;> decide
        have hcl : (nI ((4 * t + r) * e.W + x)).toNatClampNeg = (4 * t + r) * e.W + x := nI_clamp (by omega)
        have hJ : (J_X9_clean_j_19 (nI x) c.start 19 19 c.cend c.rend (nI e.W) (nI e.H) (nI e.band) (bI (czOf e.sty)) e.coef e.bk (rawI e.bk) (nI e.p) (nI (4 * t + r)) c1.count c1.bn c1.bf c1.sf c1.lf c1.low c1.size c1.room c1.free c1.place c1.window c1.csize c1.croom c1.rplace c1.cur c1.left mags1 marks1 less1 (nI ((4 * t + r) * e.W + x))) = c1.U mags1 marks1 less1 := by
          unfold J_X9_clean_j_19
          rw [hcl, if_neg t3b]
          rfl
        have hD : (DJ_X9_clean_j_19 (nI x) c.start 19 19 c.cend c.rend (nI e.W) (nI e.H) (nI e.band) (bI (czOf e.sty)) e.coef e.bk (rawI e.bk) (nI e.p) (nI (4 * t + r)) c1.count c1.bn c1.bf c1.sf c1.lf c1.low c1.size c1.room c1.free c1.place c1.window c1.csize c1.croom c1.rplace c1.cur c1.left mags1 marks1 less1 (nI ((4 * t + r) * e.W + x))) = 0 := by
          unfold DJ_X9_clean_j_19
          rw [hcl, if_neg t3b]
        have hmr : min (r + 1) 4 = r + 1 := by omega
        rw [hmr, hn, Nat.add_sub_cancel, ← Nat.add_assoc, nI_succ (4 * t + r)] at t1 t2 t3
        rw [hn, L_X9_clean_j_9, PL_X9_clean_j_9, DL_X9_clean_j_9, if_neg q, if_neg q, place_ok]
        simp only [hJ, hD, Nat.zero_add]
        refine ⟨t1, fun _ r11 e11 => ?_, t3⟩
        subst e11
        refine ⟨vp_in_nI (by omega) (by omega), ?_, fun j19 e19 => ?_⟩
        · unfold PJ_X9_clean_j_19
          rw [hcl]
          exact fun z => absurd z t3b
        · rw [hJ] at e19
          subst e19
          exact t2
    obtain ⟨v1, v2, v3⟩ := hstep
    obtain ⟨f1, f2, f3⟩ := fin (c0 := c1) (mags0 := mags1) (marks0 := marks1) (less0 := less1) (c1 := c1) (m1 := m) (m' := m') (G' := G) (g' := g) (gc' := gc) (known1 := known) (below1 := below) (latest1 := latest) (known' := known) (below' := below) (latest' := latest) (early' := early) (again' := again) (y0 := nI (4 * t + r)) (d := 0) (i' := 0) s1 s2 s3 v1 v2 v3
    refine ⟨G', g', gc1, c', m1, m', mags', marks', known1, below1, latest1, known', below', latest', early', again', less', nI (min (r + 1) 4), i', f1, f2, f3, ?_, ?_, ?_, ?_, s6.trans t6, ⟨t7.cod, t7.fld, t7.err, t7.chg.mono (by omega)⟩⟩
    · unfold J_X11_codePass_j_11
      rw [if_pos rfl]
      simp only [qm2]
      rw [if_neg (show ¬ bI true = 0 by decide), s4]
      try rfl
    · refine fun _ => ⟨qm1, fun r8 e8 z => s5⟩
    · rw [nI_add]; exact t4
    · rw [nI_add]; exact t5
theorem clean_row {e : EnvB} (ok : e.Ok) {t : Nat} (ht : 4 * t < e.H) : ∀ (k x fuel fuel' : Nat) (G : GF) (g gc : Nat → Nat) (c : CS) (m : MS) (mags marks known below latest early again : Nat → Int32) (less : Int64), x + k = e.W → k < fuel → k < fuel' → Rel e 2 (t * (4 * e.W) + x * 4) G g gc c m mags marks known below latest early again less →
    ∃ (G' : GF) (g' gc' : Nat → Nat) (c' : CS) (m' : MS) (mags' marks' known' below' latest' early' again' : Nat → Int32) (less' : Int64) (i i' : Int32), (L_X9_go_j_6 2 c.start 19 19 c.cend c.rend (nI e.W) (nI e.H) (nI e.band) (bI (czOf e.sty)) e.coef e.bk (rawI e.bk) (nI e.p) (nI (4 * t)) fuel (nI x) c.count c.bn c.bf c.sf c.lf c.low c.size c.room c.free c.place c.window c.csize c.croom c.rplace c.cur c.left mags marks less) = (i, c'.U mags' marks' less') ∧ (PL_X9_go_j_6 2 c.start 19 19 c.cend c.rend (nI e.W) (nI e.H) (nI e.band) (bI (czOf e.sty)) e.cn e.coef e.gn e.kn e.bk (rawI e.bk) (nI e.p) (nI (4 * t)) fuel (nI x) c.count c.bn c.bf c.sf c.lf c.low c.size c.room c.free c.place c.window c.csize c.croom c.rplace c.cur c.left mags marks less) ∧ (DL_X9_go_j_6 2 c.start 19 19 c.cend c.rend (nI e.W) (nI e.H) (nI e.band) (bI (czOf e.sty)) e.coef e.bk (rawI e.bk) (nI e.p) (nI (4 * t)) fuel (nI x) c.count c.bn c.bf c.sf c.lf c.low c.size c.room c.free c.place c.window c.csize c.croom c.rplace c.cur c.left mags marks less) + 3 * c.bn ≤ 3 * c'.bn ∧
    (L_X11_codePass_j_5 (nI e.W) (nI e.H) (nI e.band) e.sty (wrI e.bk) (rawI e.bk) m.begin m.place m.limit e.mp e.mo e.mag e.min 2 (nI e.p) (nI (4 * t)) fuel' (nI x) m.size m.low m.carried m.span m.room m.next m.last m.upper known below latest early again m.sf m.lf m.bf) = (i', m'.V known' below' latest' early' again') ∧ (PL_X11_codePass_j_5 (nI e.W) (nI e.H) (nI e.band) e.sty (wrI e.bk) (rawI e.bk) m.begin m.place m.limit 47 e.mp 47 e.mo 4096 e.mag 4096 e.min 4096 4096 4096 4096 4096 19 19 65536 2 (nI e.p) (nI (4 * t)) fuel' (nI x) m.size m.low m.carried m.span m.room m.next m.last m.upper known below latest early again m.sf m.lf m.bf) ∧ Kept e.bk c c' m m' ∧ Rel e 2 ((t + 1) * (4 * e.W)) G' g' gc' c' m' mags' marks' known' below' latest' early' again' less' := by
  have hW := ok.W64
  intro k
  induction k with
  | zero =>
    intro x fuel fuel' G g gc c m mags marks known below latest early again less h1 h2 h3 h
    obtain ⟨n, rfl⟩ : ∃ n, fuel = n + 1 := ⟨fuel - 1, by omega⟩
    obtain ⟨n', rfl⟩ : ∃ n, fuel' = n + 1 := ⟨fuel' - 1, by omega⟩
    have q : nI e.W ≤ nI x := nI_le (by omega) (by omega)
    refine ⟨G, g, gc, c, m, mags, marks, known, below, latest, early, again, less, nI x, nI x, ?_, ?_, ?_, ?_, ?_, Kept.refl _ _ _, ⟨h.cod, h.fld, h.err, h.chg.mono (by have hm : (t + 1) * (4 * e.W) = t * (4 * e.W) + 4 * e.W := Nat.succ_mul _ _; omega)⟩⟩
    · rw [L_X9_go_j_6, if_pos q]; rfl
    · rw [PL_X9_go_j_6]; exact fun z => absurd q z
    · rw [DL_X9_go_j_6, if_pos q]; omega
    · rw [L_X11_codePass_j_5, if_pos q]; rfl
    · rw [PL_X11_codePass_j_5]; exact fun z => absurd q z
  | succ k ih =>
    intro x fuel fuel' G g gc c m mags marks known below latest early again less h1 h2 h3 h
    obtain ⟨n, rfl⟩ : ∃ n, fuel = n + 1 := ⟨fuel - 1, by omega⟩
    obtain ⟨n', rfl⟩ : ∃ n, fuel' = n + 1 := ⟨fuel' - 1, by omega⟩
    have q : ¬ nI e.W ≤ nI x := nI_ge (by omega) (by omega)
    obtain ⟨G1, g1, gc1, c1, ma, m1, mags1, marks1, knowna, belowa, latesta, known1, below1, latest1, early1, again1, less1, d, i1, s1, s2, s3, s4, s5, s6, s7, s8, s9⟩ := clean_col ok h (show x < e.W by omega) ht
    obtain ⟨G', g', gc', c', m', mags', marks', known', below', latest', early', again', less', i, i', t1, t2, t3, t4, t5, t6, t7⟩ := ih (x + 1) n n' _ _ _ _ _ _ _ _ _ _ _ _ _ (by omega) (by omega) (by omega) s9
    rw [s8.1, s8.2.1, s8.2.2.1, nI_succ] at t1 t2 t3
    rw [s8.2.2.2.1, s8.2.2.2.2.1, s8.2.2.2.2.2.1, nI_succ] at t4 t5
    refine ⟨G', g', gc', c', m', mags', marks', known', below', latest', early', again', less', i, i', ?_, ?_, ?_, ?_, ?_, s8.trans t6, t7⟩
    · rw [L_X9_go_j_6, if_neg q]
      simp only [s1]
      exact t1
    · rw [PL_X9_go_j_6]
      refine fun _ => ⟨s2, fun j ej => ?_⟩
      rw [s1] at ej
      subst ej
      exact t2
    · rw [DL_X9_go_j_6, if_neg q]
      simp only [s1]
      exact addC s3 t3
    · rw [L_X11_codePass_j_5, if_neg q]
      simp only [s4]
      simp only [MS.U, s6]
      exact t4
    · rw [PL_X11_codePass_j_5]
      refine fun _ => ⟨s5, fun j11 e11 => ?_⟩
      rw [s4] at e11
      subst e11
      refine ⟨s7, fun j12 e12 => ?_⟩
      have e13 : (i1, m1.V known1 below1 latest1 early1 again1) = j12 := by rw [← s6]; exact e12
      subst e13
      exact t5
theorem clean_all {e : EnvB} (ok : e.Ok) : ∀ (k t fuel fuel' : Nat) (G : GF) (g gc : Nat → Nat) (c : CS) (m : MS) (mags marks known below latest early again : Nat → Int32) (less : Int64), e.H ≤ 4 * t + 4 * k → k < fuel → k < fuel' → t ≤ 17 → t + k ≤ 17 → Rel e 2 (t * (4 * e.W)) G g gc c m mags marks known below latest early again less →
    ∃ (G' : GF) (g' gc' : Nat → Nat) (c' : CS) (m' : MS) (mags' marks' known' below' latest' early' again' : Nat → Int32) (less' : Int64) (i i' : Int32), (L_X9_go_j_4 2 c.start 19 19 c.cend c.rend (nI e.W) (nI e.H) (nI e.band) (bI (czOf e.sty)) e.coef e.bk (rawI e.bk) (nI e.p) fuel (nI (4 * t)) c.count c.bn c.bf c.sf c.lf c.low c.size c.room c.free c.place c.window c.csize c.croom c.rplace c.cur c.left mags marks less) = (i, c'.U mags' marks' less') ∧ (PL_X9_go_j_4 2 c.start 19 19 c.cend c.rend (nI e.W) (nI e.H) (nI e.band) (bI (czOf e.sty)) e.cn e.coef e.gn e.kn e.bk (rawI e.bk) (nI e.p) fuel (nI (4 * t)) c.count c.bn c.bf c.sf c.lf c.low c.size c.room c.free c.place c.window c.csize c.croom c.rplace c.cur c.left mags marks less) ∧ (DL_X9_go_j_4 2 c.start 19 19 c.cend c.rend (nI e.W) (nI e.H) (nI e.band) (bI (czOf e.sty)) e.coef e.bk (rawI e.bk) (nI e.p) fuel (nI (4 * t)) c.count c.bn c.bf c.sf c.lf c.low c.size c.room c.free c.place c.window c.csize c.croom c.rplace c.cur c.left mags marks less) + 3 * c.bn ≤ 3 * c'.bn ∧
    (L_X11_codePass_j_3 (nI e.W) (nI e.H) (nI e.band) e.sty (wrI e.bk) (rawI e.bk) m.begin m.place m.limit e.mp e.mo e.mag e.min 2 (nI e.p) fuel' (nI (4 * t)) m.size m.low m.carried m.span m.room m.next m.last m.upper known below latest early again m.sf m.lf m.bf) = (i', m'.V known' below' latest' early' again') ∧ (PL_X11_codePass_j_3 (nI e.W) (nI e.H) (nI e.band) e.sty (wrI e.bk) (rawI e.bk) m.begin m.place m.limit 47 e.mp 47 e.mo 4096 e.mag 4096 e.min 4096 4096 4096 4096 4096 19 19 65536 2 (nI e.p) fuel' (nI (4 * t)) m.size m.low m.carried m.span m.room m.next m.last m.upper known below latest early again m.sf m.lf m.bf) ∧ Kept e.bk c c' m m' ∧ Rel e 2 (17 * (4 * e.W)) G' g' gc' c' m' mags' marks' known' below' latest' early' again' less' := by
  have hH := ok.H64
  have hW := ok.W64
  have hfu := fu_ge
  have stop : ∀ (t fuel fuel' : Nat) (G : GF) (g gc : Nat → Nat) (c : CS) (m : MS) (mags marks known below latest early again : Nat → Int32) (less : Int64), e.H ≤ 4 * t → 0 < fuel → 0 < fuel' → t ≤ 17 → Rel e 2 (t * (4 * e.W)) G g gc c m mags marks known below latest early again less →
    ∃ (G' : GF) (g' gc' : Nat → Nat) (c' : CS) (m' : MS) (mags' marks' known' below' latest' early' again' : Nat → Int32) (less' : Int64) (i i' : Int32), (L_X9_go_j_4 2 c.start 19 19 c.cend c.rend (nI e.W) (nI e.H) (nI e.band) (bI (czOf e.sty)) e.coef e.bk (rawI e.bk) (nI e.p) fuel (nI (4 * t)) c.count c.bn c.bf c.sf c.lf c.low c.size c.room c.free c.place c.window c.csize c.croom c.rplace c.cur c.left mags marks less) = (i, c'.U mags' marks' less') ∧ (PL_X9_go_j_4 2 c.start 19 19 c.cend c.rend (nI e.W) (nI e.H) (nI e.band) (bI (czOf e.sty)) e.cn e.coef e.gn e.kn e.bk (rawI e.bk) (nI e.p) fuel (nI (4 * t)) c.count c.bn c.bf c.sf c.lf c.low c.size c.room c.free c.place c.window c.csize c.croom c.rplace c.cur c.left mags marks less) ∧ (DL_X9_go_j_4 2 c.start 19 19 c.cend c.rend (nI e.W) (nI e.H) (nI e.band) (bI (czOf e.sty)) e.coef e.bk (rawI e.bk) (nI e.p) fuel (nI (4 * t)) c.count c.bn c.bf c.sf c.lf c.low c.size c.room c.free c.place c.window c.csize c.croom c.rplace c.cur c.left mags marks less) + 3 * c.bn ≤ 3 * c'.bn ∧
    (L_X11_codePass_j_3 (nI e.W) (nI e.H) (nI e.band) e.sty (wrI e.bk) (rawI e.bk) m.begin m.place m.limit e.mp e.mo e.mag e.min 2 (nI e.p) fuel' (nI (4 * t)) m.size m.low m.carried m.span m.room m.next m.last m.upper known below latest early again m.sf m.lf m.bf) = (i', m'.V known' below' latest' early' again') ∧ (PL_X11_codePass_j_3 (nI e.W) (nI e.H) (nI e.band) e.sty (wrI e.bk) (rawI e.bk) m.begin m.place m.limit 47 e.mp 47 e.mo 4096 e.mag 4096 e.min 4096 4096 4096 4096 4096 19 19 65536 2 (nI e.p) fuel' (nI (4 * t)) m.size m.low m.carried m.span m.room m.next m.last m.upper known below latest early again m.sf m.lf m.bf) ∧ Kept e.bk c c' m m' ∧ Rel e 2 (17 * (4 * e.W)) G' g' gc' c' m' mags' marks' known' below' latest' early' again' less' := by
    intro t fuel fuel' G g gc c m mags marks known below latest early again less h1 h2 h3 h4 h
    obtain ⟨n, rfl⟩ : ∃ n, fuel = n + 1 := ⟨fuel - 1, by omega⟩
    obtain ⟨n', rfl⟩ : ∃ n, fuel' = n + 1 := ⟨fuel' - 1, by omega⟩
    have q : nI e.H ≤ nI (4 * t) := nI_le h1 (by omega)
    refine ⟨G, g, gc, c, m, mags, marks, known, below, latest, early, again, less, nI (4 * t), nI (4 * t), ?_, ?_, ?_, ?_, ?_, Kept.refl _ _ _, ⟨h.cod, h.fld, h.err, h.chg.mono (Nat.mul_le_mul_right _ h4)⟩⟩
    · rw [L_X9_go_j_4, if_pos q]; rfl
    · rw [PL_X9_go_j_4]; exact fun z => absurd q z
    · rw [DL_X9_go_j_4, if_pos q]; omega
    · rw [L_X11_codePass_j_3, if_pos q]; rfl
    · rw [PL_X11_codePass_j_3]; exact fun z => absurd q z
  intro k
  induction k with
  | zero =>
    intro t fuel fuel' G g gc c m mags marks known below latest early again less h1 h2 h3 h4 h5 h
    exact stop t fuel fuel' G g gc c m mags marks known below latest early again less (by omega) (by omega) (by omega) h4 h
  | succ k ih =>
    intro t fuel fuel' G g gc c m mags marks known below latest early again less h1 h2 h3 h4 h5 h
    by_cases hdone : e.H ≤ 4 * t
    · exact stop t fuel fuel' G g gc c m mags marks known below latest early again less hdone (by omega) (by omega) h4 h
    · obtain ⟨n, rfl⟩ : ∃ n, fuel = n + 1 := ⟨fuel - 1, by omega⟩
      obtain ⟨n', rfl⟩ : ∃ n, fuel' = n + 1 := ⟨fuel' - 1, by omega⟩
      have q : ¬ nI e.H ≤ nI (4 * t) := nI_ge (by omega) (by omega)
      have e4 : nI (4 * t) + (4 : Int32) = nI (4 * (t + 1)) := nI_add (4 * t) 4
      obtain ⟨G1, g1, gc1, c1, m1, mags1, marks1, known1, below1, latest1, early1, again1, less1, i1, i2, s1, s2, s3, s4, s5, s6, s7⟩ := clean_row ok (t := t) (by omega) e.W 0 fu fu _ _ _ _ _ _ _ _ _ _ _ _ _ (by omega) (by omega) (by omega) (by rw [Nat.zero_mul, Nat.add_zero]; exact h)
      obtain ⟨G', g', gc', c', m', mags', marks', known', below', latest', early', again', less', i, i', t1, t2, t3, t4, t5, t6, t7⟩ := ih (t + 1) n n' _ _ _ _ _ _ _ _ _ _ _ _ _ (by omega) (by omega) (by omega) (by omega) (by omega) s7
      rw [s6.1, s6.2.1, s6.2.2.1] at t1 t2 t3
      rw [s6.2.2.2.1, s6.2.2.2.2.1, s6.2.2.2.2.2.1] at t4 t5
      rw [nI_0] at s1 s2 s3 s4 s5
      refine ⟨G', g', gc', c', m', mags', marks', known', below', latest', early', again', less', i, i', ?_, ?_, ?_, ?_, ?_, s6.trans t6, t7⟩
      · rw [L_X9_go_j_4, if_neg q, e4]
        simp only [s1]
        exact t1
      · rw [PL_X9_go_j_4, e4]
        refine fun _ => ⟨s2, fun j ej => ?_⟩
        rw [s1] at ej
        subst ej
        exact t2
      · rw [DL_X9_go_j_4, if_neg q, e4]
        simp only [s1]
        exact addC s3 t3
      · rw [L_X11_codePass_j_3, if_neg q, e4]
        simp only [s4]
        exact t4
      · rw [PL_X11_codePass_j_3, e4]
        refine fun _ => ⟨s5, fun j ej => ?_⟩
        rw [s4] at ej
        subst ej
        exact t5

/-! ===== PURE: all passes of read ===== -/
theorem r_all {b : EnvB} {P T n N : Nat} {rc sb : Nat → Nat} {rch mrch mso mbg mln : Nat → Int32} (ok : b.Ok) (hP : P < 32) (hT : T = 0 ∨ T + 2 = 3 * P) (hn : n ≤ T) (hR : Rch b.sty T T rc sb rch mrch mso mbg mln) (hN : ∀ j, j < T → rc j ≤ N) : ∀ (d k fuel fuel' M : Nat) (G : GF) (g gc : Nat → Nat) (c : CS) (m : MS) (mags marks known below latest early again : Nat → Int32) (fl mfl rw0 pl0 mp0 mr0 : Int32) (bk0 : Nat) (ls : Int64), k + d = n → d < fuel → d < fuel' → bk0 < 4 → vz rw0 → vz mr0 → fl = mfl →
    RRel b P T k M N G g gc c m mags marks known below latest early again →
    ∃ (M' : Nat) (G' : GF) (g' gc' : Nat → Nat) (cN : CS) (mN : MS) (mags' marks' known' below' latest' early' again' : Nat → Int32) (fl' mfl' rw' pl' mp' mr' : Int32) (bk' : Nat) (ls' : Int64),
    (L_X10_read_j_5 (nI n) c.start 19 19 (nI b.W) (nI b.H) (nI b.band) (bI (czOf b.sty)) b.coef (nI P) (nI T) b.sty rch b.sty fuel (nI k) c.count c.bn c.bf c.sf c.lf c.low c.size c.room c.free c.place c.cend c.window c.csize c.croom c.rplace c.rend c.cur c.left mags marks ls fl bk0 rw0 pl0) = (nI n, cN.count, cN.bn, cN.bf, cN.sf, cN.lf, cN.low, cN.size, cN.room, cN.free, cN.place, cN.cend, cN.window, cN.csize, cN.croom, cN.rplace, cN.rend, cN.cur, cN.left, mags', marks', ls', fl', bk', rw', pl') ∧ (PL_X10_read_j_5 (nI n) c.start 19 19 (nI b.W) (nI b.H) (nI b.band) (bI (czOf b.sty)) b.cn b.coef b.gn b.kn (nI P) (nI T) b.sty 91 rch b.sty fuel (nI k) c.count c.bn c.bf c.sf c.lf c.low c.size c.room c.free c.place c.cend c.window c.csize c.croom c.rplace c.rend c.cur c.left mags marks ls fl bk0 rw0 pl0) ∧ (DL_X10_read_j_5 (nI n) c.start 19 19 (nI b.W) (nI b.H) (nI b.band) (bI (czOf b.sty)) b.coef (nI P) (nI T) b.sty rch b.sty fuel (nI k) c.count c.bn c.bf c.sf c.lf c.low c.size c.room c.free c.place c.cend c.window c.csize c.croom c.rplace c.rend c.cur c.left mags marks ls fl bk0 rw0 pl0) = 0 ∧
    (L_X11_read_j_8 (nI n) (nI b.W) (nI b.H) (nI b.band) b.sty (nI P) (nI T) m.begin b.mp b.mo b.mag b.min mrch mso mbg mln fuel' (nI k) mp0 mr0 mfl m.size m.low m.carried m.span m.room m.place m.limit m.next m.last m.upper known below latest early again m.sf m.lf m.bf) = (nI n, mp', mr', mfl', mN.size, mN.low, mN.carried, mN.span, mN.room, mN.place, mN.limit, mN.next, mN.last, mN.upper, known', below', latest', early', again', mN.sf, mN.lf, mN.bf) ∧ (PL_X11_read_j_8 (nI n) (nI b.W) (nI b.H) (nI b.band) b.sty (nI P) (nI T) m.begin 47 b.mp 47 b.mo 4096 b.mag 4096 b.min 96 mrch 96 mso 96 mbg 96 mln 4096 4096 4096 4096 4096 19 19 65536 fuel' (nI k) mp0 mr0 mfl m.size m.low m.carried m.span m.room m.place m.limit m.next m.last m.upper known below latest early again m.sf m.lf m.bf) ∧ (cN.count = c.count ∧ cN.start = c.start ∧ cN.bn = c.bn ∧ cN.bf = c.bf ∧ mN.size = m.size ∧ mN.begin = m.begin ∧ mN.bf = m.bf) ∧ (bk' < 4 ∧ vz rw' ∧ vz mr' ∧ fl' = mfl') ∧
    RRel b P T n M' N G' g' gc' cN mN mags' marks' known' below' latest' early' again' := by
  intro d
  induction d with
  | zero =>
    intro k fuel fuel' M G g gc c m mags marks known below latest early again fl mfl rw0 pl0 mp0 mr0 bk0 ls h1 h2 h3 hbk hrw hmr hfl h
    obtain ⟨q, rfl⟩ : ∃ q, fuel = q + 1 := ⟨fuel - 1, by omega⟩
    obtain ⟨q', rfl⟩ : ∃ q, fuel' = q + 1 := ⟨fuel' - 1, by omega⟩
    have hkT : k = n := by omega
    subst hkT
    have q : nI k ≤ nI k := nI_le (Nat.le_refl _) (by omega)
    refine ⟨M, G, g, gc, c, m, mags, marks, known, below, latest, early, again, fl, mfl, rw0, pl0, mp0, mr0, bk0, ls, ?_, ?_, ?_, ?_, ?_, ⟨rfl, rfl, rfl, rfl, rfl, rfl, rfl⟩, ⟨hbk, hrw, hmr, hfl⟩, h⟩
    · rw [L_X10_read_j_5, if_pos q]
    · rw [PL_X10_read_j_5]; exact fun z => absurd q z
    · rw [DL_X10_read_j_5, if_pos q]
    · rw [L_X11_read_j_8, if_pos q]
    · rw [PL_X11_read_j_8]; exact fun z => absurd q z
  | succ d ih =>
    intro k fuel fuel' M G g gc c m mags marks known below latest early again fl mfl rw0 pl0 mp0 mr0 bk0 ls h1 h2 h3 hbk hrw hmr hfl h
    obtain ⟨q, rfl⟩ : ∃ q, fuel = q + 1 := ⟨fuel - 1, by omega⟩
    obtain ⟨q', rfl⟩ : ∃ q, fuel' = q + 1 := ⟨fuel' - 1, by omega⟩
    obtain ⟨M1, G1, g1, gc1, c1, m1, mags1, marks1, known1, below1, latest1, early1, again1, fl1, mfl1, less1, s1, s2, s3, s4, s5, s6, s7, s8⟩ := r_step (fl := fl) (mfl := mfl) (rw0 := rw0) (pl0 := pl0) (mp0 := mp0) (mr0 := mr0) (bk0 := bk0) (ls := ls) ok hP (by omega) hn (show k < n by omega) hR hN h
    have hb : 2 + bN (rawB b.sty k) < 4 := by have := bN_le (rawB b.sty k); omega
    have hv : vz (bI (rawB b.sty k)) := by cases rawB b.sty k <;> first | exact Or.inl rfl | exact Or.inr rfl
    obtain ⟨M', G', g', gc', cN, mN, mags', marks', known', below', latest', early', again', fl', mfl', rw', pl', mp', mr', bk', ls', t1, t2, t3, t4, t5, t6, t7, t8⟩ := ih (k + 1) q q' M1 G1 g1 gc1 c1 m1 mags1 marks1 known1 below1 latest1 early1 again1 fl1 mfl1 (bI (rawB b.sty k)) (nI (plN P k)) (nI (plN P k)) (bI (rawB b.sty k)) (2 + bN (rawB b.sty k)) less1 (by omega) (by omega) (by omega) hb hv hv (s7 hfl) s8
    refine ⟨M', G', g', gc', cN, mN, mags', marks', known', below', latest', early', again', fl', mfl', rw', pl', mp', mr', bk', ls', ?_, ?_, ?_, ?_, ?_, ⟨t6.1.trans s6.1, t6.2.1.trans s6.2.1, t6.2.2.1.trans s6.2.2.1, t6.2.2.2.1.trans s6.2.2.2.1, t6.2.2.2.2.1.trans s6.2.2.2.2.1, t6.2.2.2.2.2.1.trans s6.2.2.2.2.2.1, t6.2.2.2.2.2.2.trans s6.2.2.2.2.2.2⟩, t7, t8⟩
    · rw [s1]; exact t1
    · exact s2 q t2
    · rw [s3]; exact t3
    · rw [s4]; exact t4
    · exact s5 q' t5

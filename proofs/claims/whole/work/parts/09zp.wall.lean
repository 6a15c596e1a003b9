/-! ===== PURE: all passes of write ===== -/
theorem w_all {b : EnvB} {P T : Nat} (ok : b.Ok) (hP : P < 32) (hT : T = 0 ∨ T + 2 = 3 * P) : ∀ (d k fuel fuel' M f0 st : Nat) (G : GF) (g gc rc sb : Nat → Nat) (c : CS) (m : MS) (mags marks known below latest early again rch mrch mso mbg mln : Nat → Int32) (seg mseg fst fl mfl rw0 pl0 mp0 mr0 : Int32) (bk0 : Nat) (ls : Int64) (gns mgns : Nat → Int64) (bef : Int64), k + d = T → d < fuel → d < fuel' → bk0 < 4 → vz rw0 → vz mr0 →
    WRel b P T k M f0 st G g gc rc sb c m mags marks known below latest early again rch mrch mso mbg mln seg mseg fst gns mgns bef →
    ∃ (M' f0' st' : Nat) (G' : GF) (g' gc' rc' sb' : Nat → Nat) (cN : CS) (mN : MS) (mags' marks' known' below' latest' early' again' rch' mrch' mso' mbg' mln' : Nat → Int32) (seg' mseg' fst' fl' mfl' rw' pl' mp' mr' : Int32) (bk' : Nat) (ls' : Int64) (gns' mgns' : Nat → Int64) (bef' : Int64),
    (L_X10_write_j_6 19 19 c.cend c.rend (nI b.W) (nI b.H) (nI b.band) (bI (czOf b.sty)) b.coef b.sty (nI P, nI T, 0, b.sty, 0) fuel (nI k) c.count c.start c.bn c.bf c.sf c.lf c.low c.size c.room c.free c.place c.window c.csize c.croom c.rplace c.cur c.left mags marks seg fst rch gns ls fl bk0 rw0 pl0) = (nI T, cN.count, cN.start, cN.bn, cN.bf, cN.sf, cN.lf, cN.low, cN.size, cN.room, cN.free, cN.place, cN.window, cN.csize, cN.croom, cN.rplace, cN.cur, cN.left, mags', marks', seg', fst', rch', gns', ls', fl', bk', rw', pl') ∧ (PL_X10_write_j_6 19 19 c.cend c.rend (nI b.W) (nI b.H) (nI b.band) (bI (czOf b.sty)) b.cn b.coef b.gn b.kn 91 91 b.sty (nI P, nI T, 0, b.sty, 0) fuel (nI k) c.count c.start c.bn c.bf c.sf c.lf c.low c.size c.room c.free c.place c.window c.csize c.croom c.rplace c.cur c.left mags marks seg fst rch gns ls fl bk0 rw0 pl0) ∧ (DL_X10_write_j_6 19 19 c.cend c.rend (nI b.W) (nI b.H) (nI b.band) (bI (czOf b.sty)) b.coef b.sty (nI P, nI T, 0, b.sty, 0) fuel (nI k) c.count c.start c.bn c.bf c.sf c.lf c.low c.size c.room c.free c.place c.window c.csize c.croom c.rplace c.cur c.left mags marks seg fst rch gns ls fl bk0 rw0 pl0) + 3 * c.bn ≤ 3 * cN.bn ∧
    (L_X11_write_j_5 (nI b.W) (nI b.H) (nI b.band) b.sty m.place m.limit b.mp b.mo b.mag b.min (nI P, nI T) fuel' bef (nI k) mseg mp0 mr0 mfl m.size m.begin m.low m.carried m.span m.room m.next m.last m.upper mrch mgns mso mbg mln known below latest early again m.sf m.lf m.bf) = (bef', nI T, mseg', mp', mr', mfl', mN.size, mN.begin, mN.low, mN.carried, mN.span, mN.room, mN.next, mN.last, mN.upper, mrch', mgns', mso', mbg', mln', known', below', latest', early', again', mN.sf, mN.lf, mN.bf) ∧ (PL_X11_write_j_5 (nI b.W) (nI b.H) (nI b.band) b.sty m.place m.limit 47 b.mp 47 b.mo 4096 b.mag 4096 b.min 96 96 96 96 96 4096 4096 4096 4096 4096 19 19 65536 (nI P, nI T) fuel' bef (nI k) mseg mp0 mr0 mfl m.size m.begin m.low m.carried m.span m.room m.next m.last m.upper mrch mgns mso mbg mln known below latest early again m.sf m.lf m.bf) ∧ (cN.cend = c.cend ∧ cN.rend = c.rend ∧ mN.place = m.place ∧ mN.limit = m.limit) ∧ (bk' < 4 ∧ vz rw' ∧ vz mr') ∧
    WRel b P T T M' f0' st' G' g' gc' rc' sb' cN mN mags' marks' known' below' latest' early' again' rch' mrch' mso' mbg' mln' seg' mseg' fst' gns' mgns' bef' := by
  intro d
  induction d with
  | zero =>
    intro k fuel fuel' M f0 st G g gc rc sb c m mags marks known below latest early again rch mrch mso mbg mln seg mseg fst fl mfl rw0 pl0 mp0 mr0 bk0 ls gns mgns bef h1 h2 h3 hbk hrw hmr h
    obtain ⟨n, rfl⟩ : ∃ n, fuel = n + 1 := ⟨fuel - 1, by omega⟩
    obtain ⟨n', rfl⟩ : ∃ n, fuel' = n + 1 := ⟨fuel' - 1, by omega⟩
    have hkT : k = T := by omega
    subst hkT
    have q : nI k ≤ nI k := nI_le (Nat.le_refl _) (by omega)
    refine ⟨M, f0, st, G, g, gc, rc, sb, c, m, mags, marks, known, below, latest, early, again, rch, mrch, mso, mbg, mln, seg, mseg, fst, fl, mfl, rw0, pl0, mp0, mr0, bk0, ls, gns, mgns, bef, ?_, ?_, ?_, ?_, ?_, ⟨rfl, rfl, rfl, rfl⟩, ⟨hbk, hrw, hmr⟩, h⟩
    · rw [L_X10_write_j_6, if_pos q]
    · rw [PL_X10_write_j_6]; exact fun z => absurd q z
    · rw [DL_X10_write_j_6, if_pos q]; omega
    · rw [L_X11_write_j_5, if_pos q]
    · rw [PL_X11_write_j_5]; exact fun z => absurd q z
  | succ d ih =>
    intro k fuel fuel' M f0 st G g gc rc sb c m mags marks known below latest early again rch mrch mso mbg mln seg mseg fst fl mfl rw0 pl0 mp0 mr0 bk0 ls gns mgns bef h1 h2 h3 hbk hrw hmr h
    obtain ⟨n, rfl⟩ : ∃ n, fuel = n + 1 := ⟨fuel - 1, by omega⟩
    obtain ⟨n', rfl⟩ : ∃ n, fuel' = n + 1 := ⟨fuel' - 1, by omega⟩
    obtain ⟨M1, f1, st1, G1, g1, gc1, rc1, sb1, c1, m1, mags1, marks1, known1, below1, latest1, early1, again1, rch1, mrch1, mbg1, mln1, seg1, mseg1, fst1, fl1, mfl1, less1, s1, s2, s3, s4, s5, s6, s7⟩ := w_step (fl := fl) (mfl := mfl) (rw0 := rw0) (pl0 := pl0) (mp0 := mp0) (mr0 := mr0) (bk0 := bk0) (ls := ls) ok hP (by omega) (show k < T by omega) h
    have hb : bN (rawB b.sty k) < 4 := by have := bN_le (rawB b.sty k); omega
    have hv : vz (bI (rawB b.sty k)) := by cases rawB b.sty k <;> first | exact Or.inl rfl | exact Or.inr rfl
    obtain ⟨M', f0', st', G', g', gc', rc', sb', cN, mN, mags', marks', known', below', latest', early', again', rch', mrch', mso', mbg', mln', seg', mseg', fst', fl', mfl', rw', pl', mp', mr', bk', ls', gns', mgns', bef', t1, t2, t3, t4, t5, t6, t7, t8⟩ := ih (k + 1) n n' M1 f1 st1 G1 g1 gc1 rc1 sb1 c1 m1 mags1 marks1 known1 below1 latest1 early1 again1 rch1 mrch1 (upd mso k mseg) mbg1 mln1 seg1 mseg1 fst1 fl1 mfl1 (bI (rawB b.sty k)) (nI (plN P k)) (nI (plN P k)) (bI (rawB b.sty k)) (bN (rawB b.sty k)) less1 (vp_updL gns k less1) (vp_updL mgns k less1) (errS b G1) (by omega) (by omega) (by omega) hb hv hv s7
    refine ⟨M', f0', st', G', g', gc', rc', sb', cN, mN, mags', marks', known', below', latest', early', again', rch', mrch', mso', mbg', mln', seg', mseg', fst', fl', mfl', rw', pl', mp', mr', bk', ls', gns', mgns', bef', ?_, ?_, ?_, ?_, ?_, ⟨t6.1.trans s6.1, t6.2.1.trans s6.2.1, t6.2.2.1.trans s6.2.2.1, t6.2.2.2.trans s6.2.2.2⟩, t7, t8⟩
    · rw [s1]; exact t1
    · exact s2 n t2
    · have := s3 n; omega
    · rw [s4]; exact t4
    · exact s5 n' t5

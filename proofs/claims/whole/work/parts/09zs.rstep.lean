/-! ===== PURE: one pass of read ===== -/
theorem Cod.tie {bk N K : Nat} {c : CS} {m : MS} (h : Cod bk N K c m) (hbk : bk < 4) : ∃ (cs cl b : Nat → Nat) (n : Nat), Tie c m cs cl b n := by
  rcases (show bk = 0 ∨ bk = 1 ∨ bk = 2 ∨ bk = 3 by omega) with rfl | rfl | rfl | rfl
  · obtain ⟨cs, cl, b, n, st, lw, sz, rm, z, t, -⟩ := h
    exact ⟨cs, cl, b, n, t⟩
  · obtain ⟨cs, cl, b, n, st, fr, t, -⟩ := h
    exact ⟨cs, cl, b, n, t⟩
  · obtain ⟨cs, cl, b, n, e, fr, sz, w, rm, pl, t, -⟩ := h
    exact ⟨cs, cl, b, n, t⟩
  · obtain ⟨cs, cl, b, n, e, fr, lt, cu, pl, t, -⟩ := h
    exact ⟨cs, cl, b, n, t⟩
theorem Cod.rd {r : Bool} {N K K' : Nat} {c : CS} {m : MS} (h : Cod (2 + bN r) N K c m) : Cod (2 + bN r) N K' c m := by cases r <;> exact h
theorem bkR (r : Bool) : wrI (2 + bN r) = 0 ∧ rawI (2 + bN r) = bI r ∧ J_X10_read_j_15 (bI r) = 2 + bN r := by cases r <;> exact ⟨rfl, rfl, rfl⟩
def RRel (b : EnvB) (P T k M N : Nat) (G : GF) (g gc : Nat → Nat) (c : CS) (m : MS) (mags marks known below latest early again : Nat → Int32) : Prop :=
  M ≤ 4 * qN k ∧ (staB b.sty T k = true → ∃ (cs cl bb : Nat → Nat), Tie c m cs cl bb N) ∧ (staB b.sty T k = false → Cod (2 + bN (rawB b.sty k)) (nT b g gc M) 0 c m) ∧ c.count = nI N ∧ N ≤ 65536 ∧ Fld b.W b.H (czOf b.sty) (if k < T then pW P k else 0) G mags marks known below latest early again ∧ ChW b k G g gc
theorem r_open {b : EnvB} {P T n k M N : Nat} {G : GF} {g gc rc sb : Nat → Nat} {c : CS} {m : MS} {mags marks known below latest early again rch mrch mso mbg mln : Nat → Int32} (hn : n ≤ T) (hT : T ≤ 91) (hk : k < n) (hR : Rch b.sty T T rc sb rch mrch mso mbg mln) (hN : ∀ j, j < T → rc j ≤ N)
    (h : RRel b P T k M N G g gc c m mags marks known below latest early again) :
    ∃ (c0 : CS) (m0 : MS), (J_X10_read_j_13 (nI n) (nI T) b.sty rch (nI k) c.count c.bf c.place c.cend c.window c.csize c.croom c.rplace c.rend c.cur c.left (bI (rawB b.sty k)) (bI (staB b.sty T k))) = (c0.place, c0.cend, c0.window, c0.csize, c0.croom, c0.rplace, c0.rend, c0.cur, c0.left) ∧ (PJ_X10_read_j_13 (nI n) (nI T) b.sty 91 rch (nI k) c.count c.bn c.bf (bI (rawB b.sty k)) (bI (staB b.sty T k))) ∧ (J_X11_read_j_39 (nI n) b.sty (nI T) mrch mso mbg mln (nI k) m.span m.room m.place m.limit m.next m.last m.upper m.bf (bI (rawB b.sty k))) = (m0.span, m0.room, m0.place, m0.limit, m0.next, m0.last, m0.upper) ∧ (PJ_X11_read_j_39 (nI n) b.sty (nI T) 96 mrch 96 mso 96 mbg 96 mln 65536 (nI k) m.bf (bI (rawB b.sty k))) ∧
    (c0.count = c.count ∧ c0.start = c.start ∧ c0.bn = c.bn ∧ c0.bf = c.bf ∧ c0.sf = c.sf ∧ c0.lf = c.lf ∧ c0.low = c.low ∧ c0.size = c.size ∧ c0.room = c.room ∧ c0.free = c.free) ∧ (m0.size = m.size ∧ m0.begin = m.begin ∧ m0.low = m.low ∧ m0.carried = m.carried ∧ m0.sf = m.sf ∧ m0.lf = m.lf ∧ m0.bf = m.bf) ∧ Cod (2 + bN (rawB b.sty k)) (nT b g gc M) 0 c0 m0 := by
  obtain ⟨h1, h2, h3, h4, h5, h6, h7⟩ := h
  have hsk := (end_ok b.sty (k := k) (T := T) (by omega) hT)
  cases hs : staB b.sty T k with
  | false =>
    have hk0 : k ≠ 0 := fun z => by rw [z] at hs; cases hs
    have he : endB b.sty T (k - 1) = false := by unfold staB at hs; rw [decide_eq_false hk0] at hs; simpa using hs
    have e2 := (end_ok b.sty (k := k - 1) (T := T) (by omega) hT).2
    rw [he] at e2
    have d : ¬ nI k = (0 : Int32) := nI_ne0 (by omega) (by omega)
    refine ⟨c, m, ?_, fun z => absurd rfl z, ?_, ⟨fun z => absurd z d, fun _ => ?_⟩, ⟨rfl, rfl, rfl, rfl, rfl, rfl, rfl, rfl, rfl, rfl⟩, ⟨rfl, rfl, rfl, rfl, rfl, rfl, rfl⟩, h3 hs⟩
    · unfold J_X10_read_j_13
      rw [if_pos (show bI false = 0 from rfl)]
    · unfold J_X11_read_j_39
      rw [if_neg d, pred_ok (by omega)]
      simp only [e2]
      rw [if_pos (show bI false = 0 from rfl)]
    · rw [pred_ok (by omega)]
      intro r er z
      rw [e2] at er
      exact absurd er.symm z
  | true =>
    obtain ⟨cs, cl, bb, t⟩ := h2 hs
    obtain ⟨fr, e, f1, f2, f3, f4, f5, f6, f7, f8, f9, f10, f11, f12, f13, f14⟩ := seg_ok hn hT hk hs hR hN h5
    obtain ⟨o1, o2, o3⟩ := rd_open (N := nT b g gc M) (K := 0) (rawB b.sty k) t f1 f2
    refine ⟨c.ord (F_X10_openForReading (bI (rawB b.sty k)) (nI fr) (nI e) c.count c.bf c.place c.cend c.window c.csize c.croom c.rplace c.rend c.cur c.left), m.ord (F_X11_openRead (nI fr) (nI (e - fr)) (bI (rawB b.sty k)) m.span m.upper m.bf), ?_, ?_, ?_, ?_, ⟨rfl, rfl, rfl, rfl, rfl, rfl, rfl, rfl, rfl, rfl⟩, ⟨rfl, rfl, rfl, rfl, rfl, rfl, rfl⟩, o3⟩
    · unfold J_X10_read_j_13
      rw [if_neg (show ¬ bI true = 0 by decide)]
      simp only [f4, f6]
      rfl
    · intro _
      refine ⟨f3, fun r10 e10 => ⟨f5, fun r11 e11 => ?_⟩⟩
      rw [f4] at e10
      rw [f6] at e11
      subst e10 e11
      exact o1
    · unfold J_X11_read_j_39
      by_cases ck : k = 0
      · have d : nI k = (0 : Int32) := by rw [ck]; rfl
        rw [if_pos d]
        simp only [f10, f14]
        rfl
      · have d : ¬ nI k = (0 : Int32) := nI_ne0 (by omega) (by omega)
        have he : endB b.sty T (k - 1) = true := by unfold staB at hs; rw [decide_eq_false ck] at hs; simpa using hs
        have e2 := (end_ok b.sty (k := k - 1) (T := T) (by omega) hT).2
        rw [he] at e2
        rw [if_neg d, pred_ok (by omega)]
        simp only [e2, show ¬ bI true = 0 by decide, if_false, f12, f14]
        rfl
    · refine ⟨fun _ => ⟨f7, f8, f9, fun j ej => ⟨f13, ?_⟩⟩, fun _ r er _ => ⟨f7, f8, f11, fun j ej => ⟨f13, ?_⟩⟩⟩
      · rw [f10] at ej
        subst ej
        rw [f14]; exact o2
      · rw [f12] at ej
        subst ej
        rw [f14]; exact o2
theorem Kept3 {bk : Nat} {c c' : CS} {m m' : MS} (hb : 2 ≤ bk) (h : Kept bk c c' m m') : c'.start = c.start ∧ c'.cend = c.cend ∧ c'.rend = c.rend ∧ m'.begin = m.begin ∧ m'.place = m.place ∧ m'.limit = m.limit ∧ c'.count = c.count ∧ c'.bn = c.bn ∧ c'.bf = c.bf ∧ m'.size = m.size ∧ m'.bf = m.bf := ⟨h.1, h.2.1, h.2.2.1, h.2.2.2.1, h.2.2.2.2.1, h.2.2.2.2.2.1, h.2.2.2.2.2.2.2 hb⟩
theorem r_step {b : EnvB} {P T n k M N : Nat} {G : GF} {g gc rc sb : Nat → Nat} {c : CS} {m : MS} {mags marks known below latest early again rch mrch mso mbg mln : Nat → Int32} {fl mfl rw0 pl0 mp0 mr0 : Int32} {bk0 : Nat} {ls : Int64} (ok : b.Ok) (hP : P < 32) (hT : T + 2 = 3 * P) (hn : n ≤ T) (hk : k < n) (hR : Rch b.sty T T rc sb rch mrch mso mbg mln) (hN : ∀ j, j < T → rc j ≤ N)
    (h : RRel b P T k M N G g gc c m mags marks known below latest early again) :
    ∃ (M' : Nat) (G' : GF) (g' gc' : Nat → Nat) (cN : CS) (mN : MS) (mags' marks' known' below' latest' early' again' : Nat → Int32) (fl' mfl' : Int32) (less' : Int64),
    (∀ q, (L_X10_read_j_5 (nI n) c.start 19 19 (nI b.W) (nI b.H) (nI b.band) (bI (czOf b.sty)) b.coef (nI P) (nI T) b.sty rch b.sty (q + 1) (nI k) c.count c.bn c.bf c.sf c.lf c.low c.size c.room c.free c.place c.cend c.window c.csize c.croom c.rplace c.rend c.cur c.left mags marks ls fl bk0 rw0 pl0) = (L_X10_read_j_5 (nI n) cN.start 19 19 (nI b.W) (nI b.H) (nI b.band) (bI (czOf b.sty)) b.coef (nI P) (nI T) b.sty rch b.sty q (nI (k + 1)) cN.count cN.bn cN.bf cN.sf cN.lf cN.low cN.size cN.room cN.free cN.place cN.cend cN.window cN.csize cN.croom cN.rplace cN.rend cN.cur cN.left mags' marks' less' fl' (2 + bN (rawB b.sty k)) (bI (rawB b.sty k)) (nI (plN P k)))) ∧ (∀ q, (PL_X10_read_j_5 (nI n) cN.start 19 19 (nI b.W) (nI b.H) (nI b.band) (bI (czOf b.sty)) b.cn b.coef b.gn b.kn (nI P) (nI T) b.sty 91 rch b.sty q (nI (k + 1)) cN.count cN.bn cN.bf cN.sf cN.lf cN.low cN.size cN.room cN.free cN.place cN.cend cN.window cN.csize cN.croom cN.rplace cN.rend cN.cur cN.left mags' marks' less' fl' (2 + bN (rawB b.sty k)) (bI (rawB b.sty k)) (nI (plN P k))) → (PL_X10_read_j_5 (nI n) c.start 19 19 (nI b.W) (nI b.H) (nI b.band) (bI (czOf b.sty)) b.cn b.coef b.gn b.kn (nI P) (nI T) b.sty 91 rch b.sty (q + 1) (nI k) c.count c.bn c.bf c.sf c.lf c.low c.size c.room c.free c.place c.cend c.window c.csize c.croom c.rplace c.rend c.cur c.left mags marks ls fl bk0 rw0 pl0)) ∧ (∀ q, (DL_X10_read_j_5 (nI n) c.start 19 19 (nI b.W) (nI b.H) (nI b.band) (bI (czOf b.sty)) b.coef (nI P) (nI T) b.sty rch b.sty (q + 1) (nI k) c.count c.bn c.bf c.sf c.lf c.low c.size c.room c.free c.place c.cend c.window c.csize c.croom c.rplace c.rend c.cur c.left mags marks ls fl bk0 rw0 pl0) = (DL_X10_read_j_5 (nI n) cN.start 19 19 (nI b.W) (nI b.H) (nI b.band) (bI (czOf b.sty)) b.coef (nI P) (nI T) b.sty rch b.sty q (nI (k + 1)) cN.count cN.bn cN.bf cN.sf cN.lf cN.low cN.size cN.room cN.free cN.place cN.cend cN.window cN.csize cN.croom cN.rplace cN.rend cN.cur cN.left mags' marks' less' fl' (2 + bN (rawB b.sty k)) (bI (rawB b.sty k)) (nI (plN P k)))) ∧
    (∀ q, (L_X11_read_j_8 (nI n) (nI b.W) (nI b.H) (nI b.band) b.sty (nI P) (nI T) m.begin b.mp b.mo b.mag b.min mrch mso mbg mln (q + 1) (nI k) mp0 mr0 mfl m.size m.low m.carried m.span m.room m.place m.limit m.next m.last m.upper known below latest early again m.sf m.lf m.bf) = (L_X11_read_j_8 (nI n) (nI b.W) (nI b.H) (nI b.band) b.sty (nI P) (nI T) mN.begin b.mp b.mo b.mag b.min mrch mso mbg mln q (nI (k + 1)) (nI (plN P k)) (bI (rawB b.sty k)) mfl' mN.size mN.low mN.carried mN.span mN.room mN.place mN.limit mN.next mN.last mN.upper known' below' latest' early' again' mN.sf mN.lf mN.bf)) ∧ (∀ q, (PL_X11_read_j_8 (nI n) (nI b.W) (nI b.H) (nI b.band) b.sty (nI P) (nI T) mN.begin 47 b.mp 47 b.mo 4096 b.mag 4096 b.min 96 mrch 96 mso 96 mbg 96 mln 4096 4096 4096 4096 4096 19 19 65536 q (nI (k + 1)) (nI (plN P k)) (bI (rawB b.sty k)) mfl' mN.size mN.low mN.carried mN.span mN.room mN.place mN.limit mN.next mN.last mN.upper known' below' latest' early' again' mN.sf mN.lf mN.bf) → (PL_X11_read_j_8 (nI n) (nI b.W) (nI b.H) (nI b.band) b.sty (nI P) (nI T) m.begin 47 b.mp 47 b.mo 4096 b.mag 4096 b.min 96 mrch 96 mso 96 mbg 96 mln 4096 4096 4096 4096 4096 19 19 65536 (q + 1) (nI k) mp0 mr0 mfl m.size m.low m.carried m.span m.room m.place m.limit m.next m.last m.upper known below latest early again m.sf m.lf m.bf)) ∧
    (cN.count = c.count ∧ cN.start = c.start ∧ cN.bn = c.bn ∧ cN.bf = c.bf ∧ mN.size = m.size ∧ mN.begin = m.begin ∧ mN.bf = m.bf) ∧ (fl = mfl → fl' = mfl') ∧
    RRel b P T (k + 1) M' N G' g' gc' cN mN mags' marks' known' below' latest' early' again' := by
  have hT91 : T ≤ 91 := by omega
  obtain ⟨c0, m0, o1, o2, o3, o4, ⟨x1, x2, x3, x4, x5, x6, x7, x8, x9, x10⟩, ⟨y1, y2, y3, y4, y5, y6, y7⟩, o5⟩ := r_open hn hT91 hk hR hN h
  obtain ⟨h1, h2, h3, h4, h5, h6, h7⟩ := h
  obtain ⟨i1, i2, i3⟩ := bkR (rawB b.sty k)
  rw [if_pos (show k < T by omega)] at h6
  have hbn := bN_le (rawB b.sty k)
  have hbk : 2 + bN (rawB b.sty k) < 4 := by omega
  obtain ⟨G', g', gc', M', c', m', mags', marks', known', below', latest', early', again', less', fl', mfl', p1, p2, p3, p4, p5, p6, p7, p8, p9, p10, p11, p12⟩ := pass_any (fl := fl) (mfl := mfl) (mkd := F_X10_has 32 b.sty) ok hP (by omega) hbk h1 (by omega) o5 h6 h7 (has_iff 32 b.sty)
  rw [i2, x1, x2, x3, x4, x5, x6, x7, x8, x9, x10] at p1 p2 p3
  rw [i1, i2, y1, y2, y3, y4, y5, y6, y7] at p4 p5
  obtain ⟨k1, k2, k3, k4, k5, k6, k7, k8, k9, k10, k11⟩ := Kept3 (by omega) p6
  have hD0 : (D_X9_go (nI (kdN k)) (F_X10_has 32 b.sty) c.count c.start c.bn c.bf 19 c.sf 19 c.lf c.low c.size c.room c.free c0.place c0.cend c0.window c0.csize c0.croom c0.rplace c0.rend c0.cur c0.left (nI b.W) (nI b.H) (nI b.band) (bI (czOf b.sty)) b.coef mags marks fl (2 + bN (rawB b.sty k)) (bI (rawB b.sty k)) (nI (plN P k))) = 0 := by
    rw [k8, x3] at p3
    omega
  have hF : Fld b.W b.H (czOf b.sty) (if k + 1 < T then pW P (k + 1) else 0) G' mags' marks' known' below' latest' early' again' := by
    by_cases cT : k + 1 < T
    · rw [if_pos cT, pW_next (by omega)]; exact p9
    · rw [if_neg cT]
      have e0 : plN P k = 0 := by unfold plN; omega
      rw [e0] at p9; exact p9
  obtain ⟨rw1, rw2⟩ := raw_ok b.sty (k := k) (by omega)
  have sta := sta_ok b.sty (k := k) (T := T) (by omega) hT91
  obtain ⟨pl1, pl2⟩ := pl_ok hP (k := k) (by omega)
  obtain ⟨kd1, kd2⟩ := kd_all k (by omega)
  have hnle : ¬ nI n ≤ nI k := nI_ge hk (by omega)
  have hvz : vz (bI (rawB b.sty k)) := by cases rawB b.sty k <;> first | exact Or.inl rfl | exact Or.inr rfl
  obtain ⟨rs1, rs2⟩ := reset_both b.sty c'.sf c'.lf m'.sf m'.lf
  -- contexts anew where asked
  have hc' : c'.count = nI N := k7.trans (x1.trans h4)
  have hfin : RRel b P T (k + 1) M' N G' g' gc' (c'.ctx (F_X10_resetIfAsked 19 c'.sf 19 c'.lf b.sty).1 (F_X10_resetIfAsked 19 c'.sf 19 c'.lf b.sty).2) (m'.ctx (rst b.sty m'.sf m'.lf).1 (rst b.sty m'.sf m'.lf).2) mags' marks' known' below' latest' early' again' := by
    refine ⟨p8, fun _ => ?_, fun z => ?_, hc', h5, hF, p11⟩
    · obtain ⟨cs, cl, bb, nn, t⟩ := p7.tie hbk
      have htop := t.top
      have hnn : nn = N := (nI_eq (by omega) (by omega)).mp (t.cnt.symm.trans hc')
      subst hnn
      rcases rs2 with ⟨e1, e2⟩ | ⟨e1, e2, e3, e4⟩
      · rw [e1, e2]; exact ⟨cs, cl, bb, t⟩
      · exact ⟨_, _, bb, t.anew e1 e2 e3 e4⟩
    · rw [sta_next] at z
      rw [raw_next z]
      rcases rs2 with ⟨e1, e2⟩ | ⟨e1, e2, e3, e4⟩
      · rw [e1, e2]; exact p7.rd
      · exact (p7.anew hbk e1 e2 e3 e4).rd
  refine ⟨M', G', g', gc', c'.ctx (F_X10_resetIfAsked 19 c'.sf 19 c'.lf b.sty).1 (F_X10_resetIfAsked 19 c'.sf 19 c'.lf b.sty).2, m'.ctx (rst b.sty m'.sf m'.lf).1 (rst b.sty m'.sf m'.lf).2, mags', marks', known', below', latest', early', again', fl', mfl', less', ?_, ?_, ?_, ?_, ?_, ⟨k7.trans x1, k1.trans x2, k8.trans x3, k9.trans x4, k10.trans y1, k4.trans y2, k11.trans y7⟩, p12, hfin⟩
  all_goals generalize hcN : c'.ctx (F_X10_resetIfAsked 19 c'.sf 19 c'.lf b.sty).1 (F_X10_resetIfAsked 19 c'.sf 19 c'.lf b.sty).2 = cN
  all_goals generalize hmN : m'.ctx (rst b.sty m'.sf m'.lf).1 (rst b.sty m'.sf m'.lf).2 = mN
  all_goals
    have a1 : cN.count = c'.count := by rw [← hcN]; rfl
    have a2 : cN.start = c.start := by rw [← hcN]; exact k1.trans x2
    have a3 : cN.bn = c'.bn := by rw [← hcN]; rfl
    have a4 : cN.bf = c'.bf := by rw [← hcN]; rfl
    have a5 : cN.sf = (F_X10_resetIfAsked 19 c'.sf 19 c'.lf b.sty).1 := by rw [← hcN]; rfl
    have a6 : cN.lf = (F_X10_resetIfAsked 19 c'.sf 19 c'.lf b.sty).2 := by rw [← hcN]; rfl
    have a7 : cN.low = c'.low := by rw [← hcN]; rfl
    have a8 : cN.size = c'.size := by rw [← hcN]; rfl
    have a9 : cN.room = c'.room := by rw [← hcN]; rfl
    have a10 : cN.free = c'.free := by rw [← hcN]; rfl
    have a11 : cN.place = c'.place := by rw [← hcN]; rfl
    have a12 : cN.cend = c0.cend := by rw [← hcN]; exact k2
    have a13 : cN.window = c'.window := by rw [← hcN]; rfl
    have a14 : cN.csize = c'.csize := by rw [← hcN]; rfl
    have a15 : cN.croom = c'.croom := by rw [← hcN]; rfl
    have a16 : cN.rplace = c'.rplace := by rw [← hcN]; rfl
    have a17 : cN.rend = c0.rend := by rw [← hcN]; exact k3
    have a18 : cN.cur = c'.cur := by rw [← hcN]; rfl
    have a19 : cN.left = c'.left := by rw [← hcN]; rfl
    have b1 : mN.size = m'.size := by rw [← hmN]; rfl
    have b2 : mN.begin = m.begin := by rw [← hmN]; exact k4.trans y2
    have b3 : mN.low = m'.low := by rw [← hmN]; rfl
    have b4 : mN.carried = m'.carried := by rw [← hmN]; rfl
    have b5 : mN.span = m'.span := by rw [← hmN]; rfl
    have b6 : mN.room = m'.room := by rw [← hmN]; rfl
    have b7 : mN.place = m0.place := by rw [← hmN]; exact k5
    have b8 : mN.limit = m0.limit := by rw [← hmN]; exact k6
    have b9 : mN.next = m'.next := by rw [← hmN]; rfl
    have b10 : mN.last = m'.last := by rw [← hmN]; rfl
    have b11 : mN.upper = m'.upper := by rw [← hmN]; rfl
    have b12 : mN.sf = (rst b.sty m'.sf m'.lf).1 := by rw [← hmN]; rfl
    have b13 : mN.lf = (rst b.sty m'.sf m'.lf).2 := by rw [← hmN]; rfl
    have b14 : mN.bf = m'.bf := by rw [← hmN]; rfl
    simp only [CS.Z] at p1
    simp only [MS.W] at p4
  · intro q
    rw [L_X10_read_j_5, if_neg hnle, a1, a2, a3, a4, a5, a6, a7, a8, a9, a10, a11, a12, a13, a14, a15, a16, a17, a18, a19, nI_succ]
    simp only [rw1, sta, o1, i3, pl1, F_X9_aim, kd1, p1]
  · intro q hq
    rw [a1, a2, a3, a4, a5, a6, a7, a8, a9, a10, a11, a12, a13, a14, a15, a16, a17, a18, a19, nI_succ] at hq
    rw [PL_X10_read_j_5]
    simp only [rw1, sta, o1, i3, pl1, F_X9_aim, kd1, p1, forall_eq']
    exact fun _ => ⟨o2, hvz, p2, rs1, hq⟩
  · intro q
    rw [DL_X10_read_j_5, if_neg hnle, a1, a2, a3, a4, a5, a6, a7, a8, a9, a10, a11, a12, a13, a14, a15, a16, a17, a18, a19, nI_succ]
    simp only [rw1, sta, o1, i3, pl1, F_X9_aim, kd1, p1, hD0, Nat.zero_add]
  · intro q
    rw [L_X11_read_j_8, if_neg hnle, b1, b2, b3, b4, b5, b6, b7, b8, b9, b10, b11, b12, b13, b14, nI_succ]
    simp only [rw2, o3, p4]
  · intro q hq
    rw [b1, b2, b3, b4, b5, b6, b7, b8, b9, b10, b11, b12, b13, b14, nI_succ] at hq
    rw [PL_X11_read_j_8]
    simp only [rw2, o3, p4, forall_eq']
    exact fun _ => ⟨hvz, o4, p5, hq⟩

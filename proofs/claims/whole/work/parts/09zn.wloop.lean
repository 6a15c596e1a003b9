/-! ===== PURE: one pass of write, both loops ===== -/
theorem w_step {b : EnvB} {P T k M f0 st : Nat} {G : GF} {g gc rc sb : Nat → Nat} {c : CS} {m : MS} {mags marks known below latest early again rch mrch mso mbg mln : Nat → Int32} {seg mseg fst fl mfl rw0 pl0 mp0 mr0 : Int32} {bk0 : Nat} {ls : Int64} {gns mgns : Nat → Int64} {bef : Int64} (ok : b.Ok) (hP : P < 32) (hT : T + 2 = 3 * P) (hk : k < T)
    (h : WRel b P T k M f0 st G g gc rc sb c m mags marks known below latest early again rch mrch mso mbg mln seg mseg fst gns mgns bef) :
    ∃ (M' f0' st' : Nat) (G' : GF) (g' gc' rc' sb' : Nat → Nat) (cN : CS) (mN : MS) (mags' marks' known' below' latest' early' again' rch' mrch' mbg' mln' : Nat → Int32) (seg' mseg' fst' fl' mfl' : Int32) (less' : Int64),
    (∀ n, (L_X10_write_j_6 19 19 c.cend c.rend (nI b.W) (nI b.H) (nI b.band) (bI (czOf b.sty)) b.coef b.sty (nI P, nI T, 0, b.sty, 0) (n + 1) (nI k) c.count c.start c.bn c.bf c.sf c.lf c.low c.size c.room c.free c.place c.window c.csize c.croom c.rplace c.cur c.left mags marks seg fst rch gns ls fl bk0 rw0 pl0) = (L_X10_write_j_6 19 19 cN.cend cN.rend (nI b.W) (nI b.H) (nI b.band) (bI (czOf b.sty)) b.coef b.sty (nI P, nI T, 0, b.sty, 0) n (nI (k + 1)) cN.count cN.start cN.bn cN.bf cN.sf cN.lf cN.low cN.size cN.room cN.free cN.place cN.window cN.csize cN.croom cN.rplace cN.cur cN.left mags' marks' seg' fst' rch' (vp_updL gns k less') less' fl' (bN (rawB b.sty k)) (bI (rawB b.sty k)) (nI (plN P k)))) ∧ (∀ n, (PL_X10_write_j_6 19 19 cN.cend cN.rend (nI b.W) (nI b.H) (nI b.band) (bI (czOf b.sty)) b.cn b.coef b.gn b.kn 91 91 b.sty (nI P, nI T, 0, b.sty, 0) n (nI (k + 1)) cN.count cN.start cN.bn cN.bf cN.sf cN.lf cN.low cN.size cN.room cN.free cN.place cN.window cN.csize cN.croom cN.rplace cN.cur cN.left mags' marks' seg' fst' rch' (vp_updL gns k less') less' fl' (bN (rawB b.sty k)) (bI (rawB b.sty k)) (nI (plN P k))) → (PL_X10_write_j_6 19 19 c.cend c.rend (nI b.W) (nI b.H) (nI b.band) (bI (czOf b.sty)) b.cn b.coef b.gn b.kn 91 91 b.sty (nI P, nI T, 0, b.sty, 0) (n + 1) (nI k) c.count c.start c.bn c.bf c.sf c.lf c.low c.size c.room c.free c.place c.window c.csize c.croom c.rplace c.cur c.left mags marks seg fst rch gns ls fl bk0 rw0 pl0)) ∧ (∀ n, (DL_X10_write_j_6 19 19 c.cend c.rend (nI b.W) (nI b.H) (nI b.band) (bI (czOf b.sty)) b.coef b.sty (nI P, nI T, 0, b.sty, 0) (n + 1) (nI k) c.count c.start c.bn c.bf c.sf c.lf c.low c.size c.room c.free c.place c.window c.csize c.croom c.rplace c.cur c.left mags marks seg fst rch gns ls fl bk0 rw0 pl0) + 3 * c.bn ≤ (DL_X10_write_j_6 19 19 cN.cend cN.rend (nI b.W) (nI b.H) (nI b.band) (bI (czOf b.sty)) b.coef b.sty (nI P, nI T, 0, b.sty, 0) n (nI (k + 1)) cN.count cN.start cN.bn cN.bf cN.sf cN.lf cN.low cN.size cN.room cN.free cN.place cN.window cN.csize cN.croom cN.rplace cN.cur cN.left mags' marks' seg' fst' rch' (vp_updL gns k less') less' fl' (bN (rawB b.sty k)) (bI (rawB b.sty k)) (nI (plN P k))) + 3 * cN.bn) ∧
    (∀ n, (L_X11_write_j_5 (nI b.W) (nI b.H) (nI b.band) b.sty m.place m.limit b.mp b.mo b.mag b.min (nI P, nI T) (n + 1) bef (nI k) mseg mp0 mr0 mfl m.size m.begin m.low m.carried m.span m.room m.next m.last m.upper mrch mgns mso mbg mln known below latest early again m.sf m.lf m.bf) = (L_X11_write_j_5 (nI b.W) (nI b.H) (nI b.band) b.sty mN.place mN.limit b.mp b.mo b.mag b.min (nI P, nI T) n (errS b G') (nI (k + 1)) mseg' (nI (plN P k)) (bI (rawB b.sty k)) mfl' mN.size mN.begin mN.low mN.carried mN.span mN.room mN.next mN.last mN.upper mrch' (vp_updL mgns k less') (upd mso k mseg) mbg' mln' known' below' latest' early' again' mN.sf mN.lf mN.bf)) ∧ (∀ n, (PL_X11_write_j_5 (nI b.W) (nI b.H) (nI b.band) b.sty mN.place mN.limit 47 b.mp 47 b.mo 4096 b.mag 4096 b.min 96 96 96 96 96 4096 4096 4096 4096 4096 19 19 65536 (nI P, nI T) n (errS b G') (nI (k + 1)) mseg' (nI (plN P k)) (bI (rawB b.sty k)) mfl' mN.size mN.begin mN.low mN.carried mN.span mN.room mN.next mN.last mN.upper mrch' (vp_updL mgns k less') (upd mso k mseg) mbg' mln' known' below' latest' early' again' mN.sf mN.lf mN.bf) → (PL_X11_write_j_5 (nI b.W) (nI b.H) (nI b.band) b.sty m.place m.limit 47 b.mp 47 b.mo 4096 b.mag 4096 b.min 96 96 96 96 96 4096 4096 4096 4096 4096 19 19 65536 (nI P, nI T) (n + 1) bef (nI k) mseg mp0 mr0 mfl m.size m.begin m.low m.carried m.span m.room m.next m.last m.upper mrch mgns mso mbg mln known below latest early again m.sf m.lf m.bf)) ∧
    (cN.cend = c.cend ∧ cN.rend = c.rend ∧ mN.place = m.place ∧ mN.limit = m.limit) ∧
    WRel b P T (k + 1) M' f0' st' G' g' gc' rc' sb' cN mN mags' marks' known' below' latest' early' again' rch' mrch' (upd mso k mseg) mbg' mln' seg' mseg' fst' (vp_updL gns k less') (vp_updL mgns k less') (errS b G') := by
  have hT91 : T ≤ 91 := by omega
  obtain ⟨c0, m0, mbg', G', g', gc', M', c', m', mags', marks', known', below', latest', early', again', less', fl', mfl', n1, ⟨o1, o2, o3, o6, o7⟩, ⟨p1, p2, p3, p4, p5⟩, ⟨k1, k2, k3, k4, k5, k6⟩, p7, p8, hF, p10, p11, r1, r2, q1, q2, q3, q4, q5, q6, j25, j22⟩ := w_go (fl := fl) (mfl := mfl) ok hP hT hk h
  have hlim := ChW.lim (b := b) (k := k + 1) ok hP (by omega) p8 p11
  obtain ⟨rw1, rw2⟩ := raw_ok b.sty (k := k) (by omega)
  obtain ⟨en1, en2⟩ := end_ok b.sty hk hT91
  have sta := sta_ok b.sty hk hT91
  obtain ⟨pl1, pl2⟩ := pl_ok hP (k := k) (by omega)
  obtain ⟨kd1, kd2⟩ := kd_all k (by omega)
  have hcl : (nI k).toNatClampNeg = k := nI_clamp (by omega)
  have hnle : ¬ nI T ≤ nI k := nI_ge hk (by omega)
  have hi91 : vp_in (nI k) 91 := vp_in_nI (by omega) (by omega)
  have hi96 : vp_in (nI k) 96 := vp_in_nI (by omega) (by omega)
  have hvz : vz (bI (rawB b.sty k)) := by cases rawB b.sty k <;> first | exact Or.inl rfl | exact Or.inr rfl
  have j14 := (bkI (rawB b.sty k)).2.2
  have hsg := sgo_le b.sty T k
  have hbn := bN_le (rawB b.sty k)
  obtain ⟨rs1, rs2⟩ := reset_both b.sty c'.sf c'.lf m'.sf m'.lf
  have hh := h
  obtain ⟨h1, h2, h3, h4, h5, h6, h7, h8, h9, h10, h11, h12, h13, h14, h15⟩ := hh
  have hms : (nI (sgo b.sty T k)).toNatClampNeg = sgo b.sty T k := nI_clamp (by omega)
  -- what the end of the pass makes of both sides
  have key : ∃ (cE : CS) (mE : MS) (f0' st' : Nat) (rc' sb' : Nat → Nat) (rch' mrch' mln' : Nat → Int32) (seg' mseg' fst' : Int32),
      (J_X10_write_j_32 b.sty (nI k) seg fst rch (bI (rawB b.sty k)) (c0.start, c0.low, c0.size, c0.room, c0.free) (c'.Z mags' marks' less' fl') (nI (n1 + 5 * (1 - bN (rawB b.sty k)))) (bI (endB b.sty T k)) = (cE.count, cE.bn, cE.bf, cE.low, cE.room, cE.free, seg', fst', rch') ∧
      PJ_X10_write_j_32 91 b.sty (nI k) fst rch (bI (rawB b.sty k)) (c0.start, c0.low, c0.size, c0.room, c0.free) (c'.Z mags' marks' less' fl') (nI (n1 + 5 * (1 - bN (rawB b.sty k)))) (bI (endB b.sty T k)) ∧
      DJ_X10_write_j_32 b.sty (bI (rawB b.sty k)) (c0.start, c0.low, c0.size, c0.room, c0.free) (c'.Z mags' marks' less' fl') (bI (endB b.sty T k)) + 3 * c'.bn ≤ 3 * cE.bn) ∧
      (cE.start = c0.start ∧ cE.size = c'.size ∧ cE.place = c'.place ∧ cE.cend = c'.cend ∧ cE.window = c'.window ∧ cE.csize = c'.csize ∧ cE.croom = c'.croom ∧ cE.rplace = c'.rplace ∧ cE.rend = c'.rend ∧ cE.cur = c'.cur ∧ cE.left = c'.left) ∧
      (mE.place = m'.place ∧ mE.limit = m'.limit) ∧
      (∀ mN, mN = mE.ctx (rst b.sty m'.sf m'.lf).1 (rst b.sty m'.sf m'.lf).2 → (∀ n, (L_X11_write_j_5 (nI b.W) (nI b.H) (nI b.band) b.sty m.place m.limit b.mp b.mo b.mag b.min (nI P, nI T) (n + 1) bef (nI k) mseg mp0 mr0 mfl m.size m.begin m.low m.carried m.span m.room m.next m.last m.upper mrch mgns mso mbg mln known below latest early again m.sf m.lf m.bf) = (L_X11_write_j_5 (nI b.W) (nI b.H) (nI b.band) b.sty mN.place mN.limit b.mp b.mo b.mag b.min (nI P, nI T) n (errS b G') (nI (k + 1)) mseg' (nI (plN P k)) (bI (rawB b.sty k)) mfl' mN.size mN.begin mN.low mN.carried mN.span mN.room mN.next mN.last mN.upper mrch' (vp_updL mgns k less') (upd mso k mseg) mbg' mln' known' below' latest' early' again' mN.sf mN.lf mN.bf)) ∧ (∀ n, (PL_X11_write_j_5 (nI b.W) (nI b.H) (nI b.band) b.sty mN.place mN.limit 47 b.mp 47 b.mo 4096 b.mag 4096 b.min 96 96 96 96 96 4096 4096 4096 4096 4096 19 19 65536 (nI P, nI T) n (errS b G') (nI (k + 1)) mseg' (nI (plN P k)) (bI (rawB b.sty k)) mfl' mN.size mN.begin mN.low mN.carried mN.span mN.room mN.next mN.last mN.upper mrch' (vp_updL mgns k less') (upd mso k mseg) mbg' mln' known' below' latest' early' again' mN.sf mN.lf mN.bf) → (PL_X11_write_j_5 (nI b.W) (nI b.H) (nI b.band) b.sty m.place m.limit 47 b.mp 47 b.mo 4096 b.mag 4096 b.min 96 96 96 96 96 4096 4096 4096 4096 4096 19 19 65536 (nI P, nI T) (n + 1) bef (nI k) mseg mp0 mr0 mfl m.size m.begin m.low m.carried m.span m.room m.next m.last m.upper mrch mgns mso mbg mln known below latest early again m.sf m.lf m.bf))) ∧
      WRel b P T (k + 1) M' f0' st' G' g' gc' rc' sb' (cE.ctx (F_X10_resetIfAsked 19 c'.sf 19 c'.lf b.sty).1 (F_X10_resetIfAsked 19 c'.sf 19 c'.lf b.sty).2) (mE.ctx (rst b.sty m'.sf m'.lf).1 (rst b.sty m'.sf m'.lf).2) mags' marks' known' below' latest' early' again' rch' mrch' (upd mso k mseg) mbg' mln' seg' mseg' fst' (vp_updL gns k less') (vp_updL mgns k less') (errS b G') := by
    cases he : endB b.sty T k with
    | false =>
      have hR := rch_on (rk := n1 + 5 * (1 - bN (rawB b.sty k))) hT91 hk he (by omega) (by omega) h o6 o7
      rw [he] at en2
      refine ⟨c', m', f0, st, nup rc k (n1 + 5 * (1 - bN (rawB b.sty k))), nup sb k st, upd rch k (nI (n1 + 5 * (1 - bN (rawB b.sty k)))), upd mrch k (nI (n1 + 5 * (1 - bN (rawB b.sty k)))), mln, seg, mseg, fst, ⟨?_, ?_, ?_⟩, ⟨k1, rfl, rfl, rfl, rfl, rfl, rfl, rfl, rfl, rfl, rfl⟩, ⟨rfl, rfl⟩, ?_, ?_⟩
      · unfold J_X10_write_j_32
        rw [if_pos (show bI false = 0 from rfl), hcl]; rfl
      · exact fun z => absurd rfl z
      · unfold DJ_X10_write_j_32
        rw [if_pos (show bI false = 0 from rfl)]; omega
      · intro mN emN
        have x1 : mN.place = m.place := by rw [emN]; exact k5
        have x2 : mN.limit = m.limit := by rw [emN]; exact k6
        have x3 : mN.begin = m0.begin := by rw [emN]; exact k4
        simp only [MS.W] at p4 j22
        refine ⟨fun n => ?_, fun n hn => ?_⟩
        · rw [L_X11_write_j_5, if_neg hnle, x1, x2, x3]
          simp only [rw2, o2, p4, r2, j22, en2, show bI false = 0 from rfl, if_true, hcl, p10]
          rw [nI_succ, emN]
          rfl
        · rw [x1, x2, x3, nI_succ, emN] at hn
          rw [PL_X11_write_j_5]
          simp only [rw2, o2, p4, r2, j22, en2, show bI false = 0 from rfl, forall_eq', hcl, p10]
          exact fun _ => ⟨hvz, o3, p5, r1, hi96, hi96, hi96, fun _ => hn, fun z => absurd trivial z⟩
      · refine ⟨p8, fun z => ?_, fun _ => ⟨?_, q5, by rcases Nat.lt_or_ge f0 k with z | z <;> omega, by rw [Nat.add_sub_cancel, nup_s]⟩, h4, hF, p11, rfl, by omega, fun j hj => ?_, fun j hj hj2 => ?_, hR, ?_, ?_, h14, gns_on h15⟩
        · rw [sta_next, he] at z; cases z
        · rw [raw_next he]
          rcases rs2 with ⟨e1, e2⟩ | ⟨e1, e2, e3, e4⟩
          · rw [e1, e2]; exact p7.more (by omega) (by omega)
          · exact (p7.anew (by omega) e1 e2 e3 e4).more (by omega) (by omega)
        · rw [nup_n (by omega)]; exact h9 j hj
        · by_cases cj : j = k
          · rw [cj, nup_s]
          · rw [nup_n cj]; exact h10 j hj (by omega)
        · rw [h12, sgo_next, he]; rfl
        · rw [h13, sgo_next, he]; rfl
    | true =>
      rw [he] at en2
      obtain ⟨n', bn', f', mf', lw, rm, fr, ml, mc, mr, e1, e2, e3, e4, e5, e6, e7, e8, e9, e10⟩ := end_sim (sty := b.sty) (rawB b.sty k) p7 q5 h4 (by omega)
      have hrcA : ∀ j, j < k → upd rch k (nI (n1 + 5 * (1 - bN (rawB b.sty k)))) j = nI (nup rc k (n1 + 5 * (1 - bN (rawB b.sty k))) j) := fun j hj => by rw [pk_un (by omega), nup_n (by omega)]; exact h11.1 j hj
      have hrcB : ∀ j, j < k + 1 → upd mrch k (nI (n1 + 5 * (1 - bN (rawB b.sty k)))) j = nI (nup rc k (n1 + 5 * (1 - bN (rawB b.sty k))) j) := fun j hj => by
        by_cases cj : j = k
        · rw [cj, pk_us, nup_s]
        · rw [pk_un cj, nup_n cj]; exact h11.2.1 j (by omega)
      have hrcC : ∀ j, j < k + 1 → nup rc k (n1 + 5 * (1 - bN (rawB b.sty k))) j ≤ 65541 := fun j hj => by
        by_cases cj : j = k
        · rw [cj, nup_s]; omega
        · rw [nup_n cj]; exact h11.2.2.1 j (by omega)
      obtain ⟨cl1, rch', cl2, cl3⟩ := close_c (sg := seg) (n := n') (f0 := f0) (show k < 91 by omega) e8 h8 (fun j hj => hrcC j (by omega)) hrcA
      obtain ⟨cm1, cm2⟩ := close_m (n := n') (f0 := f0) (r26 := (nI n', ml, mc, mr, mf')) (show k < 91 by omega) e8 rfl hrcC hrcB (fun j hj => by rw [nup_n (by omega)]; have := h9 j hj; omega) h8
      obtain ⟨hR, hR2⟩ := rch_end (rk := n1 + 5 * (1 - bN (rawB b.sty k))) hT91 hk he e8 e7 h o6 o7 cl3 cm2
      refine ⟨c'.fin (nI n') bn' f' lw rm fr, m'.fin (nI n') ml mc mr mf', k + 1, n', rcEnd (nup rc k (n1 + 5 * (1 - bN (rawB b.sty k)))) f0 k n', nup sb k st, rch', (L_X11_write_j_28 (nI k) (nI n', ml, mc, mr, mf') fu 0 (upd mrch k (nI (n1 + 5 * (1 - bN (rawB b.sty k)))))).2, upd mln (sgo b.sty T k) (nI n' - nI st), seg + 1, mseg + 1, nI (k + 1), ⟨?_, ?_, ?_⟩, ⟨k1, rfl, rfl, rfl, rfl, rfl, rfl, rfl, rfl, rfl, rfl⟩, ⟨rfl, rfl⟩, ?_, ?_⟩
      · unfold J_X10_write_j_32
        rw [if_neg (show ¬ bI true = 0 by decide), hcl, ← k1]
        simp only [CS.Z, e1, h14, cl2]
        rfl
      · refine fun _ => ⟨?_, fun r29 e29 => ?_⟩
        · rw [← k1]; exact e2
        · rw [← k1] at e29
          have e29' := e1.symm.trans e29
          subst e29'
          rw [hcl, h14]; exact cl1
      · unfold DJ_X10_write_j_32
        rw [if_neg (show ¬ bI true = 0 by decide), ← k1]
        simp only [Nat.add_zero]
        exact e3
      · intro mN emN
        have x1 : mN.place = m.place := by rw [emN]; exact k5
        have x2 : mN.limit = m.limit := by rw [emN]; exact k6
        have x3 : mN.begin = m0.begin := by rw [emN]; exact k4
        rw [k4] at e5 e6 q6
        simp only [MS.W] at p4 j22
        refine ⟨fun n => ?_, fun n hn => ?_⟩
        · rw [L_X11_write_j_5, if_neg hnle, x1, x2, x3]
          rw [h13] at o2 ⊢
          simp only [rw2, o2, p4, r2, j22, en2, show ¬ bI true = 0 by decide, if_false, hcl, p10, e5, hms]
          rw [nI_succ, emN, q6]
          rfl
        · rw [x1, x2, x3, nI_succ, emN] at hn
          rw [PL_X11_write_j_5]
          rw [h13] at o2 o3 hn ⊢
          simp only [rw2, o2, p4, r2, j22, en2, forall_eq', hcl, p10, e5, hms]
          rw [q6] at hn ⊢
          refine fun _ => ⟨hvz, o3, ?_, r1, hi96, hi96, hi96, fun z => absurd z (by decide), fun _ => ⟨?_, vp_in_nI (by omega) (by omega), cm1, hn⟩⟩
          · rw [← q6]; exact p5
          · rw [← q6]; exact e6
      · refine ⟨p8, fun _ => ⟨?_, rfl, ?_⟩, fun z => ?_, e8, hF, p11, rfl, Nat.le_refl _, hR2, fun j hj hj2 => absurd hj (by omega), hR, ?_, ?_, rfl, gns_on h15⟩
        · rcases rs2 with ⟨g1, g2⟩ | ⟨g1, g2, g3, g4⟩
          · rw [g1, g2]; exact e10.more (by omega)
          · exact (e10.anew g1 g2 g3 g4).more (by omega)
        · rw [if_neg (by omega), Nat.add_sub_cancel]; exact (if_pos rfl).symm
        · rw [sta_next, he] at z; cases z
        · rw [h12, sgo_next, he]; exact nI_1 _
        · rw [h13, sgo_next, he]; exact nI_1 _
  obtain ⟨cE, mE, f0', st', rc', sb', rch', mrch', mln', seg', mseg', fst', ⟨j32, pj32, dj32⟩, ⟨y1, y2, y3, y4, y5, y6, y7, y8, y9, y10, y11⟩, ⟨z1, z2⟩, hm, hW⟩ := key
  obtain ⟨hm1, hm2⟩ := hm _ rfl
  refine ⟨M', f0', st', G', g', gc', rc', sb', cE.ctx (F_X10_resetIfAsked 19 c'.sf 19 c'.lf b.sty).1 (F_X10_resetIfAsked 19 c'.sf 19 c'.lf b.sty).2, mE.ctx (rst b.sty m'.sf m'.lf).1 (rst b.sty m'.sf m'.lf).2, mags', marks', known', below', latest', early', again', rch', mrch', mbg', mln', seg', mseg', fst', fl', mfl', less', ?_, ?_, ?_, hm1, hm2, ⟨y4.trans k2, y9.trans k3, z1.trans k5, z2.trans k6⟩, hW⟩
  all_goals generalize hcN : cE.ctx (F_X10_resetIfAsked 19 c'.sf 19 c'.lf b.sty).1 (F_X10_resetIfAsked 19 c'.sf 19 c'.lf b.sty).2 = cN
  all_goals
    have a1 : cN.count = cE.count := by rw [← hcN]; rfl
    have a2 : cN.start = c0.start := by rw [← hcN]; exact y1
    have a3 : cN.bn = cE.bn := by rw [← hcN]; rfl
    have a4 : cN.bf = cE.bf := by rw [← hcN]; rfl
    have a5 : cN.sf = (F_X10_resetIfAsked 19 c'.sf 19 c'.lf b.sty).1 := by rw [← hcN]; rfl
    have a6 : cN.lf = (F_X10_resetIfAsked 19 c'.sf 19 c'.lf b.sty).2 := by rw [← hcN]; rfl
    have a7 : cN.low = cE.low := by rw [← hcN]; rfl
    have a8 : cN.size = c'.size := by rw [← hcN]; exact y2
    have a9 : cN.room = cE.room := by rw [← hcN]; rfl
    have a10 : cN.free = cE.free := by rw [← hcN]; rfl
    have a11 : cN.place = c'.place := by rw [← hcN]; exact y3
    have a12 : cN.cend = c.cend := by rw [← hcN]; exact y4.trans k2
    have a13 : cN.window = c'.window := by rw [← hcN]; exact y5
    have a14 : cN.csize = c'.csize := by rw [← hcN]; exact y6
    have a15 : cN.croom = c'.croom := by rw [← hcN]; exact y7
    have a16 : cN.rplace = c'.rplace := by rw [← hcN]; exact y8
    have a17 : cN.rend = c.rend := by rw [← hcN]; exact y9.trans k3
    have a18 : cN.cur = c'.cur := by rw [← hcN]; exact y10
    have a19 : cN.left = c'.left := by rw [← hcN]; exact y11
    rw [a1, a2, a3, a4, a5, a6, a7, a8, a9, a10, a11, a12, a13, a14, a15, a16, a17, a18, a19, nI_succ]
    simp only [CS.Z] at p1 j25 j32 pj32 dj32
  · intro n
    rw [L_X10_write_j_6, if_neg hnle]
    simp only [rw1, sta, o1, j14, pl1, F_X9_aim, kd1, p1, j25, en1, j32, hcl]
  · intro n hn
    rw [PL_X10_write_j_6]
    simp only [rw1, sta, o1, j14, pl1, F_X9_aim, kd1, p1, j25, en1, j32, hcl, forall_eq']
    exact fun _ => ⟨hvz, p2, hi91, hi91, pj32, rs1, hn⟩
  · intro n
    rw [DL_X10_write_j_6, if_neg hnle]
    simp only [rw1, sta, o1, j14, pl1, F_X9_aim, kd1, p1, j25, en1, j32, hcl]
    omega

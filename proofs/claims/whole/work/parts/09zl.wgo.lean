/-! ===== PURE: one pass of write, up to its end ===== -/
theorem ChW.lim {b : EnvB} (ok : b.Ok) {P k M : Nat} {G : GF} {g gc : Nat → Nat} (hP : P < 32) (hk : k + 2 ≤ 3 * P) (hM : M ≤ 4 * qN k) (h : ChW b k G g gc) : 36 * nT b g gc M + 116000 ≤ 4913000 := by
  have hW := ok.W1
  have h1 : sumN g (b.W * b.H) ≤ b.W * b.H * 32 := sumN_le _ (fun j hj => by
    have hx : j % b.W < b.W := Nat.mod_lt _ (by omega)
    have hy : j / b.W < b.H := Nat.div_lt_of_lt_mul hj
    have h2 := h.1 _ _ hx hy
    have e1 : j / b.W * b.W + j % b.W = j := by rw [Nat.mul_comm]; exact Nat.div_add_mod j b.W
    rw [e1] at h2
    have h3 := bN_le (G.sg (j % b.W) (j / b.W))
    by_cases c : kdN k = 0
    · have h4 : bN (exW (kdN k) G (j % b.W) (j / b.W)) = 0 := by rw [c]; rfl
      have h5 : qN k ≤ 31 := by unfold qN; omega
      omega
    · have h4 := bN_le (exW (kdN k) G (j % b.W) (j / b.W))
      have h5 : qN k ≤ 30 := by unfold qN; unfold kdN at c; omega
      omega)
  have h5 : sumN gc 1024 ≤ 1024 * 2 := sumN_le _ (fun j hj => by have := h.2 j hj; have := bN_le (colS G j); omega)
  have h6 : b.W * b.H * 32 ≤ 4096 * 32 := Nat.mul_le_mul (wh_le ok.W64 ok.H64) (Nat.le_refl _)
  have h7 : qN k ≤ 31 := by unfold qN; omega
  unfold nT
  omega
theorem Kept2 {r : Bool} {c c' : CS} {m m' : MS} (h : Kept (bN r) c c' m m') : c'.start = c.start ∧ c'.cend = c.cend ∧ c'.rend = c.rend ∧ m'.begin = m.begin ∧ m'.place = m.place ∧ m'.limit = m.limit := ⟨h.1, h.2.1, h.2.2.1, h.2.2.2.1, h.2.2.2.2.1, h.2.2.2.2.2.1⟩
theorem w_go {b : EnvB} {P T k M f0 st : Nat} {G : GF} {g gc rc sb : Nat → Nat} {c : CS} {m : MS} {mags marks known below latest early again rch mrch mso mbg mln : Nat → Int32} {seg mseg fst fl mfl : Int32} {gns mgns : Nat → Int64} {bef : Int64} (ok : b.Ok) (hP : P < 32) (hT : T + 2 = 3 * P) (hk : k < T)
    (h : WRel b P T k M f0 st G g gc rc sb c m mags marks known below latest early again rch mrch mso mbg mln seg mseg fst gns mgns bef) :
    ∃ (c0 : CS) (m0 : MS) (mbg' : Nat → Int32) (G' : GF) (g' gc' : Nat → Nat) (M' : Nat) (c' : CS) (m' : MS) (mags' marks' known' below' latest' early' again' : Nat → Int32) (less' : Int64) (fl' mfl' : Int32) (n1 : Nat),
    (J_X10_write_j_12 c.count c.start c.low c.size c.room c.free (bI (rawB b.sty k)) (bI (staB b.sty T k)) = (c0.start, c0.low, c0.size, c0.room, c0.free) ∧ J_X11_write_j_16 b.sty (nI P, nI T) (nI k) mseg m.size m.begin m.low m.carried m.span m.room mbg (bI (rawB b.sty k)) = (m0.begin, m0.low, m0.carried, m0.span, m0.room, mbg') ∧
    PJ_X11_write_j_16 b.sty 96 (nI P, nI T) (nI k) mseg m.size (bI (rawB b.sty k)) ∧ (∀ j, j < k → mbg' (sgo b.sty T j) = nI (sb j)) ∧ mbg' (sgo b.sty T k) = nI st) ∧
    ((F_X9_go (nI (kdN k)) (F_X10_has 32 b.sty) c.count c0.start c.bn c.bf 19 c.sf 19 c.lf c0.low c0.size c0.room c0.free c.place c.cend c.window c.csize c.croom c.rplace c.rend c.cur c.left (nI b.W) (nI b.H) (nI b.band) (bI (czOf b.sty)) b.coef mags marks fl (bN (rawB b.sty k)) (bI (rawB b.sty k)) (nI (plN P k))) = c'.Z mags' marks' less' fl' ∧
    (P_X9_go (nI (kdN k)) (F_X10_has 32 b.sty) c.count c0.start c.bn c.bf 19 c.sf 19 c.lf c0.low c0.size c0.room c0.free c.place c.cend c.window c.csize c.croom c.rplace c.rend c.cur c.left (nI b.W) (nI b.H) (nI b.band) (bI (czOf b.sty)) b.cn b.coef b.gn mags b.kn marks (bN (rawB b.sty k)) (bI (rawB b.sty k)) (nI (plN P k))) ∧
    (D_X9_go (nI (kdN k)) (F_X10_has 32 b.sty) c.count c0.start c.bn c.bf 19 c.sf 19 c.lf c0.low c0.size c0.room c0.free c.place c.cend c.window c.csize c.croom c.rplace c.rend c.cur c.left (nI b.W) (nI b.H) (nI b.band) (bI (czOf b.sty)) b.coef mags marks fl (bN (rawB b.sty k)) (bI (rawB b.sty k)) (nI (plN P k))) + 3 * c.bn ≤ 3 * c'.bn ∧
    (F_X11_codePass (nI k) (nI b.W) (nI b.H) (nI b.band) b.sty (nI P) 1 (bI (rawB b.sty k)) mfl m.size m0.begin m0.low m0.carried m0.span m0.room m.place m.limit m.next m.last m.upper b.mp b.mo b.mag b.min known below latest early again m.sf m.lf m.bf) = m'.W (nI (plN P k)) mfl' known' below' latest' early' again' (rst b.sty m'.sf m'.lf).1 (rst b.sty m'.sf m'.lf).2 ∧
    (P_X11_codePass (nI k) (nI b.W) (nI b.H) (nI b.band) b.sty (nI P) 1 (bI (rawB b.sty k)) mfl m.size m0.begin m0.low m0.carried m0.span m0.room m.place m.limit m.next m.last m.upper 47 b.mp 47 b.mo 4096 b.mag 4096 b.min 4096 known 4096 below 4096 latest 4096 early 4096 again 19 m.sf 19 m.lf 65536 m.bf)) ∧
    (c'.start = c0.start ∧ c'.cend = c.cend ∧ c'.rend = c.rend ∧ m'.begin = m0.begin ∧ m'.place = m.place ∧ m'.limit = m.limit) ∧
    Cod (bN (rawB b.sty k)) (nT b g' gc' M') (838 + 1113 * k) c' m' ∧ M' ≤ 4 * qN (k + 1) ∧ Fld b.W b.H (czOf b.sty) (if k + 1 < T then pW P (k + 1) else 0) G' mags' marks' known' below' latest' early' again' ∧ bef - errS b G' = less' ∧ ChW b (k + 1) G' g' gc' ∧
    P_X11_error (nI b.W) (nI b.H) 4096 b.mag 4096 known' 4096 latest' ∧ F_X11_error (nI b.W) (nI b.H) b.mag known' latest' = errS b G' ∧
    c'.count = nI n1 ∧ m'.size = nI n1 ∧ n1 ≤ 65536 ∧ st ≤ n1 ∧ c'.start = nI st ∧ m'.begin = nI st ∧ J_X10_write_j_25 (bI (rawB b.sty k)) (c'.Z mags' marks' less' fl') = nI (n1 + 5 * (1 - bN (rawB b.sty k))) ∧ J_X11_write_j_22 (bI (rawB b.sty k)) (m'.W (nI (plN P k)) mfl' known' below' latest' early' again' (rst b.sty m'.sf m'.lf).1 (rst b.sty m'.sf m'.lf).2) = nI (n1 + 5 * (1 - bN (rawB b.sty k))) := by
  obtain ⟨c0, m0, mbg', o1, o2, o3, x, y, o4, o5, o6, o7⟩ := w_open (by omega) hk h
  obtain ⟨h1, h2, h3, h4, h5, h6, h7, h8, h9, h10, h11, h12, h13, h14, h15⟩ := h
  obtain ⟨x1, x2, x3, x4, x5, x6, x7, x8, x9, x10, x11, x12, x13, x14⟩ := x
  obtain ⟨y1, y2, y3, y4, y5, y6, y7, y8, y9⟩ := y
  obtain ⟨i1, i2, i3⟩ := bkI (rawB b.sty k)
  rw [if_pos hk] at h5
  have hbk : bN (rawB b.sty k) < 4 := by have := bN_le (rawB b.sty k); omega
  obtain ⟨G', g', gc', M', c', m', mags', marks', known', below', latest', early', again', less', fl', mfl', p1, p2, p3, p4, p5, p6, p7, p8, p9, p10, p11, -⟩ := pass_any (fl := fl) (mfl := mfl) (mkd := F_X10_has 32 b.sty) ok hP (by omega) hbk h1 (by omega) o4 h5 h6 (has_iff 32 b.sty)
  rw [i2, x1, x2, x3, x4, x5, x6, x7, x8, x9, x10, x11, x12, x13, x14] at p1 p2 p3
  rw [i1, i2, y1, y2, y3, y4, y5, y6, y7, y8, y9] at p4 p5
  obtain ⟨k1, k2, k3, k4, k5, k6⟩ := Kept2 p6
  obtain ⟨n1, q1, q2, q3, q4, q5⟩ := p7.count (k1.trans o5) h4
  have hp : plN P k ≤ 30 := plN_le hP
  have hF : Fld b.W b.H (czOf b.sty) (if k + 1 < T then pW P (k + 1) else 0) G' mags' marks' known' below' latest' early' again' := by
    by_cases cT : k + 1 < T
    · rw [if_pos cT, pW_next (by omega)]; exact p9
    · rw [if_neg cT]
      have e0 : plN P k = 0 := by unfold plN; omega
      rw [e0] at p9; exact p9
  obtain ⟨r1, r2⟩ := err_ok ok hF
  refine ⟨c0, m0, mbg', G', g', gc', M', c', m', mags', marks', known', below', latest', early', again', less', fl', mfl', n1, ⟨o1, o2, o3, o6, o7⟩, ⟨p1, p2, p3, p4, p5⟩, ⟨k1, k2.trans x7, k3.trans x12, k4, k5.trans y2, k6.trans y3⟩, p7, p8, hF, ?_, p11, r1, r2, q1, q2, q3, q4, k1.trans o5, q5, ?_, ?_⟩
  · rw [h7, ← p10, Int64.add_sub_cancel]
  · unfold J_X10_write_j_25
    cases rawB b.sty k with
    | false => rw [if_pos (show bI false = 0 from rfl)]; show c'.count + 5 = _; rw [q1]; exact nI_add _ 5
    | true => rw [if_neg (show ¬ bI true = 0 by decide)]; exact q1
  · unfold J_X11_write_j_22
    cases rawB b.sty k with
    | false => rw [if_pos (show bI false = 0 from rfl)]; show m'.size + 5 = _; rw [q2]; exact nI_add _ 5
    | true => rw [if_neg (show ¬ bI true = 0 by decide)]; exact q2

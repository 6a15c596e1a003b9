/-! ===== PURE: a coefficient becomes significant, both sides ===== -/
def CS.U (c : CS) (mags marks : Nat → Int32) (less : Int64) : (Int32 × Nat × (Nat → Int32) × (Nat → Int32) × (Nat → Int32) × Int32 × Int32 × Int32 × Int32 × Int32 × Int32 × Int32 × Int32 × Int32 × Int32 × Int32 × (Nat → Int32) × (Nat → Int32) × Int64) :=
  (c.count, c.bn, c.bf, c.sf, c.lf, c.low, c.size, c.room, c.free, c.place, c.window, c.csize, c.croom, c.rplace, c.cur, c.left, mags, marks, less)
def MS.U (m : MS) (k b l : Nat → Int32) : (Int32 × Int32 × Int32 × Int32 × Int32 × Int32 × Int32 × Int64 × (Nat → Int32) × (Nat → Int32) × (Nat → Int32) × (Nat → Int32) × (Nat → Int32) × (Nat → Int32)) :=
  (m.size, m.low, m.carried, m.span, m.room, m.next, m.last, m.upper, k, b, l, m.sf, m.lf, m.bf)
def gLrn (G : GF) (x0 y0 k l : Nat) : GF := (G.sg, G.ng, fun x y => if x = x0 ∧ y = y0 then k else G.kn x y, fun x y => if x = x0 ∧ y = y0 then l else G.lt x y, G.sn, G.ag)
theorem mark_lrn (cz : Bool) (G : GF) (x0 y0 k l x y : Nat) : markN cz (gLrn G x0 y0 k l) x y = if x = x0 ∧ y = y0 then markN cz G x y % 65536 + 65536 * l else markN cz G x y := by
  have e1 : markN cz (gLrn G x0 y0 k l) x y = hC G x y + 4 * vC cz G x y + 16 * dC cz G x y + 128 * hM G x y + 512 * vM cz G x y + 2048 * bN (G.sg x y) + 4096 * bN (G.ng x y) + 8192 * bN (G.sn x y) + 16384 * bN (G.ag x y) + 65536 * (if x = x0 ∧ y = y0 then l else G.lt x y) := rfl
  have a1 := hC_le G x y
  have a2 := vC_le cz G x y
  have a3 := dC_le cz G x y
  have a4 := hM_le G x y
  have a5 := vM_le cz G x y
  have b1 := bN_le (G.sg x y)
  have b2 := bN_le (G.ng x y)
  have b3 := bN_le (G.sn x y)
  have b4 := bN_le (G.ag x y)
  rw [e1]
  by_cases c : x = x0 ∧ y = y0
  · rw [if_pos c, if_pos c]; unfold markN; omega
  · rw [if_neg c, if_neg c]; rfl
theorem xorB : ∀ a b : Bool, bI a ^^^ bI b = bI (a != b) := by decide
theorem bI_nI : ∀ a : Bool, bI a = nI (bN a) := by decide
theorem narB : ∀ a : Bool, vp_nar .boolean (bI a) = bI a := by decide
theorem upd_at {W x0 y0 x y : Nat} {f : Nat → Int32} {v : Int32} (hx0 : x0 < W) (hx : x < W) : upd f (y0 * W + x0) v (y * W + x) = if x = x0 ∧ y = y0 then v else f (y * W + x) := by
  by_cases c : x = x0 ∧ y = y0
  · obtain ⟨rfl, rfl⟩ := c
    rw [pk_us, if_pos ⟨rfl, rfl⟩]
  · rw [pk_un (fun z => c (plc_inj hx hx0 z)), if_neg c]
def gNew (G : GF) (x y : Nat) (mi : Bool) (p : Nat) : GF := gLrn (gSig G x y mi) x y (2 ^ p) p
theorem raw_cases (bk : Nat) : (bk % 2 = 1 ∧ rawI bk = 1) ∨ (bk % 2 = 0 ∧ rawI bk = 0) := by
  unfold rawI
  rcases Nat.mod_two_eq_zero_or_one bk with h | h
  · right; rw [if_neg (by omega)]; exact ⟨h, rfl⟩
  · left; rw [if_pos h]; exact ⟨h, rfl⟩
theorem sig_sim {e : EnvB} (ok : e.Ok) {N : Nat} {c : CS} {m : MS} {G : GF} {mags marks known below latest early again : Nat → Int32} {less : Int64} {x y : Nat} (hc : Cod e.bk N e.K c m) (hf : Fld e.W e.H (czOf e.sty) e.p G mags marks known below latest early again) (hx : x < e.W) (hy : y < e.H) (hs : G.sg x y = false) (hE : less + errS e G = e.E0) (hL : 36 * N + e.K ≤ 4913000) :
    ∃ (c' : CS) (m' : MS) (mi : Bool) (mags' marks' known' below' latest' : Nat → Int32) (less' : Int64), (F_X9_becomeSignificant (nI x) (nI y) c.count c.start c.bn c.bf 19 c.sf 19 c.lf c.low c.size c.room c.free c.place c.cend c.window c.csize c.croom c.rplace c.rend c.cur c.left (nI e.W) (nI e.H) (bI (czOf e.sty)) e.coef mags marks less e.bk (rawI e.bk) (nI e.p)) = c'.U mags' marks' less' ∧
    (P_X9_becomeSignificant (nI x) (nI y) c.count c.start c.bn c.bf 19 c.sf 19 c.lf c.low c.size c.room c.free c.place c.cend c.window c.csize c.croom c.rplace c.rend c.cur c.left (nI e.W) (nI e.H) (bI (czOf e.sty)) e.cn e.coef e.gn mags e.kn marks e.bk (rawI e.bk) (nI e.p)) ∧ (D_X9_becomeSignificant (nI x) (nI y) c.count c.start c.bn c.bf 19 c.sf 19 c.lf c.low c.size c.room c.free c.place c.cend c.window c.csize c.croom c.rplace c.rend c.cur c.left (nI e.W) e.coef marks e.bk (rawI e.bk)) + 3 * c.bn ≤ 3 * c'.bn ∧
    (F_X11_codeSign (nI x) (nI y) (nI e.W) (nI e.H) e.sty (wrI e.bk) (nI e.p) (rawI e.bk) m.size m.begin m.low m.carried m.span m.room m.place m.limit m.next m.last m.upper e.mp e.mo e.min known below latest m.sf m.lf m.bf) = m'.U known' below' latest' ∧ (P_X11_codeSign (nI x) (nI y) (nI e.W) (nI e.H) e.sty (wrI e.bk) (rawI e.bk) m.size m.begin m.low m.carried m.span m.room m.place m.limit m.next m.last m.upper 47 e.mp 47 e.mo 4096 e.min 4096 known 4096 below 4096 19 m.sf 19 m.lf 65536 m.bf) ∧
    Kept e.bk c c' m m' ∧ Cod e.bk (N + 1) e.K c' m' ∧ Fld e.W e.H (czOf e.sty) e.p (gNew G x y mi e.p) mags' marks' known' below' latest' early again ∧ less' + errS e (gNew G x y mi e.p) = e.E0 := by
  have hpl := plc hx hy
  have hplt := pl_lt ok hx hy
  have hcl := pl_cl ok hx hy
  obtain ⟨kb1, kb2, kb3, kb4⟩ := hf.kb x y
  have hm := hf.mr x y hx hy
  have hng : G.ng x y = false := by
    cases hq : G.ng x y with
    | false => rfl
    | true => rw [hf.neg x y hq] at hs; cases hs
  have hk0 : G.kn x y = 0 := (hf.k0 x y).mpr hs
  have a1 := hC_le G x y
  have a2 := vC_le (czOf e.sty) G x y
  have a4 := hM_le G x y
  have a5 := vM_le (czOf e.sty) G x y
  have hp30 := ok.p30
  have cnl := ok.cnl
  have cnu := ok.cnu
  have gnl := ok.gnl
  have gnu := ok.gnu
  have knl := ok.knl
  have knu := ok.knu
  have hpull := x5_pull (i := y * e.W + x) (by omega) hm kb3
  obtain ⟨mb1, mb2⟩ := c_minus ok hx hy
  obtain ⟨z1, z2, z3, z4, z5, z6, z7, z8, z9, z10⟩ := sign_ok a1 (show hM G x y ≤ 2 by omega) a2 (show vM (czOf e.sty) G x y ≤ 2 by omega)
  obtain ⟨-, -, sh3, sh4⟩ := many_h hf ok.W64 ok.H64 hx hy
  obtain ⟨-, -, sv3, sv4⟩ := many_v hf ok.W64 ok.H64 hx hy
  have hplace := place_ok x y e.W
  have hmpl : nI y * nI e.W + nI x = nI (y * e.W + x) := hplace
  have hmin : J_X11_codeSign_j_12 (nI x) (nI y) (nI e.W) e.min = bI (e.mi x y) := by
    unfold J_X11_codeSign_j_12
    rw [hmpl, hcl, ok.mn x y hx hy]
    cases e.mi x y <;> rfl
  -- is the sign turned, and the contexts
  obtain ⟨tu, k', hj5, hj7, hj9, hk'1, hk'2⟩ : ∃ (tu : Bool) (k' : Nat), J_X9_becomeSignificant_j_5 (rawI e.bk) (plI (hC G x y) (hM G x y) (vC (czOf e.sty) G x y) (vM (czOf e.sty) G x y)) = bI tu ∧ J_X11_codeSign_j_7 (rawI e.bk) (sgnI (hC G x y) (hM G x y)) (sgnI (vC (czOf e.sty) G x y) (vM (czOf e.sty) G x y)) = bI tu ∧ J_X11_codeSign_j_9 (sgnI (hC G x y) (hM G x y)) (sgnI (vC (czOf e.sty) G x y) (vM (czOf e.sty) G x y)) (bI tu) = nI k' ∧ (e.bk % 2 = 0 → k' = cN (hC G x y) (hM G x y) (vC (czOf e.sty) G x y) (vM (czOf e.sty) G x y)) ∧ k' < 19 := by
    rcases raw_cases e.bk with ⟨r1, r2⟩ | ⟨r1, r2⟩
    · rw [r2]
      exact ⟨false, _, z4, z6, z8, fun q => absurd q (by omega), z9⟩
    · rw [r2]
      rcases (show tN (hC G x y) (hM G x y) (vC (czOf e.sty) G x y) (vM (czOf e.sty) G x y) = 0 ∨ tN (hC G x y) (hM G x y) (vC (czOf e.sty) G x y) (vM (czOf e.sty) G x y) = 1 by omega) with t0 | t0
      · rw [t0] at z3 z5 z7
        exact ⟨false, _, z3, z5, z7, fun _ => rfl, z2⟩
      · rw [t0] at z3 z5 z7
        exact ⟨true, _, z3, z5, z7, fun _ => rfl, z2⟩
  obtain ⟨v, c', m', v1, v2, n1, n2, n3, n4, n5, n6, n7⟩ := next_sim (k := cN (hC G x y) (hM G x y) (vC (czOf e.sty) G x y) (vM (czOf e.sty) G x y)) (k' := k') (bit := bN (e.mi x y != tu)) (bit' := bN (e.mi x y != tu)) ok.hmp ok.hmo hc ok.bk4 z2 hk'1 (by have := bN_le (e.mi x y != tu); omega) (fun _ => rfl) hL
  obtain ⟨vb, rfl⟩ : ∃ vb : Bool, v = bN vb := by
    rcases (show v = 0 ∨ v = 1 by omega) with q | q
    · exact ⟨false, q⟩
    · exact ⟨true, q⟩
  rw [← bI_nI] at n1 n2 n3 n4 n5
  rw [← bI_nI] at n1 n4
  obtain ⟨s1, s2⟩ := signify_ok (mi := vb != tu) ok.W64 ok.H64 ok.knl ok.knu hx hy hs hng kb3 hf.mr
  have hlackP : ∀ mk : Nat → Int32, P_X5_lack (nI (y * e.W + x)) e.cn e.gn e.kn mk := fun mk => ⟨vp_in_nI (by omega) (by omega), vp_in_nI (by omega) (by omega), fun _ => vp_in_nI (by omega) (by omega)⟩
  have hlearnP : P_X5_learn (nI (y * e.W + x)) e.gn e.kn := ⟨vp_in_nI (by omega) (by omega), vp_in_nI (by omega) (by omega)⟩
  have hlack1 := c_lack (i := y * e.W + x) hf hx hy rfl (by omega) (ok.ab x y hx hy)
  obtain ⟨mk1, hmk1⟩ : ∃ g, F_X5_signify (nI x) (nI y) (bI (vb != tu)) (nI e.W) (nI e.H) (bI (czOf e.sty)) marks = g := ⟨_, rfl⟩
  rw [hmk1] at s2
  have hmag0 : mags (y * e.W + x) = nI 0 := by rw [hf.mg x y hx hy, hk0]
  have hsigl : (gSig G x y (vb != tu)).lt x y ≤ 30 := kb3
  have hlearn : F_X5_learn (nI (y * e.W + x)) (nI e.p) (1 : Int32) mags mk1 = (upd mags (y * e.W + x) (nI (2 ^ e.p)), upd mk1 (y * e.W + x) (nI (markN (czOf e.sty) (gSig G x y (vb != tu)) x y % 65536 + 65536 * e.p))) := by
    unfold F_X5_learn
    rw [hcl, hmag0, one_p _ (by omega), s2 x y hx hy, mk_plane (markN_lt hsigl) hp30]
    have : nI 0 ||| nI (2 ^ e.p) = nI (2 ^ e.p) := by
      have h2 := pow30 hp30
      rw [i_or (by omega) (by omega), Nat.zero_or]
    rw [this]
  have hf' : Fld e.W e.H (czOf e.sty) e.p (gNew G x y (vb != tu) e.p) (upd mags (y * e.W + x) (nI (2 ^ e.p))) (upd mk1 (y * e.W + x) (nI (markN (czOf e.sty) (gSig G x y (vb != tu)) x y % 65536 + 65536 * e.p))) (upd known (y * e.W + x) (nI (2 ^ e.p))) (upd below (y * e.W + x) (bI (vb != tu))) (upd latest (y * e.W + x) (nI e.p)) early again := by
    refine ⟨?_, ?_, ?_, ?_, ?_, ?_, ?_, hf.ea, hf.ag, ?_, ?_, hf.er⟩
    · intro a b h
      by_cases q : a = x ∧ b = y
      · obtain ⟨rfl, rfl⟩ := q; exact ⟨hx, hy⟩
      · have : G.sg a b = true := by rw [← h]; exact (if_neg q).symm
        exact hf.rg a b this
    · intro a b h
      by_cases q : a = x ∧ b = y
      · exact if_pos q
      · have : G.ng a b = true := by rw [← h]; exact (if_neg q).symm
        exact (if_neg q).trans (hf.neg a b this)
    · intro a b ha hb
      rw [upd_at hx ha]
      show _ = nI (markN (czOf e.sty) (gLrn (gSig G x y (vb != tu)) x y (2 ^ e.p) e.p) a b)
      rw [mark_lrn]
      by_cases q : a = x ∧ b = y
      · obtain ⟨rfl, rfl⟩ := q; rw [if_pos ⟨rfl, rfl⟩, if_pos ⟨rfl, rfl⟩]
      · rw [if_neg q, if_neg q, s2 a b ha hb]
    · intro a b ha hb
      rw [upd_at hx ha]
      show _ = nI (if a = x ∧ b = y then 2 ^ e.p else G.kn a b)
      by_cases q : a = x ∧ b = y
      · rw [if_pos q, if_pos q]
      · rw [if_neg q, if_neg q, hf.mg a b ha hb]
    · intro a b ha hb
      rw [upd_at hx ha]
      show _ = nI (if a = x ∧ b = y then 2 ^ e.p else G.kn a b)
      by_cases q : a = x ∧ b = y
      · rw [if_pos q, if_pos q]
      · rw [if_neg q, if_neg q, hf.kn a b ha hb]
    · intro a b ha hb
      rw [upd_at hx ha]
      show _ = bI (if a = x ∧ b = y then (vb != tu) else G.ng a b)
      by_cases q : a = x ∧ b = y
      · rw [if_pos q, if_pos q]
      · rw [if_neg q, if_neg q, hf.bl a b ha hb]
    · intro a b ha hb
      rw [upd_at hx ha]
      show _ = nI (if a = x ∧ b = y then e.p else G.lt a b)
      by_cases q : a = x ∧ b = y
      · rw [if_pos q, if_pos q]
      · rw [if_neg q, if_neg q, hf.la a b ha hb]
    · intro a b
      show (if a = x ∧ b = y then 2 ^ e.p else G.kn a b) = 0 ↔ (if a = x ∧ b = y then true else G.sg a b) = false
      by_cases q : a = x ∧ b = y
      · rw [if_pos q, if_pos q]
        have := Nat.two_pow_pos e.p
        exact ⟨fun z => by omega, fun z => by cases z⟩
      · rw [if_neg q, if_neg q]; exact hf.k0 a b
    · intro a b
      show (if a = x ∧ b = y then 2 ^ e.p else G.kn a b) < 2 ^ 31 ∧ (if a = x ∧ b = y then 2 ^ e.p else G.kn a b) % 2 ^ (if a = x ∧ b = y then e.p else G.lt a b) = 0 ∧ (if a = x ∧ b = y then e.p else G.lt a b) ≤ 30 ∧ ((if a = x ∧ b = y then true else G.sg a b) = true → e.p ≤ (if a = x ∧ b = y then e.p else G.lt a b))
      by_cases q : a = x ∧ b = y
      · rw [if_pos q, if_pos q, if_pos q]
        have h2 := pow30 hp30
        exact ⟨by omega, Nat.mod_self _, hp30, fun _ => Nat.le_refl _⟩
      · rw [if_neg q, if_neg q, if_neg q]; exact hf.kb a b
  have hlack2 := c_lack (i := y * e.W + x) hf' hx hy rfl (by omega) (ok.ab x y hx hy)
  have herr := errS_up (e := e) (G := G) (G' := gNew G x y (vb != tu) e.p) hx hy (fun a b q => by
    show (if (if a = x ∧ b = y then true else G.sg a b) = true then (if a = x ∧ b = y then 2 ^ e.p else G.kn a b) + 2 ^ (if a = x ∧ b = y then e.p else G.lt a b) / 2 else 0) = vN G a b
    rw [if_neg q, if_neg q, if_neg q]; rfl)
  refine ⟨c', m', vb != tu, _, _, _, _, _, _, ?_, ?_, ?_, ?_, ?_, n6, n7, hf', less_ok hE herr⟩
  · unfold F_X9_becomeSignificant
    simp only [hplace, hpull, hj5, mb2, xorB, z1, n1]
    simp only [CS.T, xorB, hmk1, hlearn, hlack1, hlack2]
    rfl
  · intro r1 e1
    rw [hplace] at e1
    subst e1
    refine ⟨vp_in_nI (by omega) (by omega), fun r2 e2 j5 ej5 => ⟨mb1, fun r6 e6 => ?_⟩⟩
    rw [hpull] at e2
    subst e2
    rw [hj5] at ej5
    subst ej5
    rw [mb2] at e6
    subst e6
    rw [xorB, z1]
    refine ⟨n2, fun r7 e7 => ⟨hlackP _, fun r9 e9 => ⟨?_, fun r10 e10 => ⟨hlearnP, fun r11 e11 => hlackP _⟩⟩⟩⟩
    rw [n1] at e7
    subst e7
    show P_X5_signify (nI x) (nI y) (bI vb ^^^ bI tu) (nI e.W) (nI e.H) (bI (czOf e.sty)) e.kn marks
    rw [xorB]
    exact s1
  · unfold D_X9_becomeSignificant
    simp only [hplace, hpull, hj5, mb2, xorB, z1, Nat.add_zero]
    exact n3
  · unfold F_X11_codeSign
    simp only [sh4, sv4, hj7, hj9, hmin, xorB, n4]
    have hj15 : J_X11_codeSign_j_15 (bI tu) (MS.T m' (bI vb)) = bI (vb != tu) := by
      unfold J_X11_codeSign_j_15
      show (if (bI vb ^^^ bI tu) = (1 : Int32) then (1 : Int32) else (0 : Int32)) = _
      rw [xorB]
      cases (vb != tu) <;> rfl
    simp only [hj15, narB, hmpl, hcl, one_p _ (show e.p < 31 by omega)]
    rfl
  · refine ⟨sh3, fun r1 e1 => ⟨sv3, fun r2 e2 j7 e7 j9 e9 => ?_⟩⟩
    have hin : vp_in (nI y * nI e.W + nI x) 4096 := by rw [hmpl]; exact vp_in_nI hplt (by omega)
    rw [sh4] at e1
    subst e1
    rw [sv4] at e2
    subst e2
    rw [hj7] at e7
    subst e7
    rw [hj9] at e9
    subst e9
    refine ⟨hin, fun j12 e12 => ?_⟩
    rw [hmin] at e12
    subst e12
    rw [xorB]
    exact ⟨n5, fun _ _ _ _ => ⟨hin, hin, hin⟩⟩

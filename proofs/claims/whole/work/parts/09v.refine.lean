/-! ===== PURE: the second pass at one coefficient ===== -/
def gAg (G : GF) (x0 y0 : Nat) : GF := (G.sg, G.ng, G.kn, G.lt, G.sn, fun x y => if x = x0 ∧ y = y0 then true else G.ag x y)
theorem mark_ag (cz : Bool) (G : GF) (x0 y0 x y : Nat) : markN cz (gAg G x0 y0) x y = markN cz G x y + (if x = x0 ∧ y = y0 then (1 - bN (G.ag x y)) * 16384 else 0) := by
  have e1 : markN cz (gAg G x0 y0) x y = hC G x y + 4 * vC cz G x y + 16 * dC cz G x y + 128 * hM G x y + 512 * vM cz G x y + 2048 * bN (G.sg x y) + 4096 * bN (G.ng x y) + 8192 * bN (G.sn x y) + 16384 * bN (if x = x0 ∧ y = y0 then true else G.ag x y) + 65536 * G.lt x y := rfl
  rw [e1]
  have := bN_le (G.ag x y)
  by_cases c : x = x0 ∧ y = y0
  · rw [if_pos c, if_pos c, show bN true = 1 by rfl]
    unfold markN
    omega
  · rw [if_neg c, if_neg c]; rfl
section
variable {W H p : Nat} {cz : Bool} {G : GF} {mags marks known below latest early again : Nat → Int32}
theorem Fld.agn (hf : Fld W H cz p G mags marks known below latest early again) {x0 y0 : Nat} (hx0 : x0 < W) (hy0 : y0 < H) : Fld W H cz p (gAg G x0 y0) mags (upd marks (y0 * W + x0) (marks (y0 * W + x0) ||| (16384 : Int32))) known below latest early (upd again (y0 * W + x0) 1) := by
  obtain ⟨kb1, kb2, kb3, kb4⟩ := hf.kb x0 y0
  obtain ⟨-, -, -, -, -, -, -, -, q9, -⟩ := mark_bits cz G x0 y0
  refine ⟨hf.rg, hf.neg, fun x y hx hy => ?_, hf.mg, hf.kn, hf.bl, hf.la, hf.ea, fun x y hx hy => ?_, hf.k0, hf.kb, hf.er⟩
  · rw [upd_at hx0 hx, mark_ag]
    by_cases c : x = x0 ∧ y = y0
    · obtain ⟨rfl, rfl⟩ := c
      rw [if_pos ⟨rfl, rfl⟩, if_pos ⟨rfl, rfl⟩, hf.mr _ _ hx hy, mk_again (markN_lt kb3), q9]
    · rw [if_neg c, if_neg c, Nat.add_zero, hf.mr _ _ hx hy]
  · rw [upd_at hx0 hx]
    show _ = bI (if x = x0 ∧ y = y0 then true else G.ag x y)
    by_cases c : x = x0 ∧ y = y0
    · rw [if_pos c, if_pos c]; rfl
    · rw [if_neg c, if_neg c]; exact hf.ag x y hx hy
theorem Fld.lrn (hf : Fld W H cz p G mags marks known below latest early again) {x0 y0 v : Nat} (hx0 : x0 < W) (hy0 : y0 < H) (hs : G.sg x0 y0 = true) (hv : v < 2) (hp : p ≤ 30) :
    mags (y0 * W + x0) ||| (nI v <<< (nI p &&& 31)) = nI (G.kn x0 y0 ||| v * 2 ^ p) ∧ known (y0 * W + x0) ||| (nI v <<< (nI p &&& 31)) = nI (G.kn x0 y0 ||| v * 2 ^ p) ∧
    Fld W H cz p (gLrn G x0 y0 (G.kn x0 y0 ||| v * 2 ^ p) p) (upd mags (y0 * W + x0) (nI (G.kn x0 y0 ||| v * 2 ^ p))) (upd marks (y0 * W + x0) ((marks (y0 * W + x0) &&& (-2031617 : Int32)) ||| (nI p <<< ((16 : Int32) &&& 31)))) (upd known (y0 * W + x0) (nI (G.kn x0 y0 ||| v * 2 ^ p))) below (upd latest (y0 * W + x0) (nI p)) early again := by
  obtain ⟨kb1, kb2, kb3, kb4⟩ := hf.kb x0 y0
  have h2 := pow30 hp
  have hv2 : v * 2 ^ p ≤ 2 ^ 30 := Nat.le_trans (Nat.mul_le_mul_right _ (show v ≤ 1 by omega)) (by omega)
  have hsh : nI v <<< (nI p &&& 31) = nI (v * 2 ^ p) := pk_shlN _ p (shp p (by omega)) (by omega)
  have hlt : (G.kn x0 y0 ||| v * 2 ^ p) < 2 ^ 31 := Nat.or_lt_two_pow kb1 (by omega)
  have hor : nI (G.kn x0 y0) ||| nI (v * 2 ^ p) = nI (G.kn x0 y0 ||| v * 2 ^ p) := i_or (by omega) (by omega)
  have hdv : G.kn x0 y0 % 2 ^ p = 0 := by
    have := kb4 hs
    have hd : 2 ^ p ∣ 2 ^ G.lt x0 y0 := Nat.pow_dvd_pow 2 this
    exact Nat.mod_eq_zero_of_dvd (Nat.dvd_trans hd (Nat.dvd_of_mod_eq_zero kb2))
  have hmod : (G.kn x0 y0 ||| v * 2 ^ p) % 2 ^ p = 0 := by
    rw [Nat.or_mod_two_pow, hdv, Nat.mul_mod_left]; rfl
  have hne : G.kn x0 y0 ≠ 0 := fun z => by rw [(hf.k0 x0 y0).mp z] at hs; cases hs
  refine ⟨by rw [hf.mg _ _ hx0 hy0, hsh, hor], by rw [hf.kn _ _ hx0 hy0, hsh, hor], hf.rg, hf.neg, ?_, ?_, ?_, hf.bl, ?_, hf.ea, hf.ag, ?_, ?_, hf.er⟩
  · intro x y hx hy
    rw [upd_at hx0 hx, mark_lrn]
    by_cases c : x = x0 ∧ y = y0
    · obtain ⟨rfl, rfl⟩ := c
      rw [if_pos ⟨rfl, rfl⟩, if_pos ⟨rfl, rfl⟩, hf.mr _ _ hx hy, mk_plane (markN_lt kb3) hp]
    · rw [if_neg c, if_neg c, hf.mr _ _ hx hy]
  · intro x y hx hy
    rw [upd_at hx0 hx]
    show _ = nI (if x = x0 ∧ y = y0 then _ else G.kn x y)
    by_cases c : x = x0 ∧ y = y0
    · rw [if_pos c, if_pos c]
    · rw [if_neg c, if_neg c, hf.mg _ _ hx hy]
  · intro x y hx hy
    rw [upd_at hx0 hx]
    show _ = nI (if x = x0 ∧ y = y0 then _ else G.kn x y)
    by_cases c : x = x0 ∧ y = y0
    · rw [if_pos c, if_pos c]
    · rw [if_neg c, if_neg c, hf.kn _ _ hx hy]
  · intro x y hx hy
    rw [upd_at hx0 hx]
    show _ = nI (if x = x0 ∧ y = y0 then p else G.lt x y)
    by_cases c : x = x0 ∧ y = y0
    · rw [if_pos c, if_pos c]
    · rw [if_neg c, if_neg c, hf.la _ _ hx hy]
  · intro x y
    show (if x = x0 ∧ y = y0 then _ else G.kn x y) = 0 ↔ G.sg x y = false
    by_cases c : x = x0 ∧ y = y0
    · obtain ⟨rfl, rfl⟩ := c
      rw [if_pos ⟨rfl, rfl⟩, hs]
      exact ⟨fun z => absurd (Nat.or_eq_zero_iff.mp z).1 hne, fun z => by cases z⟩
    · rw [if_neg c]; exact hf.k0 x y
  · intro x y
    show (if x = x0 ∧ y = y0 then (G.kn x0 y0 ||| v * 2 ^ p) else G.kn x y) < 2 ^ 31 ∧ (if x = x0 ∧ y = y0 then (G.kn x0 y0 ||| v * 2 ^ p) else G.kn x y) % 2 ^ (if x = x0 ∧ y = y0 then p else G.lt x y) = 0 ∧ (if x = x0 ∧ y = y0 then p else G.lt x y) ≤ 30 ∧ (G.sg x y = true → p ≤ (if x = x0 ∧ y = y0 then p else G.lt x y))
    by_cases c : x = x0 ∧ y = y0
    · rw [if_pos c, if_pos c]
      exact ⟨hlt, hmod, hp, fun _ => Nat.le_refl _⟩
    · rw [if_neg c, if_neg c]; exact hf.kb x y
theorem f_two (hf : Fld W H cz p G mags marks known below latest early again) {x y : Nat} (hx : x < W) (hy : y < H) : marks (y * W + x) &&& (10240 : Int32) = nI (bN (G.sg x y) * 2048 + bN (G.sn x y) * 8192) := by
  obtain ⟨-, -, -, -, -, q6, -, q8, -, -⟩ := mark_bits cz G x y
  rw [hf.mr x y hx hy, mk_10240 (markN_lt (hf.kb x y).2.2.1), q6, q8]
end
theorem refine_step {e : EnvB} (ok : e.Ok) {pos : Nat} {G : GF} {g gc : Nat → Nat} {c : CS} {m : MS} {mags marks known below latest early again : Nat → Int32} {less : Int64} {x y : Nat} (h : Rel e 1 pos G g gc c m mags marks known below latest early again less) (hx : x < e.W) (hy : y < e.H) (hpos : pos ≤ key e.W x y) :
    ∃ (G' : GF) (g' : Nat → Nat) (c' : CS) (m' : MS) (mags' marks' known' latest' again' : Nat → Int32) (less' : Int64), (J_X9_refine_j_15 c.start 19 19 c.cend c.rend e.coef e.bk (nI e.p) c.count c.bn c.bf c.sf c.lf c.low c.size c.room c.free c.place c.window c.csize c.croom c.rplace c.cur c.left mags marks less (nI (y * e.W + x))) = c'.U mags' marks' less' ∧ (PJ_X9_refine_j_15 c.start 19 19 c.cend c.rend e.cn e.coef e.gn e.kn e.bk (nI e.p) c.count c.bn c.bf c.sf c.lf c.low c.size c.room c.free c.place c.window c.csize c.croom c.rplace c.cur c.left mags marks (nI (y * e.W + x))) ∧ (DJ_X9_refine_j_15 c.start 19 19 c.cend c.rend e.coef e.bk (nI e.p) c.count c.bn c.bf c.sf c.lf c.low c.size c.room c.free c.place c.window c.csize c.croom c.rplace c.cur c.left marks (nI (y * e.W + x))) + 3 * c.bn ≤ 3 * c'.bn ∧
    (F_X11_visit 1 (nI x) (nI y) (nI e.W) (nI e.H) (nI e.band) e.sty (wrI e.bk) (nI e.p) (rawI e.bk) m.size m.begin m.low m.carried m.span m.room m.place m.limit m.next m.last m.upper e.mp e.mo e.mag e.min known below latest early again m.sf m.lf m.bf) = m'.V known' below latest' early again' ∧ (P_X11_visit 1 (nI x) (nI y) (nI e.W) (nI e.H) (nI e.band) e.sty (wrI e.bk) (nI e.p) (rawI e.bk) m.size m.begin m.low m.carried m.span m.room m.place m.limit m.next m.last m.upper 47 e.mp 47 e.mo 4096 e.mag 4096 e.min 4096 known 4096 below 4096 4096 early 4096 again 19 m.sf 19 m.lf 65536 m.bf) ∧ Kept e.bk c c' m m' ∧ Rel e 1 (key e.W x y + 1) G' g' gc c' m' mags' marks' known' below latest' early again' less' := by
  have hpl := plc hx hy
  have hplt := pl_lt ok hx hy
  have hcl := pl_cl ok hx hy
  have hmpl : nI y * nI e.W + nI x = nI (y * e.W + x) := place_ok x y e.W
  obtain ⟨hcod, hf, hE, hch⟩ := h
  have hlim := hch.lim ok
  have tk := f_knw hf hx hy
  have te := hf.ea x y hx hy
  have t2 := f_two hf hx hy
  have n01 : ¬ (0 : Int32) = 1 := by decide
  have n10 : ¬ (1 : Int32) = 0 := by decide
  have hin : vp_in (nI y * nI e.W + nI x) 4096 := by rw [hmpl]; exact vp_in_nI hplt (by omega)
  have cnl := ok.cnl
  have cnu := ok.cnu
  have gnl := ok.gnl
  have gnu := ok.gnu
  have knl := ok.knl
  have knu := ok.knu
  by_cases act : G.sg x y = true ∧ G.sn x y = false
  · obtain ⟨hs, hsn⟩ := act
    have t3 : marks (y * e.W + x) &&& (10240 : Int32) = (2048 : Int32) := by rw [t2, hs, hsn]; rfl
    have t4 : ¬ known (y * e.W + x) = (0 : Int32) := fun z => by rw [tk.mp z] at hs; cases hs
    have t5 : ¬ early (y * e.W + x) = nI e.p := fun z => by rw [te.mp z] at hsn; cases hsn
    have hj3 : J_X11_visit_j_3 (nI x) (nI y) (nI e.W) known = 0 := by unfold J_X11_visit_j_3; rw [hmpl, hcl, if_neg t4]
    obtain ⟨kb1, kb2, kb3, kb4⟩ := hf.kb x y
    obtain ⟨cb1, cb2⟩ := c_bit ok hx hy
    obtain ⟨mb1, mb2⟩ := m_bit ok hx hy
    have hctx := x5_again (i := y * e.W + x) (by omega) (hf.mr x y hx hy) kb3
    obtain ⟨h1, h2, -, -⟩ := many_h hf ok.W64 ok.H64 hx hy
    obtain ⟨w1, w2, -, -⟩ := many_v hf ok.W64 ok.H64 hx hy
    obtain ⟨d1, d2, e1, e2, e3, e4, e5, e6, e7⟩ := many_d hf ok.W64 ok.H64 hx hy
    have a1 := hC_le G x y
    have a2 := vC_le (czOf e.sty) G x y
    have hj9 : J_X11_codeAgain_j_9 (nI x) (nI y) (nI e.W) again (nI (hC G x y)) (nI (vC (czOf e.sty) G x y)) (nI d1) (nI d2) = nI (agN (hC G x y + 4 * vC (czOf e.sty) G x y + 16 * dC (czOf e.sty) G x y) (G.ag x y)) := by
      unfold J_X11_codeAgain_j_9 agN
      rw [hmpl, hcl, hf.ag x y hx hy, nI_add, nI_add, nI_add]
      cases G.ag x y with
      | true => rfl
      | false =>
        rw [show bI false = 0 by rfl, if_pos rfl]
        by_cases q : hC G x y + 4 * vC (czOf e.sty) G x y + 16 * dC (czOf e.sty) G x y = 0
        · have q2 : nI (hC G x y + vC (czOf e.sty) G x y + d1 + d2) ≤ (0 : Int32) := nI_le (b := 0) (by omega) (by omega)
          rw [if_pos q2, if_neg (by decide), if_pos q]; rfl
        · have q2 : ¬ nI (hC G x y + vC (czOf e.sty) G x y + d1 + d2) ≤ (0 : Int32) := nI_nle (by omega) (by omega)
          rw [if_neg q2, if_neg (by decide), if_neg q]; rfl
    have hag : agN (hC G x y + 4 * vC (czOf e.sty) G x y + 16 * dC (czOf e.sty) G x y) (G.ag x y) < 19 := by unfold agN; split <;> (try split) <;> omega
    obtain ⟨v, c', m', v1, v2, n1, n2, n3, n4, n5, n6, n7⟩ := next_sim (k := agN (hC G x y + 4 * vC (czOf e.sty) G x y + 16 * dC (czOf e.sty) G x y) (G.ag x y)) (k' := agN (hC G x y + 4 * vC (czOf e.sty) G x y + 16 * dC (czOf e.sty) G x y) (G.ag x y)) (bit := bitN (e.a x y) e.p) (bit' := bitN (e.a x y) e.p) ok.hmp ok.hmo hcod ok.bk4 hag (fun _ => rfl) (bitN_lt _ _) (fun _ => rfl) (by omega)
    have hf1 := hf.agn hx hy
    obtain ⟨l1, l2, hf2⟩ := hf1.lrn (v := v) hx hy hs v1 ok.p30
    have hk1 : (gAg G x y).kn x y = G.kn x y := rfl
    rw [hk1] at l1 l2 hf2
    have hlk1 := c_lack (i := y * e.W + x) hf1 hx hy rfl (by omega) (ok.ab x y hx hy)
    have hlk2 := c_lack (i := y * e.W + x) hf2 hx hy rfl (by omega) (ok.ab x y hx hy)
    have hlearn : F_X5_learn (nI (y * e.W + x)) (nI e.p) (nI v) mags (upd marks (y * e.W + x) (marks (y * e.W + x) ||| (16384 : Int32))) = (upd mags (y * e.W + x) (nI (G.kn x y ||| v * 2 ^ e.p)), upd (upd marks (y * e.W + x) (marks (y * e.W + x) ||| (16384 : Int32))) (y * e.W + x) ((upd marks (y * e.W + x) (marks (y * e.W + x) ||| (16384 : Int32)) (y * e.W + x) &&& (-2031617 : Int32)) ||| (nI e.p <<< ((16 : Int32) &&& 31)))) := by
      unfold F_X5_learn
      rw [hcl, l1]
    have herr := errS_up (e := e) (G := gAg G x y) (G' := gLrn (gAg G x y) x y (G.kn x y ||| v * 2 ^ e.p) e.p) hx hy (fun a b q => by
      show (if G.sg a b = true then (if a = x ∧ b = y then _ else G.kn a b) + 2 ^ (if a = x ∧ b = y then e.p else G.lt a b) / 2 else 0) = vN G a b
      rw [if_neg q, if_neg q]; rfl)
    have hE1 : less + errS e (gAg G x y) = e.E0 := hE
    have hlackP : ∀ mk : Nat → Int32, P_X5_lack (nI (y * e.W + x)) e.cn e.gn e.kn mk := fun mk => ⟨vp_in_nI (by omega) (by omega), vp_in_nI (by omega) (by omega), fun _ => vp_in_nI (by omega) (by omega)⟩
    have hlearnP : P_X5_learn (nI (y * e.W + x)) e.gn e.kn := ⟨vp_in_nI (by omega) (by omega), vp_in_nI (by omega) (by omega)⟩
    refine ⟨gLrn (gAg G x y) x y (G.kn x y ||| v * 2 ^ e.p) e.p, nup g (y * e.W + x) (g (y * e.W + x) + 1), c', m', _, _, _, _, _, _, ?_, ?_, ?_, ?_, ?_, n6, ⟨?_, hf2, less_ok hE1 herr, ?_⟩⟩
    · unfold J_X9_refine_j_15
      rw [hcl, if_pos t3]
      simp only [cb2, hctx, n1]
      simp only [CS.T, hlk1, hlearn, hlk2]
      rfl
    · unfold PJ_X9_refine_j_15
      rw [hcl]
      refine fun _ => ⟨cb1, fun r6 e6 => ⟨vp_in_nI (by omega) (by omega), fun r7 e7 => ?_⟩⟩
      rw [cb2] at e6
      subst e6
      rw [hctx] at e7
      subst e7
      exact ⟨n2, fun _ _ => ⟨hlackP _, fun _ _ => ⟨hlearnP, fun _ _ => hlackP _⟩⟩⟩
    · unfold DJ_X9_refine_j_15
      rw [hcl, if_pos t3]
      simp only [cb2, hctx, Nat.add_zero]
      exact n3
    · unfold F_X11_visit
      simp only [hj3, if_true, hmpl, hcl, t5, if_false]
      unfold F_X11_codeAgain
      simp only [h2, w2, e2, e4, hj9, hmpl, mb2, n4, hcl]
      simp only [MS.T, l2]
      rfl
    · refine ⟨hin, fun j ej => ⟨fun _ _ => ⟨hin, fun _ => ?_⟩, fun z => absurd rfl z⟩⟩
      refine ⟨h1, fun r1 q1 => ⟨w1, fun r2 q2 => ⟨e1, fun r3 q3 => ⟨e3, fun r4 q4 => ⟨hin, hin, fun j9 q9 => ?_⟩⟩⟩⟩⟩
      rw [h2] at q1
      rw [w2] at q2
      rw [e2] at q3
      rw [e4] at q4
      subst q1 q2 q3 q4
      rw [hj9] at q9
      subst q9
      rw [hmpl]
      refine ⟨mb1, fun r10 q10 => ?_⟩
      rw [mb2] at q10
      subst q10
      exact ⟨n5, fun _ _ => by rw [hmpl] at hin; exact hin⟩
    · rw [totN_g hpl]; exact n7
    · refine hch.step hx (fun _ _ _ => rfl) (fun _ _ _ => rfl) (fun z => z) ?_ hpos
      have h3 := hch.sm x y hx hy
      have e8 : exC 1 pos e.W G x y = false := by
        show (G.sn x y || (G.sg x y && decide (key e.W x y < pos))) = false
        rw [hsn, decide_eq_false (by omega)]; simp
      have e9 : exC 1 (key e.W x y + 1) e.W (gLrn (gAg G x y) x y (G.kn x y ||| v * 2 ^ e.p) e.p) x y = true := by
        show (G.sn x y || (G.sg x y && decide (key e.W x y < key e.W x y + 1))) = true
        rw [hs, decide_eq_true (by omega)]; simp
      rw [e8] at h3
      rw [e9]
      show _ ≤ e.q + bN (G.sg x y) + 1
      have : bN false = 0 := rfl
      omega
  · have t3 : ¬ marks (y * e.W + x) &&& (10240 : Int32) = (2048 : Int32) := by
      rw [t2]
      cases hs : G.sg x y with
      | false => cases hsn : G.sn x y <;> decide
      | true =>
        cases hsn : G.sn x y with
        | false => exact absurd ⟨hs, hsn⟩ act
        | true => decide
    have hvis : (F_X11_visit 1 (nI x) (nI y) (nI e.W) (nI e.H) (nI e.band) e.sty (wrI e.bk) (nI e.p) (rawI e.bk) m.size m.begin m.low m.carried m.span m.room m.place m.limit m.next m.last m.upper e.mp e.mo e.mag e.min known below latest early again m.sf m.lf m.bf) = m.V known below latest early again ∧ (P_X11_visit 1 (nI x) (nI y) (nI e.W) (nI e.H) (nI e.band) e.sty (wrI e.bk) (nI e.p) (rawI e.bk) m.size m.begin m.low m.carried m.span m.room m.place m.limit m.next m.last m.upper 47 e.mp 47 e.mo 4096 e.mag 4096 e.min 4096 known 4096 below 4096 4096 early 4096 again 19 m.sf 19 m.lf 65536 m.bf) := by
      cases hs : G.sg x y with
      | false =>
        have hj3 : J_X11_visit_j_3 (nI x) (nI y) (nI e.W) known = 1 := by unfold J_X11_visit_j_3; rw [hmpl, hcl, if_pos (tk.mpr hs)]
        refine ⟨?_, ?_⟩
        · unfold F_X11_visit
          simp only [hj3, if_true, n10, if_false]
          rfl
        · refine ⟨hin, fun j ej => ⟨fun _ z => ?_, fun z => absurd rfl z⟩⟩
          rw [hj3] at ej
          rw [← ej] at z
          exact absurd z n10
      | true =>
        have hsn : G.sn x y = true := by
          cases hq : G.sn x y with
          | true => rfl
          | false => exact absurd ⟨hs, hq⟩ act
        have t4 : ¬ known (y * e.W + x) = (0 : Int32) := fun z => by rw [tk.mp z] at hs; cases hs
        have t5 : early (y * e.W + x) = nI e.p := te.mpr hsn
        have hj3 : J_X11_visit_j_3 (nI x) (nI y) (nI e.W) known = 0 := by unfold J_X11_visit_j_3; rw [hmpl, hcl, if_neg t4]
        refine ⟨?_, ?_⟩
        · unfold F_X11_visit
          simp only [hj3, if_true, hmpl, hcl, t5]
          rfl
        · refine ⟨hin, fun j ej => ⟨fun _ _ => ⟨hin, fun z => ?_⟩, fun z => absurd rfl z⟩⟩
          rw [hmpl, hcl] at z
          exact absurd t5 z
    refine ⟨G, g, c, m, mags, marks, known, latest, again, less, ?_, ?_, ?_, hvis.1, hvis.2, Kept.refl _ _ _, ⟨hcod, hf, hE, hch.mono (by omega)⟩⟩
    · unfold J_X9_refine_j_15
      rw [hcl, if_neg t3]
      rfl
    · unfold PJ_X9_refine_j_15
      rw [hcl]
      exact fun z => absurd z t3
    · unfold DJ_X9_refine_j_15
      rw [hcl, if_neg t3]
      omega

/-! ===== PURE: the first pass at one coefficient ===== -/
theorem Chg.step {e : EnvB} {kind pos : Nat} {G G' : GF} {g gc : Nat → Nat} {x y d : Nat} (h : Chg e kind pos G g gc) (hx : x < e.W) (hsg : ∀ a b, ¬ (a = x ∧ b = y) → G'.sg a b = G.sg a b) (hsn : ∀ a b, ¬ (a = x ∧ b = y) → G'.sn a b = G.sn a b) (hm : G.sg x y = true → G'.sg x y = true) (hd : g (y * e.W + x) + d ≤ e.q + bN (G'.sg x y) + bN (exC kind (key e.W x y + 1) e.W G' x y)) (hpos : pos ≤ key e.W x y) :
    Chg e kind (key e.W x y + 1) G' (nup g (y * e.W + x) (g (y * e.W + x) + d)) gc := by
  have h2 := h.mono (show pos ≤ key e.W x y + 1 by omega)
  refine ⟨fun a b ha hb => ?_, fun hk a b ha hb hq => ?_, fun j hj => ?_⟩
  · by_cases c : a = x ∧ b = y
    · obtain ⟨rfl, rfl⟩ := c
      unfold nup
      rw [if_pos rfl]; exact hd
    · have hne : b * e.W + a ≠ y * e.W + x := fun z => c (plc_inj ha hx z)
      have h3 := h2.sm a b ha hb
      unfold nup
      rw [if_neg hne, hsg a b c]
      have h4 : exC kind (key e.W x y + 1) e.W G' a b = exC kind (key e.W x y + 1) e.W G a b := by
        unfold exC
        rw [hsg a b c, hsn a b c]
      rw [h4]; exact h3
  · have c : ¬ (a = x ∧ b = y) := fun z => by obtain ⟨rfl, rfl⟩ := z; omega
    rw [hsn a b c]
    exact h.un hk a b ha hb (by omega)
  · have h3 := h.co j hj
    have h4 := colS_mono (G := G) (G' := G') (fun a b z => by
      by_cases c : a = x ∧ b = y
      · obtain ⟨rfl, rfl⟩ := c; exact hm z
      · rw [hsg a b c]; exact z) j
    omega
theorem gNew_sg (G : GF) (x y : Nat) (mi : Bool) (p a b : Nat) : (gNew G x y mi p).sg a b = if a = x ∧ b = y then true else G.sg a b := rfl
theorem gNew_sn (G : GF) (x y : Nat) (mi : Bool) (p a b : Nat) : (gNew G x y mi p).sn a b = G.sn a b := rfl
theorem gSeen_sn (G : GF) (x y a b : Nat) : (gSeen G x y).sn a b = if a = x ∧ b = y then true else G.sn a b := rfl
section
variable {W H p : Nat} {cz : Bool} {G : GF} {mags marks known below latest early again : Nat → Int32} {x y : Nat}
theorem f_sig (hf : Fld W H cz p G mags marks known below latest early again) (hx : x < W) (hy : y < H) : (marks (y * W + x) &&& (2048 : Int32) = (0 : Int32)) ↔ G.sg x y = false := by
  obtain ⟨-, -, -, -, -, q6, -⟩ := mark_bits cz G x y
  rw [hf.mr x y hx hy, mk_2048 (markN_lt (hf.kb x y).2.2.1), q6]
  cases G.sg x y <;> decide
theorem f_near (hf : Fld W H cz p G mags marks known below latest early again) (hx : x < W) (hy : y < H) : (marks (y * W + x) &&& (127 : Int32) = (0 : Int32)) ↔ hC G x y + 4 * vC cz G x y + 16 * dC cz G x y = 0 := by
  have hn : markN cz G x y % 128 = hC G x y + 4 * vC cz G x y + 16 * dC cz G x y := by
    have a1 := hC_le G x y
    have a2 := vC_le cz G x y
    have a3 := dC_le cz G x y
    unfold markN
    omega
  rw [hf.mr x y hx hy, mk_127 (markN_lt (hf.kb x y).2.2.1), hn]
  have a1 := hC_le G x y
  have a2 := vC_le cz G x y
  have a3 := dC_le cz G x y
  exact ⟨fun z => (nI_eq (b := 0) (by omega) (by omega)).mp z, fun z => by rw [z]; rfl⟩
theorem f_knw (hf : Fld W H cz p G mags marks known below latest early again) (hx : x < W) (hy : y < H) : (known (y * W + x) = (0 : Int32)) ↔ G.sg x y = false := by
  rw [hf.kn x y hx hy, ← hf.k0 x y]
  exact ⟨fun z => (nI_eq (b := 0) (hf.kb x y).1 (by omega)).mp z, fun z => by rw [z]; rfl⟩
end
theorem spread_step {e : EnvB} (ok : e.Ok) {pos : Nat} {G : GF} {g gc : Nat → Nat} {c : CS} {m : MS} {mags marks known below latest early again : Nat → Int32} {less : Int64} {x y : Nat} (h : Rel e 0 pos G g gc c m mags marks known below latest early again less) (hx : x < e.W) (hy : y < e.H) (hpos : pos ≤ key e.W x y) :
    ∃ (G' : GF) (g' : Nat → Nat) (c' : CS) (m' : MS) (mags' marks' known' below' latest' early' : Nat → Int32) (less' : Int64), (J_X9_spread_j_14 (nI x) c.start 19 19 c.cend c.rend (nI e.W) (nI e.H) (nI e.band) (bI (czOf e.sty)) e.coef e.bk (rawI e.bk) (nI e.p) (nI y) c.count c.bn c.bf c.sf c.lf c.low c.size c.room c.free c.place c.window c.csize c.croom c.rplace c.cur c.left mags marks less (nI (y * e.W + x))) = c'.U mags' marks' less' ∧ (PJ_X9_spread_j_14 (nI x) c.start 19 19 c.cend c.rend (nI e.W) (nI e.H) (nI e.band) (bI (czOf e.sty)) e.cn e.coef e.gn e.kn e.bk (rawI e.bk) (nI e.p) (nI y) c.count c.bn c.bf c.sf c.lf c.low c.size c.room c.free c.place c.window c.csize c.croom c.rplace c.cur c.left mags marks (nI (y * e.W + x))) ∧ (DJ_X9_spread_j_14 (nI x) c.start 19 19 c.cend c.rend (nI e.W) (nI e.H) (nI e.band) (bI (czOf e.sty)) e.coef e.bk (rawI e.bk) (nI e.p) (nI y) c.count c.bn c.bf c.sf c.lf c.low c.size c.room c.free c.place c.window c.csize c.croom c.rplace c.cur c.left mags marks less (nI (y * e.W + x))) + 3 * c.bn ≤ 3 * c'.bn ∧
    (F_X11_visit 0 (nI x) (nI y) (nI e.W) (nI e.H) (nI e.band) e.sty (wrI e.bk) (nI e.p) (rawI e.bk) m.size m.begin m.low m.carried m.span m.room m.place m.limit m.next m.last m.upper e.mp e.mo e.mag e.min known below latest early again m.sf m.lf m.bf) = m'.V known' below' latest' early' again ∧ (P_X11_visit 0 (nI x) (nI y) (nI e.W) (nI e.H) (nI e.band) e.sty (wrI e.bk) (nI e.p) (rawI e.bk) m.size m.begin m.low m.carried m.span m.room m.place m.limit m.next m.last m.upper 47 e.mp 47 e.mo 4096 e.mag 4096 e.min 4096 known 4096 below 4096 4096 early 4096 again 19 m.sf 19 m.lf 65536 m.bf) ∧ Kept e.bk c c' m m' ∧ Rel e 0 (key e.W x y + 1) G' g' gc c' m' mags' marks' known' below' latest' early' again less' := by
  have hpl := plc hx hy
  have hplt := pl_lt ok hx hy
  have hcl := pl_cl ok hx hy
  have hmpl : nI y * nI e.W + nI x = nI (y * e.W + x) := place_ok x y e.W
  obtain ⟨hcod, hf, hE, hch⟩ := h
  have hlim := hch.lim ok
  have ts := f_sig hf hx hy
  have tn := f_near hf hx hy
  have tk := f_knw hf hx hy
  have n01 : ¬ (0 : Int32) = 1 := by decide
  have n10 : ¬ (1 : Int32) = 0 := by decide
  have n02 : ¬ (0 : Int32) = 2 := by decide
  have hin : vp_in (nI y * nI e.W + nI x) 4096 := by rw [hmpl]; exact vp_in_nI hplt (by omega)
  obtain ⟨z1, z2⟩ := x11_zero hf ok.W64 ok.H64 hx hy ok.b4
  obtain ⟨-, z4, z5⟩ := zc_ok ok.b4 (hC_le G x y) (vC_le (czOf e.sty) G x y) (dC_le (czOf e.sty) G x y)
  cases hs : G.sg x y with
  | true =>
    have t1 : ¬ marks (y * e.W + x) &&& (2048 : Int32) = (0 : Int32) := fun z => by rw [ts.mp z] at hs; cases hs
    have t2 : ¬ known (y * e.W + x) = (0 : Int32) := fun z => by rw [tk.mp z] at hs; cases hs
    have hj3 : J_X11_visit_j_3 (nI x) (nI y) (nI e.W) known = 0 := by unfold J_X11_visit_j_3; rw [hmpl, hcl, if_neg t2]
    refine ⟨G, g, c, m, mags, marks, known, below, latest, early, less, ?_, ?_, ?_, ?_, ?_, Kept.refl _ _ _, ⟨hcod, hf, hE, hch.mono (by omega)⟩⟩
    · unfold J_X9_spread_j_14
      rw [hcl, if_neg t1]
      rfl
    · unfold PJ_X9_spread_j_14
      rw [hcl]
      exact fun z => absurd z t1
    · unfold DJ_X9_spread_j_14
      rw [hcl, if_neg t1]
      omega
    · unfold F_X11_visit
      simp only [hj3, n01, if_false, if_true]
      rfl
    · refine ⟨hin, fun j ej => ⟨fun z => absurd z n01, fun _ hz => ?_⟩⟩
      rw [hj3] at ej
      exact absurd ej.symm hz
  | false =>
    have t1 := ts.mpr hs
    have t2 := tk.mpr hs
    have hj3 : J_X11_visit_j_3 (nI x) (nI y) (nI e.W) known = 1 := by unfold J_X11_visit_j_3; rw [hmpl, hcl, if_pos t2]
    by_cases hnear : hC G x y + 4 * vC (czOf e.sty) G x y + 16 * dC (czOf e.sty) G x y = 0
    · have t3 := tn.mpr hnear
      have zc0 := z5.mpr hnear
      rw [zc0] at z2
      have z2 : F_X11_zeroContext (nI x) (nI y) (nI e.W) (nI e.H) (nI e.band) e.sty known below = 0 := z2
      refine ⟨G, g, c, m, mags, marks, known, below, latest, early, less, ?_, ?_, ?_, ?_, ?_, Kept.refl _ _ _, ⟨hcod, hf, hE, hch.mono (by omega)⟩⟩
      · unfold J_X9_spread_j_14
        rw [hcl, if_pos t1, if_pos t3]
        rfl
      · unfold PJ_X9_spread_j_14
        rw [hcl]
        exact fun _ z => absurd t3 z
      · unfold DJ_X9_spread_j_14
        rw [hcl, if_pos t1, if_pos t3]
        omega
      · unfold F_X11_visit
        simp only [hj3, n01, n10, n02, if_false, if_true, z2]
        rfl
      · refine ⟨hin, fun j ej => ⟨fun z => absurd z n01, fun _ _ => ⟨fun z => absurd z n02, fun _ => ⟨z1, fun r7 e7 => ⟨fun _ z => ?_, fun z => absurd rfl z⟩⟩⟩⟩⟩
        rw [z2] at e7
        exact absurd e7.symm z
    · have t3 : ¬ marks (y * e.W + x) &&& (127 : Int32) = (0 : Int32) := fun z => hnear (tn.mp z)
      have zc0 : ¬ zcN e.band (hC G x y) (vC (czOf e.sty) G x y) (dC (czOf e.sty) G x y) = 0 := fun z => hnear (z5.mp z)
      have z6 : ¬ nI (zcN e.band (hC G x y) (vC (czOf e.sty) G x y) (dC (czOf e.sty) G x y)) = (0 : Int32) := nI_ne0 (by omega) (by omega)
      have hsn : G.sn x y = false := hch.un rfl x y hx hy hpos
      have hf1 := hf.seen hx hy ok.p30 hsn
      have hE1 : less + errS e (gSeen G x y) = e.E0 := hE
      have hs1 : (gSeen G x y).sg x y = false := hs
      have hg0 : g (y * e.W + x) ≤ e.q := by
        have := hch.sm x y hx hy
        have e1 : exC 0 pos e.W G x y = false := hsn
        rw [hs, e1] at this
        exact this
      obtain ⟨v, c1, m1, v1, f1, f2, f3, f4, f5, f6, f7⟩ := zero_sim ok (x := x) (y := y) (less := less) hcod hf1 hx hy hs1 hE1 (by omega)
      have hj16 : J_X11_visit_j_16 0 (nI x) (nI y) (nI e.W) (nI e.p) early = upd early (y * e.W + x) (nI e.p) := by unfold J_X11_visit_j_16; rw [if_pos rfl, hmpl, hcl]
      have hstep : ∀ {d : Nat} {G' : GF}, (∀ a b, ¬ (a = x ∧ b = y) → G'.sg a b = G.sg a b) → (∀ a b, G'.sn a b = if a = x ∧ b = y then true else G.sn a b) → d ≤ 1 + bN (G'.sg x y) → Chg e 0 (key e.W x y + 1) G' (nup g (y * e.W + x) (g (y * e.W + x) + d)) gc := by
        intro d G' a1 a2 a3
        refine hch.step hx a1 (fun a b q => by rw [a2, if_neg q]) (fun z => by rw [hs] at z; cases z) ?_ hpos
        have e1 : exC 0 (key e.W x y + 1) e.W G' x y = true := by show G'.sn x y = true; rw [a2, if_pos ⟨rfl, rfl⟩]
        rw [e1, show bN true = 1 by rfl]
        omega
      rcases (show v = 0 ∨ v = 1 by omega) with hv | hv
      · obtain ⟨k1, k2⟩ := f6 hv
        subst hv
        refine ⟨gSeen G x y, nup g (y * e.W + x) (g (y * e.W + x) + 1), c1, m1, mags, upd marks (y * e.W + x) (marks (y * e.W + x) ||| (8192 : Int32)), known, below, latest, upd early (y * e.W + x) (nI e.p), less, ?_, ?_, ?_, ?_, ?_, f4, ⟨?_, hf1, hE1, ?_⟩⟩
        · unfold J_X9_spread_j_14
          rw [hcl, if_pos t1, if_neg t3]
          simp only [f1]
          show (if nI 0 = (1 : Int32) then _ else _) = _
          rw [if_neg (by decide)]
          rfl
        · unfold PJ_X9_spread_j_14
          rw [hcl]
          refine fun _ _ => ⟨f2, fun r9 e9 z => ?_⟩
          rw [f1] at e9
          subst e9
          exact absurd z (by show ¬ nI 0 = (1 : Int32); decide)
        · unfold DJ_X9_spread_j_14
          rw [hcl, if_pos t1, if_neg t3]
          simp only [f1]
          show _ + (if nI 0 = (1 : Int32) then _ else 0) + _ ≤ _
          rw [if_neg (by decide)]
          omega
        · unfold F_X11_visit
          simp only [hj3, n01, n10, n02, if_false, if_true, z2, z6, hj16]
          have k1' : (F_X11_codeZero (nI x) (nI y) (nI (zcN e.band (hC G x y) (vC (czOf e.sty) G x y) (dC (czOf e.sty) G x y))) (nI e.W) (nI e.H) e.sty (wrI e.bk) (nI e.p) (rawI e.bk) m.size m.begin m.low m.carried m.span m.room m.place m.limit m.next m.last m.upper e.mp e.mo e.mag e.min known below latest m.sf m.lf m.bf) = m1.U known below latest := k1
          rw [k1']
          rfl
        · refine ⟨hin, fun j ej => ⟨fun z => absurd z n01, fun _ _ => ⟨fun z => absurd z n02, fun _ => ⟨z1, fun r7 e7 => ⟨fun _ z => ⟨fun _ => hin, fun j16 e16 => ?_⟩, fun z => absurd rfl z⟩⟩⟩⟩⟩
          rw [z2] at e7
          subst e7
          exact k2
        · rw [totN_g hpl]; exact f5
        · exact hstep (fun _ _ _ => rfl) (fun a b => rfl) (by omega)
      · obtain ⟨c', m', mi, mags', marks', known', below', latest', less', k1, k2, k3, k4, k5, k6, k7, k8, k9⟩ := f7 hv
        subst hv
        refine ⟨gNew (gSeen G x y) x y mi e.p, nup g (y * e.W + x) (g (y * e.W + x) + 2), c', m', mags', marks', known', below', latest', upd early (y * e.W + x) (nI e.p), less', ?_, ?_, ?_, ?_, ?_, k6, ⟨?_, k8, k9, ?_⟩⟩
        · unfold J_X9_spread_j_14
          rw [hcl, if_pos t1, if_neg t3]
          simp only [f1]
          show (if nI 1 = (1 : Int32) then _ else _) = _
          rw [if_pos (show nI 1 = (1 : Int32) from rfl)]
          exact k1
        · unfold PJ_X9_spread_j_14
          rw [hcl]
          refine fun _ _ => ⟨f2, fun r9 e9 z => ?_⟩
          rw [f1] at e9
          subst e9
          exact k2
        · unfold DJ_X9_spread_j_14
          rw [hcl, if_pos t1, if_neg t3]
          simp only [f1]
          show _ + (if nI 1 = (1 : Int32) then _ else 0) + _ ≤ _
          rw [if_pos (show nI 1 = (1 : Int32) from rfl)]
          exact addC f3 k3
        · unfold F_X11_visit
          simp only [hj3, n01, n10, n02, if_false, if_true, z2, z6, hj16]
          have k4' : (F_X11_codeZero (nI x) (nI y) (nI (zcN e.band (hC G x y) (vC (czOf e.sty) G x y) (dC (czOf e.sty) G x y))) (nI e.W) (nI e.H) e.sty (wrI e.bk) (nI e.p) (rawI e.bk) m.size m.begin m.low m.carried m.span m.room m.place m.limit m.next m.last m.upper e.mp e.mo e.mag e.min known below latest m.sf m.lf m.bf) = m'.U known' below' latest' := k4
          rw [k4']
          rfl
        · refine ⟨hin, fun j ej => ⟨fun z => absurd z n01, fun _ _ => ⟨fun z => absurd z n02, fun _ => ⟨z1, fun r7 e7 => ⟨fun _ z => ⟨fun _ => hin, fun j16 e16 => ?_⟩, fun z => absurd rfl z⟩⟩⟩⟩⟩
          rw [z2] at e7
          subst e7
          exact k5
        · rw [totN_g hpl]; exact k7
        · refine hstep (fun a b q => ?_) (fun a b => rfl) ?_
          · rw [gNew_sg, if_neg q]; rfl
          · rw [gNew_sg, if_pos ⟨rfl, rfl⟩]; decide

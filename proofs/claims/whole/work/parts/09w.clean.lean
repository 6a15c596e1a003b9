/-! ===== PURE: the third pass at one coefficient ===== -/
theorem clean_step {e : EnvB} (ok : e.Ok) {pos : Nat} {G : GF} {g gc : Nat → Nat} {c : CS} {m : MS} {mags marks known below latest early again : Nat → Int32} {less : Int64} {x y : Nat} (h : Rel e 2 pos G g gc c m mags marks known below latest early again less) (hx : x < e.W) (hy : y < e.H) (hpos : pos ≤ key e.W x y) :
    ∃ (G' : GF) (g' : Nat → Nat) (c' : CS) (m' : MS) (mags' marks' known' below' latest' : Nat → Int32) (less' : Int64), (J_X9_clean_j_19 (nI x) c.start 19 19 c.cend c.rend (nI e.W) (nI e.H) (nI e.band) (bI (czOf e.sty)) e.coef e.bk (rawI e.bk) (nI e.p) (nI y) c.count c.bn c.bf c.sf c.lf c.low c.size c.room c.free c.place c.window c.csize c.croom c.rplace c.cur c.left mags marks less (nI (y * e.W + x))) = c'.U mags' marks' less' ∧ (PJ_X9_clean_j_19 (nI x) c.start 19 19 c.cend c.rend (nI e.W) (nI e.H) (nI e.band) (bI (czOf e.sty)) e.cn e.coef e.gn e.kn e.bk (rawI e.bk) (nI e.p) (nI y) c.count c.bn c.bf c.sf c.lf c.low c.size c.room c.free c.place c.window c.csize c.croom c.rplace c.cur c.left mags marks (nI (y * e.W + x))) ∧ (DJ_X9_clean_j_19 (nI x) c.start 19 19 c.cend c.rend (nI e.W) (nI e.H) (nI e.band) (bI (czOf e.sty)) e.coef e.bk (rawI e.bk) (nI e.p) (nI y) c.count c.bn c.bf c.sf c.lf c.low c.size c.room c.free c.place c.window c.csize c.croom c.rplace c.cur c.left mags marks less (nI (y * e.W + x))) + 3 * c.bn ≤ 3 * c'.bn ∧
    (F_X11_visit 2 (nI x) (nI y) (nI e.W) (nI e.H) (nI e.band) e.sty (wrI e.bk) (nI e.p) (rawI e.bk) m.size m.begin m.low m.carried m.span m.room m.place m.limit m.next m.last m.upper e.mp e.mo e.mag e.min known below latest early again m.sf m.lf m.bf) = m'.V known' below' latest' early again ∧ (P_X11_visit 2 (nI x) (nI y) (nI e.W) (nI e.H) (nI e.band) e.sty (wrI e.bk) (nI e.p) (rawI e.bk) m.size m.begin m.low m.carried m.span m.room m.place m.limit m.next m.last m.upper 47 e.mp 47 e.mo 4096 e.mag 4096 e.min 4096 known 4096 below 4096 4096 early 4096 again 19 m.sf 19 m.lf 65536 m.bf) ∧ Kept e.bk c c' m m' ∧ Rel e 2 (key e.W x y + 1) G' g' gc c' m' mags' marks' known' below' latest' early again less' := by
  have hpl := plc hx hy
  have hplt := pl_lt ok hx hy
  have hcl := pl_cl ok hx hy
  have hmpl : nI y * nI e.W + nI x = nI (y * e.W + x) := place_ok x y e.W
  obtain ⟨hcod, hf, hE, hch⟩ := h
  have hlim := hch.lim ok
  have tk := f_knw hf hx hy
  have te := hf.ea x y hx hy
  have t2 := f_two hf hx hy
  have n01 : ¬ (0 : Int32) = 1 := by decide
  have n10 : ¬ (1 : Int32) = 0 := by decide
  have n21 : ¬ (2 : Int32) = 1 := by decide
  have n20 : ¬ (2 : Int32) = 0 := by decide
  have hin : vp_in (nI y * nI e.W + nI x) 4096 := by rw [hmpl]; exact vp_in_nI hplt (by omega)
  obtain ⟨z1, z2⟩ := x11_zero hf ok.W64 ok.H64 hx hy ok.b4
  by_cases act : G.sg x y = false ∧ G.sn x y = false
  · obtain ⟨hs, hsn⟩ := act
    have t3 : marks (y * e.W + x) &&& (10240 : Int32) = (0 : Int32) := by rw [t2, hs, hsn]; rfl
    have t5 : ¬ early (y * e.W + x) = nI e.p := fun z => by rw [te.mp z] at hsn; cases hsn
    have hj3 : J_X11_visit_j_3 (nI x) (nI y) (nI e.W) known = 1 := by unfold J_X11_visit_j_3; rw [hmpl, hcl, if_pos (tk.mpr hs)]
    have hg0 : g (y * e.W + x) ≤ e.q := by
      have h3 := hch.sm x y hx hy
      have e8 : exC 2 pos e.W G x y = false := by
        show (G.sn x y || G.sg x y || decide (key e.W x y < pos)) = false
        rw [hsn, hs, decide_eq_false (by omega)]; rfl
      rw [e8, hs] at h3
      exact h3
    obtain ⟨v, c1, m1, v1, f1, f2, f3, f4, f5, f6, f7⟩ := zero_sim ok (x := x) (y := y) (less := less) hcod hf hx hy hs hE (by omega)
    have hj24 : J_X11_visit_j_24 2 (nI x) (nI y) (nI e.W) (nI e.p) early = early := by unfold J_X11_visit_j_24; rw [if_neg n20]
    have hstep : ∀ {d : Nat} {G' : GF}, (∀ a b, ¬ (a = x ∧ b = y) → G'.sg a b = G.sg a b) → (∀ a b, G'.sn a b = G.sn a b) → d ≤ 1 + bN (G'.sg x y) → Chg e 2 (key e.W x y + 1) G' (nup g (y * e.W + x) (g (y * e.W + x) + d)) gc := by
      intro d G' a1 a2 a3
      refine hch.step hx a1 (fun a b q => a2 a b) (fun z => by rw [hs] at z; cases z) ?_ hpos
      have e1 : exC 2 (key e.W x y + 1) e.W G' x y = true := by
        show (G'.sn x y || G'.sg x y || decide (key e.W x y < key e.W x y + 1)) = true
        rw [decide_eq_true (by omega)]; simp
      rw [e1, show bN true = 1 by rfl]
      omega
    have hPv : (P_X11_codeZero (nI x) (nI y) (nI (zcN e.band (hC G x y) (vC (czOf e.sty) G x y) (dC (czOf e.sty) G x y))) (nI e.W) (nI e.H) e.sty (wrI e.bk) (nI e.p) (rawI e.bk) m.size m.begin m.low m.carried m.span m.room m.place m.limit m.next m.last m.upper 47 e.mp 47 e.mo 4096 e.mag 4096 e.min 4096 known 4096 below 4096 19 m.sf 19 m.lf 65536 m.bf) → (P_X11_visit 2 (nI x) (nI y) (nI e.W) (nI e.H) (nI e.band) e.sty (wrI e.bk) (nI e.p) (rawI e.bk) m.size m.begin m.low m.carried m.span m.room m.place m.limit m.next m.last m.upper 47 e.mp 47 e.mo 4096 e.mag 4096 e.min 4096 known 4096 below 4096 4096 early 4096 again 19 m.sf 19 m.lf 65536 m.bf) := by
      intro hz
      refine ⟨hin, fun j ej => ⟨fun z => absurd z n21, fun _ _ => ⟨fun _ => ⟨hin, fun _ => ⟨z1, fun r e20 => ⟨fun z => absurd z n20, fun _ j24 e24 => ?_⟩⟩⟩, fun z => absurd rfl z⟩⟩⟩
      rw [z2] at e20
      subst e20
      exact hz
    rcases (show v = 0 ∨ v = 1 by omega) with hv | hv
    · obtain ⟨k1, k2⟩ := f6 hv
      subst hv
      refine ⟨G, nup g (y * e.W + x) (g (y * e.W + x) + 1), c1, m1, mags, marks, known, below, latest, less, ?_, ?_, ?_, ?_, hPv k2, f4, ⟨?_, hf, hE, ?_⟩⟩
      · unfold J_X9_clean_j_19
        rw [hcl, if_pos t3]
        simp only [f1]
        show (if nI 0 = (1 : Int32) then _ else _) = _
        rw [if_neg (by decide)]
        rfl
      · unfold PJ_X9_clean_j_19
        rw [hcl]
        refine fun _ => ⟨f2, fun r e14 z => ?_⟩
        rw [f1] at e14
        subst e14
        exact absurd z (by show ¬ nI 0 = (1 : Int32); decide)
      · unfold DJ_X9_clean_j_19
        rw [hcl, if_pos t3]
        simp only [f1]
        show _ + (if nI 0 = (1 : Int32) then _ else 0) + _ ≤ _
        rw [if_neg (by decide)]
        omega
      · unfold F_X11_visit
        simp only [hj3, n21, n20, n10, if_false, if_true, hmpl, hcl, t5, z2, hj24]
        rw [k1]
        rfl
      · rw [totN_g hpl]; exact f5
      · exact hstep (fun _ _ _ => rfl) (fun a b => rfl) (by omega)
    · obtain ⟨c', m', mi, mags', marks', known', below', latest', less', k1, k2, k3, k4, k5, k6, k7, k8, k9⟩ := f7 hv
      subst hv
      refine ⟨gNew G x y mi e.p, nup g (y * e.W + x) (g (y * e.W + x) + 2), c', m', mags', marks', known', below', latest', less', ?_, ?_, ?_, ?_, hPv k5, k6, ⟨?_, k8, k9, ?_⟩⟩
      · unfold J_X9_clean_j_19
        rw [hcl, if_pos t3]
        simp only [f1]
        show (if nI 1 = (1 : Int32) then _ else _) = _
        rw [if_pos (show nI 1 = (1 : Int32) from rfl)]
        exact k1
      · unfold PJ_X9_clean_j_19
        rw [hcl]
        refine fun _ => ⟨f2, fun r e14 z => ?_⟩
        rw [f1] at e14
        subst e14
        exact k2
      · unfold DJ_X9_clean_j_19
        rw [hcl, if_pos t3]
        simp only [f1]
        show _ + (if nI 1 = (1 : Int32) then _ else 0) + _ ≤ _
        rw [if_pos (show nI 1 = (1 : Int32) from rfl)]
        exact addC f3 k3
      · unfold F_X11_visit
        simp only [hj3, n21, n20, n10, if_false, if_true, hmpl, hcl, t5, z2, hj24]
        rw [k4]
        rfl
      · rw [totN_g hpl]; exact k7
      · refine hstep (fun a b q => ?_) (fun a b => rfl) ?_
        · rw [gNew_sg, if_neg q]
        · rw [gNew_sg, if_pos ⟨rfl, rfl⟩]; decide
  · have t3 : ¬ marks (y * e.W + x) &&& (10240 : Int32) = (0 : Int32) := by
      rw [t2]
      cases hs : G.sg x y with
      | true => cases hsn : G.sn x y <;> decide
      | false =>
        cases hsn : G.sn x y with
        | false => exact absurd ⟨hs, hsn⟩ act
        | true => decide
    have hvis : (F_X11_visit 2 (nI x) (nI y) (nI e.W) (nI e.H) (nI e.band) e.sty (wrI e.bk) (nI e.p) (rawI e.bk) m.size m.begin m.low m.carried m.span m.room m.place m.limit m.next m.last m.upper e.mp e.mo e.mag e.min known below latest early again m.sf m.lf m.bf) = m.V known below latest early again ∧ (P_X11_visit 2 (nI x) (nI y) (nI e.W) (nI e.H) (nI e.band) e.sty (wrI e.bk) (nI e.p) (rawI e.bk) m.size m.begin m.low m.carried m.span m.room m.place m.limit m.next m.last m.upper 47 e.mp 47 e.mo 4096 e.mag 4096 e.min 4096 known 4096 below 4096 4096 early 4096 again 19 m.sf 19 m.lf 65536 m.bf) := by
      cases hs : G.sg x y with
      | true =>
        have t4 : ¬ known (y * e.W + x) = (0 : Int32) := fun z => by rw [tk.mp z] at hs; cases hs
        have hj3 : J_X11_visit_j_3 (nI x) (nI y) (nI e.W) known = 0 := by unfold J_X11_visit_j_3; rw [hmpl, hcl, if_neg t4]
        refine ⟨?_, ?_⟩
        · unfold F_X11_visit
          simp only [hj3, n21, if_false, if_true]
          rfl
        · refine ⟨hin, fun j ej => ⟨fun z => absurd z n21, fun _ z => ?_⟩⟩
          rw [hj3] at ej
          exact absurd ej.symm z
      | false =>
        have hsn : G.sn x y = true := by
          cases hq : G.sn x y with
          | true => rfl
          | false => exact absurd ⟨hs, hq⟩ act
        have t5 : early (y * e.W + x) = nI e.p := te.mpr hsn
        have hj3 : J_X11_visit_j_3 (nI x) (nI y) (nI e.W) known = 1 := by unfold J_X11_visit_j_3; rw [hmpl, hcl, if_pos (tk.mpr hs)]
        refine ⟨?_, ?_⟩
        · unfold F_X11_visit
          simp only [hj3, n21, n10, if_false, if_true, hmpl, hcl, t5]
          rfl
        · refine ⟨hin, fun j ej => ⟨fun z => absurd z n21, fun _ _ => ⟨fun _ => ⟨hin, fun z => ?_⟩, fun z => absurd rfl z⟩⟩⟩
          rw [hmpl, hcl] at z
          exact absurd t5 z
    refine ⟨G, g, c, m, mags, marks, known, below, latest, less, ?_, ?_, ?_, hvis.1, hvis.2, Kept.refl _ _ _, ⟨hcod, hf, hE, hch.mono (by omega)⟩⟩
    · unfold J_X9_clean_j_19
      rw [hcl, if_neg t3]
      rfl
    · unfold PJ_X9_clean_j_19
      rw [hcl]
      exact fun z => absurd z t3
    · unfold DJ_X9_clean_j_19
      rw [hcl, if_neg t3]
      omega
/-! is a column quiet -/
def qt (cz : Bool) (G : GF) (x y : Nat) : Bool := !G.sg x y && !G.sn x y && decide (hC G x y + 4 * vC cz G x y + 16 * dC cz G x y = 0)
def quiet (cz : Bool) (G : GF) (H x top : Nat) : Bool := decide (top + 4 ≤ H) && (qt cz G x top && qt cz G x (top + 1) && qt cz G x (top + 2) && qt cz G x (top + 3))
section
variable {W H p : Nat} {cz : Bool} {G : GF} {mags marks known below latest early again : Nat → Int32}
theorem f_qt (hf : Fld W H cz p G mags marks known below latest early again) {x y : Nat} (hx : x < W) (hy : y < H) : (marks (y * W + x) &&& (10367 : Int32) = (0 : Int32)) ↔ qt cz G x y = true := by
  obtain ⟨-, -, -, -, -, q6, -, q8, -, -⟩ := mark_bits cz G x y
  have hn : markN cz G x y % 128 = hC G x y + 4 * vC cz G x y + 16 * dC cz G x y := by
    have a1 := hC_le G x y
    have a2 := vC_le cz G x y
    have a3 := dC_le cz G x y
    unfold markN
    omega
  rw [hf.mr x y hx hy, mk_10367 (markN_lt (hf.kb x y).2.2.1), q6, q8, hn]
  unfold qt
  cases G.sg x y <;> cases G.sn x y <;> simp [bN]
theorem quiet_loop (hf : Fld W H cz p G mags marks known below latest early again) {K x : Nat} (hx : x < W) (hW : W ≤ 64) (hH : H ≤ 64) (hK : W * H ≤ K) (hK2 : K ≤ 4096) (bot : Nat) (hb : bot ≤ H) : ∀ (k y fuel : Nat) (a : Int32), y + k = bot → k < fuel → PL_X9_isQuiet_j_1 (nI x) (nI bot) (nI W) K marks fuel a (nI y) ∧ ((L_X9_isQuiet_j_1 (nI x) (nI bot) (nI W) marks fuel a (nI y)).1 &&& (10367 : Int32) = (0 : Int32) ↔ a &&& (10367 : Int32) = (0 : Int32) ∧ ∀ r, r < k → qt cz G x (y + r) = true) := by
  have hwh := wh_le hW hH
  intro k
  induction k with
  | zero =>
    intro y fuel a h1 h2
    obtain ⟨n, rfl⟩ : ∃ n, fuel = n + 1 := ⟨fuel - 1, by omega⟩
    have q : nI bot ≤ nI y := nI_le (by omega) (by omega)
    rw [PL_X9_isQuiet_j_1, L_X9_isQuiet_j_1, if_pos q]
    exact ⟨fun z => absurd q z, ⟨fun z => ⟨z, fun r hr => by omega⟩, fun z => z.1⟩⟩
  | succ k ih =>
    intro y fuel a h1 h2
    obtain ⟨n, rfl⟩ : ∃ n, fuel = n + 1 := ⟨fuel - 1, by omega⟩
    have q : ¬ nI bot ≤ nI y := nI_ge (by omega) (by omega)
    have hp := plc hx (show y < H by omega)
    obtain ⟨t1, t2⟩ := ih (y + 1) n (a ||| marks (y * W + x)) (by omega) (by omega)
    rw [nI_succ] at t1 t2
    rw [PL_X9_isQuiet_j_1, L_X9_isQuiet_j_1, if_neg q, place_ok]
    refine ⟨fun _ r er => ?_, ?_⟩
    · rw [← er, nI_clamp (by omega)]
      exact ⟨vp_in_nI (by omega) (by omega), t1⟩
    · show ((L_X9_isQuiet_j_1 (nI x) (nI bot) (nI W) marks n (a ||| marks (nI (y * W + x)).toNatClampNeg) (nI y + 1)).1 &&& (10367 : Int32) = (0 : Int32) ↔ _)
      rw [nI_clamp (by omega)]
      refine t2.trans ?_
      rw [or_and0, f_qt hf hx (by omega)]
      constructor
      · rintro ⟨⟨z1, z2⟩, z3⟩
        refine ⟨z1, fun r hr => ?_⟩
        rcases Nat.eq_zero_or_pos r with h0 | h0
        · subst h0; exact z2
        · have := z3 (r - 1) (by omega)
          rw [show y + 1 + (r - 1) = y + r by omega] at this
          exact this
      · rintro ⟨z1, z2⟩
        exact ⟨⟨z1, z2 0 (by omega)⟩, fun r hr => by have := z2 (r + 1) (by omega); rw [show y + (r + 1) = y + 1 + r by omega] at this; exact this⟩
theorem c_quiet (hf : Fld W H cz p G mags marks known below latest early again) {K x top bot : Nat} (hx : x < W) (hW : W ≤ 64) (hH : H ≤ 64) (hK : W * H ≤ K) (hK2 : K ≤ 4096) (ht : top < H) (hb : bot = min (top + 4) H) : P_X9_isQuiet (nI x) (nI top) (nI bot) (nI W) K marks ∧ F_X9_isQuiet (nI x) (nI top) (nI bot) (nI W) marks = bI (quiet cz G H x top) := by
  have hfu := fu_ge
  obtain ⟨t1, t2⟩ := quiet_loop hf hx hW hH hK hK2 bot (by omega) (bot - top) top fu 0 (by omega) (by omega)
  refine ⟨t1, ?_⟩
  have z0 : (0 : Int32) &&& (10367 : Int32) = (0 : Int32) := by decide
  unfold F_X9_isQuiet quiet
  rw [pk_sub (show top ≤ bot by omega)]
  by_cases c : top + 4 ≤ H
  · have e1 : bot - top = 4 := by omega
    have e2 : nI (bot - top) = (4 : Int32) := by rw [e1]; rfl
    rw [if_pos e2, decide_eq_true c]
    rw [e1] at t2
    by_cases d : ∀ r, r < 4 → qt cz G x (top + r) = true
    · rw [if_pos (t2.mpr ⟨z0, d⟩)]
      have d0 := d 0 (by omega)
      have d1 := d 1 (by omega)
      have d2 := d 2 (by omega)
      have d3 := d 3 (by omega)
      rw [Nat.add_zero] at d0
      rw [d0, d1, d2, d3]; rfl
    · rw [if_neg (fun z => d (t2.mp z).2)]
      have : (qt cz G x top && qt cz G x (top + 1) && qt cz G x (top + 2) && qt cz G x (top + 3)) = false := by
        cases hq : (qt cz G x top && qt cz G x (top + 1) && qt cz G x (top + 2) && qt cz G x (top + 3)) with
        | false => rfl
        | true =>
          exfalso
          apply d
          simp only [Bool.and_eq_true] at hq
          intro r hr
          rcases (show r = 0 ∨ r = 1 ∨ r = 2 ∨ r = 3 by omega) with h | h | h | h <;> subst h
          · exact hq.1.1.1
          · exact hq.1.1.2
          · exact hq.1.2
          · exact hq.2
      rw [this]; rfl
  · have e2 : ¬ nI (bot - top) = (4 : Int32) := fun z => by have := (nI_eq (b := 4) (by omega) (by omega)).mp z; omega
    rw [if_neg e2, decide_eq_false c]; rfl
end
section
variable {W H p : Nat} {G : GF} {sty : Int32} {mags marks known below latest early again : Nat → Int32}
theorem m_qt (hf : Fld W H (czOf sty) p G mags marks known below latest early again) (hW : W ≤ 64) (hH : H ≤ 64) {x y band : Nat} (hx : x < W) (hy : y < H) (hb : band < 4) : vp_in (nI y * nI W + nI x) 4096 ∧ PJ_X11_isQuiet_j_12 (nI x) (nI W) (nI H) sty (nI p) 4096 known 4096 below 4096 early (nI y) ∧ J_X11_isQuiet_j_12 (nI x) (nI W) (nI H) (nI band) sty (nI p) known below early (nI y) = bI (qt (czOf sty) G x y) := by
  have hp := plc hx hy
  have hwh := wh_le hW hH
  have hmpl : nI y * nI W + nI x = nI (y * W + x) := place_ok x y W
  have hin : vp_in (nI y * nI W + nI x) 4096 := by rw [hmpl]; exact vp_in_nI (by omega) (by omega)
  obtain ⟨z1, z2⟩ := x11_zero hf hW hH hx hy hb
  obtain ⟨-, z4, z5⟩ := zc_ok hb (hC_le G x y) (vC_le (czOf sty) G x y) (dC_le (czOf sty) G x y)
  have tk := f_knw hf hx hy
  have te := hf.ea x y hx hy
  refine ⟨hin, fun _ => ⟨hin, fun _ => z1⟩, ?_⟩
  unfold J_X11_isQuiet_j_12 qt
  rw [hmpl, nI_clamp (by omega)]
  cases hs : G.sg x y with
  | true =>
    have t4 : ¬ known (y * W + x) = (0 : Int32) := fun z => by rw [tk.mp z] at hs; cases hs
    rw [if_neg t4]; rfl
  | false =>
    rw [if_pos (tk.mpr hs)]
    cases hsn : G.sn x y with
    | true => rw [if_pos (te.mpr hsn)]; rfl
    | false =>
      rw [if_neg (fun z => by rw [te.mp z] at hsn; cases hsn), z2]
      by_cases q : hC G x y + 4 * vC (czOf sty) G x y + 16 * dC (czOf sty) G x y = 0
      · rw [z5.mpr q, decide_eq_true q]; rfl
      · have : ¬ nI (zcN band (hC G x y) (vC (czOf sty) G x y) (dC (czOf sty) G x y)) = (0 : Int32) := nI_ne0 (by have : zcN band (hC G x y) (vC (czOf sty) G x y) (dC (czOf sty) G x y) ≠ 0 := fun z => q (z5.mp z); omega) (by omega)
        rw [decide_eq_false q]
        simp only [this, if_false]
        rfl
theorem mq_loop (hf : Fld W H (czOf sty) p G mags marks known below latest early again) (hW : W ≤ 64) (hH : H ≤ 64) {x band top : Nat} (hx : x < W) (hb : band < 4) (ht : top + 4 ≤ H) : ∀ (k y fuel : Nat) (a : Bool), y + k = top + 4 → top ≤ y → k < fuel → PL_X11_isQuiet_j_3 (nI x) (nI top) (nI W) (nI H) (nI band) sty (nI p) 4096 known 4096 below 4096 early fuel (bI a) (nI y) ∧ ∃ b : Bool, (L_X11_isQuiet_j_3 (nI x) (nI top) (nI W) (nI H) (nI band) sty (nI p) known below early fuel (bI a) (nI y)).1 = bI b ∧ (b = true ↔ a = true ∧ ∀ r, r < k → qt (czOf sty) G x (y + r) = true) := by
  have e4 : nI top + (4 : Int32) = nI (top + 4) := nI_add top 4
  intro k
  induction k with
  | zero =>
    intro y fuel a h1 h2 h3
    obtain ⟨n, rfl⟩ : ∃ n, fuel = n + 1 := ⟨fuel - 1, by omega⟩
    have q : nI (top + 4) ≤ nI y := nI_le (by omega) (by omega)
    rw [PL_X11_isQuiet_j_3, L_X11_isQuiet_j_3, e4, if_pos q]
    exact ⟨fun z => absurd q z, a, rfl, ⟨fun z => ⟨z, fun r hr => by omega⟩, fun z => z.1⟩⟩
  | succ k ih =>
    intro y fuel a h1 h2 h3
    obtain ⟨n, rfl⟩ : ∃ n, fuel = n + 1 := ⟨fuel - 1, by omega⟩
    have q : ¬ nI (top + 4) ≤ nI y := nI_ge (by omega) (by omega)
    obtain ⟨m1, m2, m3⟩ := m_qt hf hW hH (y := y) hx (by omega) hb
    obtain ⟨t1, b, t2, t3⟩ := ih (y + 1) n (qt (czOf sty) G x y) (by omega) (by omega) (by omega)
    rw [nI_succ] at t1 t2
    rw [PL_X11_isQuiet_j_3, L_X11_isQuiet_j_3, e4, if_neg q, m3]
    cases a with
    | false =>
      rw [show bI false = 0 by rfl, if_pos rfl]
      exact ⟨fun _ z => absurd rfl z, false, rfl, ⟨fun z => absurd z (by decide), fun z => absurd z.1 (by decide)⟩⟩
    | true =>
      rw [show bI true = 1 by rfl, if_neg (by decide)]
      refine ⟨fun _ _ => ⟨m1, m2, fun j ej => by rw [← ej]; exact t1⟩, b, t2, t3.trans ?_⟩
      constructor
      · rintro ⟨z1, z2⟩
        refine ⟨rfl, fun r hr => ?_⟩
        rcases Nat.eq_zero_or_pos r with h0 | h0
        · subst h0; exact z1
        · have := z2 (r - 1) (by omega)
          rw [show y + 1 + (r - 1) = y + r by omega] at this
          exact this
      · rintro ⟨-, z2⟩
        exact ⟨z2 0 (by omega), fun r hr => by have := z2 (r + 1) (by omega); rw [show y + (r + 1) = y + 1 + r by omega] at this; exact this⟩
theorem m_quiet (hf : Fld W H (czOf sty) p G mags marks known below latest early again) (hW : W ≤ 64) (hH : H ≤ 64) {x band top : Nat} (hx : x < W) (hb : band < 4) (ht : top < H) : P_X11_isQuiet (nI x) (nI top) (nI W) (nI H) (nI band) sty (nI p) 4096 known 4096 below 4096 early ∧ F_X11_isQuiet (nI x) (nI top) (nI W) (nI H) (nI band) sty (nI p) known below early = bI (quiet (czOf sty) G H x top) := by
  have hfu := fu_ge
  have e4 : nI top + (4 : Int32) = nI (top + 4) := nI_add top 4
  have vzb : ∀ b : Bool, vz (bI b) := fun b => by cases b; exact Or.inl rfl; exact Or.inr rfl
  by_cases c : top + 4 ≤ H
  · have hj2 : J_X11_isQuiet_j_2 (nI top) (nI H) = 1 := by unfold J_X11_isQuiet_j_2; rw [e4, if_neg (nI_nlt c (by omega))]
    obtain ⟨t1, b, t2, t3⟩ := mq_loop hf hW hH hx hb c 4 top fu true (by omega) (by omega) (by omega)
    rw [show bI true = 1 by rfl] at t1 t2
    have hbq : b = quiet (czOf sty) G H x top := by
      unfold quiet
      rw [decide_eq_true c, Bool.true_and]
      cases b with
      | true =>
        have := (t3.mp rfl).2
        have d0 := this 0 (by omega)
        have d1 := this 1 (by omega)
        have d2 := this 2 (by omega)
        have d3 := this 3 (by omega)
        rw [Nat.add_zero] at d0
        rw [d0, d1, d2, d3]; rfl
      | false =>
        cases hq : (qt (czOf sty) G x top && qt (czOf sty) G x (top + 1) && qt (czOf sty) G x (top + 2) && qt (czOf sty) G x (top + 3)) with
        | false => rfl
        | true =>
          exfalso
          simp only [Bool.and_eq_true] at hq
          have : false = true := t3.mpr ⟨rfl, fun r hr => by
            rcases (show r = 0 ∨ r = 1 ∨ r = 2 ∨ r = 3 by omega) with h | h | h | h <;> subst h
            · exact hq.1.1.1
            · exact hq.1.1.2
            · exact hq.1.2
            · exact hq.2⟩
          cases this
    refine ⟨fun j ej => ?_, ?_⟩
    · rw [← ej, hj2]
      exact ⟨t1, fun j3 e3 => by rw [← e3, t2]; exact vzb b⟩
    · unfold F_X11_isQuiet
      rw [hj2, ← hbq]
      exact t2
  · have hj2 : J_X11_isQuiet_j_2 (nI top) (nI H) = 0 := by unfold J_X11_isQuiet_j_2; rw [e4, if_pos (nI_lt (by omega) (by omega))]
    have hL : ∃ n, fu = n + 1 := ⟨fu - 1, by omega⟩
    obtain ⟨n, hn⟩ := hL
    have q : ¬ nI (top + 4) ≤ nI top := nI_ge (by omega) (by omega)
    have hqf : quiet (czOf sty) G H x top = false := by unfold quiet; rw [decide_eq_false c]; rfl
    refine ⟨fun j ej => ?_, ?_⟩
    · rw [← ej, hj2, hn, PL_X11_isQuiet_j_3, L_X11_isQuiet_j_3, e4]
      refine ⟨fun _ z => absurd rfl z, fun j3 e3 => ?_⟩
      rw [if_neg q, if_pos rfl] at e3
      rw [← e3]; exact Or.inl rfl
    · show (L_X11_isQuiet_j_3 (nI x) (nI top) (nI W) (nI H) (nI band) sty (nI p) known below early fu (J_X11_isQuiet_j_2 (nI top) (nI H)) (nI top)).1 = _
      rw [hj2, hn, L_X11_isQuiet_j_3, e4, if_neg q, if_pos rfl, hqf]
      rfl
end
